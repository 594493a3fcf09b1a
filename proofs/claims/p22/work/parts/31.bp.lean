-- WHAT CHANGES THE PRESS
theorem aAt.src {g : GG} {w so cap0 lo hi : Nat} {cnt cnt1 : Nat → Nat} {f f1 : Nat → Nat → Nat} {D D1 : DT} {y : YS} {H H1 : Heap} (h : aAt g w so cap0 cnt f D lo hi y H) (hf : fr (sF so) H H1) (hs1 : sAt g so cap0 cnt1 f1 D1 lo hi H1) : aAt g w so cap0 cnt1 f1 D1 lo hi y H1 := by
  obtain ⟨hA', hP, ⟨Qf, hQ⟩, ⟨x, fn, ml, hE⟩, hI, ⟨N, hN⟩, hs, hc, h1, h2, h3⟩ := h
  exact ⟨hA'.fr hf (fun z => by have z : so ≤ w ∧ w < so + 12 := z; omega), hP.fr hf (fun z => by have z : so ≤ w + 129 ∧ w + 129 < so + 12 := z; omega), ⟨Qf, hQ.fr hf (fun z => by have z : so ≤ w + 130 ∧ w + 130 < so + 12 := z; omega)⟩, ⟨x, fn, ml, hE.fr hf (fun z => by have z : so ≤ w + 124 ∧ w + 124 < so + 12 := z; omega)⟩, hI.frame hf (fun q z => by have z : so ≤ q ∧ q < so + 12 := z; omega), ⟨N, hN.frame hf (fun q z => by have z : so ≤ q ∧ q < so + 12 := z; omega)⟩, hs1, hc, h1, h2, h3⟩
theorem aAt.s {g : GG} {w so cap0 lo hi : Nat} {cnt : Nat → Nat} {f : Nat → Nat → Nat} {D : DT} {y : YS} {H : Heap} (h : aAt g w so cap0 cnt f D lo hi y H) : sAt g so cap0 cnt f D lo hi H := by
  obtain ⟨-, -, -, -, -, -, hs, -⟩ := h
  exact hs
theorem bAt.lt {g : GG} {B : Nat} {cnt : Nat → Nat} {f : Nat → Nat → Nat} {D : DT} {y : YS} {H : Heap} (h : bAt g B cnt f D y H) : B + 287 ≤ H.size := by
  obtain ⟨-, -, -, cnt2, f2, D2, y2, h⟩ := h
  have := h.lt
  omega
theorem full_no {cnt : Nat → Nat} {r : Nat} (hr : r < 5) (hc : cnt r < capF 40 r) : ¬ (rIn (nI r) ∧ nI (capF 40 (nI r).toNatClampNeg) ≤ nI (cnt (nI r).toNatClampNeg)) := fun z => by
  have h := z.2
  have hk : capF 40 r ≤ 40 := by show (if r = 0 then 40 else 10) ≤ 40; split <;> omega
  rw [nI_clamp (by omega)] at h
  have := (nI_leI (by omega) (by omega)).mp h
  omega
set_option maxRecDepth 100000 in
set_option maxHeartbeats 4000000 in
theorem M_BP_lineThere (l : Launch) (g : GG) {B : Nat} {cnt : Nat → Nat} {f : Nat → Nat → Nat} {D : DT} {y : YS} {H0 : Heap} (hb : bAt g B cnt f D y H0) {r t : Nat} (hr : r < 5) (ht : t < cnt r) : MP l y_BP_lineThere c_BP_lineThere 4 (some (.object "BranchPress$Line")) 4 g H0 [.ref B, .int (nI r), .int (nI t)] (some (.ref (f r t))) := by
  refine MM.of (by decide +kernel) (Nat.le_of_ble_eq_true rfl) ?_
  intro p e s m below meth cd X hH ls hl
  have X : CX g p s m _ meth cd c_BP_lineThere 4 (some (.object "BranchPress$Line")) R_BP _ := X
  have hl : lv_has ls 4 [(0, .ref B), (1, .int (nI r)), (2, .int (nI t))] := hl
  have hS : va_S (AA (noA) H0) H0 H0 [] := va_S.rf
  have hb0 := hb
  have hq0 := hb.lt
  obtain ⟨hB, hy, hqk, cnt2, f2, D2, y2, hO⟩ := hb
  have hK : lnD g (f r t) (D r t) H0 := (hy.s.2.2.2.1 r t hr ht).1
  have hKo := (hy.s.2.2.2.1 r t hr ht).2
  have hc60 := hy.s.cap r hr
  refine lv_aload_n X.x X.b d_BP_lineThere_0 rfl (lv_at hl 0 rfl) ?_
  refine m_get (v := .ref (B + 1)) X ok_BP hB 0 (by decide) k_BP_14 rfl d_BP_lineThere_1 ?_
  refine lv_iload_n X.x X.b d_BP_lineThere_4 rfl (lv_at hl 1 rfl) ?_
  refine lv_iload_n X.x X.b d_BP_lineThere_5 rfl (lv_at hl 2 rfl) ?_
  refine m_callP X hS (show MP l y_Source_lineAt c_Source_lineAt 3 (some (.object "BranchPress$Line")) 3 g _ [.ref (B + 1), .int (nI r), .int (nI t)] (some (.ref (f r t))) from (by have z := M_Source_lineAt l g hy.s (nI r) (nI t); rw [lnO_in hr ht hc60] at z; exact z)) v_BP_243 hy.s.1 rfl rfl rfl (Nat.le_of_ble_eq_true rfl) hl.1 d_BP_lineThere_6 (by omega) (by decide) ⟨Nat.zero_le _, Nat.zero_le _⟩ (fun locs hS => ?_)
  refine lv_astore_n (lv' := [(3, .ref (f r t)), (0, .ref B), (1, .int (nI r)), (2, .int (nI t))]) X.x X.b d_BP_lineThere_9 rfl hl (by decide) rfl (fun ls hl => ?_)
  refine lv_aload_n X.x X.b d_BP_lineThere_10 rfl (lv_at hl 0 rfl) ?_
  refine lv_ifnonnull (tgt := 24) X.x X.b d_BP_lineThere_11 (by decide) ?_
  refine lv_aload_n X.x X.b d_BP_lineThere_24 rfl (lv_at hl 0 rfl) ?_
  exact m_aret X hS (Nat.zero_le _) (Nat.zero_le _) (Or.inr ⟨_, rfl⟩) d_BP_lineThere_25 rfl rfl
set_option maxRecDepth 100000 in
set_option maxHeartbeats 4000000 in
theorem M_BP_add (l : Launch) (g : GG) {B q0 : Nat} {cnt : Nat → Nat} {f : Nat → Nat → Nat} {D : DT} {y : YS} {H0 : Heap} (hb : bAt g B cnt f D y H0) {r : Nat} (hr : r < 5) (hcap : cnt r < capF 40 r) {k x y_ n v : Int32} (hln : lnOk k x y_ n v) (hvb : v = 0 ∨ v = 1) (hz : H0.size = q0) : MM l y_BP_add c_BP_add 8 (some .int) 22 1 5 g H0 [.ref B, .int (nI r), .int k, .int x, .int y_, .int n, .int v] (fun q => B ≤ q ∧ q < B + 287) (some (.int (nI (cnt r)))) (fun H1 => bAt g B (va_up cnt r (cnt r + 1)) (va_up f r (insF (f r) (cnt r) q0)) (va_up D r (insF (D r) (cnt r) (dl k x y_ n v))) (nowF (va_up D r (insF (D r) (cnt r) (dl k x y_ n v))) (va_up cnt r (cnt r + 1)) y) H1) := by
  refine MM.of (by decide +kernel) (Nat.le_of_ble_eq_true rfl) ?_
  intro p e s m below meth cd X hH ls hl
  have X : CX g p s m _ meth cd c_BP_add 8 (some .int) R_BP _ := X
  have hl : lv_has ls 8 [(0, .ref B), (1, .int (nI r)), (2, .int k), (3, .int x), (4, .int y_), (5, .int n), (6, .int v)] := hl
  have hS : va_S (AA (fun q => B ≤ q ∧ q < B + 287) H0) H0 H0 [] := va_S.rf
  have hb0 := hb
  have hq0 := hb.lt
  obtain ⟨hB, hy, hqk, cnt2, f2, D2, y2, hO⟩ := hb
  have hq0' : B + 287 ≤ q0 := by omega
  refine lv_aload_n X.x X.b d_BP_add_0 rfl (lv_at hl 0 rfl) ?_
  refine m_get (v := .ref (B + 1)) X ok_BP hB 0 (by decide) k_BP_14 rfl d_BP_add_1 ?_
  refine lv_iload_n X.x X.b d_BP_add_4 rfl (lv_at hl 1 rfl) ?_
  refine m_callP X hS (M_Source_hasRow l g hy.s (nI r)) v_BP_36 hy.s.1 rfl rfl rfl (Nat.le_of_ble_eq_true rfl) hl.1 d_BP_add_5 (by omega) (by decide) ⟨Nat.zero_le _, Nat.zero_le _⟩ (fun locs hS => ?_)
  refine lv_if_ne (tgt := 21) X.x X.b d_BP_add_8 (by decide) (fun c1 => ?_) (fun c1 => ?_)
  · skip
    have c1 := b2i_n0 c1
    refine lv_iload_n X.x X.b d_BP_add_21 rfl (lv_at hl 2 rfl) ?_
    refine lv_iload_n X.x X.b d_BP_add_22 rfl (lv_at hl 3 rfl) ?_
    refine lv_iload X.x X.b d_BP_add_23 (lv_at hl 4 rfl) ?_
    refine lv_iload X.x X.b d_BP_add_25 (lv_at hl 5 rfl) ?_
    refine lv_iload X.x X.b d_BP_add_27 (lv_at hl 6 rfl) ?_
    refine m_callSP X hS (M_Line_isAllowed l g k x y_ n v) s_BP_47 rfl rfl (Nat.le_of_ble_eq_true rfl) hl.1 d_BP_add_29 (by omega) (by decide) ⟨Nat.zero_le _, Nat.zero_le _⟩ (fun locs hS => ?_)
    refine lv_if_ne (tgt := 45) X.x X.b d_BP_add_32 (by decide) (fun c2 => ?_) (fun c2 => ?_)
    · skip
      have c2 := b2i_n0 c2
      refine lv_aload_n X.x X.b d_BP_add_45 rfl (lv_at hl 0 rfl) ?_
      refine m_get (v := .ref (B + 1)) X ok_BP hB 0 (by decide) k_BP_14 rfl d_BP_add_46 ?_
      refine lv_iload_n X.x X.b d_BP_add_49 rfl (lv_at hl 1 rfl) ?_
      refine m_callP X hS (M_Source_isFull l g hy.s (nI r)) v_BP_58 hy.s.1 rfl rfl rfl (Nat.le_of_ble_eq_true rfl) hl.1 d_BP_add_50 (by omega) (by decide) ⟨Nat.zero_le _, Nat.zero_le _⟩ (fun locs hS => ?_)
      refine lv_if_eq (tgt := 66) X.x X.b d_BP_add_53 (by decide) (fun c3 => ?_) (fun c3 => ?_)
      · skip
        have c3 := b2i_0.mp c3
        refine lv_aload_n X.x X.b d_BP_add_66 rfl (lv_at hl 0 rfl) ?_
        refine m_get (v := .ref (B + 1)) X ok_BP hB 0 (by decide) k_BP_14 rfl d_BP_add_67 ?_
        refine lv_iload_n X.x X.b d_BP_add_70 rfl (lv_at hl 1 rfl) ?_
        refine m_callP X hS (show MP l y_Source_countOf c_Source_countOf 2 (some .int) 1 g _ [.ref (B + 1), .int (nI r)] (some (.int (nI (cnt r)))) from (by have z := M_Source_countOf l g hy.s (nI r); rw [ctF_in hr] at z; exact z)) v_BP_66 hy.s.1 rfl rfl rfl (Nat.le_of_ble_eq_true rfl) hl.1 d_BP_add_71 (by omega) (by decide) ⟨Nat.zero_le _, Nat.zero_le _⟩ (fun locs hS => ?_)
        refine lv_istore (lv' := [(7, .int (nI (cnt r))), (0, .ref B), (1, .int (nI r)), (2, .int k), (3, .int x), (4, .int y_), (5, .int n), (6, .int v)]) X.x X.b d_BP_add_74 hl (by decide) rfl (fun ls hl => ?_)
        refine lv_aload_n X.x X.b d_BP_add_76 rfl (lv_at hl 1 rfl) ?_
        refine m_get (v := .ref (B + 1)) X ok_BP hB 0 (by decide) k_BP_14 rfl d_BP_add_77 ?_
        refine lv_iload_n X.x X.b d_BP_add_80 rfl (lv_at hl 2 rfl) ?_
        refine lv_iload X.x X.b d_BP_add_81 (lv_at hl 0 rfl) ?_
        refine m_newo (fs := [.int 0, .int 0, .int 0, .int 0, .int 0]) X ok_Line hS hz (LW_t 153 (by decide +kernel) (by decide +kernel)) (LW_t 154 (by decide +kernel) (by decide +kernel)) ini_Line (fun j hj => by rcases (show j = 0 ∨ j = 1 ∨ j = 2 ∨ j = 3 ∨ j = 4 by omega) with rfl | rfl | rfl | rfl | rfl <;> rfl) (by omega) (by omega) d_BP_add_83 (fun H hnL hgr hS hz2 => ?_)
        have hfr1 := fr.of_grow (A := noA) hgr
        refine lv_dup X.x X.b d_BP_add_86 rfl ?_
        refine lv_iload_n X.x X.b d_BP_add_87 rfl (lv_at hl 3 rfl) ?_
        refine lv_iload_n X.x X.b d_BP_add_88 rfl (lv_at hl 4 rfl) ?_
        refine lv_iload X.x X.b d_BP_add_89 (lv_at hl 5 rfl) ?_
        refine lv_iload X.x X.b d_BP_add_91 (lv_at hl 6 rfl) ?_
        refine lv_iload X.x X.b d_BP_add_93 (lv_at hl 7 rfl) ?_
        refine m_callI X hS (M_Line_init l g hnL k x y_ n v hvb hz2) i_BP_70 rfl rfl (Nat.le_of_ble_eq_true rfl) hl.1 d_BP_add_95 (by omega) (by decide) ⟨by omega, by omega⟩ (fun q z => z.elim (fun z => by have z : q = q0 := z; exact Or.inr (by omega)) (fun z => Or.inr (Nat.le_trans hS.1 z))) (fun H locs hq hfr2 hS => ?_)
        obtain ⟨hL, hz3⟩ := hq
        have hfr : fr noA H0 H := ⟨by omega, fun q hq _ => (hfr2.2 q (by omega) (fun z => by have z : q = q0 := z; omega)).trans (hfr1.2 q hq (fun z => z))⟩
        have hL : lnD g q0 (dl k x y_ n v) H := hL
        have hB := hB.fr hfr (fun z => z.elim)
        have hy := hy.frame hfr (fun q z => z.elim)
        have hO := hO.frame hfr (fun q z => z.elim)
        have hR := M_Source_insert l g hy.s hr hL (Or.inr hq0') (Nat.le_refl (cnt r)) hcap
        refine m_callM X hS hR v_BP_73 hy.s.1 rfl rfl rfl (Nat.le_of_ble_eq_true rfl) hl.1 d_BP_add_98 (by omega) (by decide) ⟨by omega, by omega⟩ (fun q z => by have z : B + 1 ≤ q ∧ q < B + 1 + 12 := z; exact ⟨by omega, by omega⟩) (fun H locs hs1 hfr hS => ?_)
        have hy := hy.src hfr hs1
        have hB := hB.fr hfr (fun z => by have z : B + 1 ≤ B ∧ B < B + 1 + 12 := z; omega)
        have hO := hO.frame hfr (fun q z => by have z : B + 1 ≤ q ∧ q < B + 1 + 12 := z; omega)
        refine lv_aload_n X.x X.b d_BP_add_101 rfl (lv_at hl 1 rfl) ?_
        have hR := M_BP_assembleNow l g ⟨hB, hy, hqk, _, _, _, _, hO⟩
        refine m_callM X hS hR v_BP_33 hB rfl rfl rfl (Nat.le_of_ble_eq_true rfl) hl.1 d_BP_add_102 (by omega) (by decide) ⟨by omega, by omega⟩ (fun q z => by have z : B + 13 ≤ q ∧ q < B + 13 + 131 := z; exact ⟨by omega, by omega⟩) (fun H locs hb hfr hS => ?_)
        have hb9 := hb
        obtain ⟨hB, hy, hqk, -⟩ := hb9
        refine lv_iload X.x X.b d_BP_add_105 (lv_at hl 0 rfl) ?_
        exact m_iret X hS (by omega) (by omega) d_BP_add_107 rfl hb
      · exact absurd (b2i_n0 c3) (full_no hr hcap)
    · exact absurd hln (b2i_0.mp c2)
  · exact absurd (rIn_nI hr) (b2i_0.mp c1)
set_option maxRecDepth 100000 in
set_option maxHeartbeats 4000000 in
theorem M_BP_put (l : Launch) (g : GG) {B q0 : Nat} {cnt : Nat → Nat} {f : Nat → Nat → Nat} {D : DT} {y : YS} {H0 : Heap} (hb : bAt g B cnt f D y H0) {r t : Nat} (hr : r < 5) (ht : t < cnt r) {k x y_ n v : Int32} (hln : lnOk k x y_ n v) (hvb : v = 0 ∨ v = 1) (hz : H0.size = q0) : MM l y_BP_put c_BP_put 9 (some .int) 22 1 5 g H0 [.ref B, .int (nI r), .int (nI t), .int k, .int x, .int y_, .int n, .int v] (fun q => B ≤ q ∧ q < B + 287) (some (.int (D r t 0))) (fun H1 => bAt g B cnt (va_up f r (va_up (f r) t q0)) (va_up D r (va_up (D r) t (dl k x y_ n v))) (nowF (va_up D r (va_up (D r) t (dl k x y_ n v))) cnt y) H1) := by
  refine MM.of (by decide +kernel) (Nat.le_of_ble_eq_true rfl) ?_
  intro p e s m below meth cd X hH ls hl
  have X : CX g p s m _ meth cd c_BP_put 9 (some .int) R_BP _ := X
  have hl : lv_has ls 9 [(0, .ref B), (1, .int (nI r)), (2, .int (nI t)), (3, .int k), (4, .int x), (5, .int y_), (6, .int n), (7, .int v)] := hl
  have hS : va_S (AA (fun q => B ≤ q ∧ q < B + 287) H0) H0 H0 [] := va_S.rf
  have hb0 := hb
  have hq0 := hb.lt
  obtain ⟨hB, hy, hqk, cnt2, f2, D2, y2, hO⟩ := hb
  have hK : lnD g (f r t) (D r t) H0 := (hy.s.2.2.2.1 r t hr ht).1
  have hKo := (hy.s.2.2.2.1 r t hr ht).2
  have hc60 := hy.s.cap r hr
  have hq0' : B + 287 ≤ q0 := by omega
  refine lv_aload_n X.x X.b d_BP_put_0 rfl (lv_at hl 0 rfl) ?_
  refine lv_iload_n X.x X.b d_BP_put_1 rfl (lv_at hl 1 rfl) ?_
  refine lv_iload_n X.x X.b d_BP_put_2 rfl (lv_at hl 2 rfl) ?_
  have hR := M_BP_lineThere (r := r) (t := t) l g hb0 hr ht
  refine m_callP X hS hR v_BP_77 hB rfl rfl rfl (Nat.le_of_ble_eq_true rfl) hl.1 d_BP_put_3 (by omega) (by decide) ⟨Nat.zero_le _, Nat.zero_le _⟩ (fun locs hS => ?_)
  refine lv_astore (lv' := [(8, .ref (f r t)), (0, .ref B), (1, .int (nI r)), (2, .int (nI t)), (3, .int k), (4, .int x), (5, .int y_), (6, .int n), (7, .int v)]) X.x X.b d_BP_put_6 hl (by decide) rfl (fun ls hl => ?_)
  refine lv_iload_n X.x X.b d_BP_put_8 rfl (lv_at hl 4 rfl) ?_
  refine lv_iload X.x X.b d_BP_put_9 (lv_at hl 5 rfl) ?_
  refine lv_iload X.x X.b d_BP_put_11 (lv_at hl 6 rfl) ?_
  refine lv_iload X.x X.b d_BP_put_13 (lv_at hl 7 rfl) ?_
  refine lv_iload X.x X.b d_BP_put_15 (lv_at hl 8 rfl) ?_
  refine m_callSP X hS (M_Line_isAllowed l g k x y_ n v) s_BP_47 rfl rfl (Nat.le_of_ble_eq_true rfl) hl.1 d_BP_put_17 (by omega) (by decide) ⟨Nat.zero_le _, Nat.zero_le _⟩ (fun locs hS => ?_)
  refine lv_if_ne (tgt := 33) X.x X.b d_BP_put_20 (by decide) (fun c1 => ?_) (fun c1 => ?_)
  · skip
    have c1 := b2i_n0 c1
    refine lv_aload_n X.x X.b d_BP_put_33 rfl (lv_at hl 1 rfl) ?_
    refine m_get (v := .ref (B + 1)) X ok_BP hB 0 (by decide) k_BP_14 rfl d_BP_put_34 ?_
    refine lv_iload_n X.x X.b d_BP_put_37 rfl (lv_at hl 2 rfl) ?_
    refine lv_iload_n X.x X.b d_BP_put_38 rfl (lv_at hl 3 rfl) ?_
    refine m_newo (fs := [.int 0, .int 0, .int 0, .int 0, .int 0]) X ok_Line hS hz (LW_t 153 (by decide +kernel) (by decide +kernel)) (LW_t 154 (by decide +kernel) (by decide +kernel)) ini_Line (fun j hj => by rcases (show j = 0 ∨ j = 1 ∨ j = 2 ∨ j = 3 ∨ j = 4 by omega) with rfl | rfl | rfl | rfl | rfl <;> rfl) (by omega) (by omega) d_BP_put_39 (fun H hnL hgr hS hz2 => ?_)
    have hfr1 := fr.of_grow (A := noA) hgr
    refine lv_dup X.x X.b d_BP_put_42 rfl ?_
    refine lv_iload_n X.x X.b d_BP_put_43 rfl (lv_at hl 4 rfl) ?_
    refine lv_iload X.x X.b d_BP_put_44 (lv_at hl 5 rfl) ?_
    refine lv_iload X.x X.b d_BP_put_46 (lv_at hl 6 rfl) ?_
    refine lv_iload X.x X.b d_BP_put_48 (lv_at hl 7 rfl) ?_
    refine lv_iload X.x X.b d_BP_put_50 (lv_at hl 8 rfl) ?_
    refine m_callI X hS (M_Line_init l g hnL k x y_ n v hvb hz2) i_BP_70 rfl rfl (Nat.le_of_ble_eq_true rfl) hl.1 d_BP_put_52 (by omega) (by decide) ⟨by omega, by omega⟩ (fun q z => z.elim (fun z => by have z : q = q0 := z; exact Or.inr (by omega)) (fun z => Or.inr (Nat.le_trans hS.1 z))) (fun H locs hq hfr2 hS => ?_)
    obtain ⟨hL, hz3⟩ := hq
    have hfr : fr noA H0 H := ⟨by omega, fun q hq _ => (hfr2.2 q (by omega) (fun z => by have z : q = q0 := z; omega)).trans (hfr1.2 q hq (fun z => z))⟩
    have hL : lnD g q0 (dl k x y_ n v) H := hL
    have hB := hB.fr hfr (fun z => z.elim)
    have hK := hK.fr hfr (fun z => z.elim)
    have hy := hy.frame hfr (fun q z => z.elim)
    have hO := hO.frame hfr (fun q z => z.elim)
    have hR := M_Source_replace l g hy.s hr hL (Or.inr hq0') ht
    refine m_callM X hS hR v_BP_81 hy.s.1 rfl rfl rfl (Nat.le_of_ble_eq_true rfl) hl.1 d_BP_put_55 (by omega) (by decide) ⟨by omega, by omega⟩ (fun q z => by have z : B + 1 ≤ q ∧ q < B + 1 + 12 := z; exact ⟨by omega, by omega⟩) (fun H locs hs1 hfr hS => ?_)
    have hy := hy.src hfr hs1
    have hB := hB.fr hfr (fun z => by have z : B + 1 ≤ B ∧ B < B + 1 + 12 := z; omega)
    have hK := hK.fr hfr (fun z => by have z : B + 1 ≤ f r t ∧ f r t < B + 1 + 12 := z; omega)
    have hO := hO.frame hfr (fun q z => by have z : B + 1 ≤ q ∧ q < B + 1 + 12 := z; omega)
    refine lv_aload_n X.x X.b d_BP_put_58 rfl (lv_at hl 1 rfl) ?_
    have hR := M_BP_assembleNow l g ⟨hB, hy, hqk, _, _, _, _, hO⟩
    refine m_callM X hS hR v_BP_33 hB rfl rfl rfl (Nat.le_of_ble_eq_true rfl) hl.1 d_BP_put_59 (by omega) (by decide) ⟨by omega, by omega⟩ (fun q z => by have z : B + 13 ≤ q ∧ q < B + 13 + 131 := z; exact ⟨by omega, by omega⟩) (fun H locs hb hfr hS => ?_)
    have hK := hK.fr hfr (fun z => by have z : B + 13 ≤ f r t ∧ f r t < B + 13 + 131 := z; omega)
    have hb9 := hb
    obtain ⟨hB, hy, hqk, -⟩ := hb9
    refine lv_aload X.x X.b d_BP_put_62 (lv_at hl 0 rfl) ?_
    refine m_get (v := .int (D r t 0)) X ok_Line hK 0 (by decide) k_BP_84 rfl d_BP_put_64 ?_
    exact m_iret X hS (by omega) (by omega) d_BP_put_67 rfl hb
  · exact absurd hln (b2i_0.mp c1)
set_option maxRecDepth 100000 in
set_option maxHeartbeats 4000000 in
theorem M_BP_cut (l : Launch) (g : GG) {B : Nat} {cnt : Nat → Nat} {f : Nat → Nat → Nat} {D : DT} {y : YS} {H0 : Heap} (hb : bAt g B cnt f D y H0) {r t : Nat} (hr : r < 5) (ht : t < cnt r) : MM l y_BP_cut c_BP_cut 3 (some .int) 22 0 0 g H0 [.ref B, .int (nI r), .int (nI t)] (fun q => B ≤ q ∧ q < B + 287) (some (.int (nI (cnt r - 1)))) (fun H1 => bAt g B (va_up cnt r (cnt r - 1)) (va_up f r (remF (f r) t)) (va_up D r (remF (D r) t)) (nowF (va_up D r (remF (D r) t)) (va_up cnt r (cnt r - 1)) y) H1) := by
  refine MM.of (by decide +kernel) (Nat.le_of_ble_eq_true rfl) ?_
  intro p e s m below meth cd X hH ls hl
  have X : CX g p s m _ meth cd c_BP_cut 3 (some .int) R_BP _ := X
  have hl : lv_has ls 3 [(0, .ref B), (1, .int (nI r)), (2, .int (nI t))] := hl
  have hS : va_S (AA (fun q => B ≤ q ∧ q < B + 287) H0) H0 H0 [] := va_S.rf
  have hb0 := hb
  have hq0 := hb.lt
  obtain ⟨hB, hy, hqk, cnt2, f2, D2, y2, hO⟩ := hb
  have hc60 := hy.s.cap r hr
  refine lv_aload_n X.x X.b d_BP_cut_0 rfl (lv_at hl 0 rfl) ?_
  refine m_get (v := .ref (B + 1)) X ok_BP hB 0 (by decide) k_BP_14 rfl d_BP_cut_1 ?_
  refine lv_iload_n X.x X.b d_BP_cut_4 rfl (lv_at hl 1 rfl) ?_
  refine lv_iload_n X.x X.b d_BP_cut_5 rfl (lv_at hl 2 rfl) ?_
  refine m_callP X hS (M_Source_hasLine l g hy.s (nI r) (nI t)) v_BP_88 hy.s.1 rfl rfl rfl (Nat.le_of_ble_eq_true rfl) hl.1 d_BP_cut_6 (by omega) (by decide) ⟨Nat.zero_le _, Nat.zero_le _⟩ (fun locs hS => ?_)
  refine lv_if_ne (tgt := 22) X.x X.b d_BP_cut_9 (by decide) (fun c1 => ?_) (fun c1 => ?_)
  · skip
    have c1 := b2i_n0 c1
    refine lv_aload_n X.x X.b d_BP_cut_22 rfl (lv_at hl 0 rfl) ?_
    refine m_get (v := .ref (B + 1)) X ok_BP hB 0 (by decide) k_BP_14 rfl d_BP_cut_23 ?_
    refine lv_iload_n X.x X.b d_BP_cut_26 rfl (lv_at hl 1 rfl) ?_
    refine lv_iload_n X.x X.b d_BP_cut_27 rfl (lv_at hl 2 rfl) ?_
    have hR := M_Source_remove l g hy.s hr ht
    refine m_callM X hS hR v_BP_94 hy.s.1 rfl rfl rfl (Nat.le_of_ble_eq_true rfl) hl.1 d_BP_cut_28 (by omega) (by decide) ⟨by omega, by omega⟩ (fun q z => by have z : B + 1 ≤ q ∧ q < B + 1 + 12 := z; exact ⟨by omega, by omega⟩) (fun H locs hs1 hfr hS => ?_)
    have hy := hy.src hfr hs1
    have hB := hB.fr hfr (fun z => by have z : B + 1 ≤ B ∧ B < B + 1 + 12 := z; omega)
    have hO := hO.frame hfr (fun q z => by have z : B + 1 ≤ q ∧ q < B + 1 + 12 := z; omega)
    refine lv_aload_n X.x X.b d_BP_cut_31 rfl (lv_at hl 0 rfl) ?_
    have hR := M_BP_assembleNow l g ⟨hB, hy, hqk, _, _, _, _, hO⟩
    refine m_callM X hS hR v_BP_33 hB rfl rfl rfl (Nat.le_of_ble_eq_true rfl) hl.1 d_BP_cut_32 (by omega) (by decide) ⟨by omega, by omega⟩ (fun q z => by have z : B + 13 ≤ q ∧ q < B + 13 + 131 := z; exact ⟨by omega, by omega⟩) (fun H locs hb hfr hS => ?_)
    have hb9 := hb
    obtain ⟨hB, hy, hqk, -⟩ := hb9
    refine lv_aload_n X.x X.b d_BP_cut_35 rfl (lv_at hl 0 rfl) ?_
    refine m_get (v := .ref (B + 1)) X ok_BP hB 0 (by decide) k_BP_14 rfl d_BP_cut_36 ?_
    refine lv_iload_n X.x X.b d_BP_cut_39 rfl (lv_at hl 1 rfl) ?_
    refine m_callP X hS (show MP l y_Source_countOf c_Source_countOf 2 (some .int) 1 g _ [.ref (B + 1), .int (nI r)] (some (.int (nI (cnt r - 1)))) from (by have z := M_Source_countOf l g hy.s (nI r); rw [ctF_in hr, va_up_self] at z; exact z)) v_BP_66 hy.s.1 rfl rfl rfl (Nat.le_of_ble_eq_true rfl) hl.1 d_BP_cut_40 (by omega) (by decide) ⟨Nat.zero_le _, Nat.zero_le _⟩ (fun locs hS => ?_)
    exact m_iret X hS (by omega) (by omega) d_BP_cut_43 rfl hb
  · exact absurd (lIn_nI hr ht hc60) (b2i_0.mp c1)
