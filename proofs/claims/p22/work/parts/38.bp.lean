-- LONGBY
def lbC (cnt : Nat → Nat) (i : Nat) : Nat → Nat := va_up cnt 0 (cnt 0 + i)
def lbX {α : Type} (f : Nat → Nat → α) (t : Nat) (v : α) : Nat → Nat → Nat → α
  | 0 => f
  | i + 1 => va_up (lbX f t v i) 0 (insF (lbX f t v i 0) t v)
def lbA (y Y : YS) : Int32 := if Y.2.2.2.1 = 0 then tal Y.1 5 Y.2.1 0 0 - tal y.1 5 y.2.1 0 0 else -1000 - Y.2.2.2.1
theorem lbC_at (cnt : Nat → Nat) (i : Nat) : lbC cnt i 0 = cnt 0 + i := va_up_self _ _ _
theorem lbC_0 (cnt : Nat → Nat) : lbC cnt 0 = cnt := by
  funext z
  unfold lbC
  by_cases e : z = 0
  · subst e; rw [va_up_self]; rfl
  · rw [va_up_ne _ _ e]
theorem lbC_s (cnt : Nat → Nat) (i : Nat) : va_up (lbC cnt i) 0 (lbC cnt i 0 + 1) = lbC cnt (i + 1) := by
  funext z
  rw [lbC_at]
  unfold lbC
  by_cases e : z = 0
  · subst e; rw [va_up_self, va_up_self]; rfl
  · rw [va_up_ne _ _ e, va_up_ne _ _ e, va_up_ne _ _ e]
set_option maxRecDepth 100000 in
set_option maxHeartbeats 4000000 in
theorem M_BP_longBy (l : Launch) (g : GG) {B : Nat} {cnt cnt2 : Nat → Nat} {f f2 : Nat → Nat → Nat} {D D2 : DT} {y y2 : YS} {H0 : Heap} (hb : bQt g B cnt f D y cnt2 f2 D2 y2 H0) {t k : Nat} (ht : t ≤ cnt 0) (hk1 : 1 ≤ k) (hk : k ≤ 20) (hf : y.2.2.2.1 = 0) : MM l y_BP_longBy c_BP_longBy 5 (some .int) 21 1 5 g H0 [.ref B, .int (nI t), .int (nI k)] (fun q => B + 144 ≤ q ∧ q < B + 287) (some (.int (lbA y (asmF (lbX D t (dl 2 (-1) (-1) 0 0) k) (lbC cnt k) y2)))) (fun H1 => ∃ q0, bQt g B cnt f D y (lbC cnt k) (lbX f t q0 k) (lbX D t (dl 2 (-1) (-1) 0 0) k) (asmF (lbX D t (dl 2 (-1) (-1) 0 0) k) (lbC cnt k) y2) H1) := by
  refine MM.of (by decide +kernel) (Nat.le_of_ble_eq_true rfl) ?_
  intro p e s m below meth cd X hH ls hl
  have X : CX g p s m _ meth cd c_BP_longBy 5 (some .int) R_BP _ := X
  have hl : lv_has ls 5 [(0, .ref B), (1, .int (nI t)), (2, .int (nI k))] := hl
  have hS : va_S (AA (fun q => B + 144 ≤ q ∧ q < B + 287) H0) H0 H0 [] := va_S.rf
  have hb0 := bAt.q.mpr ⟨_, _, _, _, hb⟩
  obtain ⟨hB, hy, hqk, hO⟩ := hb
  have h40 : cnt 0 ≤ 40 := (hy.s.2.2.1 0 (by omega)).2
  refine lv_iload_n X.x X.b d_BP_longBy_0 rfl (lv_at hl 1 rfl) ?_
  refine lv_if_lt (tgt := 16) X.x X.b d_BP_longBy_1 (by decide) (fun c1 => ?_) (fun c1 => ?_)
  · exact absurd c1 (Int32.not_lt.mpr (nI_pos' (by omega)))
  · skip
    have c1q := Int32.not_lt.mp c1
    refine lv_iload_n X.x X.b d_BP_longBy_4 rfl (lv_at hl 1 rfl) ?_
    refine lv_aload_n X.x X.b d_BP_longBy_5 rfl (lv_at hl 0 rfl) ?_
    refine m_get (v := .ref (B + 1)) X ok_BP hB 0 (by decide) k_BP_14 rfl d_BP_longBy_6 ?_
    refine lv_iconst (v := 0) X.x X.b d_BP_longBy_9 (by decide) ?_
    refine m_callP X hS (show MP l y_Source_countOf c_Source_countOf 2 (some .int) 1 g _ [.ref (B + 1), .int 0] (some (.int (nI (cnt 0)))) from (by have z := M_Source_countOf l g hy.s (nI 0); rw [ctF_in (by omega)] at z; exact z)) v_BP_66 hy.s.1 rfl rfl rfl (Nat.le_of_ble_eq_true rfl) hl.1 d_BP_longBy_10 (by omega) (by decide) ⟨Nat.zero_le _, Nat.zero_le _⟩ (fun locs hS => ?_)
    refine lv_icmp_le (tgt := 26) X.x X.b d_BP_longBy_13 (by decide) (fun c2 => ?_) (fun c2 => ?_)
    · skip
      have c2q := Int32.not_lt.mpr c2
      refine lv_iload_n X.x X.b d_BP_longBy_26 rfl (lv_at hl 2 rfl) ?_
      refine lv_iconst (v := 1) X.x X.b d_BP_longBy_27 (by decide) ?_
      refine lv_icmp_lt (tgt := 37) X.x X.b d_BP_longBy_28 (by decide) (fun c3 => ?_) (fun c3 => ?_)
      · exact absurd ((nI_ltI (b := 1) (by omega) (by omega)).mp c3) (by omega)
      · skip
        have c3q := Int32.not_lt.mp c3
        refine lv_iload_n X.x X.b d_BP_longBy_31 rfl (lv_at hl 2 rfl) ?_
        refine lv_bipush (v := 20) X.x X.b d_BP_longBy_32 (by decide) ?_
        refine lv_icmp_le (tgt := 47) X.x X.b d_BP_longBy_34 (by decide) (fun c4 => ?_) (fun c4 => ?_)
        · skip
          have c4q := Int32.not_lt.mpr c4
          refine lv_aload_n X.x X.b d_BP_longBy_47 rfl (lv_at hl 0 rfl) ?_
          refine m_get (v := .ref (B + 13)) X ok_BP hB 1 (by decide) k_BP_23 rfl d_BP_longBy_48 ?_
          refine m_get (v := .int y.2.2.2.1) X ok_Assembly hy.1 5 (by decide) k_BP_113 rfl d_BP_longBy_51 ?_
          refine lv_if_eq (tgt := 59) X.x X.b d_BP_longBy_54 (by decide) (fun c5 => ?_) (fun c5 => ?_)
          · skip
            refine lv_aload_n X.x X.b d_BP_longBy_59 rfl (lv_at hl 0 rfl) ?_
            refine m_get (v := .ref (B + 144)) X ok_BP hB 2 (by decide) k_BP_27 rfl d_BP_longBy_60 ?_
            refine lv_aload_n X.x X.b d_BP_longBy_63 rfl (lv_at hl 0 rfl) ?_
            refine m_get (v := .ref (B + 1)) X ok_BP hB 0 (by decide) k_BP_14 rfl d_BP_longBy_64 ?_
            have hR := M_Source_copyFrom (so := B + 144) (so2 := B + 1) l g hO.s hy.s (by omega) (cap_more hy.s)
            refine m_callM X hS hR v_BP_188 hO.s.1 rfl rfl rfl (Nat.le_of_ble_eq_true rfl) hl.1 d_BP_longBy_67 (by omega) (by decide) ⟨by omega, by omega⟩ (fun q z => by have z : B + 144 ≤ q ∧ q < B + 144 + 12 := z; exact ⟨by omega, by omega⟩) (fun H locs hs9 hfr hS => ?_)
            have hs1 := hs9.1
            have hO := hO.src hfr hs1
            have hB := hB.fr hfr (fun z => by have z : B + 144 ≤ B ∧ B < B + 144 + 12 := z; omega)
            have hy := hy.frame hfr (fun q z => by have z : B + 144 ≤ q ∧ q < B + 144 + 12 := z; omega)
            obtain ⟨q0, hz⟩ : ∃ z, H.size = z := ⟨_, rfl⟩
            have hq0 : B + 287 ≤ q0 := by have := hO.lt; omega
            have hS0 := hS.1
            refine m_newo (fs := [.int 0, .int 0, .int 0, .int 0, .int 0]) X ok_Line hS hz (LW_t 153 (by decide +kernel) (by decide +kernel)) (LW_t 154 (by decide +kernel) (by decide +kernel)) ini_Line (fun j hj => by rcases (show j = 0 ∨ j = 1 ∨ j = 2 ∨ j = 3 ∨ j = 4 by omega) with rfl | rfl | rfl | rfl | rfl <;> rfl) (by omega) (by omega) d_BP_longBy_70 (fun H9 hnL hgr hS hz2 => ?_)
            have hfr1 := fr.of_grow (A := noA) hgr
            refine lv_dup X.x X.b d_BP_longBy_73 rfl ?_
            refine lv_iconst (v := 2) X.x X.b d_BP_longBy_74 (by decide) ?_
            refine lv_iconst (v := -1) X.x X.b d_BP_longBy_75 (by decide) ?_
            refine lv_iconst (v := -1) X.x X.b d_BP_longBy_76 (by decide) ?_
            refine lv_iconst (v := 0) X.x X.b d_BP_longBy_77 (by decide) ?_
            refine lv_iconst (v := 0) X.x X.b d_BP_longBy_78 (by decide) ?_
            refine m_callI X hS (M_Line_init l g hnL 2 (-1) (-1) 0 0 (Or.inl rfl) hz2) i_BP_70 rfl rfl (Nat.le_of_ble_eq_true rfl) hl.1 d_BP_longBy_79 (by omega) (by decide) ⟨by omega, by omega⟩ (fun q z => z.elim (fun z => by have z : q = q0 := z; exact Or.inr (by omega)) (fun z => Or.inr (Nat.le_trans hS.1 z))) (fun H8 locs hq hfr2 hS => ?_)
            obtain ⟨hL, hz3⟩ := hq
            have hfr : fr noA H H8 := ⟨by omega, fun q hq _ => (hfr2.2 q (by omega) (fun z => by have z : q = q0 := z; omega)).trans (hfr1.2 q hq (fun z => z))⟩
            have hL : lnD g q0 (dl 2 (-1) (-1) 0 0) H8 := hL
            have hB := hB.fr hfr (fun z => z.elim)
            have hy := hy.frame hfr (fun q z => z.elim)
            have hO := hO.frame hfr (fun q z => z.elim)
            clear hz hz2 hz3 hfr hfr1 hfr2
            refine lv_astore_n (lv' := [(3, .ref q0), (0, .ref B), (1, .int (nI t)), (2, .int (nI k))]) X.x X.b d_BP_longBy_82 rfl hl (by decide) rfl (fun ls hl => ?_)
            refine lv_iconst (v := 0) X.x X.b d_BP_longBy_83 (by decide) ?_
            refine lv_istore (lv' := [(4, .int 0), (3, .ref q0), (0, .ref B), (1, .int (nI t)), (2, .int (nI k))]) X.x X.b d_BP_longBy_84 hl (by decide) rfl (fun ls hl => ?_)
            have lp : ∀ (n i : Nat), n = k - i → i < 5000 → (i ≤ k) → ∀ (H : Heap) (locs : List Loc) (ls : Array Slot), obAt g B H → aAt g (B + 13) (B + 1) 40 cnt f D B (B + 287) y H → aAt g (B + 156) (B + 144) 60 (lbC cnt i) (lbX f t q0 i) (lbX D t (dl 2 (-1) (-1) 0 0) i) B (B + 287) y2 H → lnD g q0 (dl 2 (-1) (-1) 0 0) H → va_S (AA (fun q => B + 144 ≤ q ∧ q < B + 287) H0) H0 H locs → lv_has ls 5 [(0, .ref B), (1, .int (nI t)), (2, .int (nI k)), (3, .ref q0), (4, .int (nI i))] → W p l e (rmK 21 1 5) s m ([.ref B, .int (nI t), .int (nI k)] : List Value).toArray below meth cd H locs 1 5 (MQ below (QM (some (.int (lbA y (asmF (lbX D t (dl 2 (-1) (-1) 0 0) k) (lbC cnt k) y2)))) (fun H1 => ∃ q0, bQt g B cnt f D y (lbC cnt k) (lbX f t q0 k) (lbX D t (dl 2 (-1) (-1) 0 0) k) (asmF (lbX D t (dl 2 (-1) (-1) 0 0) k) (lbC cnt k) y2) H1) (fun q => B + 144 ≤ q ∧ q < B + 287) H0) ([.ref B, .int (nI t), .int (nI k)] : List Value).toArray s 1 5 (AA (fun q => B + 144 ≤ q ∧ q < B + 287) H0)) (F0 m 86 ls []) := by
              intro n
              induction n with
              | zero =>
                intro i hin hi5 hik H locs ls hB hy hO hL hS hl
                refine lv_iload X.x X.b d_BP_longBy_86 (lv_at hl 4 rfl) ?_
                refine lv_iload_n X.x X.b d_BP_longBy_88 rfl (lv_at hl 2 rfl) ?_
                refine lv_icmp_ge (tgt := 108) X.x X.b d_BP_longBy_89 (by decide) (fun c6 => ?_) (fun c6 => ?_)
                · skip
                  have c6q := Int32.not_lt.mpr c6
                  have e9 : k = i := by have := (nI_leI (by omega) (by omega)).mp c6; omega
                  subst e9
                  refine lv_aload_n X.x X.b d_BP_longBy_108 rfl (lv_at hl 0 rfl) ?_
                  refine m_get (v := .ref (B + 156)) X ok_BP hB 3 (by decide) k_BP_30 rfl d_BP_longBy_109 ?_
                  have hR := M_Assembly_assemble l g hO
                  refine m_callM X hS hR v_BP_191 hO.1 rfl rfl rfl (Nat.le_of_ble_eq_true rfl) hl.1 d_BP_longBy_112 (by omega) (by decide) ⟨by omega, by omega⟩ (fun q z => by have z : B + 156 ≤ q ∧ q < B + 156 + 131 := z; exact ⟨by omega, by omega⟩) (fun H locs hO hfr hS => ?_)
                  have hB := hB.fr hfr (fun z => by have z : B + 156 ≤ B ∧ B < B + 156 + 131 := z; omega)
                  have hL := hL.fr hfr (fun z => by have z : B + 156 ≤ q0 ∧ q0 < B + 156 + 131 := z; omega)
                  have hy := hy.frame hfr (fun q z => by have z : B + 156 ≤ q ∧ q < B + 156 + 131 := z; omega)
                  obtain ⟨Y, hY⟩ : ∃ z, z = asmF (lbX D t (dl 2 (-1) (-1) 0 0) k) (lbC cnt k) y2 := ⟨_, rfl⟩
                  rw [← hY] at hO
                  refine lv_aload_n X.x X.b d_BP_longBy_115 rfl (lv_at hl 0 rfl) ?_
                  refine m_get (v := .ref (B + 156)) X ok_BP hB 3 (by decide) k_BP_30 rfl d_BP_longBy_116 ?_
                  refine m_get (v := .int Y.2.2.2.1) X ok_Assembly hO.1 5 (by decide) k_BP_113 rfl d_BP_longBy_119 ?_
                  refine lv_if_eq (tgt := 137) X.x X.b d_BP_longBy_122 (by decide) (fun c7 => ?_) (fun c7 => ?_)
                  · skip
                    refine lv_aload_n X.x X.b d_BP_longBy_137 rfl (lv_at hl 0 rfl) ?_
                    refine m_get (v := .ref (B + 156)) X ok_BP hB 3 (by decide) k_BP_30 rfl d_BP_longBy_138 ?_
                    refine m_get (v := .ref (B + 156 + 1)) X ok_Assembly hO.1 0 (by decide) k_BP_147 rfl d_BP_longBy_141 ?_
                    refine lv_iconst (v := 5) X.x X.b d_BP_longBy_144 (by decide) ?_
                    refine m_callP X hS (M_Items_tally l g hO.2.2.2.2.1 hO.2.2.2.2.2.2.2.1 5) v_BP_185 hO.2.2.2.2.1.1 rfl rfl rfl (Nat.le_of_ble_eq_true rfl) hl.1 d_BP_longBy_145 (by omega) (by decide) ⟨by omega, by omega⟩ (fun locs hS => ?_)
                    refine lv_aload_n X.x X.b d_BP_longBy_148 rfl (lv_at hl 0 rfl) ?_
                    refine m_get (v := .ref (B + 13)) X ok_BP hB 1 (by decide) k_BP_23 rfl d_BP_longBy_149 ?_
                    refine m_get (v := .ref (B + 13 + 1)) X ok_Assembly hy.1 0 (by decide) k_BP_147 rfl d_BP_longBy_152 ?_
                    refine lv_iconst (v := 5) X.x X.b d_BP_longBy_155 (by decide) ?_
                    refine m_callP X hS (M_Items_tally l g hy.2.2.2.2.1 hy.2.2.2.2.2.2.2.1 5) v_BP_185 hy.2.2.2.2.1.1 rfl rfl rfl (Nat.le_of_ble_eq_true rfl) hl.1 d_BP_longBy_156 (by omega) (by decide) ⟨by omega, by omega⟩ (fun locs hS => ?_)
                    refine lv_isub X.x X.b d_BP_longBy_159 ?_
                    exact m_iret X hS (by omega) (by omega) d_BP_longBy_160 (by rw [← hY]; unfold lbA; rw [if_pos c7]) ⟨q0, hB, hy, hqk, by rw [← hY]; exact hO⟩
                  · skip
                    refine lv_sipush (v := -1000) X.x X.b d_BP_longBy_125 (by decide) ?_
                    refine lv_aload_n X.x X.b d_BP_longBy_128 rfl (lv_at hl 0 rfl) ?_
                    refine m_get (v := .ref (B + 156)) X ok_BP hB 3 (by decide) k_BP_30 rfl d_BP_longBy_129 ?_
                    refine m_get (v := .int Y.2.2.2.1) X ok_Assembly hO.1 5 (by decide) k_BP_113 rfl d_BP_longBy_132 ?_
                    refine lv_isub X.x X.b d_BP_longBy_135 ?_
                    exact m_iret X hS (by omega) (by omega) d_BP_longBy_136 (by rw [← hY]; unfold lbA; rw [if_neg c7]) ⟨q0, hB, hy, hqk, by rw [← hY]; exact hO⟩
                · exact absurd ((nI_leI (a := k) (b := i) (by omega) (by omega)).mpr (by omega)) c6
              | succ n ih =>
                intro i hin hi5 hik H locs ls hB hy hO hL hS hl
                refine lv_iload X.x X.b d_BP_longBy_86 (lv_at hl 4 rfl) ?_
                refine lv_iload_n X.x X.b d_BP_longBy_88 rfl (lv_at hl 2 rfl) ?_
                refine lv_icmp_ge (tgt := 108) X.x X.b d_BP_longBy_89 (by decide) (fun c8 => ?_) (fun c8 => ?_)
                · exact absurd ((nI_leI (a := k) (b := i) (by omega) (by omega)).mp c8) (by omega)
                · skip
                  have c8q := Int32.not_le.mp c8
                  refine lv_aload_n X.x X.b d_BP_longBy_92 rfl (lv_at hl 0 rfl) ?_
                  refine m_get (v := .ref (B + 144)) X ok_BP hB 2 (by decide) k_BP_27 rfl d_BP_longBy_93 ?_
                  refine lv_iconst (v := 0) X.x X.b d_BP_longBy_96 (by decide) ?_
                  refine lv_iload_n X.x X.b d_BP_longBy_97 rfl (lv_at hl 1 rfl) ?_
                  refine lv_aload_n X.x X.b d_BP_longBy_98 rfl (lv_at hl 3 rfl) ?_
                  have hR := show MM l y_Source_insert c_Source_insert 4 none 1 0 0 g _ [.ref (B + 144), .int 0, .int (nI t), .ref q0] _ _ _ from M_Source_insert (r := 0) l g hO.s (by omega) hL (Or.inr hq0) (t := t) (by rw [lbC_at]; omega) (by rw [lbC_at]; show cnt 0 + i < 60; omega)
                  refine m_callM X hS hR v_BP_73 hO.s.1 rfl rfl rfl (Nat.le_of_ble_eq_true rfl) hl.1 d_BP_longBy_99 (by omega) (by decide) ⟨by omega, by omega⟩ (fun q z => by have z : B + 144 ≤ q ∧ q < B + 144 + 12 := z; exact ⟨by omega, by omega⟩) (fun H locs hs1 hfr hS => ?_)
                  have hO := hO.src hfr hs1
                  have hB := hB.fr hfr (fun z => by have z : B + 144 ≤ B ∧ B < B + 144 + 12 := z; omega)
                  have hL := hL.fr hfr (fun z => by have z : B + 144 ≤ q0 ∧ q0 < B + 144 + 12 := z; omega)
                  have hy := hy.frame hfr (fun q z => by have z : B + 144 ≤ q ∧ q < B + 144 + 12 := z; omega)
                  refine lv_iinc (v := nI (i + 1)) (lv' := [(4, .int (nI (i + 1))), (0, .ref B), (1, .int (nI t)), (2, .int (nI k)), (3, .ref q0)]) X.x X.b d_BP_longBy_102 hl (k := 4) rfl (nI_1 i) (by decide) rfl (fun ls hl => ?_)
                  refine lv_goto (tgt := 86) X.x X.b d_BP_longBy_105 (by decide) ?_
                  exact ih (i + 1) (by omega) (by omega) ((by omega)) _ _ _ hB hy (by rw [← lbC_s]; exact hO) hL hS (lv_sub hl [1, 2, 3, 4, 0] rfl)
            exact lp k 0 (by omega) (by omega) (Nat.zero_le _) _ _ _ hB hy (by rw [lbC_0]; exact hO) hL hS (lv_sub hl [2, 3, 4, 1, 0] rfl)
          · exact absurd hf c5
        · exact absurd ((nI_leI (b := 20) (by omega) (by omega)).mpr hk) c4
    · exact absurd ((nI_leI (by omega) (by omega)).mpr ht) c2
