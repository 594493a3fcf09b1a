-- WHAT THE LAW ASKS, IN NUMBERS
theorem manF_0 (cnt : Nat → Nat) (y : YS) : manF cnt y 0 = nI (cnt 0) := by
  unfold manF
  rw [if_pos rfl]
  exact ctF_in (cnt := cnt) (r := 0) (by omega)
theorem OKY.many3 {D : DT} {cnt : Nat → Nat} (hG : lnsG D cnt) {y : YS} (h : OKY D cnt y) : manF cnt y 3 = if y.2.2.2.1 = 0 then nI (wnF D cnt) else -1 := by
  unfold manF
  rw [if_neg (by decide), if_neg (by decide), if_neg (show ¬ (3 : Int32) = 6 by decide), (h.tal3 hG).1]
theorem tal_2 (S : IS) : ∀ (n i u : Nat), tal S 2 n i (nI u) = nI (u + n)
  | 0, _, _ => rfl
  | n + 1, i, u => by
    simp only [tal]
    rw [show shF S i 2 = nI 1 by unfold shF; rw [if_pos rfl]; rfl, nI_add, tal_2 S n (i + 1) (u + 1)]
    congr 1
    omega
theorem manF_2 (cnt : Nat → Nat) {y : YS} (h : y.2.2.2.1 = 0) : manF cnt y 2 = nI y.2.1 := by
  unfold manF
  rw [if_neg (by decide), if_neg (by decide), if_pos h, if_neg (by decide)]
  have := tal_2 y.1 y.2.1 0 0
  rw [Nat.zero_add] at this
  exact this
theorem tal_5 (S : IS) : ∀ (n i u : Nat), ∃ t, t ≤ n ∧ tal S 5 n i (nI u) = nI (u + t)
  | 0, _, _ => ⟨0, Nat.le_refl _, rfl⟩
  | n + 1, i, u => by
    simp only [tal]
    have e : shF S i 5 = if S.1 14 i = 0 then 0 else 1 := by
      unfold shF
      rw [if_neg (by decide), if_neg (by decide), if_neg (by decide), if_pos rfl]
    rw [e]
    by_cases z : S.1 14 i = 0
    · rw [if_pos z, show nI u + 0 = nI u from nI_add u 0]
      obtain ⟨t, ht, h⟩ := tal_5 S n (i + 1) u
      exact ⟨t, by omega, h⟩
    · rw [if_neg z, nI_1]
      obtain ⟨t, ht, h⟩ := tal_5 S n (i + 1) (u + 1)
      exact ⟨t + 1, by omega, by rw [h]; congr 1; omega⟩
theorem far_no : ∀ a, a < 122 → ∀ b, b < 122 → ¬ nI a - nI b < -1006 := by decide +kernel
theorem fn_no : ∀ t, t < 7 → ¬ -1000 - nI t < -1006 := by decide
theorem lbX_ne {α : Type} (f : Nat → Nat → α) (t : Nat) (v : α) {r : Nat} (hr : ¬ r = 0) : ∀ i, lbX f t v i r = f r
  | 0 => rfl
  | i + 1 => by
    show va_up (lbX f t v i) 0 _ r = f r
    rw [va_up_ne _ _ hr]
    exact lbX_ne f t v hr i
theorem lb_G {D : DT} {cnt : Nat → Nat} (hG : lnsG D cnt) (h40 : cnt 0 ≤ 40) {t : Nat} (ht : t ≤ cnt 0) {d : Nat → Int32} (hd : lnG d) : ∀ i, i ≤ 20 → lnsG (lbX D t d i) (lbC cnt i)
  | 0, _ => by rw [lbC_0]; exact hG
  | i + 1, hi => fun r hr => by
    have ih := lb_G hG h40 ht hd i (by omega)
    by_cases e : r = 0
    · subst e
      have h0 := ih 0 (by omega)
      rw [lbC_at] at h0 ⊢
      refine ⟨by omega, fun j hj => ?_⟩
      show lnG (va_up (lbX D t d i) 0 (insF (lbX D t d i 0) t d) 0 j)
      rw [va_up_self]
      exact ins_all (p := lnG) h0.2 hd (by omega) j (by omega)
    · have h1 := hG r hr
      unfold lbC
      rw [va_up_ne _ _ e, lbX_ne _ _ _ e]
      exact h1
theorem lb_no {D : DT} {cnt : Nat → Nat} (hG : lnsG D cnt) (h40 : cnt 0 ≤ 40) {y y2 : YS} (hc : y.2.1 ≤ 121) {t : Nat} (ht : t ≤ cnt 0) {d : Nat → Int32} (hd : lnG d) {k : Nat} (hk : k ≤ 20) (hc2 : (asmF (lbX D t d k) (lbC cnt k) y2).2.1 ≤ 121) : ¬ lbA y (asmF (lbX D t d k) (lbC cnt k) y2) < -1006 := by
  obtain ⟨f, hf, e⟩ := asmF_fn (lb_G hG h40 ht hd k hk) y2
  generalize asmF (lbX D t d k) (lbC cnt k) y2 = Y at e hc2 ⊢
  unfold lbA
  by_cases z : Y.2.2.2.1 = 0
  · rw [if_pos z]
    obtain ⟨a, ha, e1⟩ := tal_5 Y.1 Y.2.1 0 0
    obtain ⟨b, hb, e2⟩ := tal_5 y.1 y.2.1 0 0
    rw [Nat.zero_add] at e1 e2
    rw [show tal Y.1 5 Y.2.1 0 0 = nI a from e1, show tal y.1 5 y.2.1 0 0 = nI b from e2]
    exact far_no a (by omega) b (by omega)
  · rw [if_neg z, e]
    exact fn_no f (by omega)
set_option maxRecDepth 100000 in
set_option maxHeartbeats 4000000 in
theorem M_BP_longBy_f (l : Launch) (g : GG) {B : Nat} {cnt cnt2 : Nat → Nat} {f f2 : Nat → Nat → Nat} {D D2 : DT} {y y2 : YS} {H0 : Heap} (hb : bQt g B cnt f D y cnt2 f2 D2 y2 H0) {t k : Nat} (ht : t ≤ cnt 0) (hk1 : 1 ≤ k) (hk : k ≤ 20) (hf : ¬ y.2.2.2.1 = 0) : MP l y_BP_longBy c_BP_longBy 5 (some .int) 21 g H0 [.ref B, .int (nI t), .int (nI k)] (some (.int 0)) := by
  refine MM.of (by decide +kernel) (Nat.le_of_ble_eq_true rfl) ?_
  intro p e s m below meth cd X hH ls hl
  have X : CX g p s m _ meth cd c_BP_longBy 5 (some .int) R_BP _ := X
  have hl : lv_has ls 5 [(0, .ref B), (1, .int (nI t)), (2, .int (nI k))] := hl
  have hS : va_S (AA (noA) H0) H0 H0 [] := va_S.rf
  have hb0 := bAt.q.mpr ⟨_, _, _, _, hb⟩
  obtain ⟨hB, hy, hqk, hO⟩ := hb
  have h40 : cnt 0 ≤ 40 := (hy.s.2.2.1 0 (by omega)).2
  refine lv_iload_n X.x X.b d_BP_longBy_0 rfl (lv_at hl 1 rfl) ?_
  refine lv_if_lt (tgt := 16) X.x X.b d_BP_longBy_1 (by decide) (fun c1 => ?_) (fun c1 => ?_)
  · exact absurd c1 (Int32.not_lt.mpr (nI_pos' (by omega)))
  · skip
    have c1q := Int32.not_lt.mp c1
    refine lv_iload_n X.x X.b d_BP_longBy_4 rfl (lv_at hl 1 rfl) ?_
    refine lv_aload_n X.x X.b d_BP_longBy_5 rfl (lv_at hl 0 rfl) ?_
    refine m_get (v := .ref (B + 1)) X ok_BP hB 0 (by decide) k_BP_14 rfl d_BP_longBy_6 ?_
    refine lv_iconst (v := 0) X.x X.b d_BP_longBy_9 (by decide) ?_
    refine m_callP X hS (show MP l y_Source_countOf c_Source_countOf 2 (some .int) 1 g _ [.ref (B + 1), .int 0] (some (.int (nI (cnt 0)))) from (by have z := M_Source_countOf l g hy.s (nI 0); rw [ctF_in (by omega)] at z; exact z)) v_BP_66 hy.s.1 rfl rfl rfl (Nat.le_of_ble_eq_true rfl) hl.1 d_BP_longBy_10 (by omega) (by decide) ⟨Nat.zero_le _, Nat.zero_le _⟩ (fun locs hS => ?_)
    refine lv_icmp_le (tgt := 26) X.x X.b d_BP_longBy_13 (by decide) (fun c2 => ?_) (fun c2 => ?_)
    · skip
      have c2q := Int32.not_lt.mpr c2
      refine lv_iload_n X.x X.b d_BP_longBy_26 rfl (lv_at hl 2 rfl) ?_
      refine lv_iconst (v := 1) X.x X.b d_BP_longBy_27 (by decide) ?_
      refine lv_icmp_lt (tgt := 37) X.x X.b d_BP_longBy_28 (by decide) (fun c3 => ?_) (fun c3 => ?_)
      · exact absurd ((nI_ltI (b := 1) (by omega) (by omega)).mp c3) (by omega)
      · skip
        have c3q := Int32.not_lt.mp c3
        refine lv_iload_n X.x X.b d_BP_longBy_31 rfl (lv_at hl 2 rfl) ?_
        refine lv_bipush (v := 20) X.x X.b d_BP_longBy_32 (by decide) ?_
        refine lv_icmp_le (tgt := 47) X.x X.b d_BP_longBy_34 (by decide) (fun c4 => ?_) (fun c4 => ?_)
        · skip
          have c4q := Int32.not_lt.mpr c4
          refine lv_aload_n X.x X.b d_BP_longBy_47 rfl (lv_at hl 0 rfl) ?_
          refine m_get (v := .ref (B + 13)) X ok_BP hB 1 (by decide) k_BP_23 rfl d_BP_longBy_48 ?_
          refine m_get (v := .int y.2.2.2.1) X ok_Assembly hy.1 5 (by decide) k_BP_113 rfl d_BP_longBy_51 ?_
          refine lv_if_eq (tgt := 59) X.x X.b d_BP_longBy_54 (by decide) (fun c5 => ?_) (fun c5 => ?_)
          · exact absurd c5 hf
          · skip
            refine lv_iconst (v := 0) X.x X.b d_BP_longBy_57 (by decide) ?_
            exact m_iret X hS (Nat.zero_le _) (Nat.zero_le _) d_BP_longBy_58 rfl rfl
        · exact absurd ((nI_leI (b := 20) (by omega) (by omega)).mpr hk) c4
    · exact absurd ((nI_leI (by omega) (by omega)).mpr ht) c2
theorem asmF_c121 (D : DT) (cnt : Nat → Nat) (y : YS) : (asmF D cnt y).2.1 ≤ 121 := (asmF_E D cnt (y := y) (z := y) rfl).2.2
/-- the words of the press, by their ITEM -/
theorem OKY.word {D : DT} {cnt : Nat → Nat} (hG : lnsG D cnt) {y : YS} (h : OKY D cnt y) (h0 : y.2.2.2.1 = 0) {a : Nat} (ha : a < wnF D cnt) : ∃ j, iaO y.2.1 (hof y.1 (nI a) y.2.1 0) = some j ∧ woF y.1 y.2.1 j (nI a - y.1.1 12 j) = wdF y.1 y.2.1 (nI a) := by
  obtain ⟨A, hA, e, -, -⟩ := h.words hG h0
  obtain ⟨-, hc, -⟩ := h.ng hG h0
  obtain ⟨j, -, -, -, -, e2⟩ := hA.holder0 hc.2 (show a < A y.2.1 by omega)
  refine ⟨j, e2, ?_⟩
  unfold wdF
  rw [e2]
theorem OKY.held {D : DT} {cnt : Nat → Nat} (hG : lnsG D cnt) {y : YS} (h : OKY D cnt y) : y.2.2.2.1 = 0 → heldF y.1 y.2.1 (wnF D cnt) := fun h0 => by
  obtain ⟨A, hA, e, -, -⟩ := h.words hG h0
  obtain ⟨-, hc, -⟩ := h.ng hG h0
  rw [← e]
  exact hA.held hc.2
set_option maxRecDepth 100000 in
set_option maxHeartbeats 4000000 in
theorem M_Law_areWords (l : Launch) (g : GG) {B a : Nat} {cnt : Nat → Nat} {f : Nat → Nat → Nat} {D : DT} {y : YS} {fa : Nat → Int32} {H0 : Heap} (hb : bAt g B cnt f D y H0) (hG : lnsG D cnt) (hok : OKY D cnt y) (hf : y.2.2.2.1 = 0) (ha : pt g a (.inl (g.2 0, wnF D cnt, .inl fa)) H0) (hfa : ∀ i, i < wnF D cnt → fa i = wdF y.1 y.2.1 (nI i)) : MP l y_Law_areWords c_Law_areWords 4 (some .boolean) 5 g H0 [.ref B, .ref a, .int (nI (wnF D cnt))] (some (.int 1)) := by
  refine MM.of (by decide +kernel) (Nat.le_of_ble_eq_true rfl) ?_
  intro p e s m below meth cd X hH ls hl
  have X : CX g p s m _ meth cd c_Law_areWords 4 (some .boolean) R_Law _ := X
  have hl : lv_has ls 4 [(0, .ref B), (1, .ref a), (2, .int (nI (wnF D cnt)))] := hl
  have hS : va_S (AA noA H0) H0 H0 [] := va_S.rf
  have hW := (hok.tal3 hG).2
  refine lv_aload_n X.x X.b d_Law_areWords_0 rfl (lv_at hl 0 rfl) ?_
  refine lv_iconst (v := 3) X.x X.b d_Law_areWords_1 (by decide) ?_
  have hR := M_BP_many (wt := 3) l g hb (by decide) (by decide)
  rw [hok.many3 hG, if_pos hf] at hR
  refine m_callP X hS hR v_Law_34 hb.1 rfl rfl rfl (Nat.le_of_ble_eq_true rfl) hl.1 d_Law_areWords_2 (by omega) (by decide) ⟨Nat.zero_le _, Nat.zero_le _⟩ (fun locs hS => ?_)
  refine lv_iload_n X.x X.b d_Law_areWords_5 rfl (lv_at hl 2 rfl) ?_
  refine lv_icmp_eq (tgt := 11) X.x X.b d_Law_areWords_6 (by decide) (fun _ => ?_) (fun c1 => absurd rfl c1)
  refine lv_iconst (v := 0) X.x X.b d_Law_areWords_11 (by decide) ?_
  refine lv_istore_n (lv' := [(3, .int 0), (0, .ref B), (1, .ref a), (2, .int (nI (wnF D cnt)))]) X.x X.b d_Law_areWords_12 rfl hl (by decide) rfl (fun ls hl => ?_)
  have lp : ∀ (n i : Nat) (locs : List Loc) (ls : Array Slot), n = wnF D cnt - i → i ≤ wnF D cnt → va_S (AA noA H0) H0 H0 locs → lv_has ls 4 [(3, .int (nI i)), (0, .ref B), (1, .ref a), (2, .int (nI (wnF D cnt)))] → W p l e (rmK 5 0 0) s m ([.ref B, .ref a, .int (nI (wnF D cnt))] : List Value).toArray below meth cd H0 locs 0 0 (MQ below (QM (some (.int 1)) (fun H1 => H1 = H0) noA H0) ([.ref B, .ref a, .int (nI (wnF D cnt))] : List Value).toArray s 0 0 (AA noA H0)) (F0 m 13 ls []) := by
    intro n
    induction n with
    | zero =>
      intro i locs ls hn hi hS hl
      refine lv_iload_n X.x X.b d_Law_areWords_13 rfl (lv_at hl 0 rfl) ?_
      refine lv_iload_n X.x X.b d_Law_areWords_14 rfl (lv_at hl 3 rfl) ?_
      refine lv_icmp_ge (tgt := 37) X.x X.b d_Law_areWords_15 (by decide) (fun c1 => ?_) (fun c1 => absurd (nI_le (by omega) (by omega)) c1)
      refine lv_iconst (v := 1) X.x X.b d_Law_areWords_37 (by decide) ?_
      exact m_zret X hS (Nat.zero_le _) (Nat.zero_le _) d_Law_areWords_38 rfl rfl rfl
    | succ n ih =>
      intro i locs ls hn hi hS hl
      refine lv_iload_n X.x X.b d_Law_areWords_13 rfl (lv_at hl 0 rfl) ?_
      refine lv_iload_n X.x X.b d_Law_areWords_14 rfl (lv_at hl 3 rfl) ?_
      refine lv_icmp_ge (tgt := 37) X.x X.b d_Law_areWords_15 (by decide) (fun c1 => absurd ((nI_leI (by omega) (by omega)).mp c1) (by omega)) (fun c1 => ?_)
      have hi2 : i < wnF D cnt := by omega
      obtain ⟨j, e1, e2⟩ := hok.word hG hf hi2
      have hR := M_BP_word (ad := nI i) (j := j) l g hb e1
      rw [e2] at hR
      refine lv_aload_n X.x X.b d_Law_areWords_18 rfl (lv_at hl 1 rfl) ?_
      refine lv_iload_n X.x X.b d_Law_areWords_19 rfl (lv_at hl 0 rfl) ?_
      refine m_callP X hS hR v_Law_48 hb.1 rfl rfl rfl (Nat.le_of_ble_eq_true rfl) hl.1 d_Law_areWords_20 (by omega) (by decide) ⟨Nat.zero_le _, Nat.zero_le _⟩ (fun locs hS => ?_)
      refine lv_aload_n X.x X.b d_Law_areWords_23 rfl (lv_at hl 2 rfl) ?_
      refine lv_iload_n X.x X.b d_Law_areWords_24 rfl (lv_at hl 0 rfl) ?_
      refine m_i5 (u := wdF y.1 y.2.1 (nI i)) X ha i hi2 (by omega) rfl (hfa i hi2) d_Law_areWords_25 ?_
      refine lv_icmp_eq (tgt := 31) X.x X.b d_Law_areWords_26 (by decide) (fun _ => ?_) (fun c1 => absurd rfl c1)
      refine lv_iinc (v := nI (i + 1)) (lv' := [(3, .int (nI (i + 1))), (0, .ref B), (1, .ref a), (2, .int (nI (wnF D cnt)))]) X.x X.b d_Law_areWords_31 hl (k := 0) rfl (nI_1 i) (by decide) rfl (fun ls hl => ?_)
      refine lv_goto (tgt := 13) X.x X.b d_Law_areWords_34 (by decide) ?_
      exact ih (i + 1) locs ls (by omega) (by omega) hS hl
  exact lp (wnF D cnt) 0 _ ls rfl (Nat.zero_le _) hS hl
