-- THE REFERENCE: LONGBY, AND ITS CONSTRUCTOR
theorem wr_line (s : Nat → Nat → Int32) (i : Nat) (k a b v d : Int32) : wrR s ((0 * 64 + i) * 5) k a b v d 1 (5 * i) = k ∧ wrR s ((0 * 64 + i) * 5) k a b v d 1 (5 * i + 1) = a ∧ wrR s ((0 * 64 + i) * 5) k a b v d 1 (5 * i + 2) = b ∧ wrR s ((0 * 64 + i) * 5) k a b v d 1 (5 * i + 3) = v ∧ wrR s ((0 * 64 + i) * 5) k a b v d 1 (5 * i + 4) = d := by
  rw [show (0 * 64 + i) * 5 = 5 * i by omega]
  unfold wrR
  refine ⟨?_, ?_, ?_, ?_, ?_⟩ <;> simp [updR, upd]
theorem wr_ne (s : Nat → Nat → Int32) (i : Nat) (k a b v d : Int32) {x : Nat} (h : x < 5 * i) : wrR s ((0 * 64 + i) * 5) k a b v d 1 x = s 1 x := by
  rw [show (0 * 64 + i) * 5 = 5 * i by omega]
  unfold wrR
  exact (updR_n2 _ _ _ _ (show x ≠ 5 * i + 4 by omega) 1).trans ((updR_n2 _ _ _ _ (show x ≠ 5 * i + 3 by omega) 1).trans ((updR_n2 _ _ _ _ (show x ≠ 5 * i + 2 by omega) 1).trans ((updR_n2 _ _ _ _ (show x ≠ 5 * i + 1 by omega) 1).trans (updR_n2 _ _ _ _ (show x ≠ 5 * i by omega) 1))))
def dL (i : Nat) (s : Nat → Nat → Int32) : Prop := ∀ t, t < i → s 1 (5 * t) = 2 ∧ s 1 (5 * t + 1) = -1 ∧ s 1 (5 * t + 2) = -1 ∧ s 1 (5 * t + 3) = 0 ∧ s 1 (5 * t + 4) = 0
theorem dL.step {i : Nat} {s : Nat → Nat → Int32} (h : dL i s) : dL (i + 1) (wrR s ((0 * 64 + i) * 5) 2 (-1) (-1) 0 0) := fun t ht => by
  by_cases z : t = i
  · subst z
    exact wr_line s t 2 (-1) (-1) 0 0
  · rw [wr_ne _ _ _ _ _ _ _ (show 5 * t < 5 * i by omega), wr_ne _ _ _ _ _ _ _ (show 5 * t + 1 < 5 * i by omega), wr_ne _ _ _ _ _ _ _ (show 5 * t + 2 < 5 * i by omega), wr_ne _ _ _ _ _ _ _ (show 5 * t + 3 < 5 * i by omega), wr_ne _ _ _ _ _ _ _ (show 5 * t + 4 < 5 * i by omega)]
    exact h t (by omega)
theorem m_aretA {g : GG} {p : Program} {l : Launch} {e : Env} {R : Room} {s : State} {m : MethodId} {args : Array Value} {below : List Frame} {meth : Method} {c : Code} {H : Heap} {locs : List Loc} {cells slots : Nat} {cc : ByteArray} {nL : Nat} {own nm : String} {pc : Nat} {ls : Array Slot} {ty : FieldType} (X : CX g p s m args meth c cc nL (some (.array ty)) own nm) {mc ms : Nat} {A : Nat → Prop} {H0 : Heap} {v0 : Option Value} {Pq : Heap → Prop} (hS : va_S (AA A H0) H0 H locs) (hc : cells ≤ mc) (hs : slots ≤ ms) {a : Nat} (hdg : decode cc pc = .ok (.areturn, 1)) (hv0 : some (.ref a) = v0) (hq : Pq H) : W p l e R s m args below meth c H locs cells slots (MQ below (QM v0 Pq A H0) args s mc ms (AA A H0)) (F0 m pc ls [.ref a]) := by
  refine W.widen hc hs ?_
  exact W.aret X.x X.b X.r (Or.inr ⟨_, rfl⟩) (Or.inr ⟨_, rfl⟩) (fun t ht _ => ⟨by rw [hv0], by rw [ht]; exact hq, by rw [ht]; exact hS.fr'⟩) hS.2.2 hdg X.locks
set_option maxRecDepth 100000 in
set_option maxHeartbeats 4000000 in
theorem M_Model_keep (l : Launch) (g : GG) {mo tq : Nat} {p0 : Nat → Int32} {s0 : Nat → Nat → Int32} {H0 : Heap} (hM : mAt g mo tq p0 s0 H0) {q0 : Nat} (hz0 : H0.size = q0) : MM l y_Model_keep c_Model_keep 2 (some (.array .int)) 1 1 1600 g H0 [.ref mo] (noA) (some (.ref q0)) (fun H1 => mAt g mo tq p0 s0 H1 ∧ ∃ r, pt g q0 (.inl (g.2 0, 1600, .inl r)) H1) := by
  refine MM.of (by decide +kernel) (Nat.le_of_ble_eq_true rfl) ?_
  intro p e s m below meth cd X hH ls hl
  have X : CX g p s m _ meth cd c_Model_keep 2 (some (.array .int)) R_Model _ := X
  have hl : lv_has ls 2 [(0, .ref mo)] := hl
  have hS : va_S (AA (noA) H0) H0 H0 [] := va_S.rf
  have hlt0 := hM.lt
  have htq0 := hM.tq
  refine lv_aload_n X.x X.b d_Model_keep_0 rfl (lv_at hl 0 rfl) ?_
  refine m_get (v := .ref tq) X ok_Model hM.1 1 (by decide) k_Model_9 rfl d_Model_keep_1 ?_
  refine m_alen (v := 1600) X 0 rfl hM.a1 rfl d_Model_keep_4 ?_
  obtain ⟨q5, hq5⟩ := sz_of hS
  have hlt5 := hM.lt
  have hsz5 := hS.1
  refine m_newI X hS hq5 1600 (by decide) (by decide) (by decide) (by omega) (by omega) d_Model_keep_5 (fun H hL5 hgr hS hz2 => ?_)
  have hfr := fr.of_grow (A := noA) hgr
  have hM := hM.frame hfr (fun q z => z.elim)
  refine lv_astore_n (lv' := [(1, .ref q5), (0, .ref mo)]) X.x X.b d_Model_keep_7 rfl hl (by decide) rfl (fun ls hl => ?_)
  refine lv_aload_n X.x X.b d_Model_keep_8 rfl (lv_at hl 1 rfl) ?_
  refine m_get (v := .ref tq) X ok_Model hM.1 1 (by decide) k_Model_9 rfl d_Model_keep_9 ?_
  refine lv_iconst (v := 0) X.x X.b d_Model_keep_12 (by decide) ?_
  refine lv_aload_n X.x X.b d_Model_keep_13 rfl (lv_at hl 0 rfl) ?_
  refine lv_iconst (v := 0) X.x X.b d_Model_keep_14 (by decide) ?_
  refine lv_aload_n X.x X.b d_Model_keep_15 rfl (lv_at hl 0 rfl) ?_
  refine m_alen (v := 1600) X 0 rfl hL5 rfl d_Model_keep_16 ?_
  refine m_copyi X wcopyM hS (Or.inr (by omega)) hM.a1 hL5 (by decide) (by decide) (by decide) (by decide) (by decide) hl.1 (Nat.le_of_ble_eq_true rfl) (Nat.le_of_ble_eq_true rfl) d_Model_keep_17 (fun H locs r hL5 hcg hS => ?_)
  have hM := hM.frame (fr.of_chg (A := fun q => q = q5) hcg rfl) (fun q z => by have z : q = q5 := z; have := hM.tq; omega)
  refine lv_aload_n X.x X.b d_Model_keep_20 rfl (lv_at hl 0 rfl) ?_
  have hqq : q5 = q0 := by omega
  subst hqq
  exact m_aretA X hS (by omega) (by omega) d_Model_keep_21 rfl ⟨hM, _, hL5⟩
set_option maxRecDepth 100000 in
set_option maxHeartbeats 4000000 in
theorem M_Model_sum_5 (l : Launch) (g : GG) {mo tq : Nat} {p0 : Nat → Int32} {s0 : Nat → Nat → Int32} {H0 : Heap} (hM : mAt g mo tq p0 s0 H0) {c : Nat} (hc : c ≤ 20) (h5 : p0 5 = nI (c + 1)) (hj : ∀ j, j ≤ c → s0 23 j = 0) : MP l y_Model_sum c_Model_sum 4 (some .int) 0 g H0 [.ref mo, .int 5] (some (.int 0)) := by
  refine MM.of (by decide +kernel) (Nat.le_of_ble_eq_true rfl) ?_
  intro p e s m below meth cd X hH ls hl
  have X : CX g p s m _ meth cd c_Model_sum 4 (some .int) R_Model _ := X
  have hl : lv_has ls 4 [(0, .ref mo), (1, .int 5)] := hl
  have hS : va_S (AA (noA) H0) H0 H0 [] := va_S.rf
  have hlt0 := hM.lt
  have htq0 := hM.tq
  refine lv_iconst (v := 0) X.x X.b d_Model_sum_0 (by decide) ?_
  refine lv_istore_n (lv' := [(2, .int 0), (0, .ref mo), (1, .int 5)]) X.x X.b d_Model_sum_1 rfl hl (by decide) rfl (fun ls hl => ?_)
  refine lv_iconst (v := 0) X.x X.b d_Model_sum_2 (by decide) ?_
  refine lv_istore_n (lv' := [(3, .int 0), (2, .int 0), (0, .ref mo), (1, .int 5)]) X.x X.b d_Model_sum_3 rfl hl (by decide) rfl (fun ls hl => ?_)
  have lp : ∀ (n i : Nat), n = (c + 1) - i → i < 5000 → (i ≤ c + 1) → ∀ (locs : List Loc) (ls : Array Slot), va_S (AA (noA) H0) H0 H0 locs → lv_has ls 4 [(0, .ref mo), (1, .int 5), (2, .int 0), (3, .int (nI i))] → W p l e (rmK 0 0 0) s m ([.ref mo, .int 5] : List Value).toArray below meth cd H0 locs 0 0 (MQ below (QM (some (.int 0)) (fun H1 => H1 = H0) (noA) H0) ([.ref mo, .int 5] : List Value).toArray s 0 0 (AA (noA) H0)) (F0 m 4 ls []) := by
    intro n
    induction n with
    | zero =>
      intro i hin hi5 hic locs ls hS hl
      refine lv_iload_n X.x X.b d_Model_sum_4 rfl (lv_at hl 3 rfl) ?_
      refine lv_aload_n X.x X.b d_Model_sum_5 rfl (lv_at hl 0 rfl) ?_
      refine m_get (v := .int (nI (c + 1))) X ok_Model hM.1 5 (by decide) k_Model_132 (congrArg (fun z => some (Value.int z)) (show p0 5 = nI (c + 1) from (by rw [h5]))) d_Model_sum_6 ?_
      refine lv_icmp_ge (tgt := 211) X.x X.b d_Model_sum_9 (by decide) (fun c1 => ?_) (fun c1 => ?_)
      · skip
        have c1q := Int32.not_lt.mpr c1
        refine lv_iload_n X.x X.b d_Model_sum_211 rfl (lv_at hl 2 rfl) ?_
        exact m_iret X hS (Nat.zero_le _) (Nat.zero_le _) d_Model_sum_212 rfl rfl
      · exact absurd ((nI_leI (a := (c + 1)) (b := i) (by omega) (by omega)).mpr (by omega)) c1
    | succ n ih =>
      intro i hin hi5 hic locs ls hS hl
      refine lv_iload_n X.x X.b d_Model_sum_4 rfl (lv_at hl 3 rfl) ?_
      refine lv_aload_n X.x X.b d_Model_sum_5 rfl (lv_at hl 0 rfl) ?_
      refine m_get (v := .int (nI (c + 1))) X ok_Model hM.1 5 (by decide) k_Model_132 (congrArg (fun z => some (Value.int z)) (show p0 5 = nI (c + 1) from (by rw [h5]))) d_Model_sum_6 ?_
      refine lv_icmp_ge (tgt := 211) X.x X.b d_Model_sum_9 (by decide) (fun c2 => ?_) (fun c2 => ?_)
      · exact absurd ((nI_leI (a := (c + 1)) (b := i) (by omega) (by omega)).mp c2) (by omega)
      · skip
        have c2q := Int32.not_le.mp c2
        refine lv_iload_n X.x X.b d_Model_sum_12 rfl (lv_at hl 1 rfl) ?_
        refine lv_tableIn (off := 62) (tgt := 75) X.x X.b d_Model_sum_13 (by decide) (by decide) (by decide) (by decide) ?_
        refine lv_iload_n X.x X.b d_Model_sum_75 rfl (lv_at hl 2 rfl) ?_
        refine lv_aload_n X.x X.b d_Model_sum_76 rfl (lv_at hl 0 rfl) ?_
        refine m_get (v := .ref (mo + 18)) X ok_Model hM.1 23 (by decide) k_Model_61 rfl d_Model_sum_77 ?_
        refine lv_iload_n X.x X.b d_Model_sum_80 rfl (lv_at hl 3 rfl) ?_
        refine m_zld (v := 0) X hM.a23 i rfl (by omega) (by decide) (show s0 23 i = 0 from (by rw [hj i (by omega)])) d_Model_sum_81 ?_
        refine lv_if_eq (tgt := 89) X.x X.b d_Model_sum_82 (by decide) (fun c3 => ?_) (fun c3 => ?_)
        · skip
          refine lv_iconst (v := 0) X.x X.b d_Model_sum_89 (by decide) ?_
          refine lv_iadd X.x X.b d_Model_sum_90 ?_
          rw [show (0 + 0 : Int32) = 0 from by decide]
          refine lv_istore_n (lv' := [(2, .int 0), (0, .ref mo), (1, .int 5), (3, .int (nI i))]) X.x X.b d_Model_sum_91 rfl hl (by decide) rfl (fun ls hl => ?_)
          refine lv_goto (tgt := 205) X.x X.b d_Model_sum_92 (by decide) ?_
          refine lv_iinc (v := nI (i + 1)) (lv' := [(3, .int (nI (i + 1))), (2, .int 0), (0, .ref mo), (1, .int 5)]) X.x X.b d_Model_sum_205 hl (k := 3) rfl (nI_1 i) (by decide) rfl (fun ls hl => ?_)
          refine lv_goto (tgt := 4) X.x X.b d_Model_sum_208 (by decide) ?_
          exact ih (i + 1) (by omega) (by omega) ((by omega)) _ _ hS (lv_sub hl [2, 3, 1, 0] rfl)
        · exact absurd c3 (by decide)
  exact lp (c + 1) 0 (by omega) (by omega) (Nat.zero_le _) _ _ hS (lv_sub hl [2, 3, 1, 0] rfl)
set_option maxRecDepth 100000 in
set_option maxHeartbeats 4000000 in
theorem M_Model_back (l : Launch) (g : GG) {mo tq : Nat} {p0 : Nat → Int32} {s0 : Nat → Nat → Int32} {H0 : Heap} (hM : mAt g mo tq p0 s0 H0) {qw : Nat} {r0 : Nat → Int32} (hq1 : pt g qw (.inl (g.2 0, 1600, .inl r0)) H0) (hqm : mo + 23 ≤ qw) : MM l y_Model_back c_Model_back 4 none 8 4 262 g H0 [.ref mo, .ref qw, .int 0, .int 0] (fun q => mo ≤ q ∧ q < mo + 23) (none) (fun H1 => ∃ p s, mAt g mo qw p s H1 ∧ p 0 = p0 0) := by
  refine MM.of (by decide +kernel) (Nat.le_of_ble_eq_true rfl) ?_
  intro p e s m below meth cd X hH ls hl
  have X : CX g p s m _ meth cd c_Model_back 4 none R_Model _ := X
  have hl : lv_has ls 4 [(0, .ref mo), (1, .ref qw), (2, .int 0), (3, .int 0)] := hl
  have hS : va_S (AA (fun q => mo ≤ q ∧ q < mo + 23) H0) H0 H0 [] := va_S.rf
  have hlt0 := hM.lt
  have htq0 := hM.tq
  refine lv_aload_n X.x X.b d_Model_back_0 rfl (lv_at hl 0 rfl) ?_
  refine lv_aload_n X.x X.b d_Model_back_1 rfl (lv_at hl 1 rfl) ?_
  refine m_put X ok_Model hS (Or.inl ⟨by omega, by omega⟩) hM.1 1 (by decide) k_Model_9 rfl (ok_Model.2.2.1 _ (by decide)) rfl rfl (Nat.le_of_ble_eq_true rfl) d_Model_back_2 (fun H locs hp hcg hS => ?_)
  have hM := hM.q hp hcg hq1 hqm
  obtain ⟨s_1, es_1⟩ : ∃ z, z = updR s0 1 r0 := ⟨_, rfl⟩
  rw [← es_1] at hM
  refine lv_aload_n X.x X.b d_Model_back_5 rfl (lv_at hl 0 rfl) ?_
  refine m_get (v := .ref (mo + 2)) X ok_Model hM.1 2 (by decide) k_Model_13 rfl d_Model_back_6 ?_
  refine lv_iload_n X.x X.b d_Model_back_9 rfl (lv_at hl 2 rfl) ?_
  refine lv_iload_n X.x X.b d_Model_back_10 rfl (lv_at hl 3 rfl) ?_
  refine m_ist X hS (Or.inl ⟨by omega, by omega⟩) hM.a2 0 rfl (by omega) (by decide) d_Model_back_11 (fun H locs hp hcg hS => ?_)
  have hM := hM.s2 hp hcg
  obtain ⟨s_2, es_2⟩ : ∃ z, z = updR s_1 2 (upd (s_1 2) 0 0) := ⟨_, rfl⟩
  rw [← es_2] at hM
  refine lv_aload_n X.x X.b d_Model_back_12 rfl (lv_at hl 0 rfl) ?_
  have hR := M_Model_assemble_F l g hM (show s_2 2 0 = 0 from (by rw [es_2, updR_hit]))
  refine m_callV X hS hR v_Model_77 hM.1 rfl rfl rfl (Nat.le_of_ble_eq_true rfl) hl.1 d_Model_back_13 (by omega) (by decide) ⟨by omega, by omega⟩ (fun q z => z.elim (fun z => by have z : mo ≤ q ∧ q < mo + 23 := z; exact Or.inl ⟨by omega, by omega⟩) (fun z => Or.inr (Nat.le_trans hS.1 z))) (fun H locs hq hfr hS => ?_)
  obtain ⟨p_3, s_4, hM, hA0, -⟩ := hq
  exact m_vret X hS (by omega) (by omega) d_Model_back_16 rfl ⟨_, _, hM, (by rw [hA0])⟩
set_option maxRecDepth 100000 in
set_option maxHeartbeats 4000000 in
theorem M_Model_longBy_n1 (l : Launch) (g : GG) {mo tq : Nat} {p0 : Nat → Int32} {s0 : Nat → Nat → Int32} {H0 : Heap} (hM : mAt g mo tq p0 s0 H0) (hf : frP p0 s0) (hn : noL s0) {it : Int32} (hi : ¬ (0 ≤ it ∧ it ≤ 0)) (n : Int32) : MM l y_Model_longBy c_Model_longBy 7 (some .int) 5 0 0 g H0 [.ref mo, .int it, .int n] (fun q => mo ≤ q ∧ q < mo + 23) (some (.int 0)) (fun H1 => ∃ t p s, mAt g mo t p s H1 ∧ p 0 = 1) := by
  refine MM.of (by decide +kernel) (Nat.le_of_ble_eq_true rfl) ?_
  intro p e s m below meth cd X hH ls hl
  have X : CX g p s m _ meth cd c_Model_longBy 7 (some .int) R_Model _ := X
  have hl : lv_has ls 7 [(0, .ref mo), (1, .int it), (2, .int n)] := hl
  have hS : va_S (AA (fun q => mo ≤ q ∧ q < mo + 23) H0) H0 H0 [] := va_S.rf
  have hlt0 := hM.lt
  have htq0 := hM.tq
  obtain ⟨⟨hf3, hf4, hf5, hf6, hf7⟩, ⟨g8, g11, g12, g13, g14, g141, g15, g23, g24⟩, gj⟩ := hf
  refine lv_aload_n X.x X.b d_Model_longBy_0 rfl (lv_at hl 0 rfl) ?_
  refine lv_iconst (v := 0) X.x X.b d_Model_longBy_1 (by decide) ?_
  refine m_put X ok_Model hS (Or.inl ⟨by omega, by omega⟩) hM.1 0 (by decide) k_Model_80 rfl (ok_Model.2.2.1 _ (by decide)) rfl rfl (Nat.le_of_ble_eq_true rfl) d_Model_longBy_2 (fun H locs hp hcg hS => ?_)
  have hM := hM.f0 hp hcg
  obtain ⟨p_1, ep_1⟩ : ∃ z, z = upd p0 0 0 := ⟨_, rfl⟩
  rw [← ep_1] at hM
  refine lv_iload_n X.x X.b d_Model_longBy_5 rfl (lv_at hl 1 rfl) ?_
  refine lv_iconst (v := 0) X.x X.b d_Model_longBy_6 (by decide) ?_
  refine lv_aload_n X.x X.b d_Model_longBy_7 rfl (lv_at hl 0 rfl) ?_
  refine m_get (v := .ref (mo + 2)) X ok_Model hM.1 2 (by decide) k_Model_13 rfl d_Model_longBy_8 ?_
  refine lv_iconst (v := 0) X.x X.b d_Model_longBy_11 (by decide) ?_
  refine m_ild (v := 0) X hM.a2 0 rfl (by omega) (by decide) (show s0 2 0 = 0 from (by rw [hn 0 (by omega)])) d_Model_longBy_12 ?_
  refine m_callSP X hS (MP_ans (M_Model_isIn l g it 0 0) (show b2i (0 ≤ it ∧ it ≤ 0) = 0 from b2i_f hi)) s_Model_84 rfl rfl (Nat.le_of_ble_eq_true rfl) hl.1 d_Model_longBy_13 (by omega) (by decide) ⟨by omega, by omega⟩ (fun locs hS => ?_)
  refine lv_if_ne (tgt := 25) X.x X.b d_Model_longBy_16 (by decide) (fun c1 => ?_) (fun c1 => ?_)
  · exact absurd c1 (by decide)
  · skip
    refine lv_aload_n X.x X.b d_Model_longBy_19 rfl (lv_at hl 0 rfl) ?_
    refine lv_iconst (v := 1) X.x X.b d_Model_longBy_20 (by decide) ?_
    have hR := M_Model_no l g hM 1
    refine m_callM X hS hR v_Model_100 hM.1 rfl rfl rfl (Nat.le_of_ble_eq_true rfl) hl.1 d_Model_longBy_21 (by omega) (by decide) ⟨by omega, by omega⟩ (fun q z => by have z : mo ≤ q ∧ q < mo + 23 := z; exact ⟨by omega, by omega⟩) (fun H locs hM hfr hS => ?_)
    obtain ⟨p_2, ep_2⟩ : ∃ z, z = upd p_1 0 1 := ⟨_, rfl⟩
    rw [← ep_2] at hM
    exact m_iret X hS (by omega) (by omega) d_Model_longBy_24 rfl ⟨_, _, _, hM, (by rw [ep_2, upd_hit])⟩
set_option maxRecDepth 100000 in
set_option maxHeartbeats 4000000 in
theorem M_Model_longBy_n2 (l : Launch) (g : GG) {mo tq : Nat} {p0 : Nat → Int32} {s0 : Nat → Nat → Int32} {H0 : Heap} (hM : mAt g mo tq p0 s0 H0) (hf : frP p0 s0) (hn : noL s0) {n : Int32} (hn2 : ¬ (1 ≤ n ∧ n ≤ 20)) : MM l y_Model_longBy c_Model_longBy 7 (some .int) 5 0 0 g H0 [.ref mo, .int 0, .int n] (fun q => mo ≤ q ∧ q < mo + 23) (some (.int 0)) (fun H1 => ∃ t p s, mAt g mo t p s H1 ∧ p 0 = 2) := by
  refine MM.of (by decide +kernel) (Nat.le_of_ble_eq_true rfl) ?_
  intro p e s m below meth cd X hH ls hl
  have X : CX g p s m _ meth cd c_Model_longBy 7 (some .int) R_Model _ := X
  have hl : lv_has ls 7 [(0, .ref mo), (1, .int 0), (2, .int n)] := hl
  have hS : va_S (AA (fun q => mo ≤ q ∧ q < mo + 23) H0) H0 H0 [] := va_S.rf
  have hlt0 := hM.lt
  have htq0 := hM.tq
  obtain ⟨⟨hf3, hf4, hf5, hf6, hf7⟩, ⟨g8, g11, g12, g13, g14, g141, g15, g23, g24⟩, gj⟩ := hf
  refine lv_aload_n X.x X.b d_Model_longBy_0 rfl (lv_at hl 0 rfl) ?_
  refine lv_iconst (v := 0) X.x X.b d_Model_longBy_1 (by decide) ?_
  refine m_put X ok_Model hS (Or.inl ⟨by omega, by omega⟩) hM.1 0 (by decide) k_Model_80 rfl (ok_Model.2.2.1 _ (by decide)) rfl rfl (Nat.le_of_ble_eq_true rfl) d_Model_longBy_2 (fun H locs hp hcg hS => ?_)
  have hM := hM.f0 hp hcg
  obtain ⟨p_1, ep_1⟩ : ∃ z, z = upd p0 0 0 := ⟨_, rfl⟩
  rw [← ep_1] at hM
  refine lv_iload_n X.x X.b d_Model_longBy_5 rfl (lv_at hl 1 rfl) ?_
  refine lv_iconst (v := 0) X.x X.b d_Model_longBy_6 (by decide) ?_
  refine lv_aload_n X.x X.b d_Model_longBy_7 rfl (lv_at hl 0 rfl) ?_
  refine m_get (v := .ref (mo + 2)) X ok_Model hM.1 2 (by decide) k_Model_13 rfl d_Model_longBy_8 ?_
  refine lv_iconst (v := 0) X.x X.b d_Model_longBy_11 (by decide) ?_
  refine m_ild (v := 0) X hM.a2 0 rfl (by omega) (by decide) (show s0 2 0 = 0 from (by rw [hn 0 (by omega)])) d_Model_longBy_12 ?_
  refine m_callSP X hS (MP_ans (M_Model_isIn l g 0 0 0) (show b2i (0 ≤ 0 ∧ 0 ≤ 0) = 1 from by decide)) s_Model_84 rfl rfl (Nat.le_of_ble_eq_true rfl) hl.1 d_Model_longBy_13 (by omega) (by decide) ⟨by omega, by omega⟩ (fun locs hS => ?_)
  refine lv_if_ne (tgt := 25) X.x X.b d_Model_longBy_16 (by decide) (fun c1 => ?_) (fun c1 => ?_)
  · skip
    refine lv_iload_n X.x X.b d_Model_longBy_25 rfl (lv_at hl 2 rfl) ?_
    refine lv_iconst (v := 1) X.x X.b d_Model_longBy_26 (by decide) ?_
    refine lv_bipush (v := 20) X.x X.b d_Model_longBy_27 (by decide) ?_
    refine m_callSP X hS (MP_ans (M_Model_isIn l g n 1 20) (show b2i (1 ≤ n ∧ n ≤ 20) = 0 from b2i_f hn2)) s_Model_84 rfl rfl (Nat.le_of_ble_eq_true rfl) hl.1 d_Model_longBy_29 (by omega) (by decide) ⟨by omega, by omega⟩ (fun locs hS => ?_)
    refine lv_if_ne (tgt := 41) X.x X.b d_Model_longBy_32 (by decide) (fun c2 => ?_) (fun c2 => ?_)
    · exact absurd c2 (by decide)
    · skip
      refine lv_aload_n X.x X.b d_Model_longBy_35 rfl (lv_at hl 0 rfl) ?_
      refine lv_iconst (v := 2) X.x X.b d_Model_longBy_36 (by decide) ?_
      have hR := M_Model_no l g hM 2
      refine m_callM X hS hR v_Model_100 hM.1 rfl rfl rfl (Nat.le_of_ble_eq_true rfl) hl.1 d_Model_longBy_37 (by omega) (by decide) ⟨by omega, by omega⟩ (fun q z => by have z : mo ≤ q ∧ q < mo + 23 := z; exact ⟨by omega, by omega⟩) (fun H locs hM hfr hS => ?_)
      obtain ⟨p_2, ep_2⟩ : ∃ z, z = upd p_1 0 2 := ⟨_, rfl⟩
      rw [← ep_2] at hM
      exact m_iret X hS (by omega) (by omega) d_Model_longBy_40 rfl ⟨_, _, _, hM, (by rw [ep_2, upd_hit])⟩
  · exact absurd c1 (by decide)
set_option maxRecDepth 100000 in
set_option maxHeartbeats 4000000 in
theorem M_Model_longBy_ok (l : Launch) (g : GG) {mo tq : Nat} {p0 : Nat → Int32} {s0 : Nat → Nat → Int32} {H0 : Heap} (hM : mAt g mo tq p0 s0 H0) (hf : frP p0 s0) (hn : noL s0) {c : Nat} (hc1 : 1 ≤ c) (hc : c ≤ 20) : MM l y_Model_longBy c_Model_longBy 7 (some .int) 10 9 2124 g H0 [.ref mo, .int 0, .int (nI c)] (fun q => (mo ≤ q ∧ q < mo + 23) ∨ q = tq) (some (.int 0)) (fun H1 => ∃ t p s, mAt g mo t p s H1 ∧ p 0 = 0) := by
  refine MM.of (by decide +kernel) (Nat.le_of_ble_eq_true rfl) ?_
  intro p e s m below meth cd X hH ls hl
  have X : CX g p s m _ meth cd c_Model_longBy 7 (some .int) R_Model _ := X
  have hl : lv_has ls 7 [(0, .ref mo), (1, .int 0), (2, .int (nI c))] := hl
  have hS : va_S (AA (fun q => (mo ≤ q ∧ q < mo + 23) ∨ q = tq) H0) H0 H0 [] := va_S.rf
  have hlt0 := hM.lt
  have htq0 := hM.tq
  obtain ⟨⟨hf3, hf4, hf5, hf6, hf7⟩, ⟨g8, g11, g12, g13, g14, g141, g15, g23, g24⟩, gj⟩ := hf
  refine lv_aload_n X.x X.b d_Model_longBy_0 rfl (lv_at hl 0 rfl) ?_
  refine lv_iconst (v := 0) X.x X.b d_Model_longBy_1 (by decide) ?_
  refine m_put X ok_Model hS (Or.inl (Or.inl ⟨by omega, by omega⟩)) hM.1 0 (by decide) k_Model_80 rfl (ok_Model.2.2.1 _ (by decide)) rfl rfl (Nat.le_of_ble_eq_true rfl) d_Model_longBy_2 (fun H locs hp hcg hS => ?_)
  have hM := hM.f0 hp hcg
  obtain ⟨p_1, ep_1⟩ : ∃ z, z = upd p0 0 0 := ⟨_, rfl⟩
  rw [← ep_1] at hM
  refine lv_iload_n X.x X.b d_Model_longBy_5 rfl (lv_at hl 1 rfl) ?_
  refine lv_iconst (v := 0) X.x X.b d_Model_longBy_6 (by decide) ?_
  refine lv_aload_n X.x X.b d_Model_longBy_7 rfl (lv_at hl 0 rfl) ?_
  refine m_get (v := .ref (mo + 2)) X ok_Model hM.1 2 (by decide) k_Model_13 rfl d_Model_longBy_8 ?_
  refine lv_iconst (v := 0) X.x X.b d_Model_longBy_11 (by decide) ?_
  refine m_ild (v := 0) X hM.a2 0 rfl (by omega) (by decide) (show s0 2 0 = 0 from (by rw [hn 0 (by omega)])) d_Model_longBy_12 ?_
  refine m_callSP X hS (MP_ans (M_Model_isIn l g 0 0 0) (show b2i (0 ≤ 0 ∧ 0 ≤ 0) = 1 from by decide)) s_Model_84 rfl rfl (Nat.le_of_ble_eq_true rfl) hl.1 d_Model_longBy_13 (by omega) (by decide) ⟨by omega, by omega⟩ (fun locs hS => ?_)
  refine lv_if_ne (tgt := 25) X.x X.b d_Model_longBy_16 (by decide) (fun c1 => ?_) (fun c1 => ?_)
  · skip
    refine lv_iload_n X.x X.b d_Model_longBy_25 rfl (lv_at hl 2 rfl) ?_
    refine lv_iconst (v := 1) X.x X.b d_Model_longBy_26 (by decide) ?_
    refine lv_bipush (v := 20) X.x X.b d_Model_longBy_27 (by decide) ?_
    refine m_callSP X hS (MP_ans (M_Model_isIn l g (nI c) 1 20) (show b2i (1 ≤ (nI c) ∧ (nI c) ≤ 20) = 1 from b2i_t ⟨(nI_leI (a := 1) (by omega) (by omega)).mpr hc1, (nI_leI (b := 20) (by omega) (by omega)).mpr hc⟩)) s_Model_84 rfl rfl (Nat.le_of_ble_eq_true rfl) hl.1 d_Model_longBy_29 (by omega) (by decide) ⟨by omega, by omega⟩ (fun locs hS => ?_)
    refine lv_if_ne (tgt := 41) X.x X.b d_Model_longBy_32 (by decide) (fun c2 => ?_) (fun c2 => ?_)
    · skip
      refine lv_aload_n X.x X.b d_Model_longBy_41 rfl (lv_at hl 0 rfl) ?_
      refine m_get (v := .int 0) X ok_Model hM.1 3 (by decide) k_Model_126 (congrArg (fun z => some (Value.int z)) (show p_1 3 = 0 from (by rw [ep_1, upd_mi _ _ _ (show 3 ≠ 0 by decide), hf3]))) d_Model_longBy_42 ?_
      refine lv_if_le (tgt := 50) X.x X.b d_Model_longBy_45 (by decide) (fun c3 => ?_) (fun c3 => ?_)
      · skip
        have c3q := Int32.not_lt.mpr c3
        refine lv_aload_n X.x X.b d_Model_longBy_50 rfl (lv_at hl 0 rfl) ?_
        refine lv_iconst (v := 5) X.x X.b d_Model_longBy_51 (by decide) ?_
        refine m_callP X hS (M_Model_sum l g hM (show frP p_1 s0 from ⟨⟨(by rw [ep_1, upd_mi _ _ _ (show 3 ≠ 0 by decide), hf3]), (by rw [ep_1, upd_mi _ _ _ (show 4 ≠ 0 by decide), hf4]), (by rw [ep_1, upd_mi _ _ _ (show 5 ≠ 0 by decide), hf5]), (by rw [ep_1, upd_mi _ _ _ (show 6 ≠ 0 by decide), hf6]), (by rw [ep_1, upd_mi _ _ _ (show 7 ≠ 0 by decide), hf7])⟩, ⟨g8, g11, g12, g13, g14, g141, g15, g23, g24⟩, gj⟩) hn 5) v_Model_225 hM.1 rfl rfl rfl (Nat.le_of_ble_eq_true rfl) hl.1 d_Model_longBy_52 (by omega) (by decide) ⟨by omega, by omega⟩ (fun locs hS => ?_)
        refine lv_istore_n (lv' := [(3, .int 0), (0, .ref mo), (1, .int 0), (2, .int (nI c))]) X.x X.b d_Model_longBy_55 rfl hl (by decide) rfl (fun ls hl => ?_)
        refine lv_aload_n X.x X.b d_Model_longBy_56 rfl (lv_at hl 1 rfl) ?_
        obtain ⟨qw, hqw⟩ := sz_of hS
        have hltw := hM.lt
        have hszw := hS.1
        have hR := M_Model_keep l g hM hqw
        refine m_callV X hS hR v_Model_231 hM.1 rfl rfl rfl (Nat.le_of_ble_eq_true rfl) hl.1 d_Model_longBy_57 (by omega) (by decide) ⟨by omega, by omega⟩ (fun q z => z.elim (fun z => z.elim) (fun z => Or.inr (Nat.le_trans hS.1 z))) (fun H locs hq hfr hS => ?_)
        obtain ⟨hM, r1, hq1⟩ := hq
        refine lv_astore (lv' := [(4, .ref qw), (3, .int 0), (0, .ref mo), (1, .int 0), (2, .int (nI c))]) X.x X.b d_Model_longBy_60 hl (by decide) rfl (fun ls hl => ?_)
        refine lv_aload_n X.x X.b d_Model_longBy_62 rfl (lv_at hl 2 rfl) ?_
        refine m_get (v := .ref (mo + 2)) X ok_Model hM.1 2 (by decide) k_Model_13 rfl d_Model_longBy_63 ?_
        refine lv_iconst (v := 0) X.x X.b d_Model_longBy_66 (by decide) ?_
        refine m_ild (v := 0) X hM.a2 0 rfl (by omega) (by decide) (show s0 2 0 = 0 from (by rw [hn 0 (by omega)])) d_Model_longBy_67 ?_
        refine lv_istore (lv' := [(5, .int 0), (4, .ref qw), (3, .int 0), (0, .ref mo), (1, .int 0), (2, .int (nI c))]) X.x X.b d_Model_longBy_68 hl (by decide) rfl (fun ls hl => ?_)
        refine lv_aload X.x X.b d_Model_longBy_70 (lv_at hl 1 rfl) ?_
        refine lv_iconst (v := 0) X.x X.b d_Model_longBy_72 (by decide) ?_
        refine lv_iload_n X.x X.b d_Model_longBy_73 rfl (lv_at hl 4 rfl) ?_
        refine m_callSP X hS (MP_ans (M_Model_at l g 0 0) (show (((0 : Int32) * 64 + 0) * 5) = 0 from by decide)) s_Model_96 rfl rfl (Nat.le_of_ble_eq_true rfl) hl.1 d_Model_longBy_74 (by omega) (by decide) ⟨by omega, by omega⟩ (fun locs hS => ?_)
        refine lv_aload_n X.x X.b d_Model_longBy_77 rfl (lv_at hl 3 rfl) ?_
        refine m_get (v := .ref tq) X ok_Model hM.1 1 (by decide) k_Model_9 rfl d_Model_longBy_78 ?_
        refine lv_iconst (v := 0) X.x X.b d_Model_longBy_81 (by decide) ?_
        refine lv_iload_n X.x X.b d_Model_longBy_82 rfl (lv_at hl 4 rfl) ?_
        refine lv_iload_n X.x X.b d_Model_longBy_83 rfl (lv_at hl 5 rfl) ?_
        refine lv_iadd X.x X.b d_Model_longBy_84 ?_
        rw [show (0 + (nI c) : Int32) = nI c from Int32.zero_add _]
        refine m_callSP X hS (show MP l y_Model_at c_Model_at 2 (some .int) 0 g _ [.int 0, .int (nI c)] (some (.int (nI (5 * c)))) from (by have z := M_Model_at (H0 := H) l g 0 (nI c); rw [at0 c] at z; exact z)) s_Model_96 rfl rfl (Nat.le_of_ble_eq_true rfl) hl.1 d_Model_longBy_85 (by omega) (by decide) ⟨by omega, by omega⟩ (fun locs hS => ?_)
        refine lv_iload X.x X.b d_Model_longBy_88 (lv_at hl 0 rfl) ?_
        refine lv_iload_n X.x X.b d_Model_longBy_90 rfl (lv_at hl 4 rfl) ?_
        refine lv_isub X.x X.b d_Model_longBy_91 ?_
        rw [show (0 - 0 : Int32) = 0 from by decide]
        refine lv_iconst (v := 5) X.x X.b d_Model_longBy_92 (by decide) ?_
        refine lv_imul X.x X.b d_Model_longBy_93 ?_
        rw [show (0 * 5 : Int32) = 0 from by decide]
        refine m_copyi X wcopyM hS (Or.inl (Or.inr rfl)) hq1 hM.a1 (by decide) (Int32.not_lt.mpr (nI_pos' (by omega))) (by decide) (by decide) (by rw [nI_clamp (by omega)]; show 5 * c + 0 ≤ 1600; omega) hl.1 (Nat.le_of_ble_eq_true rfl) (Nat.le_of_ble_eq_true rfl) d_Model_longBy_94 (fun H locs r2 hp hcg hS => ?_)
        have hM := hM.s1 hp hcg
        have hq1 := hq1.off hcg (by have := hM.tq; omega)
        obtain ⟨sC, esC⟩ : ∃ z, z = updR s0 1 r2 := ⟨_, rfl⟩
        rw [← esC] at hM
        have hs2 : sC 2 0 = 0 := (by rw [esC, updR_mf _ _ _ (show 2 ≠ 1 by decide), hn 0 (by omega)])
        refine lv_iconst (v := 0) X.x X.b d_Model_longBy_97 (by decide) ?_
        refine lv_istore (lv' := [(6, .int 0), (5, .int 0), (4, .ref qw), (3, .int 0), (0, .ref mo), (1, .int 0), (2, .int (nI c))]) X.x X.b d_Model_longBy_98 hl (by decide) rfl (fun ls hl => ?_)
        have lp : ∀ (n i : Nat) (ss : Nat → Nat → Int32), n = c - i → i < 5000 → (same [1] sC ss ∧ dL i ss ∧ i ≤ c) → ∀ (H : Heap) (locs : List Loc) (ls : Array Slot), mAt g mo tq p_1 ss H → pt g qw (.inl (g.2 0, 1600, .inl r1)) H → va_S (AA (fun q => (mo ≤ q ∧ q < mo + 23) ∨ q = tq) H0) H0 H locs → lv_has ls 7 [(0, .ref mo), (1, .int 0), (2, .int (nI c)), (3, .int 0), (4, .ref qw), (5, .int 0), (6, .int (nI i))] → W p l e (rmK 10 9 2124) s m ([.ref mo, .int 0, .int (nI c)] : List Value).toArray below meth cd H locs (0 + 1) (0 + 1600) (MQ below (QM (some (.int 0)) (fun H1 => ∃ t p s, mAt g mo t p s H1 ∧ p 0 = 0) (fun q => (mo ≤ q ∧ q < mo + 23) ∨ q = tq) H0) ([.ref mo, .int 0, .int (nI c)] : List Value).toArray s 9 2124 (AA (fun q => (mo ≤ q ∧ q < mo + 23) ∨ q = tq) H0)) (F0 m 100 ls []) := by
          intro n
          induction n with
          | zero =>
            intro i ss hin hi5 hE H locs ls hM hq1 hS hl
            refine lv_iload X.x X.b d_Model_longBy_100 (lv_at hl 6 rfl) ?_
            refine lv_iload_n X.x X.b d_Model_longBy_102 rfl (lv_at hl 2 rfl) ?_
            refine lv_icmp_ge (tgt := 126) X.x X.b d_Model_longBy_103 (by decide) (fun c4 => ?_) (fun c4 => ?_)
            · skip
              have c4q := Int32.not_lt.mpr c4
              refine lv_aload_n X.x X.b d_Model_longBy_126 rfl (lv_at hl 0 rfl) ?_
              refine m_get (v := .ref (mo + 2)) X ok_Model hM.1 2 (by decide) k_Model_13 rfl d_Model_longBy_127 ?_
              refine lv_iconst (v := 0) X.x X.b d_Model_longBy_130 (by decide) ?_
              refine lv_iload X.x X.b d_Model_longBy_131 (lv_at hl 5 rfl) ?_
              refine lv_iload_n X.x X.b d_Model_longBy_133 rfl (lv_at hl 2 rfl) ?_
              refine lv_iadd X.x X.b d_Model_longBy_134 ?_
              rw [show (0 + (nI c) : Int32) = nI c from Int32.zero_add _]
              refine m_ist X hS (Or.inl (Or.inl ⟨by omega, by omega⟩)) hM.a2 0 rfl (by omega) (by decide) d_Model_longBy_135 (fun H locs hp hcg hS => ?_)
              have hM := hM.s2 hp hcg
              obtain ⟨s_2, es_2⟩ : ∃ z, z = updR ss 2 (upd (ss 2) 0 (nI c)) := ⟨_, rfl⟩
              rw [← es_2] at hM
              have hq1 := hq1.off hcg (by omega)
              refine lv_aload_n X.x X.b d_Model_longBy_136 rfl (lv_at hl 0 rfl) ?_
              have hx : c = i := by omega
              subst hx
              have hD : dLn c s_2 := ⟨by rw [es_2]; exact updR_hit _ _ _ _, fun t ht => by rw [es_2, updR_mf _ _ _ (show 1 ≠ 2 by decide)]; exact hE.2.1 t ht⟩
              have hR := M_Model_assemble_D l g hM (by omega) (by omega) hD
              refine m_callV X hS hR v_Model_77 hM.1 rfl rfl rfl (Nat.le_of_ble_eq_true rfl) hl.1 d_Model_longBy_137 (by omega) (by decide) ⟨by omega, by omega⟩ (fun q z => z.elim (fun z => by have z : mo ≤ q ∧ q < mo + 23 := z; exact Or.inl (Or.inl ⟨by omega, by omega⟩)) (fun z => Or.inr (Nat.le_trans hS.1 z))) (fun H locs hq hfr hS => ?_)
              have hq1 := hq1.fr hfr (fun z => by have z : mo ≤ qw ∧ qw < mo + 23 := z; omega)
              obtain ⟨p_3, s_4, hM, hA0, -, -, hB3, hB5, hB23⟩ := hq
              refine lv_aload_n X.x X.b d_Model_longBy_140 rfl (lv_at hl 0 rfl) ?_
              refine m_get (v := .int 0) X ok_Model hM.1 3 (by decide) k_Model_126 (congrArg (fun z => some (Value.int z)) (show p_3 3 = 0 from (by rw [hB3]))) d_Model_longBy_141 ?_
              refine lv_if_le (tgt := 158) X.x X.b d_Model_longBy_144 (by decide) (fun c5 => ?_) (fun c5 => ?_)
              · skip
                have c5q := Int32.not_lt.mpr c5
                refine lv_aload_n X.x X.b d_Model_longBy_158 rfl (lv_at hl 0 rfl) ?_
                refine lv_iconst (v := 5) X.x X.b d_Model_longBy_159 (by decide) ?_
                refine m_callP X hS (M_Model_sum_5 l g hM (by omega) (by rw [hB5]) hB23) v_Model_225 hM.1 rfl rfl rfl (Nat.le_of_ble_eq_true rfl) hl.1 d_Model_longBy_160 (by omega) (by decide) ⟨by omega, by omega⟩ (fun locs hS => ?_)
                refine lv_iload_n X.x X.b d_Model_longBy_163 rfl (lv_at hl 3 rfl) ?_
                refine lv_isub X.x X.b d_Model_longBy_164 ?_
                rw [show (0 - 0 : Int32) = 0 from by decide]
                refine lv_istore (lv' := [(6, .int 0), (0, .ref mo), (1, .int 0), (2, .int (nI c)), (3, .int 0), (4, .ref qw), (5, .int 0)]) X.x X.b d_Model_longBy_165 hl (by decide) rfl (fun ls hl => ?_)
                refine lv_aload_n X.x X.b d_Model_longBy_167 rfl (lv_at hl 1 rfl) ?_
                refine lv_aload X.x X.b d_Model_longBy_168 (lv_at hl 5 rfl) ?_
                refine lv_iconst (v := 0) X.x X.b d_Model_longBy_170 (by decide) ?_
                refine lv_iload X.x X.b d_Model_longBy_171 (lv_at hl 6 rfl) ?_
                have hR := M_Model_back l g hM hq1 (by omega)
                refine m_callV X hS hR v_Model_239 hM.1 rfl rfl rfl (Nat.le_of_ble_eq_true rfl) hl.1 d_Model_longBy_173 (by omega) (by decide) ⟨by omega, by omega⟩ (fun q z => z.elim (fun z => by have z : mo ≤ q ∧ q < mo + 23 := z; exact Or.inl (Or.inl ⟨by omega, by omega⟩)) (fun z => Or.inr (Nat.le_trans hS.1 z))) (fun H locs hq hfr hS => ?_)
                obtain ⟨p_5, s_6, hM, hC0⟩ := hq
                refine lv_iload X.x X.b d_Model_longBy_176 (lv_at hl 0 rfl) ?_
                exact m_iret X hS (by omega) (by omega) d_Model_longBy_178 rfl ⟨_, _, _, hM, (by rw [hC0, hA0, ep_1, upd_hit])⟩
              · exact absurd c3 c5
            · exact absurd ((nI_leI (a := c) (b := i) (by omega) (by omega)).mpr (by omega)) c4
          | succ n ih =>
            intro i ss hin hi5 hE H locs ls hM hq1 hS hl
            refine lv_iload X.x X.b d_Model_longBy_100 (lv_at hl 6 rfl) ?_
            refine lv_iload_n X.x X.b d_Model_longBy_102 rfl (lv_at hl 2 rfl) ?_
            refine lv_icmp_ge (tgt := 126) X.x X.b d_Model_longBy_103 (by decide) (fun c6 => ?_) (fun c6 => ?_)
            · exact absurd ((nI_leI (a := c) (b := i) (by omega) (by omega)).mp c6) (by omega)
            · skip
              have c6q := Int32.not_le.mp c6
              refine lv_aload_n X.x X.b d_Model_longBy_106 rfl (lv_at hl 0 rfl) ?_
              refine lv_iconst (v := 0) X.x X.b d_Model_longBy_107 (by decide) ?_
              refine lv_iload_n X.x X.b d_Model_longBy_108 rfl (lv_at hl 1 rfl) ?_
              refine lv_iload X.x X.b d_Model_longBy_109 (lv_at hl 6 rfl) ?_
              refine lv_iadd X.x X.b d_Model_longBy_111 ?_
              rw [show (0 + (nI i) : Int32) = nI i from Int32.zero_add _]
              refine lv_iconst (v := 2) X.x X.b d_Model_longBy_112 (by decide) ?_
              refine lv_iconst (v := -1) X.x X.b d_Model_longBy_113 (by decide) ?_
              refine lv_iconst (v := -1) X.x X.b d_Model_longBy_114 (by decide) ?_
              refine lv_iconst (v := 0) X.x X.b d_Model_longBy_115 (by decide) ?_
              refine lv_iconst (v := 0) X.x X.b d_Model_longBy_116 (by decide) ?_
              have hR := M_Model_write (r := 0) (t := i) l g hM (by omega) (by omega) 2 (-1) (-1) 0 0 (Or.inl rfl)
              refine m_callM X hS hR v_Model_108 hM.1 rfl rfl rfl (Nat.le_of_ble_eq_true rfl) hl.1 d_Model_longBy_117 (by omega) (by decide) ⟨by omega, by omega⟩ (fun q z => by have z : q = tq := z; exact Or.inr z) (fun H locs hM hfr hS => ?_)
              have hq1 := hq1.fr hfr (fun z => by have z : qw = tq := z; omega)
              refine lv_iinc (v := nI (i + 1)) (lv' := [(6, .int (nI (i + 1))), (0, .ref mo), (1, .int 0), (2, .int (nI c)), (3, .int 0), (4, .ref qw), (5, .int 0)]) X.x X.b d_Model_longBy_120 hl (k := 6) rfl (nI_1 i) (by decide) rfl (fun ls hl => ?_)
              refine lv_goto (tgt := 100) X.x X.b d_Model_longBy_123 (by decide) ?_
              exact ih (i + 1) (wrR ss ((0 * 64 + i) * 5) 2 (-1) (-1) 0 0) (by omega) (by omega) (⟨fun f hf => (wrR_o ss _ 2 (-1) (-1) 0 0 f hf).trans (hE.1 f hf), hE.2.1.step, by omega⟩) _ _ _ hM hq1 hS (lv_sub hl [1, 2, 3, 4, 5, 6, 0] rfl)
        exact lp c 0 sC (by omega) (by omega) (⟨same.rf _ _, fun t ht => absurd ht (Nat.not_lt_zero t), Nat.zero_le _⟩) _ _ _ hM hq1 hS (lv_sub hl [4, 5, 6, 3, 2, 1, 0] rfl)
      · exact absurd c3 (by decide)
    · exact absurd c2 c1
  · exact absurd c1 (by decide)
