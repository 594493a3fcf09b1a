-- WHAT THE REFERENCE DOES WHEN NOTHING HAS BEEN TOLD
/-- one LINE of any kind, assembled -/
theorem M_Model_assemble_one (l : Launch) (g : GG) {mo tq : Nat} {p0 : Nat → Int32} {s0 : Nat → Nat → Int32} {H0 : Heap} (hM : mAt g mo tq p0 s0 H0) {k x y v_ r : Int32} (hL : oneL k x y v_ r s0) (hok : lnOk k x y v_ r) : MM l y_Model_assemble c_Model_assemble 2 none 6 4 262 g H0 [.ref mo] (fun q => mo ≤ q ∧ q < mo + 23) none (fun H1 => ∃ p s, mAt g mo tq p s H1 ∧ p 0 = p0 0 ∧ s 2 = s0 2) := by
  obtain ⟨hk, hx, hy, hn, -⟩ := hok
  have hk' : ∃ j, j < 11 ∧ k = nI j := by
    rcases pk_ix k (show (11 : Nat) < 2 ^ 31 by omega) with z | z | z
    · exact absurd hk.1 (Int32.not_le.mpr z)
    · exact absurd (Int32.lt_of_le_of_lt hk.2 (by decide : (10 : Int32) < 11)) (Int32.not_lt.mpr z)
    · exact z
  have nm : ∀ (z : Int32) (n : Nat), n < 100 → -1 ≤ z → z < nI n → z = -1 ∨ ∃ j, j < n ∧ z = nI j := fun z n hn h1 h2 => by
    rcases pk_ix z (show n < 2 ^ 31 by omega) with q | q | q
    · exact Or.inl (Int32.le_antisymm (by rw [Int32.le_iff_toInt_le]; rw [Int32.lt_iff_toInt_lt] at q; have q : z.toInt < 0 := q; show z.toInt ≤ -1; omega) h1)
    · exact absurd h2 (Int32.not_lt.mpr q)
    · exact Or.inr q
  obtain ⟨j, hj, rfl⟩ := hk'
  rcases (show j = 0 ∨ j = 1 ∨ j = 2 ∨ j = 3 ∨ j = 4 ∨ j = 5 ∨ j = 6 ∨ j = 7 ∨ j = 8 ∨ j = 9 ∨ j = 10 by omega) with rfl | rfl | rfl | rfl | rfl | rfl | rfl | rfl | rfl | rfl | rfl
  · have hx : 0 ≤ x ∧ x ≤ 9 := by simpa [xOk] using (show xOk 0 x from hx)
    have hy : y = -1 := by simpa [yOk] using (show yOk 0 y from hy)
    subst hy
    rcases nm x 10 (by omega) (Int32.le_trans (by decide) hx.1) (Int32.lt_of_le_of_lt hx.2 (by decide)) with rfl | ⟨i, hi, rfl⟩
    · exact absurd hx.1 (by decide)
    · by_cases z : i < 8
      · exact M_Model_assemble_L0n l g hM z hL
      · exact M_Model_assemble_L0l l g hM (by omega) (by omega) hL
  · have hx : 0 ≤ x ∧ x < 8 := by simpa [xOk] using (show xOk 1 x from hx)
    have hy : -1 ≤ y ∧ y < 8 := by simpa [yOk] using (show yOk 1 y from hy)
    rcases nm x 8 (by omega) (Int32.le_trans (by decide) hx.1) hx.2 with rfl | ⟨i, hi, rfl⟩
    · exact absurd hx.1 (by decide)
    · rcases nm y 8 (by omega) hy.1 hy.2 with rfl | ⟨i2, hi2, rfl⟩
      · exact M_Model_assemble_L1n l g hM hi hL
      · exact M_Model_assemble_L1f l g hM hi hi2 hL
  · have hx : -1 ≤ x ∧ x ≤ 11 := by simpa [xOk] using (show xOk 2 x from hx)
    have hy : -1 ≤ y ∧ y ≤ 11 := by simpa [yOk] using (show yOk 2 y from hy)
    rcases nm x 12 (by omega) hx.1 (Int32.lt_of_le_of_lt hx.2 (by decide)) with rfl | ⟨i, hi, rfl⟩ <;> rcases nm y 12 (by omega) hy.1 (Int32.lt_of_le_of_lt hy.2 (by decide)) with rfl | ⟨i2, hi2, rfl⟩
    · exact M_Model_assemble_L2o l g hM hL
    · exact M_Model_assemble_L2y l g hM (by omega) hL
    · exact M_Model_assemble_L2x l g hM (by omega) hL
    · exact M_Model_assemble_L2xy l g hM (by omega) (by omega) hL
  · have hx : -1 ≤ x ∧ x ≤ 11 := by simpa [xOk] using (show xOk 3 x from hx)
    have hy : y = -1 := by simpa [yOk] using (show yOk 3 y from hy)
    subst hy
    rcases nm x 12 (by omega) hx.1 (Int32.lt_of_le_of_lt hx.2 (by decide)) with rfl | ⟨i, hi, rfl⟩
    · exact M_Model_assemble_L3o l g hM hL
    · exact M_Model_assemble_L3x l g hM (by omega) hL
  · have hx : -1 ≤ x ∧ x ≤ 11 := by simpa [xOk] using (show xOk 4 x from hx)
    have hy : y = -1 := by simpa [yOk] using (show yOk 4 y from hy)
    subst hy
    rcases nm x 12 (by omega) hx.1 (Int32.lt_of_le_of_lt hx.2 (by decide)) with rfl | ⟨i, hi, rfl⟩
    · exact M_Model_assemble_L4o l g hM hL
    · exact M_Model_assemble_L4x l g hM (by omega) hL
  · exact M_Model_assemble_L5 l g hM hL
  · exact M_Model_assemble_L6 l g hM hL
  · have hn : v_ = 2 ∨ v_ = 4 ∨ v_ = 8 := by simpa [nOk] using (show nOk 7 v_ from hn)
    exact M_Model_assemble_L7 l g hM hL (by rcases hn with rfl | rfl | rfl <;> decide)
  · have hx : -1 ≤ x ∧ x < 8 := by simpa [xOk] using (show xOk 8 x from hx)
    have hy : -1 ≤ y ∧ y < 8 := by simpa [yOk] using (show yOk 8 y from hy)
    rcases nm x 8 (by omega) hx.1 hx.2 with rfl | ⟨i, hi, rfl⟩ <;> rcases nm y 8 (by omega) hy.1 hy.2 with rfl | ⟨i2, hi2, rfl⟩
    · exact M_Model_assemble_L8nn l g hM hL
    · exact M_Model_assemble_L8ny l g hM hi2 hL
    · exact M_Model_assemble_L8xn l g hM hi hL
    · exact M_Model_assemble_L8xy l g hM hi hi2 hL
  · exact M_Model_assemble_L9 l g hM hL
  · have hx : 0 < x ∧ x < 5 := by simpa [xOk] using (show xOk 10 x from hx)
    rcases nm x 5 (by omega) (Int32.le_of_lt (Int32.lt_of_lt_of_le (by decide : (-1 : Int32) < 0) (Int32.le_of_lt hx.1))) hx.2 with rfl | ⟨i, hi, rfl⟩
    · exact absurd hx.1 (by decide)
    · have h1 : 0 < i := (nI_ltI (a := 0) (b := i) (by omega) (by omega)).mp hx.1
      exact M_Model_assemble_L10 l g hM (by omega) (by omega) hL
theorem cb_ln (k x y n r : Int32) (hr : r = 0 ∨ r = 1) : cbOk k x y n r ↔ lnOk k x y n r := by
  have l8 : ∀ z : Int32, z ≤ 7 ↔ z < 8 := fun z => by rw [Int32.le_iff_toInt_le, Int32.lt_iff_toInt_lt]; show z.toInt ≤ 7 ↔ z.toInt < 8; omega
  have g1 : ∀ z : Int32, 1 ≤ z ↔ 0 < z := fun z => by rw [Int32.le_iff_toInt_le, Int32.lt_iff_toInt_lt]; show 1 ≤ z.toInt ↔ 0 < z.toInt; omega
  have l5 : ∀ z : Int32, z ≤ 4 ↔ z < 5 := fun z => by rw [Int32.le_iff_toInt_le, Int32.lt_iff_toInt_lt]; show z.toInt ≤ 4 ↔ z.toInt < 5; omega
  unfold cbOk lnOk chOk abOk xOk yOk nOk rOk
  by_cases h0 : k = 0
  · subst h0; simp; constructor <;> intro z <;> simp_all
  by_cases h1 : k = 1
  · subst h1; simp [l8]; constructor <;> intro z <;> simp_all
  by_cases h2 : k = 2
  · subst h2; simp; constructor <;> intro z <;> simp_all
  by_cases h3 : k = 3
  · subst h3; simp; constructor <;> intro z <;> simp_all
  by_cases h4 : k = 4
  · subst h4; simp; constructor <;> intro z <;> simp_all
  by_cases h6 : k = 6
  · subst h6; simp; constructor <;> intro z <;> simp_all
  by_cases h7 : k = 7
  · subst h7; simp; constructor <;> intro z <;> simp_all
  by_cases h8 : k = 8
  · subst h8; simp [l8]; constructor <;> intro z <;> simp_all
  by_cases h9 : k = 9
  · subst h9; simp; constructor <;> intro z <;> simp_all
  by_cases h10 : k = 10
  · subst h10; simp [g1, l5]; constructor <;> intro z <;> simp_all
  simp [h0, h1, h2, h3, h4, h6, h7, h8, h9, h10]
  constructor <;> intro z <;> simp_all
theorem wrR_o (s : Nat → Nat → Int32) (i : Nat) (k a b v d : Int32) : same [1] s (wrR s i k a b v d) := by
  unfold wrR
  exact (((((same.rf [1] s).up 1 _ (by decide)).up 1 _ (by decide)).up 1 _ (by decide)).up 1 _ (by decide)).up 1 _ (by decide)
theorem wrR_at (s : Nat → Nat → Int32) (k a b v d : Int32) : wrR s ((0 * 64 + 0) * 5) k a b v d 1 0 = k ∧ wrR s ((0 * 64 + 0) * 5) k a b v d 1 1 = a ∧ wrR s ((0 * 64 + 0) * 5) k a b v d 1 2 = b ∧ wrR s ((0 * 64 + 0) * 5) k a b v d 1 3 = v ∧ wrR s ((0 * 64 + 0) * 5) k a b v d 1 4 = d := by
  unfold wrR
  refine ⟨?_, ?_, ?_, ?_, ?_⟩ <;> simp [updR, upd]
set_option maxRecDepth 100000 in
set_option maxHeartbeats 4000000 in
theorem M_Model_add_n1 (l : Launch) (g : GG) {mo tq : Nat} {p0 : Nat → Int32} {s0 : Nat → Nat → Int32} {H0 : Heap} (hM : mAt g mo tq p0 s0 H0) (hf : frP p0 s0) (hn : noL s0) {row : Int32} (hr : ¬ (0 ≤ row ∧ row ≤ 4)) (k x y v_ d : Int32) : MM l y_Model_add c_Model_add 7 (some .int) 4 0 0 g H0 [.ref mo, .int row, .int k, .int x, .int y, .int v_, .int d] (fun q => (mo ≤ q ∧ q < mo + 23) ∨ q = tq) (some (.int 0)) (fun H1 => ∃ p s, mAt g mo tq p s H1 ∧ p 0 = 1) := by
  refine MM.of (by decide +kernel) (Nat.le_of_ble_eq_true rfl) ?_
  intro p e s m below meth cd X hH ls hl
  have X : CX g p s m _ meth cd c_Model_add 7 (some .int) R_Model _ := X
  have hl : lv_has ls 7 [(0, .ref mo), (1, .int row), (2, .int k), (3, .int x), (4, .int y), (5, .int v_), (6, .int d)] := hl
  have hS : va_S (AA (fun q => (mo ≤ q ∧ q < mo + 23) ∨ q = tq) H0) H0 H0 [] := va_S.rf
  have hlt0 := hM.lt
  have htq0 := hM.tq
  obtain ⟨⟨hf3, hf4, hf5, hf6, hf7⟩, ⟨g8, g11, g12, g13, g14, g141, g15, g23, g24⟩, gj⟩ := hf
  refine lv_aload_n X.x X.b d_Model_add_0 rfl (lv_at hl 0 rfl) ?_
  refine lv_iconst (v := 0) X.x X.b d_Model_add_1 (by decide) ?_
  refine m_put X ok_Model hS (Or.inl (Or.inl ⟨by omega, by omega⟩)) hM.1 0 (by decide) k_Model_80 rfl (ok_Model.2.2.1 _ (by decide)) rfl rfl (Nat.le_of_ble_eq_true rfl) d_Model_add_2 (fun H locs hp hcg hS => ?_)
  have hM := hM.f0 hp hcg
  obtain ⟨p_1, ep_1⟩ : ∃ z, z = upd p0 0 0 := ⟨_, rfl⟩
  rw [← ep_1] at hM
  refine lv_iload_n X.x X.b d_Model_add_5 rfl (lv_at hl 1 rfl) ?_
  refine m_callSP X hS (MP_ans (M_Model_isRow l g row) (show b2i (0 ≤ row ∧ row ≤ 4) = 0 from b2i_f hr)) s_Model_92 rfl rfl (Nat.le_of_ble_eq_true rfl) hl.1 d_Model_add_6 (by omega) (by decide) ⟨by omega, by omega⟩ (fun locs hS => ?_)
  refine lv_if_ne (tgt := 18) X.x X.b d_Model_add_9 (by decide) (fun c1 => ?_) (fun c1 => ?_)
  · exact absurd c1 (by decide)
  · skip
    refine lv_aload_n X.x X.b d_Model_add_12 rfl (lv_at hl 0 rfl) ?_
    refine lv_iconst (v := 1) X.x X.b d_Model_add_13 (by decide) ?_
    have hR := M_Model_no l g hM 1
    refine m_callM X hS hR v_Model_100 hM.1 rfl rfl rfl (Nat.le_of_ble_eq_true rfl) hl.1 d_Model_add_14 (by omega) (by decide) ⟨by omega, by omega⟩ (fun q z => by have z : mo ≤ q ∧ q < mo + 23 := z; exact Or.inl ⟨by omega, by omega⟩) (fun H locs hM hfr hS => ?_)
    obtain ⟨p_2, ep_2⟩ : ∃ z, z = upd p_1 0 1 := ⟨_, rfl⟩
    rw [← ep_2] at hM
    exact m_iret X hS (by omega) (by omega) d_Model_add_17 rfl ⟨_, _, hM, (by rw [ep_2, upd_hit])⟩
set_option maxRecDepth 100000 in
set_option maxHeartbeats 4000000 in
theorem M_Model_add_n2 (l : Launch) (g : GG) {mo tq : Nat} {p0 : Nat → Int32} {s0 : Nat → Nat → Int32} {H0 : Heap} (hM : mAt g mo tq p0 s0 H0) (hf : frP p0 s0) (hn : noL s0) {r : Nat} (hr : r < 5) {k x y v_ d : Int32} (hcb : ¬ cbOk k x y v_ d) : MM l y_Model_add c_Model_add 7 (some .int) 4 0 0 g H0 [.ref mo, .int (nI r), .int k, .int x, .int y, .int v_, .int d] (fun q => (mo ≤ q ∧ q < mo + 23) ∨ q = tq) (some (.int 0)) (fun H1 => ∃ p s, mAt g mo tq p s H1 ∧ p 0 = 2) := by
  refine MM.of (by decide +kernel) (Nat.le_of_ble_eq_true rfl) ?_
  intro p e s m below meth cd X hH ls hl
  have X : CX g p s m _ meth cd c_Model_add 7 (some .int) R_Model _ := X
  have hl : lv_has ls 7 [(0, .ref mo), (1, .int (nI r)), (2, .int k), (3, .int x), (4, .int y), (5, .int v_), (6, .int d)] := hl
  have hS : va_S (AA (fun q => (mo ≤ q ∧ q < mo + 23) ∨ q = tq) H0) H0 H0 [] := va_S.rf
  have hlt0 := hM.lt
  have htq0 := hM.tq
  obtain ⟨⟨hf3, hf4, hf5, hf6, hf7⟩, ⟨g8, g11, g12, g13, g14, g141, g15, g23, g24⟩, gj⟩ := hf
  refine lv_aload_n X.x X.b d_Model_add_0 rfl (lv_at hl 0 rfl) ?_
  refine lv_iconst (v := 0) X.x X.b d_Model_add_1 (by decide) ?_
  refine m_put X ok_Model hS (Or.inl (Or.inl ⟨by omega, by omega⟩)) hM.1 0 (by decide) k_Model_80 rfl (ok_Model.2.2.1 _ (by decide)) rfl rfl (Nat.le_of_ble_eq_true rfl) d_Model_add_2 (fun H locs hp hcg hS => ?_)
  have hM := hM.f0 hp hcg
  obtain ⟨p_1, ep_1⟩ : ∃ z, z = upd p0 0 0 := ⟨_, rfl⟩
  rw [← ep_1] at hM
  refine lv_iload_n X.x X.b d_Model_add_5 rfl (lv_at hl 1 rfl) ?_
  refine m_callSP X hS (MP_ans (M_Model_isRow l g (nI r)) (show b2i (0 ≤ (nI r) ∧ (nI r) ≤ 4) = 1 from b2i_t ⟨nI_pos' (by omega), (nI_leI (b := 4) (by omega) (by omega)).mpr (by omega)⟩)) s_Model_92 rfl rfl (Nat.le_of_ble_eq_true rfl) hl.1 d_Model_add_6 (by omega) (by decide) ⟨by omega, by omega⟩ (fun locs hS => ?_)
  refine lv_if_ne (tgt := 18) X.x X.b d_Model_add_9 (by decide) (fun c1 => ?_) (fun c1 => ?_)
  · skip
    refine lv_iload_n X.x X.b d_Model_add_18 rfl (lv_at hl 2 rfl) ?_
    refine lv_iload_n X.x X.b d_Model_add_19 rfl (lv_at hl 3 rfl) ?_
    refine lv_iload X.x X.b d_Model_add_20 (lv_at hl 4 rfl) ?_
    refine lv_iload X.x X.b d_Model_add_22 (lv_at hl 5 rfl) ?_
    refine lv_iload X.x X.b d_Model_add_24 (lv_at hl 6 rfl) ?_
    refine m_callSP X hS (MP_ans (M_Model_canBe l g k x y v_ d) (show b2i (cbOk k x y v_ d) = 0 from b2i_f hcb)) s_Model_104 rfl rfl (Nat.le_of_ble_eq_true rfl) hl.1 d_Model_add_26 (by omega) (by decide) ⟨by omega, by omega⟩ (fun locs hS => ?_)
    refine lv_if_ne (tgt := 38) X.x X.b d_Model_add_29 (by decide) (fun c2 => ?_) (fun c2 => ?_)
    · exact absurd c2 (by decide)
    · skip
      refine lv_aload_n X.x X.b d_Model_add_32 rfl (lv_at hl 0 rfl) ?_
      refine lv_iconst (v := 2) X.x X.b d_Model_add_33 (by decide) ?_
      have hR := M_Model_no l g hM 2
      refine m_callM X hS hR v_Model_100 hM.1 rfl rfl rfl (Nat.le_of_ble_eq_true rfl) hl.1 d_Model_add_34 (by omega) (by decide) ⟨by omega, by omega⟩ (fun q z => by have z : mo ≤ q ∧ q < mo + 23 := z; exact Or.inl ⟨by omega, by omega⟩) (fun H locs hM hfr hS => ?_)
      obtain ⟨p_2, ep_2⟩ : ∃ z, z = upd p_1 0 2 := ⟨_, rfl⟩
      rw [← ep_2] at hM
      exact m_iret X hS (by omega) (by omega) d_Model_add_37 rfl ⟨_, _, hM, (by rw [ep_2, upd_hit])⟩
  · exact absurd c1 (by decide)
set_option maxRecDepth 100000 in
set_option maxHeartbeats 4000000 in
theorem M_Model_add_0 (l : Launch) (g : GG) {mo tq : Nat} {p0 : Nat → Int32} {s0 : Nat → Nat → Int32} {H0 : Heap} (hM : mAt g mo tq p0 s0 H0) (hf : frP p0 s0) (hn : noL s0) {k x y v_ d : Int32} (hok : lnOk k x y v_ d) (hd : d = 0 ∨ d = 1) : MM l y_Model_add c_Model_add 7 (some .int) 8 4 262 g H0 [.ref mo, .int 0, .int k, .int x, .int y, .int v_, .int d] (fun q => (mo ≤ q ∧ q < mo + 23) ∨ q = tq) (some (.int 0)) (fun H1 => ∃ p s, mAt g mo tq p s H1 ∧ p 0 = 0) := by
  refine MM.of (by decide +kernel) (Nat.le_of_ble_eq_true rfl) ?_
  intro p e s m below meth cd X hH ls hl
  have X : CX g p s m _ meth cd c_Model_add 7 (some .int) R_Model _ := X
  have hl : lv_has ls 7 [(0, .ref mo), (1, .int 0), (2, .int k), (3, .int x), (4, .int y), (5, .int v_), (6, .int d)] := hl
  have hS : va_S (AA (fun q => (mo ≤ q ∧ q < mo + 23) ∨ q = tq) H0) H0 H0 [] := va_S.rf
  have hlt0 := hM.lt
  have htq0 := hM.tq
  obtain ⟨⟨hf3, hf4, hf5, hf6, hf7⟩, ⟨g8, g11, g12, g13, g14, g141, g15, g23, g24⟩, gj⟩ := hf
  refine lv_aload_n X.x X.b d_Model_add_0 rfl (lv_at hl 0 rfl) ?_
  refine lv_iconst (v := 0) X.x X.b d_Model_add_1 (by decide) ?_
  refine m_put X ok_Model hS (Or.inl (Or.inl ⟨by omega, by omega⟩)) hM.1 0 (by decide) k_Model_80 rfl (ok_Model.2.2.1 _ (by decide)) rfl rfl (Nat.le_of_ble_eq_true rfl) d_Model_add_2 (fun H locs hp hcg hS => ?_)
  have hM := hM.f0 hp hcg
  obtain ⟨p_1, ep_1⟩ : ∃ z, z = upd p0 0 0 := ⟨_, rfl⟩
  rw [← ep_1] at hM
  refine lv_iload_n X.x X.b d_Model_add_5 rfl (lv_at hl 1 rfl) ?_
  refine m_callSP X hS (MP_ans (M_Model_isRow l g 0) (show b2i (0 ≤ 0 ∧ 0 ≤ 4) = 1 from by decide)) s_Model_92 rfl rfl (Nat.le_of_ble_eq_true rfl) hl.1 d_Model_add_6 (by omega) (by decide) ⟨by omega, by omega⟩ (fun locs hS => ?_)
  refine lv_if_ne (tgt := 18) X.x X.b d_Model_add_9 (by decide) (fun c1 => ?_) (fun c1 => ?_)
  · skip
    refine lv_iload_n X.x X.b d_Model_add_18 rfl (lv_at hl 2 rfl) ?_
    refine lv_iload_n X.x X.b d_Model_add_19 rfl (lv_at hl 3 rfl) ?_
    refine lv_iload X.x X.b d_Model_add_20 (lv_at hl 4 rfl) ?_
    refine lv_iload X.x X.b d_Model_add_22 (lv_at hl 5 rfl) ?_
    refine lv_iload X.x X.b d_Model_add_24 (lv_at hl 6 rfl) ?_
    refine m_callSP X hS (MP_ans (M_Model_canBe l g k x y v_ d) (show b2i (cbOk k x y v_ d) = 1 from b2i_t ((cb_ln _ _ _ _ _ hd).mpr hok))) s_Model_104 rfl rfl (Nat.le_of_ble_eq_true rfl) hl.1 d_Model_add_26 (by omega) (by decide) ⟨by omega, by omega⟩ (fun locs hS => ?_)
    refine lv_if_ne (tgt := 38) X.x X.b d_Model_add_29 (by decide) (fun c2 => ?_) (fun c2 => ?_)
    · skip
      refine lv_aload_n X.x X.b d_Model_add_38 rfl (lv_at hl 0 rfl) ?_
      refine m_get (v := .ref (mo + 2)) X ok_Model hM.1 2 (by decide) k_Model_13 rfl d_Model_add_39 ?_
      refine lv_iload_n X.x X.b d_Model_add_42 rfl (lv_at hl 1 rfl) ?_
      refine m_ild (v := 0) X hM.a2 0 rfl (by omega) (by decide) (show s0 2 0 = 0 from (by rw [hn 0 (by omega)])) d_Model_add_43 ?_
      refine lv_iload_n X.x X.b d_Model_add_44 rfl (lv_at hl 1 rfl) ?_
      refine lv_if_ne (tgt := 53) X.x X.b d_Model_add_45 (by decide) (fun c3 => ?_) (fun c3 => ?_)
      · exact absurd c3 (by decide)
      · skip
        refine lv_bipush (v := 40) X.x X.b d_Model_add_48 (by decide) ?_
        refine lv_goto (tgt := 55) X.x X.b d_Model_add_50 (by decide) ?_
        refine lv_icmp_ne (tgt := 64) X.x X.b d_Model_add_55 (by decide) (fun c4 => ?_) (fun c4 => ?_)
        · skip
          refine lv_aload_n X.x X.b d_Model_add_64 rfl (lv_at hl 0 rfl) ?_
          refine lv_iload_n X.x X.b d_Model_add_65 rfl (lv_at hl 1 rfl) ?_
          refine lv_aload_n X.x X.b d_Model_add_66 rfl (lv_at hl 0 rfl) ?_
          refine m_get (v := .ref (mo + 2)) X ok_Model hM.1 2 (by decide) k_Model_13 rfl d_Model_add_67 ?_
          refine lv_iload_n X.x X.b d_Model_add_70 rfl (lv_at hl 1 rfl) ?_
          refine m_ild (v := 0) X hM.a2 0 rfl (by omega) (by decide) (show s0 2 0 = 0 from (by rw [hn 0 (by omega)])) d_Model_add_71 ?_
          refine lv_iload_n X.x X.b d_Model_add_72 rfl (lv_at hl 2 rfl) ?_
          refine lv_iload_n X.x X.b d_Model_add_73 rfl (lv_at hl 3 rfl) ?_
          refine lv_iload X.x X.b d_Model_add_74 (lv_at hl 4 rfl) ?_
          refine lv_iload X.x X.b d_Model_add_76 (lv_at hl 5 rfl) ?_
          refine lv_iload X.x X.b d_Model_add_78 (lv_at hl 6 rfl) ?_
          have hR := M_Model_write (r := 0) (t := 0) l g hM (by omega) (by omega) k x y v_ d hd
          refine m_callM X hS hR v_Model_108 hM.1 rfl rfl rfl (Nat.le_of_ble_eq_true rfl) hl.1 d_Model_add_80 (by omega) (by decide) ⟨by omega, by omega⟩ (fun q z => by have z : q = tq := z; first | exact Or.inl ⟨by omega, by omega⟩ | exact Or.inr z) (fun H locs hM hfr hS => ?_)
          obtain ⟨s_2, es_2⟩ : ∃ z, z = wrR s0 ((0 * 64 + 0) * 5) k x y v_ d := ⟨_, rfl⟩
          rw [← es_2] at hM
          refine lv_aload_n X.x X.b d_Model_add_83 rfl (lv_at hl 0 rfl) ?_
          refine m_get (v := .ref (mo + 2)) X ok_Model hM.1 2 (by decide) k_Model_13 rfl d_Model_add_84 ?_
          refine lv_iload_n X.x X.b d_Model_add_87 rfl (lv_at hl 1 rfl) ?_
          refine lv_dup2_11 X.x X.b d_Model_add_88 rfl rfl ?_
          refine m_ild (v := 0) X hM.a2 0 rfl (by omega) (by decide) (show s_2 2 0 = 0 from (by rw [es_2, wrR_o s0 _ k x y v_ d 2 (by decide), hn 0 (by omega)])) d_Model_add_89 ?_
          refine lv_iconst (v := 1) X.x X.b d_Model_add_90 (by decide) ?_
          refine lv_iadd X.x X.b d_Model_add_91 ?_
          rw [show (0 + 1 : Int32) = 1 from by decide]
          refine m_ist X hS (Or.inl (Or.inl ⟨by omega, by omega⟩)) hM.a2 0 rfl (by omega) (by decide) d_Model_add_92 (fun H locs hp hcg hS => ?_)
          have hM := hM.s2 hp hcg
          obtain ⟨s_3, es_3⟩ : ∃ z, z = updR s_2 2 (upd (s_2 2) 0 1) := ⟨_, rfl⟩
          rw [← es_3] at hM
          refine lv_aload_n X.x X.b d_Model_add_93 rfl (lv_at hl 0 rfl) ?_
          have hL : oneL k x y v_ d s_3 := ⟨⟨(by rw [es_3, updR_hit]), fun t h1 h2 => by rw [es_3, updR_mi _ _ _ _ (show t ≠ 0 by omega), es_2, wrR_o s0 _ k x y v_ d 2 (by decide)]; exact hn t (by omega)⟩, by rw [es_3, updR_mf _ _ _ (show 1 ≠ 2 by decide), es_2]; exact wrR_at s0 k x y v_ d⟩
          have hR := M_Model_assemble_one l g hM hL hok
          refine m_callV X hS hR v_Model_77 hM.1 rfl rfl rfl (Nat.le_of_ble_eq_true rfl) hl.1 d_Model_add_94 (by omega) (by decide) ⟨by omega, by omega⟩ (fun q z => z.elim (fun z => by have z : mo ≤ q ∧ q < mo + 23 := z; exact Or.inl (Or.inl ⟨by omega, by omega⟩)) (fun z => Or.inr (Nat.le_trans hS.1 z))) (fun H locs hq hfr hS => ?_)
          obtain ⟨p_4, s_5, hM, hA0, hA2⟩ := hq
          refine lv_aload_n X.x X.b d_Model_add_97 rfl (lv_at hl 0 rfl) ?_
          refine m_get (v := .ref (mo + 2)) X ok_Model hM.1 2 (by decide) k_Model_13 rfl d_Model_add_98 ?_
          refine lv_iload_n X.x X.b d_Model_add_101 rfl (lv_at hl 1 rfl) ?_
          refine m_ild (v := 1) X hM.a2 0 rfl (by omega) (by decide) (show s_5 2 0 = 1 from (by rw [hA2, es_3, updR_hit])) d_Model_add_102 ?_
          refine lv_iconst (v := 1) X.x X.b d_Model_add_103 (by decide) ?_
          refine lv_isub X.x X.b d_Model_add_104 ?_
          rw [show (1 - 1 : Int32) = 0 from by decide]
          exact m_iret X hS (by omega) (by omega) d_Model_add_105 rfl ⟨_, _, hM, (by rw [hA0, ep_1, upd_hit])⟩
        · exact absurd c4 (by decide)
    · exact absurd c2 c1
  · exact absurd c1 (by decide)
set_option maxRecDepth 100000 in
set_option maxHeartbeats 4000000 in
theorem M_Model_add_r (l : Launch) (g : GG) {mo tq : Nat} {p0 : Nat → Int32} {s0 : Nat → Nat → Int32} {H0 : Heap} (hM : mAt g mo tq p0 s0 H0) (hf : frP p0 s0) (hn : noL s0) {r : Nat} (hr0 : 0 < r) (hr : r < 5) {k x y v_ d : Int32} (hok : lnOk k x y v_ d) (hd : d = 0 ∨ d = 1) : MM l y_Model_add c_Model_add 7 (some .int) 8 4 262 g H0 [.ref mo, .int (nI r), .int k, .int x, .int y, .int v_, .int d] (fun q => (mo ≤ q ∧ q < mo + 23) ∨ q = tq) (some (.int 0)) (fun H1 => ∃ p s, mAt g mo tq p s H1 ∧ p 0 = 0) := by
  refine MM.of (by decide +kernel) (Nat.le_of_ble_eq_true rfl) ?_
  intro p e s m below meth cd X hH ls hl
  have X : CX g p s m _ meth cd c_Model_add 7 (some .int) R_Model _ := X
  have hl : lv_has ls 7 [(0, .ref mo), (1, .int (nI r)), (2, .int k), (3, .int x), (4, .int y), (5, .int v_), (6, .int d)] := hl
  have hS : va_S (AA (fun q => (mo ≤ q ∧ q < mo + 23) ∨ q = tq) H0) H0 H0 [] := va_S.rf
  have hlt0 := hM.lt
  have htq0 := hM.tq
  obtain ⟨⟨hf3, hf4, hf5, hf6, hf7⟩, ⟨g8, g11, g12, g13, g14, g141, g15, g23, g24⟩, gj⟩ := hf
  refine lv_aload_n X.x X.b d_Model_add_0 rfl (lv_at hl 0 rfl) ?_
  refine lv_iconst (v := 0) X.x X.b d_Model_add_1 (by decide) ?_
  refine m_put X ok_Model hS (Or.inl (Or.inl ⟨by omega, by omega⟩)) hM.1 0 (by decide) k_Model_80 rfl (ok_Model.2.2.1 _ (by decide)) rfl rfl (Nat.le_of_ble_eq_true rfl) d_Model_add_2 (fun H locs hp hcg hS => ?_)
  have hM := hM.f0 hp hcg
  obtain ⟨p_1, ep_1⟩ : ∃ z, z = upd p0 0 0 := ⟨_, rfl⟩
  rw [← ep_1] at hM
  refine lv_iload_n X.x X.b d_Model_add_5 rfl (lv_at hl 1 rfl) ?_
  refine m_callSP X hS (MP_ans (M_Model_isRow l g (nI r)) (show b2i (0 ≤ (nI r) ∧ (nI r) ≤ 4) = 1 from b2i_t ⟨nI_pos' (by omega), (nI_leI (b := 4) (by omega) (by omega)).mpr (by omega)⟩)) s_Model_92 rfl rfl (Nat.le_of_ble_eq_true rfl) hl.1 d_Model_add_6 (by omega) (by decide) ⟨by omega, by omega⟩ (fun locs hS => ?_)
  refine lv_if_ne (tgt := 18) X.x X.b d_Model_add_9 (by decide) (fun c1 => ?_) (fun c1 => ?_)
  · skip
    refine lv_iload_n X.x X.b d_Model_add_18 rfl (lv_at hl 2 rfl) ?_
    refine lv_iload_n X.x X.b d_Model_add_19 rfl (lv_at hl 3 rfl) ?_
    refine lv_iload X.x X.b d_Model_add_20 (lv_at hl 4 rfl) ?_
    refine lv_iload X.x X.b d_Model_add_22 (lv_at hl 5 rfl) ?_
    refine lv_iload X.x X.b d_Model_add_24 (lv_at hl 6 rfl) ?_
    refine m_callSP X hS (MP_ans (M_Model_canBe l g k x y v_ d) (show b2i (cbOk k x y v_ d) = 1 from b2i_t ((cb_ln _ _ _ _ _ hd).mpr hok))) s_Model_104 rfl rfl (Nat.le_of_ble_eq_true rfl) hl.1 d_Model_add_26 (by omega) (by decide) ⟨by omega, by omega⟩ (fun locs hS => ?_)
    refine lv_if_ne (tgt := 38) X.x X.b d_Model_add_29 (by decide) (fun c2 => ?_) (fun c2 => ?_)
    · skip
      refine lv_aload_n X.x X.b d_Model_add_38 rfl (lv_at hl 0 rfl) ?_
      refine m_get (v := .ref (mo + 2)) X ok_Model hM.1 2 (by decide) k_Model_13 rfl d_Model_add_39 ?_
      refine lv_iload_n X.x X.b d_Model_add_42 rfl (lv_at hl 1 rfl) ?_
      refine m_ild (v := 0) X hM.a2 r rfl (by omega) (by decide) (show s0 2 r = 0 from (by rw [hn r (by omega)])) d_Model_add_43 ?_
      refine lv_iload_n X.x X.b d_Model_add_44 rfl (lv_at hl 1 rfl) ?_
      refine lv_if_ne (tgt := 53) X.x X.b d_Model_add_45 (by decide) (fun c3 => ?_) (fun c3 => ?_)
      · skip
        refine lv_bipush (v := 10) X.x X.b d_Model_add_53 (by decide) ?_
        refine lv_icmp_ne (tgt := 64) X.x X.b d_Model_add_55 (by decide) (fun c4 => ?_) (fun c4 => ?_)
        · skip
          refine lv_aload_n X.x X.b d_Model_add_64 rfl (lv_at hl 0 rfl) ?_
          refine lv_iload_n X.x X.b d_Model_add_65 rfl (lv_at hl 1 rfl) ?_
          refine lv_aload_n X.x X.b d_Model_add_66 rfl (lv_at hl 0 rfl) ?_
          refine m_get (v := .ref (mo + 2)) X ok_Model hM.1 2 (by decide) k_Model_13 rfl d_Model_add_67 ?_
          refine lv_iload_n X.x X.b d_Model_add_70 rfl (lv_at hl 1 rfl) ?_
          refine m_ild (v := 0) X hM.a2 r rfl (by omega) (by decide) (show s0 2 r = 0 from (by rw [hn r (by omega)])) d_Model_add_71 ?_
          refine lv_iload_n X.x X.b d_Model_add_72 rfl (lv_at hl 2 rfl) ?_
          refine lv_iload_n X.x X.b d_Model_add_73 rfl (lv_at hl 3 rfl) ?_
          refine lv_iload X.x X.b d_Model_add_74 (lv_at hl 4 rfl) ?_
          refine lv_iload X.x X.b d_Model_add_76 (lv_at hl 5 rfl) ?_
          refine lv_iload X.x X.b d_Model_add_78 (lv_at hl 6 rfl) ?_
          have hR := M_Model_write (r := r) (t := 0) l g hM (by omega) (by omega) k x y v_ d hd
          refine m_callM X hS hR v_Model_108 hM.1 rfl rfl rfl (Nat.le_of_ble_eq_true rfl) hl.1 d_Model_add_80 (by omega) (by decide) ⟨by omega, by omega⟩ (fun q z => by have z : q = tq := z; first | exact Or.inl ⟨by omega, by omega⟩ | exact Or.inr z) (fun H locs hM hfr hS => ?_)
          obtain ⟨s_2, es_2⟩ : ∃ z, z = wrR s0 ((r * 64 + 0) * 5) k x y v_ d := ⟨_, rfl⟩
          rw [← es_2] at hM
          refine lv_aload_n X.x X.b d_Model_add_83 rfl (lv_at hl 0 rfl) ?_
          refine m_get (v := .ref (mo + 2)) X ok_Model hM.1 2 (by decide) k_Model_13 rfl d_Model_add_84 ?_
          refine lv_iload_n X.x X.b d_Model_add_87 rfl (lv_at hl 1 rfl) ?_
          refine lv_dup2_11 X.x X.b d_Model_add_88 rfl rfl ?_
          refine m_ild (v := 0) X hM.a2 r rfl (by omega) (by decide) (show s_2 2 r = 0 from (by rw [es_2, wrR_o s0 _ k x y v_ d 2 (by decide), hn r (by omega)])) d_Model_add_89 ?_
          refine lv_iconst (v := 1) X.x X.b d_Model_add_90 (by decide) ?_
          refine lv_iadd X.x X.b d_Model_add_91 ?_
          rw [show (0 + 1 : Int32) = 1 from by decide]
          refine m_ist X hS (Or.inl (Or.inl ⟨by omega, by omega⟩)) hM.a2 r rfl (by omega) (by decide) d_Model_add_92 (fun H locs hp hcg hS => ?_)
          have hM := hM.s2 hp hcg
          obtain ⟨s_3, es_3⟩ : ∃ z, z = updR s_2 2 (upd (s_2 2) r 1) := ⟨_, rfl⟩
          rw [← es_3] at hM
          refine lv_aload_n X.x X.b d_Model_add_93 rfl (lv_at hl 0 rfl) ?_
          have hR := M_Model_assemble_F l g hM (by rw [es_3, updR_mi _ _ _ _ (show 0 ≠ r by omega), es_2, wrR_o s0 _ k x y v_ d 2 (by decide)]; exact hn 0 (by omega))
          refine m_callV X hS hR v_Model_77 hM.1 rfl rfl rfl (Nat.le_of_ble_eq_true rfl) hl.1 d_Model_add_94 (by omega) (by decide) ⟨by omega, by omega⟩ (fun q z => z.elim (fun z => by have z : mo ≤ q ∧ q < mo + 23 := z; exact Or.inl (Or.inl ⟨by omega, by omega⟩)) (fun z => Or.inr (Nat.le_trans hS.1 z))) (fun H locs hq hfr hS => ?_)
          obtain ⟨p_4, s_5, hM, hA0, hA1, hA2, hA3⟩ := hq
          refine lv_aload_n X.x X.b d_Model_add_97 rfl (lv_at hl 0 rfl) ?_
          refine m_get (v := .ref (mo + 2)) X ok_Model hM.1 2 (by decide) k_Model_13 rfl d_Model_add_98 ?_
          refine lv_iload_n X.x X.b d_Model_add_101 rfl (lv_at hl 1 rfl) ?_
          refine m_ild (v := 1) X hM.a2 r rfl (by omega) (by decide) (show s_5 2 r = 1 from (by rw [hA2, es_3, updR_hit])) d_Model_add_102 ?_
          refine lv_iconst (v := 1) X.x X.b d_Model_add_103 (by decide) ?_
          refine lv_isub X.x X.b d_Model_add_104 ?_
          rw [show (1 - 1 : Int32) = 0 from by decide]
          exact m_iret X hS (by omega) (by omega) d_Model_add_105 rfl ⟨_, _, hM, (by rw [hA0, ep_1, upd_hit])⟩
        · exact absurd c4 (by decide)
      · exact absurd (nI_inj (a := r) (b := 0) (by omega) (by omega) c3) (by omega)
    · exact absurd c2 c1
  · exact absurd c1 (by decide)
set_option maxRecDepth 100000 in
set_option maxHeartbeats 4000000 in
theorem M_Model_wronglyNow (l : Launch) (g : GG) {mo tq : Nat} {p0 : Nat → Int32} {s0 : Nat → Nat → Int32} {H0 : Heap} (hM : mAt g mo tq p0 s0 H0) (hf : frP p0 s0) (hn : noL s0) : MM l y_Model_wronglyNow c_Model_wronglyNow 3 (some .int) 4 0 0 g H0 [.ref mo] (fun q => mo ≤ q ∧ q < mo + 23) (some (.int 0)) (fun H1 => ∃ p s, mAt g mo tq p s H1 ∧ p 0 = p0 0) := by
  refine MM.of (by decide +kernel) (Nat.le_of_ble_eq_true rfl) ?_
  intro p e s m below meth cd X hH ls hl
  have X : CX g p s m _ meth cd c_Model_wronglyNow 3 (some .int) R_Model _ := X
  have hl : lv_has ls 3 [(0, .ref mo)] := hl
  have hS : va_S (AA (fun q => mo ≤ q ∧ q < mo + 23) H0) H0 H0 [] := va_S.rf
  have hlt0 := hM.lt
  have htq0 := hM.tq
  obtain ⟨⟨hf3, hf4, hf5, hf6, hf7⟩, ⟨g8, g11, g12, g13, g14, g141, g15, g23, g24⟩, gj⟩ := hf
  refine lv_iconst (v := 0) X.x X.b d_Model_wronglyNow_0 (by decide) ?_
  refine lv_istore_n (lv' := [(1, .int 0), (0, .ref mo)]) X.x X.b d_Model_wronglyNow_1 rfl hl (by decide) rfl (fun ls hl => ?_)
  refine lv_iconst (v := 0) X.x X.b d_Model_wronglyNow_2 (by decide) ?_
  refine lv_istore_n (lv' := [(2, .int 0), (1, .int 0), (0, .ref mo)]) X.x X.b d_Model_wronglyNow_3 rfl hl (by decide) rfl (fun ls hl => ?_)
  refine lv_iload_n X.x X.b d_Model_wronglyNow_4 rfl (lv_at hl 0 rfl) ?_
  refine lv_aload_n X.x X.b d_Model_wronglyNow_5 rfl (lv_at hl 2 rfl) ?_
  refine m_get (v := .int 1) X ok_Model hM.1 5 (by decide) k_Model_132 (congrArg (fun z => some (Value.int z)) (show p0 5 = 1 from (by rw [hf5]))) d_Model_wronglyNow_6 ?_
  refine lv_icmp_ge (tgt := 71) X.x X.b d_Model_wronglyNow_9 (by decide) (fun c1 => ?_) (fun c1 => ?_)
  · exact absurd c1 (by decide)
  · skip
    have c1q := Int32.not_le.mp c1
    refine lv_aload_n X.x X.b d_Model_wronglyNow_12 rfl (lv_at hl 2 rfl) ?_
    refine m_get (v := .ref (mo + 18)) X ok_Model hM.1 23 (by decide) k_Model_61 rfl d_Model_wronglyNow_13 ?_
    refine lv_iload_n X.x X.b d_Model_wronglyNow_16 rfl (lv_at hl 0 rfl) ?_
    refine m_zld (v := 0) X hM.a23 0 rfl (by omega) (by decide) (show s0 23 0 = 0 from (by rw [g23])) d_Model_wronglyNow_17 ?_
    refine lv_if_ne (tgt := 24) X.x X.b d_Model_wronglyNow_18 (by decide) (fun c2 => ?_) (fun c2 => ?_)
    · exact absurd c2 (by decide)
    · skip
      refine lv_goto (tgt := 65) X.x X.b d_Model_wronglyNow_21 (by decide) ?_
      refine lv_iinc (v := 1) (lv' := [(2, .int 1), (1, .int 0), (0, .ref mo)]) X.x X.b d_Model_wronglyNow_65 hl (k := 0) rfl (by decide) (by decide) rfl (fun ls hl => ?_)
      refine lv_goto (tgt := 4) X.x X.b d_Model_wronglyNow_68 (by decide) ?_
      refine lv_iload_n X.x X.b d_Model_wronglyNow_4 rfl (lv_at hl 0 rfl) ?_
      refine lv_aload_n X.x X.b d_Model_wronglyNow_5 rfl (lv_at hl 2 rfl) ?_
      refine m_get (v := .int 1) X ok_Model hM.1 5 (by decide) k_Model_132 (congrArg (fun z => some (Value.int z)) (show p0 5 = 1 from (by rw [hf5]))) d_Model_wronglyNow_6 ?_
      refine lv_icmp_ge (tgt := 71) X.x X.b d_Model_wronglyNow_9 (by decide) (fun c3 => ?_) (fun c3 => ?_)
      · skip
        have c3q := Int32.not_lt.mpr c3
        refine lv_aload_n X.x X.b d_Model_wronglyNow_71 rfl (lv_at hl 2 rfl) ?_
        have hR := M_Model_place_F l g hM (by rw [hf5]) (by rw [g8]) (by rw [g15])
        refine m_callM X hS hR v_Model_174 hM.1 rfl rfl rfl (Nat.le_of_ble_eq_true rfl) hl.1 d_Model_wronglyNow_72 (by omega) (by decide) ⟨by omega, by omega⟩ (fun q z => by have z : mo ≤ q ∧ q < mo + 23 := z; exact ⟨by omega, by omega⟩) (fun H locs hq hfr hS => ?_)
        obtain ⟨p_1, s_2, hM, hp_3, hs_4, hF6, hF14, hF141, hF15⟩ := hq
        refine lv_iload_n X.x X.b d_Model_wronglyNow_75 rfl (lv_at hl 1 rfl) ?_
        exact m_iret X hS (by omega) (by omega) d_Model_wronglyNow_76 rfl ⟨_, _, hM, (by rw [hp_3 0 (by decide)])⟩
      · exact absurd c3 (by decide)
set_option maxRecDepth 100000 in
set_option maxHeartbeats 4000000 in
theorem M_Model_wrongly (l : Launch) (g : GG) {mo tq : Nat} {p0 : Nat → Int32} {s0 : Nat → Nat → Int32} {H0 : Heap} (hM : mAt g mo tq p0 s0 H0) (hf : frP p0 s0) (hn : noL s0) : MM l y_Model_wrongly c_Model_wrongly 1 (some .int) 5 0 0 g H0 [.ref mo] (fun q => mo ≤ q ∧ q < mo + 23) (some (.int 0)) (fun H1 => ∃ p s, mAt g mo tq p s H1 ∧ p 0 = 0) := by
  refine MM.of (by decide +kernel) (Nat.le_of_ble_eq_true rfl) ?_
  intro p e s m below meth cd X hH ls hl
  have X : CX g p s m _ meth cd c_Model_wrongly 1 (some .int) R_Model _ := X
  have hl : lv_has ls 1 [(0, .ref mo)] := hl
  have hS : va_S (AA (fun q => mo ≤ q ∧ q < mo + 23) H0) H0 H0 [] := va_S.rf
  have hlt0 := hM.lt
  have htq0 := hM.tq
  obtain ⟨⟨hf3, hf4, hf5, hf6, hf7⟩, ⟨g8, g11, g12, g13, g14, g141, g15, g23, g24⟩, gj⟩ := hf
  refine lv_aload_n X.x X.b d_Model_wrongly_0 rfl (lv_at hl 0 rfl) ?_
  refine lv_iconst (v := 0) X.x X.b d_Model_wrongly_1 (by decide) ?_
  refine m_put X ok_Model hS (Or.inl ⟨by omega, by omega⟩) hM.1 0 (by decide) k_Model_80 rfl (ok_Model.2.2.1 _ (by decide)) rfl rfl (Nat.le_of_ble_eq_true rfl) d_Model_wrongly_2 (fun H locs hp hcg hS => ?_)
  have hM := hM.f0 hp hcg
  obtain ⟨p_1, ep_1⟩ : ∃ z, z = upd p0 0 0 := ⟨_, rfl⟩
  rw [← ep_1] at hM
  refine lv_aload_n X.x X.b d_Model_wrongly_5 rfl (lv_at hl 0 rfl) ?_
  refine m_get (v := .int 0) X ok_Model hM.1 3 (by decide) k_Model_126 (congrArg (fun z => some (Value.int z)) (show p_1 3 = 0 from (by rw [ep_1, upd_mi _ _ _ (show 3 ≠ 0 by decide), hf3]))) d_Model_wrongly_6 ?_
  refine lv_if_le (tgt := 16) X.x X.b d_Model_wrongly_9 (by decide) (fun c1 => ?_) (fun c1 => ?_)
  · skip
    have c1q := Int32.not_lt.mpr c1
    refine lv_aload_n X.x X.b d_Model_wrongly_16 rfl (lv_at hl 0 rfl) ?_
    have hR := M_Model_wronglyNow l g hM (show frP p_1 s0 from ⟨⟨(by rw [ep_1, upd_mi _ _ _ (show 3 ≠ 0 by decide), hf3]), (by rw [ep_1, upd_mi _ _ _ (show 4 ≠ 0 by decide), hf4]), (by rw [ep_1, upd_mi _ _ _ (show 5 ≠ 0 by decide), hf5]), (by rw [ep_1, upd_mi _ _ _ (show 6 ≠ 0 by decide), hf6]), (by rw [ep_1, upd_mi _ _ _ (show 7 ≠ 0 by decide), hf7])⟩, ⟨g8, g11, g12, g13, g14, g141, g15, g23, g24⟩, gj⟩) hn
    refine m_callM X hS hR v_Model_246 hM.1 rfl rfl rfl (Nat.le_of_ble_eq_true rfl) hl.1 d_Model_wrongly_17 (by omega) (by decide) ⟨by omega, by omega⟩ (fun q z => z) (fun H locs hq hfr hS => ?_)
    obtain ⟨p_2, s_3, hM, hW0⟩ := hq
    exact m_iret X hS (by omega) (by omega) d_Model_wrongly_20 rfl ⟨_, _, hM, (by rw [hW0, ep_1, upd_hit])⟩
  · exact absurd c1 (by decide)
set_option maxRecDepth 100000 in
set_option maxHeartbeats 4000000 in
theorem M_Model_digest (l : Launch) (g : GG) {mo tq : Nat} {p0 : Nat → Int32} {s0 : Nat → Nat → Int32} {H0 : Heap} (hM : mAt g mo tq p0 s0 H0) (hf : frP p0 s0) (hn : noL s0) : MM l y_Model_digest c_Model_digest 5 (some .long) 6 0 0 g H0 [.ref mo] (fun q => mo ≤ q ∧ q < mo + 23) (some (.long (-2364142139903650490))) (fun H1 => ∃ p s, mAt g mo tq p s H1 ∧ p 0 = 0) := by
  refine MM.of (by decide +kernel) (Nat.le_of_ble_eq_true rfl) ?_
  intro p e s m below meth cd X hH ls hl
  have X : CX g p s m _ meth cd c_Model_digest 5 (some .long) R_Model _ := X
  have hl : lv_has ls 5 [(0, .ref mo)] := hl
  have hS : va_S (AA (fun q => mo ≤ q ∧ q < mo + 23) H0) H0 H0 [] := va_S.rf
  have hlt0 := hM.lt
  have htq0 := hM.tq
  obtain ⟨⟨hf3, hf4, hf5, hf6, hf7⟩, ⟨g8, g11, g12, g13, g14, g141, g15, g23, g24⟩, gj⟩ := hf
  refine lv_aload_n X.x X.b d_Model_digest_0 rfl (lv_at hl 0 rfl) ?_
  refine lv_iconst (v := 0) X.x X.b d_Model_digest_1 (by decide) ?_
  refine m_put X ok_Model hS (Or.inl ⟨by omega, by omega⟩) hM.1 0 (by decide) k_Model_80 rfl (ok_Model.2.2.1 _ (by decide)) rfl rfl (Nat.le_of_ble_eq_true rfl) d_Model_digest_2 (fun H locs hp hcg hS => ?_)
  have hM := hM.f0 hp hcg
  obtain ⟨p_1, ep_1⟩ : ∃ z, z = upd p0 0 0 := ⟨_, rfl⟩
  rw [← ep_1] at hM
  refine lv_ldc2 (v := (7619 : Int64)) X.x X.b X.wn (X.ts _ (LW_t 1175 (by decide +kernel) (by decide +kernel))) d_Model_digest_5 ?_
  refine lv_lstore_n (lv' := [(1, .long 7619), (0, .ref mo)]) X.x X.b d_Model_digest_8 rfl hl (by decide) rfl (fun ls hl => ?_)
  refine lv_iconst (v := 0) X.x X.b d_Model_digest_9 (by decide) ?_
  refine lv_istore_n (lv' := [(3, .int 0), (1, .long 7619), (0, .ref mo)]) X.x X.b d_Model_digest_10 rfl hl (by decide) rfl (fun ls hl => ?_)
  refine lv_iload_n X.x X.b d_Model_digest_11 rfl (lv_at hl 0 rfl) ?_
  refine lv_bipush (v := 12) X.x X.b d_Model_digest_12 (by decide) ?_
  refine lv_icmp_ge (tgt := 36) X.x X.b d_Model_digest_14 (by decide) (fun c1 => ?_) (fun c1 => ?_)
  · exact absurd c1 (by decide)
  · skip
    have c1q := Int32.not_le.mp c1
    refine lv_lload_n X.x X.b d_Model_digest_17 rfl (lv_at hl 1 rfl) ?_
    refine lv_ldc2 (v := (31 : Int64)) X.x X.b X.wn (X.ts _ (LW_t 1176 (by decide +kernel) (by decide +kernel))) d_Model_digest_18 ?_
    refine lv_lmul X.x X.b d_Model_digest_21 ?_
    rw [show (7619 * 31 : Int64) = 236189 from by decide]
    refine lv_aload_n X.x X.b d_Model_digest_22 rfl (lv_at hl 2 rfl) ?_
    refine lv_iload_n X.x X.b d_Model_digest_23 rfl (lv_at hl 0 rfl) ?_
    refine m_callP X hS (MP_ans (M_Model_manyNow l g hM (show frP p_1 s0 from ⟨⟨(by rw [ep_1, upd_mi _ _ _ (show 3 ≠ 0 by decide), hf3]), (by rw [ep_1, upd_mi _ _ _ (show 4 ≠ 0 by decide), hf4]), (by rw [ep_1, upd_mi _ _ _ (show 5 ≠ 0 by decide), hf5]), (by rw [ep_1, upd_mi _ _ _ (show 6 ≠ 0 by decide), hf6]), (by rw [ep_1, upd_mi _ _ _ (show 7 ≠ 0 by decide), hf7])⟩, ⟨g8, g11, g12, g13, g14, g141, g15, g23, g24⟩, gj⟩) hn 0) (show mnM 0 = 0 from by decide)) v_Model_228 hM.1 rfl rfl rfl (Nat.le_of_ble_eq_true rfl) hl.1 d_Model_digest_24 (by omega) (by decide) ⟨by omega, by omega⟩ (fun locs hS => ?_)
    refine lv_i2l (v := (0 : Int32).toInt64) X.x X.b d_Model_digest_27 rfl ?_
    refine lv_ladd X.x X.b d_Model_digest_28 ?_
    rw [show (236189 + ((0 : Int32).toInt64) : Int64) = 236189 from by decide]
    refine lv_lstore_n (lv' := [(1, .long 236189), (3, .int 0), (0, .ref mo)]) X.x X.b d_Model_digest_29 rfl hl (by decide) rfl (fun ls hl => ?_)
    refine lv_iinc (v := 1) (lv' := [(3, .int 1), (1, .long 236189), (0, .ref mo)]) X.x X.b d_Model_digest_30 hl (k := 1) rfl (by decide) (by decide) rfl (fun ls hl => ?_)
    refine lv_goto (tgt := 11) X.x X.b d_Model_digest_33 (by decide) ?_
    refine lv_iload_n X.x X.b d_Model_digest_11 rfl (lv_at hl 0 rfl) ?_
    refine lv_bipush (v := 12) X.x X.b d_Model_digest_12 (by decide) ?_
    refine lv_icmp_ge (tgt := 36) X.x X.b d_Model_digest_14 (by decide) (fun c2 => ?_) (fun c2 => ?_)
    · exact absurd c2 (by decide)
    · skip
      have c2q := Int32.not_le.mp c2
      refine lv_lload_n X.x X.b d_Model_digest_17 rfl (lv_at hl 1 rfl) ?_
      refine lv_ldc2 (v := (31 : Int64)) X.x X.b X.wn (X.ts _ (LW_t 1176 (by decide +kernel) (by decide +kernel))) d_Model_digest_18 ?_
      refine lv_lmul X.x X.b d_Model_digest_21 ?_
      rw [show (236189 * 31 : Int64) = 7321859 from by decide]
      refine lv_aload_n X.x X.b d_Model_digest_22 rfl (lv_at hl 2 rfl) ?_
      refine lv_iload_n X.x X.b d_Model_digest_23 rfl (lv_at hl 0 rfl) ?_
      refine m_callP X hS (MP_ans (M_Model_manyNow l g hM (show frP p_1 s0 from ⟨⟨(by rw [ep_1, upd_mi _ _ _ (show 3 ≠ 0 by decide), hf3]), (by rw [ep_1, upd_mi _ _ _ (show 4 ≠ 0 by decide), hf4]), (by rw [ep_1, upd_mi _ _ _ (show 5 ≠ 0 by decide), hf5]), (by rw [ep_1, upd_mi _ _ _ (show 6 ≠ 0 by decide), hf6]), (by rw [ep_1, upd_mi _ _ _ (show 7 ≠ 0 by decide), hf7])⟩, ⟨g8, g11, g12, g13, g14, g141, g15, g23, g24⟩, gj⟩) hn 1) (show mnM 1 = 0 from by decide)) v_Model_228 hM.1 rfl rfl rfl (Nat.le_of_ble_eq_true rfl) hl.1 d_Model_digest_24 (by omega) (by decide) ⟨by omega, by omega⟩ (fun locs hS => ?_)
      refine lv_i2l (v := (0 : Int32).toInt64) X.x X.b d_Model_digest_27 rfl ?_
      refine lv_ladd X.x X.b d_Model_digest_28 ?_
      rw [show (7321859 + ((0 : Int32).toInt64) : Int64) = 7321859 from by decide]
      refine lv_lstore_n (lv' := [(1, .long 7321859), (3, .int 1), (0, .ref mo)]) X.x X.b d_Model_digest_29 rfl hl (by decide) rfl (fun ls hl => ?_)
      refine lv_iinc (v := 2) (lv' := [(3, .int 2), (1, .long 7321859), (0, .ref mo)]) X.x X.b d_Model_digest_30 hl (k := 1) rfl (by decide) (by decide) rfl (fun ls hl => ?_)
      refine lv_goto (tgt := 11) X.x X.b d_Model_digest_33 (by decide) ?_
      refine lv_iload_n X.x X.b d_Model_digest_11 rfl (lv_at hl 0 rfl) ?_
      refine lv_bipush (v := 12) X.x X.b d_Model_digest_12 (by decide) ?_
      refine lv_icmp_ge (tgt := 36) X.x X.b d_Model_digest_14 (by decide) (fun c3 => ?_) (fun c3 => ?_)
      · exact absurd c3 (by decide)
      · skip
        have c3q := Int32.not_le.mp c3
        refine lv_lload_n X.x X.b d_Model_digest_17 rfl (lv_at hl 1 rfl) ?_
        refine lv_ldc2 (v := (31 : Int64)) X.x X.b X.wn (X.ts _ (LW_t 1176 (by decide +kernel) (by decide +kernel))) d_Model_digest_18 ?_
        refine lv_lmul X.x X.b d_Model_digest_21 ?_
        rw [show (7321859 * 31 : Int64) = 226977629 from by decide]
        refine lv_aload_n X.x X.b d_Model_digest_22 rfl (lv_at hl 2 rfl) ?_
        refine lv_iload_n X.x X.b d_Model_digest_23 rfl (lv_at hl 0 rfl) ?_
        refine m_callP X hS (MP_ans (M_Model_manyNow l g hM (show frP p_1 s0 from ⟨⟨(by rw [ep_1, upd_mi _ _ _ (show 3 ≠ 0 by decide), hf3]), (by rw [ep_1, upd_mi _ _ _ (show 4 ≠ 0 by decide), hf4]), (by rw [ep_1, upd_mi _ _ _ (show 5 ≠ 0 by decide), hf5]), (by rw [ep_1, upd_mi _ _ _ (show 6 ≠ 0 by decide), hf6]), (by rw [ep_1, upd_mi _ _ _ (show 7 ≠ 0 by decide), hf7])⟩, ⟨g8, g11, g12, g13, g14, g141, g15, g23, g24⟩, gj⟩) hn 2) (show mnM 2 = 1 from by decide)) v_Model_228 hM.1 rfl rfl rfl (Nat.le_of_ble_eq_true rfl) hl.1 d_Model_digest_24 (by omega) (by decide) ⟨by omega, by omega⟩ (fun locs hS => ?_)
        refine lv_i2l (v := (1 : Int32).toInt64) X.x X.b d_Model_digest_27 rfl ?_
        refine lv_ladd X.x X.b d_Model_digest_28 ?_
        rw [show (226977629 + ((1 : Int32).toInt64) : Int64) = 226977630 from by decide]
        refine lv_lstore_n (lv' := [(1, .long 226977630), (3, .int 2), (0, .ref mo)]) X.x X.b d_Model_digest_29 rfl hl (by decide) rfl (fun ls hl => ?_)
        refine lv_iinc (v := 3) (lv' := [(3, .int 3), (1, .long 226977630), (0, .ref mo)]) X.x X.b d_Model_digest_30 hl (k := 1) rfl (by decide) (by decide) rfl (fun ls hl => ?_)
        refine lv_goto (tgt := 11) X.x X.b d_Model_digest_33 (by decide) ?_
        refine lv_iload_n X.x X.b d_Model_digest_11 rfl (lv_at hl 0 rfl) ?_
        refine lv_bipush (v := 12) X.x X.b d_Model_digest_12 (by decide) ?_
        refine lv_icmp_ge (tgt := 36) X.x X.b d_Model_digest_14 (by decide) (fun c4 => ?_) (fun c4 => ?_)
        · exact absurd c4 (by decide)
        · skip
          have c4q := Int32.not_le.mp c4
          refine lv_lload_n X.x X.b d_Model_digest_17 rfl (lv_at hl 1 rfl) ?_
          refine lv_ldc2 (v := (31 : Int64)) X.x X.b X.wn (X.ts _ (LW_t 1176 (by decide +kernel) (by decide +kernel))) d_Model_digest_18 ?_
          refine lv_lmul X.x X.b d_Model_digest_21 ?_
          rw [show (226977630 * 31 : Int64) = 7036306530 from by decide]
          refine lv_aload_n X.x X.b d_Model_digest_22 rfl (lv_at hl 2 rfl) ?_
          refine lv_iload_n X.x X.b d_Model_digest_23 rfl (lv_at hl 0 rfl) ?_
          refine m_callP X hS (MP_ans (M_Model_manyNow l g hM (show frP p_1 s0 from ⟨⟨(by rw [ep_1, upd_mi _ _ _ (show 3 ≠ 0 by decide), hf3]), (by rw [ep_1, upd_mi _ _ _ (show 4 ≠ 0 by decide), hf4]), (by rw [ep_1, upd_mi _ _ _ (show 5 ≠ 0 by decide), hf5]), (by rw [ep_1, upd_mi _ _ _ (show 6 ≠ 0 by decide), hf6]), (by rw [ep_1, upd_mi _ _ _ (show 7 ≠ 0 by decide), hf7])⟩, ⟨g8, g11, g12, g13, g14, g141, g15, g23, g24⟩, gj⟩) hn 3) (show mnM 3 = 0 from by decide)) v_Model_228 hM.1 rfl rfl rfl (Nat.le_of_ble_eq_true rfl) hl.1 d_Model_digest_24 (by omega) (by decide) ⟨by omega, by omega⟩ (fun locs hS => ?_)
          refine lv_i2l (v := (0 : Int32).toInt64) X.x X.b d_Model_digest_27 rfl ?_
          refine lv_ladd X.x X.b d_Model_digest_28 ?_
          rw [show (7036306530 + ((0 : Int32).toInt64) : Int64) = 7036306530 from by decide]
          refine lv_lstore_n (lv' := [(1, .long 7036306530), (3, .int 3), (0, .ref mo)]) X.x X.b d_Model_digest_29 rfl hl (by decide) rfl (fun ls hl => ?_)
          refine lv_iinc (v := 4) (lv' := [(3, .int 4), (1, .long 7036306530), (0, .ref mo)]) X.x X.b d_Model_digest_30 hl (k := 1) rfl (by decide) (by decide) rfl (fun ls hl => ?_)
          refine lv_goto (tgt := 11) X.x X.b d_Model_digest_33 (by decide) ?_
          refine lv_iload_n X.x X.b d_Model_digest_11 rfl (lv_at hl 0 rfl) ?_
          refine lv_bipush (v := 12) X.x X.b d_Model_digest_12 (by decide) ?_
          refine lv_icmp_ge (tgt := 36) X.x X.b d_Model_digest_14 (by decide) (fun c5 => ?_) (fun c5 => ?_)
          · exact absurd c5 (by decide)
          · skip
            have c5q := Int32.not_le.mp c5
            refine lv_lload_n X.x X.b d_Model_digest_17 rfl (lv_at hl 1 rfl) ?_
            refine lv_ldc2 (v := (31 : Int64)) X.x X.b X.wn (X.ts _ (LW_t 1176 (by decide +kernel) (by decide +kernel))) d_Model_digest_18 ?_
            refine lv_lmul X.x X.b d_Model_digest_21 ?_
            rw [show (7036306530 * 31 : Int64) = 218125502430 from by decide]
            refine lv_aload_n X.x X.b d_Model_digest_22 rfl (lv_at hl 2 rfl) ?_
            refine lv_iload_n X.x X.b d_Model_digest_23 rfl (lv_at hl 0 rfl) ?_
            refine m_callP X hS (MP_ans (M_Model_manyNow l g hM (show frP p_1 s0 from ⟨⟨(by rw [ep_1, upd_mi _ _ _ (show 3 ≠ 0 by decide), hf3]), (by rw [ep_1, upd_mi _ _ _ (show 4 ≠ 0 by decide), hf4]), (by rw [ep_1, upd_mi _ _ _ (show 5 ≠ 0 by decide), hf5]), (by rw [ep_1, upd_mi _ _ _ (show 6 ≠ 0 by decide), hf6]), (by rw [ep_1, upd_mi _ _ _ (show 7 ≠ 0 by decide), hf7])⟩, ⟨g8, g11, g12, g13, g14, g141, g15, g23, g24⟩, gj⟩) hn 4) (show mnM 4 = 0 from by decide)) v_Model_228 hM.1 rfl rfl rfl (Nat.le_of_ble_eq_true rfl) hl.1 d_Model_digest_24 (by omega) (by decide) ⟨by omega, by omega⟩ (fun locs hS => ?_)
            refine lv_i2l (v := (0 : Int32).toInt64) X.x X.b d_Model_digest_27 rfl ?_
            refine lv_ladd X.x X.b d_Model_digest_28 ?_
            rw [show (218125502430 + ((0 : Int32).toInt64) : Int64) = 218125502430 from by decide]
            refine lv_lstore_n (lv' := [(1, .long 218125502430), (3, .int 4), (0, .ref mo)]) X.x X.b d_Model_digest_29 rfl hl (by decide) rfl (fun ls hl => ?_)
            refine lv_iinc (v := 5) (lv' := [(3, .int 5), (1, .long 218125502430), (0, .ref mo)]) X.x X.b d_Model_digest_30 hl (k := 1) rfl (by decide) (by decide) rfl (fun ls hl => ?_)
            refine lv_goto (tgt := 11) X.x X.b d_Model_digest_33 (by decide) ?_
            refine lv_iload_n X.x X.b d_Model_digest_11 rfl (lv_at hl 0 rfl) ?_
            refine lv_bipush (v := 12) X.x X.b d_Model_digest_12 (by decide) ?_
            refine lv_icmp_ge (tgt := 36) X.x X.b d_Model_digest_14 (by decide) (fun c6 => ?_) (fun c6 => ?_)
            · exact absurd c6 (by decide)
            · skip
              have c6q := Int32.not_le.mp c6
              refine lv_lload_n X.x X.b d_Model_digest_17 rfl (lv_at hl 1 rfl) ?_
              refine lv_ldc2 (v := (31 : Int64)) X.x X.b X.wn (X.ts _ (LW_t 1176 (by decide +kernel) (by decide +kernel))) d_Model_digest_18 ?_
              refine lv_lmul X.x X.b d_Model_digest_21 ?_
              rw [show (218125502430 * 31 : Int64) = 6761890575330 from by decide]
              refine lv_aload_n X.x X.b d_Model_digest_22 rfl (lv_at hl 2 rfl) ?_
              refine lv_iload_n X.x X.b d_Model_digest_23 rfl (lv_at hl 0 rfl) ?_
              refine m_callP X hS (MP_ans (M_Model_manyNow l g hM (show frP p_1 s0 from ⟨⟨(by rw [ep_1, upd_mi _ _ _ (show 3 ≠ 0 by decide), hf3]), (by rw [ep_1, upd_mi _ _ _ (show 4 ≠ 0 by decide), hf4]), (by rw [ep_1, upd_mi _ _ _ (show 5 ≠ 0 by decide), hf5]), (by rw [ep_1, upd_mi _ _ _ (show 6 ≠ 0 by decide), hf6]), (by rw [ep_1, upd_mi _ _ _ (show 7 ≠ 0 by decide), hf7])⟩, ⟨g8, g11, g12, g13, g14, g141, g15, g23, g24⟩, gj⟩) hn 5) (show mnM 5 = 0 from by decide)) v_Model_228 hM.1 rfl rfl rfl (Nat.le_of_ble_eq_true rfl) hl.1 d_Model_digest_24 (by omega) (by decide) ⟨by omega, by omega⟩ (fun locs hS => ?_)
              refine lv_i2l (v := (0 : Int32).toInt64) X.x X.b d_Model_digest_27 rfl ?_
              refine lv_ladd X.x X.b d_Model_digest_28 ?_
              rw [show (6761890575330 + ((0 : Int32).toInt64) : Int64) = 6761890575330 from by decide]
              refine lv_lstore_n (lv' := [(1, .long 6761890575330), (3, .int 5), (0, .ref mo)]) X.x X.b d_Model_digest_29 rfl hl (by decide) rfl (fun ls hl => ?_)
              refine lv_iinc (v := 6) (lv' := [(3, .int 6), (1, .long 6761890575330), (0, .ref mo)]) X.x X.b d_Model_digest_30 hl (k := 1) rfl (by decide) (by decide) rfl (fun ls hl => ?_)
              refine lv_goto (tgt := 11) X.x X.b d_Model_digest_33 (by decide) ?_
              refine lv_iload_n X.x X.b d_Model_digest_11 rfl (lv_at hl 0 rfl) ?_
              refine lv_bipush (v := 12) X.x X.b d_Model_digest_12 (by decide) ?_
              refine lv_icmp_ge (tgt := 36) X.x X.b d_Model_digest_14 (by decide) (fun c7 => ?_) (fun c7 => ?_)
              · exact absurd c7 (by decide)
              · skip
                have c7q := Int32.not_le.mp c7
                refine lv_lload_n X.x X.b d_Model_digest_17 rfl (lv_at hl 1 rfl) ?_
                refine lv_ldc2 (v := (31 : Int64)) X.x X.b X.wn (X.ts _ (LW_t 1176 (by decide +kernel) (by decide +kernel))) d_Model_digest_18 ?_
                refine lv_lmul X.x X.b d_Model_digest_21 ?_
                rw [show (6761890575330 * 31 : Int64) = 209618607835230 from by decide]
                refine lv_aload_n X.x X.b d_Model_digest_22 rfl (lv_at hl 2 rfl) ?_
                refine lv_iload_n X.x X.b d_Model_digest_23 rfl (lv_at hl 0 rfl) ?_
                refine m_callP X hS (MP_ans (M_Model_manyNow l g hM (show frP p_1 s0 from ⟨⟨(by rw [ep_1, upd_mi _ _ _ (show 3 ≠ 0 by decide), hf3]), (by rw [ep_1, upd_mi _ _ _ (show 4 ≠ 0 by decide), hf4]), (by rw [ep_1, upd_mi _ _ _ (show 5 ≠ 0 by decide), hf5]), (by rw [ep_1, upd_mi _ _ _ (show 6 ≠ 0 by decide), hf6]), (by rw [ep_1, upd_mi _ _ _ (show 7 ≠ 0 by decide), hf7])⟩, ⟨g8, g11, g12, g13, g14, g141, g15, g23, g24⟩, gj⟩) hn 6) (show mnM 6 = 1 from by decide)) v_Model_228 hM.1 rfl rfl rfl (Nat.le_of_ble_eq_true rfl) hl.1 d_Model_digest_24 (by omega) (by decide) ⟨by omega, by omega⟩ (fun locs hS => ?_)
                refine lv_i2l (v := (1 : Int32).toInt64) X.x X.b d_Model_digest_27 rfl ?_
                refine lv_ladd X.x X.b d_Model_digest_28 ?_
                rw [show (209618607835230 + ((1 : Int32).toInt64) : Int64) = 209618607835231 from by decide]
                refine lv_lstore_n (lv' := [(1, .long 209618607835231), (3, .int 6), (0, .ref mo)]) X.x X.b d_Model_digest_29 rfl hl (by decide) rfl (fun ls hl => ?_)
                refine lv_iinc (v := 7) (lv' := [(3, .int 7), (1, .long 209618607835231), (0, .ref mo)]) X.x X.b d_Model_digest_30 hl (k := 1) rfl (by decide) (by decide) rfl (fun ls hl => ?_)
                refine lv_goto (tgt := 11) X.x X.b d_Model_digest_33 (by decide) ?_
                refine lv_iload_n X.x X.b d_Model_digest_11 rfl (lv_at hl 0 rfl) ?_
                refine lv_bipush (v := 12) X.x X.b d_Model_digest_12 (by decide) ?_
                refine lv_icmp_ge (tgt := 36) X.x X.b d_Model_digest_14 (by decide) (fun c8 => ?_) (fun c8 => ?_)
                · exact absurd c8 (by decide)
                · skip
                  have c8q := Int32.not_le.mp c8
                  refine lv_lload_n X.x X.b d_Model_digest_17 rfl (lv_at hl 1 rfl) ?_
                  refine lv_ldc2 (v := (31 : Int64)) X.x X.b X.wn (X.ts _ (LW_t 1176 (by decide +kernel) (by decide +kernel))) d_Model_digest_18 ?_
                  refine lv_lmul X.x X.b d_Model_digest_21 ?_
                  rw [show (209618607835231 * 31 : Int64) = 6498176842892161 from by decide]
                  refine lv_aload_n X.x X.b d_Model_digest_22 rfl (lv_at hl 2 rfl) ?_
                  refine lv_iload_n X.x X.b d_Model_digest_23 rfl (lv_at hl 0 rfl) ?_
                  refine m_callP X hS (MP_ans (M_Model_manyNow l g hM (show frP p_1 s0 from ⟨⟨(by rw [ep_1, upd_mi _ _ _ (show 3 ≠ 0 by decide), hf3]), (by rw [ep_1, upd_mi _ _ _ (show 4 ≠ 0 by decide), hf4]), (by rw [ep_1, upd_mi _ _ _ (show 5 ≠ 0 by decide), hf5]), (by rw [ep_1, upd_mi _ _ _ (show 6 ≠ 0 by decide), hf6]), (by rw [ep_1, upd_mi _ _ _ (show 7 ≠ 0 by decide), hf7])⟩, ⟨g8, g11, g12, g13, g14, g141, g15, g23, g24⟩, gj⟩) hn 7) (show mnM 7 = 0 from by decide)) v_Model_228 hM.1 rfl rfl rfl (Nat.le_of_ble_eq_true rfl) hl.1 d_Model_digest_24 (by omega) (by decide) ⟨by omega, by omega⟩ (fun locs hS => ?_)
                  refine lv_i2l (v := (0 : Int32).toInt64) X.x X.b d_Model_digest_27 rfl ?_
                  refine lv_ladd X.x X.b d_Model_digest_28 ?_
                  rw [show (6498176842892161 + ((0 : Int32).toInt64) : Int64) = 6498176842892161 from by decide]
                  refine lv_lstore_n (lv' := [(1, .long 6498176842892161), (3, .int 7), (0, .ref mo)]) X.x X.b d_Model_digest_29 rfl hl (by decide) rfl (fun ls hl => ?_)
                  refine lv_iinc (v := 8) (lv' := [(3, .int 8), (1, .long 6498176842892161), (0, .ref mo)]) X.x X.b d_Model_digest_30 hl (k := 1) rfl (by decide) (by decide) rfl (fun ls hl => ?_)
                  refine lv_goto (tgt := 11) X.x X.b d_Model_digest_33 (by decide) ?_
                  refine lv_iload_n X.x X.b d_Model_digest_11 rfl (lv_at hl 0 rfl) ?_
                  refine lv_bipush (v := 12) X.x X.b d_Model_digest_12 (by decide) ?_
                  refine lv_icmp_ge (tgt := 36) X.x X.b d_Model_digest_14 (by decide) (fun c9 => ?_) (fun c9 => ?_)
                  · exact absurd c9 (by decide)
                  · skip
                    have c9q := Int32.not_le.mp c9
                    refine lv_lload_n X.x X.b d_Model_digest_17 rfl (lv_at hl 1 rfl) ?_
                    refine lv_ldc2 (v := (31 : Int64)) X.x X.b X.wn (X.ts _ (LW_t 1176 (by decide +kernel) (by decide +kernel))) d_Model_digest_18 ?_
                    refine lv_lmul X.x X.b d_Model_digest_21 ?_
                    rw [show (6498176842892161 * 31 : Int64) = 201443482129656991 from by decide]
                    refine lv_aload_n X.x X.b d_Model_digest_22 rfl (lv_at hl 2 rfl) ?_
                    refine lv_iload_n X.x X.b d_Model_digest_23 rfl (lv_at hl 0 rfl) ?_
                    refine m_callP X hS (MP_ans (M_Model_manyNow l g hM (show frP p_1 s0 from ⟨⟨(by rw [ep_1, upd_mi _ _ _ (show 3 ≠ 0 by decide), hf3]), (by rw [ep_1, upd_mi _ _ _ (show 4 ≠ 0 by decide), hf4]), (by rw [ep_1, upd_mi _ _ _ (show 5 ≠ 0 by decide), hf5]), (by rw [ep_1, upd_mi _ _ _ (show 6 ≠ 0 by decide), hf6]), (by rw [ep_1, upd_mi _ _ _ (show 7 ≠ 0 by decide), hf7])⟩, ⟨g8, g11, g12, g13, g14, g141, g15, g23, g24⟩, gj⟩) hn 8) (show mnM 8 = 0 from by decide)) v_Model_228 hM.1 rfl rfl rfl (Nat.le_of_ble_eq_true rfl) hl.1 d_Model_digest_24 (by omega) (by decide) ⟨by omega, by omega⟩ (fun locs hS => ?_)
                    refine lv_i2l (v := (0 : Int32).toInt64) X.x X.b d_Model_digest_27 rfl ?_
                    refine lv_ladd X.x X.b d_Model_digest_28 ?_
                    rw [show (201443482129656991 + ((0 : Int32).toInt64) : Int64) = 201443482129656991 from by decide]
                    refine lv_lstore_n (lv' := [(1, .long 201443482129656991), (3, .int 8), (0, .ref mo)]) X.x X.b d_Model_digest_29 rfl hl (by decide) rfl (fun ls hl => ?_)
                    refine lv_iinc (v := 9) (lv' := [(3, .int 9), (1, .long 201443482129656991), (0, .ref mo)]) X.x X.b d_Model_digest_30 hl (k := 1) rfl (by decide) (by decide) rfl (fun ls hl => ?_)
                    refine lv_goto (tgt := 11) X.x X.b d_Model_digest_33 (by decide) ?_
                    refine lv_iload_n X.x X.b d_Model_digest_11 rfl (lv_at hl 0 rfl) ?_
                    refine lv_bipush (v := 12) X.x X.b d_Model_digest_12 (by decide) ?_
                    refine lv_icmp_ge (tgt := 36) X.x X.b d_Model_digest_14 (by decide) (fun c10 => ?_) (fun c10 => ?_)
                    · exact absurd c10 (by decide)
                    · skip
                      have c10q := Int32.not_le.mp c10
                      refine lv_lload_n X.x X.b d_Model_digest_17 rfl (lv_at hl 1 rfl) ?_
                      refine lv_ldc2 (v := (31 : Int64)) X.x X.b X.wn (X.ts _ (LW_t 1176 (by decide +kernel) (by decide +kernel))) d_Model_digest_18 ?_
                      refine lv_lmul X.x X.b d_Model_digest_21 ?_
                      rw [show (201443482129656991 * 31 : Int64) = 6244747946019366721 from by decide]
                      refine lv_aload_n X.x X.b d_Model_digest_22 rfl (lv_at hl 2 rfl) ?_
                      refine lv_iload_n X.x X.b d_Model_digest_23 rfl (lv_at hl 0 rfl) ?_
                      refine m_callP X hS (MP_ans (M_Model_manyNow l g hM (show frP p_1 s0 from ⟨⟨(by rw [ep_1, upd_mi _ _ _ (show 3 ≠ 0 by decide), hf3]), (by rw [ep_1, upd_mi _ _ _ (show 4 ≠ 0 by decide), hf4]), (by rw [ep_1, upd_mi _ _ _ (show 5 ≠ 0 by decide), hf5]), (by rw [ep_1, upd_mi _ _ _ (show 6 ≠ 0 by decide), hf6]), (by rw [ep_1, upd_mi _ _ _ (show 7 ≠ 0 by decide), hf7])⟩, ⟨g8, g11, g12, g13, g14, g141, g15, g23, g24⟩, gj⟩) hn 9) (show mnM 9 = 0 from by decide)) v_Model_228 hM.1 rfl rfl rfl (Nat.le_of_ble_eq_true rfl) hl.1 d_Model_digest_24 (by omega) (by decide) ⟨by omega, by omega⟩ (fun locs hS => ?_)
                      refine lv_i2l (v := (0 : Int32).toInt64) X.x X.b d_Model_digest_27 rfl ?_
                      refine lv_ladd X.x X.b d_Model_digest_28 ?_
                      rw [show (6244747946019366721 + ((0 : Int32).toInt64) : Int64) = 6244747946019366721 from by decide]
                      refine lv_lstore_n (lv' := [(1, .long 6244747946019366721), (3, .int 9), (0, .ref mo)]) X.x X.b d_Model_digest_29 rfl hl (by decide) rfl (fun ls hl => ?_)
                      refine lv_iinc (v := 10) (lv' := [(3, .int 10), (1, .long 6244747946019366721), (0, .ref mo)]) X.x X.b d_Model_digest_30 hl (k := 1) rfl (by decide) (by decide) rfl (fun ls hl => ?_)
                      refine lv_goto (tgt := 11) X.x X.b d_Model_digest_33 (by decide) ?_
                      refine lv_iload_n X.x X.b d_Model_digest_11 rfl (lv_at hl 0 rfl) ?_
                      refine lv_bipush (v := 12) X.x X.b d_Model_digest_12 (by decide) ?_
                      refine lv_icmp_ge (tgt := 36) X.x X.b d_Model_digest_14 (by decide) (fun c11 => ?_) (fun c11 => ?_)
                      · exact absurd c11 (by decide)
                      · skip
                        have c11q := Int32.not_le.mp c11
                        refine lv_lload_n X.x X.b d_Model_digest_17 rfl (lv_at hl 1 rfl) ?_
                        refine lv_ldc2 (v := (31 : Int64)) X.x X.b X.wn (X.ts _ (LW_t 1176 (by decide +kernel) (by decide +kernel))) d_Model_digest_18 ?_
                        refine lv_lmul X.x X.b d_Model_digest_21 ?_
                        rw [show (6244747946019366721 * 31 : Int64) = 9119745589504852191 from by decide]
                        refine lv_aload_n X.x X.b d_Model_digest_22 rfl (lv_at hl 2 rfl) ?_
                        refine lv_iload_n X.x X.b d_Model_digest_23 rfl (lv_at hl 0 rfl) ?_
                        refine m_callP X hS (MP_ans (M_Model_manyNow l g hM (show frP p_1 s0 from ⟨⟨(by rw [ep_1, upd_mi _ _ _ (show 3 ≠ 0 by decide), hf3]), (by rw [ep_1, upd_mi _ _ _ (show 4 ≠ 0 by decide), hf4]), (by rw [ep_1, upd_mi _ _ _ (show 5 ≠ 0 by decide), hf5]), (by rw [ep_1, upd_mi _ _ _ (show 6 ≠ 0 by decide), hf6]), (by rw [ep_1, upd_mi _ _ _ (show 7 ≠ 0 by decide), hf7])⟩, ⟨g8, g11, g12, g13, g14, g141, g15, g23, g24⟩, gj⟩) hn 10) (show mnM 10 = 0 from by decide)) v_Model_228 hM.1 rfl rfl rfl (Nat.le_of_ble_eq_true rfl) hl.1 d_Model_digest_24 (by omega) (by decide) ⟨by omega, by omega⟩ (fun locs hS => ?_)
                        refine lv_i2l (v := (0 : Int32).toInt64) X.x X.b d_Model_digest_27 rfl ?_
                        refine lv_ladd X.x X.b d_Model_digest_28 ?_
                        rw [show (9119745589504852191 + ((0 : Int32).toInt64) : Int64) = 9119745589504852191 from by decide]
                        refine lv_lstore_n (lv' := [(1, .long 9119745589504852191), (3, .int 10), (0, .ref mo)]) X.x X.b d_Model_digest_29 rfl hl (by decide) rfl (fun ls hl => ?_)
                        refine lv_iinc (v := 11) (lv' := [(3, .int 11), (1, .long 9119745589504852191), (0, .ref mo)]) X.x X.b d_Model_digest_30 hl (k := 1) rfl (by decide) (by decide) rfl (fun ls hl => ?_)
                        refine lv_goto (tgt := 11) X.x X.b d_Model_digest_33 (by decide) ?_
                        refine lv_iload_n X.x X.b d_Model_digest_11 rfl (lv_at hl 0 rfl) ?_
                        refine lv_bipush (v := 12) X.x X.b d_Model_digest_12 (by decide) ?_
                        refine lv_icmp_ge (tgt := 36) X.x X.b d_Model_digest_14 (by decide) (fun c12 => ?_) (fun c12 => ?_)
                        · exact absurd c12 (by decide)
                        · skip
                          have c12q := Int32.not_le.mp c12
                          refine lv_lload_n X.x X.b d_Model_digest_17 rfl (lv_at hl 1 rfl) ?_
                          refine lv_ldc2 (v := (31 : Int64)) X.x X.b X.wn (X.ts _ (LW_t 1176 (by decide +kernel) (by decide +kernel))) d_Model_digest_18 ?_
                          refine lv_lmul X.x X.b d_Model_digest_21 ?_
                          rw [show (9119745589504852191 * 31 : Int64) = 6010952169007143681 from by decide]
                          refine lv_aload_n X.x X.b d_Model_digest_22 rfl (lv_at hl 2 rfl) ?_
                          refine lv_iload_n X.x X.b d_Model_digest_23 rfl (lv_at hl 0 rfl) ?_
                          refine m_callP X hS (MP_ans (M_Model_manyNow l g hM (show frP p_1 s0 from ⟨⟨(by rw [ep_1, upd_mi _ _ _ (show 3 ≠ 0 by decide), hf3]), (by rw [ep_1, upd_mi _ _ _ (show 4 ≠ 0 by decide), hf4]), (by rw [ep_1, upd_mi _ _ _ (show 5 ≠ 0 by decide), hf5]), (by rw [ep_1, upd_mi _ _ _ (show 6 ≠ 0 by decide), hf6]), (by rw [ep_1, upd_mi _ _ _ (show 7 ≠ 0 by decide), hf7])⟩, ⟨g8, g11, g12, g13, g14, g141, g15, g23, g24⟩, gj⟩) hn 11) (show mnM 11 = 0 from by decide)) v_Model_228 hM.1 rfl rfl rfl (Nat.le_of_ble_eq_true rfl) hl.1 d_Model_digest_24 (by omega) (by decide) ⟨by omega, by omega⟩ (fun locs hS => ?_)
                          refine lv_i2l (v := (0 : Int32).toInt64) X.x X.b d_Model_digest_27 rfl ?_
                          refine lv_ladd X.x X.b d_Model_digest_28 ?_
                          rw [show (6010952169007143681 + ((0 : Int32).toInt64) : Int64) = 6010952169007143681 from by decide]
                          refine lv_lstore_n (lv' := [(1, .long 6010952169007143681), (3, .int 11), (0, .ref mo)]) X.x X.b d_Model_digest_29 rfl hl (by decide) rfl (fun ls hl => ?_)
                          refine lv_iinc (v := 12) (lv' := [(3, .int 12), (1, .long 6010952169007143681), (0, .ref mo)]) X.x X.b d_Model_digest_30 hl (k := 1) rfl (by decide) (by decide) rfl (fun ls hl => ?_)
                          refine lv_goto (tgt := 11) X.x X.b d_Model_digest_33 (by decide) ?_
                          refine lv_iload_n X.x X.b d_Model_digest_11 rfl (lv_at hl 0 rfl) ?_
                          refine lv_bipush (v := 12) X.x X.b d_Model_digest_12 (by decide) ?_
                          refine lv_icmp_ge (tgt := 36) X.x X.b d_Model_digest_14 (by decide) (fun c13 => ?_) (fun c13 => ?_)
                          · skip
                            have c13q := Int32.not_lt.mpr c13
                            refine lv_lload_n X.x X.b d_Model_digest_36 rfl (lv_at hl 1 rfl) ?_
                            refine lv_ldc2 (v := (31 : Int64)) X.x X.b X.wn (X.ts _ (LW_t 1176 (by decide +kernel) (by decide +kernel))) d_Model_digest_37 ?_
                            refine lv_lmul X.x X.b d_Model_digest_40 ?_
                            rw [show (6010952169007143681 * 31 : Int64) = 1872076502125937951 from by decide]
                            refine lv_aload_n X.x X.b d_Model_digest_41 rfl (lv_at hl 2 rfl) ?_
                            refine m_get (v := .int 0) X ok_Model hM.1 3 (by decide) k_Model_126 (congrArg (fun z => some (Value.int z)) (show p_1 3 = 0 from (by rw [ep_1, upd_mi _ _ _ (show 3 ≠ 0 by decide), hf3]))) d_Model_digest_42 ?_
                            refine lv_i2l (v := (0 : Int32).toInt64) X.x X.b d_Model_digest_45 rfl ?_
                            refine lv_ladd X.x X.b d_Model_digest_46 ?_
                            rw [show (1872076502125937951 + ((0 : Int32).toInt64) : Int64) = 1872076502125937951 from by decide]
                            refine lv_ldc2 (v := (31 : Int64)) X.x X.b X.wn (X.ts _ (LW_t 1176 (by decide +kernel) (by decide +kernel))) d_Model_digest_47 ?_
                            refine lv_lmul X.x X.b d_Model_digest_50 ?_
                            rw [show (1872076502125937951 * 31 : Int64) = 2694139344775421633 from by decide]
                            refine lv_aload_n X.x X.b d_Model_digest_51 rfl (lv_at hl 2 rfl) ?_
                            refine m_get (v := .int (-1)) X ok_Model hM.1 4 (by decide) k_Model_129 (congrArg (fun z => some (Value.int z)) (show p_1 4 = (-1) from (by rw [ep_1, upd_mi _ _ _ (show 4 ≠ 0 by decide), hf4]))) d_Model_digest_52 ?_
                            refine lv_i2l (v := ((-1) : Int32).toInt64) X.x X.b d_Model_digest_55 rfl ?_
                            refine lv_ladd X.x X.b d_Model_digest_56 ?_
                            rw [show (2694139344775421633 + (((-1) : Int32).toInt64) : Int64) = 2694139344775421632 from by decide]
                            refine lv_lstore_n (lv' := [(1, .long 2694139344775421632), (3, .int 12), (0, .ref mo)]) X.x X.b d_Model_digest_57 rfl hl (by decide) rfl (fun ls hl => ?_)
                            refine lv_iconst (v := 0) X.x X.b d_Model_digest_58 (by decide) ?_
                            refine lv_istore_n (lv' := [(3, .int 0), (1, .long 2694139344775421632), (0, .ref mo)]) X.x X.b d_Model_digest_59 rfl hl (by decide) rfl (fun ls hl => ?_)
                            refine lv_iload_n X.x X.b d_Model_digest_60 rfl (lv_at hl 0 rfl) ?_
                            refine lv_aload_n X.x X.b d_Model_digest_61 rfl (lv_at hl 2 rfl) ?_
                            refine m_get (v := .ref (mo + 2)) X ok_Model hM.1 2 (by decide) k_Model_13 rfl d_Model_digest_62 ?_
                            refine lv_iconst (v := 0) X.x X.b d_Model_digest_65 (by decide) ?_
                            refine m_ild (v := 0) X hM.a2 0 rfl (by omega) (by decide) (show s0 2 0 = 0 from (by rw [hn 0 (by omega)])) d_Model_digest_66 ?_
                            refine lv_icmp_ge (tgt := 90) X.x X.b d_Model_digest_67 (by decide) (fun c14 => ?_) (fun c14 => ?_)
                            · skip
                              have c14q := Int32.not_lt.mpr c14
                              refine lv_aload_n X.x X.b d_Model_digest_90 rfl (lv_at hl 2 rfl) ?_
                              refine m_get (v := .int 0) X ok_Model hM.1 3 (by decide) k_Model_126 (congrArg (fun z => some (Value.int z)) (show p_1 3 = 0 from (by rw [ep_1, upd_mi _ _ _ (show 3 ≠ 0 by decide), hf3]))) d_Model_digest_91 ?_
                              refine lv_if_le (tgt := 99) X.x X.b d_Model_digest_94 (by decide) (fun c15 => ?_) (fun c15 => ?_)
                              · skip
                                have c15q := Int32.not_lt.mpr c15
                                refine lv_iconst (v := 0) X.x X.b d_Model_digest_99 (by decide) ?_
                                refine lv_istore_n (lv' := [(3, .int 0), (1, .long 2694139344775421632), (0, .ref mo)]) X.x X.b d_Model_digest_100 rfl hl (by decide) rfl (fun ls hl => ?_)
                                refine lv_iload_n X.x X.b d_Model_digest_101 rfl (lv_at hl 0 rfl) ?_
                                refine lv_aload_n X.x X.b d_Model_digest_102 rfl (lv_at hl 2 rfl) ?_
                                refine m_get (v := .int 1) X ok_Model hM.1 5 (by decide) k_Model_132 (congrArg (fun z => some (Value.int z)) (show p_1 5 = 1 from (by rw [ep_1, upd_mi _ _ _ (show 5 ≠ 0 by decide), hf5]))) d_Model_digest_103 ?_
                                refine lv_icmp_ge (tgt := 146) X.x X.b d_Model_digest_106 (by decide) (fun c16 => ?_) (fun c16 => ?_)
                                · exact absurd c16 (by decide)
                                · skip
                                  have c16q := Int32.not_le.mp c16
                                  refine lv_iconst (v := 0) X.x X.b d_Model_digest_109 (by decide) ?_
                                  refine lv_istore (lv' := [(4, .int 0), (3, .int 0), (1, .long 2694139344775421632), (0, .ref mo)]) X.x X.b d_Model_digest_110 hl (by decide) rfl (fun ls hl => ?_)
                                  refine lv_iload X.x X.b d_Model_digest_112 (lv_at hl 0 rfl) ?_
                                  refine lv_bipush (v := 8) X.x X.b d_Model_digest_114 (by decide) ?_
                                  refine lv_icmp_ge (tgt := 140) X.x X.b d_Model_digest_116 (by decide) (fun c17 => ?_) (fun c17 => ?_)
                                  · exact absurd c17 (by decide)
                                  · skip
                                    have c17q := Int32.not_le.mp c17
                                    refine lv_lload_n X.x X.b d_Model_digest_119 rfl (lv_at hl 2 rfl) ?_
                                    refine lv_ldc2 (v := (31 : Int64)) X.x X.b X.wn (X.ts _ (LW_t 1176 (by decide +kernel) (by decide +kernel))) d_Model_digest_120 ?_
                                    refine lv_lmul X.x X.b d_Model_digest_123 ?_
                                    rw [show (2694139344775421632 * 31 : Int64) = (-8715400680509687488) from by decide]
                                    refine lv_aload_n X.x X.b d_Model_digest_124 rfl (lv_at hl 3 rfl) ?_
                                    refine lv_iload_n X.x X.b d_Model_digest_125 rfl (lv_at hl 1 rfl) ?_
                                    refine lv_iload X.x X.b d_Model_digest_126 (lv_at hl 0 rfl) ?_
                                    refine m_callP X hS (MP_ans (M_Model_ofItemNow l g hM (show frP p_1 s0 from ⟨⟨(by rw [ep_1, upd_mi _ _ _ (show 3 ≠ 0 by decide), hf3]), (by rw [ep_1, upd_mi _ _ _ (show 4 ≠ 0 by decide), hf4]), (by rw [ep_1, upd_mi _ _ _ (show 5 ≠ 0 by decide), hf5]), (by rw [ep_1, upd_mi _ _ _ (show 6 ≠ 0 by decide), hf6]), (by rw [ep_1, upd_mi _ _ _ (show 7 ≠ 0 by decide), hf7])⟩, ⟨g8, g11, g12, g13, g14, g141, g15, g23, g24⟩, gj⟩) hn 0) (show oiM 0 = 6 from by decide)) v_Model_210 hM.1 rfl rfl rfl (Nat.le_of_ble_eq_true rfl) hl.1 d_Model_digest_128 (by omega) (by decide) ⟨by omega, by omega⟩ (fun locs hS => ?_)
                                    refine lv_i2l (v := (6 : Int32).toInt64) X.x X.b d_Model_digest_131 rfl ?_
                                    refine lv_ladd X.x X.b d_Model_digest_132 ?_
                                    rw [show ((-8715400680509687488) + ((6 : Int32).toInt64) : Int64) = (-8715400680509687482) from by decide]
                                    refine lv_lstore_n (lv' := [(1, .long (-8715400680509687482)), (4, .int 0), (3, .int 0), (0, .ref mo)]) X.x X.b d_Model_digest_133 rfl hl (by decide) rfl (fun ls hl => ?_)
                                    refine lv_iinc (v := 1) (lv' := [(4, .int 1), (1, .long (-8715400680509687482)), (3, .int 0), (0, .ref mo)]) X.x X.b d_Model_digest_134 hl (k := 1) rfl (by decide) (by decide) rfl (fun ls hl => ?_)
                                    refine lv_goto (tgt := 112) X.x X.b d_Model_digest_137 (by decide) ?_
                                    refine lv_iload X.x X.b d_Model_digest_112 (lv_at hl 0 rfl) ?_
                                    refine lv_bipush (v := 8) X.x X.b d_Model_digest_114 (by decide) ?_
                                    refine lv_icmp_ge (tgt := 140) X.x X.b d_Model_digest_116 (by decide) (fun c18 => ?_) (fun c18 => ?_)
                                    · exact absurd c18 (by decide)
                                    · skip
                                      have c18q := Int32.not_le.mp c18
                                      refine lv_lload_n X.x X.b d_Model_digest_119 rfl (lv_at hl 1 rfl) ?_
                                      refine lv_ldc2 (v := (31 : Int64)) X.x X.b X.wn (X.ts _ (LW_t 1176 (by decide +kernel) (by decide +kernel))) d_Model_digest_120 ?_
                                      refine lv_lmul X.x X.b d_Model_digest_123 ?_
                                      rw [show ((-8715400680509687482) * 31 : Int64) = 6523740009842962298 from by decide]
                                      refine lv_aload_n X.x X.b d_Model_digest_124 rfl (lv_at hl 3 rfl) ?_
                                      refine lv_iload_n X.x X.b d_Model_digest_125 rfl (lv_at hl 2 rfl) ?_
                                      refine lv_iload X.x X.b d_Model_digest_126 (lv_at hl 0 rfl) ?_
                                      refine m_callP X hS (MP_ans (M_Model_ofItemNow l g hM (show frP p_1 s0 from ⟨⟨(by rw [ep_1, upd_mi _ _ _ (show 3 ≠ 0 by decide), hf3]), (by rw [ep_1, upd_mi _ _ _ (show 4 ≠ 0 by decide), hf4]), (by rw [ep_1, upd_mi _ _ _ (show 5 ≠ 0 by decide), hf5]), (by rw [ep_1, upd_mi _ _ _ (show 6 ≠ 0 by decide), hf6]), (by rw [ep_1, upd_mi _ _ _ (show 7 ≠ 0 by decide), hf7])⟩, ⟨g8, g11, g12, g13, g14, g141, g15, g23, g24⟩, gj⟩) hn 1) (show oiM 1 = 0 from by decide)) v_Model_210 hM.1 rfl rfl rfl (Nat.le_of_ble_eq_true rfl) hl.1 d_Model_digest_128 (by omega) (by decide) ⟨by omega, by omega⟩ (fun locs hS => ?_)
                                      refine lv_i2l (v := (0 : Int32).toInt64) X.x X.b d_Model_digest_131 rfl ?_
                                      refine lv_ladd X.x X.b d_Model_digest_132 ?_
                                      rw [show (6523740009842962298 + ((0 : Int32).toInt64) : Int64) = 6523740009842962298 from by decide]
                                      refine lv_lstore_n (lv' := [(1, .long 6523740009842962298), (4, .int 1), (3, .int 0), (0, .ref mo)]) X.x X.b d_Model_digest_133 rfl hl (by decide) rfl (fun ls hl => ?_)
                                      refine lv_iinc (v := 2) (lv' := [(4, .int 2), (1, .long 6523740009842962298), (3, .int 0), (0, .ref mo)]) X.x X.b d_Model_digest_134 hl (k := 1) rfl (by decide) (by decide) rfl (fun ls hl => ?_)
                                      refine lv_goto (tgt := 112) X.x X.b d_Model_digest_137 (by decide) ?_
                                      refine lv_iload X.x X.b d_Model_digest_112 (lv_at hl 0 rfl) ?_
                                      refine lv_bipush (v := 8) X.x X.b d_Model_digest_114 (by decide) ?_
                                      refine lv_icmp_ge (tgt := 140) X.x X.b d_Model_digest_116 (by decide) (fun c19 => ?_) (fun c19 => ?_)
                                      · exact absurd c19 (by decide)
                                      · skip
                                        have c19q := Int32.not_le.mp c19
                                        refine lv_lload_n X.x X.b d_Model_digest_119 rfl (lv_at hl 1 rfl) ?_
                                        refine lv_ldc2 (v := (31 : Int64)) X.x X.b X.wn (X.ts _ (LW_t 1176 (by decide +kernel) (by decide +kernel))) d_Model_digest_120 ?_
                                        refine lv_lmul X.x X.b d_Model_digest_123 ?_
                                        rw [show (6523740009842962298 * 31 : Int64) = (-678244505673236538) from by decide]
                                        refine lv_aload_n X.x X.b d_Model_digest_124 rfl (lv_at hl 3 rfl) ?_
                                        refine lv_iload_n X.x X.b d_Model_digest_125 rfl (lv_at hl 2 rfl) ?_
                                        refine lv_iload X.x X.b d_Model_digest_126 (lv_at hl 0 rfl) ?_
                                        refine m_callP X hS (MP_ans (M_Model_ofItemNow l g hM (show frP p_1 s0 from ⟨⟨(by rw [ep_1, upd_mi _ _ _ (show 3 ≠ 0 by decide), hf3]), (by rw [ep_1, upd_mi _ _ _ (show 4 ≠ 0 by decide), hf4]), (by rw [ep_1, upd_mi _ _ _ (show 5 ≠ 0 by decide), hf5]), (by rw [ep_1, upd_mi _ _ _ (show 6 ≠ 0 by decide), hf6]), (by rw [ep_1, upd_mi _ _ _ (show 7 ≠ 0 by decide), hf7])⟩, ⟨g8, g11, g12, g13, g14, g141, g15, g23, g24⟩, gj⟩) hn 2) (show oiM 2 = 0 from by decide)) v_Model_210 hM.1 rfl rfl rfl (Nat.le_of_ble_eq_true rfl) hl.1 d_Model_digest_128 (by omega) (by decide) ⟨by omega, by omega⟩ (fun locs hS => ?_)
                                        refine lv_i2l (v := (0 : Int32).toInt64) X.x X.b d_Model_digest_131 rfl ?_
                                        refine lv_ladd X.x X.b d_Model_digest_132 ?_
                                        rw [show ((-678244505673236538) + ((0 : Int32).toInt64) : Int64) = (-678244505673236538) from by decide]
                                        refine lv_lstore_n (lv' := [(1, .long (-678244505673236538)), (4, .int 2), (3, .int 0), (0, .ref mo)]) X.x X.b d_Model_digest_133 rfl hl (by decide) rfl (fun ls hl => ?_)
                                        refine lv_iinc (v := 3) (lv' := [(4, .int 3), (1, .long (-678244505673236538)), (3, .int 0), (0, .ref mo)]) X.x X.b d_Model_digest_134 hl (k := 1) rfl (by decide) (by decide) rfl (fun ls hl => ?_)
                                        refine lv_goto (tgt := 112) X.x X.b d_Model_digest_137 (by decide) ?_
                                        refine lv_iload X.x X.b d_Model_digest_112 (lv_at hl 0 rfl) ?_
                                        refine lv_bipush (v := 8) X.x X.b d_Model_digest_114 (by decide) ?_
                                        refine lv_icmp_ge (tgt := 140) X.x X.b d_Model_digest_116 (by decide) (fun c20 => ?_) (fun c20 => ?_)
                                        · exact absurd c20 (by decide)
                                        · skip
                                          have c20q := Int32.not_le.mp c20
                                          refine lv_lload_n X.x X.b d_Model_digest_119 rfl (lv_at hl 1 rfl) ?_
                                          refine lv_ldc2 (v := (31 : Int64)) X.x X.b X.wn (X.ts _ (LW_t 1176 (by decide +kernel) (by decide +kernel))) d_Model_digest_120 ?_
                                          refine lv_lmul X.x X.b d_Model_digest_123 ?_
                                          rw [show ((-678244505673236538) * 31 : Int64) = (-2578835602160781062) from by decide]
                                          refine lv_aload_n X.x X.b d_Model_digest_124 rfl (lv_at hl 3 rfl) ?_
                                          refine lv_iload_n X.x X.b d_Model_digest_125 rfl (lv_at hl 2 rfl) ?_
                                          refine lv_iload X.x X.b d_Model_digest_126 (lv_at hl 0 rfl) ?_
                                          refine m_callP X hS (MP_ans (M_Model_ofItemNow l g hM (show frP p_1 s0 from ⟨⟨(by rw [ep_1, upd_mi _ _ _ (show 3 ≠ 0 by decide), hf3]), (by rw [ep_1, upd_mi _ _ _ (show 4 ≠ 0 by decide), hf4]), (by rw [ep_1, upd_mi _ _ _ (show 5 ≠ 0 by decide), hf5]), (by rw [ep_1, upd_mi _ _ _ (show 6 ≠ 0 by decide), hf6]), (by rw [ep_1, upd_mi _ _ _ (show 7 ≠ 0 by decide), hf7])⟩, ⟨g8, g11, g12, g13, g14, g141, g15, g23, g24⟩, gj⟩) hn 3) (show oiM 3 = (-1) from by decide)) v_Model_210 hM.1 rfl rfl rfl (Nat.le_of_ble_eq_true rfl) hl.1 d_Model_digest_128 (by omega) (by decide) ⟨by omega, by omega⟩ (fun locs hS => ?_)
                                          refine lv_i2l (v := ((-1) : Int32).toInt64) X.x X.b d_Model_digest_131 rfl ?_
                                          refine lv_ladd X.x X.b d_Model_digest_132 ?_
                                          rw [show ((-2578835602160781062) + (((-1) : Int32).toInt64) : Int64) = (-2578835602160781063) from by decide]
                                          refine lv_lstore_n (lv' := [(1, .long (-2578835602160781063)), (4, .int 3), (3, .int 0), (0, .ref mo)]) X.x X.b d_Model_digest_133 rfl hl (by decide) rfl (fun ls hl => ?_)
                                          refine lv_iinc (v := 4) (lv' := [(4, .int 4), (1, .long (-2578835602160781063)), (3, .int 0), (0, .ref mo)]) X.x X.b d_Model_digest_134 hl (k := 1) rfl (by decide) (by decide) rfl (fun ls hl => ?_)
                                          refine lv_goto (tgt := 112) X.x X.b d_Model_digest_137 (by decide) ?_
                                          refine lv_iload X.x X.b d_Model_digest_112 (lv_at hl 0 rfl) ?_
                                          refine lv_bipush (v := 8) X.x X.b d_Model_digest_114 (by decide) ?_
                                          refine lv_icmp_ge (tgt := 140) X.x X.b d_Model_digest_116 (by decide) (fun c21 => ?_) (fun c21 => ?_)
                                          · exact absurd c21 (by decide)
                                          · skip
                                            have c21q := Int32.not_le.mp c21
                                            refine lv_lload_n X.x X.b d_Model_digest_119 rfl (lv_at hl 1 rfl) ?_
                                            refine lv_ldc2 (v := (31 : Int64)) X.x X.b X.wn (X.ts _ (LW_t 1176 (by decide +kernel) (by decide +kernel))) d_Model_digest_120 ?_
                                            refine lv_lmul X.x X.b d_Model_digest_123 ?_
                                            rw [show ((-2578835602160781063) * 31 : Int64) = (-6156927372146006489) from by decide]
                                            refine lv_aload_n X.x X.b d_Model_digest_124 rfl (lv_at hl 3 rfl) ?_
                                            refine lv_iload_n X.x X.b d_Model_digest_125 rfl (lv_at hl 2 rfl) ?_
                                            refine lv_iload X.x X.b d_Model_digest_126 (lv_at hl 0 rfl) ?_
                                            refine m_callP X hS (MP_ans (M_Model_ofItemNow l g hM (show frP p_1 s0 from ⟨⟨(by rw [ep_1, upd_mi _ _ _ (show 3 ≠ 0 by decide), hf3]), (by rw [ep_1, upd_mi _ _ _ (show 4 ≠ 0 by decide), hf4]), (by rw [ep_1, upd_mi _ _ _ (show 5 ≠ 0 by decide), hf5]), (by rw [ep_1, upd_mi _ _ _ (show 6 ≠ 0 by decide), hf6]), (by rw [ep_1, upd_mi _ _ _ (show 7 ≠ 0 by decide), hf7])⟩, ⟨g8, g11, g12, g13, g14, g141, g15, g23, g24⟩, gj⟩) hn 4) (show oiM 4 = 0 from by decide)) v_Model_210 hM.1 rfl rfl rfl (Nat.le_of_ble_eq_true rfl) hl.1 d_Model_digest_128 (by omega) (by decide) ⟨by omega, by omega⟩ (fun locs hS => ?_)
                                            refine lv_i2l (v := (0 : Int32).toInt64) X.x X.b d_Model_digest_131 rfl ?_
                                            refine lv_ladd X.x X.b d_Model_digest_132 ?_
                                            rw [show ((-6156927372146006489) + ((0 : Int32).toInt64) : Int64) = (-6156927372146006489) from by decide]
                                            refine lv_lstore_n (lv' := [(1, .long (-6156927372146006489)), (4, .int 4), (3, .int 0), (0, .ref mo)]) X.x X.b d_Model_digest_133 rfl hl (by decide) rfl (fun ls hl => ?_)
                                            refine lv_iinc (v := 5) (lv' := [(4, .int 5), (1, .long (-6156927372146006489)), (3, .int 0), (0, .ref mo)]) X.x X.b d_Model_digest_134 hl (k := 1) rfl (by decide) (by decide) rfl (fun ls hl => ?_)
                                            refine lv_goto (tgt := 112) X.x X.b d_Model_digest_137 (by decide) ?_
                                            refine lv_iload X.x X.b d_Model_digest_112 (lv_at hl 0 rfl) ?_
                                            refine lv_bipush (v := 8) X.x X.b d_Model_digest_114 (by decide) ?_
                                            refine lv_icmp_ge (tgt := 140) X.x X.b d_Model_digest_116 (by decide) (fun c22 => ?_) (fun c22 => ?_)
                                            · exact absurd c22 (by decide)
                                            · skip
                                              have c22q := Int32.not_le.mp c22
                                              refine lv_lload_n X.x X.b d_Model_digest_119 rfl (lv_at hl 1 rfl) ?_
                                              refine lv_ldc2 (v := (31 : Int64)) X.x X.b X.wn (X.ts _ (LW_t 1176 (by decide +kernel) (by decide +kernel))) d_Model_digest_120 ?_
                                              refine lv_lmul X.x X.b d_Model_digest_123 ?_
                                              rw [show ((-6156927372146006489) * 31 : Int64) = (-6397307799430684999) from by decide]
                                              refine lv_aload_n X.x X.b d_Model_digest_124 rfl (lv_at hl 3 rfl) ?_
                                              refine lv_iload_n X.x X.b d_Model_digest_125 rfl (lv_at hl 2 rfl) ?_
                                              refine lv_iload X.x X.b d_Model_digest_126 (lv_at hl 0 rfl) ?_
                                              refine m_callP X hS (MP_ans (M_Model_ofItemNow l g hM (show frP p_1 s0 from ⟨⟨(by rw [ep_1, upd_mi _ _ _ (show 3 ≠ 0 by decide), hf3]), (by rw [ep_1, upd_mi _ _ _ (show 4 ≠ 0 by decide), hf4]), (by rw [ep_1, upd_mi _ _ _ (show 5 ≠ 0 by decide), hf5]), (by rw [ep_1, upd_mi _ _ _ (show 6 ≠ 0 by decide), hf6]), (by rw [ep_1, upd_mi _ _ _ (show 7 ≠ 0 by decide), hf7])⟩, ⟨g8, g11, g12, g13, g14, g141, g15, g23, g24⟩, gj⟩) hn 5) (show oiM 5 = 0 from by decide)) v_Model_210 hM.1 rfl rfl rfl (Nat.le_of_ble_eq_true rfl) hl.1 d_Model_digest_128 (by omega) (by decide) ⟨by omega, by omega⟩ (fun locs hS => ?_)
                                              refine lv_i2l (v := (0 : Int32).toInt64) X.x X.b d_Model_digest_131 rfl ?_
                                              refine lv_ladd X.x X.b d_Model_digest_132 ?_
                                              rw [show ((-6397307799430684999) + ((0 : Int32).toInt64) : Int64) = (-6397307799430684999) from by decide]
                                              refine lv_lstore_n (lv' := [(1, .long (-6397307799430684999)), (4, .int 5), (3, .int 0), (0, .ref mo)]) X.x X.b d_Model_digest_133 rfl hl (by decide) rfl (fun ls hl => ?_)
                                              refine lv_iinc (v := 6) (lv' := [(4, .int 6), (1, .long (-6397307799430684999)), (3, .int 0), (0, .ref mo)]) X.x X.b d_Model_digest_134 hl (k := 1) rfl (by decide) (by decide) rfl (fun ls hl => ?_)
                                              refine lv_goto (tgt := 112) X.x X.b d_Model_digest_137 (by decide) ?_
                                              refine lv_iload X.x X.b d_Model_digest_112 (lv_at hl 0 rfl) ?_
                                              refine lv_bipush (v := 8) X.x X.b d_Model_digest_114 (by decide) ?_
                                              refine lv_icmp_ge (tgt := 140) X.x X.b d_Model_digest_116 (by decide) (fun c23 => ?_) (fun c23 => ?_)
                                              · exact absurd c23 (by decide)
                                              · skip
                                                have c23q := Int32.not_le.mp c23
                                                refine lv_lload_n X.x X.b d_Model_digest_119 rfl (lv_at hl 1 rfl) ?_
                                                refine lv_ldc2 (v := (31 : Int64)) X.x X.b X.wn (X.ts _ (LW_t 1176 (by decide +kernel) (by decide +kernel))) d_Model_digest_120 ?_
                                                refine lv_lmul X.x X.b d_Model_digest_123 ?_
                                                rw [show ((-6397307799430684999) * 31 : Int64) = 4597643028453832807 from by decide]
                                                refine lv_aload_n X.x X.b d_Model_digest_124 rfl (lv_at hl 3 rfl) ?_
                                                refine lv_iload_n X.x X.b d_Model_digest_125 rfl (lv_at hl 2 rfl) ?_
                                                refine lv_iload X.x X.b d_Model_digest_126 (lv_at hl 0 rfl) ?_
                                                refine m_callP X hS (MP_ans (M_Model_ofItemNow l g hM (show frP p_1 s0 from ⟨⟨(by rw [ep_1, upd_mi _ _ _ (show 3 ≠ 0 by decide), hf3]), (by rw [ep_1, upd_mi _ _ _ (show 4 ≠ 0 by decide), hf4]), (by rw [ep_1, upd_mi _ _ _ (show 5 ≠ 0 by decide), hf5]), (by rw [ep_1, upd_mi _ _ _ (show 6 ≠ 0 by decide), hf6]), (by rw [ep_1, upd_mi _ _ _ (show 7 ≠ 0 by decide), hf7])⟩, ⟨g8, g11, g12, g13, g14, g141, g15, g23, g24⟩, gj⟩) hn 6) (show oiM 6 = 0 from by decide)) v_Model_210 hM.1 rfl rfl rfl (Nat.le_of_ble_eq_true rfl) hl.1 d_Model_digest_128 (by omega) (by decide) ⟨by omega, by omega⟩ (fun locs hS => ?_)
                                                refine lv_i2l (v := (0 : Int32).toInt64) X.x X.b d_Model_digest_131 rfl ?_
                                                refine lv_ladd X.x X.b d_Model_digest_132 ?_
                                                rw [show (4597643028453832807 + ((0 : Int32).toInt64) : Int64) = 4597643028453832807 from by decide]
                                                refine lv_lstore_n (lv' := [(1, .long 4597643028453832807), (4, .int 6), (3, .int 0), (0, .ref mo)]) X.x X.b d_Model_digest_133 rfl hl (by decide) rfl (fun ls hl => ?_)
                                                refine lv_iinc (v := 7) (lv' := [(4, .int 7), (1, .long 4597643028453832807), (3, .int 0), (0, .ref mo)]) X.x X.b d_Model_digest_134 hl (k := 1) rfl (by decide) (by decide) rfl (fun ls hl => ?_)
                                                refine lv_goto (tgt := 112) X.x X.b d_Model_digest_137 (by decide) ?_
                                                refine lv_iload X.x X.b d_Model_digest_112 (lv_at hl 0 rfl) ?_
                                                refine lv_bipush (v := 8) X.x X.b d_Model_digest_114 (by decide) ?_
                                                refine lv_icmp_ge (tgt := 140) X.x X.b d_Model_digest_116 (by decide) (fun c24 => ?_) (fun c24 => ?_)
                                                · exact absurd c24 (by decide)
                                                · skip
                                                  have c24q := Int32.not_le.mp c24
                                                  refine lv_lload_n X.x X.b d_Model_digest_119 rfl (lv_at hl 1 rfl) ?_
                                                  refine lv_ldc2 (v := (31 : Int64)) X.x X.b X.wn (X.ts _ (LW_t 1176 (by decide +kernel) (by decide +kernel))) d_Model_digest_120 ?_
                                                  refine lv_lmul X.x X.b d_Model_digest_123 ?_
                                                  rw [show (4597643028453832807 * 31 : Int64) = (-5047018707607595911) from by decide]
                                                  refine lv_aload_n X.x X.b d_Model_digest_124 rfl (lv_at hl 3 rfl) ?_
                                                  refine lv_iload_n X.x X.b d_Model_digest_125 rfl (lv_at hl 2 rfl) ?_
                                                  refine lv_iload X.x X.b d_Model_digest_126 (lv_at hl 0 rfl) ?_
                                                  refine m_callP X hS (MP_ans (M_Model_ofItemNow l g hM (show frP p_1 s0 from ⟨⟨(by rw [ep_1, upd_mi _ _ _ (show 3 ≠ 0 by decide), hf3]), (by rw [ep_1, upd_mi _ _ _ (show 4 ≠ 0 by decide), hf4]), (by rw [ep_1, upd_mi _ _ _ (show 5 ≠ 0 by decide), hf5]), (by rw [ep_1, upd_mi _ _ _ (show 6 ≠ 0 by decide), hf6]), (by rw [ep_1, upd_mi _ _ _ (show 7 ≠ 0 by decide), hf7])⟩, ⟨g8, g11, g12, g13, g14, g141, g15, g23, g24⟩, gj⟩) hn 7) (show oiM 7 = 1 from by decide)) v_Model_210 hM.1 rfl rfl rfl (Nat.le_of_ble_eq_true rfl) hl.1 d_Model_digest_128 (by omega) (by decide) ⟨by omega, by omega⟩ (fun locs hS => ?_)
                                                  refine lv_i2l (v := (1 : Int32).toInt64) X.x X.b d_Model_digest_131 rfl ?_
                                                  refine lv_ladd X.x X.b d_Model_digest_132 ?_
                                                  rw [show ((-5047018707607595911) + ((1 : Int32).toInt64) : Int64) = (-5047018707607595910) from by decide]
                                                  refine lv_lstore_n (lv' := [(1, .long (-5047018707607595910)), (4, .int 7), (3, .int 0), (0, .ref mo)]) X.x X.b d_Model_digest_133 rfl hl (by decide) rfl (fun ls hl => ?_)
                                                  refine lv_iinc (v := 8) (lv' := [(4, .int 8), (1, .long (-5047018707607595910)), (3, .int 0), (0, .ref mo)]) X.x X.b d_Model_digest_134 hl (k := 1) rfl (by decide) (by decide) rfl (fun ls hl => ?_)
                                                  refine lv_goto (tgt := 112) X.x X.b d_Model_digest_137 (by decide) ?_
                                                  refine lv_iload X.x X.b d_Model_digest_112 (lv_at hl 0 rfl) ?_
                                                  refine lv_bipush (v := 8) X.x X.b d_Model_digest_114 (by decide) ?_
                                                  refine lv_icmp_ge (tgt := 140) X.x X.b d_Model_digest_116 (by decide) (fun c25 => ?_) (fun c25 => ?_)
                                                  · skip
                                                    have c25q := Int32.not_lt.mpr c25
                                                    refine lv_iinc (v := 1) (lv' := [(3, .int 1), (4, .int 8), (1, .long (-5047018707607595910)), (0, .ref mo)]) X.x X.b d_Model_digest_140 hl (k := 2) rfl (by decide) (by decide) rfl (fun ls hl => ?_)
                                                    refine lv_goto (tgt := 101) X.x X.b d_Model_digest_143 (by decide) ?_
                                                    refine lv_iload_n X.x X.b d_Model_digest_101 rfl (lv_at hl 0 rfl) ?_
                                                    refine lv_aload_n X.x X.b d_Model_digest_102 rfl (lv_at hl 3 rfl) ?_
                                                    refine m_get (v := .int 1) X ok_Model hM.1 5 (by decide) k_Model_132 (congrArg (fun z => some (Value.int z)) (show p_1 5 = 1 from (by rw [ep_1, upd_mi _ _ _ (show 5 ≠ 0 by decide), hf5]))) d_Model_digest_103 ?_
                                                    refine lv_icmp_ge (tgt := 146) X.x X.b d_Model_digest_106 (by decide) (fun c26 => ?_) (fun c26 => ?_)
                                                    · skip
                                                      have c26q := Int32.not_lt.mpr c26
                                                      refine lv_iconst (v := 0) X.x X.b d_Model_digest_146 (by decide) ?_
                                                      refine lv_istore_n (lv' := [(3, .int 0), (4, .int 8), (1, .long (-5047018707607595910)), (0, .ref mo)]) X.x X.b d_Model_digest_147 rfl hl (by decide) rfl (fun ls hl => ?_)
                                                      refine lv_iload_n X.x X.b d_Model_digest_148 rfl (lv_at hl 0 rfl) ?_
                                                      refine lv_aload_n X.x X.b d_Model_digest_149 rfl (lv_at hl 3 rfl) ?_
                                                      refine m_get (v := .int 0) X ok_Model hM.1 6 (by decide) k_Model_165 (congrArg (fun z => some (Value.int z)) (show p_1 6 = 0 from (by rw [ep_1, upd_mi _ _ _ (show 6 ≠ 0 by decide), hf6]))) d_Model_digest_150 ?_
                                                      refine lv_icmp_ge (tgt := 175) X.x X.b d_Model_digest_153 (by decide) (fun c27 => ?_) (fun c27 => ?_)
                                                      · skip
                                                        have c27q := Int32.not_lt.mpr c27
                                                        refine lv_iconst (v := 0) X.x X.b d_Model_digest_175 (by decide) ?_
                                                        refine lv_istore_n (lv' := [(3, .int 0), (4, .int 8), (1, .long (-5047018707607595910)), (0, .ref mo)]) X.x X.b d_Model_digest_176 rfl hl (by decide) rfl (fun ls hl => ?_)
                                                        refine lv_iload_n X.x X.b d_Model_digest_177 rfl (lv_at hl 0 rfl) ?_
                                                        refine lv_bipush (v := 8) X.x X.b d_Model_digest_178 (by decide) ?_
                                                        refine lv_icmp_ge (tgt := 202) X.x X.b d_Model_digest_180 (by decide) (fun c28 => ?_) (fun c28 => ?_)
                                                        · exact absurd c28 c17
                                                        · skip
                                                          have c28q := Int32.not_le.mp c28
                                                          refine lv_lload_n X.x X.b d_Model_digest_183 rfl (lv_at hl 2 rfl) ?_
                                                          refine lv_ldc2 (v := (31 : Int64)) X.x X.b X.wn (X.ts _ (LW_t 1176 (by decide +kernel) (by decide +kernel))) d_Model_digest_184 ?_
                                                          refine lv_lmul X.x X.b d_Model_digest_187 ?_
                                                          rw [show ((-5047018707607595910) * 31 : Int64) = (-8883627346159060282) from by decide]
                                                          refine lv_aload_n X.x X.b d_Model_digest_188 rfl (lv_at hl 3 rfl) ?_
                                                          refine lv_iload_n X.x X.b d_Model_digest_189 rfl (lv_at hl 0 rfl) ?_
                                                          refine m_callP X hS (show MP l y_Model_valueNow c_Model_valueNow 2 (some .int) 0 g _ [.ref mo, .int 0] (some (.int (-1))) from M_Model_valueNow (j := 0) l g hM (show frP p_1 s0 from ⟨⟨(by rw [ep_1, upd_mi _ _ _ (show 3 ≠ 0 by decide), hf3]), (by rw [ep_1, upd_mi _ _ _ (show 4 ≠ 0 by decide), hf4]), (by rw [ep_1, upd_mi _ _ _ (show 5 ≠ 0 by decide), hf5]), (by rw [ep_1, upd_mi _ _ _ (show 6 ≠ 0 by decide), hf6]), (by rw [ep_1, upd_mi _ _ _ (show 7 ≠ 0 by decide), hf7])⟩, ⟨g8, g11, g12, g13, g14, g141, g15, g23, g24⟩, gj⟩) hn (by omega)) v_Model_222 hM.1 rfl rfl rfl (Nat.le_of_ble_eq_true rfl) hl.1 d_Model_digest_190 (by omega) (by decide) ⟨by omega, by omega⟩ (fun locs hS => ?_)
                                                          refine lv_i2l (v := ((-1) : Int32).toInt64) X.x X.b d_Model_digest_193 rfl ?_
                                                          refine lv_ladd X.x X.b d_Model_digest_194 ?_
                                                          rw [show ((-8883627346159060282) + (((-1) : Int32).toInt64) : Int64) = (-8883627346159060283) from by decide]
                                                          refine lv_lstore_n (lv' := [(1, .long (-8883627346159060283)), (3, .int 0), (4, .int 8), (0, .ref mo)]) X.x X.b d_Model_digest_195 rfl hl (by decide) rfl (fun ls hl => ?_)
                                                          refine lv_iinc (v := 1) (lv' := [(3, .int 1), (1, .long (-8883627346159060283)), (4, .int 8), (0, .ref mo)]) X.x X.b d_Model_digest_196 hl (k := 1) rfl (by decide) (by decide) rfl (fun ls hl => ?_)
                                                          refine lv_goto (tgt := 177) X.x X.b d_Model_digest_199 (by decide) ?_
                                                          refine lv_iload_n X.x X.b d_Model_digest_177 rfl (lv_at hl 0 rfl) ?_
                                                          refine lv_bipush (v := 8) X.x X.b d_Model_digest_178 (by decide) ?_
                                                          refine lv_icmp_ge (tgt := 202) X.x X.b d_Model_digest_180 (by decide) (fun c29 => ?_) (fun c29 => ?_)
                                                          · exact absurd c29 c18
                                                          · skip
                                                            have c29q := Int32.not_le.mp c29
                                                            refine lv_lload_n X.x X.b d_Model_digest_183 rfl (lv_at hl 1 rfl) ?_
                                                            refine lv_ldc2 (v := (31 : Int64)) X.x X.b X.wn (X.ts _ (LW_t 1176 (by decide +kernel) (by decide +kernel))) d_Model_digest_184 ?_
                                                            refine lv_lmul X.x X.b d_Model_digest_187 ?_
                                                            rw [show ((-8883627346159060283) * 31 : Int64) = 1308713374712405467 from by decide]
                                                            refine lv_aload_n X.x X.b d_Model_digest_188 rfl (lv_at hl 3 rfl) ?_
                                                            refine lv_iload_n X.x X.b d_Model_digest_189 rfl (lv_at hl 0 rfl) ?_
                                                            refine m_callP X hS (show MP l y_Model_valueNow c_Model_valueNow 2 (some .int) 0 g _ [.ref mo, .int 1] (some (.int (-1))) from M_Model_valueNow (j := 1) l g hM (show frP p_1 s0 from ⟨⟨(by rw [ep_1, upd_mi _ _ _ (show 3 ≠ 0 by decide), hf3]), (by rw [ep_1, upd_mi _ _ _ (show 4 ≠ 0 by decide), hf4]), (by rw [ep_1, upd_mi _ _ _ (show 5 ≠ 0 by decide), hf5]), (by rw [ep_1, upd_mi _ _ _ (show 6 ≠ 0 by decide), hf6]), (by rw [ep_1, upd_mi _ _ _ (show 7 ≠ 0 by decide), hf7])⟩, ⟨g8, g11, g12, g13, g14, g141, g15, g23, g24⟩, gj⟩) hn (by omega)) v_Model_222 hM.1 rfl rfl rfl (Nat.le_of_ble_eq_true rfl) hl.1 d_Model_digest_190 (by omega) (by decide) ⟨by omega, by omega⟩ (fun locs hS => ?_)
                                                            refine lv_i2l (v := ((-1) : Int32).toInt64) X.x X.b d_Model_digest_193 rfl ?_
                                                            refine lv_ladd X.x X.b d_Model_digest_194 ?_
                                                            rw [show (1308713374712405467 + (((-1) : Int32).toInt64) : Int64) = 1308713374712405466 from by decide]
                                                            refine lv_lstore_n (lv' := [(1, .long 1308713374712405466), (3, .int 1), (4, .int 8), (0, .ref mo)]) X.x X.b d_Model_digest_195 rfl hl (by decide) rfl (fun ls hl => ?_)
                                                            refine lv_iinc (v := 2) (lv' := [(3, .int 2), (1, .long 1308713374712405466), (4, .int 8), (0, .ref mo)]) X.x X.b d_Model_digest_196 hl (k := 1) rfl (by decide) (by decide) rfl (fun ls hl => ?_)
                                                            refine lv_goto (tgt := 177) X.x X.b d_Model_digest_199 (by decide) ?_
                                                            refine lv_iload_n X.x X.b d_Model_digest_177 rfl (lv_at hl 0 rfl) ?_
                                                            refine lv_bipush (v := 8) X.x X.b d_Model_digest_178 (by decide) ?_
                                                            refine lv_icmp_ge (tgt := 202) X.x X.b d_Model_digest_180 (by decide) (fun c30 => ?_) (fun c30 => ?_)
                                                            · exact absurd c30 c19
                                                            · skip
                                                              have c30q := Int32.not_le.mp c30
                                                              refine lv_lload_n X.x X.b d_Model_digest_183 rfl (lv_at hl 1 rfl) ?_
                                                              refine lv_ldc2 (v := (31 : Int64)) X.x X.b X.wn (X.ts _ (LW_t 1176 (by decide +kernel) (by decide +kernel))) d_Model_digest_184 ?_
                                                              refine lv_lmul X.x X.b d_Model_digest_187 ?_
                                                              rw [show (1308713374712405466 * 31 : Int64) = 3676626468665466214 from by decide]
                                                              refine lv_aload_n X.x X.b d_Model_digest_188 rfl (lv_at hl 3 rfl) ?_
                                                              refine lv_iload_n X.x X.b d_Model_digest_189 rfl (lv_at hl 0 rfl) ?_
                                                              refine m_callP X hS (show MP l y_Model_valueNow c_Model_valueNow 2 (some .int) 0 g _ [.ref mo, .int 2] (some (.int (-1))) from M_Model_valueNow (j := 2) l g hM (show frP p_1 s0 from ⟨⟨(by rw [ep_1, upd_mi _ _ _ (show 3 ≠ 0 by decide), hf3]), (by rw [ep_1, upd_mi _ _ _ (show 4 ≠ 0 by decide), hf4]), (by rw [ep_1, upd_mi _ _ _ (show 5 ≠ 0 by decide), hf5]), (by rw [ep_1, upd_mi _ _ _ (show 6 ≠ 0 by decide), hf6]), (by rw [ep_1, upd_mi _ _ _ (show 7 ≠ 0 by decide), hf7])⟩, ⟨g8, g11, g12, g13, g14, g141, g15, g23, g24⟩, gj⟩) hn (by omega)) v_Model_222 hM.1 rfl rfl rfl (Nat.le_of_ble_eq_true rfl) hl.1 d_Model_digest_190 (by omega) (by decide) ⟨by omega, by omega⟩ (fun locs hS => ?_)
                                                              refine lv_i2l (v := ((-1) : Int32).toInt64) X.x X.b d_Model_digest_193 rfl ?_
                                                              refine lv_ladd X.x X.b d_Model_digest_194 ?_
                                                              rw [show (3676626468665466214 + (((-1) : Int32).toInt64) : Int64) = 3676626468665466213 from by decide]
                                                              refine lv_lstore_n (lv' := [(1, .long 3676626468665466213), (3, .int 2), (4, .int 8), (0, .ref mo)]) X.x X.b d_Model_digest_195 rfl hl (by decide) rfl (fun ls hl => ?_)
                                                              refine lv_iinc (v := 3) (lv' := [(3, .int 3), (1, .long 3676626468665466213), (4, .int 8), (0, .ref mo)]) X.x X.b d_Model_digest_196 hl (k := 1) rfl (by decide) (by decide) rfl (fun ls hl => ?_)
                                                              refine lv_goto (tgt := 177) X.x X.b d_Model_digest_199 (by decide) ?_
                                                              refine lv_iload_n X.x X.b d_Model_digest_177 rfl (lv_at hl 0 rfl) ?_
                                                              refine lv_bipush (v := 8) X.x X.b d_Model_digest_178 (by decide) ?_
                                                              refine lv_icmp_ge (tgt := 202) X.x X.b d_Model_digest_180 (by decide) (fun c31 => ?_) (fun c31 => ?_)
                                                              · exact absurd c31 c20
                                                              · skip
                                                                have c31q := Int32.not_le.mp c31
                                                                refine lv_lload_n X.x X.b d_Model_digest_183 rfl (lv_at hl 1 rfl) ?_
                                                                refine lv_ldc2 (v := (31 : Int64)) X.x X.b X.wn (X.ts _ (LW_t 1176 (by decide +kernel) (by decide +kernel))) d_Model_digest_184 ?_
                                                                refine lv_lmul X.x X.b d_Model_digest_187 ?_
                                                                rw [show (3676626468665466213 * 31 : Int64) = 3294956086372142907 from by decide]
                                                                refine lv_aload_n X.x X.b d_Model_digest_188 rfl (lv_at hl 3 rfl) ?_
                                                                refine lv_iload_n X.x X.b d_Model_digest_189 rfl (lv_at hl 0 rfl) ?_
                                                                refine m_callP X hS (show MP l y_Model_valueNow c_Model_valueNow 2 (some .int) 0 g _ [.ref mo, .int 3] (some (.int (-1))) from M_Model_valueNow (j := 3) l g hM (show frP p_1 s0 from ⟨⟨(by rw [ep_1, upd_mi _ _ _ (show 3 ≠ 0 by decide), hf3]), (by rw [ep_1, upd_mi _ _ _ (show 4 ≠ 0 by decide), hf4]), (by rw [ep_1, upd_mi _ _ _ (show 5 ≠ 0 by decide), hf5]), (by rw [ep_1, upd_mi _ _ _ (show 6 ≠ 0 by decide), hf6]), (by rw [ep_1, upd_mi _ _ _ (show 7 ≠ 0 by decide), hf7])⟩, ⟨g8, g11, g12, g13, g14, g141, g15, g23, g24⟩, gj⟩) hn (by omega)) v_Model_222 hM.1 rfl rfl rfl (Nat.le_of_ble_eq_true rfl) hl.1 d_Model_digest_190 (by omega) (by decide) ⟨by omega, by omega⟩ (fun locs hS => ?_)
                                                                refine lv_i2l (v := ((-1) : Int32).toInt64) X.x X.b d_Model_digest_193 rfl ?_
                                                                refine lv_ladd X.x X.b d_Model_digest_194 ?_
                                                                rw [show (3294956086372142907 + (((-1) : Int32).toInt64) : Int64) = 3294956086372142906 from by decide]
                                                                refine lv_lstore_n (lv' := [(1, .long 3294956086372142906), (3, .int 3), (4, .int 8), (0, .ref mo)]) X.x X.b d_Model_digest_195 rfl hl (by decide) rfl (fun ls hl => ?_)
                                                                refine lv_iinc (v := 4) (lv' := [(3, .int 4), (1, .long 3294956086372142906), (4, .int 8), (0, .ref mo)]) X.x X.b d_Model_digest_196 hl (k := 1) rfl (by decide) (by decide) rfl (fun ls hl => ?_)
                                                                refine lv_goto (tgt := 177) X.x X.b d_Model_digest_199 (by decide) ?_
                                                                refine lv_iload_n X.x X.b d_Model_digest_177 rfl (lv_at hl 0 rfl) ?_
                                                                refine lv_bipush (v := 8) X.x X.b d_Model_digest_178 (by decide) ?_
                                                                refine lv_icmp_ge (tgt := 202) X.x X.b d_Model_digest_180 (by decide) (fun c32 => ?_) (fun c32 => ?_)
                                                                · exact absurd c32 c21
                                                                · skip
                                                                  have c32q := Int32.not_le.mp c32
                                                                  refine lv_lload_n X.x X.b d_Model_digest_183 rfl (lv_at hl 1 rfl) ?_
                                                                  refine lv_ldc2 (v := (31 : Int64)) X.x X.b X.wn (X.ts _ (LW_t 1176 (by decide +kernel) (by decide +kernel))) d_Model_digest_184 ?_
                                                                  refine lv_lmul X.x X.b d_Model_digest_187 ?_
                                                                  rw [show (3294956086372142906 * 31 : Int64) = (-8536825764720879610) from by decide]
                                                                  refine lv_aload_n X.x X.b d_Model_digest_188 rfl (lv_at hl 3 rfl) ?_
                                                                  refine lv_iload_n X.x X.b d_Model_digest_189 rfl (lv_at hl 0 rfl) ?_
                                                                  refine m_callP X hS (show MP l y_Model_valueNow c_Model_valueNow 2 (some .int) 0 g _ [.ref mo, .int 4] (some (.int (-1))) from M_Model_valueNow (j := 4) l g hM (show frP p_1 s0 from ⟨⟨(by rw [ep_1, upd_mi _ _ _ (show 3 ≠ 0 by decide), hf3]), (by rw [ep_1, upd_mi _ _ _ (show 4 ≠ 0 by decide), hf4]), (by rw [ep_1, upd_mi _ _ _ (show 5 ≠ 0 by decide), hf5]), (by rw [ep_1, upd_mi _ _ _ (show 6 ≠ 0 by decide), hf6]), (by rw [ep_1, upd_mi _ _ _ (show 7 ≠ 0 by decide), hf7])⟩, ⟨g8, g11, g12, g13, g14, g141, g15, g23, g24⟩, gj⟩) hn (by omega)) v_Model_222 hM.1 rfl rfl rfl (Nat.le_of_ble_eq_true rfl) hl.1 d_Model_digest_190 (by omega) (by decide) ⟨by omega, by omega⟩ (fun locs hS => ?_)
                                                                  refine lv_i2l (v := ((-1) : Int32).toInt64) X.x X.b d_Model_digest_193 rfl ?_
                                                                  refine lv_ladd X.x X.b d_Model_digest_194 ?_
                                                                  rw [show ((-8536825764720879610) + (((-1) : Int32).toInt64) : Int64) = (-8536825764720879611) from by decide]
                                                                  refine lv_lstore_n (lv' := [(1, .long (-8536825764720879611)), (3, .int 4), (4, .int 8), (0, .ref mo)]) X.x X.b d_Model_digest_195 rfl hl (by decide) rfl (fun ls hl => ?_)
                                                                  refine lv_iinc (v := 5) (lv' := [(3, .int 5), (1, .long (-8536825764720879611)), (4, .int 8), (0, .ref mo)]) X.x X.b d_Model_digest_196 hl (k := 1) rfl (by decide) (by decide) rfl (fun ls hl => ?_)
                                                                  refine lv_goto (tgt := 177) X.x X.b d_Model_digest_199 (by decide) ?_
                                                                  refine lv_iload_n X.x X.b d_Model_digest_177 rfl (lv_at hl 0 rfl) ?_
                                                                  refine lv_bipush (v := 8) X.x X.b d_Model_digest_178 (by decide) ?_
                                                                  refine lv_icmp_ge (tgt := 202) X.x X.b d_Model_digest_180 (by decide) (fun c33 => ?_) (fun c33 => ?_)
                                                                  · exact absurd c33 c22
                                                                  · skip
                                                                    have c33q := Int32.not_le.mp c33
                                                                    refine lv_lload_n X.x X.b d_Model_digest_183 rfl (lv_at hl 1 rfl) ?_
                                                                    refine lv_ldc2 (v := (31 : Int64)) X.x X.b X.wn (X.ts _ (LW_t 1176 (by decide +kernel) (by decide +kernel))) d_Model_digest_184 ?_
                                                                    refine lv_lmul X.x X.b d_Model_digest_187 ?_
                                                                    rw [show ((-8536825764720879611) * 31 : Int64) = (-6387181674413545317) from by decide]
                                                                    refine lv_aload_n X.x X.b d_Model_digest_188 rfl (lv_at hl 3 rfl) ?_
                                                                    refine lv_iload_n X.x X.b d_Model_digest_189 rfl (lv_at hl 0 rfl) ?_
                                                                    refine m_callP X hS (show MP l y_Model_valueNow c_Model_valueNow 2 (some .int) 0 g _ [.ref mo, .int 5] (some (.int (-1))) from M_Model_valueNow (j := 5) l g hM (show frP p_1 s0 from ⟨⟨(by rw [ep_1, upd_mi _ _ _ (show 3 ≠ 0 by decide), hf3]), (by rw [ep_1, upd_mi _ _ _ (show 4 ≠ 0 by decide), hf4]), (by rw [ep_1, upd_mi _ _ _ (show 5 ≠ 0 by decide), hf5]), (by rw [ep_1, upd_mi _ _ _ (show 6 ≠ 0 by decide), hf6]), (by rw [ep_1, upd_mi _ _ _ (show 7 ≠ 0 by decide), hf7])⟩, ⟨g8, g11, g12, g13, g14, g141, g15, g23, g24⟩, gj⟩) hn (by omega)) v_Model_222 hM.1 rfl rfl rfl (Nat.le_of_ble_eq_true rfl) hl.1 d_Model_digest_190 (by omega) (by decide) ⟨by omega, by omega⟩ (fun locs hS => ?_)
                                                                    refine lv_i2l (v := ((-1) : Int32).toInt64) X.x X.b d_Model_digest_193 rfl ?_
                                                                    refine lv_ladd X.x X.b d_Model_digest_194 ?_
                                                                    rw [show ((-6387181674413545317) + (((-1) : Int32).toInt64) : Int64) = (-6387181674413545318) from by decide]
                                                                    refine lv_lstore_n (lv' := [(1, .long (-6387181674413545318)), (3, .int 5), (4, .int 8), (0, .ref mo)]) X.x X.b d_Model_digest_195 rfl hl (by decide) rfl (fun ls hl => ?_)
                                                                    refine lv_iinc (v := 6) (lv' := [(3, .int 6), (1, .long (-6387181674413545318)), (4, .int 8), (0, .ref mo)]) X.x X.b d_Model_digest_196 hl (k := 1) rfl (by decide) (by decide) rfl (fun ls hl => ?_)
                                                                    refine lv_goto (tgt := 177) X.x X.b d_Model_digest_199 (by decide) ?_
                                                                    refine lv_iload_n X.x X.b d_Model_digest_177 rfl (lv_at hl 0 rfl) ?_
                                                                    refine lv_bipush (v := 8) X.x X.b d_Model_digest_178 (by decide) ?_
                                                                    refine lv_icmp_ge (tgt := 202) X.x X.b d_Model_digest_180 (by decide) (fun c34 => ?_) (fun c34 => ?_)
                                                                    · exact absurd c34 c23
                                                                    · skip
                                                                      have c34q := Int32.not_le.mp c34
                                                                      refine lv_lload_n X.x X.b d_Model_digest_183 rfl (lv_at hl 1 rfl) ?_
                                                                      refine lv_ldc2 (v := (31 : Int64)) X.x X.b X.wn (X.ts _ (LW_t 1176 (by decide +kernel) (by decide +kernel))) d_Model_digest_184 ?_
                                                                      refine lv_lmul X.x X.b d_Model_digest_187 ?_
                                                                      rw [show ((-6387181674413545318) * 31 : Int64) = 4911552903985162918 from by decide]
                                                                      refine lv_aload_n X.x X.b d_Model_digest_188 rfl (lv_at hl 3 rfl) ?_
                                                                      refine lv_iload_n X.x X.b d_Model_digest_189 rfl (lv_at hl 0 rfl) ?_
                                                                      refine m_callP X hS (show MP l y_Model_valueNow c_Model_valueNow 2 (some .int) 0 g _ [.ref mo, .int 6] (some (.int (-1))) from M_Model_valueNow (j := 6) l g hM (show frP p_1 s0 from ⟨⟨(by rw [ep_1, upd_mi _ _ _ (show 3 ≠ 0 by decide), hf3]), (by rw [ep_1, upd_mi _ _ _ (show 4 ≠ 0 by decide), hf4]), (by rw [ep_1, upd_mi _ _ _ (show 5 ≠ 0 by decide), hf5]), (by rw [ep_1, upd_mi _ _ _ (show 6 ≠ 0 by decide), hf6]), (by rw [ep_1, upd_mi _ _ _ (show 7 ≠ 0 by decide), hf7])⟩, ⟨g8, g11, g12, g13, g14, g141, g15, g23, g24⟩, gj⟩) hn (by omega)) v_Model_222 hM.1 rfl rfl rfl (Nat.le_of_ble_eq_true rfl) hl.1 d_Model_digest_190 (by omega) (by decide) ⟨by omega, by omega⟩ (fun locs hS => ?_)
                                                                      refine lv_i2l (v := ((-1) : Int32).toInt64) X.x X.b d_Model_digest_193 rfl ?_
                                                                      refine lv_ladd X.x X.b d_Model_digest_194 ?_
                                                                      rw [show (4911552903985162918 + (((-1) : Int32).toInt64) : Int64) = 4911552903985162917 from by decide]
                                                                      refine lv_lstore_n (lv' := [(1, .long 4911552903985162917), (3, .int 6), (4, .int 8), (0, .ref mo)]) X.x X.b d_Model_digest_195 rfl hl (by decide) rfl (fun ls hl => ?_)
                                                                      refine lv_iinc (v := 7) (lv' := [(3, .int 7), (1, .long 4911552903985162917), (4, .int 8), (0, .ref mo)]) X.x X.b d_Model_digest_196 hl (k := 1) rfl (by decide) (by decide) rfl (fun ls hl => ?_)
                                                                      refine lv_goto (tgt := 177) X.x X.b d_Model_digest_199 (by decide) ?_
                                                                      refine lv_iload_n X.x X.b d_Model_digest_177 rfl (lv_at hl 0 rfl) ?_
                                                                      refine lv_bipush (v := 8) X.x X.b d_Model_digest_178 (by decide) ?_
                                                                      refine lv_icmp_ge (tgt := 202) X.x X.b d_Model_digest_180 (by decide) (fun c35 => ?_) (fun c35 => ?_)
                                                                      · exact absurd c35 c24
                                                                      · skip
                                                                        have c35q := Int32.not_le.mp c35
                                                                        refine lv_lload_n X.x X.b d_Model_digest_183 rfl (lv_at hl 1 rfl) ?_
                                                                        refine lv_ldc2 (v := (31 : Int64)) X.x X.b X.wn (X.ts _ (LW_t 1176 (by decide +kernel) (by decide +kernel))) d_Model_digest_184 ?_
                                                                        refine lv_lmul X.x X.b d_Model_digest_187 ?_
                                                                        rw [show (4911552903985162917 * 31 : Int64) = 4684187433863637499 from by decide]
                                                                        refine lv_aload_n X.x X.b d_Model_digest_188 rfl (lv_at hl 3 rfl) ?_
                                                                        refine lv_iload_n X.x X.b d_Model_digest_189 rfl (lv_at hl 0 rfl) ?_
                                                                        refine m_callP X hS (show MP l y_Model_valueNow c_Model_valueNow 2 (some .int) 0 g _ [.ref mo, .int 7] (some (.int (-1))) from M_Model_valueNow (j := 7) l g hM (show frP p_1 s0 from ⟨⟨(by rw [ep_1, upd_mi _ _ _ (show 3 ≠ 0 by decide), hf3]), (by rw [ep_1, upd_mi _ _ _ (show 4 ≠ 0 by decide), hf4]), (by rw [ep_1, upd_mi _ _ _ (show 5 ≠ 0 by decide), hf5]), (by rw [ep_1, upd_mi _ _ _ (show 6 ≠ 0 by decide), hf6]), (by rw [ep_1, upd_mi _ _ _ (show 7 ≠ 0 by decide), hf7])⟩, ⟨g8, g11, g12, g13, g14, g141, g15, g23, g24⟩, gj⟩) hn (by omega)) v_Model_222 hM.1 rfl rfl rfl (Nat.le_of_ble_eq_true rfl) hl.1 d_Model_digest_190 (by omega) (by decide) ⟨by omega, by omega⟩ (fun locs hS => ?_)
                                                                        refine lv_i2l (v := ((-1) : Int32).toInt64) X.x X.b d_Model_digest_193 rfl ?_
                                                                        refine lv_ladd X.x X.b d_Model_digest_194 ?_
                                                                        rw [show (4684187433863637499 + (((-1) : Int32).toInt64) : Int64) = 4684187433863637498 from by decide]
                                                                        refine lv_lstore_n (lv' := [(1, .long 4684187433863637498), (3, .int 7), (4, .int 8), (0, .ref mo)]) X.x X.b d_Model_digest_195 rfl hl (by decide) rfl (fun ls hl => ?_)
                                                                        refine lv_iinc (v := 8) (lv' := [(3, .int 8), (1, .long 4684187433863637498), (4, .int 8), (0, .ref mo)]) X.x X.b d_Model_digest_196 hl (k := 1) rfl (by decide) (by decide) rfl (fun ls hl => ?_)
                                                                        refine lv_goto (tgt := 177) X.x X.b d_Model_digest_199 (by decide) ?_
                                                                        refine lv_iload_n X.x X.b d_Model_digest_177 rfl (lv_at hl 0 rfl) ?_
                                                                        refine lv_bipush (v := 8) X.x X.b d_Model_digest_178 (by decide) ?_
                                                                        refine lv_icmp_ge (tgt := 202) X.x X.b d_Model_digest_180 (by decide) (fun c36 => ?_) (fun c36 => ?_)
                                                                        · skip
                                                                          have c36q := Int32.not_lt.mpr c36
                                                                          refine lv_lload_n X.x X.b d_Model_digest_202 rfl (lv_at hl 1 rfl) ?_
                                                                          refine lv_ldc2 (v := (31 : Int64)) X.x X.b X.wn (X.ts _ (LW_t 1176 (by decide +kernel) (by decide +kernel))) d_Model_digest_203 ?_
                                                                          refine lv_lmul X.x X.b d_Model_digest_206 ?_
                                                                          rw [show (4684187433863637498 * 31 : Int64) = (-2364142139903650490) from by decide]
                                                                          refine lv_aload_n X.x X.b d_Model_digest_207 rfl (lv_at hl 3 rfl) ?_
                                                                          have hR := M_Model_wronglyNow l g hM (show frP p_1 s0 from ⟨⟨(by rw [ep_1, upd_mi _ _ _ (show 3 ≠ 0 by decide), hf3]), (by rw [ep_1, upd_mi _ _ _ (show 4 ≠ 0 by decide), hf4]), (by rw [ep_1, upd_mi _ _ _ (show 5 ≠ 0 by decide), hf5]), (by rw [ep_1, upd_mi _ _ _ (show 6 ≠ 0 by decide), hf6]), (by rw [ep_1, upd_mi _ _ _ (show 7 ≠ 0 by decide), hf7])⟩, ⟨g8, g11, g12, g13, g14, g141, g15, g23, g24⟩, gj⟩) hn
                                                                          refine m_callM X hS hR v_Model_246 hM.1 rfl rfl rfl (Nat.le_of_ble_eq_true rfl) hl.1 d_Model_digest_208 (by omega) (by decide) ⟨by omega, by omega⟩ (fun q z => z) (fun H locs hq hfr hS => ?_)
                                                                          obtain ⟨p_2, s_3, hM, hW0⟩ := hq
                                                                          refine lv_i2l (v := (0 : Int32).toInt64) X.x X.b d_Model_digest_211 rfl ?_
                                                                          refine lv_ladd X.x X.b d_Model_digest_212 ?_
                                                                          rw [show ((-2364142139903650490) + ((0 : Int32).toInt64) : Int64) = (-2364142139903650490) from by decide]
                                                                          exact m_lret X hS (by omega) (by omega) d_Model_digest_213 rfl ⟨_, _, hM, (by rw [hW0, ep_1, upd_hit])⟩
                                                                        · exact absurd c25 c36
                                                      · exact absurd c15 c27
                                                    · exact absurd c26 (by decide)
                                                  · exact absurd c25 (by decide)
                              · exact absurd c14 c15
                            · exact absurd c14 (by decide)
                          · exact absurd c13 (by decide)
