-- WHAT THE REFERENCE DOES WHEN NOTHING HAS BEEN TOLD
/-- one LINE of any kind, assembled -/
theorem M_Model_assemble_one (l : Launch) (g : GG) {mo tq : Nat} {p0 : Nat → Int32} {s0 : Nat → Nat → Int32} {H0 : Heap} (hM : mAt g mo tq p0 s0 H0) {k x y v_ r : Int32} (hL : oneL k x y v_ r s0) (hok : lnOk k x y v_ r) : MM l y_Model_assemble c_Model_assemble 2 none 6 4 262 g H0 [.ref mo] (fun q => mo ≤ q ∧ q < mo + 23) none (fun H1 => ∃ p s, mAt g mo tq p s H1 ∧ p 0 = p0 0 ∧ s 2 = s0 2) := by
  obtain ⟨hk, hx, hy, hn, -⟩ := hok
  have hk' : ∃ j, j < 11 ∧ k = nI j := by
    rcases pk_ix k (show (11 : Nat) < 2 ^ 31 by omega) with z | z | z
    · exact absurd hk.1 (Int32.not_le.mpr z)
    · exact absurd (Int32.lt_of_le_of_lt hk.2 (by decide : (10 : Int32) < 11)) (Int32.not_lt.mpr z)
    · exact z
  have nm : ∀ (z : Int32) (n : Nat), n < 100 → -1 ≤ z → z < nI n → z = -1 ∨ ∃ j, j < n ∧ z = nI j := fun z n hn h1 h2 => by
    rcases pk_ix z (show n < 2 ^ 31 by omega) with q | q | q
    · exact Or.inl (Int32.le_antisymm (by rw [Int32.le_iff_toInt_le]; rw [Int32.lt_iff_toInt_lt] at q; have q : z.toInt < 0 := q; show z.toInt ≤ -1; omega) h1)
    · exact absurd h2 (Int32.not_lt.mpr q)
    · exact Or.inr q
  obtain ⟨j, hj, rfl⟩ := hk'
  rcases (show j = 0 ∨ j = 1 ∨ j = 2 ∨ j = 3 ∨ j = 4 ∨ j = 5 ∨ j = 6 ∨ j = 7 ∨ j = 8 ∨ j = 9 ∨ j = 10 by omega) with rfl | rfl | rfl | rfl | rfl | rfl | rfl | rfl | rfl | rfl | rfl
  · have hx : 0 ≤ x ∧ x ≤ 9 := by simpa [xOk] using (show xOk 0 x from hx)
    have hy : y = -1 := by simpa [yOk] using (show yOk 0 y from hy)
    subst hy
    rcases nm x 10 (by omega) (Int32.le_trans (by decide) hx.1) (Int32.lt_of_le_of_lt hx.2 (by decide)) with rfl | ⟨i, hi, rfl⟩
    · exact absurd hx.1 (by decide)
    · by_cases z : i < 8
      · exact M_Model_assemble_L0n l g hM z hL
      · exact M_Model_assemble_L0l l g hM (by omega) (by omega) hL
  · have hx : 0 ≤ x ∧ x < 8 := by simpa [xOk] using (show xOk 1 x from hx)
    have hy : -1 ≤ y ∧ y < 8 := by simpa [yOk] using (show yOk 1 y from hy)
    rcases nm x 8 (by omega) (Int32.le_trans (by decide) hx.1) hx.2 with rfl | ⟨i, hi, rfl⟩
    · exact absurd hx.1 (by decide)
    · rcases nm y 8 (by omega) hy.1 hy.2 with rfl | ⟨i2, hi2, rfl⟩
      · exact M_Model_assemble_L1n l g hM hi hL
      · exact M_Model_assemble_L1f l g hM hi hi2 hL
  · have hx : -1 ≤ x ∧ x ≤ 11 := by simpa [xOk] using (show xOk 2 x from hx)
    have hy : -1 ≤ y ∧ y ≤ 11 := by simpa [yOk] using (show yOk 2 y from hy)
    rcases nm x 12 (by omega) hx.1 (Int32.lt_of_le_of_lt hx.2 (by decide)) with rfl | ⟨i, hi, rfl⟩ <;> rcases nm y 12 (by omega) hy.1 (Int32.lt_of_le_of_lt hy.2 (by decide)) with rfl | ⟨i2, hi2, rfl⟩
    · exact M_Model_assemble_L2o l g hM hL
    · exact M_Model_assemble_L2y l g hM (by omega) hL
    · exact M_Model_assemble_L2x l g hM (by omega) hL
    · exact M_Model_assemble_L2xy l g hM (by omega) (by omega) hL
  · have hx : -1 ≤ x ∧ x ≤ 11 := by simpa [xOk] using (show xOk 3 x from hx)
    have hy : y = -1 := by simpa [yOk] using (show yOk 3 y from hy)
    subst hy
    rcases nm x 12 (by omega) hx.1 (Int32.lt_of_le_of_lt hx.2 (by decide)) with rfl | ⟨i, hi, rfl⟩
    · exact M_Model_assemble_L3o l g hM hL
    · exact M_Model_assemble_L3x l g hM (by omega) hL
  · have hx : -1 ≤ x ∧ x ≤ 11 := by simpa [xOk] using (show xOk 4 x from hx)
    have hy : y = -1 := by simpa [yOk] using (show yOk 4 y from hy)
    subst hy
    rcases nm x 12 (by omega) hx.1 (Int32.lt_of_le_of_lt hx.2 (by decide)) with rfl | ⟨i, hi, rfl⟩
    · exact M_Model_assemble_L4o l g hM hL
    · exact M_Model_assemble_L4x l g hM (by omega) hL
  · exact M_Model_assemble_L5 l g hM hL
  · exact M_Model_assemble_L6 l g hM hL
  · have hn : v_ = 2 ∨ v_ = 4 ∨ v_ = 8 := by simpa [nOk] using (show nOk 7 v_ from hn)
    exact M_Model_assemble_L7 l g hM hL (by rcases hn with rfl | rfl | rfl <;> decide)
  · have hx : -1 ≤ x ∧ x < 8 := by simpa [xOk] using (show xOk 8 x from hx)
    have hy : -1 ≤ y ∧ y < 8 := by simpa [yOk] using (show yOk 8 y from hy)
    rcases nm x 8 (by omega) hx.1 hx.2 with rfl | ⟨i, hi, rfl⟩ <;> rcases nm y 8 (by omega) hy.1 hy.2 with rfl | ⟨i2, hi2, rfl⟩
    · exact M_Model_assemble_L8nn l g hM hL
    · exact M_Model_assemble_L8ny l g hM hi2 hL
    · exact M_Model_assemble_L8xn l g hM hi hL
    · exact M_Model_assemble_L8xy l g hM hi hi2 hL
  · exact M_Model_assemble_L9 l g hM hL
  · have hx : 0 < x ∧ x < 5 := by simpa [xOk] using (show xOk 10 x from hx)
    rcases nm x 5 (by omega) (Int32.le_of_lt (Int32.lt_of_lt_of_le (by decide : (-1 : Int32) < 0) (Int32.le_of_lt hx.1))) hx.2 with rfl | ⟨i, hi, rfl⟩
    · exact absurd hx.1 (by decide)
    · have h1 : 0 < i := (nI_ltI (a := 0) (b := i) (by omega) (by omega)).mp hx.1
      exact M_Model_assemble_L10 l g hM (by omega) (by omega) hL
theorem cb_ln (k x y n r : Int32) (hr : r = 0 ∨ r = 1) : cbOk k x y n r ↔ lnOk k x y n r := by
  have l8 : ∀ z : Int32, z ≤ 7 ↔ z < 8 := fun z => by rw [Int32.le_iff_toInt_le, Int32.lt_iff_toInt_lt]; show z.toInt ≤ 7 ↔ z.toInt < 8; omega
  have g1 : ∀ z : Int32, 1 ≤ z ↔ 0 < z := fun z => by rw [Int32.le_iff_toInt_le, Int32.lt_iff_toInt_lt]; show 1 ≤ z.toInt ↔ 0 < z.toInt; omega
  have l5 : ∀ z : Int32, z ≤ 4 ↔ z < 5 := fun z => by rw [Int32.le_iff_toInt_le, Int32.lt_iff_toInt_lt]; show z.toInt ≤ 4 ↔ z.toInt < 5; omega
  unfold cbOk lnOk chOk abOk xOk yOk nOk rOk
  by_cases h0 : k = 0
  · subst h0; simp; constructor <;> intro z <;> simp_all
  by_cases h1 : k = 1
  · subst h1; simp [l8]; constructor <;> intro z <;> simp_all
  by_cases h2 : k = 2
  · subst h2; simp; constructor <;> intro z <;> simp_all
  by_cases h3 : k = 3
  · subst h3; simp; constructor <;> intro z <;> simp_all
  by_cases h4 : k = 4
  · subst h4; simp; constructor <;> intro z <;> simp_all
  by_cases h6 : k = 6
  · subst h6; simp; constructor <;> intro z <;> simp_all
  by_cases h7 : k = 7
  · subst h7; simp; constructor <;> intro z <;> simp_all
  by_cases h8 : k = 8
  · subst h8; simp [l8]; constructor <;> intro z <;> simp_all
  by_cases h9 : k = 9
  · subst h9; simp; constructor <;> intro z <;> simp_all
  by_cases h10 : k = 10
  · subst h10; simp [g1, l5]; constructor <;> intro z <;> simp_all
  simp [h0, h1, h2, h3, h4, h6, h7, h8, h9, h10]
  constructor <;> intro z <;> simp_all
