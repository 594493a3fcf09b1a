-- SIZES AND ADDRESSES ARE SMALL (p22's fact F2)
theorem nI_div {a n : Nat} (ha : a < 2 ^ 31) (hn : n < 2 ^ 31) (h0 : 0 < n) : nI a / nI n = nI (a / n) := by
  have hd : a / n ≤ a := Nat.div_le_self a n
  apply Int32.toInt_inj.mp
  have h1 : ¬ nI n = -1 := fun e => by
    have := congrArg Int32.toInt e
    rw [nI_toInt hn] at this
    have h2 : (-1 : Int32).toInt = -1 := by decide
    rw [h2] at this
    omega
  rw [Int32.toInt_div_of_ne_right _ _ h1, nI_toInt ha, nI_toInt hn, nI_toInt (by omega)]
  rfl
theorem nI_mul (a b : Nat) : nI a * nI b = nI (a * b) := (Int32.ofNat_mul a b).symm
theorem nI_sub {a b : Nat} (h : b ≤ a) : nI a - nI b = nI (a - b) := by
  have : nI a = nI (a - b) + nI b := by rw [nI_add, Nat.sub_add_cancel h]
  rw [this]
  exact Int32.add_sub_cancel _ _
theorem nI_mod {a n : Nat} (ha : a < 2 ^ 31) (hn : n < 2 ^ 31) (h0 : 0 < n) : nI a - nI a / nI n * nI n = nI (a % n) := by
  have h : a / n * n ≤ a := Nat.div_mul_le_self a n
  rw [nI_div ha hn h0, nI_mul, nI_sub h]
  congr 1
  have := Nat.div_add_mod a n
  rw [Nat.mul_comm] at this
  omega
/-- what ITEMS must be that their sizes are small -/
def szOk (S : IS) (i : Nat) : Prop := (∃ k, k < 8 ∧ S.1 0 i = nI k) ∧ (S.1 0 i = 7 → S.1 3 i = 2 ∨ S.1 3 i = 4 ∨ S.1 3 i = 8) ∧ (S.1 0 i = 6 → ∃ t, t ≤ 120 ∧ S.1 11 i = nI t)
theorem szOk.sz {S : IS} {i : Nat} (h : szOk S i) {a : Nat} (ha : a < 20000) : ∃ t, t ≤ 120 ∧ szF S i (nI a) = nI t := by
  obtain ⟨⟨k, hk, hk0⟩, h7, h6⟩ := h
  unfold szF
  rcases (show k = 0 ∨ k = 1 ∨ k = 2 ∨ k = 3 ∨ k = 4 ∨ k = 5 ∨ k = 6 ∨ k = 7 by omega) with rfl | rfl | rfl | rfl | rfl | rfl | rfl | rfl
  · rw [hk0]; exact ⟨0, by omega, rfl⟩
  · rw [hk0]; exact ⟨0, by omega, rfl⟩
  · rw [hk0]; exact ⟨1, by omega, rfl⟩
  · rw [hk0]
    by_cases z : S.1 14 i = 0
    · rw [z]; exact ⟨1, by omega, rfl⟩
    · exact ⟨2, by omega, if_neg z⟩
  · rw [hk0]
    by_cases z : S.1 14 i = 0
    · rw [z]; exact ⟨1, by omega, rfl⟩
    · exact ⟨3, by omega, if_neg z⟩
  · rw [hk0]; exact ⟨1, by omega, rfl⟩
  · obtain ⟨t, ht, e⟩ := h6 hk0
    rw [hk0]
    exact ⟨t, ht, e⟩
  · have hn : ∃ n, (n = 2 ∨ n = 4 ∨ n = 8) ∧ S.1 3 i = nI n := by
      rcases h7 hk0 with z | z | z
      · exact ⟨2, by omega, z⟩
      · exact ⟨4, by omega, z⟩
      · exact ⟨8, by omega, z⟩
    obtain ⟨n, hn, e⟩ := hn
    rw [hk0, e]
    have hm : a % n < n := Nat.mod_lt _ (by omega)
    have h1 := nI_mod (a := a) (n := n) (by omega) (by omega) (by omega)
    have h2 : nI n - nI (a % n) = nI (n - a % n) := nI_sub (by omega)
    have h3 := nI_mod (a := n - a % n) (n := n) (by omega) (by omega) (by omega)
    have hm2 : (n - a % n) % n < n := Nat.mod_lt _ (by omega)
    refine ⟨(n - a % n) % n, by omega, ?_⟩
    show (if 0 < nI n then (nI n - (nI a - nI a / nI n * nI n)) - (nI n - (nI a - nI a / nI n * nI n)) / nI n * nI n else 0) = _
    rw [h1, h2, h3, if_pos (show 0 < nI n from nI_lt (a := 0) (b := n) (by omega) (by omega))]
theorem szOk.same {S T : IS} {i : Nat} (h : szOk S i) (h0 : T.1 0 i = S.1 0 i) (h3 : T.1 3 i = S.1 3 i) (h11 : T.1 11 i = S.1 11 i) : szOk T i := by
  unfold szOk at h ⊢
  rw [h0, h3, h11]
  exact h
/-- the place of each ITEM, as a number -/
def plN (S : IS) : Nat → Nat
  | 0 => 0
  | j + 1 => plN S j + (szF S j (nI (plN S j))).toNatClampNeg
theorem plN_step {S : IS} {c : Nat} (hc : c ≤ 121) (hz : ∀ i, i < c → szOk S i) : ∀ j, j ≤ c → plN S j ≤ 120 * j ∧ (j < c → ∃ t, t ≤ 120 ∧ szF S j (nI (plN S j)) = nI t ∧ plN S (j + 1) = plN S j + t)
  | 0, hj => ⟨Nat.le_refl _, fun h => by
    obtain ⟨t, ht, e⟩ := (hz 0 h).sz (a := plN S 0) (by show (0 : Nat) < 20000; omega)
    refine ⟨t, ht, e, ?_⟩
    show plN S 0 + (szF S 0 (nI (plN S 0))).toNatClampNeg = _
    rw [e, nI_clamp (by omega)]⟩
  | j + 1, hj => by
    obtain ⟨h1, h2⟩ := plN_step hc hz j (by omega)
    obtain ⟨t, ht, -, e⟩ := h2 (by omega)
    have h3 : plN S (j + 1) ≤ 120 * (j + 1) := by omega
    refine ⟨h3, fun h => ?_⟩
    obtain ⟨t, ht, e⟩ := (hz (j + 1) h).sz (a := plN S (j + 1)) (by omega)
    refine ⟨t, ht, e, ?_⟩
    show plN S (j + 1) + (szF S (j + 1) (nI (plN S (j + 1)))).toNatClampNeg = _
    rw [e, nI_clamp (by omega)]
theorem plc_at {S0 : IS} {c : Nat} (hc : c ≤ 121) (hz : ∀ i, i < c → szOk S0 i) : ∀ (n i : Nat) (S : IS), i + n = c → (∀ j st, i ≤ j → szF S j st = szF S0 j st) → ∀ j, i ≤ j → j < c → (plc n i S (nI (plN S0 i))).1 12 j = nI (plN S0 j) ∧ (plc n i S (nI (plN S0 i))).1 13 j = szF S0 j (nI (plN S0 j))
  | 0, i, S, h, _, j, a, b => by omega
  | n + 1, i, S, h, hs, j, a, b => by
    obtain ⟨t, ht, e, e2⟩ := (plN_step hc hz i (by omega)).2 (by omega)
    simp only [plc]
    have h13 : (plS S i (nI (plN S0 i))).1 13 i = nI t := by rw [plS_13, hs i _ (Nat.le_refl _), e]
    by_cases z : j = i
    · subst z
      rw [plc_lo 12 n (j + 1) _ _ (by omega), plS_12, plc_lo 13 n (j + 1) _ _ (by omega), plS_13, hs j _ (Nat.le_refl _)]
      exact ⟨rfl, rfl⟩
    · rw [h13, nI_add, ← e2]
      refine plc_at hc hz n (i + 1) _ (by omega) (fun j2 st hj2 => ?_) j (by omega) b
      rw [← hs j2 st (by omega)]
      exact szF_k (plS_k S i _ (by decide) (by decide) (by decide) j2) (plS_k S i _ (by decide) (by decide) (by decide) j2) (plS_k S i _ (by decide) (by decide) (by decide) j2) (plS_k S i _ (by decide) (by decide) (by decide) j2) st
/-- ITEMS that are laid out: their addresses and sizes -/
def PL (S : IS) (c : Nat) (A : Nat → Nat) : Prop := A 0 = 0 ∧ ∀ j, j < c → A j ≤ A (j + 1) ∧ A (j + 1) ≤ A j + 120 ∧ S.1 12 j = nI (A j) ∧ S.1 13 j = nI (A (j + 1) - A j) ∧ szF S j (nI (A j)) = nI (A (j + 1) - A j)
theorem plc_PL {S : IS} {c : Nat} (hc : c ≤ 121) (hz : ∀ i, i < c → szOk S i) : PL (plc c 0 S 0) c (plN S) := by
  refine ⟨rfl, fun j hj => ?_⟩
  obtain ⟨t, ht, e, e2⟩ := (plN_step hc hz j (by omega)).2 hj
  obtain ⟨a, b⟩ := plc_at hc hz c 0 S (by omega) (fun _ _ _ => rfl) j (Nat.zero_le _) hj
  have a : (plc c 0 S 0).1 12 j = nI (plN S j) := a
  have b : (plc c 0 S 0).1 13 j = szF S j (nI (plN S j)) := b
  have z : szF (plc c 0 S 0) j (nI (plN S j)) = szF S j (nI (plN S j)) := szF_k (plc_k (by decide) (by decide) (by decide) j c 0 S 0) (plc_k (by decide) (by decide) (by decide) j c 0 S 0) (plc_k (by decide) (by decide) (by decide) j c 0 S 0) (plc_k (by decide) (by decide) (by decide) j c 0 S 0) _
  refine ⟨by omega, by omega, a, ?_, ?_⟩
  · rw [b, e, e2]
    congr 1
    omega
  · rw [z, e, e2]
    congr 1
    omega
theorem PL.mono {S : IS} {c : Nat} {A : Nat → Nat} (h : PL S c A) {i j : Nat} (hij : i ≤ j) (hj : j ≤ c) : A i ≤ A j := by
  induction j with
  | zero => rw [show i = 0 by omega]; exact Nat.le_refl _
  | succ j ih =>
    rcases Nat.lt_or_ge i (j + 1) with z | z
    · exact Nat.le_trans (ih (by omega) (by omega)) (h.2 j (by omega)).1
    · rw [show i = j + 1 by omega]; exact Nat.le_refl _
theorem PL.bd {S : IS} {c : Nat} {A : Nat → Nat} (h : PL S c A) : ∀ j, j ≤ c → A j ≤ 120 * j
  | 0, _ => by rw [h.1]; exact Nat.zero_le _
  | j + 1, hj => by
    have := PL.bd h j (by omega)
    have := (h.2 j (by omega)).2.1
    omega
theorem PL.tally {S : IS} {c : Nat} {A : Nat → Nat} (h : PL S c A) : ∀ (n i : Nat), i + n = c → tal S 3 n i (nI (A i)) = nI (A c)
  | 0, i, e => by rw [show c = i by omega]; rfl
  | n + 1, i, e => by
    obtain ⟨a, b, d, g, -⟩ := h.2 i (by omega)
    simp only [tal]
    have : shF S i 3 = S.1 13 i := by
      unfold shF
      rw [if_neg (by decide), if_pos rfl]
    rw [this, g, nI_add, show A i + (A (i + 1) - A i) = A (i + 1) by omega]
    exact PL.tally h n (i + 1) (by omega)
theorem PL.tally0 {S : IS} {c : Nat} {A : Nat → Nat} (h : PL S c A) : tal S 3 c 0 0 = nI (A c) := by
  have := h.tally c 0 (by omega)
  rw [h.1] at this
  exact this
theorem PL.holder {S : IS} {c : Nat} (hc : c ≤ 121) {A : Nat → Nat} (h : PL S c A) {a : Nat} (ha : a < A c) : ∀ (n i : Nat), i + n = c → A i ≤ a → ∃ j, j < c ∧ A j ≤ a ∧ a < A (j + 1) ∧ hof S (nI a) n i = nI j
  | 0, i, e, h2 => by rw [show i = c by omega] at h2; omega
  | n + 1, i, e, h2 => by
    obtain ⟨h3, h4, h5, h6, -⟩ := h.2 i (by omega)
    have b1 := h.bd i (by omega)
    have b2 := h.bd c (Nat.le_refl _)
    simp only [hof]
    rw [h5, h6, nI_add, show A i + (A (i + 1) - A i) = A (i + 1) by omega]
    have b3 := h.bd (i + 1) (by omega)
    by_cases z : a < A (i + 1)
    · rw [if_pos ⟨nI_le h2 (by omega), nI_lt z (by omega)⟩]
      exact ⟨i, by omega, h2, z, rfl⟩
    · rw [if_neg (fun y => z ((nI_ltI (by omega) (by omega)).mp y.2))]
      exact PL.holder hc h ha n (i + 1) (by omega) (by omega)
theorem PL.holder0 {S : IS} {c : Nat} (hc : c ≤ 121) {A : Nat → Nat} (h : PL S c A) {a : Nat} (ha : a < A c) : ∃ j, j < c ∧ A j ≤ a ∧ a < A (j + 1) ∧ hof S (nI a) c 0 = nI j ∧ iaO c (hof S (nI a) c 0) = some j := by
  obtain ⟨j, h1, h2, h3, h4⟩ := h.holder hc ha c 0 (by omega) (by rw [h.1]; exact Nat.zero_le _)
  refine ⟨j, h1, h2, h3, h4, ?_⟩
  rw [h4]
  exact iaO_in h1 (by omega)
theorem PL.held {S : IS} {c : Nat} (hc : c ≤ 121) {A : Nat → Nat} (h : PL S c A) : heldF S c (A c) := fun a ha => by
  obtain ⟨j, -, -, -, -, e⟩ := h.holder0 hc ha
  exact ⟨j, e⟩
