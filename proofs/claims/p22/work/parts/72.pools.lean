-- WHAT LINKING KEEPS AND MAKES (p22's fact F5)
theorem lkv_1 (c : Nat) : ∀ (n i : Nat) (S : IS), (lkv c n i S).1.1 = S.1
  | 0, _, _ => rfl
  | n + 1, i, S => by
    simp only [lkv]
    split
    · split
      · rfl
      · rw [lkv_1 c n (i + 1)]; rfl
    · rw [lkv_1 c n (i + 1)]
theorem tlp_1 (q : Nat) : ∀ (n f : Nat) (S : IS), (tlp q n f S).1 = S.1
  | 0, _, _ => rfl
  | n + 1, f, S => by
    simp only [tlp]
    rw [tlp_1 q n (f + 1)]
    rfl
theorem tlp_9 (q : Nat) {j : Nat} : ∀ (n f : Nat) (S : IS), (tlp q n f S).2 9 j = if f ≤ j ∧ j < f + n then (if S.1 0 j = 5 then some q else none) else S.2 9 j
  | 0, f, S => by
    rw [if_neg (show ¬ (f ≤ j ∧ j < f + 0) by omega)]
    rfl
  | n + 1, f, S => by
    simp only [tlp]
    rw [tlp_9 q n (f + 1)]
    by_cases e : j = f
    · subst e
      rw [if_neg (show ¬ (j + 1 ≤ j ∧ j < j + 1 + n) by omega), sR_ap, if_pos ⟨rfl, rfl⟩, if_pos (show j ≤ j ∧ j < j + (n + 1) by omega)]
    · by_cases z : f + 1 ≤ j ∧ j < f + 1 + n
      · rw [if_pos z, if_pos (show f ≤ j ∧ j < f + (n + 1) by omega)]
        rfl
      · rw [if_neg z, if_neg (show ¬ (f ≤ j ∧ j < f + (n + 1)) by omega), sR_ap, if_neg (fun z => e z.2)]
theorem lkp_k {k : Nat} (h10 : k ≠ 10) (h11 : k ≠ 11) (j : Nat) : ∀ (n i : Nat) (S : IS) (f : Nat) (d : Int32), (lkp n i S f d).1 k j = S.1 k j
  | 0, _, _, _, _ => rfl
  | n + 1, i, S, f, d => by
    simp only [lkp]
    split
    · split
      · rw [lkp_k h10 h11 j n (i + 1), sI_ap, if_neg (fun z => h10 z.1)]
      · rw [lkp_k h10 h11 j n (i + 1), sI_ap, if_neg (fun z => h10 z.1)]
    · split
      · rw [lkp_k h10 h11 j n (i + 1), tlp_1, sI_ap, if_neg (fun z => h11 z.1)]
      · rw [lkp_k h10 h11 j n (i + 1)]
theorem rnd_k {c k : Nat} (h12 : k ≠ 12) (h13 : k ≠ 13) (h4 : k ≠ 4) (h14 : k ≠ 14) (i : Nat) : ∀ (n j : Nat) (b : Int32) (S : IS), (rnd c n j b S).1.1 k i = S.1 k i
  | 0, _, _, _ => rfl
  | n + 1, j, b, S => by
    simp only [rnd]
    split
    · rfl
    · rw [rnd_k h12 h13 h4 h14 i n (j + 1), lng_k h14, plc_k h12 h13 h4]
theorem plS_2 (S : IS) (i : Nat) (ad : Int32) : (plS S i ad).2 = S.2 := rfl
theorem plc_2 : ∀ (n i : Nat) (S : IS) (ad : Int32), (plc n i S ad).2 = S.2
  | 0, _, _, _ => rfl
  | n + 1, i, S, ad => by
    simp only [plc]
    rw [plc_2 n (i + 1), plS_2]
theorem lng_2 : ∀ (n i : Nat) (S : IS) (b : Int32), (lng n i S b).1.2 = S.2
  | 0, _, _, _ => rfl
  | n + 1, i, S, b => by
    simp only [lng]
    split
    · rw [lng_2 n (i + 1)]; rfl
    · rw [lng_2 n (i + 1)]
theorem rnd_2 {c : Nat} : ∀ (n j : Nat) (b : Int32) (S : IS), (rnd c n j b S).1.2 = S.2
  | 0, _, _, _ => rfl
  | n + 1, j, b, S => by
    simp only [rnd]
    split
    · rfl
    · rw [rnd_2 n (j + 1), lng_2, plc_2]
theorem rea_k {c k : Nat} (hk : k ≠ 15) (j : Nat) (s : QS) (a : Int32) : (rea c s a).1.1 k j = s.1.1 k j := by
  unfold rea
  split
  · rfl
  · split
    · show (sI s.1 15 _ 1).1 k j = _
      rw [sI_ap, if_neg (fun z => hk z.1)]
    · rfl
theorem rea_2 {c : Nat} (s : QS) (a : Int32) : (rea c s a).1.2 = s.1.2 := by
  unfold rea
  split
  · rfl
  · split <;> rfl
theorem fol_k {c k : Nat} (hk : k ≠ 15) (j : Nat) : ∀ (n i : Nat) (s : QS), (fol c n i s).1.1 k j = s.1.1 k j
  | 0, _, _ => rfl
  | n + 1, i, s => by
    simp only [fol]
    split
    · split
      · rfl
      · rw [fol_k hk j n (i + 1)]
        split <;> split <;> simp only [rea_k hk]
    · rfl
theorem fol_2 {c : Nat} : ∀ (n i : Nat) (s : QS), (fol c n i s).1.2 = s.1.2
  | 0, _, _ => rfl
  | n + 1, i, s => by
    simp only [fol]
    split
    · split
      · rfl
      · rw [fol_2 n (i + 1)]
        split <;> split <;> simp only [rea_2]
    · rfl
theorem flw_k {k : Nat} (hk : k ≠ 15) (y : YS) (j : Nat) : (flw y).1.1 k j = y.1.1 k j := by
  unfold flw flwF
  rw [fol_k hk, rea_k hk]
theorem flw_2 (y : YS) : (flw y).1.2 = y.1.2 := by
  unfold flw flwF
  rw [fol_2, rea_2]
theorem los_5 {S : IS} {k : Nat} : ∀ {n i j : Nat}, los S k n i = some j → S.1 0 j = 5 ∧ i ≤ j
  | 0, i, j, h => by cases h
  | n + 1, i, j, h => by
    simp only [los] at h
    split at h
    · rename_i z
      cases h
      exact ⟨z.1, Nat.le_refl _⟩
    · have := los_5 h
      exact ⟨this.1, by omega⟩
/-- the LOADS and POOLS ahead of i, the first behind the POOL ahead of it f -/
def LI (S : IS) (i f : Nat) : Prop :=
  (∀ j, j < i → S.1 0 j = 5 → ∃ t, t ≤ 120 ∧ S.1 10 j = nI t) ∧ (∀ j, j < i → S.1 0 j = 6 → ∃ t, t ≤ 120 ∧ S.1 11 j = nI t) ∧
  (∀ j, j < f → S.1 0 j = 5 → ∃ q, S.2 9 j = some q ∧ j < q ∧ q < i) ∧ ∀ p, f ≤ p → p < i → ¬ S.1 0 p = 6
theorem LI.I {S : IS} {i f : Nat} (h : LI S i f) {v : Int32} (z5 : S.1 0 i = 5) (hv : ∃ t, t ≤ 120 ∧ v = nI t) : LI (sI S 10 i v) (i + 1) f := by
  obtain ⟨t, ht, hv⟩ := hv
  have z0 : ∀ j, (sI S 10 i v).1 0 j = S.1 0 j := fun j => by rw [sI_ap, if_neg (fun z => absurd z.1 (by decide))]
  have z11 : ∀ j, (sI S 10 i v).1 11 j = S.1 11 j := fun j => by rw [sI_ap, if_neg (fun z => absurd z.1 (by decide))]
  obtain ⟨h1, h2, h3, h4⟩ := h
  refine ⟨fun j hj e => ?_, fun j hj e => ?_, fun j hj e => ?_, fun p a b => ?_⟩
  · rw [sI_ap]
    by_cases g : j = i
    · rw [if_pos ⟨rfl, g⟩]; exact ⟨t, ht, hv⟩
    · rw [if_neg (fun z => g z.2)]
      rw [z0] at e
      exact h1 j (by omega) e
  · rw [z0] at e
    rw [z11]
    refine h2 j ?_ e
    rcases Nat.lt_or_ge j i with g | g
    · exact g
    · have : j = i := by omega
      subst this
      exact absurd (z5.symm.trans e) (by decide)
  · rw [z0] at e
    obtain ⟨q, a, b, d⟩ := h3 j hj e
    exact ⟨q, a, b, by omega⟩
  · rw [z0]
    by_cases g : p = i
    · subst g
      rw [z5]; decide
    · exact h4 p a (by omega)
theorem lkp_L {c : Nat} (hc : c ≤ 121) : ∀ (n i : Nat) (S : IS) (f dn : Nat), i + n = c → f ≤ i → dn ≤ i - f → LI S i f → ∃ f2, LI (lkp n i S f (nI dn)) c f2 ∧ f2 ≤ c
  | 0, i, S, f, dn, h, hf, _, L => ⟨f, by rw [show c = i by omega]; exact L, by omega⟩
  | n + 1, i, S, f, dn, h, hf, hd, L => by
    simp only [lkp]
    by_cases a : S.1 0 i = 5
    · rw [if_pos a]
      cases e : los S i (i - f) f with
      | none =>
        show ∃ f2, LI (lkp n (i + 1) (sI S 10 i (nI dn)) f (nI dn + 1)) c f2 ∧ f2 ≤ c
        rw [nI_1]
        exact lkp_L hc n (i + 1) _ f (dn + 1) (by omega) (by omega) (by omega) (L.I a ⟨dn, by omega, rfl⟩)
      | some j =>
        show ∃ f2, LI (lkp n (i + 1) (sI S 10 i (S.1 10 j)) f (nI dn + 0)) c f2 ∧ f2 ≤ c
        have hj := los_lt e
        rw [show nI dn + 0 = nI dn from nI_add dn 0]
        exact lkp_L hc n (i + 1) _ f dn (by omega) (by omega) (by omega) (L.I a (L.1 j (by omega) (los_5 e).1))
    · rw [if_neg a]
      by_cases b : S.1 0 i = 6
      · rw [if_pos b]
        refine lkp_L hc n (i + 1) _ (i + 1) 0 (by omega) (by omega) (by omega) ?_
        have z : ∀ k j, k ≠ 11 → (tlp i (i - f) f (sI S 11 i (nI dn))).1 k j = S.1 k j := fun k j hk => by rw [tlp_1, sI_ap, if_neg (fun z => hk z.1)]
        obtain ⟨h1, h2, h3, h4⟩ := L
        refine ⟨fun j hj e => ?_, fun j hj e => ?_, fun j hj e => ?_, fun p a b => ?_⟩
        · rw [z 0 j (by decide)] at e
          rw [z 10 j (by decide)]
          refine h1 j ?_ e
          rcases Nat.lt_or_ge j i with g | g
          · exact g
          · have : j = i := by omega
            subst this
            exact absurd e a
        · rw [z 0 j (by decide)] at e
          rw [tlp_1, sI_ap]
          by_cases g : j = i
          · rw [if_pos ⟨rfl, g⟩]; exact ⟨dn, by omega, rfl⟩
          · rw [if_neg (fun z => g z.2)]
            exact h2 j (by omega) e
        · rw [z 0 j (by decide)] at e
          rw [tlp_9]
          have g : j ≠ i := fun z => by subst z; exact a e
          by_cases y : f ≤ j ∧ j < f + (i - f)
          · rw [if_pos y, if_pos (by rw [sI_ap, if_neg (fun z => absurd z.1 (by decide))]; exact e)]
            exact ⟨i, rfl, by omega, by omega⟩
          · rw [if_neg y]
            obtain ⟨q, a1, b1, d1⟩ := h3 j (by omega) e
            exact ⟨q, a1, b1, by omega⟩
        · omega
      · rw [if_neg b]
        refine lkp_L hc n (i + 1) S f dn (by omega) (by omega) (by omega) ?_
        obtain ⟨h1, h2, h3, h4⟩ := L
        refine ⟨fun j hj e => ?_, fun j hj e => ?_, fun j hj e => ?_, fun p a1 b1 => ?_⟩
        · refine h1 j ?_ e
          rcases Nat.lt_or_ge j i with g | g
          · exact g
          · have : j = i := by omega
            subst this
            exact absurd e a
        · refine h2 j ?_ e
          rcases Nat.lt_or_ge j i with g | g
          · exact g
          · have : j = i := by omega
            subst this
            exact absurd e b
        · obtain ⟨q, a1, b1, d1⟩ := h3 j hj e
          exact ⟨q, a1, b1, by omega⟩
        · by_cases g : p = i
          · subst g; exact b
          · exact h4 p a1 (by omega)
/-- behind linking, of items whose last is a POOL -/
theorem lkp_all {c : Nat} (hc : c ≤ 121) (h1 : 1 ≤ c) (S : IS) (hp : S.1 0 (c - 1) = 6) : (∀ j, j < c → S.1 0 j = 5 → (∃ t, t ≤ 120 ∧ (lkp c 0 S 0 0).1 10 j = nI t) ∧ ∃ q, (lkp c 0 S 0 0).2 9 j = some q ∧ j < q ∧ q < c) ∧ ∀ j, j < c → S.1 0 j = 6 → ∃ t, t ≤ 120 ∧ (lkp c 0 S 0 0).1 11 j = nI t := by
  obtain ⟨f, ⟨a, b, d, e⟩, hf⟩ := lkp_L hc c 0 S 0 0 (by omega) (Nat.le_refl _) (by omega) ⟨fun j hj => absurd hj (Nat.not_lt_zero j), fun j hj => absurd hj (Nat.not_lt_zero j), fun j hj => absurd hj (Nat.not_lt_zero j), fun p _ hp => absurd hp (Nat.not_lt_zero p)⟩
  have z : ∀ j, (lkp c 0 S 0 (nI 0)).1 0 j = S.1 0 j := fun j => lkp_k (by decide) (by decide) j c 0 S 0 _
  have hf2 : f = c := by
    rcases Nat.lt_or_ge f c with g | g
    · exact absurd ((z (c - 1)).trans hp) (e (c - 1) (by omega) (by omega))
    · omega
  subst hf2
  exact ⟨fun j hj h5 => ⟨a j hj ((z j).trans h5), d j hj ((z j).trans h5)⟩, fun j hj h6 => b j hj ((z j).trans h6)⟩
