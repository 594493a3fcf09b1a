-- WHAT CHANGES ITEMS KEEPS THEM ALIKE
theorem xgO_E {c i : Nat} {S T : IS} (h : sE c S T) (x : Int32) : xgO S c i x = xgO T c i x := by unfold xgO; rw [h.gvo]
theorem xgO_lt {c i j : Nat} {S : IS} {x : Int32} (e : xgO S c i x = some j) : j < c := by
  unfold xgO at e
  split at e
  · cases e
  · exact gvO_lt e
theorem sE.lk {c i : Nat} {S T : IS} (h : sE c S T) (hi : i < c) : sE c (lkS S c i) (lkS T c i) := by
  unfold lkS
  rw [← xgO_E h, ← xgO_E h, ← h.f hi 1, ← h.f hi 2]
  exact (h.R 7 i (fun j e => xgO_lt e)).R 8 i (fun j e => xgO_lt e)
theorem sE.hv {c i : Nat} {S T : IS} (h : sE c S T) (hi : i < c) : hvF S i ↔ hvF T i := by unfold hvF brF; rw [h.f hi 0]
theorem sE.mis {c i : Nat} {S T : IS} (h : sE c S T) (hi : i < c) : misF S c i ↔ misF T c i := by unfold misF; rw [h.f hi 1, h.f hi 2, h.gvo, h.gvo]
theorem if_iff {α : Type} {p q : Prop} [Decidable p] [Decidable q] (h : p ↔ q) (a b : α) : (if p then a else b) = if q then a else b := by
  by_cases z : p
  · rw [if_pos z, if_pos (h.mp z)]
  · rw [if_neg z, if_neg (fun y => z (h.mpr y))]
theorem sE.lkvE {c : Nat} : ∀ (n i : Nat) (S T : IS), sE c S T → i + n ≤ c → sE c (lkv c n i S).1 (lkv c n i T).1 ∧ (lkv c n i S).2 = (lkv c n i T).2
  | 0, _, _, _, h, _ => ⟨h, rfl⟩
  | n + 1, i, S, T, h, hn => by
    have hi : i < c := by omega
    simp only [lkv]
    rw [← if_iff (h.hv hi), ← if_iff (h.mis hi)]
    by_cases a : hvF S i
    · rw [if_pos a, if_pos a]
      by_cases b : misF S c i
      · rw [if_pos b, if_pos b]
        exact ⟨h.lk hi, rfl⟩
      · rw [if_neg b, if_neg b]
        exact sE.lkvE n (i + 1) _ _ (h.lk hi) (by omega)
    · rw [if_neg a, if_neg a]
      exact sE.lkvE n (i + 1) _ _ h (by omega)
theorem sE.tlpE {c q : Nat} (hq : q < c) : ∀ (n f : Nat) (S T : IS), sE c S T → f + n ≤ c → sE c (tlp q n f S) (tlp q n f T)
  | 0, _, _, _, h, _ => h
  | n + 1, f, S, T, h, hn => by
    simp only [tlp]
    rw [← h.f (i := f) (by omega) 0]
    exact sE.tlpE hq n (f + 1) _ _ (h.R 9 f (fun j e => by split at e <;> cases e; exact hq)) (by omega)
theorem sE.lkpE {c : Nat} : ∀ (n i : Nat) (S T : IS) (f : Nat) (d : Int32), sE c S T → i + n ≤ c → f ≤ i → sE c (lkp n i S f d) (lkp n i T f d)
  | 0, _, _, _, _, _, h, _, _ => h
  | n + 1, i, S, T, f, d, h, hn, hf => by
    have hi : i < c := by omega
    simp only [lkp]
    rw [← h.f hi 0, ← h.losE hi (i - f) f (by omega)]
    by_cases a : S.1 0 i = 5
    · rw [if_pos a, if_pos a]
      cases e : los S i (i - f) f with
      | none => exact sE.lkpE n (i + 1) _ _ f _ (h.I 10 i d) (by omega) (by omega)
      | some j =>
        have hj := los_lt e
        show sE c (lkp n (i + 1) (sI S 10 i (S.1 10 j)) f (d + 0)) (lkp n (i + 1) (sI T 10 i (T.1 10 j)) f (d + 0))
        rw [← h.f (i := j) (by omega) 10]
        exact sE.lkpE n (i + 1) _ _ f _ (h.I 10 i _) (by omega) (by omega)
    · rw [if_neg a, if_neg a]
      by_cases b : S.1 0 i = 6
      · rw [if_pos b, if_pos b]
        exact sE.lkpE n (i + 1) _ _ (i + 1) 0 (sE.tlpE hi (i - f) f _ _ (h.I 11 i d) (by omega)) (by omega) (by omega)
      · rw [if_neg b, if_neg b]
        exact sE.lkpE n (i + 1) _ _ f d h (by omega) (by omega)
theorem sE.plE {c i : Nat} {S T : IS} (h : sE c S T) (hi : i < c) (ad : Int32) : sE c (plS S i ad) (plS T i ad) := by
  unfold plS
  have h1 := h.I 12 i ad
  have h2 : sE c (sI (sI S 12 i ad) 13 i (szF (sI S 12 i ad) i ad)) (sI (sI T 12 i ad) 13 i (szF (sI T 12 i ad) i ad)) := by
    rw [← h1.sz hi ad]
    exact h1.I 13 i _
  dsimp only
  rw [← h2.f hi 0, ← h2.f hi 4]
  exact h2.I 4 i _
theorem sE.plcE {c : Nat} : ∀ (n i : Nat) (S T : IS) (ad : Int32), sE c S T → i + n ≤ c → sE c (plc n i S ad) (plc n i T ad)
  | 0, _, _, _, _, h, _ => h
  | n + 1, i, S, T, ad, h, hn => by
    have h2 := h.plE (i := i) (by omega) ad
    simp only [plc]
    rw [← h2.f (i := i) (by omega) 13]
    exact sE.plcE n (i + 1) _ _ _ h2 (by omega)
theorem sE.lngE {c : Nat} : ∀ (n i : Nat) (S T : IS) (b : Int32), sE c S T → i + n ≤ c → sE c (lng n i S b).1 (lng n i T b).1 ∧ (lng n i S b).2 = (lng n i T b).2
  | 0, _, _, _, _, h, _ => ⟨h, rfl⟩
  | n + 1, i, S, T, b, h, hn => by
    have hi : i < c := by omega
    simp only [lng]
    rw [← if_iff (show (brF S i ∧ S.1 14 i = 0 ∧ ¬ nearF S i) ↔ (brF T i ∧ T.1 14 i = 0 ∧ ¬ nearF T i) by rw [h.br hi, h.f hi 14, h.near hi])]
    by_cases a : brF S i ∧ S.1 14 i = 0 ∧ ¬ nearF S i
    · rw [if_pos a, if_pos a]
      exact sE.lngE n (i + 1) _ _ _ (h.I 14 i 1) (by omega)
    · rw [if_neg a, if_neg a]
      exact sE.lngE n (i + 1) _ _ _ h (by omega)
theorem sE.rndE {c : Nat} : ∀ (n j : Nat) (b : Int32) (S T : IS), sE c S T → sE c (rnd c n j b S).1 (rnd c n j b T).1 ∧ (rnd c n j b S).2 = (rnd c n j b T).2
  | 0, _, _, _, _, h => ⟨h, rfl⟩
  | n + 1, j, b, S, T, h => by
    simp only [rnd]
    by_cases a : b = 0
    · rw [if_pos a, if_pos a]
      exact ⟨h, rfl⟩
    · rw [if_neg a, if_neg a]
      have h2 := sE.lngE c 0 _ _ 0 (sE.plcE c 0 _ _ 0 h (by omega)) (by omega)
      rw [← h2.2]
      exact sE.rndE n (j + 1) _ _ _ h2.1
