-- NOTHING DEPENDS ON OLD ITEMS
abbrev rk (k : Nat) : Prop := k = 7 ∨ k = 8 ∨ k = 9
abbrev ik (k : Nat) : Prop := k < 7 ∨ 10 ≤ k ∧ k < 16
/-- two stores of items that agree on the first c, and point to none behind -/
def sE (c : Nat) (S T : IS) : Prop := (∀ k i, ik k → i < c → S.1 k i = T.1 k i) ∧ (∀ k i, rk k → i < c → S.2 k i = T.2 k i) ∧ ∀ k i j, rk k → i < c → S.2 k i = some j → j < c
theorem sE.zero (S T : IS) : sE 0 S T := ⟨fun _ _ _ h => absurd h (Nat.not_lt_zero _), fun _ _ _ h => absurd h (Nat.not_lt_zero _), fun _ _ _ _ h => absurd h (Nat.not_lt_zero _)⟩
theorem sI_ap (S : IS) (k i : Nat) (v : Int32) (k2 i2 : Nat) : (sI S k i v).1 k2 i2 = if k2 = k ∧ i2 = i then v else S.1 k2 i2 := by
  unfold sI
  by_cases a : k2 = k <;> by_cases b : i2 = i <;> simp [a, b]
theorem sR_ap (S : IS) (k i : Nat) (o : Option Nat) (k2 i2 : Nat) : (sR S k i o).2 k2 i2 = if k2 = k ∧ i2 = i then o else S.2 k2 i2 := by
  unfold sR
  by_cases a : k2 = k <;> by_cases b : i2 = i <;> simp [a, b]
theorem sE.I {c : Nat} {S T : IS} (h : sE c S T) (k i : Nat) (v : Int32) : sE c (sI S k i v) (sI T k i v) := by
  refine ⟨fun k2 i2 hk hi => ?_, h.2.1, h.2.2⟩
  rw [sI_ap, sI_ap]
  by_cases z : k2 = k ∧ i2 = i
  · rw [if_pos z, if_pos z]
  · rw [if_neg z, if_neg z]
    exact h.1 k2 i2 hk hi
theorem sE.R {c : Nat} {S T : IS} (h : sE c S T) (k i : Nat) {o : Option Nat} (ho : ∀ j, o = some j → j < c) : sE c (sR S k i o) (sR T k i o) := by
  refine ⟨h.1, fun k2 i2 hk hi => ?_, fun k2 i2 j hk hi e => ?_⟩
  · rw [sR_ap, sR_ap]
    by_cases z : k2 = k ∧ i2 = i
    · rw [if_pos z, if_pos z]
    · rw [if_neg z, if_neg z]
      exact h.2.1 k2 i2 hk hi
  · rw [sR_ap] at e
    by_cases z : k2 = k ∧ i2 = i
    · rw [if_pos z] at e
      exact ho j e
    · rw [if_neg z] at e
      exact h.2.2 k2 i2 j hk hi e
theorem tel_1 (S : IS) (i : Nat) (k x y n says ml dp : Int32) (k2 : Nat) (hk : ik k2) (i2 : Nat) : (telS S i k x y n says ml dp).1 k2 i2 = if i2 = i then (match k2 with | 0 => k | 1 => x | 2 => y | 3 => n | 4 => says | 5 => ml | 6 => dp | _ => 0) else S.1 k2 i2 := by
  unfold telS
  by_cases e : i2 = i
  · rw [if_pos e]
    subst e
    rcases (show k2 = 0 ∨ k2 = 1 ∨ k2 = 2 ∨ k2 = 3 ∨ k2 = 4 ∨ k2 = 5 ∨ k2 = 6 ∨ k2 = 10 ∨ k2 = 11 ∨ k2 = 12 ∨ k2 = 13 ∨ k2 = 14 ∨ k2 = 15 by omega) with rfl | rfl | rfl | rfl | rfl | rfl | rfl | rfl | rfl | rfl | rfl | rfl | rfl <;> simp [sI, sR]
  · rw [if_neg e]
    simp [sI, sR, e]
theorem tel_2 (S : IS) (i : Nat) (k x y n says ml dp : Int32) (k2 : Nat) (hk : rk k2) (i2 : Nat) : (telS S i k x y n says ml dp).2 k2 i2 = if i2 = i then none else S.2 k2 i2 := by
  unfold telS
  by_cases e : i2 = i
  · rw [if_pos e]
    subst e
    rcases hk with rfl | rfl | rfl <;> simp [sI, sR]
  · rw [if_neg e]
    simp [sI, sR, e]
theorem sE.tel {c : Nat} {S T : IS} (h : sE c S T) (k x y n says ml dp : Int32) : sE (c + 1) (telS S c k x y n says ml dp) (telS T c k x y n says ml dp) := by
  refine ⟨fun k2 i hk hi => ?_, fun k2 i hk hi => ?_, fun k2 i j hk hi e => ?_⟩
  · rw [tel_1 _ _ _ _ _ _ _ _ _ _ hk, tel_1 _ _ _ _ _ _ _ _ _ _ hk]
    by_cases e : i = c
    · rw [if_pos e, if_pos e]
    · rw [if_neg e, if_neg e]
      exact h.1 k2 i hk (by omega)
  · rw [tel_2 _ _ _ _ _ _ _ _ _ _ hk, tel_2 _ _ _ _ _ _ _ _ _ _ hk]
    by_cases e : i = c
    · rw [if_pos e, if_pos e]
    · rw [if_neg e, if_neg e]
      exact h.2.1 k2 i hk (by omega)
  · rw [tel_2 _ _ _ _ _ _ _ _ _ _ hk] at e
    by_cases z : i = c
    · rw [if_pos z] at e
      cases e
    · rw [if_neg z] at e
      have := h.2.2 k2 i j hk (by omega) e
      omega
section SE
variable {c i : Nat} {S T : IS}
theorem sE.f (h : sE c S T) (hi : i < c) (k : Nat) (hk : ik k := by decide) : S.1 k i = T.1 k i := h.1 k i hk hi
theorem sE.gv (h : sE c S T) (hi : i < c) (k : Nat) (hk : rk k := by decide) : gvF S (S.2 k i) = gvF T (T.2 k i) := by
  rw [← h.2.1 k i hk hi]
  cases e : S.2 k i with
  | none => rfl
  | some j => exact h.f (h.2.2 k i j hk hi e) 4
theorem sE.br (h : sE c S T) (hi : i < c) : brF S i ↔ brF T i := by unfold brF; rw [h.f hi 0]
theorem sE.val (h : sE c S T) (hi : i < c) : valF S i = valF T i := by unfold valF; rw [h.f hi 3, h.gv hi 7, h.gv hi 8]
theorem sE.dst (h : sE c S T) (hi : i < c) : dstF S i = dstF T i := by unfold dstF; rw [h.val hi, h.f hi 12]
theorem sE.near (h : sE c S T) (hi : i < c) : nearF S i ↔ nearF T i := by unfold nearF; rw [h.dst hi]
theorem sE.abv (h : sE c S T) (hi : i < c) : abvF S i = abvF T i := by
  unfold abvF
  rw [← h.2.1 9 i (by decide) hi]
  cases e : S.2 9 i with
  | none => rfl
  | some j => show S.1 12 j + S.1 10 i - S.1 12 i = T.1 12 j + T.1 10 i - T.1 12 i; rw [h.f (h.2.2 9 i j (by decide) hi e) 12, h.f hi 10, h.f hi 12]
theorem sE.fol (h : sE c S T) (hi : i < c) : folF S i ↔ folF T i := by unfold folF; rw [h.f hi 0, h.f hi 13]
theorem sE.sz (h : sE c S T) (hi : i < c) (st : Int32) : szF S i st = szF T i st := by unfold szF; rw [h.f hi 0, h.f hi 14, h.f hi 11, h.f hi 3]
theorem sE.sh (h : sE c S T) (hi : i < c) (w : Int32) : shF S i w = shF T i w := by unfold shF brF; rw [h.f hi 0, h.f hi 13, h.f hi 14, h.f hi 15]
theorem sE.nah (h : sE c S T) (k x : Int32) : ∀ t, t ≤ c → nAh S k x t = nAh T k x t
  | 0, _ => rfl
  | t + 1, ht => by simp only [nAh]; rw [h.f (i := t) (by omega) 0, h.f (i := t) (by omega) 1, h.nah k x t (by omega)]
theorem sE.nbe (h : sE c S T) (k x : Int32) : ∀ n i, i + n ≤ c → nBe S k x n i = nBe T k x n i
  | 0, _, _ => rfl
  | n + 1, i, hn => by simp only [nBe]; rw [h.f (i := i) (by omega) 0, h.f (i := i) (by omega) 1, h.nbe k x n (i + 1) (by omega)]
theorem sE.gvo (h : sE c S T) (x : Int32) (t : Nat) : gvO S c x t = gvO T c x t := by
  have hb : ∀ k y, nBe S k y (c - (t + 1)) (t + 1) = nBe T k y (c - (t + 1)) (t + 1) := fun k y => by
    by_cases z : t + 1 ≤ c
    · exact h.nbe k y _ _ (by omega)
    · rw [show c - (t + 1) = 0 by omega]; rfl
  unfold gvO
  rw [hb, hb, h.nah _ _ _ (Nat.min_le_right t c), h.nah _ _ _ (Nat.min_le_right t c)]
theorem sE.losE (h : sE c S T) (hi : i < c) : ∀ n f, f + n ≤ c → los S i n f = los T i n f
  | 0, _, _ => rfl
  | n + 1, f, hn => by simp only [los]; rw [h.f (i := f) (by omega) 0, h.f (i := f) (by omega) 3, h.f hi 3, sE.losE h hi n (f + 1) (by omega)]
theorem sE.talE (h : sE c S T) (w : Int32) : ∀ n i s, i + n ≤ c → tal S w n i s = tal T w n i s
  | 0, _, _, _ => rfl
  | n + 1, i, s, hn => by simp only [tal]; rw [h.sh (i := i) (by omega) w, sE.talE h w n (i + 1) _ (by omega)]
theorem sE.hofE (h : sE c S T) (ad : Int32) : ∀ n i, i + n ≤ c → hof S ad n i = hof T ad n i
  | 0, _, _ => rfl
  | n + 1, i, hn => by simp only [hof]; rw [h.f (i := i) (by omega) 12, h.f (i := i) (by omega) 13, sE.hofE h ad n (i + 1) (by omega)]
theorem sE.fflE (h : sE c S T) : ∀ n i, i + n ≤ c → ffl S n i = ffl T n i
  | 0, _, _ => rfl
  | n + 1, i, hn => by simp only [ffl]; rw [h.f (i := i) (by omega) 0, h.abv (i := i) (by omega), sE.fflE h n (i + 1) (by omega)]
theorem sE.fwlE (h : sE c S T) (ad : Int32) : ∀ n i, i + n ≤ c → fwl S ad n i = fwl T ad n i
  | 0, _, _ => rfl
  | n + 1, i, hn => by simp only [fwl]; rw [h.f (i := i) (by omega) 12, sE.fwlE h ad n (i + 1) (by omega)]
theorem sE.fw (h : sE c S T) (ad : Int32) : fwF S c ad = fwF T c ad := by
  unfold fwF
  rw [sE.hofE h ad c 0 (by omega), sE.fwlE h ad c 0 (by omega)]
end SE
