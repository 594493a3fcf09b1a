-- FOLLOWING DOES NOT EITHER
def qE (c : Nat) (s t : QS) : Prop := sE c s.1 t.1 ∧ s.2 = t.2
theorem qE.reaQ {c : Nat} (hc : c ≤ 121) {s t : QS} (h : qE c s t) (a : Int32) : qE c (rea c s a) (rea c t a) := by
  obtain ⟨S, k, Q⟩ := s
  obtain ⟨T, r⟩ := t
  obtain ⟨h1, h2⟩ := h
  cases h2
  exact reaE hc h1 k Q a
theorem qE.folQ {c : Nat} (hc : c ≤ 121) : ∀ (n i : Nat) (s t : QS), qE c s t → qE c (fol c n i s) (fol c n i t)
  | 0, _, _, _, h => h
  | n + 1, i, s, t, h => by
    simp only [fol]
    rw [← h.2]
    by_cases hi : i < s.2.1
    · rw [if_pos hi, if_pos hi]
      cases e : iaO c (s.2.2 i) with
      | none => exact h
      | some j =>
        have hj := iaO_lt e (by omega)
        dsimp only
        have h1 : qE c (if s.1.1 0 j = 3 then s else rea c s (s.2.2 i + 1)) (if t.1.1 0 j = 3 then t else rea c t (s.2.2 i + 1)) := by
          rw [← h.1.f hj 0]
          by_cases z : s.1.1 0 j = 3
          · rw [if_pos z, if_pos z]; exact h
          · rw [if_neg z, if_neg z]; exact h.reaQ hc _
        generalize (if s.1.1 0 j = 3 then s else rea c s (s.2.2 i + 1)) = s1 at h1
        generalize (if t.1.1 0 j = 3 then t else rea c t (s.2.2 i + 1)) = t1 at h1
        rw [← if_iff (h1.1.br hj)]
        by_cases z : brF s1.1 j
        · rw [if_pos z, if_pos z, ← h1.1.val hj, ← h1.1.fw]
          exact qE.folQ hc n (i + 1) _ _ (h1.reaQ hc _)
        · rw [if_neg z, if_neg z]
          exact qE.folQ hc n (i + 1) _ _ h1
    · rw [if_neg hi, if_neg hi]
      exact h
theorem flw_E {y z : YS} (h : yE y z) : qE y.2.1 (flw y) (flw z) := by
  unfold flw flwF
  rw [← h.2.1]
  exact qE.folQ h.2.2 121 0 _ _ (qE.reaQ (s := (y.1, 0, fun _ => 0)) (t := (z.1, 0, fun _ => 0)) h.2.2 ⟨h.1, rfl⟩ 0)
/-- what the press says of its source does not depend on what it said before -/
theorem nowF_E (D : DT) (cnt : Nat → Nat) {y z : YS} (hq : y.2.2.1 = z.2.2.1) : yE (nowF D cnt y) (nowF D cnt z) := by
  have h := asmF_E D cnt hq
  have h2 := flw_E h
  unfold nowF
  refine ⟨h2.1, ?_, h.2.2⟩
  show ((asmF D cnt y).2.1, nI (flw (asmF D cnt y)).2.1, (asmF D cnt y).2.2.2) = ((asmF D cnt z).2.1, nI (flw (asmF D cnt z)).2.1, (asmF D cnt z).2.2.2)
  rw [h.2.1, h2.2]
def yq (y : YS) (v : Int32) : YS := (y.1, y.2.1, v, y.2.2.2)
theorem asmT_q (S : IS) (c : Nat) (v : Int32) : asmT S c v = yq (asmT S c 0) v := by
  unfold asmT faiF
  dsimp only
  cases iaO c (ffl (rnd c 121 0 1 S).1 c 0) <;> rfl
theorem asmL_q (S : IS) (c : Nat) (v : Int32) : asmL S c v = yq (asmL S c 0) v := by
  unfold asmL
  cases iaO c (lkv c c 0 S).2 with
  | some j => rfl
  | none => exact asmT_q _ _ _
theorem asmX_q (s : XS) (v : Int32) : asmX s v = yq (asmX s 0) v := by
  unfold asmX
  by_cases a : s.2.2.2.2.1 = 0
  · rw [if_pos a, if_pos a]; exact asmL_q _ _ _
  · rw [if_neg a, if_neg a]; rfl
theorem asmF_yq (D : DT) (cnt : Nat → Nat) (y : YS) (v : Int32) : asmF D cnt (yq y v) = yq (asmF D cnt y) v := by
  unfold asmF
  rw [asmX_q, asmX_q _ y.2.2.1]
  rfl
theorem nowF_yq (D : DT) (cnt : Nat → Nat) (y : YS) (v : Int32) : nowF D cnt (yq y v) = nowF D cnt y := by
  unfold nowF
  rw [asmF_yq]
  rfl
theorem nowF_any (D : DT) (cnt : Nat → Nat) (y z : YS) : yE (nowF D cnt y) (nowF D cnt z) := by
  have h := nowF_E D cnt (y := yq y z.2.2.1) (z := z) rfl
  rw [nowF_yq] at h
  exact h
theorem wof_any (D : DT) (cnt : Nat → Nat) (y z : YS) : wofF (asmF D cnt y) = wofF (asmF D cnt z) := by
  have h := wof_E (asmF_E D cnt (y := yq y z.2.2.1) (z := z) rfl)
  rw [asmF_yq] at h
  exact h
