-- ASSEMBLING DOES NOT DEPEND ON WHAT WAS THERE
def xE (s t : XS) : Prop := sE s.2.1 s.1 t.1 ∧ s.2 = t.2 ∧ s.2.1 ≤ 120
theorem xE.F {s t : XS} (h : xE s t) (v : Int32) : xE (xF s v) (xF t v) := by
  obtain ⟨S, r⟩ := s
  obtain ⟨T, r2⟩ := t
  obtain ⟨h1, h2, h3⟩ := h
  cases h2
  exact ⟨h1, rfl, h3⟩
theorem xE.N {s t : XS} (h : xE s t) (v : NS) : xE (xN s v) (xN t v) := by
  obtain ⟨S, r⟩ := s
  obtain ⟨T, r2⟩ := t
  obtain ⟨h1, h2, h3⟩ := h
  cases h2
  exact ⟨h1, rfl, h3⟩
theorem xE.set {s t : XS} (h : xE s t) (x y n : Int32) : xE (xSet s x y n) (xSet t x y n) := by
  have h0 := h
  unfold xSet
  rw [← h.2.1]
  by_cases a : ¬ nosF s.2.2.1 y
  · rw [if_pos a, if_pos a]; exact h0.F 3
  · rw [if_neg a, if_neg a]
    by_cases b : islF s.2.2.1 x
    · rw [if_pos b, if_pos b]; exact h0.F 4
    · rw [if_neg b, if_neg b]; exact h0.N _
theorem xE.lab {s t : XS} (h : xE s t) (x : Int32) : xE (xLab s x) (xLab t x) := by
  have h0 := h
  unfold xLab
  rw [← h.2.1]
  by_cases a : islF s.2.2.1 x ∨ issF s.2.2.1 x
  · rw [if_pos a, if_pos a]; exact h0.F 4
  · rw [if_neg a, if_neg a]; exact h0.N _
theorem xE.go {s t : XS} (h : xE s t) (x y : Int32) : xE (xGoS s x y) (xGoS t x y) := by
  have h0 := h
  unfold xGoS
  rw [← h.2.1]
  by_cases a : nosF s.2.2.1 x ∧ nosF s.2.2.1 y
  · rw [if_pos a, if_pos a]; exact h0
  · rw [if_neg a, if_neg a]; exact h0.F 3
theorem xE.gor {s t : XS} (h : xE s t) (x y n : Int32) : xGoR s x y n = xGoR t x y n := by
  unfold xGoR
  rw [h.2.1]
theorem xE.inc {s t : XS} (h : xE s t) : xE (xInc s) (xInc t) := by
  obtain ⟨S, r⟩ := s
  obtain ⟨T, r2⟩ := t
  obtain ⟨h1, h2, h3⟩ := h
  cases h2
  exact ⟨h1, rfl, h3⟩
theorem xE.ml {s t : XS} (h : xE s t) (dp : Int32) (i : Nat) : xE (xMl s dp i) (xMl t dp i) := by
  obtain ⟨S, r⟩ := s
  obtain ⟨T, r2⟩ := t
  obtain ⟨h1, h2, h3⟩ := h
  cases h2
  exact ⟨h1, rfl, h3⟩
theorem xE.app {s t : XS} (h : xE s t) (hc : s.2.1 < 120) (k x y n dp : Int32) : xE (xApp s k x y n dp) (xApp t k x y n dp) := by
  obtain ⟨S, r⟩ := s
  obtain ⟨T, r2⟩ := t
  obtain ⟨h1, h2, h3⟩ := h
  cases h2
  exact ⟨h1.tel _ _ _ _ _ _ _, rfl, hc⟩
theorem xE.lin {call : Int32 → Int32 → XS → XS} (hcall : ∀ r a s t, xE s t → xE (call r a s) (call r a t)) {s t : XS} (h : xE s t) (dp : Int32) (d : Nat → Int32) (arg : Int32) : xE (xLin call dp d arg s).1 (xLin call dp d arg t).1 ∧ (xLin call dp d arg s).2 = (xLin call dp d arg t).2 := by
  unfold xLin
  have h := h.inc
  generalize xInc s = s at h
  generalize xInc t = t at h
  generalize (if d 4 = 0 then d 3 else d 3 + arg) = n
  unfold xLin2
  have ho : xOver s (d 0) ↔ xOver t (d 0) := by unfold xOver; rw [h.2.1]
  rw [← if_iff ho]
  by_cases a : xOver s (d 0)
  · rw [if_pos a, if_pos a]; exact ⟨h.F 2, rfl⟩
  · rw [if_neg a, if_neg a]
    by_cases b : d 0 = 10
    · rw [if_pos b, if_pos b]; exact ⟨hcall _ _ _ _ h, rfl⟩
    · rw [if_neg b, if_neg b]
      by_cases e : d 0 = 8
      · rw [if_pos e, if_pos e]; exact ⟨h.go _ _, h.gor _ _ _⟩
      · rw [if_neg e, if_neg e]
        by_cases e9 : d 0 = 9
        · rw [if_pos e9, if_pos e9]; exact ⟨h, rfl⟩
        · rw [if_neg e9, if_neg e9]
          have hc : s.2.1 < 120 := Nat.lt_of_not_le (fun z => a (Or.inr ⟨⟨e, e9, b⟩, z⟩))
          refine ⟨?_, rfl⟩
          by_cases k0 : d 0 = 0
          · rw [if_pos k0, if_pos k0]
            exact (h.lab _).app (by rw [xLab_c]; exact hc) _ _ _ _ _
          · rw [if_neg k0, if_neg k0]
            by_cases k1 : d 0 = 1
            · rw [if_pos k1, if_pos k1]
              exact (h.set _ _ _).app (by rw [xSet_c]; exact hc) _ _ _ _ _
            · rw [if_neg k1, if_neg k1]
              exact h.app hc _ _ _ _ _
theorem xE.loop {call : Int32 → Int32 → XS → XS} (hcall : ∀ r a s t, xE s t → xE (call r a s) (call r a t)) (dp : Int32) (E : Nat → Nat → Int32) (arg : Int32) : ∀ (n i : Nat) (o : Int32) (s t : XS), xE s t → xE (xLoop call dp E arg n i o s) (xLoop call dp E arg n i o t)
  | 0, _, _, _, _, h => h
  | n + 1, i, o, s, t, h => by
    have hl := xE.lin hcall (h.ml dp i) dp (E i) arg
    simp only [xLoop]
    rw [← hl.2, ← if_iff (show (¬ s.2.2.2.2.1 = 0) ↔ (¬ t.2.2.2.2.1 = 0) by rw [h.2.1])]
    by_cases a : ¬ s.2.2.2.2.1 = 0
    · rw [if_pos a, if_pos a]; exact h
    · rw [if_neg a, if_neg a]
      by_cases b : xOp o (E i 0) = 0
      · rw [if_pos b, if_pos b]
        by_cases e : (xLin call dp (E i) arg (xMl s dp i)).2 = 0
        · rw [if_pos e, if_pos e]; exact xE.loop hcall dp E arg n (i + 1) _ _ _ hl.1
        · rw [if_neg e, if_neg e]; exact xE.loop hcall dp E arg n (i + 1) _ _ _ hl.1
      · rw [if_neg b, if_neg b]; exact xE.loop hcall dp E arg n (i + 1) _ _ _ (h.ml dp i)
theorem xE.call (D : DT) (cnt : Nat → Nat) : ∀ (k : Nat) (row arg : Int32) (s t : XS), xE s t → xE (xCall D cnt k row arg s) (xCall D cnt k row arg t)
  | 0, _, _, _, _, h => h.F 1
  | k + 1, row, arg, s, t, h => xE.loop (xE.call D cnt k) _ _ _ _ _ _ _ _ h
def yE (y z : YS) : Prop := sE y.2.1 y.1 z.1 ∧ y.2 = z.2 ∧ y.2.1 ≤ 121
theorem yE.fail {y z : YS} (h : y.2 = z.2) (n ln : Int32) : yE (failF y n ln) (failF z n ln) := ⟨sE.zero _ _, by unfold failF; rw [h], Nat.zero_le _⟩
theorem asmT_E {S T : IS} {c : Nat} (h : sE c S T) (hc : c ≤ 121) (qd : Int32) : yE (asmT S c qd) (asmT T c qd) := by
  unfold asmT
  have h2 := sE.rndE 121 0 1 S T h
  rw [← h2.2, ← h2.1.fflE c 0 (by omega)]
  unfold faiF
  dsimp only
  cases e : iaO c (ffl (rnd c 121 0 1 S).1 c 0) with
  | none => exact ⟨h2.1, rfl, hc⟩
  | some j =>
    have hj := iaO_lt e (by omega)
    dsimp only
    rw [← h2.1.f hj 5]
    exact ⟨sE.zero _ _, rfl, Nat.zero_le _⟩
theorem asmL_E {S T : IS} {c : Nat} (h : sE c S T) (hc : c ≤ 121) (qd : Int32) : yE (asmL S c qd) (asmL T c qd) := by
  unfold asmL
  have h2 := sE.lkvE c 0 S T h (by omega)
  rw [← h2.2]
  cases e : iaO c (lkv c c 0 S).2 with
  | some j =>
    have hj := iaO_lt e (by omega)
    dsimp only
    rw [← h2.1.f hj 5]
    exact ⟨sE.zero _ _, rfl, Nat.zero_le _⟩
  | none => exact asmT_E (sE.lkpE c 0 _ _ 0 0 h2.1 (by omega) (by omega)) hc qd
theorem asmF_E (D : DT) (cnt : Nat → Nat) {y z : YS} (hq : y.2.2.1 = z.2.2.1) : yE (asmF D cnt y) (asmF D cnt z) := by
  unfold asmF
  have h := xE.call D cnt 6 0 0 (y.1, 0, nn0, 0, 0, 0) (z.1, 0, nn0, 0, 0, 0) ⟨sE.zero _ _, rfl, Nat.zero_le _⟩
  rw [← hq]
  generalize xCall D cnt 6 0 0 (y.1, 0, nn0, 0, 0, 0) = s at h
  generalize xCall D cnt 6 0 0 (z.1, 0, nn0, 0, 0, 0) = t at h
  obtain ⟨S, r⟩ := s
  obtain ⟨T, r2⟩ := t
  obtain ⟨h1, h2, h3⟩ := h
  cases h2
  unfold asmX
  dsimp only
  by_cases a : r.2.2.2.1 = 0
  · rw [if_pos a, if_pos a]
    exact asmL_E (h1.tel _ _ _ _ _ _ _) (Nat.succ_le_succ h3) _
  · rw [if_neg a, if_neg a]
    exact ⟨sE.zero _ _, rfl, Nat.zero_le _⟩
theorem wof_E {y z : YS} (h : yE y z) : wofF y = wofF z := by
  unfold wofF
  rw [← h.2.1, h.1.talE 3 y.2.1 0 0 (by omega)]
theorem reaE {c : Nat} (hc : c ≤ 121) {S T : IS} (h : sE c S T) (k : Nat) (Q : Nat → Int32) (a : Int32) : sE c (rea c (S, k, Q) a).1 (rea c (T, k, Q) a).1 ∧ (rea c (S, k, Q) a).2 = (rea c (T, k, Q) a).2 := by
  unfold rea
  cases e : iaO c a with
  | none => exact ⟨h, rfl⟩
  | some j =>
    have hj := iaO_lt e (by omega)
    dsimp only
    rw [← if_iff (show (S.1 15 j = 0 ∧ folF S j ∧ k < 121) ↔ (T.1 15 j = 0 ∧ folF T j ∧ k < 121) by rw [h.f hj 15, h.fol hj])]
    by_cases z : S.1 15 j = 0 ∧ folF S j ∧ k < 121
    · rw [if_pos z, if_pos z]; exact ⟨h.I 15 j 1, rfl⟩
    · rw [if_neg z, if_neg z]; exact ⟨h, rfl⟩
