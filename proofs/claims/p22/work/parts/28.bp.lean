-- THE PRESS
theorem aAt.frame {g : GG} {w so cap0 lo hi : Nat} {cnt : Nat → Nat} {f : Nat → Nat → Nat} {D : DT} {y : YS} {A : Nat → Prop} {H H1 : Heap} (h : aAt g w so cap0 cnt f D lo hi y H) (hf : fr A H H1) (hA : ∀ q, A q → lo ≤ q ∧ q < hi ∧ ¬ (so ≤ q ∧ q < so + 12) ∧ ¬ (w ≤ q ∧ q < w + 131)) : aAt g w so cap0 cnt f D lo hi y H1 := by
  obtain ⟨hA', hP, ⟨Qf, hQ⟩, ⟨x, fn, ml, hE⟩, hI, ⟨N, hN⟩, hs, hc, h1, h2, h3⟩ := h
  exact ⟨hA'.fr hf (fun z => by have := hA _ z; omega), hP.fr hf (fun z => by have := hA _ z; omega), ⟨Qf, hQ.fr hf (fun z => by have := hA _ z; omega)⟩, ⟨x, fn, ml, hE.fr hf (fun z => by have := hA _ z; omega)⟩, hI.frame hf (fun q z => by have := hA _ z; omega), ⟨N, hN.frame hf (fun q z => by have := hA _ z; omega)⟩, hs.frame hf (fun q z => by have := hA _ z; omega), hc, h1, h2, h3⟩
theorem aAt.lt {g : GG} {w so cap0 lo hi : Nat} {cnt : Nat → Nat} {f : Nat → Nat → Nat} {D : DT} {y : YS} {H : Heap} (h : aAt g w so cap0 cnt f D lo hi y H) : w + 130 < H.size := by
  obtain ⟨-, -, ⟨Qf, hQ⟩, -⟩ := h
  exact hQ.lt
abbrev obAt (g : GG) (B : Nat) (H : Heap) : Prop := pt g B (.inr (ci_BP, [.ref (B + 1), .ref (B + 13), .ref (B + 144), .ref (B + 156)])) H
def bAt (g : GG) (B : Nat) (cnt : Nat → Nat) (f : Nat → Nat → Nat) (D : DT) (y : YS) (H : Heap) : Prop :=
  obAt g B H ∧ aAt g (B + 13) (B + 1) 40 cnt f D B (B + 287) y H ∧ (∃ k, k ≤ 121 ∧ y.2.2.1 = nI k) ∧ ∃ cnt2 f2 D2 y2, aAt g (B + 156) (B + 144) 60 cnt2 f2 D2 B (B + 287) y2 H
theorem rea_ext {c k : Nat} {S : IS} {Q1 Q2 : Nat → Int32} (h : ∀ t, t < k → Q1 t = Q2 t) (a : Int32) : (rea c (S, k, Q1) a).1 = (rea c (S, k, Q2) a).1 ∧ (rea c (S, k, Q1) a).2.1 = (rea c (S, k, Q2) a).2.1 ∧ ∀ t, t < (rea c (S, k, Q1) a).2.1 → (rea c (S, k, Q1) a).2.2 t = (rea c (S, k, Q2) a).2.2 t := by
  unfold rea
  cases iaO c a with
  | none => exact ⟨rfl, rfl, h⟩
  | some j =>
    by_cases z : S.1 15 j = 0 ∧ folF S j ∧ k < 121
    · dsimp only
      rw [if_pos z, if_pos z]
      refine ⟨rfl, rfl, fun t ht => ?_⟩
      change t < k + 1 at ht
      show upd Q1 k _ t = upd Q2 k _ t
      unfold upd
      by_cases e : t = k
      · rw [if_pos e, if_pos e]
      · rw [if_neg e, if_neg e]
        exact h t (by omega)
    · dsimp only
      rw [if_neg z, if_neg z]
      exact ⟨rfl, rfl, h⟩
theorem fol_ext {c : Nat} : ∀ (n i : Nat) (S : IS) (k : Nat) (Q1 Q2 : Nat → Int32), (∀ t, t < k → Q1 t = Q2 t) → (fol c n i (S, k, Q1)).1 = (fol c n i (S, k, Q2)).1 ∧ (fol c n i (S, k, Q1)).2.1 = (fol c n i (S, k, Q2)).2.1
  | 0, _, _, _, _, _, _ => ⟨rfl, rfl⟩
  | n + 1, i, S, k, Q1, Q2, h => by
    simp only [fol]
    by_cases hi : i < k
    · rw [if_pos hi, if_pos hi, ← h i hi]
      cases iaO c (Q1 i) with
      | none => exact ⟨rfl, rfl⟩
      | some j =>
        simp only
        have e1 : ∃ S1 k1 P1 P2, (if S.1 0 j = 3 then (S, k, Q1) else rea c (S, k, Q1) (Q1 i + 1)) = (S1, k1, P1) ∧ (if S.1 0 j = 3 then (S, k, Q2) else rea c (S, k, Q2) (Q1 i + 1)) = (S1, k1, P2) ∧ ∀ t, t < k1 → P1 t = P2 t := by
          by_cases z : S.1 0 j = 3
          · exact ⟨S, k, Q1, Q2, by simp [z], by simp [z], h⟩
          · obtain ⟨a, b, d⟩ := rea_ext (c := c) (S := S) h (Q1 i + 1)
            exact ⟨(rea c (S, k, Q1) (Q1 i + 1)).1, (rea c (S, k, Q1) (Q1 i + 1)).2.1, (rea c (S, k, Q1) (Q1 i + 1)).2.2, (rea c (S, k, Q2) (Q1 i + 1)).2.2, if_neg z, (if_neg z).trans (Prod.ext a.symm (Prod.ext b.symm rfl)), d⟩
        obtain ⟨S1, k1, P1, P2, e1, e2, e3⟩ := e1
        rw [e1, e2]
        by_cases z : brF S1 j
        · rw [if_pos z, if_pos z]
          obtain ⟨a, b, d⟩ := rea_ext (c := c) (S := S1) e3 (fwF S1 c (valF S1 j))
          have := fol_ext (c := c) n (i + 1) (rea c (S1, k1, P1) (fwF S1 c (valF S1 j))).1 (rea c (S1, k1, P1) (fwF S1 c (valF S1 j))).2.1 (rea c (S1, k1, P1) (fwF S1 c (valF S1 j))).2.2 (rea c (S1, k1, P2) (fwF S1 c (valF S1 j))).2.2 d
          rw [show rea c (S1, k1, P2) (fwF S1 c (valF S1 j)) = ((rea c (S1, k1, P1) (fwF S1 c (valF S1 j))).1, (rea c (S1, k1, P1) (fwF S1 c (valF S1 j))).2.1, (rea c (S1, k1, P2) (fwF S1 c (valF S1 j))).2.2) from Prod.ext a.symm (Prod.ext b.symm rfl)]
          exact this
        · rw [if_neg z, if_neg z]
          exact fol_ext (c := c) n (i + 1) S1 k1 P1 P2 e3
    · rw [if_neg hi, if_neg hi]
      exact ⟨rfl, rfl⟩
def flw (y : YS) : QS := flwF y (fun _ => 0)
theorem flw_any (y : YS) (Qf : Nat → Int32) : (flwF y Qf).1 = (flw y).1 ∧ (flwF y Qf).2.1 = (flw y).2.1 := by
  unfold flw flwF
  obtain ⟨a, b, d⟩ := rea_ext (c := y.2.1) (k := 0) (S := y.1) (Q1 := Qf) (Q2 := fun _ => 0) (fun t ht => absurd ht (Nat.not_lt_zero t)) 0
  have := fol_ext (c := y.2.1) 121 0 (rea y.2.1 (y.1, 0, Qf) 0).1 (rea y.2.1 (y.1, 0, Qf) 0).2.1 (rea y.2.1 (y.1, 0, Qf) 0).2.2 (rea y.2.1 (y.1, 0, fun _ => 0) 0).2.2 d
  rw [show rea y.2.1 (y.1, 0, fun _ => 0) 0 = ((rea y.2.1 (y.1, 0, Qf) 0).1, (rea y.2.1 (y.1, 0, Qf) 0).2.1, (rea y.2.1 (y.1, 0, fun _ => 0) 0).2.2) from Prod.ext a.symm (Prod.ext b.symm rfl)]
  exact this
theorem flw_le (y : YS) (Qf : Nat → Int32) : (flwF y Qf).2.1 ≤ 121 := by
  have hf : ∀ (c n i : Nat) (s : QS), s.2.1 ≤ 121 → (fol c n i s).2.1 ≤ 121 := by
    intro c n
    induction n with
    | zero => intro i s h; exact h
    | succ n ih =>
      intro i s h
      simp only [fol]
      split
      · split
        · exact h
        · apply ih
          have h1 : ∀ j : Nat, (if s.1.1 0 j = 3 then s else rea c s (s.2.2 i + 1)).2.1 ≤ 121 := fun j => by split; exact h; exact rea_le h
          have h2 : ∀ (j : Nat) (s' : QS), s'.2.1 ≤ 121 → (if brF s'.1 j then rea c s' (fwF s'.1 c (valF s'.1 j)) else s').2.1 ≤ 121 := fun j s' q => by
            split
            · exact rea_le q
            · exact q
          exact h2 _ _ (h1 _)
      · exact h
  exact hf _ _ _ _ (rea_le (Nat.zero_le _))
/-- what assembling and following make of the press's own source -/
def nowF (D : DT) (cnt : Nat → Nat) (y : YS) : YS := ((flw (asmF D cnt y)).1, (asmF D cnt y).2.1, nI (flw (asmF D cnt y)).2.1, (asmF D cnt y).2.2.2)
def dl (k x y z r : Int32) : Nat → Int32 := fun t => match t with | 0 => k | 1 => x | 2 => y | 3 => z | _ => r
theorem asmF_q (D : DT) (cnt : Nat → Nat) (y : YS) : (asmF D cnt y).2.2.1 = y.2.2.1 := by
  unfold asmF asmX
  split
  · unfold asmL
    split
    · rfl
    · unfold asmT faiF
      split <;> rfl
  · rfl
def ofiF (S : IS) (j : Nat) (k : Int32) : Int32 := if k = 0 then S.1 0 j else if k = 1 then S.1 12 j else if k = 2 then S.1 13 j else if k = 3 then S.1 5 j else if k = 4 then S.1 6 j else if k = 5 then S.1 3 j else if k = 6 then (if S.1 14 j = 0 then 0 else 1) else (if S.1 15 j = 0 then 0 else 1)
