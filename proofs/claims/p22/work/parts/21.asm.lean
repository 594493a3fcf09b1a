-- ASSEMBLING
abbrev asAt (g : GG) (w : Nat) (qd fn fl rd : Int32) (H : Heap) : Prop := pt g w (.inr (ci_Assembly, [.ref (w + 1), .ref (w + 124), .ref (w + 129), .ref (w + 130), .int qd, .int fn, .int fl, .int rd])) H
abbrev quAt (g : GG) (w : Nat) (Qf : Nat → Int32) (H : Heap) : Prop := pt g (w + 130) (.inl (g.2 0, 121, .inl Qf)) H
abbrev poAt (g : GG) (w : Nat) (H : Heap) : Prop := lnAt g (w + 129) 6 (-1) (-1) 0 0 H
/-- items, how many, queued, fault, its line, rounds -/
abbrev YS : Type := IS × Nat × Int32 × Int32 × Int32 × Int32
def aAt (g : GG) (w so cap0 : Nat) (cnt : Nat → Nat) (f : Nat → Nat → Nat) (D : DT) (lo hi : Nat) (y : YS) (H : Heap) : Prop :=
  asAt g w y.2.2.1 y.2.2.2.1 y.2.2.2.2.1 y.2.2.2.2.2 H ∧ poAt g w H ∧ (∃ Qf, quAt g w Qf H) ∧ (∃ x fn ml, exAt g w so x fn ml H) ∧ iAt g (w + 1) y.2.1 y.1 H ∧ (∃ N, nAt g (w + 125) N H) ∧ sAt g so cap0 cnt f D lo hi H ∧ y.2.1 ≤ 121 ∧ (so + 12 ≤ w ∨ w + 131 ≤ so) ∧ lo ≤ w ∧ w + 131 ≤ hi
abbrev zF (w : Nat) : Nat → Prop := fun q => w ≤ q ∧ q < w + 131
def failF (y : YS) (n ln : Int32) : YS := (y.1, 0, y.2.2.1, n, ln, y.2.2.2.2.2)
def faiF (y : YS) (n it : Int32) : YS := match iaO y.2.1 it with | none => y | some j => failF y n (y.1.1 5 j)
def rnd (c : Nat) : Nat → Nat → Int32 → IS → IS × Nat
  | 0, j, _, S => (S, j)
  | n + 1, j, b, S => if b = 0 then (S, j) else rnd c n (j + 1) (lng c 0 (plc c 0 S 0) 0).2 (lng c 0 (plc c 0 S 0) 0).1
def asmT (S : IS) (c : Nat) (qd : Int32) : YS :=
  faiF ((rnd c 121 0 1 S).1, c, qd, 0, -1, nI (rnd c 121 0 1 S).2) 6 (ffl (rnd c 121 0 1 S).1 c 0)
def asmL (S : IS) (c : Nat) (qd : Int32) : YS :=
  match iaO c (lkv c c 0 S).2 with
  | some j => failF ((lkv c c 0 S).1, c, qd, 0, -1, 0) 5 ((lkv c c 0 S).1.1 5 j)
  | none => asmT (lkp c 0 (lkv c c 0 S).1 0 0) c qd
def asmX (s : XS) (qd : Int32) : YS :=
  if s.2.2.2.2.1 = 0 then asmL (telS s.1 s.2.1 6 (-1) (-1) 0 0 (-1) 0) (s.2.1 + 1) qd else failF (s.1, s.2.1, qd, 0, -1, 0) s.2.2.2.2.1 s.2.2.2.2.2
/-- what assembling makes -/
def asmF (D : DT) (cnt : Nat → Nat) (y : YS) : YS := asmX (xCall D cnt 6 0 0 (y.1, 0, nn0, 0, 0, 0)) y.2.2.1
def wofF (y : YS) : Int32 := if y.2.2.2.1 = 0 then tal y.1 3 y.2.1 0 0 else -10 - y.2.2.2.1
def aQt (g : GG) (w so cap0 : Nat) (cnt : Nat → Nat) (f : Nat → Nat → Nat) (D : DT) (lo hi : Nat) (y : YS) (Qf : Nat → Int32) (H : Heap) : Prop :=
  asAt g w y.2.2.1 y.2.2.2.1 y.2.2.2.2.1 y.2.2.2.2.2 H ∧ poAt g w H ∧ quAt g w Qf H ∧ (∃ x fn ml, exAt g w so x fn ml H) ∧ iAt g (w + 1) y.2.1 y.1 H ∧ (∃ N, nAt g (w + 125) N H) ∧ sAt g so cap0 cnt f D lo hi H ∧ y.2.1 ≤ 121 ∧ (so + 12 ≤ w ∨ w + 131 ≤ so) ∧ lo ≤ w ∧ w + 131 ≤ hi
/-- items, how many are in the queue, the queue -/
abbrev QS : Type := IS × Nat × (Nat → Int32)
def rea (c : Nat) (s : QS) (at_ : Int32) : QS := match iaO c at_ with | none => s | some j => if s.1.1 15 j = 0 ∧ folF s.1 j ∧ s.2.1 < 121 then (sI s.1 15 j 1, s.2.1 + 1, upd s.2.2 s.2.1 at_) else s
theorem rea_le {c : Nat} {s : QS} {a : Int32} (h : s.2.1 ≤ 121) : (rea c s a).2.1 ≤ 121 := by
  unfold rea
  split
  · exact h
  · split
    · rename_i z
      exact z.2.2
    · exact h
def fol (c : Nat) : Nat → Nat → QS → QS
  | 0, _, s => s
  | n + 1, i, s => if i < s.2.1 then (match iaO c (s.2.2 i) with
    | none => s
    | some j =>
      let s1 := if s.1.1 0 j = 3 then s else rea c s (s.2.2 i + 1)
      fol c n (i + 1) (if brF s1.1 j then rea c s1 (fwF s1.1 c (valF s1.1 j)) else s1)) else s
def flwF (y : YS) (Qf : Nat → Int32) : QS := fol y.2.1 121 0 (rea y.2.1 (y.1, 0, Qf) 0)
