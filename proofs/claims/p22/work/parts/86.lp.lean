-- THE LAW'S PRESS WHOLE: its cell, its rows, the class's object, that they are alike
section KINDS
variable {g : GG} {s : State} {H : Heap}
theorem ln_obj (K : KK g s) {q : Nat} {vs fs : List Value} (h1 : pt g q (.inr (ci_Line, vs)) H) (h2 : pt g q (.inr (ci_Press, fs)) H) : False := by
  obtain ⟨r1, e1, c1, a1, a2, -⟩ := h1
  obtain ⟨r2, e2, c2, b1, b2, -⟩ := h2
  cases a1.symm.trans b1
  have f1 := ((K.1.1 4 _ rfl).2).1
  have f2 := ((K.1.1 9 _ rfl).2).1
  obtain ⟨k1, g1, n1⟩ := Vm.findClass_spec f1
  obtain ⟨k2, g2, n2⟩ := Vm.findClass_spec f2
  have e : g.1.1 4 = g.1.1 9 := a2.symm.trans b2
  rw [e] at g1
  cases g1.symm.trans g2
  exact absurd (n1.symm.trans n2) (by decide +kernel)
theorem ln_arr (K : KK g s) (t0 : Nat) {q n : Nat} {cA : ClassId} {ty : FieldType} {vs : List Value} {x : vp_A} {z : Nat → Value} (ht : (vtys g)[t0]? = some (cA, ty)) (hx : vp_cell cA x = arrV cA n z) (h1 : pt g q (.inr (ci_Line, vs)) H) (h2 : pt g q (.inl (cA, x)) H) : False := by
  obtain ⟨r1, e1, c1, a1, a2, -⟩ := h1
  have h2 : H[q]? = some (vp_cell cA x) := h2
  rw [hx] at h2
  cases a1.symm.trans h2
  obtain ⟨-, -, kC, hk, hkind⟩ := K.1.1 4 _ rfl
  obtain ⟨-, k2, hk2, comp, hkind2⟩ := (K.1.2 t0 _ ht).1 n z
  have a2 : cA = g.1.1 4 := a2
  have hk2 : s.vm.classes[cA]? = some k2 := hk2
  rw [a2] at hk2
  cases hk.symm.trans hk2
  rw [hkind] at hkind2
  cases hkind2
end KINDS
section FRAMES
variable {g : GG} {A : Nat → Prop} {H H1 : Heap}
theorem sAt.frameK {so cap0 lo hi : Nat} {cnt : Nat → Nat} {f : Nat → Nat → Nat} {D : DT} (h : sAt g so cap0 cnt f D lo hi H) (hf : fr A H H1) (hA : ∀ q, A q → ¬ (so ≤ q ∧ q < so + 12)) (hL : ∀ q, A q → ¬ isLn g q H) : sAt g so cap0 cnt f D lo hi H1 := by
  obtain ⟨h1, h2, h3, h4, h5, h6, h7, h8⟩ := h
  refine ⟨h1.fr hf (fun z => hA _ z ⟨by omega, by omega⟩), h2.fr hf (fun z => hA _ z ⟨by omega, by omega⟩), fun r hr => ⟨?_, (h3 r hr).2⟩, fun r i hr hi => ⟨(h4 r i hr hi).1.fr hf (fun z => hL _ z ⟨_, (h4 r i hr hi).1⟩), (h4 r i hr hi).2⟩, h5, h6, h7, h8⟩
  obtain ⟨⟨k1, F, k2, k3⟩, -⟩ := h3 r hr
  exact ⟨k1.fr hf (fun z => hA _ z ⟨by omega, by omega⟩), F, k2.fr hf (fun z => hA _ z ⟨by omega, by omega⟩), k3⟩
theorem aAt.frameK {w so cap0 lo hi : Nat} {cnt : Nat → Nat} {f : Nat → Nat → Nat} {D : DT} {y : YS} (h : aAt g w so cap0 cnt f D lo hi y H) (hf : fr A H H1) (hA : ∀ q, A q → ¬ (so ≤ q ∧ q < so + 12) ∧ ¬ (w ≤ q ∧ q < w + 131)) (hL : ∀ q, A q → ¬ isLn g q H) : aAt g w so cap0 cnt f D lo hi y H1 := by
  obtain ⟨hA', hP, ⟨Qf, hQ⟩, ⟨x, fn, ml, hE⟩, hI, ⟨N, hN⟩, hs, hc, h1, h2, h3⟩ := h
  exact ⟨hA'.fr hf (fun z => (hA _ z).2 ⟨by omega, by omega⟩), hP.fr hf (fun z => (hA _ z).2 ⟨by omega, by omega⟩), ⟨Qf, hQ.fr hf (fun z => (hA _ z).2 ⟨by omega, by omega⟩)⟩, ⟨x, fn, ml, hE.fr hf (fun z => (hA _ z).2 ⟨by omega, by omega⟩)⟩, hI.frame hf (fun q z y => (hA _ z).2 ⟨by omega, by omega⟩), ⟨N, hN.frame hf (fun q z y => (hA _ z).2 ⟨by omega, by omega⟩)⟩, hs.frameK hf (fun q z => (hA q z).1) hL, hc, h1, h2, h3⟩
theorem bAt.frK {B : Nat} {cnt : Nat → Nat} {f : Nat → Nat → Nat} {D : DT} {y : YS} (h : bAt g B cnt f D y H) (hf : fr A H H1) (hA : ∀ q, A q → ¬ (B ≤ q ∧ q < B + 287)) (hL : ∀ q, A q → ¬ isLn g q H) : bAt g B cnt f D y H1 := by
  obtain ⟨h1, h2, h3, cnt2, f2, D2, y2, h4⟩ := h
  exact ⟨h1.fr hf (fun z => hA _ z ⟨by omega, by omega⟩), h2.frameK hf (fun q z => ⟨fun y => hA q z ⟨by omega, by omega⟩, fun y => hA q z ⟨by omega, by omega⟩⟩) hL, h3, cnt2, f2, D2, y2, h4.frameK hf (fun q z => ⟨fun y => hA q z ⟨by omega, by omega⟩, fun y => hA q z ⟨by omega, by omega⟩⟩) hL⟩
end FRAMES
/-- the law's rows of LINES -/
def rwAt (g : GG) (RA : Nat) (cnt : Nat → Nat) (fR : Nat → Nat) (fL : Nat → Nat → Nat) (D : DT) (H : Heap) : Prop :=
  pt g RA (qarr (g.2 6) 5 (fun r => some (fR r))) H ∧ ∀ r, r < 5 → pt g (fR r) (qarr (g.2 5) (cnt r) (fun i => some (fL r i))) H ∧ ∀ i, i < cnt r → pt g (fL r i) (.inl (g.2 0, 5, .inl (D r i))) H
/-- where they lie -/
def spG (P B RA : Nat) (cnt : Nat → Nat) (fR : Nat → Nat) (fL : Nat → Nat → Nat) : Prop :=
  (P < B ∧ B + 287 ≤ RA) ∧ (∀ r, r < 5 → RA < fR r ∧ ∀ r2, r2 < 5 → fR r = fR r2 → r = r2) ∧ ∀ r i, r < 5 → i < cnt r → RA < fL r i ∧ ∀ r2, r2 < 5 → fL r i ≠ fR r2
/-- a LINE as it is told -/
abbrev isDl (d : Nat → Int32) : Prop := d = dl (d 0) (d 1) (d 2) (d 3) (d 4)
abbrev ln1 (d : Nat → Int32) : Prop := isDl d ∧ lnG d ∧ (d 4 = 0 ∨ d 4 = 1)
def liG (cnt : Nat → Nat) (D : DT) : Prop := ∀ r i, r < 5 → i < cnt r → ln1 (D r i)
def lawP (g : GG) (P B b RA : Nat) (V : Value × Value × Value) (d : Nat) (cnt : Nat → Nat) (f : Nat → Nat → Nat) (fR : Nat → Nat) (fL : Nat → Nat → Nat) (D : DT) (Y : YS) (H : Heap) : Prop :=
  prAt g P B b RA V d H ∧ rwAt g RA cnt fR fL D H ∧ bAt g B cnt f D Y H ∧ spG P B RA cnt fR fL ∧ liG cnt D ∧ OKY D cnt Y
theorem ln1_dl {k x y n v : Int32} (h : lnOk k x y n v) (hv : v = 0 ∨ v = 1) : ln1 (dl k x y n v) := ⟨rfl, h, hv⟩
section LPS
variable {g : GG} {P B b RA : Nat} {V : Value × Value × Value} {d : Nat} {cnt : Nat → Nat} {f : Nat → Nat → Nat} {fR : Nat → Nat} {fL : Nat → Nat → Nat} {D : DT} {Y : YS} {H H1 : Heap}
theorem bAt.cap (h : bAt g B cnt f D Y H) {r : Nat} (hr : r < 5) : cnt r ≤ capF 40 r := (h.2.1.s.2.2.1 r hr).2
theorem bAt.cap40 (h : bAt g B cnt f D Y H) {r : Nat} (hr : r < 5) : cnt r ≤ 40 := by
  have h1 := h.cap hr
  unfold capF at h1
  split at h1 <;> omega
theorem bAt.G (h : bAt g B cnt f D Y H) (hl : liG cnt D) : lnsG D cnt := fun r hr => ⟨by have := h.cap40 hr; omega, fun i hi => (hl r i hr hi).2.1⟩
theorem rwAt.frK {A : Nat → Prop} (h : rwAt g RA cnt fR fL D H) (hf : fr A H H1) (h1 : ¬ A RA) (h2 : ∀ r, r < 5 → ¬ A (fR r)) (h3 : ∀ r i, r < 5 → i < cnt r → ¬ A (fL r i)) : rwAt g RA cnt fR fL D H1 :=
  ⟨h.1.fr hf h1, fun r hr => ⟨(h.2 r hr).1.fr hf (h2 r hr), fun i hi => ((h.2 r hr).2 i hi).fr hf (h3 r i hr hi)⟩⟩
theorem rwAt.lo {A : Nat → Prop} (h : rwAt g RA cnt fR fL D H) (hs : spG P B RA cnt fR fL) (hf : fr A H H1) (hA : ∀ q, A q → q < RA) : rwAt g RA cnt fR fL D H1 :=
  h.frK hf (fun z => by have := hA _ z; omega) (fun r hr z => by have := hA _ z; have := (hs.2.1 r hr).1; omega) (fun r i hr hi z => by have := hA _ z; have := (hs.2.2 r i hr hi).1; omega)
/-- a row of LINES is another one -/
theorem rwAt.row (h : rwAt g RA cnt fR fL D H) (hs : spG P B RA cnt fR fL) {r q n : Nat} {fl : Nat → Nat} {d' : Nat → Nat → Int32} (hc : chg RA H H1) (hp : pt g RA (qarr (g.2 6) 5 (va_up (fun r => some (fR r)) r (some q))) H1) (hq : pt g q (qarr (g.2 5) n (fun i => some (fl i))) H) (hqR : q ≠ RA) (hel : ∀ i, i < n → pt g (fl i) (.inl (g.2 0, 5, .inl (d' i))) H ∧ fl i ≠ RA) : rwAt g RA (va_up cnt r n) (va_up fR r q) (va_up fL r fl) (va_up D r d') H1 := by
  refine ⟨hp.arrQ (fun i hi => ?_), fun r2 hr2 => ?_⟩
  · unfold va_up
    by_cases e : i = r
    · rw [if_pos e, if_pos e]
    · rw [if_neg e, if_neg e]
  · by_cases e : r2 = r
    · subst e
      rw [va_up_self, va_up_self, va_up_self, va_up_self]
      exact ⟨hq.off hc hqR, fun i hi => (hel i hi).1.off hc (hel i hi).2⟩
    · rw [va_up_ne _ _ e, va_up_ne _ _ e, va_up_ne _ _ e, va_up_ne _ _ e]
      exact ⟨(h.2 r2 hr2).1.off hc (by have := (hs.2.1 r2 hr2).1; omega), fun i hi => ((h.2 r2 hr2).2 i hi).off hc (by have := (hs.2.2 r2 i hr2 hi).1; omega)⟩
/-- a LINE of a row is another one -/
theorem rwAt.one (h : rwAt g RA cnt fR fL D H) (hs : spG P B RA cnt fR fL) {r t w : Nat} {d' : Nat → Int32} (hr : r < 5) (hc : chg (fR r) H H1) (hp : pt g (fR r) (qarr (g.2 5) (cnt r) (va_up (fun i => some (fL r i)) t (some w))) H1) (hw : pt g w (.inl (g.2 0, 5, .inl d')) H) (hwR : w ≠ fR r) : rwAt g RA cnt fR (va_up fL r (va_up (fL r) t w)) (va_up D r (va_up (D r) t d')) H1 := by
  refine ⟨h.1.off hc (by have := (hs.2.1 r hr).1; omega), fun r2 hr2 => ?_⟩
  by_cases e : r2 = r
  · subst e
    rw [va_up_self, va_up_self]
    refine ⟨hp.arrQ (fun i hi => ?_), fun i hi => ?_⟩
    · unfold va_up
      by_cases z : i = t
      · rw [if_pos z, if_pos z]
      · rw [if_neg z, if_neg z]
    · by_cases z : i = t
      · subst z
        rw [va_up_self, va_up_self]
        exact hw.off hc hwR
      · rw [va_up_ne _ _ z, va_up_ne _ _ z]
        exact ((h.2 r2 hr).2 i hi).off hc ((hs.2.2 r2 i hr hi).2 r2 hr)
  · rw [va_up_ne _ _ e, va_up_ne _ _ e]
    refine ⟨(h.2 r2 hr2).1.off hc (fun z => e ((hs.2.1 r2 hr2).2 r hr z)), fun i hi => ((h.2 r2 hr2).2 i hi).off hc ((hs.2.2 r2 i hr2 hi).2 r hr)⟩
theorem spG.row (hs : spG P B RA cnt fR fL) {r q n : Nat} {fl : Nat → Nat} (hr : r < 5) (hq : RA < q) (hqf : ∀ r2, r2 < 5 → fR r2 ≠ q) (hqL : ∀ r2 i, r2 < 5 → i < cnt r2 → fL r2 i ≠ q) (hl : ∀ i, i < n → RA < fl i ∧ fl i ≠ q ∧ ∀ r2, r2 < 5 → fl i ≠ fR r2) : spG P B RA (va_up cnt r n) (va_up fR r q) (va_up fL r fl) := by
  have hR : ∀ r2, r2 < 5 → ∀ x : Nat, x ≠ q → (∀ r3, r3 < 5 → x ≠ fR r3) → x ≠ va_up fR r q r2 := fun r2 hr2 x h1 h2 => by
    by_cases e : r2 = r
    · subst e; rw [va_up_self]; exact h1
    · rw [va_up_ne _ _ e]; exact h2 r2 hr2
  refine ⟨hs.1, fun r1 hr1 => ⟨?_, fun r2 hr2 z => ?_⟩, fun r1 i hr1 hi => ?_⟩
  · by_cases e : r1 = r
    · subst e; rw [va_up_self]; exact hq
    · rw [va_up_ne _ _ e]; exact (hs.2.1 r1 hr1).1
  · by_cases e : r1 = r <;> by_cases e2 : r2 = r
    · omega
    · subst e
      rw [va_up_self, va_up_ne _ _ e2] at z
      exact absurd z.symm (hqf r2 hr2)
    · subst e2
      rw [va_up_self, va_up_ne _ _ e] at z
      exact absurd z (hqf r1 hr1)
    · rw [va_up_ne _ _ e, va_up_ne _ _ e2] at z
      exact (hs.2.1 r1 hr1).2 r2 hr2 z
  · by_cases e : r1 = r
    · subst e
      rw [va_up_self] at hi
      rw [va_up_self]
      obtain ⟨a1, a2, a3⟩ := hl i hi
      exact ⟨a1, fun r2 hr2 => hR r2 hr2 _ a2 a3⟩
    · rw [va_up_ne _ _ e] at hi
      rw [va_up_ne _ _ e]
      obtain ⟨a1, a2⟩ := hs.2.2 r1 i hr1 hi
      exact ⟨a1, fun r2 hr2 => hR r2 hr2 _ (hqL r1 i hr1 hi) a2⟩
theorem spG.one (hs : spG P B RA cnt fR fL) {r t w : Nat} (hw : RA < w) (hwf : ∀ r2, r2 < 5 → w ≠ fR r2) : spG P B RA cnt fR (va_up fL r (va_up (fL r) t w)) := by
  refine ⟨hs.1, hs.2.1, fun r1 i hr1 hi => ?_⟩
  by_cases e : r1 = r
  · subst e
    rw [va_up_self]
    by_cases z : i = t
    · subst z; rw [va_up_self]; exact ⟨hw, hwf⟩
    · rw [va_up_ne _ _ z]; exact hs.2.2 r1 i hr1 hi
  · rw [va_up_ne _ _ e]; exact hs.2.2 r1 i hr1 hi
theorem liG.row (h : liG cnt D) {r n : Nat} {d' : Nat → Nat → Int32} (hd : ∀ i, i < n → ln1 (d' i)) : liG (va_up cnt r n) (va_up D r d') := fun r1 i hr1 hi => by
  by_cases e : r1 = r
  · subst e
    rw [va_up_self] at hi
    rw [va_up_self]
    exact hd i hi
  · rw [va_up_ne _ _ e] at hi
    rw [va_up_ne _ _ e]
    exact h r1 i hr1 hi
theorem liG.one (h : liG cnt D) {r t : Nat} {d' : Nat → Int32} (hd : ln1 d') : liG cnt (va_up D r (va_up (D r) t d')) := fun r1 i hr1 hi => by
  by_cases e : r1 = r
  · subst e
    rw [va_up_self]
    by_cases z : i = t
    · subst z; rw [va_up_self]; exact hd
    · rw [va_up_ne _ _ z]; exact h r1 i hr1 hi
  · rw [va_up_ne _ _ e]; exact h r1 i hr1 hi
theorem ins_all {α : Type} {p : α → Prop} {F : Nat → α} {n t : Nat} {v : α} (h : ∀ i, i < n → p (F i)) (hv : p v) (ht : t ≤ n) : ∀ i, i < n + 1 → p (insF F t v i) := fun i hi => by
  unfold insF
  split
  · exact h i (by omega)
  · split
    · exact hv
    · exact h (i - 1) (by omega)
theorem rem_all {α : Type} {p : α → Prop} {F : Nat → α} {n t : Nat} (h : ∀ i, i < n + 1 → p (F i)) : ∀ i, i < n → p (remF F t i) := fun i hi => by
  unfold remF
  split
  · exact h i (by omega)
  · exact h (i + 1) (by omega)
end LPS
/-- what an operation of the law's press ends in: true, and all is alike again -/
def opPv (g : GG) (P B b RA : Nat) (V : Value × Value × Value) (d0 k : Nat) : Option Value → Heap → Prop := fun w H1 => w = some (.int 1) ∧ ∃ d2 cnt f fR fL D Y, lawP g P B b RA V d2 cnt f fR fL D Y H1 ∧ d0 ≤ d2 ∧ d2 ≤ d0 + k
abbrev geA (P : Nat) : Nat → Prop := fun q => P ≤ q
