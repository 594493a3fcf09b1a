-- THE NAMES
abbrev NS : Type := (Nat → Int32) × (Nat → Int32) × (Nat → Int32)
def nAt (g : GG) (b : Nat) (N : NS) (H : Heap) : Prop := pt g b (.inr (ci_Names, [.ref (b + 1), .ref (b + 2), .ref (b + 3)])) H ∧ pt g (b + 1) (.inl (g.2 1, 8, .inl N.1)) H ∧ pt g (b + 2) (.inl (g.2 1, 8, .inl N.2.1)) H ∧ pt g (b + 3) (.inl (g.2 0, 8, .inl N.2.2)) H
abbrev nF (b : Nat) : Nat → Prop := fun q => b ≤ q ∧ q < b + 4
theorem nAt.keep {g : GG} {b : Nat} {N : NS} {H H1 : Heap} (h : nAt g b N H) (hq : ∀ q, b ≤ q → q < b + 4 → H1[q]? = H[q]?) : nAt g b N H1 :=
  ⟨h.1.kept (hq _ (by omega) (by omega)), h.2.1.kept (hq _ (by omega) (by omega)), h.2.2.1.kept (hq _ (by omega) (by omega)), h.2.2.2.kept (hq _ (by omega) (by omega))⟩
theorem nAt.p1 {g : GG} {b : Nat} {N : NS} {H H1 : Heap} {f : Nat → Int32} (h : nAt g b N H) (hp : pt g (b + 1) (.inl (g.2 1, 8, .inl f)) H1) (hc : chg (b + 1) H H1) : nAt g b (f, N.2) H1 := ⟨h.1.off hc (by omega), hp, h.2.2.1.off hc (by omega), h.2.2.2.off hc (by omega)⟩
theorem nAt.p2 {g : GG} {b : Nat} {N : NS} {H H1 : Heap} {f : Nat → Int32} (h : nAt g b N H) (hp : pt g (b + 2) (.inl (g.2 1, 8, .inl f)) H1) (hc : chg (b + 2) H H1) : nAt g b (N.1, f, N.2.2) H1 := ⟨h.1.off hc (by omega), h.2.1.off hc (by omega), hp, h.2.2.2.off hc (by omega)⟩
theorem nAt.p3 {g : GG} {b : Nat} {N : NS} {H H1 : Heap} {f : Nat → Int32} (h : nAt g b N H) (hp : pt g (b + 3) (.inl (g.2 0, 8, .inl f)) H1) (hc : chg (b + 3) H H1) : nAt g b (N.1, N.2.1, f) H1 := ⟨h.1.off hc (by omega), h.2.1.off hc (by omega), h.2.2.1.off hc (by omega), hp⟩
theorem nAt.ext {g : GG} {b : Nat} {N N' : NS} {H : Heap} (h : nAt g b N H) (h1 : ∀ i, i < 8 → N.1 i = N'.1 i) (h2 : ∀ i, i < 8 → N.2.1 i = N'.2.1 i) (h3 : ∀ i, i < 8 → N.2.2 i = N'.2.2 i) : nAt g b N' H := ⟨h.1, h.2.1.arrI h1, h.2.2.1.arrI h2, h.2.2.2.arrI h3⟩
theorem vin {n : Nat} (hn : n < 2 ^ 31) {x : Int32} (h0 : ¬ x < 0) (h1 : ¬ nI n ≤ x) : vp_in x n := by
  rcases pk_ix x hn with z | z | ⟨j, hj, rfl⟩
  · exact absurd z h0
  · exact absurd z h1
  · exact vp_in_nI hj hn
theorem vin8 {x : Int32} (h0 : ¬ x < 0) (h1 : ¬ 8 ≤ x) : vp_in x 8 := vin (n := 8) (by omega) h0 h1
abbrev inN (x : Int32) : Prop := 0 ≤ x ∧ x < 8
abbrev islF (N : NS) (x : Int32) : Prop := inN x ∧ ¬ N.1 x.toNatClampNeg = 0
abbrev issF (N : NS) (x : Int32) : Prop := inN x ∧ ¬ N.2.1 x.toNatClampNeg = 0
abbrev nosF (N : NS) (x : Int32) : Prop := x = -1 ∨ issF N x
def sofF (N : NS) (x : Int32) : Int32 := if issF N x then N.2.2 x.toNatClampNeg else 0
def notl (N : NS) (x : Int32) : NS := if inN x then (upd N.1 x.toNatClampNeg 1, N.2) else N
def nots (N : NS) (x v : Int32) : NS := if inN x then (N.1, upd N.2.1 x.toNatClampNeg 1, upd N.2.2 x.toNatClampNeg v) else N
def nn0 : NS := (fun _ => 0, fun _ => 0, fun _ => 0)
-- what a LINE may be
abbrev xOk (k x : Int32) : Prop := if k = 0 then 0 ≤ x ∧ x ≤ 9 else if k = 1 then 0 ≤ x ∧ x < 8 else if k = 2 ∨ k = 3 ∨ k = 4 then -1 ≤ x ∧ x ≤ 11 else if k = 8 then -1 ≤ x ∧ x < 8 else if k = 10 then 0 < x ∧ x < 5 else x = -1
abbrev yOk (k y : Int32) : Prop := if k = 1 ∨ k = 8 then -1 ≤ y ∧ y < 8 else if k = 2 then -1 ≤ y ∧ y ≤ 11 else y = -1
abbrev nOk (k n : Int32) : Prop := if k = 0 ∨ k = 6 ∨ k = 9 then n = 0 else if k = 7 then n = 2 ∨ n = 4 ∨ n = 8 else -99 ≤ n ∧ n ≤ 99
abbrev rOk (k : Int32) : Prop := ¬ k = 0 ∧ ¬ k = 6 ∧ ¬ k = 9 ∧ ¬ k = 7
abbrev lnOk (k x y z r : Int32) : Prop := (0 ≤ k ∧ k ≤ 10) ∧ xOk k x ∧ yOk k y ∧ nOk k z ∧ (r = 0 ∨ rOk k)
abbrev itmF (k : Int32) : Prop := ¬ k = 8 ∧ ¬ k = 9 ∧ ¬ k = 10
