-- THE ITEMS: one object, its array, 121 cells behind one another
theorem ne_toInt {x : Int32} {k : Int} (v : Int32) (hv : v.toInt = k) (h : ¬ x = v) : x.toInt ≠ k := fun e => h (Int32.toInt_inj.mp (e.trans hv.symm))
def b2i (p : Prop) [Decidable p] : Int32 := if p then 1 else 0
theorem b2i_t {p : Prop} [Decidable p] (h : p) : b2i p = 1 := if_pos h
theorem b2i_f {p : Prop} [Decidable p] (h : ¬ p) : b2i p = 0 := if_neg h
theorem b2i_0 {p : Prop} [Decidable p] : b2i p = 0 ↔ ¬ p := by unfold b2i; by_cases h : p <;> simp [h]
theorem b2i_1 {p : Prop} [Decidable p] : b2i p = 1 ↔ p := by unfold b2i; by_cases h : p <;> simp [h]
theorem b2i_n0 {p : Prop} [Decidable p] (h : ¬ b2i p = 0) : p := Decidable.byContradiction fun n => h (b2i_0.mpr n)
theorem b2i_nar {p : Prop} [Decidable p] : narrow .boolean (.int (b2i p)) = .int (b2i p) := by unfold b2i; by_cases h : p <;> simp [h] <;> rfl
theorem ok_Item : clsOK R_Item T_Item 16 ci_Item ty_Item := ⟨rfl, in_Item, tyok_Item, nm_Item, by decide +kernel⟩
theorem ok_Items : clsOK R_Items T_Items 2 ci_Items ty_Items := ⟨rfl, in_Items, tyok_Items, nm_Items, by decide +kernel⟩
theorem ok_Line : clsOK R_Line T_Line 5 ci_Line ty_Line := ⟨rfl, in_Line, tyok_Line, nm_Line, by decide +kernel⟩
theorem ok_Names : clsOK R_Names T_Names 3 ci_Names ty_Names := ⟨rfl, in_Names, tyok_Names, nm_Names, by decide +kernel⟩
theorem ok_Row : clsOK R_Row T_Row 2 ci_Row ty_Row := ⟨rfl, in_Row, tyok_Row, nm_Row, by decide +kernel⟩
theorem ok_Source : clsOK R_Source T_Source 1 ci_Source ty_Source := ⟨rfl, in_Source, tyok_Source, nm_Source, by decide +kernel⟩
theorem ok_Expander : clsOK R_Expander T_Expander 6 ci_Expander ty_Expander := ⟨rfl, in_Expander, tyok_Expander, nm_Expander, by decide +kernel⟩
theorem ok_Assembly : clsOK R_Assembly T_Assembly 8 ci_Assembly ty_Assembly := ⟨rfl, in_Assembly, tyok_Assembly, nm_Assembly, by decide +kernel⟩
theorem ok_BP : clsOK R_BP T_BP 4 ci_BP ty_BP := ⟨rfl, in_BP, tyok_BP, nm_BP, by decide +kernel⟩
/-- of each ITEM its numbers, by the number of the field, and the ITEMS that it names -/
abbrev IS : Type := (Nat → Nat → Int32) × (Nat → Nat → Option Nat)
def ir (a : Nat) (o : Option Nat) : Value := va_rf (o.map (fun j => a + 2 + j))
theorem ir_n (a : Nat) : ir a none = .null := rfl
theorem ir_s (a j : Nat) : ir a (some j) = .ref (a + 2 + j) := rfl
def iv (a : Nat) (S : IS) (i : Nat) : List Value := [.int (S.1 0 i), .int (S.1 1 i), .int (S.1 2 i), .int (S.1 3 i), .int (S.1 4 i), .int (S.1 5 i), .int (S.1 6 i), ir a (S.2 7 i), ir a (S.2 8 i), ir a (S.2 9 i), .int (S.1 10 i), .int (S.1 11 i), .int (S.1 12 i), .int (S.1 13 i), .int (S.1 14 i), .int (S.1 15 i)]
def sI (S : IS) (k i : Nat) (v : Int32) : IS := (fun f j => if f = k ∧ j = i then v else S.1 f j, S.2)
def sR (S : IS) (k i : Nat) (o : Option Nat) : IS := (S.1, fun f j => if f = k ∧ j = i then o else S.2 f j)
theorem iv_sI_ne {a i j k : Nat} {S : IS} {v : Int32} (h : j ≠ i) : iv a (sI S k i v) j = iv a S j := by simp [iv, sI, h]
theorem iv_sR_ne {a i j k : Nat} {S : IS} {o : Option Nat} (h : j ≠ i) : iv a (sR S k i o) j = iv a S j := by simp [iv, sR, h]
abbrev iArr (g : GG) (a : Nat) (H : Heap) : Prop := pt g (a + 1) (.inl (g.2 4, 121, .inr (.inr (.inr (.inr (fun i => some (a + 2 + i))))))) H
def iAt (g : GG) (a c : Nat) (S : IS) (H : Heap) : Prop :=
  pt g a (.inr (ci_Items, [.ref (a + 1), .int (nI c)])) H ∧ iArr g a H ∧ (∀ i, i < 121 → pt g (a + 2 + i) (.inr (ci_Item, iv a S i)) H) ∧ ∀ k i j, i < 121 → S.2 k i = some j → j < 121
abbrev iF (a : Nat) : Nat → Prop := fun q => a ≤ q ∧ q < a + 123
theorem iAt.keep {g : GG} {a c : Nat} {S : IS} {H H1 : Heap} (h : iAt g a c S H) (hq : ∀ q, a ≤ q → q < a + 123 → H1[q]? = H[q]?) : iAt g a c S H1 :=
  ⟨h.1.kept (hq _ (by omega) (by omega)), h.2.1.kept (hq _ (by omega) (by omega)), fun i hi => (h.2.2.1 i hi).kept (hq _ (by omega) (by omega)), h.2.2.2⟩
theorem iAt.lt {g : GG} {a c : Nat} {S : IS} {H : Heap} (h : iAt g a c S H) : a + 122 < H.size := (h.2.2.1 120 (by omega)).lt
/-- behind the writing of an ITEM's cell -/
theorem iAt.put {g : GG} {a c i : Nat} {S S' : IS} {H H1 : Heap} {fs : List Value} (h : iAt g a c S H) (hi : i < 121) (hp : pt g (a + 2 + i) (.inr (ci_Item, fs)) H1) (hc : chg (a + 2 + i) H H1) (e : fs = iv a S' i) (eo : ∀ j, j ≠ i → iv a S' j = iv a S j) (hw : ∀ k i j, i < 121 → S'.2 k i = some j → j < 121) : iAt g a c S' H1 := by
  refine ⟨h.1.off hc (by omega), h.2.1.off hc (by omega), fun j hj => ?_, hw⟩
  by_cases z : j = i
  · subst z
    rw [← e]
    exact hp
  · rw [eo j z]
    exact (h.2.2.1 j hj).off hc (by omega)
theorem iAt.pI {g : GG} {a c i k : Nat} {S : IS} {H H1 : Heap} {fs : List Value} {v : Int32} (h : iAt g a c S H) (hi : i < 121) (hp : pt g (a + 2 + i) (.inr (ci_Item, fs)) H1) (hc : chg (a + 2 + i) H H1) (e : fs = iv a (sI S k i v) i) : iAt g a c (sI S k i v) H1 :=
  h.put hi hp hc e (fun _ hj => iv_sI_ne hj) h.2.2.2
theorem iAt.pR {g : GG} {a c i k : Nat} {S : IS} {H H1 : Heap} {fs : List Value} {o : Option Nat} (h : iAt g a c S H) (hi : i < 121) (ho : ∀ j, o = some j → j < 121) (hp : pt g (a + 2 + i) (.inr (ci_Item, fs)) H1) (hc : chg (a + 2 + i) H H1) (e : fs = iv a (sR S k i o) i) : iAt g a c (sR S k i o) H1 :=
  h.put hi hp hc e (fun _ hj => iv_sR_ne hj) (fun f i' j hi' hj => by
    simp only [sR] at hj
    split at hj
    · exact ho j hj
    · exact h.2.2.2 f i' j hi' hj)
/-- the number of ITEMS is written -/
theorem iAt.pC {g : GG} {a c c' : Nat} {S : IS} {H H1 : Heap} {fs : List Value} (h : iAt g a c S H) (hp : pt g a (.inr (ci_Items, fs)) H1) (hc : chg a H H1) (e : fs = [.ref (a + 1), .int (nI c')]) : iAt g a c' S H1 :=
  ⟨e ▸ hp, h.2.1.off hc (by omega), fun i hi => (h.2.2.1 i hi).off hc (by omega), h.2.2.2⟩
-- what the methods of an ITEM answer
abbrev brF (S : IS) (i : Nat) : Prop := S.1 0 i = 3 ∨ S.1 0 i = 4
def gvF (S : IS) (o : Option Nat) : Int32 := match o with | none => 0 | some j => S.1 4 j
def valF (S : IS) (i : Nat) : Int32 := S.1 3 i + gvF S (S.2 7 i) - gvF S (S.2 8 i)
def dstF (S : IS) (i : Nat) : Int32 := valF S i - (S.1 12 i + 1)
abbrev nearF (S : IS) (i : Nat) : Prop := -8 ≤ dstF S i ∧ dstF S i ≤ 7
def abvF (S : IS) (i : Nat) : Int32 := match S.2 9 i with | none => 0 | some j => S.1 12 j + S.1 10 i - S.1 12 i
abbrev folF (S : IS) (i : Nat) : Prop := (S.1 0 i = 6 ∨ S.1 0 i = 7) ∧ S.1 13 i = 0 ∨ ¬ (S.1 0 i = 6 ∨ S.1 0 i = 7) ∧ ¬ S.1 0 i = 2
def szF (S : IS) (i : Nat) (st : Int32) : Int32 :=
  if S.1 0 i = 2 ∨ S.1 0 i = 5 then 1 else if S.1 0 i = 3 then (if S.1 14 i = 0 then 1 else 2) else if S.1 0 i = 4 then (if S.1 14 i = 0 then 1 else 3) else if S.1 0 i = 6 then S.1 11 i else
  if S.1 0 i = 7 then (if 0 < S.1 3 i then (S.1 3 i - (st - st / S.1 3 i * S.1 3 i)) - (S.1 3 i - (st - st / S.1 3 i * S.1 3 i)) / S.1 3 i * S.1 3 i else 0) else 0
def bwF (S : IS) (i : Nat) (o : Int32) : Int32 :=
  if S.1 14 i = 0 then (if S.1 0 i = 4 then 4008 else 3008) + dstF S i else
  let oj := if S.1 0 i = 4 then o - 1 else o
  if oj < 0 then 4100 else if oj = 0 then 3100 else valF S i
def shF (S : IS) (i : Nat) (w : Int32) : Int32 :=
  if w = 2 then 1 else if w = 3 then S.1 13 i else if w = 4 then b2i (brF S i) else if w = 5 then (if S.1 14 i = 0 then 0 else 1) else if w = 7 then b2i (S.1 0 i = 5) else
  if w = 8 then (if S.1 0 i = 6 then S.1 13 i else 0) else if w = 9 then (if S.1 0 i = 7 then S.1 13 i else 0) else if w = 10 then (if S.1 15 i = 0 then 0 else S.1 13 i) else
  if w = 11 then (if S.1 15 i = 0 ∧ (brF S i ∨ S.1 0 i = 5) then S.1 13 i else 0) else 0
def telS (S : IS) (i : Nat) (k x y n says ml dp : Int32) : IS :=
  (fun f j => if j = i then (if f = 0 then k else if f = 1 then x else if f = 2 then y else if f = 3 then n else if f = 4 then says else if f = 5 then ml else if f = 6 then dp else 0) else S.1 f j, fun f j => if j = i then none else S.2 f j)
/-- a LINE's cell -/
abbrev lnAt (g : GG) (q : Nat) (k x y n r : Int32) (H : Heap) : Prop := pt g q (.inr (ci_Line, [.int k, .int x, .int y, .int n, .int r])) H
