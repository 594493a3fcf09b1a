-- EXPANDING
theorem iAt.frame {g : GG} {a c : Nat} {S : IS} {A : Nat → Prop} {H H1 : Heap} (h : iAt g a c S H) (hf : fr A H H1) (hA : ∀ q, A q → ¬ (a ≤ q ∧ q < a + 123)) : iAt g a c S H1 :=
  h.keep (fun q h1 h2 => hf.2 q (by have := h.lt; omega) (fun z => hA q z ⟨h1, h2⟩))
theorem nAt.frame {g : GG} {b : Nat} {N : NS} {A : Nat → Prop} {H H1 : Heap} (h : nAt g b N H) (hf : fr A H H1) (hA : ∀ q, A q → ¬ (b ≤ q ∧ q < b + 4)) : nAt g b N H1 :=
  h.keep (fun q h1 h2 => hf.2 q (by have := h.2.2.2.lt; omega) (fun z => hA q z ⟨h1, h2⟩))
/-- items, how many, names, lines expanded, fault, line of MAIN -/
abbrev XS : Type := IS × Nat × NS × Int32 × Int32 × Int32
abbrev exAt (g : GG) (w so : Nat) (x fn ml : Int32) (H : Heap) : Prop := pt g (w + 124) (.inr (ci_Expander, [.ref so, .ref (w + 1), .ref (w + 125), .int x, .int fn, .int ml])) H
def xAt (g : GG) (w so cap0 : Nat) (cnt : Nat → Nat) (f : Nat → Nat → Nat) (D : DT) (lo hi : Nat) (s : XS) (H : Heap) : Prop :=
  exAt g w so s.2.2.2.1 s.2.2.2.2.1 s.2.2.2.2.2 H ∧ iAt g (w + 1) s.2.1 s.1 H ∧ nAt g (w + 125) s.2.2.1 H ∧ sAt g so cap0 cnt f D lo hi H ∧ s.2.1 ≤ 120 ∧ (so + 12 ≤ w ∨ w + 131 ≤ so) ∧ lo ≤ w ∧ w + 131 ≤ hi
abbrev wF (w : Nat) : Nat → Prop := fun q => w + 1 ≤ q ∧ q < w + 129
def xF (s : XS) (v : Int32) : XS := (s.1, s.2.1, s.2.2.1, s.2.2.2.1, v, s.2.2.2.2.2)
def xN (s : XS) (N : NS) : XS := (s.1, s.2.1, N, s.2.2.2.1, s.2.2.2.2.1, s.2.2.2.2.2)
def xSet (s : XS) (x y n : Int32) : XS := if ¬ nosF s.2.2.1 y then xF s 3 else if islF s.2.2.1 x then xF s 4 else xN s (nots s.2.2.1 x (sofF s.2.2.1 y + n))
def xLab (s : XS) (x : Int32) : XS := if islF s.2.2.1 x ∨ issF s.2.2.1 x then xF s 4 else xN s (notl s.2.2.1 x)
def xGoS (s : XS) (x y : Int32) : XS := if nosF s.2.2.1 x ∧ nosF s.2.2.1 y then s else xF s 3
def xGoR (s : XS) (x y n : Int32) : Int32 := if nosF s.2.2.1 x ∧ nosF s.2.2.1 y then b2i (0 < n + sofF s.2.2.1 x - sofF s.2.2.1 y) else 1
def xApp (s : XS) (k x y n dp : Int32) : XS := (telS s.1 s.2.1 k x y n (if k = 1 then sofF s.2.2.1 x else 0) s.2.2.2.2.2 dp, s.2.1 + 1, s.2.2)
def xInc (s : XS) : XS := (s.1, s.2.1, s.2.2.1, s.2.2.2.1 + 1, s.2.2.2.2)
abbrev xOver (s : XS) (k : Int32) : Prop := 400 < s.2.2.2.1 ∨ itmF k ∧ 120 ≤ s.2.1
/-- a LINE, behind its counting; call: what a CALL does -/
def xLin2 (call : Int32 → Int32 → XS → XS) (dp : Int32) (d : Nat → Int32) (n : Int32) (s : XS) : XS × Int32 :=
  if xOver s (d 0) then (xF s 2, 1) else if d 0 = 10 then (call (d 1) n s, 1) else if d 0 = 8 then (xGoS s (d 1) (d 2), xGoR s (d 1) (d 2) n) else if d 0 = 9 then (s, 1) else
  (xApp (if d 0 = 0 then xLab s (d 1) else if d 0 = 1 then xSet s (d 1) (d 2) n else s) (d 0) (d 1) (d 2) n dp, 1)
def xLin (call : Int32 → Int32 → XS → XS) (dp : Int32) (d : Nat → Int32) (arg : Int32) (s : XS) : XS × Int32 := xLin2 call dp d (if d 4 = 0 then d 3 else d 3 + arg) (xInc s)
def xMl (s : XS) (dp : Int32) (i : Nat) : XS := (s.1, s.2.1, s.2.2.1, s.2.2.2.1, s.2.2.2.2.1, if dp = 0 then nI i else s.2.2.2.2.2)
def xOp (o k : Int32) : Int32 := if 0 < o then o + (if k = 8 then 1 else if k = 9 then -1 else 0) else o
def xLoop (call : Int32 → Int32 → XS → XS) (dp : Int32) (E : Nat → Nat → Int32) (arg : Int32) : Nat → Nat → Int32 → XS → XS
  | 0, _, _, s => s
  | n + 1, i, o, s =>
    if ¬ s.2.2.2.2.1 = 0 then s else
    if xOp o (E i 0) = 0 then
      (if (xLin call dp (E i) arg (xMl s dp i)).2 = 0 then xLoop call dp E arg n (i + 1) 1 (xLin call dp (E i) arg (xMl s dp i)).1
       else xLoop call dp E arg n (i + 1) (xOp o (E i 0)) (xLin call dp (E i) arg (xMl s dp i)).1)
    else xLoop call dp E arg n (i + 1) (xOp o (E i 0)) (xMl s dp i)
def cnX (cnt : Nat → Nat) (row : Int32) : Nat := if rIn row then cnt row.toNatClampNeg else 0
theorem ctF_X (cnt : Nat → Nat) (row : Int32) : ctF cnt row = nI (cnX cnt row) := by unfold ctF cnX; split <;> rfl
/-- what a CALL does at the depth 5 - k; behind k + 1: a ROW at the depth 5 - k -/
def xCall (D : DT) (cnt : Nat → Nat) : Nat → Int32 → Int32 → XS → XS
  | 0, _, _, s => xF s 1
  | k + 1, row, arg, s => xLoop (xCall D cnt k) (nI (5 - k)) (D row.toNatClampNeg) arg (cnX cnt row) 0 0 s
def RowOK (l : Launch) (g : GG) (w so cap0 : Nat) (cnt : Nat → Nat) (f : Nat → Nat → Nat) (D : DT) (lo hi k : Nat) : Prop := ∀ (xs : XS) (H0 : Heap) (row arg : Int32), xAt g w so cap0 cnt f D lo hi xs H0 → MM l y_Expander_expandRow c_Expander_expandRow 8 none (3 * k + 4) 0 0 g H0 [.ref (w + 124), .int row, .int arg, .int (nI (5 - k))] (wF w) none (fun H1 => xAt g w so cap0 cnt f D lo hi (xCall D cnt (k + 1) row arg xs) H1)
def CallOK (l : Launch) (g : GG) (w so cap0 : Nat) (cnt : Nat → Nat) (f : Nat → Nat → Nat) (D : DT) (lo hi k : Nat) : Prop := ∀ (xs : XS) (H0 : Heap) (row arg : Int32), xAt g w so cap0 cnt f D lo hi xs H0 → MM l y_Expander_expandCall c_Expander_expandCall 4 none (3 * k + 2) 0 0 g H0 [.ref (w + 124), .int row, .int arg, .int (nI (5 - k))] (wF w) none (fun H1 => xAt g w so cap0 cnt f D lo hi (xCall D cnt k row arg xs) H1)
theorem sAt.cnx {g : GG} {so cap0 lo hi : Nat} {cnt : Nat → Nat} {f : Nat → Nat → Nat} {D : DT} {H : Heap} (h : sAt g so cap0 cnt f D lo hi H) (row : Int32) : cnX cnt row ≤ 60 := by
  unfold cnX
  split
  · rename_i z
    obtain ⟨r, hr, rfl⟩ := rIn_ex z
    rw [rIn_tn hr]
    exact h.cap r hr
  · omega
theorem cnX_in {cnt : Nat → Nat} {row : Int32} {i : Nat} (h : i < cnX cnt row) : ∃ r, r < 5 ∧ row = nI r ∧ i < cnt r := by
  unfold cnX at h
  split at h
  · rename_i z
    obtain ⟨r, hr, rfl⟩ := rIn_ex z
    rw [rIn_tn hr] at h
    exact ⟨r, hr, rfl, h⟩
  · omega
theorem xGoR_nar (s : XS) (x y n : Int32) : narrow .boolean (.int (xGoR s x y n)) = .int (xGoR s x y n) := by
  unfold xGoR
  split
  · exact b2i_nar
  · rfl
theorem xLab_c (s : XS) (x : Int32) : (xLab s x).2.1 = s.2.1 := by
  unfold xLab
  split <;> rfl
theorem xSet_c (s : XS) (x y n : Int32) : (xSet s x y n).2.1 = s.2.1 := by
  unfold xSet
  split
  · rfl
  · split <;> rfl
section XLOOP
variable {call : Int32 → Int32 → XS → XS} {dp : Int32} {E : Nat → Nat → Int32} {arg o o' r : Int32} {n i : Nat} {s s' T : XS}
theorem xLoop_skip (hf : s.2.2.2.2.1 = 0) (eo : o' = xOp o (E i 0)) (ho : ¬ o' = 0) (es : s' = xMl s dp i) (hV : xLoop call dp E arg (n + 1) i o s = T) : xLoop call dp E arg n (i + 1) o' s' = T := by
  rw [← hV, xLoop, if_neg (fun z => z hf), if_neg (by rw [← eo]; exact ho), ← eo, es]
theorem xLoop_line0 (hf : s.2.2.2.2.1 = 0) (eo : o' = xOp o (E i 0)) (ho : o' = 0) {s1 : XS} (es : s1 = xMl s dp i) (hr : (s', r) = xLin call dp (E i) arg s1) (h0 : r = 0) (hV : xLoop call dp E arg (n + 1) i o s = T) : xLoop call dp E arg n (i + 1) 1 s' = T := by
  subst es
  rw [← hV, xLoop, if_neg (fun z => z hf), if_pos (by rw [← eo]; exact ho), ← hr, if_pos h0]
theorem xLoop_line1 (hf : s.2.2.2.2.1 = 0) (eo : o' = xOp o (E i 0)) (ho : o' = 0) {s1 : XS} (es : s1 = xMl s dp i) (hr : (s', r) = xLin call dp (E i) arg s1) (h0 : ¬ r = 0) (hV : xLoop call dp E arg (n + 1) i o s = T) : xLoop call dp E arg n (i + 1) o' s' = T := by
  subst es
  rw [← hV, xLoop, if_neg (fun z => z hf), if_pos (by rw [← eo]; exact ho), ← hr, if_neg h0, ← eo]
theorem xLoop_stop (hf : ¬ s.2.2.2.2.1 = 0) : xLoop call dp E arg (n + 1) i o s = s := by rw [xLoop, if_pos hf]
end XLOOP
def xAt0 (g : GG) (w so cap0 : Nat) (cnt : Nat → Nat) (f : Nat → Nat → Nat) (D : DT) (lo hi : Nat) (s : XS) (H : Heap) : Prop :=
  exAt g w so s.2.2.2.1 s.2.2.2.2.1 s.2.2.2.2.2 H ∧ iAt g (w + 1) s.2.1 s.1 H ∧ nAt g (w + 125) s.2.2.1 H ∧ sAt g so cap0 cnt f D lo hi H ∧ s.2.1 ≤ 121 ∧ (so + 12 ≤ w ∨ w + 131 ≤ so) ∧ lo ≤ w ∧ w + 131 ≤ hi
