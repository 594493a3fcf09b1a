-- ONE LINE MORE AT MAIN'S END (p22's facts F7, F8)
def xLO (call : Int32 → Int32 → XS → XS) (dp : Int32) (E : Nat → Nat → Int32) (arg : Int32) : Nat → Nat → Int32 → XS → Int32 × XS
  | 0, _, o, s => (o, s)
  | n + 1, i, o, s =>
    if ¬ s.2.2.2.2.1 = 0 then (o, s) else
    if xOp o (E i 0) = 0 then
      (if (xLin call dp (E i) arg (xMl s dp i)).2 = 0 then xLO call dp E arg n (i + 1) 1 (xLin call dp (E i) arg (xMl s dp i)).1
       else xLO call dp E arg n (i + 1) (xOp o (E i 0)) (xLin call dp (E i) arg (xMl s dp i)).1)
    else xLO call dp E arg n (i + 1) (xOp o (E i 0)) (xMl s dp i)
section XLO
variable {call call2 : Int32 → Int32 → XS → XS} {dp : Int32} {E E2 : Nat → Nat → Int32} {arg : Int32}
theorem xLO_2 : ∀ (n i : Nat) (o : Int32) (s : XS), (xLO call dp E arg n i o s).2 = xLoop call dp E arg n i o s
  | 0, _, _, _ => rfl
  | n + 1, i, o, s => by
    simp only [xLO, xLoop]
    split
    · rfl
    · split
      · split
        · exact xLO_2 n (i + 1) _ _
        · exact xLO_2 n (i + 1) _ _
      · exact xLO_2 n (i + 1) _ _
theorem xLO_f {s : XS} (h : ¬ s.2.2.2.2.1 = 0) : ∀ (n i : Nat) (o : Int32), xLO call dp E arg n i o s = (o, s)
  | 0, _, _ => rfl
  | n + 1, i, o => by
    simp only [xLO]
    rw [if_pos h]
theorem xLO_s : ∀ (n i : Nat) (o : Int32) (s : XS), xLO call dp E arg (n + 1) i o s = xLO call dp E arg 1 (i + n) (xLO call dp E arg n i o s).1 (xLO call dp E arg n i o s).2
  | 0, _, _, _ => rfl
  | n + 1, i, o, s => by
    by_cases h : ¬ s.2.2.2.2.1 = 0
    · rw [xLO_f h, xLO_f h]
      exact (xLO_f h _ _ _).symm
    · rw [xLO]
      rw [if_neg h]
      conv => rhs; arg 7; rw [xLO, if_neg h]
      conv => rhs; arg 8; rw [xLO, if_neg h]
      rw [show i + (n + 1) = i + 1 + n by omega]
      by_cases a : xOp o (E i 0) = 0
      · rw [if_pos a, if_pos a]
        by_cases b : (xLin call dp (E i) arg (xMl s dp i)).2 = 0
        · rw [if_pos b, if_pos b]
          exact xLO_s n (i + 1) _ _
        · rw [if_neg b, if_neg b]
          exact xLO_s n (i + 1) _ _
      · rw [if_neg a, if_neg a]
        exact xLO_s n (i + 1) _ _
theorem xLin_c {d : Nat → Int32} (hc : ∀ r a s, 0 < r → r < 5 → call r a s = call2 r a s) (hd : lnG d) (s : XS) : xLin call dp d arg s = xLin call2 dp d arg s := by
  unfold xLin xLin2
  by_cases a : xOver (xInc s) (d 0)
  · rw [if_pos a, if_pos a]
  rw [if_neg a, if_neg a]
  by_cases b : d 0 = 10
  · rw [if_pos b, if_pos b, hc _ _ _ (hd.call b).1 (hd.call b).2]
  rw [if_neg b, if_neg b]
theorem xLO_c (hc : ∀ r a s, 0 < r → r < 5 → call r a s = call2 r a s) : ∀ (n i : Nat) (o : Int32) (s : XS), (∀ j, i ≤ j → j < i + n → E j = E2 j ∧ lnG (E j)) → xLO call dp E arg n i o s = xLO call2 dp E2 arg n i o s
  | 0, _, _, _, _ => rfl
  | n + 1, i, o, s, h => by
    obtain ⟨he, hg⟩ := h i (Nat.le_refl _) (by omega)
    have h2 : ∀ j, i + 1 ≤ j → j < i + 1 + n → E j = E2 j ∧ lnG (E j) := fun j a b => h j (by omega) (by omega)
    simp only [xLO]
    rw [← he, xLin_c (call2 := call2) hc hg]
    split
    · rfl
    · split
      · split
        · exact xLO_c hc n (i + 1) _ _ h2
        · exact xLO_c hc n (i + 1) _ _ h2
      · exact xLO_c hc n (i + 1) _ _ h2
end XLO
theorem xCall_c {D D2 : DT} {cnt cnt2 : Nat → Nat} (hG : lnsG D cnt) (h : ∀ r, 0 < r → r < 5 → D r = D2 r ∧ cnt r = cnt2 r) : ∀ (k : Nat) (row arg : Int32) (s : XS), 0 < row → row < 5 → xCall D cnt k row arg s = xCall D2 cnt2 k row arg s
  | 0, _, _, _, _, _ => rfl
  | k + 1, row, arg, s, h0, h5 => by
    obtain ⟨r, hr, hr0, rfl⟩ := row_in h0 h5
    obtain ⟨e1, e2⟩ := h r hr0 hr
    have hc : cnX cnt (nI r) = cnt r := by
      unfold cnX
      rw [if_pos (rIn_nI hr), rIn_tn hr]
    have hc2 : cnX cnt2 (nI r) = cnt2 r := by
      unfold cnX
      rw [if_pos (rIn_nI hr), rIn_tn hr]
    simp only [xCall]
    rw [hc, hc2, rIn_tn hr, ← xLO_2, ← xLO_2, ← e1, ← e2]
    rw [xLO_c (call := xCall D cnt k) (call2 := xCall D2 cnt2 k) (fun r a s z0 z5 => xCall_c hG h k r a s z0 z5) (cnt r) 0 0 s (fun j _ b => ⟨rfl, (hG r hr).2 j (by omega)⟩)]
/-- MAIN with a LINE more at its end -/
abbrev moreD (D : DT) (cnt : Nat → Nat) (d : Nat → Int32) : DT := va_up D 0 (insF (D 0) (cnt 0) d)
abbrev moreC (cnt : Nat → Nat) : Nat → Nat := va_up cnt 0 (cnt 0 + 1)
theorem moreC_0 (cnt : Nat → Nat) : moreC cnt 0 = cnt 0 + 1 := va_up_self _ _ _
theorem moreD_at (D : DT) (cnt : Nat → Nat) (d : Nat → Int32) : moreD D cnt d 0 (cnt 0) = d := by
  unfold moreD
  rw [va_up_self]
  unfold insF
  rw [if_neg (Nat.lt_irrefl _), if_pos rfl]
theorem moreD_lt {D : DT} {cnt : Nat → Nat} {d : Nat → Int32} {j : Nat} (h : j < cnt 0) : moreD D cnt d 0 j = D 0 j := by
  unfold moreD
  rw [va_up_self]
  unfold insF
  rw [if_pos h]
theorem more_G {D : DT} {cnt : Nat → Nat} {d : Nat → Int32} (hG : lnsG D cnt) (hc : cnt 0 < 60) (hd : lnG d) : lnsG (moreD D cnt d) (moreC cnt) := fun r hr => by
  by_cases e : r = 0
  · subst e
    rw [moreC_0]
    refine ⟨by omega, fun i hi => ?_⟩
    by_cases z : i = cnt 0
    · subst z
      rw [moreD_at]
      exact hd
    · rw [moreD_lt (by omega)]
      exact (hG 0 hr).2 i (by omega)
  · unfold moreC moreD
    rw [va_up_ne _ _ e, va_up_ne _ _ e]
    exact hG r hr
theorem exp_more {D : DT} {cnt : Nat → Nat} {d : Nat → Int32} (hG : lnsG D cnt) (y : YS) : ∃ o, expF (moreD D cnt d) (moreC cnt) y = (xLO (xCall (moreD D cnt d) (moreC cnt) 5) 0 (moreD D cnt d 0) 0 1 (cnt 0) o (expF D cnt y)).2 := by
  unfold expF
  rw [xTop, xTop, ← xLO_2, ← xLO_2, moreC_0, xLO_s, Nat.zero_add]
  rw [← xLO_c (call := xCall D cnt 5) (call2 := xCall (moreD D cnt d) (moreC cnt) 5) (E := D 0) (E2 := moreD D cnt d 0) (fun r a s z0 z5 => xCall_c hG (fun r h0 h5 => by
    unfold moreC moreD
    rw [va_up_ne _ _ (by omega), va_up_ne _ _ (by omega)]
    exact ⟨rfl, rfl⟩) 5 r a s z0 z5) (cnt 0) 0 0 _ (fun j _ b => ⟨(moreD_lt (by omega)).symm, (hG 0 (by omega)).2 j (by omega)⟩)]
  exact ⟨_, rfl⟩
/-- one LINE of MAIN, that is no CALL -/
theorem xLO_1 {call : Int32 → Int32 → XS → XS} {E : Nat → Nat → Int32} {i : Nat} {o : Int32} {s : XS} (h : s.2.2.2.2.1 = 0) : (xLO call 0 E 0 1 i o s).2 = xMl s 0 i ∨ (xLO call 0 E 0 1 i o s).2 = (xLin call 0 (E i) 0 (xMl s 0 i)).1 := by
  simp only [xLO]
  rw [if_neg (fun z => z h)]
  split
  · split
    · exact Or.inr rfl
    · exact Or.inr rfl
  · exact Or.inl rfl
theorem exp_end {D : DT} {cnt : Nat → Nat} (hG : lnsG D cnt) (y : YS) (h : (expF D cnt y).2.2.2.2.1 = 0) : (expF (moreD D cnt (dl 9 (-1) (-1) 0 0)) (moreC cnt) y).2.2.2.2.1 = 2 ∨ ((expF (moreD D cnt (dl 9 (-1) (-1) 0 0)) (moreC cnt) y).1 = (expF D cnt y).1 ∧ (expF (moreD D cnt (dl 9 (-1) (-1) 0 0)) (moreC cnt) y).2.1 = (expF D cnt y).2.1 ∧ (expF (moreD D cnt (dl 9 (-1) (-1) 0 0)) (moreC cnt) y).2.2.2.2.1 = 0) := by
  obtain ⟨o, e⟩ := exp_more (d := dl 9 (-1) (-1) 0 0) hG y
  rw [e]
  generalize expF D cnt y = X at h ⊢
  rcases xLO_1 (call := xCall (moreD D cnt (dl 9 (-1) (-1) 0 0)) (moreC cnt) 5) (E := moreD D cnt (dl 9 (-1) (-1) 0 0) 0) (i := cnt 0) (o := o) h with z | z
  · rw [z]
    exact Or.inr ⟨rfl, rfl, h⟩
  · rw [z, moreD_at]
    unfold xLin xLin2
    by_cases a : xOver (xInc (xMl X 0 (cnt 0))) (dl 9 (-1) (-1) 0 0 0)
    · rw [if_pos a]
      exact Or.inl rfl
    · rw [if_neg a, if_neg (show ¬ dl 9 (-1) (-1) 0 0 0 = 10 by decide), if_neg (show ¬ dl 9 (-1) (-1) 0 0 0 = 8 by decide), if_pos (show dl 9 (-1) (-1) 0 0 0 = 9 by decide)]
      exact Or.inr ⟨rfl, rfl, h⟩
theorem exp_data {D : DT} {cnt : Nat → Nat} (hG : lnsG D cnt) (y : YS) (h : (expF D cnt y).2.2.2.2.1 = 0) : (expF (moreD D cnt (dl 2 (-1) (-1) 7 0)) (moreC cnt) y).2.2.2.2.1 = 2 ∨ ((expF (moreD D cnt (dl 2 (-1) (-1) 7 0)) (moreC cnt) y).1 = (expF D cnt y).1 ∧ (expF (moreD D cnt (dl 2 (-1) (-1) 7 0)) (moreC cnt) y).2.1 = (expF D cnt y).2.1 ∧ (expF (moreD D cnt (dl 2 (-1) (-1) 7 0)) (moreC cnt) y).2.2.2.2.1 = 0) ∨
    ∃ ml, (expF (moreD D cnt (dl 2 (-1) (-1) 7 0)) (moreC cnt) y).1 = telS (expF D cnt y).1 (expF D cnt y).2.1 2 (-1) (-1) 7 0 ml 0 ∧ (expF (moreD D cnt (dl 2 (-1) (-1) 7 0)) (moreC cnt) y).2.1 = (expF D cnt y).2.1 + 1 ∧ (expF (moreD D cnt (dl 2 (-1) (-1) 7 0)) (moreC cnt) y).2.2.2.2.1 = 0 := by
  obtain ⟨o, e⟩ := exp_more (d := dl 2 (-1) (-1) 7 0) hG y
  rw [e]
  generalize expF D cnt y = X at h ⊢
  rcases xLO_1 (call := xCall (moreD D cnt (dl 2 (-1) (-1) 7 0)) (moreC cnt) 5) (E := moreD D cnt (dl 2 (-1) (-1) 7 0) 0) (i := cnt 0) (o := o) h with z | z
  · rw [z]
    exact Or.inr (Or.inl ⟨rfl, rfl, h⟩)
  · rw [z, moreD_at]
    unfold xLin xLin2
    by_cases a : xOver (xInc (xMl X 0 (cnt 0))) (dl 2 (-1) (-1) 7 0 0)
    · rw [if_pos a]
      exact Or.inl rfl
    · rw [if_neg a, if_neg (show ¬ dl 2 (-1) (-1) 7 0 0 = 10 by decide), if_neg (show ¬ dl 2 (-1) (-1) 7 0 0 = 8 by decide), if_neg (show ¬ dl 2 (-1) (-1) 7 0 0 = 9 by decide)]
      exact Or.inr (Or.inr ⟨nI (cnt 0), rfl, rfl, h⟩)
theorem asmX_same {X Z : XS} {qd : Int32} (h : X.2.2.2.2.1 = 0) (h2 : Z.2.2.2.2.1 = 0) (e1 : Z.1 = X.1) (e2 : Z.2.1 = X.2.1) : asmX Z qd = asmX X qd := by
  unfold asmX
  rw [if_pos h, if_pos h2, e1, e2]
theorem now_asm {D D2 : DT} {cnt cnt2 : Nat → Nat} {y : YS} (h : asmF D cnt y = asmF D2 cnt2 y) : nowF D cnt y = nowF D2 cnt2 y := by
  unfold nowF
  rw [h]
theorem asm_x0 {D : DT} {cnt : Nat → Nat} {y : YS} (h : (asmF D cnt y).2.2.2.1 = 0) : (expF D cnt y).2.2.2.2.1 = 0 := by
  rw [asmF_x] at h
  exact (asmX_ok h).1
theorem asm_x2 {D : DT} {cnt : Nat → Nat} {y : YS} (h : (expF D cnt y).2.2.2.2.1 = 2) : (asmF D cnt y).2.2.2.1 = 2 := by
  rw [asmF_x]
  unfold asmX
  rw [if_neg (by rw [h]; decide)]
  exact h
theorem now_fn (D : DT) (cnt : Nat → Nat) (y : YS) : (nowF D cnt y).2.2.2.1 = (asmF D cnt y).2.2.2.1 := rfl
/-- an END at MAIN's end -/
theorem more_end {D : DT} {cnt : Nat → Nat} (hG : lnsG D cnt) (y : YS) (h : (nowF D cnt y).2.2.2.1 = 0) : (nowF (moreD D cnt (dl 9 (-1) (-1) 0 0)) (moreC cnt) y).2.2.2.1 = 2 ∨ nowF (moreD D cnt (dl 9 (-1) (-1) 0 0)) (moreC cnt) y = nowF D cnt y := by
  rw [now_fn] at h ⊢
  have hx := asm_x0 h
  rcases exp_end hG y hx with z | ⟨z1, z2, z3⟩
  · exact Or.inl (asm_x2 z)
  · refine Or.inr (now_asm ?_)
    rw [asmF_x, asmF_x]
    exact asmX_same hx z3 z1 z2
