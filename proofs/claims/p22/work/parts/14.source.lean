-- ROWS AND THE SOURCE
abbrev qarr (cA : ClassId) (n : Nat) (F : Nat → Option Nat) : va_E := .inl (cA, n, .inr (.inr (.inr (.inr F))))
def rAt (g : GG) (b cap c : Nat) (f : Nat → Nat) (H : Heap) : Prop := pt g b (.inr (ci_Row, [.ref (b + 1), .int (nI c)])) H ∧ ∃ F : Nat → Option Nat, pt g (b + 1) (qarr (g.2 2) cap F) H ∧ ∀ i, i < c → F i = some (f i)
abbrev rF (b : Nat) : Nat → Prop := fun q => b ≤ q ∧ q < b + 2
theorem rAt.keep {g : GG} {b cap c : Nat} {f : Nat → Nat} {H H1 : Heap} (h : rAt g b cap c f H) (hq : ∀ q, b ≤ q → q < b + 2 → H1[q]? = H[q]?) : rAt g b cap c f H1 := by
  obtain ⟨h1, F, h2, h3⟩ := h
  exact ⟨h1.kept (hq _ (by omega) (by omega)), F, h2.kept (hq _ (by omega) (by omega)), h3⟩
def insF {α : Type} (f : Nat → α) (t : Nat) (v : α) : Nat → α := fun i => if i < t then f i else if i = t then v else f (i - 1)
def remF {α : Type} (f : Nat → α) (t : Nat) : Nat → α := fun i => if i < t then f i else f (i + 1)
abbrev isLn (g : GG) (q : Nat) (H : Heap) : Prop := ∃ vs, pt g q (.inr (ci_Line, vs)) H
abbrev offR (b q : Nat) : Prop := q < b ∨ b + 2 ≤ q
/-- the data of LINES: of each row, of each place, its five numbers -/
abbrev DT : Type := Nat → Nat → Nat → Int32
abbrev lnD (g : GG) (q : Nat) (d : Nat → Int32) (H : Heap) : Prop := lnAt g q (d 0) (d 1) (d 2) (d 3) (d 4) H
abbrev capF (cap0 r : Nat) : Nat := if r = 0 then cap0 else 10
/-- the source: its rows; of the LINES where they are and what they say; they lie outside lo .. hi -/
def sAt (g : GG) (so cap0 : Nat) (cnt : Nat → Nat) (f : Nat → Nat → Nat) (D : DT) (lo hi : Nat) (H : Heap) : Prop :=
  pt g so (.inr (ci_Source, [.ref (so + 1)])) H ∧ pt g (so + 1) (qarr (g.2 3) 5 (fun r => some (so + 2 + 2 * r))) H ∧
  (∀ r, r < 5 → rAt g (so + 2 + 2 * r) (capF cap0 r) (cnt r) (f r) H ∧ cnt r ≤ capF cap0 r) ∧
  (∀ r i, r < 5 → i < cnt r → lnD g (f r i) (D r i) H ∧ (f r i < lo ∨ hi ≤ f r i)) ∧ lo ≤ so ∧ so + 12 ≤ hi ∧ cap0 ≤ 60 ∧ 40 ≤ cap0
abbrev sF (so : Nat) : Nat → Prop := fun q => so ≤ q ∧ q < so + 12
theorem sAt.frame {g : GG} {so cap0 lo hi : Nat} {cnt : Nat → Nat} {f : Nat → Nat → Nat} {D : DT} {A : Nat → Prop} {H H1 : Heap} (h : sAt g so cap0 cnt f D lo hi H) (hf : fr A H H1) (hA : ∀ q, A q → lo ≤ q ∧ q < hi ∧ ¬ (so ≤ q ∧ q < so + 12)) : sAt g so cap0 cnt f D lo hi H1 := by
  obtain ⟨h1, h2, h3, h4, h5, h6, h7, h8⟩ := h
  refine ⟨h1.fr hf (fun z => by have := hA _ z; omega), h2.fr hf (fun z => by have := hA _ z; omega), fun r hr => ⟨?_, (h3 r hr).2⟩, fun r i hr hi => ⟨(h4 r i hr hi).1.fr hf (fun z => by have := hA _ z; have := (h4 r i hr hi).2; omega), (h4 r i hr hi).2⟩, h5, h6, h7, h8⟩
  obtain ⟨⟨k1, F, k2, k3⟩, -⟩ := h3 r hr
  exact ⟨k1.fr hf (fun z => by have := hA _ z; omega), F, k2.fr hf (fun z => by have := hA _ z; omega), k3⟩
abbrev rIn (row : Int32) : Prop := 0 ≤ row ∧ row < 5
def ctF (cnt : Nat → Nat) (row : Int32) : Int32 := if rIn row then nI (cnt row.toNatClampNeg) else 0
abbrev lIn (cnt : Nat → Nat) (row line : Int32) : Prop := 0 ≤ line ∧ line < ctF cnt row
theorem rIn_ex {row : Int32} (h : rIn row) : ∃ r, r < 5 ∧ row = nI r := by
  rcases pk_ix row (show (5 : Nat) < 2 ^ 31 by omega) with z | z | z
  · exact absurd h.1 (Int32.not_le.mpr z)
  · exact absurd h.2 (Int32.not_lt.mpr z)
  · exact z
theorem rIn_nI {r : Nat} (h : r < 5) : rIn (nI r) := ⟨nI_pos' (by omega), nI_lt (b := 5) h (by omega)⟩
theorem ctF_in {cnt : Nat → Nat} {r : Nat} (h : r < 5) : ctF cnt (nI r) = nI (cnt r) := by
  unfold ctF
  rw [if_pos (rIn_nI h), nI_clamp (by omega)]
theorem ctF_out {cnt : Nat → Nat} {row : Int32} (h : ¬ rIn row) : ctF cnt row = 0 := if_neg h
theorem lIn_ex {cnt : Nat → Nat} {row line : Int32} (hc : ∀ r, r < 5 → cnt r ≤ 60) (h : lIn cnt row line) : ∃ r i, r < 5 ∧ i < cnt r ∧ row = nI r ∧ line = nI i := by
  by_cases hr : rIn row
  · obtain ⟨r, h5, rfl⟩ := rIn_ex hr
    have h2 := h.2
    rw [ctF_in h5] at h2
    rcases pk_ix line (show cnt r < 2 ^ 31 by have := hc r h5; omega) with z | z | ⟨i, hi, z⟩
    · exact absurd h.1 (Int32.not_le.mpr z)
    · exact absurd h2 (Int32.not_lt.mpr z)
    · exact ⟨r, i, h5, hi, rfl, z⟩
  · have h2 := h.2
    rw [ctF_out hr] at h2
    exact absurd h.1 (Int32.not_le.mpr h2)
theorem lIn_nI {cnt : Nat → Nat} {r i : Nat} (hr : r < 5) (hi : i < cnt r) (hc : cnt r ≤ 60) : lIn cnt (nI r) (nI i) := ⟨nI_pos' (by omega), by rw [ctF_in hr]; exact nI_lt hi (by omega)⟩
theorem sAt.cap {g : GG} {so cap0 lo hi : Nat} {cnt : Nat → Nat} {f : Nat → Nat → Nat} {D : DT} {H : Heap} (h : sAt g so cap0 cnt f D lo hi H) : ∀ r, r < 5 → cnt r ≤ 60 := fun r hr => by
  have h1 := (h.2.2.1 r hr).2
  have h7 := h.2.2.2.2.2.2.1
  unfold capF at h1
  split at h1 <;> omega
theorem sAt.capb {g : GG} {so cap0 lo hi : Nat} {cnt : Nat → Nat} {f : Nat → Nat → Nat} {D : DT} {H : Heap} (h : sAt g so cap0 cnt f D lo hi H) (r : Nat) : capF cap0 r < 2 ^ 31 := by
  have h7 := h.2.2.2.2.2.2.1
  unfold capF
  split <;> omega
def lnO (cnt : Nat → Nat) (row line : Int32) : Option (Nat × Nat) := if lIn cnt row line then some (row.toNatClampNeg, line.toNatClampNeg) else none
def lr (f : Nat → Nat → Nat) (o : Option (Nat × Nat)) : Value := va_rf (o.map (fun p => f p.1 p.2))
theorem lnO_in {cnt : Nat → Nat} {r i : Nat} (hr : r < 5) (hi : i < cnt r) (hc : cnt r ≤ 60) : lnO cnt (nI r) (nI i) = some (r, i) := by
  unfold lnO
  rw [if_pos (lIn_nI hr hi hc), nI_clamp (by omega), nI_clamp (by omega)]
def totF (cnt : Nat → Nat) : Nat → Nat → Int32 → Int32
  | 0, _, u => u
  | n + 1, i, u => totF cnt n (i + 1) (u + nI (cnt i))
theorem sAt.row {g : GG} {so cap0 lo hi r c' : Nat} {cnt : Nat → Nat} {f : Nat → Nat → Nat} {D : DT} {f' : Nat → Nat} {D' : Nat → Nat → Int32} {H H1 : Heap} (h : sAt g so cap0 cnt f D lo hi H) (hr : r < 5) (hfr : fr (rF (so + 2 + 2 * r)) H H1) (hR : rAt g (so + 2 + 2 * r) (capF cap0 r) c' f' H1) (hc : c' ≤ capF cap0 r) (hl : ∀ i, i < c' → lnD g (f' i) (D' i) H1 ∧ (f' i < lo ∨ hi ≤ f' i)) : sAt g so cap0 (va_up cnt r c') (va_up f r f') (va_up D r D') lo hi H1 := by
  obtain ⟨h1, h2, h3, h4, h5, h6, h7, h8⟩ := h
  refine ⟨h1.fr hfr (fun z => by have := z.1; omega), h2.fr hfr (fun z => by have := z.1; omega), fun q hq => ?_, fun q i hq hi => ?_, h5, h6, h7, h8⟩
  · by_cases z : q = r
    · subst z
      rw [va_up_self, va_up_self]
      exact ⟨hR, hc⟩
    · rw [va_up_ne _ _ z, va_up_ne _ _ z]
      obtain ⟨⟨k1, F, k2, k3⟩, k4⟩ := h3 q hq
      exact ⟨⟨k1.fr hfr (fun z => by have h9 := z.1; have h10 := z.2; omega), F, k2.fr hfr (fun z => by have h9 := z.1; have h10 := z.2; omega), k3⟩, k4⟩
  · by_cases z : q = r
    · subst z
      rw [va_up_self] at hi
      rw [va_up_self, va_up_self]
      exact hl i hi
    · rw [va_up_ne _ _ z] at hi
      rw [va_up_ne _ _ z, va_up_ne _ _ z]
      exact ⟨(h4 q i hq hi).1.fr hfr (fun z => by have h9 := z.1; have h10 := z.2; have := (h4 q i hq hi).2; omega), (h4 q i hq hi).2⟩
theorem sAt.ln {g : GG} {so cap0 lo hi r : Nat} {cnt : Nat → Nat} {f : Nat → Nat → Nat} {D : DT} {H : Heap} (h : sAt g so cap0 cnt f D lo hi H) (hr : r < 5) : ∀ i, i < cnt r → isLn g (f r i) H ∧ offR (so + 2 + 2 * r) (f r i) := fun i hi => by
  have h1 := h.2.2.2.1 r i hr hi
  have h2 := h.2.2.2.2
  refine ⟨⟨_, h1.1⟩, ?_⟩
  unfold offR
  omega
theorem sAt.ins {g : GG} {so cap0 lo hi r t ln : Nat} {cnt : Nat → Nat} {f : Nat → Nat → Nat} {D : DT} {d : Nat → Int32} {H H1 : Heap} (h : sAt g so cap0 cnt f D lo hi H) (hr : r < 5) (ht : t ≤ cnt r) (hc : cnt r < capF cap0 r) (hl : lnD g ln d H) (ho : ln < lo ∨ hi ≤ ln) (hfr : fr (rF (so + 2 + 2 * r)) H H1) (hR : rAt g (so + 2 + 2 * r) (capF cap0 r) (cnt r + 1) (insF (f r) t ln) H1) : sAt g so cap0 (va_up cnt r (cnt r + 1)) (va_up f r (insF (f r) t ln)) (va_up D r (insF (D r) t d)) lo hi H1 := by
  have h2 := h.2.2.2.2
  have hk : ∀ i, i < cnt r → lnD g (f r i) (D r i) H1 ∧ (f r i < lo ∨ hi ≤ f r i) := fun i hi => ⟨(h.2.2.2.1 r i hr hi).1.fr hfr (fun z => by have h9 := z.1; have h10 := z.2; have := (h.2.2.2.1 r i hr hi).2; omega), (h.2.2.2.1 r i hr hi).2⟩
  refine h.row hr hfr hR hc (fun i hi => ?_)
  simp only [insF]
  by_cases z : i < t
  · simp only [z, if_true]
    exact hk i (by omega)
  · by_cases z2 : i = t
    · simp only [z, z2, if_true, if_false, Nat.lt_irrefl]
      exact ⟨hl.fr hfr (fun z => by have h9 := z.1; have h10 := z.2; omega), ho⟩
    · simp only [z, z2, if_false]
      exact hk (i - 1) (by omega)
theorem sAt.rem {g : GG} {so cap0 lo hi r t : Nat} {cnt : Nat → Nat} {f : Nat → Nat → Nat} {D : DT} {H H1 : Heap} (h : sAt g so cap0 cnt f D lo hi H) (hr : r < 5) (ht : t < cnt r) (hfr : fr (rF (so + 2 + 2 * r)) H H1) (hR : rAt g (so + 2 + 2 * r) (capF cap0 r) (cnt r - 1) (remF (f r) t) H1) : sAt g so cap0 (va_up cnt r (cnt r - 1)) (va_up f r (remF (f r) t)) (va_up D r (remF (D r) t)) lo hi H1 := by
  have h2 := h.2.2.2.2
  have hk : ∀ i, i < cnt r → lnD g (f r i) (D r i) H1 ∧ (f r i < lo ∨ hi ≤ f r i) := fun i hi => ⟨(h.2.2.2.1 r i hr hi).1.fr hfr (fun z => by have h9 := z.1; have h10 := z.2; have := (h.2.2.2.1 r i hr hi).2; omega), (h.2.2.2.1 r i hr hi).2⟩
  refine h.row hr hfr hR (by have := (h.2.2.1 r hr).2; omega) (fun i hi => ?_)
  simp only [remF]
  by_cases z : i < t
  · simp only [z, if_true]
    exact hk i (by omega)
  · simp only [z, if_false]
    exact hk (i + 1) (by omega)
theorem sAt.rep {g : GG} {so cap0 lo hi r t ln : Nat} {cnt : Nat → Nat} {f : Nat → Nat → Nat} {D : DT} {d : Nat → Int32} {F : Nat → Option Nat} {H H1 : Heap} (h : sAt g so cap0 cnt f D lo hi H) (hr : r < 5) (ht : t < cnt r) (hl : lnD g ln d H) (ho : ln < lo ∨ hi ≤ ln) (hF : ∀ i, i < cnt r → F i = some (f r i)) (hc : chg (so + 2 + 2 * r + 1) H H1) (hp : pt g (so + 2 + 2 * r + 1) (qarr (g.2 2) (capF cap0 r) (va_up F t (some ln))) H1) : sAt g so cap0 cnt (va_up f r (va_up (f r) t ln)) (va_up D r (va_up (D r) t d)) lo hi H1 := by
  have h2 := h.2.2.2.2
  have hfr : fr (rF (so + 2 + 2 * r)) H H1 := fr.of_chg hc ⟨by omega, by omega⟩
  have e : cnt = va_up cnt r (cnt r) := by
    funext q
    by_cases z : q = r
    · subst z; rw [va_up_self]
    · rw [va_up_ne _ _ z]
  have hk : ∀ i, i < cnt r → lnD g (f r i) (D r i) H1 ∧ (f r i < lo ∨ hi ≤ f r i) := fun i hi => ⟨(h.2.2.2.1 r i hr hi).1.fr hfr (fun z => by have h9 := z.1; have h10 := z.2; have := (h.2.2.2.1 r i hr hi).2; omega), (h.2.2.2.1 r i hr hi).2⟩
  rw [e]
  refine h.row hr hfr ⟨(h.2.2.1 r hr).1.1.off hc (by omega), _, hp, fun i hi => ?_⟩ (h.2.2.1 r hr).2 (fun i hi => ?_)
  · by_cases z : i = t
    · subst z; rw [va_up_self, va_up_self]
    · rw [va_up_ne _ _ z, va_up_ne _ _ z]; exact hF i hi
  · by_cases z : i = t
    · subst z
      rw [va_up_self, va_up_self]
      exact ⟨hl.fr hfr (fun z => by have h9 := z.1; have h10 := z.2; omega), ho⟩
    · rw [va_up_ne _ _ z, va_up_ne _ _ z]
      exact hk i hi
theorem rIn_tn {r : Nat} (h : r < 5) : (nI r).toNatClampNeg = r := nI_clamp (by omega)
theorem sAt.same {g : GG} {so cap0 lo hi : Nat} {cnt cnt2 : Nat → Nat} {f f2 : Nat → Nat → Nat} {D D2 : DT} {H : Heap} (h : sAt g so cap0 cnt f D lo hi H) (e : ∀ r, r < 5 → cnt r = cnt2 r ∧ f r = f2 r ∧ D r = D2 r) : sAt g so cap0 cnt2 f2 D2 lo hi H := by
  obtain ⟨h1, h2, h3, h4, h5⟩ := h
  refine ⟨h1, h2, fun r hr => ?_, fun r i hr hi => ?_, h5⟩
  · rw [← (e r hr).1, ← (e r hr).2.1]; exact h3 r hr
  · rw [← (e r hr).1] at hi
    rw [← (e r hr).2.1, ← (e r hr).2.2]; exact h4 r i hr hi
theorem lIn_out {cnt : Nat → Nat} {row line : Int32} (h : ¬ rIn row) : ¬ lIn cnt row line := fun z => absurd (ctF_out (cnt := cnt) h ▸ z.2 : line < 0) (Int32.not_lt.mpr z.1)
