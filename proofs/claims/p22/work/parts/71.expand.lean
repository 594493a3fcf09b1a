-- WHAT EXPANDING MAKES (p22's facts F1, F6)
/-- an ITEM that expanding made: its KIND, an ALIGN's n, its DEPTH, its LINE of MAIN -/
def itG (D : DT) (cnt : Nat → Nat) (S : IS) (i : Nat) : Prop :=
  (∃ k, k < 8 ∧ S.1 0 i = nI k) ∧ (S.1 0 i = 7 → S.1 3 i = 2 ∨ S.1 3 i = 4 ∨ S.1 3 i = 8) ∧ (∃ t, t < 6 ∧ S.1 6 i = nI t) ∧
  ∃ m, m < cnt 0 ∧ S.1 5 i = nI m ∧ if S.1 6 i = 0 then D 0 m 0 = S.1 0 i else D 0 m 0 = 10
theorem itG.same {D : DT} {cnt : Nat → Nat} {S T : IS} {i : Nat} (h : itG D cnt S i) (h0 : T.1 0 i = S.1 0 i) (h3 : T.1 3 i = S.1 3 i) (h5 : T.1 5 i = S.1 5 i) (h6 : T.1 6 i = S.1 6 i) : itG D cnt T i := by
  unfold itG at h ⊢
  rw [h0, h3, h5, h6]
  exact h
abbrev fnO (v : Int32) : Prop := v = 0 ∨ v = 1 ∨ v = 2 ∨ v = 3 ∨ v = 4
def XI (D : DT) (cnt : Nat → Nat) (m : Nat) (s : XS) : Prop :=
  s.2.1 ≤ 120 ∧ s.2.2.2.2.2 = nI m ∧ (∀ i, i < s.2.1 → (itG D cnt s.1 i ∧ s.1.1 14 i = 0) ∧ ∃ m2, m2 ≤ m ∧ s.1.1 5 i = nI m2) ∧ (∀ i, i + 1 < s.2.1 → s.1.1 5 i ≤ s.1.1 5 (i + 1)) ∧ fnO s.2.2.2.2.1
theorem XI.F {D : DT} {cnt : Nat → Nat} {m : Nat} {s : XS} (h : XI D cnt m s) {v : Int32} (hv : fnO v) : XI D cnt m (xF s v) := ⟨h.1, h.2.1, h.2.2.1, h.2.2.2.1, hv⟩
theorem XI.N {D : DT} {cnt : Nat → Nat} {m : Nat} {s : XS} (h : XI D cnt m s) (N : NS) : XI D cnt m (xN s N) := h
theorem XI.inc {D : DT} {cnt : Nat → Nat} {m : Nat} {s : XS} (h : XI D cnt m s) : XI D cnt m (xInc s) := h
theorem XI.lab {D : DT} {cnt : Nat → Nat} {m : Nat} {s : XS} (h : XI D cnt m s) (x : Int32) : XI D cnt m (xLab s x) := by
  unfold xLab
  split
  · exact h.F (by decide)
  · exact h.N _
theorem XI.set {D : DT} {cnt : Nat → Nat} {m : Nat} {s : XS} (h : XI D cnt m s) (x y n : Int32) : XI D cnt m (xSet s x y n) := by
  unfold xSet
  split
  · exact h.F (by decide)
  · split
    · exact h.F (by decide)
    · exact h.N _
theorem XI.go {D : DT} {cnt : Nat → Nat} {m : Nat} {s : XS} (h : XI D cnt m s) (x y : Int32) : XI D cnt m (xGoS s x y) := by
  unfold xGoS
  split
  · exact h
  · exact h.F (by decide)
theorem XI.app {D : DT} {cnt : Nat → Nat} {m : Nat} {s : XS} (h60 : cnt 0 ≤ 60) (h : XI D cnt m s) (hc : s.2.1 < 120) {k x y n dp : Int32} (hk : ∃ j, j < 8 ∧ k = nI j) (h7 : k = 7 → n = 2 ∨ n = 4 ∨ n = 8) (hdp : ∃ t, t < 6 ∧ dp = nI t) (hm : m < cnt 0) (hD : if dp = 0 then D 0 m 0 = k else D 0 m 0 = 10) : XI D cnt m (xApp s k x y n dp) := by
  obtain ⟨h1, h2, h3, h4, h5⟩ := h
  have f : ∀ (f i : Nat), ik f → ¬ i = s.2.1 → (xApp s k x y n dp).1.1 f i = s.1.1 f i := fun f i hf hi => (tel_1 _ _ _ _ _ _ _ _ _ f hf i).trans (if_neg hi)
  have f0 : (xApp s k x y n dp).1.1 0 s.2.1 = k := (tel_1 _ _ _ _ _ _ _ _ _ 0 (by decide) s.2.1).trans (if_pos rfl)
  have f3 : (xApp s k x y n dp).1.1 3 s.2.1 = n := (tel_1 _ _ _ _ _ _ _ _ _ 3 (by decide) s.2.1).trans (if_pos rfl)
  have f5 : (xApp s k x y n dp).1.1 5 s.2.1 = nI m := ((tel_1 _ _ _ _ _ _ _ _ _ 5 (by decide) s.2.1).trans (if_pos rfl)).trans h2
  have f14 : (xApp s k x y n dp).1.1 14 s.2.1 = 0 := (tel_1 _ _ _ _ _ _ _ _ _ 14 (by decide) s.2.1).trans (if_pos rfl)
  have f6 : (xApp s k x y n dp).1.1 6 s.2.1 = dp := (tel_1 _ _ _ _ _ _ _ _ _ 6 (by decide) s.2.1).trans (if_pos rfl)
  refine ⟨hc, h2, fun i hi => ?_, fun i hi => ?_, h5⟩
  · by_cases e : i = s.2.1
    · subst e
      refine ⟨⟨?_, f14⟩, m, Nat.le_refl _, f5⟩
      unfold itG
      rw [f0, f3, f5, f6]
      exact ⟨hk, h7, hdp, m, hm, rfl, hD⟩
    · have hi2 : i < s.2.1 := by
        have : i < s.2.1 + 1 := hi
        omega
      obtain ⟨⟨a, a14⟩, m2, b, d⟩ := h3 i hi2
      exact ⟨⟨a.same (f 0 i (by decide) e) (f 3 i (by decide) e) (f 5 i (by decide) e) (f 6 i (by decide) e), (f 14 i (by decide) e).trans a14⟩, m2, b, (f 5 i (by decide) e).trans d⟩
  · have hi2 : i + 1 < s.2.1 + 1 := hi
    rw [f 5 i (by decide) (by omega)]
    by_cases e : i + 1 = s.2.1
    · rw [e, f5]
      obtain ⟨-, m2, b, d⟩ := h3 i (by omega)
      rw [d]
      exact nI_le b (by omega)
    · rw [f 5 (i + 1) (by decide) e]
      exact h4 i (by omega)
theorem kin {k : Int32} (h0 : 0 ≤ k) (h1 : k ≤ 10) : ∃ j, j ≤ 10 ∧ k = nI j := nI_of2 (M := 10) (n := 10) (by decide) (Int32.not_lt.mpr h0) h1
abbrev lnG (d : Nat → Int32) : Prop := lnOk (d 0) (d 1) (d 2) (d 3) (d 4)
theorem lnG.call {d : Nat → Int32} (h : lnG d) (e : d 0 = 10) : 0 < d 1 ∧ d 1 < 5 := by
  have := h.2.1
  unfold xOk at this
  rw [e] at this
  simpa using this
theorem XI.lin {D : DT} {cnt : Nat → Nat} {m : Nat} {s : XS} (h60 : cnt 0 ≤ 60) {call : Int32 → Int32 → XS → XS} {dp : Int32} {d : Nat → Int32} (hd : lnG d) (hdp : ∃ t, t < 6 ∧ dp = nI t) (hm : m < cnt 0) (hcall : d 0 = 10 → ∀ r a t, 0 < r → r < 5 → XI D cnt m t → XI D cnt m (call r a t)) (hD : if dp = 0 then D 0 m 0 = d 0 else D 0 m 0 = 10) (arg : Int32) (h : XI D cnt m s) : XI D cnt m (xLin call dp d arg s).1 := by
  unfold xLin
  have h := h.inc
  generalize xInc s = s at h
  have h7 : d 0 = 7 → (if d 4 = 0 then d 3 else d 3 + arg) = 2 ∨ (if d 4 = 0 then d 3 else d 3 + arg) = 4 ∨ (if d 4 = 0 then d 3 else d 3 + arg) = 8 := fun e => by
    obtain ⟨-, -, -, h3, h4⟩ := hd
    rcases h4 with h4 | h4
    · rw [if_pos h4]
      unfold nOk at h3
      rw [e] at h3
      simpa using h3
    · exact absurd e h4.2.2.2
  generalize (if d 4 = 0 then d 3 else d 3 + arg) = n at h7
  unfold xLin2
  by_cases a : xOver s (d 0)
  · rw [if_pos a]; exact h.F (by decide)
  rw [if_neg a]
  by_cases b : d 0 = 10
  · rw [if_pos b]
    exact hcall b _ _ _ (hd.call b).1 (hd.call b).2 h
  rw [if_neg b]
  by_cases e8 : d 0 = 8
  · rw [if_pos e8]; exact h.go _ _
  rw [if_neg e8]
  by_cases e9 : d 0 = 9
  · rw [if_pos e9]; exact h
  rw [if_neg e9]
  have hc : s.2.1 < 120 := Nat.lt_of_not_le (fun z => a (Or.inr ⟨⟨e8, e9, b⟩, z⟩))
  have hk : ∃ j, j < 8 ∧ d 0 = nI j := by
    obtain ⟨j, hj, e⟩ := kin hd.1.1 hd.1.2
    refine ⟨j, ?_, e⟩
    have z8 : j ≠ 8 := fun z => e8 (by rw [e, z]; rfl)
    have z9 : j ≠ 9 := fun z => e9 (by rw [e, z]; rfl)
    have z10 : j ≠ 10 := fun z => b (by rw [e, z]; rfl)
    omega
  show XI D cnt m (xApp (if d 0 = 0 then xLab s (d 1) else if d 0 = 1 then xSet s (d 1) (d 2) n else s) (d 0) (d 1) (d 2) n dp)
  by_cases k0 : d 0 = 0
  · rw [if_pos k0]
    exact (h.lab _).app h60 (by rw [xLab_c]; exact hc) hk h7 hdp hm hD
  rw [if_neg k0]
  by_cases k1 : d 0 = 1
  · rw [if_pos k1]
    exact (h.set _ _ _).app h60 (by rw [xSet_c]; exact hc) hk h7 hdp hm hD
  rw [if_neg k1]
  exact h.app h60 hc hk h7 hdp hm hD
theorem XI.loop {D : DT} {cnt : Nat → Nat} {m : Nat} (h60 : cnt 0 ≤ 60) {call : Int32 → Int32 → XS → XS} {t : Nat} (ht0 : 0 < t) (ht : t < 6) {E : Nat → Nat → Int32} (hm : m < cnt 0) (hcall : ∀ r a t, 0 < r → r < 5 → XI D cnt m t → XI D cnt m (call r a t)) (h10 : D 0 m 0 = 10) (arg : Int32) : ∀ (n i : Nat) (o : Int32) (s : XS), (∀ j, i ≤ j → j < i + n → lnG (E j)) → XI D cnt m s → XI D cnt m (xLoop call (nI t) E arg n i o s)
  | 0, _, _, _, _, h => h
  | n + 1, i, o, s, hE, h => by
    have hn0 : ¬ nI t = 0 := nI_ne0 ht0 (by omega)
    have hm2 : XI D cnt m (xMl s (nI t) i) := by
      unfold xMl
      rw [if_neg hn0]
      exact h
    have hl := XI.lin (call := call) h60 (hE i (by omega) (by omega)) ⟨t, ht, rfl⟩ hm (fun _ => hcall) (by rw [if_neg hn0]; exact h10) arg hm2
    have hE2 : ∀ j, i + 1 ≤ j → j < i + 1 + n → lnG (E j) := fun j a b => hE j (by omega) (by omega)
    simp only [xLoop]
    split
    · exact h
    · split
      · split
        · exact XI.loop h60 ht0 ht hm hcall h10 arg n (i + 1) _ _ hE2 hl
        · exact XI.loop h60 ht0 ht hm hcall h10 arg n (i + 1) _ _ hE2 hl
      · exact XI.loop h60 ht0 ht hm hcall h10 arg n (i + 1) _ _ hE2 hm2
/-- all LINES are as they may be -/
def lnsG (D : DT) (cnt : Nat → Nat) : Prop := (∀ r, r < 5 → cnt r ≤ 60 ∧ ∀ i, i < cnt r → lnG (D r i))
theorem row_in {row : Int32} (h0 : 0 < row) (h5 : row < 5) : ∃ r, r < 5 ∧ 0 < r ∧ row = nI r := by
  obtain ⟨r, hr, rfl⟩ := rIn_ex (row := row) ⟨Int32.le_of_lt h0, h5⟩
  refine ⟨r, hr, ?_, rfl⟩
  rcases Nat.eq_zero_or_pos r with z | z
  · subst z; exact absurd h0 (by decide)
  · exact z
theorem XI.call {D : DT} {cnt : Nat → Nat} (hG : lnsG D cnt) {m : Nat} (hm : m < cnt 0) (h10 : D 0 m 0 = 10) : ∀ (k : Nat), k ≤ 5 → ∀ (row arg : Int32) (s : XS), 0 < row → row < 5 → XI D cnt m s → XI D cnt m (xCall D cnt k row arg s)
  | 0, _, _, _, _, _, _, h => h.F (by decide)
  | k + 1, hk, row, arg, s, h0, h5, h => by
    obtain ⟨r, hr, -, rfl⟩ := row_in h0 h5
    have hc : cnX cnt (nI r) = cnt r := by
      unfold cnX
      rw [if_pos (rIn_nI hr), rIn_tn hr]
    simp only [xCall]
    rw [hc, rIn_tn hr]
    exact XI.loop (hG 0 (by omega)).1 (by omega) (by omega) hm (fun r a t z0 z5 hz => XI.call hG hm h10 k (by omega) r a t z0 z5 hz) h10 arg (cnt r) 0 0 s (fun j _ b => (hG r hr).2 j (by omega)) h
theorem XI.ml {D : DT} {cnt : Nat → Nat} {m i : Nat} {s : XS} (h : XI D cnt m s) (hm : m ≤ i) : XI D cnt i (xMl s 0 i) := by
  obtain ⟨h1, h2, h3, h4, h5⟩ := h
  have e : (xMl s 0 i).2.2.2.2.2 = nI i := by
    show (if (0 : Int32) = 0 then nI i else s.2.2.2.2.2) = nI i
    rw [if_pos rfl]
  refine ⟨h1, e, fun j hj => ?_, h4, h5⟩
  obtain ⟨a, m2, b, d⟩ := h3 j hj
  exact ⟨a, m2, by omega, d⟩
theorem XI.top {D : DT} {cnt : Nat → Nat} (hG : lnsG D cnt) : ∀ (n i : Nat) (o : Int32) (s : XS) (m : Nat), i + n = cnt 0 → m ≤ i → XI D cnt m s → ∃ m2, XI D cnt m2 (xLoop (xCall D cnt 5) 0 (D 0) 0 n i o s)
  | 0, _, _, _, m, _, _, h => ⟨m, h⟩
  | n + 1, i, o, s, m, hn, hmi, h => by
    have hm2 := h.ml hmi
    have hl := XI.lin (call := xCall D cnt 5) (dp := 0) (hG 0 (by omega)).1 ((hG 0 (by omega)).2 i (by omega)) ⟨0, by omega, rfl⟩ (show i < cnt 0 by omega) (fun h10 r a t z0 z5 hz => XI.call hG (by omega) h10 5 (by omega) r a t z0 z5 hz) (by rw [if_pos rfl]) 0 hm2
    simp only [xLoop]
    split
    · exact ⟨m, h⟩
    · split
      · split
        · exact XI.top hG n (i + 1) _ _ i (by omega) (by omega) hl
        · exact XI.top hG n (i + 1) _ _ i (by omega) (by omega) hl
      · exact XI.top hG n (i + 1) _ _ i (by omega) (by omega) hm2
theorem xTop (D : DT) (cnt : Nat → Nat) (s : XS) : xCall D cnt 6 0 0 s = xLoop (xCall D cnt 5) 0 (D 0) 0 (cnt 0) 0 0 s := by
  have hc : cnX cnt 0 = cnt 0 := by
    unfold cnX
    rw [if_pos (show rIn 0 from rIn_nI (r := 0) (by omega))]
    rfl
  show xLoop (xCall D cnt 5) (nI (5 - 5)) (D (0 : Int32).toNatClampNeg) 0 (cnX cnt 0) 0 0 s = _
  rw [hc]
  rfl
/-- what expanding all makes -/
def expF (D : DT) (cnt : Nat → Nat) (y : YS) : XS := xCall D cnt 6 0 0 (y.1, 0, nn0, 0, 0, 0)
theorem exp_XI {D : DT} {cnt : Nat → Nat} (hG : lnsG D cnt) (y : YS) : ∃ m, XI D cnt m (expF D cnt y) := by
  unfold expF
  rw [xTop]
  exact XI.top hG (cnt 0) 0 0 _ 0 (by omega) (Nat.le_refl _) ⟨Nat.zero_le _, rfl, fun i hi => absurd hi (Nat.not_lt_zero i), fun i hi => absurd hi (Nat.not_lt_zero _), Or.inl rfl⟩
