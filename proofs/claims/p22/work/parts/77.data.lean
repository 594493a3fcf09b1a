-- A DATA AT MAIN'S END: ONE ITEM MORE IN FRONT OF THE LAST POOL (p22's fact F8)
abbrev dK (k : Nat) : Prop := k ≤ 4 ∨ 11 ≤ k ∧ k ≤ 14
/-- U is T with a DATA in front of its last, the POOL c -/
def dE (c : Nat) (T U : IS) : Prop := (∀ k i, dK k → i < c → T.1 k i = U.1 k i) ∧ (∀ k i, (k = 7 ∨ k = 8) → i < c → T.2 k i = U.2 k i ∧ ∀ j, T.2 k i = some j → j < c) ∧ T.1 0 c = 6 ∧ U.1 0 c = 2 ∧ U.1 0 (c + 1) = 6 ∧ U.1 1 c = -1 ∧ U.1 2 c = -1 ∧ T.1 11 c = U.1 11 (c + 1)
section DE
variable {c : Nat} {T U : IS}
theorem dE.of {T2 U2 : IS} (h : dE c T U) (ht : T2.1 = T.1) (hu : U2.1 = U.1) (ht2 : ∀ k i, (k = 7 ∨ k = 8) → i < c → T2.2 k i = T.2 k i) (hu2 : ∀ k i, (k = 7 ∨ k = 8) → i < c → U2.2 k i = U.2 k i) : dE c T2 U2 := by
  obtain ⟨h1, h2, h3⟩ := h
  unfold dE
  rw [ht, hu]
  refine ⟨h1, fun k i hk hi => ?_, h3⟩
  rw [ht2 k i hk hi, hu2 k i hk hi]
  exact h2 k i hk hi
theorem dE.I (h : dE c T U) {i : Nat} (hi : i < c) (k : Nat) (v : Int32) : dE c (sI T k i v) (sI U k i v) := by
  obtain ⟨h1, h2, h3, h4, h5, h6, h7, h8⟩ := h
  refine ⟨fun k2 i2 hk hi2 => ?_, h2, ?_, ?_, ?_, ?_, ?_, ?_⟩
  · rw [sI_ap, sI_ap]
    by_cases z : k2 = k ∧ i2 = i
    · rw [if_pos z, if_pos z]
    · rw [if_neg z, if_neg z]
      exact h1 k2 i2 hk hi2
  · rw [sI_ap, if_neg (fun z => by have := z.2; omega)]; exact h3
  · rw [sI_ap, if_neg (fun z => by have := z.2; omega)]; exact h4
  · rw [sI_ap, if_neg (fun z => by have := z.2; omega)]; exact h5
  · rw [sI_ap, if_neg (fun z => by have := z.2; omega)]; exact h6
  · rw [sI_ap, if_neg (fun z => by have := z.2; omega)]; exact h7
  · rw [sI_ap, if_neg (fun z => by have := z.2; omega), sI_ap, if_neg (fun z => by have := z.2; omega)]; exact h8
theorem dE.I10 (h : dE c T U) {i : Nat} (hi : i < c) (v w : Int32) : dE c (sI T 10 i v) (sI U 10 i w) := by
  obtain ⟨h1, h2, h3, h4, h5, h6, h7, h8⟩ := h
  refine ⟨fun k2 i2 hk hi2 => ?_, h2, ?_, ?_, ?_, ?_, ?_, ?_⟩
  · rw [sI_ap, sI_ap, if_neg (fun z => by have := z.1; omega), if_neg (fun z => by have := z.1; omega)]
    exact h1 k2 i2 hk hi2
  · rw [sI_ap, if_neg (fun z => by have := z.2; omega)]; exact h3
  · rw [sI_ap, if_neg (fun z => by have := z.2; omega)]; exact h4
  · rw [sI_ap, if_neg (fun z => by have := z.2; omega)]; exact h5
  · rw [sI_ap, if_neg (fun z => by have := z.2; omega)]; exact h6
  · rw [sI_ap, if_neg (fun z => by have := z.2; omega)]; exact h7
  · rw [sI_ap, if_neg (fun z => by have := z.2; omega), sI_ap, if_neg (fun z => by have := z.2; omega)]; exact h8
/-- at the POOL: places alone are told -/
theorem dE.tI (h : dE c T U) {k : Nat} (hk : k = 12 ∨ k = 13 ∨ k = 4) (v : Int32) : dE c (sI T k c v) U := by
  obtain ⟨h1, h2, h3, h4, h5, h6, h7, h8⟩ := h
  refine ⟨fun k2 i2 hk2 hi2 => ?_, h2, ?_, h4, h5, h6, h7, ?_⟩
  · rw [sI_ap, if_neg (fun z => by have := z.2; omega)]
    exact h1 k2 i2 hk2 hi2
  · rw [sI_ap, if_neg (fun z => by have := z.1; omega)]; exact h3
  · rw [sI_ap, if_neg (fun z => by have := z.1; omega)]; exact h8
theorem dE.uI (h : dE c T U) {k j : Nat} (hk : k = 12 ∨ k = 13 ∨ k = 4) (hj : c ≤ j) (v : Int32) : dE c T (sI U k j v) := by
  obtain ⟨h1, h2, h3, h4, h5, h6, h7, h8⟩ := h
  refine ⟨fun k2 i2 hk2 hi2 => ?_, h2, h3, ?_, ?_, ?_, ?_, ?_⟩
  · rw [sI_ap, if_neg (fun z => by have := z.2; omega)]
    exact h1 k2 i2 hk2 hi2
  · rw [sI_ap, if_neg (fun z => by have := z.1; omega)]; exact h4
  · rw [sI_ap, if_neg (fun z => by have := z.1; omega)]; exact h5
  · rw [sI_ap, if_neg (fun z => by have := z.1; omega)]; exact h6
  · rw [sI_ap, if_neg (fun z => by have := z.1; omega)]; exact h7
  · rw [sI_ap, if_neg (fun z => by have := z.1; omega)]; exact h8
theorem dE.p11 (h : dE c T U) (v : Int32) : dE c (sI T 11 c v) (sI U 11 (c + 1) v) := by
  obtain ⟨h1, h2, h3, h4, h5, h6, h7, h8⟩ := h
  refine ⟨fun k2 i2 hk2 hi2 => ?_, h2, ?_, ?_, ?_, ?_, ?_, ?_⟩
  · rw [sI_ap, if_neg (fun z => by have := z.2; omega), sI_ap, if_neg (fun z => by have := z.2; omega)]
    exact h1 k2 i2 hk2 hi2
  · rw [sI_ap, if_neg (fun z => by have := z.1; omega)]; exact h3
  · rw [sI_ap, if_neg (fun z => by have := z.1; omega)]; exact h4
  · rw [sI_ap, if_neg (fun z => by have := z.1; omega)]; exact h5
  · rw [sI_ap, if_neg (fun z => by have := z.1; omega)]; exact h6
  · rw [sI_ap, if_neg (fun z => by have := z.1; omega)]; exact h7
  · rw [sI_ap, if_pos ⟨rfl, rfl⟩, sI_ap, if_pos ⟨rfl, rfl⟩]
theorem dE.R (h : dE c T U) {i k : Nat} {o : Option Nat} (ho : ∀ j, o = some j → j < c) : dE c (sR T k i o) (sR U k i o) := by
  obtain ⟨h1, h2, h3⟩ := h
  refine ⟨h1, fun k2 i2 hk hi => ?_, h3⟩
  rw [sR_ap, sR_ap]
  by_cases z : k2 = k ∧ i2 = i
  · rw [if_pos z, if_pos z]
    exact ⟨rfl, ho⟩
  · rw [if_neg z, if_neg z]
    exact h2 k2 i2 hk hi
theorem dE.f (h : dE c T U) {i : Nat} (hi : i < c) (k : Nat) (hk : dK k := by decide) : T.1 k i = U.1 k i := h.1 k i hk hi
theorem dE.nbe (h : dE c T U) {k x : Int32} (h6 : ¬ (6 : Int32) = k) (h2 : ¬ (2 : Int32) = k) : ∀ (n i : Nat), i + n = c → nBe T k x (n + 1) i = nBe U k x (n + 2) i ∧ ∀ j, nBe T k x (n + 1) i = some j → j < c
  | 0, i, hi => by
    have : i = c := by omega
    subst this
    obtain ⟨-, -, t0, u0, u1, -⟩ := h
    have e1 : nBe T k x 1 i = none := by
      simp only [nBe]
      rw [if_neg (fun z => h6 (t0.symm.trans z.1))]
    have e2 : nBe U k x 2 i = none := by
      simp only [nBe]
      rw [if_neg (fun z => h2 (u0.symm.trans z.1)), if_neg (fun z => h6 (u1.symm.trans z.1))]
    show nBe T k x 1 i = nBe U k x 2 i ∧ ∀ j, nBe T k x 1 i = some j → j < i
    rw [e1, e2]
    exact ⟨rfl, fun j e => by cases e⟩
  | n + 1, i, hi => by
    have ih := dE.nbe h (x := x) h6 h2 n (i + 1) (by omega)
    have e1 : nBe T k x (n + 1 + 1) i = if T.1 0 i = k ∧ T.1 1 i = x then some i else nBe T k x (n + 1) (i + 1) := rfl
    have e2 : nBe U k x (n + 1 + 2) i = if U.1 0 i = k ∧ U.1 1 i = x then some i else nBe U k x (n + 2) (i + 1) := rfl
    rw [e1, e2, ← h.f (i := i) (by omega) 0, ← h.f (i := i) (by omega) 1, ← ih.1]
    refine ⟨rfl, fun j e => ?_⟩
    split at e
    · cases e; omega
    · exact ih.2 j e
theorem dE.nah (h : dE c T U) (k x : Int32) : ∀ t, t ≤ c → nAh T k x t = nAh U k x t
  | 0, _ => rfl
  | t + 1, ht => by
    simp only [nAh]
    rw [h.f (i := t) (by omega) 0, h.f (i := t) (by omega) 1, dE.nah h k x t (by omega)]
theorem dE.gvo (h : dE c T U) (x : Int32) {i : Nat} (hi : i < c) : gvO T (c + 1) x i = gvO U (c + 2) x i ∧ ∀ j, gvO T (c + 1) x i = some j → j < c := by
  have b0 := h.nbe (k := 0) (x := x) (by decide) (by decide) (c - (i + 1)) (i + 1) (by omega)
  have b2 := h.nbe (k := 0) (x := x - 2) (by decide) (by decide) (c - (i + 1)) (i + 1) (by omega)
  have e1 : c + 1 - (i + 1) = c - (i + 1) + 1 := by omega
  have e2 : c + 2 - (i + 1) = c - (i + 1) + 2 := by omega
  have m1 : min i (c + 1) = i := by omega
  have m2 : min i (c + 2) = i := by omega
  unfold gvO
  rw [e1, e2, m1, m2, ← b0.1, ← b2.1, ← h.nah 0 x i (by omega), ← h.nah 1 x i (by omega)]
  refine ⟨rfl, fun j e => ?_⟩
  split at e
  · exact b2.2 j e
  · split at e
    · rename_i j2 e2
      have := nAh_lt e2
      cases e
      omega
    · split at e
      · split at e
        · rename_i j2 e2
          cases e
          exact b0.2 _ e2
        · have := nAh_lt e
          omega
      · cases e
theorem dE.xg (h : dE c T U) (x : Int32) {i : Nat} (hi : i < c) : xgO T (c + 1) i x = xgO U (c + 2) i x ∧ ∀ j, xgO T (c + 1) i x = some j → j < c := by
  unfold xgO
  split
  · exact ⟨rfl, fun j e => by cases e⟩
  · exact h.gvo x hi
theorem dE.lk (h : dE c T U) {i : Nat} (hi : i < c) : dE c (lkS T (c + 1) i) (lkS U (c + 2) i) := by
  unfold lkS
  rw [← h.f hi 1, ← h.f hi 2, ← (h.xg (T.1 1 i) hi).1, ← (h.xg (T.1 2 i) hi).1]
  exact (h.R (h.xg (T.1 1 i) hi).2).R (h.xg (T.1 2 i) hi).2
theorem dE.hv (h : dE c T U) {i : Nat} (hi : i < c) : hvF T i ↔ hvF U i := by
  unfold hvF brF
  rw [h.f hi 0]
theorem dE.mis (h : dE c T U) {i : Nat} (hi : i < c) : misF T (c + 1) i ↔ misF U (c + 2) i := by
  unfold misF
  rw [h.f hi 1, h.f hi 2, (h.gvo (U.1 1 i) hi).1, (h.gvo (U.1 2 i) hi).1]
theorem dE.lkvD : ∀ (n i : Nat) (T U : IS), i + n = c → dE c T U → dE c (lkv (c + 1) (n + 1) i T).1 (lkv (c + 2) (n + 2) i U).1 ∧ (lkv (c + 1) (n + 1) i T).2 = (lkv (c + 2) (n + 2) i U).2
  | 0, i, T, U, hi, h => by
    have : i = c := by omega
    subst this
    obtain ⟨h1, h2, t0, u0, u1, x1, x2, x3⟩ := id h
    have e1 : lkv (i + 1) 1 i T = (T, -1) := by
      simp only [lkv]
      rw [if_neg]
      unfold hvF brF
      rw [t0]
      decide
    have e2 : lkv (i + 2) 2 i U = (lkS U (i + 2) i, -1) := by
      simp only [lkv]
      rw [if_pos (Or.inl u0), if_neg, if_neg]
      · unfold hvF brF
        rw [show (lkS U (i + 2) i).1 0 (i + 1) = 6 from u1]
        decide
      · unfold misF
        rw [x1, x2]
        exact fun z => z.elim (fun z => z.1 rfl) (fun z => z.1 rfl)
    show dE i (lkv (i + 1) 1 i T).1 (lkv (i + 2) 2 i U).1 ∧ (lkv (i + 1) 1 i T).2 = (lkv (i + 2) 2 i U).2
    rw [e1, e2]
    refine ⟨h.of rfl rfl (fun _ _ _ _ => rfl) (fun k j hk hj => ?_), rfl⟩
    show (sR (sR U 7 i _) 8 i _).2 k j = _
    rw [sR_ap, if_neg (fun z => by have := z.2; omega), sR_ap, if_neg (fun z => by have := z.2; omega)]
  | n + 1, i, T, U, hi, h => by
    have hi2 : i < c := by omega
    have e1 : lkv (c + 1) (n + 1 + 1) i T = if hvF T i then (if misF T (c + 1) i then (lkS T (c + 1) i, nI i) else lkv (c + 1) (n + 1) (i + 1) (lkS T (c + 1) i)) else lkv (c + 1) (n + 1) (i + 1) T := rfl
    have e2 : lkv (c + 2) (n + 1 + 2) i U = if hvF U i then (if misF U (c + 2) i then (lkS U (c + 2) i, nI i) else lkv (c + 2) (n + 2) (i + 1) (lkS U (c + 2) i)) else lkv (c + 2) (n + 2) (i + 1) U := rfl
    rw [e1, e2, ← if_iff (h.hv hi2), ← if_iff (h.mis hi2)]
    by_cases a : hvF T i
    · rw [if_pos a, if_pos a]
      by_cases b : misF T (c + 1) i
      · rw [if_pos b, if_pos b]
        exact ⟨h.lk hi2, rfl⟩
      · rw [if_neg b, if_neg b]
        exact dE.lkvD n (i + 1) _ _ (by omega) (h.lk hi2)
    · rw [if_neg a, if_neg a]
      exact dE.lkvD n (i + 1) _ _ (by omega) h
theorem tlp_78 (q : Nat) {k : Nat} (hk : k ≠ 9) (j : Nat) : ∀ (n f : Nat) (S : IS), (tlp q n f S).2 k j = S.2 k j
  | 0, _, _ => rfl
  | n + 1, f, S => by
    simp only [tlp]
    rw [tlp_78 q hk j n (f + 1), sR_ap, if_neg (fun z => hk z.1)]
theorem dE.tlpD (h : dE c T U) (q n f q2 n2 f2 : Nat) : dE c (tlp q n f T) (tlp q2 n2 f2 U) :=
  h.of (tlp_1 q n f T) (tlp_1 q2 n2 f2 U) (fun k j hk _ => tlp_78 q (by omega) j n f T) (fun k j hk _ => tlp_78 q2 (by omega) j n2 f2 U)
theorem dE.losD (h : dE c T U) {i : Nat} (hi : i < c) : ∀ n f, f + n ≤ c → los T i n f = los U i n f
  | 0, _, _ => rfl
  | n + 1, f, hn => by
    simp only [los]
    rw [h.f (i := f) (by omega) 0, h.f (i := f) (by omega) 3, h.f hi 3, dE.losD h hi n (f + 1) (by omega)]
theorem dE.lkpD : ∀ (n i : Nat) (T U : IS) (f : Nat) (d : Int32), i + n = c → f ≤ i → dE c T U → dE c (lkp (n + 1) i T f d) (lkp (n + 2) i U f d)
  | 0, i, T, U, f, d, hi, hf, h => by
    have : i = c := by omega
    subst this
    obtain ⟨-, -, t0, u0, u1, -⟩ := id h
    have e1 : lkp 1 i T f d = tlp i (i - f) f (sI T 11 i d) := by
      simp only [lkp]
      rw [if_neg (by rw [t0]; decide), if_pos t0]
    have e2 : lkp 2 i U f d = tlp (i + 1) (i + 1 - f) f (sI U 11 (i + 1) d) := by
      simp only [lkp]
      rw [if_neg (by rw [u0]; decide), if_neg (by rw [u0]; decide), if_neg (by rw [u1]; decide), if_pos u1]
    show dE i (lkp 1 i T f d) (lkp 2 i U f d)
    rw [e1, e2]
    exact (h.p11 d).tlpD _ _ _ _ _ _
  | n + 1, i, T, U, f, d, hi, hf, h => by
    have hi2 : i < c := by omega
    have e1 : lkp (n + 1 + 1) i T f d = if T.1 0 i = 5 then (match los T i (i - f) f with
      | none => lkp (n + 1) (i + 1) (sI T 10 i d) f (d + 1)
      | some j => lkp (n + 1) (i + 1) (sI T 10 i (T.1 10 j)) f (d + 0)) else if T.1 0 i = 6 then lkp (n + 1) (i + 1) (tlp i (i - f) f (sI T 11 i d)) (i + 1) 0 else lkp (n + 1) (i + 1) T f d := rfl
    have e2 : lkp (n + 1 + 2) i U f d = if U.1 0 i = 5 then (match los U i (i - f) f with
      | none => lkp (n + 2) (i + 1) (sI U 10 i d) f (d + 1)
      | some j => lkp (n + 2) (i + 1) (sI U 10 i (U.1 10 j)) f (d + 0)) else if U.1 0 i = 6 then lkp (n + 2) (i + 1) (tlp i (i - f) f (sI U 11 i d)) (i + 1) 0 else lkp (n + 2) (i + 1) U f d := rfl
    rw [e1, e2, ← h.f hi2 0, ← h.losD hi2 (i - f) f (by omega)]
    by_cases a : T.1 0 i = 5
    · rw [if_pos a, if_pos a]
      cases los T i (i - f) f with
      | none => exact dE.lkpD n (i + 1) _ _ f _ (by omega) (by omega) (h.I10 hi2 d d)
      | some j => exact dE.lkpD n (i + 1) _ _ f _ (by omega) (by omega) (h.I10 hi2 _ _)
    · rw [if_neg a, if_neg a]
      by_cases b : T.1 0 i = 6
      · rw [if_pos b, if_pos b]
        exact dE.lkpD n (i + 1) _ _ (i + 1) 0 (by omega) (by omega) ((h.I hi2 11 d).tlpD _ _ _ _ _ _)
      · rw [if_neg b, if_neg b]
        exact dE.lkpD n (i + 1) _ _ f d (by omega) (by omega) h
theorem dE.sz (h : dE c T U) {i : Nat} (hi : i < c) (st : Int32) : szF T i st = szF U i st := szF_k (h.f hi 0) (h.f hi 14) (h.f hi 11) (h.f hi 3) st
theorem dE.pl (h : dE c T U) {i : Nat} (hi : i < c) (ad : Int32) : dE c (plS T i ad) (plS U i ad) := by
  unfold plS
  have h1 := h.I hi 12 ad
  have h2 : dE c (sI (sI T 12 i ad) 13 i (szF (sI T 12 i ad) i ad)) (sI (sI U 12 i ad) 13 i (szF (sI U 12 i ad) i ad)) := by
    rw [← h1.sz hi ad]
    exact h1.I hi 13 _
  dsimp only
  rw [← h2.f hi 0, ← h2.f hi 4]
  exact h2.I hi 4 _
theorem dE.plT (h : dE c T U) (ad : Int32) : dE c (plS T c ad) U := ((h.tI (Or.inl rfl) _).tI (Or.inr (Or.inl rfl)) _).tI (Or.inr (Or.inr rfl)) _
theorem dE.plU (h : dE c T U) {j : Nat} (hj : c ≤ j) (ad : Int32) : dE c T (plS U j ad) := ((h.uI (Or.inl rfl) hj _).uI (Or.inr (Or.inl rfl)) hj _).uI (Or.inr (Or.inr rfl)) hj _
theorem dE.plcD : ∀ (n i : Nat) (T U : IS) (ad : Int32), i + n = c → dE c T U → dE c (plc (n + 1) i T ad) (plc (n + 2) i U ad)
  | 0, i, T, U, ad, hi, h => by
    have : i = c := by omega
    subst this
    show dE i (plS T i ad) (plS (plS U i ad) (i + 1) _)
    exact ((h.plT ad).plU (Nat.le_refl _) ad).plU (by omega) _
  | n + 1, i, T, U, ad, hi, h => by
    have h2 := h.pl (i := i) (by omega) ad
    show dE c (plc (n + 1) (i + 1) (plS T i ad) (ad + (plS T i ad).1 13 i)) (plc (n + 2) (i + 1) (plS U i ad) (ad + (plS U i ad).1 13 i))
    rw [← h2.f (i := i) (by omega) 13]
    exact dE.plcD n (i + 1) _ _ _ (by omega) h2
theorem dE.gv (h : dE c T U) {i k : Nat} (hi : i < c) (hk : k = 7 ∨ k = 8) : gvF T (T.2 k i) = gvF U (U.2 k i) := by
  obtain ⟨e, b⟩ := h.2.1 k i hk hi
  rw [← e]
  cases z : T.2 k i with
  | none => rfl
  | some j => exact h.f (b j z) 4
theorem dE.near (h : dE c T U) {i : Nat} (hi : i < c) : nearF T i ↔ nearF U i := by
  unfold nearF dstF valF
  rw [h.gv hi (Or.inl rfl), h.gv hi (Or.inr rfl), h.f hi 3, h.f hi 12]
theorem dE.lngD : ∀ (n i : Nat) (T U : IS) (b : Int32), i + n = c → dE c T U → dE c (lng (n + 1) i T b).1 (lng (n + 2) i U b).1 ∧ (lng (n + 1) i T b).2 = (lng (n + 2) i U b).2
  | 0, i, T, U, b, hi, h => by
    have : i = c := by omega
    subst this
    obtain ⟨-, -, t0, u0, u1, -⟩ := id h
    have e1 : lng 1 i T b = (T, b) := by
      simp only [lng]
      rw [if_neg]
      unfold brF
      rw [t0]
      exact fun z => absurd z.1 (by decide)
    have e2 : lng 2 i U b = (U, b) := by
      simp only [lng]
      rw [if_neg, if_neg]
      · unfold brF
        rw [u1]
        exact fun z => absurd z.1 (by decide)
      · unfold brF
        rw [u0]
        exact fun z => absurd z.1 (by decide)
    show dE i (lng 1 i T b).1 (lng 2 i U b).1 ∧ (lng 1 i T b).2 = (lng 2 i U b).2
    rw [e1, e2]
    exact ⟨h, rfl⟩
  | n + 1, i, T, U, b, hi, h => by
    have hi2 : i < c := by omega
    have e1 : lng (n + 1 + 1) i T b = if brF T i ∧ T.1 14 i = 0 ∧ ¬ nearF T i then lng (n + 1) (i + 1) (sI T 14 i 1) 1 else lng (n + 1) (i + 1) T b := rfl
    have e2 : lng (n + 1 + 2) i U b = if brF U i ∧ U.1 14 i = 0 ∧ ¬ nearF U i then lng (n + 2) (i + 1) (sI U 14 i 1) 1 else lng (n + 2) (i + 1) U b := rfl
    have hb : brF T i ↔ brF U i := by unfold brF; rw [h.f hi2 0]
    rw [e1, e2, ← if_iff (show (brF T i ∧ T.1 14 i = 0 ∧ ¬ nearF T i) ↔ (brF U i ∧ U.1 14 i = 0 ∧ ¬ nearF U i) by rw [hb, h.f hi2 14, h.near hi2])]
    by_cases a : brF T i ∧ T.1 14 i = 0 ∧ ¬ nearF T i
    · rw [if_pos a, if_pos a]
      exact dE.lngD n (i + 1) _ _ _ (by omega) (h.I hi2 14 1)
    · rw [if_neg a, if_neg a]
      exact dE.lngD n (i + 1) _ _ _ (by omega) h
theorem dE.rndD : ∀ (n j : Nat) (b : Int32) (T U : IS), dE c T U → dE c (rnd (c + 1) n j b T).1 (rnd (c + 2) n j b U).1
  | 0, _, _, _, _, h => h
  | n + 1, j, b, T, U, h => by
    simp only [rnd]
    by_cases a : b = 0
    · rw [if_pos a, if_pos a]
      exact h
    · rw [if_neg a, if_neg a]
      have h1 : dE c (plc (c + 1) 0 T 0) (plc (c + 2) 0 U 0) := dE.plcD c 0 T U 0 (by omega) h
      have h2 : dE c (lng (c + 1) 0 (plc (c + 1) 0 T 0) 0).1 (lng (c + 2) 0 (plc (c + 2) 0 U 0) 0).1 ∧ (lng (c + 1) 0 (plc (c + 1) 0 T 0) 0).2 = (lng (c + 2) 0 (plc (c + 2) 0 U 0) 0).2 := dE.lngD c 0 _ _ 0 (by omega) h1
      rw [← h2.2]
      exact dE.rndD n (j + 1) _ _ _ h2.1
end DE
theorem asmL_no {S : IS} {c : Nat} {qd : Int32} (h : iaO c (lkv c c 0 S).2 = none) : asmL S c qd = asmT (lkp c 0 (lkv c c 0 S).1 0 0) c qd := by
  unfold asmL
  rw [h]
theorem lkv_no {c : Nat} (hc : c < 2 ^ 31) : ∀ (n i : Nat) (S : IS), i + n = c → iaO c (lkv c n i S).2 = none → (lkv c n i S).2 = -1
  | 0, _, _, _, _ => rfl
  | n + 1, i, S, hi, e => by
    simp only [lkv] at e ⊢
    split at e
    · rename_i a
      rw [if_pos a]
      split at e
      · rw [iaO_in (by omega) hc] at e
        cases e
      · rename_i b
        rw [if_neg b]
        exact lkv_no hc n (i + 1) _ (by omega) e
    · rename_i a
      rw [if_neg a]
      exact lkv_no hc n (i + 1) _ (by omega) e
theorem tal_k15 {S T : IS} (h : ∀ k j, k ≠ 15 → T.1 k j = S.1 k j) : ∀ (n i : Nat) (u : Int32), tal T 3 n i u = tal S 3 n i u
  | 0, _, _ => rfl
  | n + 1, i, u => by
    have e : ∀ S : IS, shF S i 3 = S.1 13 i := fun S => by
      unfold shF
      rw [if_neg (by decide), if_pos rfl]
    simp only [tal]
    rw [e, e, h 13 i (by decide)]
    exact tal_k15 h n (i + 1) _
theorem dE_start (S : IS) (c : Nat) (ml : Int32) : dE c (telS S c 6 (-1) (-1) 0 0 (-1) 0) (telS (telS S c 2 (-1) (-1) 7 0 ml 0) (c + 1) 6 (-1) (-1) 0 0 (-1) 0) ∨ ∃ k i j, (k = 7 ∨ k = 8) ∧ i < c ∧ S.2 k i = some j ∧ c ≤ j := by
  by_cases z : ∃ k i j, (k = 7 ∨ k = 8) ∧ i < c ∧ S.2 k i = some j ∧ c ≤ j
  · exact Or.inr z
  refine Or.inl ⟨fun k i hk hi => ?_, fun k i hk hi => ?_, ?_, ?_, ?_, ?_, ?_, ?_⟩
  · have hik : ik k := by unfold ik; unfold dK at hk; omega
    rw [tel_1 _ _ _ _ _ _ _ _ _ k hik, if_neg (by omega), tel_1 _ _ _ _ _ _ _ _ _ k hik, if_neg (by omega), tel_1 _ _ _ _ _ _ _ _ _ k hik, if_neg (by omega)]
  · have hrk : rk k := by unfold rk; omega
    rw [tel_2 _ _ _ _ _ _ _ _ _ k hrk, if_neg (by omega), tel_2 _ _ _ _ _ _ _ _ _ k hrk, if_neg (by omega), tel_2 _ _ _ _ _ _ _ _ _ k hrk, if_neg (by omega)]
    exact ⟨rfl, fun j e => Nat.lt_of_not_le (fun y => z ⟨k, i, j, hk, hi, e, y⟩)⟩
  · rw [tel_1 _ _ _ _ _ _ _ _ _ 0 (by decide), if_pos rfl]
    rfl
  · rw [tel_1 _ _ _ _ _ _ _ _ _ 0 (by decide), if_neg (by omega), tel_1 _ _ _ _ _ _ _ _ _ 0 (by decide), if_pos rfl]
    rfl
  · rw [tel_1 _ _ _ _ _ _ _ _ _ 0 (by decide), if_pos rfl]
    rfl
  · rw [tel_1 _ _ _ _ _ _ _ _ _ 1 (by decide), if_neg (by omega), tel_1 _ _ _ _ _ _ _ _ _ 1 (by decide), if_pos rfl]
    rfl
  · rw [tel_1 _ _ _ _ _ _ _ _ _ 2 (by decide), if_neg (by omega), tel_1 _ _ _ _ _ _ _ _ _ 2 (by decide), if_pos rfl]
    rfl
  · rw [tel_1 _ _ _ _ _ _ _ _ _ 11 (by decide), if_pos rfl, tel_1 _ _ _ _ _ _ _ _ _ 11 (by decide), if_pos rfl]
theorem exp_refs (D : DT) (cnt : Nat → Nat) (y : YS) : ∀ k i j, rk k → i < (expF D cnt y).2.1 → (expF D cnt y).1.2 k i = some j → j < (expF D cnt y).2.1 :=
  (xE.call D cnt 6 0 0 (y.1, 0, nn0, 0, 0, 0) (y.1, 0, nn0, 0, 0, 0) ⟨sE.zero _ _, rfl, Nat.zero_le _⟩).1.2.2
/-- a DATA of 7 at MAIN's end -/
theorem more_data {D : DT} {cnt : Nat → Nat} (hG : lnsG D cnt) (hc : cnt 0 < 60) (h : (nowF D cnt y00).2.2.2.1 = 0) : (nowF (moreD D cnt (dl 2 (-1) (-1) 7 0)) (moreC cnt) y00).2.2.2.1 = 2 ∨ (nowF (moreD D cnt (dl 2 (-1) (-1) 7 0)) (moreC cnt) y00).2.2.2.1 = 6 ∨
    ((nowF (moreD D cnt (dl 2 (-1) (-1) 7 0)) (moreC cnt) y00).2.2.2.1 = 0 ∧ (wnF (moreD D cnt (dl 2 (-1) (-1) 7 0)) (moreC cnt) = wnF D cnt ∨ wnF (moreD D cnt (dl 2 (-1) (-1) 7 0)) (moreC cnt) = wnF D cnt + 1)) := by
  have hG1 : lnsG (moreD D cnt (dl 2 (-1) (-1) 7 0)) (moreC cnt) := more_G hG hc (by unfold lnG; decide)
  rw [now_fn] at h ⊢
  have h0 := h
  have hx := asm_x0 h0
  rcases exp_data hG y00 hx with z | ⟨z1, z2, z3⟩ | ⟨ml, z1, z2, z3⟩
  · exact Or.inl (asm_x2 z)
  · have e : nowF (moreD D cnt (dl 2 (-1) (-1) 7 0)) (moreC cnt) y00 = nowF D cnt y00 := now_asm (by rw [asmF_x, asmF_x]; exact asmX_same hx z3 z1 z2)
    refine Or.inr (Or.inr ⟨by rw [← now_fn, e, now_fn]; exact h, Or.inl ?_⟩)
    unfold wnF
    rw [e]
  · rcases (Decidable.em ((asmF (moreD D cnt (dl 2 (-1) (-1) 7 0)) (moreC cnt) y00).2.2.2.1 = 0)).symm with hf | hf
    · rw [asmF_x] at h0
      obtain ⟨-, hlk, -, -⟩ := asmX_ok h0
      have hr := exp_refs D cnt y00
      have hst := (dE_start (expF D cnt y00).1 (expF D cnt y00).2.1 ml).resolve_right (fun ⟨k, i, j, a, b, e, g⟩ => by have := hr k i j (by unfold rk; omega) b e; omega)
      have hl2 := dE.lkvD (expF D cnt y00).2.1 0 _ _ (by omega) hst
      have hf2 : ¬ (asmX (expF (moreD D cnt (dl 2 (-1) (-1) 7 0)) (moreC cnt) y00) y00.2.2.1).2.2.2.1 = 0 := hf
      refine Or.inr (Or.inl ?_)
      show (asmX (expF (moreD D cnt (dl 2 (-1) (-1) 7 0)) (moreC cnt) y00) y00.2.2.1).2.2.2.1 = 6
      have hk : (lkv ((expF D cnt y00).2.1 + 1) ((expF D cnt y00).2.1 + 1) 0 (itS1 (expF D cnt y00))).2 = -1 := lkv_no (by
        obtain ⟨m, hI⟩ := exp_XI hG y00
        have := hI.1
        omega) _ 0 _ (by omega) hlk
      have hk2 := hl2.2.symm.trans hk
      generalize expF (moreD D cnt (dl 2 (-1) (-1) 7 0)) (moreC cnt) y00 = Z at hf2 z1 z2 z3 ⊢
      generalize expF D cnt y00 = X at z1 z2 hk2
      unfold asmX at hf2 ⊢
      rw [if_pos z3, z1, z2] at hf2 ⊢
      generalize telS (telS X.1 X.2.1 2 (-1) (-1) 7 0 ml 0) (X.2.1 + 1) 6 (-1) (-1) 0 0 (-1) 0 = V at hf2 hk2 ⊢
      have hn : iaO (X.2.1 + 1 + 1) (lkv (X.2.1 + 1 + 1) (X.2.1 + 1 + 1) 0 V).2 = none := by
        rw [show (lkv (X.2.1 + 1 + 1) (X.2.1 + 1 + 1) 0 V).2 = -1 from hk2]
        exact iaO_out (by decide)
      rw [asmL_no hn] at hf2 ⊢
      exact (asmT_fn _ _ _).resolve_left hf2
    · have hN := asm_NG hG h0
      have hN1 := asm_NG hG1 hf
      have eW : ∀ (D : DT) (cnt : Nat → Nat), lnsG D cnt → (asmF D cnt y00).2.2.2.1 = 0 → ∀ A, PL (asmF D cnt y00).1 (asmF D cnt y00).2.1 A → wnF D cnt = A (asmF D cnt y00).2.1 := fun D cnt hG h0 A hA => by
        obtain ⟨A2, hA2, e1, -, e2⟩ := (OKY.now D cnt y00).words hG ((now_fn D cnt y00).trans h0)
        have e3 := hA.tally0
        have e4 : tal (nowF D cnt y00).1 3 (nowF D cnt y00).2.1 0 0 = tal (asmF D cnt y00).1 3 (asmF D cnt y00).2.1 0 0 := tal_k15 (fun k j hk => flw_k hk _ j) _ _ _
        have hc := (asm_NG hG h0).2.1.2
        have b := hA.bd _ (Nat.le_refl _)
        unfold wnF
        rw [if_pos ((now_fn D cnt y00).trans h0), e4, e3, nI_clamp (by omega)]
      obtain ⟨⟨A, hA⟩, hAc, -⟩ := hN
      obtain ⟨⟨A1, hA1⟩, hA1c, -⟩ := hN1
      rw [eW D cnt hG h0 A hA, eW _ _ hG1 hf A1 hA1]
      refine Or.inr (Or.inr ⟨hf, Or.inr ?_⟩)
      rw [asmF_x] at h0 hf hA hA1 hAc hA1c ⊢
      rw [asmF_x]
      obtain ⟨-, -, -, e⟩ := asmX_ok h0
      obtain ⟨-, -, -, e1⟩ := asmX_ok hf
      rw [e] at hA hAc ⊢
      rw [e1] at hA1 hA1c ⊢
      have hr := exp_refs D cnt y00
      generalize expF D cnt y00 = X at hA hAc z1 z2 hr ⊢
      generalize expF (moreD D cnt (dl 2 (-1) (-1) 7 0)) (moreC cnt) y00 = X1 at hA1 hA1c z1 z2 ⊢
      show A1 (X1.2.1 + 1) = A (X.2.1 + 1) + 1
      have hA : PL (itS4 X) (X.2.1 + 1) A := hA
      have hA1 : PL (itS4 X1) (X1.2.1 + 1) A1 := hA1
      have hA1c : 1 ≤ X1.2.1 + 1 ∧ X1.2.1 + 1 ≤ 121 := hA1c
      clear e e1 h0 hf
      have hst := (dE_start X.1 X.2.1 ml).resolve_right (fun ⟨k, i, j, a, b, e, g⟩ => by have := hr k i j (by unfold rk; omega) b e; omega)
      have hd : dE X.2.1 (itS4 X) (itS4 X1) := by
        unfold itS4 itS3 itS2 itS1
        rw [z1, z2]
        exact dE.rndD 121 0 1 _ _ (dE.lkpD X.2.1 0 _ _ 0 0 (by omega) (Nat.le_refl _) (dE.lkvD X.2.1 0 _ _ (by omega) hst).1)
      have hAA : ∀ j, j ≤ X.2.1 → A1 j = A j := by
        intro j
        induction j with
        | zero => intro _; rw [hA.1, hA1.1]
        | succ j ih =>
          intro hj
          obtain ⟨a1, a2, -, -, a5⟩ := hA.2 j (by omega)
          obtain ⟨b1, b2, -, -, b5⟩ := hA1.2 j (by omega)
          rw [← hd.sz (by omega), ih (by omega), a5] at b5
          rw [ih (by omega)] at b1 b2
          have := (nI_eq (by omega) (by omega)).mp b5
          omega
      obtain ⟨a1, a2, -, -, a5⟩ := hA.2 X.2.1 (by omega)
      obtain ⟨b1, b2, -, -, b5⟩ := hA1.2 X.2.1 (by omega)
      obtain ⟨c1, c2, -, -, c5⟩ := hA1.2 (X.2.1 + 1) (by omega)
      obtain ⟨-, -, t0, u0, u1, -, -, t11⟩ := hd
      have s0 : ∀ st, szF (itS4 X) X.2.1 st = (itS4 X).1 11 X.2.1 := fun st => by
        unfold szF
        rw [t0]
        rfl
      have s1 : ∀ st, szF (itS4 X1) X.2.1 st = 1 := fun st => by
        unfold szF
        rw [u0]
        rfl
      have s2 : ∀ st, szF (itS4 X1) (X.2.1 + 1) st = (itS4 X1).1 11 (X.2.1 + 1) := fun st => by
        unfold szF
        rw [u1]
        rfl
      rw [s0] at a5
      rw [s1] at b5
      rw [s2, ← t11, a5] at c5
      have h5 := (nI_eq (a := 1) (b := A1 (X.2.1 + 1) - A1 X.2.1) (by omega) (by omega)).mp b5
      have h6 := (nI_eq (a := A (X.2.1 + 1) - A X.2.1) (by omega) (by omega)).mp c5
      have h7 := hAA X.2.1 (Nat.le_refl _)
      rw [z2]
      omega
