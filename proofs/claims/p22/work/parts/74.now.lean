-- WHAT THE PRESS SAYS OF LINES THAT ARE AS THEY MAY BE
abbrev itS1 (X : XS) : IS := telS X.1 X.2.1 6 (-1) (-1) 0 0 (-1) 0
abbrev itS2 (X : XS) : IS := (lkv (X.2.1 + 1) (X.2.1 + 1) 0 (itS1 X)).1
abbrev itS3 (X : XS) : IS := lkp (X.2.1 + 1) 0 (itS2 X) 0 0
abbrev itS4 (X : XS) : IS := (rnd (X.2.1 + 1) 121 0 1 (itS3 X)).1
theorem asmF_x (D : DT) (cnt : Nat → Nat) (y : YS) : asmF D cnt y = asmX (expF D cnt y) y.2.2.1 := rfl
theorem fn_fai (y : YS) (n it : Int32) : (faiF y n it).2.2.2.1 = y.2.2.2.1 ∨ (faiF y n it).2.2.2.1 = n := by
  unfold faiF
  split
  · exact Or.inl rfl
  · exact Or.inr rfl
theorem asmT_fn (S : IS) (c : Nat) (qd : Int32) : (asmT S c qd).2.2.2.1 = 0 ∨ (asmT S c qd).2.2.2.1 = 6 := by
  unfold asmT
  exact fn_fai _ _ _
theorem asmL_fn (S : IS) (c : Nat) (qd : Int32) : (asmL S c qd).2.2.2.1 = 0 ∨ (asmL S c qd).2.2.2.1 = 5 ∨ (asmL S c qd).2.2.2.1 = 6 := by
  unfold asmL
  split
  · exact Or.inr (Or.inl rfl)
  · rcases asmT_fn (lkp c 0 (lkv c c 0 S).1 0 0) c qd with z | z
    · exact Or.inl z
    · exact Or.inr (Or.inr z)
theorem faiF_ok {y : YS} {n it : Int32} (hn : ¬ n = 0) (h : (faiF y n it).2.2.2.1 = 0) : iaO y.2.1 it = none ∧ faiF y n it = y := by
  unfold faiF at h ⊢
  cases e : iaO y.2.1 it with
  | none => exact ⟨rfl, rfl⟩
  | some j =>
    rw [e] at h
    exact absurd h hn
theorem faiF_c0 {y : YS} {n it : Int32} (h0 : y.2.2.2.1 = 0) (h : ¬ (faiF y n it).2.2.2.1 = 0) : (faiF y n it).2.1 = 0 := by
  unfold faiF at h ⊢
  cases e : iaO y.2.1 it with
  | none =>
    rw [e] at h
    exact absurd h0 h
  | some j => rfl
theorem asmT_ok {S : IS} {c : Nat} {qd : Int32} (h : (asmT S c qd).2.2.2.1 = 0) : iaO c (ffl (rnd c 121 0 1 S).1 c 0) = none ∧ asmT S c qd = ((rnd c 121 0 1 S).1, c, qd, 0, -1, nI (rnd c 121 0 1 S).2) := by
  unfold asmT at h ⊢
  exact faiF_ok (by decide) h
theorem asmT_c0 {S : IS} {c : Nat} {qd : Int32} (h : ¬ (asmT S c qd).2.2.2.1 = 0) : (asmT S c qd).2.1 = 0 := by
  unfold asmT at h ⊢
  exact faiF_c0 rfl h
theorem asmL_ok {S : IS} {c : Nat} {qd : Int32} (h : (asmL S c qd).2.2.2.1 = 0) : iaO c (lkv c c 0 S).2 = none ∧ asmL S c qd = asmT (lkp c 0 (lkv c c 0 S).1 0 0) c qd := by
  unfold asmL at h ⊢
  cases e : iaO c (lkv c c 0 S).2 with
  | none => exact ⟨rfl, rfl⟩
  | some j =>
    rw [e] at h
    exact absurd (show (5 : Int32) = 0 from h) (by decide)
theorem asmL_c0 {S : IS} {c : Nat} {qd : Int32} (h : ¬ (asmL S c qd).2.2.2.1 = 0) : (asmL S c qd).2.1 = 0 := by
  unfold asmL at h ⊢
  cases e : iaO c (lkv c c 0 S).2 with
  | none =>
    rw [e] at h
    exact asmT_c0 h
  | some j => rfl
theorem asmX_ok {X : XS} {qd : Int32} (h : (asmX X qd).2.2.2.1 = 0) : X.2.2.2.2.1 = 0 ∧ iaO (X.2.1 + 1) (lkv (X.2.1 + 1) (X.2.1 + 1) 0 (itS1 X)).2 = none ∧ iaO (X.2.1 + 1) (ffl (itS4 X) (X.2.1 + 1) 0) = none ∧ asmX X qd = (itS4 X, X.2.1 + 1, qd, 0, -1, nI (rnd (X.2.1 + 1) 121 0 1 (itS3 X)).2) := by
  have hx : X.2.2.2.2.1 = 0 := by
    by_cases z : X.2.2.2.2.1 = 0
    · exact z
    · unfold asmX at h
      rw [if_neg z] at h
      exact absurd h z
  unfold asmX at h ⊢
  rw [if_pos hx] at h ⊢
  obtain ⟨h1, h2⟩ := asmL_ok h
  rw [h2] at h ⊢
  obtain ⟨h3, h4⟩ := asmT_ok h
  exact ⟨hx, h1, h3, h4⟩
theorem asmX_c0 {X : XS} {qd : Int32} (h : ¬ (asmX X qd).2.2.2.1 = 0) : (asmX X qd).2.1 = 0 := by
  unfold asmX at h ⊢
  by_cases hx : X.2.2.2.2.1 = 0
  · rw [if_pos hx] at h ⊢
    exact asmL_c0 h
  · rw [if_neg hx]
    rfl
theorem asmF_fn {D : DT} {cnt : Nat → Nat} (hG : lnsG D cnt) (y : YS) : ∃ t, t ≤ 6 ∧ (asmF D cnt y).2.2.2.1 = nI t := by
  obtain ⟨m, -, -, -, -, hf⟩ := exp_XI hG y
  rw [asmF_x]
  unfold asmX
  split
  · rcases asmL_fn (itS1 (expF D cnt y)) ((expF D cnt y).2.1 + 1) y.2.2.1 with z | z | z
    · exact ⟨0, by omega, z⟩
    · exact ⟨5, by omega, z⟩
    · exact ⟨6, by omega, z⟩
  · rcases hf with z | z | z | z | z
    · exact ⟨0, by omega, z⟩
    · exact ⟨1, by omega, z⟩
    · exact ⟨2, by omega, z⟩
    · exact ⟨3, by omega, z⟩
    · exact ⟨4, by omega, z⟩
theorem ffl_no {S : IS} {c : Nat} (hc : c < 2 ^ 31) : ∀ (n i : Nat), i + n = c → iaO c (ffl S n i) = none → ∀ j, i ≤ j → j < c → ¬ (S.1 0 j = 5 ∧ 16 < abvF S j)
  | 0, i, h, _, j, a, b => by omega
  | n + 1, i, h, e, j, a, b => by
    simp only [ffl] at e
    split at e
    · rw [iaO_in (by omega) hc] at e
      cases e
    · rename_i z
      by_cases g : j = i
      · subst g; exact z
      · exact ffl_no hc n (i + 1) (by omega) e j (by omega) b
theorem plS_4 (S : IS) (i : Nat) (ad : Int32) : (plS S i ad).1 4 i = if S.1 0 i = 0 then ad else S.1 4 i := by
  have h : ∀ k v, k ≠ 12 → k ≠ 13 → (sI (sI S 12 i ad) 13 i v).1 k i = S.1 k i := fun k v a b => by
    rw [sI_ap, if_neg (fun z => b z.1), sI_ap, if_neg (fun z => a z.1)]
  unfold plS
  dsimp only
  rw [sI_ap, if_pos ⟨rfl, rfl⟩, h 0 _ (by decide) (by decide), h 4 _ (by decide) (by decide)]
theorem plc_4 : ∀ (n i : Nat) (S : IS) (ad : Int32) (j : Nat), i ≤ j → j < i + n → (plc n i S ad).1 4 j = if S.1 0 j = 0 then (plc n i S ad).1 12 j else S.1 4 j
  | 0, _, _, _, _, h1, h2 => by omega
  | n + 1, i, S, ad, j, h1, h2 => by
    simp only [plc]
    by_cases e : j = i
    · subst e
      rw [plc_lo 4 n (j + 1) _ _ (by omega), plc_lo 12 n (j + 1) _ _ (by omega), plS_12, plS_4]
    · rw [plc_4 n (i + 1) _ _ j (by omega) (by omega), plS_k S i ad (by decide) (by decide) (by decide), plS_j S i ad e]
theorem rnd_14 {c : Nat} : ∀ (n j : Nat) (b : Int32) (S : IS), (∀ i, i < c → S.1 14 i = 0 ∨ S.1 14 i = 1) → ∀ i, i < c → (rnd c n j b S).1.1 14 i = 0 ∨ (rnd c n j b S).1.1 14 i = 1
  | 0, _, _, _, h, i, hi => h i hi
  | n + 1, j, b, S, h, i, hi => by
    simp only [rnd]
    split
    · exact h i hi
    · refine rnd_14 n (j + 1) _ _ (fun i hi => ?_) i hi
      rw [lng_14 c 0 _ 0 (Nat.zero_le _) (by omega)]
      split
      · exact Or.inr rfl
      · rw [plc_k (by decide) (by decide) (by decide)]
        exact h i hi
/-- the press without a FAULT: ITEMS, how many -/
def NG (D : DT) (cnt : Nat → Nat) (S : IS) (c : Nat) : Prop :=
  (∃ A, PL S c A) ∧ (1 ≤ c ∧ c ≤ 121) ∧ (∀ j, j + 1 < c → itG D cnt S j) ∧ S.1 0 (c - 1) = 6 ∧ (∀ j, j + 2 < c → S.1 5 j ≤ S.1 5 (j + 1)) ∧
  (∀ j, j < c → brF S j → S.1 14 j = 0 → nearF S j) ∧ (∀ j, j < c → S.1 0 j = 5 → ∃ v, 1 ≤ v ∧ v ≤ 16 ∧ abvF S j = nI v) ∧ (∀ j, j < c → szOk S j) ∧ (∀ j, j < c → S.1 14 j = 0 ∨ S.1 14 j = 1) ∧ ∀ j, j < c → S.1 0 j = 0 → S.1 4 j = S.1 12 j
theorem asm_NG {D : DT} {cnt : Nat → Nat} (hG : lnsG D cnt) {y : YS} (h : (asmF D cnt y).2.2.2.1 = 0) : NG D cnt (asmF D cnt y).1 (asmF D cnt y).2.1 := by
  obtain ⟨m, hI⟩ := exp_XI hG y
  rw [asmF_x] at h ⊢
  obtain ⟨hx, -, h6, he⟩ := asmX_ok h
  rw [he]
  generalize expF D cnt y = X at hI hx h6
  clear he h hx
  obtain ⟨hc, -, hit, hmo, -⟩ := hI
  show NG D cnt (itS4 X) (X.2.1 + 1)
  obtain ⟨c, hcc⟩ : ∃ c, c = X.2.1 + 1 := ⟨_, rfl⟩
  have h1i : ∀ k j, ik k → ¬ j = X.2.1 → (itS1 X).1 k j = X.1.1 k j := fun k j hk hj => (tel_1 _ _ _ _ _ _ _ _ _ k hk j).trans (if_neg hj)
  have h1l : (itS1 X).1 0 X.2.1 = 6 := (tel_1 _ _ _ _ _ _ _ _ _ 0 (by decide) X.2.1).trans (if_pos rfl)
  have h2 : ∀ k j, (itS2 X).1 k j = (itS1 X).1 k j := fun k j => by unfold itS2; rw [lkv_1]
  have h3 : ∀ k j, k ≠ 10 → k ≠ 11 → (itS3 X).1 k j = (itS1 X).1 k j := fun k j a b => (lkp_k a b j _ _ _ _ _).trans (h2 k j)
  have h4 : ∀ k j, k ≠ 12 → k ≠ 13 → k ≠ 4 → k ≠ 14 → (itS4 X).1 k j = (itS3 X).1 k j := fun k j a b d e => rnd_k a b d e j _ _ _ _
  have h42 : (itS4 X).2 = (itS3 X).2 := rnd_2 _ _ _ _
  have hP := lkp_all (c := X.2.1 + 1) (by omega) (by omega) (itS2 X) (by rw [h2]; exact h1l)
  have hit1 : ∀ j, j < X.2.1 → itG D cnt (itS1 X) j := fun j hj => (hit j hj).1.1.same (h1i 0 j (by decide) (by omega)) (h1i 3 j (by decide) (by omega)) (h1i 5 j (by decide) (by omega)) (h1i 6 j (by decide) (by omega))
  have hit4 : ∀ j, j < X.2.1 → itG D cnt (itS4 X) j := fun j hj => (hit1 j hj).same ((h4 0 j (by decide) (by decide) (by decide) (by decide)).trans (h3 0 j (by decide) (by decide))) ((h4 3 j (by decide) (by decide) (by decide) (by decide)).trans (h3 3 j (by decide) (by decide))) ((h4 5 j (by decide) (by decide) (by decide) (by decide)).trans (h3 5 j (by decide) (by decide))) ((h4 6 j (by decide) (by decide) (by decide) (by decide)).trans (h3 6 j (by decide) (by decide)))
  have h40 : (itS4 X).1 0 X.2.1 = 6 := ((h4 0 _ (by decide) (by decide) (by decide) (by decide)).trans (h3 0 _ (by decide) (by decide))).trans h1l
  have hz4 : ∀ j, j < X.2.1 + 1 → szOk (itS4 X) j := fun j hj => by
    have h0 : (itS4 X).1 0 j = (itS2 X).1 0 j := ((h4 0 _ (by decide) (by decide) (by decide) (by decide)).trans (h3 0 _ (by decide) (by decide))).trans (h2 0 j).symm
    have h11 : (itS4 X).1 11 j = (itS3 X).1 11 j := h4 11 j (by decide) (by decide) (by decide) (by decide)
    refine ⟨?_, ?_, fun e => ?_⟩
    · by_cases e : j = X.2.1
      · subst e; exact ⟨6, by omega, h40⟩
      · exact (hit4 j (by omega)).1
    · by_cases e : j = X.2.1
      · subst e; rw [h40]; exact fun z => absurd z (by decide)
      · exact (hit4 j (by omega)).2.1
    · rw [h11]
      exact hP.2 j hj (h0.symm.trans e)
  have hnsh : nsh (itS3 X) (X.2.1 + 1) < 121 := by
    have h5 := nsh_le (itS3 X) X.2.1
    simp only [nsh]
    rw [if_neg (fun z => by
      have := (h3 0 X.2.1 (by decide) (by decide)).trans h1l
      rcases z.1 with q | q
      · exact absurd (this.symm.trans q) (by decide)
      · exact absurd (this.symm.trans q) (by decide))]
    omega
  obtain ⟨S5, h5, hfar⟩ := rnd_end 121 0 (itS3 X) hnsh
  have h5 : itS4 X = plc (X.2.1 + 1) 0 S5 0 := h5
  have hz5 : ∀ j, j < X.2.1 + 1 → szOk S5 j := fun j hj => by
    refine (hz4 j hj).same ?_ ?_ ?_
    · rw [h5, plc_k (by decide) (by decide) (by decide)]
    · rw [h5, plc_k (by decide) (by decide) (by decide)]
    · rw [h5, plc_k (by decide) (by decide) (by decide)]
  have hPL : PL (itS4 X) (X.2.1 + 1) (plN S5) := by
    rw [h5]
    exact plc_PL (by omega) hz5
  refine ⟨⟨_, hPL⟩, ⟨by omega, by omega⟩, fun j hj => hit4 j (by omega), h40, fun j hj => ?_, fun j hj hb h14 => ?_, fun j hj hk => ?_, hz4, fun j hj => ?_, fun j hj hk => ?_⟩
  · rw [h4 5 j (by decide) (by decide) (by decide) (by decide), h3 5 j (by decide) (by decide), h1i 5 j (by decide) (by omega), h4 5 _ (by decide) (by decide) (by decide) (by decide), h3 5 _ (by decide) (by decide), h1i 5 _ (by decide) (by omega)]
    exact hmo j (by omega)
  · rw [h5] at hb h14 ⊢
    exact Decidable.byContradiction fun z => hfar j hj ⟨hb, h14, z⟩
  · have h0 : (itS4 X).1 0 j = (itS2 X).1 0 j := ((h4 0 _ (by decide) (by decide) (by decide) (by decide)).trans (h3 0 _ (by decide) (by decide))).trans (h2 0 j).symm
    obtain ⟨⟨t, ht, e10⟩, q, hq, hq1, hq2⟩ := hP.1 j hj (h0.symm.trans hk)
    have e9 : (itS4 X).2 9 j = some q := by rw [h42]; exact hq
    have e10 : (itS4 X).1 10 j = nI t := (h4 10 j (by decide) (by decide) (by decide) (by decide)).trans e10
    have hno := ffl_no (by omega) (X.2.1 + 1) 0 (by omega) h6 j (Nat.zero_le _) hj
    obtain ⟨a1, a2, a3, a4, a5⟩ := hPL.2 j hj
    obtain ⟨b1, b2, b3, b4, b5⟩ := hPL.2 q hq2
    have hs : szF (itS4 X) j (nI (plN S5 j)) = 1 := by
      unfold szF
      rw [if_pos (Or.inr hk)]
    have h1 : plN S5 (j + 1) - plN S5 j = 1 := by
      have := a5.symm.trans hs
      exact (nI_eq (a := plN S5 (j + 1) - plN S5 j) (b := 1) (by omega) (by omega)).mp this
    have hmon := hPL.mono (i := j + 1) (j := q) (by omega) (by omega)
    have hbd := hPL.bd q (by omega)
    have ha : abvF (itS4 X) j = nI (plN S5 q + t - plN S5 j) := by
      unfold abvF
      rw [e9]
      show (itS4 X).1 12 q + (itS4 X).1 10 j - (itS4 X).1 12 j = _
      rw [b3, e10, a3, nI_add, nI_sub (by omega)]
    refine ⟨plN S5 q + t - plN S5 j, by omega, ?_, ha⟩
    rw [ha] at hno
    refine Nat.le_of_not_lt (fun z => hno ⟨hk, ?_⟩)
    exact nI_lt (a := 16) z (by omega)
  · refine rnd_14 121 0 1 (itS3 X) (fun j hj => Or.inl ?_) j hj
    rw [h3 14 j (by decide) (by decide)]
    by_cases e : j = X.2.1
    · subst e; exact (tel_1 _ _ _ _ _ _ _ _ _ 14 (by decide) X.2.1).trans (if_pos rfl)
    · exact (h1i 14 j (by decide) e).trans (hit j (by omega)).1.2
  · rw [h5] at hk ⊢
    rw [plc_4 _ 0 _ 0 j (Nat.zero_le _) (by omega), if_pos ((plc_k (by decide) (by decide) (by decide) j _ _ _ _).symm.trans hk)]
theorem NG.k15 {D : DT} {cnt : Nat → Nat} {S T : IS} {c : Nat} (h : NG D cnt S c) (hk : ∀ k j, k ≠ 15 → T.1 k j = S.1 k j) (h2 : T.2 = S.2) : NG D cnt T c := by
  have hg : ∀ o, gvF T o = gvF S o := fun o => by
    cases o with
    | none => rfl
    | some j => exact hk 4 j (by decide)
  have hn : ∀ j, nearF T j ↔ nearF S j := fun j => by
    unfold nearF dstF valF
    rw [hg, hg, h2, hk 3 j (by decide), hk 12 j (by decide)]
  have ha : ∀ j, abvF T j = abvF S j := fun j => by
    unfold abvF
    rw [h2]
    cases S.2 9 j with
    | none => rfl
    | some q => show T.1 12 q + T.1 10 j - T.1 12 j = _; rw [hk 12 q (by decide), hk 10 j (by decide), hk 12 j (by decide)]
  obtain ⟨⟨A, hA0, hA⟩, hc, hi, hp, hm, hb, hl, hz, hg14, hg4⟩ := h
  refine ⟨⟨A, hA0, fun j hj => ?_⟩, hc, fun j hj => (hi j hj).same (hk 0 j (by decide)) (hk 3 j (by decide)) (hk 5 j (by decide)) (hk 6 j (by decide)), (hk 0 _ (by decide)).trans hp, fun j hj => ?_, fun j hj b e => ?_, fun j hj e => ?_, fun j hj => (hz j hj).same (hk 0 j (by decide)) (hk 3 j (by decide)) (hk 11 j (by decide)), fun j hj => by rw [hk 14 j (by decide)]; exact hg14 j hj, fun j hj => by rw [hk 0 j (by decide), hk 4 j (by decide), hk 12 j (by decide)]; exact hg4 j hj⟩
  · rw [hk 12 j (by decide), hk 13 j (by decide), szF_k (S := T) (T := S) (hk 0 j (by decide)) (hk 14 j (by decide)) (hk 11 j (by decide)) (hk 3 j (by decide))]
    exact hA j hj
  · rw [hk 5 j (by decide), hk 5 (j + 1) (by decide)]
    exact hm j hj
  · rw [hn]
    unfold brF at b
    rw [hk 0 j (by decide)] at b
    rw [hk 14 j (by decide)] at e
    exact hb j hj b e
  · rw [ha]
    rw [hk 0 j (by decide)] at e
    exact hl j hj e
theorem NG.E {D : DT} {cnt : Nat → Nat} {S T : IS} {c : Nat} (h : NG D cnt S c) (e : sE c S T) : NG D cnt T c := by
  obtain ⟨⟨A, hA0, hA⟩, hc, hi, hp, hm, hb, hl, hz, hg14, hg4⟩ := h
  have f : ∀ k j, ik k → j < c → T.1 k j = S.1 k j := fun k j hk hj => (e.1 k j hk hj).symm
  refine ⟨⟨A, hA0, fun j hj => ?_⟩, hc, fun j hj => (hi j hj).same (f 0 j (by decide) (by omega)) (f 3 j (by decide) (by omega)) (f 5 j (by decide) (by omega)) (f 6 j (by decide) (by omega)), (f 0 _ (by decide) (by omega)).trans hp, fun j hj => ?_, fun j hj b g => ?_, fun j hj g => ?_, fun j hj => (hz j hj).same (f 0 j (by decide) hj) (f 3 j (by decide) hj) (f 11 j (by decide) hj), fun j hj => by rw [f 14 j (by decide) hj]; exact hg14 j hj, fun j hj => by rw [f 0 j (by decide) hj, f 4 j (by decide) hj, f 12 j (by decide) hj]; exact hg4 j hj⟩
  · rw [f 12 j (by decide) hj, f 13 j (by decide) hj, ← e.sz hj]
    exact hA j hj
  · rw [f 5 j (by decide) (by omega), f 5 (j + 1) (by decide) (by omega)]
    exact hm j hj
  · rw [← e.near hj]
    exact hb j hj ((e.br hj).mpr b) ((f 14 j (by decide) hj).symm.trans g)
  · rw [← e.abv hj]
    exact hl j hj ((f 0 j (by decide) hj).symm.trans g)
theorem now_NG {D : DT} {cnt : Nat → Nat} (hG : lnsG D cnt) {y : YS} (h : (nowF D cnt y).2.2.2.1 = 0) : NG D cnt (nowF D cnt y).1 (nowF D cnt y).2.1 :=
  (asm_NG hG (y := y) h).k15 (fun k j hk => flw_k hk _ j) (flw_2 _)
theorem sm16 {d : Int32} (h : -8 ≤ d ∧ d ≤ 7) : d = -8 ∨ d = -7 ∨ d = -6 ∨ d = -5 ∨ d = -4 ∨ d = -3 ∨ d = -2 ∨ d = -1 ∨ d = 0 ∨ d = 1 ∨ d = 2 ∨ d = 3 ∨ d = 4 ∨ d = 5 ∨ d = 6 ∨ d = 7 := by
  have h1 := Int32.le_iff_toInt_le.mp h.1
  have h2 := Int32.le_iff_toInt_le.mp h.2
  rw [show (-8 : Int32).toInt = -8 by decide] at h1
  rw [show (7 : Int32).toInt = 7 by decide] at h2
  have e : ∀ (v : Int32) (k : Int), v.toInt = k → d.toInt = k → d = v := fun v k hv hd => Int32.toInt_inj.mp (hd.trans hv.symm)
  rcases (show d.toInt = -8 ∨ d.toInt = -7 ∨ d.toInt = -6 ∨ d.toInt = -5 ∨ d.toInt = -4 ∨ d.toInt = -3 ∨ d.toInt = -2 ∨ d.toInt = -1 ∨ d.toInt = 0 ∨ d.toInt = 1 ∨ d.toInt = 2 ∨ d.toInt = 3 ∨ d.toInt = 4 ∨ d.toInt = 5 ∨ d.toInt = 6 ∨ d.toInt = 7 by omega) with z | z | z | z | z | z | z | z | z | z | z | z | z | z | z | z
  · exact Or.inl (e _ _ (by decide) z)
  · exact Or.inr (Or.inl (e _ _ (by decide) z))
  · exact Or.inr (Or.inr (Or.inl (e _ _ (by decide) z)))
  · exact Or.inr (Or.inr (Or.inr (Or.inl (e _ _ (by decide) z))))
  · exact Or.inr (Or.inr (Or.inr (Or.inr (Or.inl (e _ _ (by decide) z)))))
  · exact Or.inr (Or.inr (Or.inr (Or.inr (Or.inr (Or.inl (e _ _ (by decide) z))))))
  · exact Or.inr (Or.inr (Or.inr (Or.inr (Or.inr (Or.inr (Or.inl (e _ _ (by decide) z)))))))
  · exact Or.inr (Or.inr (Or.inr (Or.inr (Or.inr (Or.inr (Or.inr (Or.inl (e _ _ (by decide) z))))))))
  · exact Or.inr (Or.inr (Or.inr (Or.inr (Or.inr (Or.inr (Or.inr (Or.inr (Or.inl (e _ _ (by decide) z)))))))))
  · exact Or.inr (Or.inr (Or.inr (Or.inr (Or.inr (Or.inr (Or.inr (Or.inr (Or.inr (Or.inl (e _ _ (by decide) z))))))))))
  · exact Or.inr (Or.inr (Or.inr (Or.inr (Or.inr (Or.inr (Or.inr (Or.inr (Or.inr (Or.inr (Or.inl (e _ _ (by decide) z)))))))))))
  · exact Or.inr (Or.inr (Or.inr (Or.inr (Or.inr (Or.inr (Or.inr (Or.inr (Or.inr (Or.inr (Or.inr (Or.inl (e _ _ (by decide) z))))))))))))
  · exact Or.inr (Or.inr (Or.inr (Or.inr (Or.inr (Or.inr (Or.inr (Or.inr (Or.inr (Or.inr (Or.inr (Or.inr (Or.inl (e _ _ (by decide) z)))))))))))))
  · exact Or.inr (Or.inr (Or.inr (Or.inr (Or.inr (Or.inr (Or.inr (Or.inr (Or.inr (Or.inr (Or.inr (Or.inr (Or.inr (Or.inl (e _ _ (by decide) z))))))))))))))
  · exact Or.inr (Or.inr (Or.inr (Or.inr (Or.inr (Or.inr (Or.inr (Or.inr (Or.inr (Or.inr (Or.inr (Or.inr (Or.inr (Or.inr (Or.inl (e _ _ (by decide) z)))))))))))))))
  · exact Or.inr (Or.inr (Or.inr (Or.inr (Or.inr (Or.inr (Or.inr (Or.inr (Or.inr (Or.inr (Or.inr (Or.inr (Or.inr (Or.inr (Or.inr (e _ _ (by decide) z)))))))))))))))
theorem near3 {d : Int32} (h : -8 ≤ d ∧ d ≤ 7) : (3000 ≤ 3008 + d ∧ 3008 + d ≤ 3015) ∧ 4000 ≤ 4008 + d ∧ 4008 + d ≤ 4015 := by
  rcases sm16 h with rfl | rfl | rfl | rfl | rfl | rfl | rfl | rfl | rfl | rfl | rfl | rfl | rfl | rfl | rfl | rfl <;> decide
/-- the first words of branches, loads and aligns are in their range -/
theorem NG.word {D : DT} {cnt : Nat → Nat} {S : IS} {c : Nat} (h : NG D cnt S c) {A : Nat → Nat} (hA : PL S c A) {a : Nat} (ha : a < A c) : ∃ j, j < c ∧ iaO c (hof S (nI a) c 0) = some j ∧ hof S (nI a) c 0 = nI j ∧
    (S.1 0 j = 3 → S.1 12 j = nI a → wdF S c (nI a) = 3100 ∨ (3000 ≤ wdF S c (nI a) ∧ wdF S c (nI a) ≤ 3015)) ∧ (S.1 0 j = 4 → S.1 12 j = nI a → wdF S c (nI a) = 4100 ∨ (4000 ≤ wdF S c (nI a) ∧ wdF S c (nI a) ≤ 4015)) ∧
    (S.1 0 j = 5 → 5000 ≤ wdF S c (nI a) ∧ wdF S c (nI a) ≤ 5015) ∧ (S.1 0 j = 7 → wdF S c (nI a) = 0) := by
  obtain ⟨-, hc, -, -, -, hb, hl, -⟩ := h
  obtain ⟨j, hj, h1, h2, h3, h4⟩ := hA.holder0 hc.2 ha
  have hw : wdF S c (nI a) = woF S c j (nI a - S.1 12 j) := by
    unfold wdF
    rw [h4]
  refine ⟨j, hj, h4, h3, fun e e2 => ?_, fun e e2 => ?_, fun e => ?_, fun e => ?_⟩
  · rw [hw, e2, Int32.sub_self]
    unfold woF
    rw [if_neg (by rw [e]; decide), if_pos (Or.inl e)]
    unfold bwF
    by_cases z : S.1 14 j = 0
    · rw [if_pos z, if_neg (by rw [e]; decide)]
      exact Or.inr (near3 (hb j hj (Or.inl e) z)).1
    · rw [if_neg z]
      dsimp only
      rw [if_neg (show ¬ S.1 0 j = 4 by rw [e]; decide)]
      exact Or.inl rfl
  · rw [hw, e2, Int32.sub_self]
    unfold woF
    rw [if_neg (by rw [e]; decide), if_pos (Or.inr e)]
    unfold bwF
    by_cases z : S.1 14 j = 0
    · rw [if_pos z, if_pos e]
      exact Or.inr (near3 (hb j hj (Or.inr e) z)).2
    · rw [if_neg z]
      dsimp only
      rw [if_pos e]
      exact Or.inl rfl
  · obtain ⟨v, hv1, hv2, hv⟩ := hl j hj e
    rw [hw]
    unfold woF
    rw [if_neg (by rw [e]; decide), if_neg (by rw [e]; decide), if_pos e, hv]
    have : 5000 + nI v - 1 = nI (4999 + v) := by
      rw [show (5000 : Int32) + nI v = nI (5000 + v) from nI_add 5000 v, show 5000 + v = (4999 + v) + 1 by omega, nI_pred]
    rw [this]
    exact ⟨nI_le (a := 5000) (by omega) (by omega), nI_le (b := 5015) (by omega) (by omega)⟩
  · rw [hw]
    unfold woF
    rw [if_neg (by rw [e]; decide), if_neg (by rw [e]; decide), if_neg (by rw [e]; decide), if_neg (by rw [e]; decide)]
