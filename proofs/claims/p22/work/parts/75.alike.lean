-- ASKING CHANGES NOTHING (p22's fact F11)
theorem sE.symm {c : Nat} {S T : IS} (h : sE c S T) : sE c T S := ⟨fun k i hk hi => (h.1 k i hk hi).symm, fun k i hk hi => (h.2.1 k i hk hi).symm, fun k i j hk hi e => h.2.2 k i j hk hi ((h.2.1 k i hk hi).trans e)⟩
theorem sE.trans {c : Nat} {S T U : IS} (h : sE c S T) (h2 : sE c T U) : sE c S U := ⟨fun k i hk hi => (h.1 k i hk hi).trans (h2.1 k i hk hi), fun k i hk hi => (h.2.1 k i hk hi).trans (h2.2.1 k i hk hi), h.2.2⟩
theorem yE.symm {y z : YS} (h : yE y z) : yE z y := by
  obtain ⟨h1, h2, h3⟩ := h
  refine ⟨?_, h2.symm, by rw [← h2]; exact h3⟩
  rw [← h2]
  exact h1.symm
theorem yE.trans {y z w : YS} (h : yE y z) (h2 : yE z w) : yE y w := by
  obtain ⟨a1, a2, a3⟩ := h
  obtain ⟨b1, b2, b3⟩ := h2
  refine ⟨a1.trans ?_, a2.trans b2, a3⟩
  rw [a2]
  exact b1
theorem manF_E {y z : YS} (h : yE y z) (cnt : Nat → Nat) (k : Int32) : manF cnt y k = manF cnt z k := by
  obtain ⟨h1, h2, h3⟩ := h
  have e : tal y.1 k y.2.1 0 0 = tal z.1 k y.2.1 0 0 := h1.talE k y.2.1 0 0 (by omega)
  unfold manF
  rw [e, ← h2]
theorem dgL_ext {f g : Nat → Int32} : ∀ (n i : Nat) (d : Int64), (∀ t, i ≤ t → t < i + n → f t = g t) → dgL f n i d = dgL g n i d
  | 0, _, _, _ => rfl
  | n + 1, i, d, h => by
    simp only [dgL]
    rw [h i (Nat.le_refl _) (by omega)]
    exact dgL_ext n (i + 1) _ (fun t a b => h t (by omega) (by omega))
theorem sE.ofi {c i : Nat} {S T : IS} (h : sE c S T) (hi : i < c) (k : Int32) : ofiF S i k = ofiF T i k := by
  unfold ofiF
  rw [h.f hi 0, h.f hi 12, h.f hi 13, h.f hi 5, h.f hi 6, h.f hi 3, h.f hi 14, h.f hi 15]
theorem sE.dgi {c : Nat} {S T : IS} (h : sE c S T) : ∀ (n i : Nat) (d : Int64), i + n ≤ c → dgI S n i d = dgI T n i d
  | 0, _, _, _ => rfl
  | n + 1, i, d, hn => by
    simp only [dgI]
    rw [dgL_ext (f := fun t => ofiF S i (nI t)) (g := fun t => ofiF T i (nI t)) 8 0 d (fun t _ _ => h.ofi (by omega) _)]
    exact sE.dgi h n (i + 1) _ (by omega)
theorem sE.wopE {c : Nat} {S T : IS} (h : sE c S T) (q : Nat) (pl : Int32) : ∀ n i, i + n ≤ c → wop S q pl n i = wop T q pl n i
  | 0, _, _ => rfl
  | n + 1, i, hn => by
    simp only [wop]
    rw [h.2.1 9 i (by decide) (by omega), h.f (i := i) (by omega) 10, h.f (i := i) (by omega) 3, sE.wopE h q pl n (i + 1) (by omega)]
theorem sE.bw {c i : Nat} {S T : IS} (h : sE c S T) (hi : i < c) (o : Int32) : bwF S i o = bwF T i o := by
  unfold bwF
  rw [h.f hi 14, h.f hi 0, h.dst hi, h.val hi]
theorem sE.wo {c i : Nat} {S T : IS} (h : sE c S T) (hi : i < c) (o : Int32) : woF S c i o = woF T c i o := by
  unfold woF
  rw [h.f hi 0, h.val hi, h.bw hi, h.abv hi, h.wopE i o c 0 (by omega)]
theorem sE.wd {c : Nat} {S T : IS} (h : sE c S T) (hc : c ≤ 121) (ad : Int32) : wdF S c ad = wdF T c ad := by
  unfold wdF
  rw [← h.hofE ad c 0 (by omega)]
  cases e : iaO c (hof S ad c 0) with
  | none => rfl
  | some j =>
    have hj := iaO_lt e (by omega)
    show woF S c j (ad - S.1 12 j) = woF T c j (ad - T.1 12 j)
    rw [h.f hj 12, h.wo hj]
theorem valN_E {y z : YS} (h : yE y z) (x : Int32) : valN y x = valN z x := by
  obtain ⟨h1, h2, h3⟩ := h
  unfold valN
  rw [← h2, ← h1.gvo]
  cases e : gvO y.1 y.2.1 x y.2.1 with
  | none => rfl
  | some j => exact h1.f (gvO_lt e) 4
theorem sE.cnlE {c : Nat} : ∀ (n i : Nat) (S T : IS) (f : Int32), sE c S T → i + n ≤ c → sE c (cnl c n i S f).1 (cnl c n i T f).1 ∧ (cnl c n i S f).2 = (cnl c n i T f).2
  | 0, i, S, T, f, h, _ => ⟨sE.plcE c 0 S T 0 h (by omega), rfl⟩
  | n + 1, i, S, T, f, h, hn => by
    have hi : i < c := by omega
    simp only [cnl]
    rw [← h.f hi 14]
    by_cases z : S.1 14 i = 0
    · rw [if_pos z, if_pos z]
      exact sE.cnlE n (i + 1) S T f h (by omega)
    · rw [if_neg z, if_neg z]
      have h2 := sE.plcE c 0 _ _ 0 (h.I 14 i 0) (by omega)
      have e : b2i (nearF (plc c 0 (sI S 14 i 0) 0) i) = b2i (nearF (plc c 0 (sI T 14 i 0) 0) i) := if_iff (h2.near hi) 1 0
      rw [e]
      exact sE.cnlE n (i + 1) _ _ _ (h2.I 14 i 1) (by omega)
theorem dgF_E {y z : YS} (h : yE y z) (cnt : Nat → Nat) (D : DT) (W : Nat) : dgF cnt D y W = dgF cnt D z W := by
  have h0 := h
  obtain ⟨h1, h2, h3⟩ := h
  have eM : dgM cnt D y = dgM cnt D z := by
    unfold dgM
    rw [dgL_ext (f := fun t => manF cnt y (nI t)) (g := fun t => manF cnt z (nI t)) 12 0 7619 (fun t _ _ => manF_E h0 cnt _), h2]
  unfold dgF
  rw [eM, ← h2]
  have eO : ∀ d, dgO y W d = dgO z W d := fun d => by
    unfold dgO
    rw [← h2, dgL_ext (f := fun x => valN y (nI x)) (g := fun x => valN z (nI x)) 8 0 _ (fun t _ _ => valN_E h0 _), dgL_ext (f := fun a => wdF y.1 y.2.1 (nI a)) (g := fun a => wdF z.1 y.2.1 (nI a)) W 0 _ (fun t _ _ => h1.wd h3 _), h1.dgi y.2.1 0 d (by omega), (sE.cnlE y.2.1 0 y.1 z.1 0 h1 (by omega)).2]
  rw [eO]
/-- what the counting of needlessly long branches leaves is as it was -/
theorem cnl_same {c : Nat} {S : IS} {A : Nat → Nat} (hA : PL S c A) (hz : ∀ j, j < c → szOk S j) (hc : c ≤ 121) (h14 : ∀ j, j < c → S.1 14 j = 0 ∨ S.1 14 j = 1) (h4 : ∀ j, j < c → S.1 0 j = 0 → S.1 4 j = S.1 12 j) : ∀ (n i : Nat) (T : IS) (f : Int32), i + n ≤ c → T.2 = S.2 → (∀ k j, k ≠ 12 → k ≠ 13 → k ≠ 4 → j < c → T.1 k j = S.1 k j) → (∀ j, j < c → ¬ S.1 0 j = 0 → T.1 4 j = S.1 4 j) → (cnl c n i T f).1.2 = S.2 ∧ ∀ k j, j < c → (cnl c n i T f).1.1 k j = S.1 k j
  | 0, i, T, f, _, t2, tk, t4 => by
    have hzT : ∀ j, j < c → szOk T j := fun j hj => (hz j hj).same (tk 0 j (by decide) (by decide) (by decide) hj) (tk 3 j (by decide) (by decide) (by decide) hj) (tk 11 j (by decide) (by decide) (by decide) hj)
    have hp := plc_PL hc hzT
    have hs : ∀ j st, j < c → szF T j st = szF S j st := fun j st hj => szF_k (tk 0 j (by decide) (by decide) (by decide) hj) (tk 14 j (by decide) (by decide) (by decide) hj) (tk 11 j (by decide) (by decide) (by decide) hj) (tk 3 j (by decide) (by decide) (by decide) hj) st
    have hpz : ∀ j st, j < c → szF (plc c 0 T 0) j st = szF S j st := fun j st hj => by
      rw [← hs j st hj]
      exact szF_k (plc_k (by decide) (by decide) (by decide) j c 0 T 0) (plc_k (by decide) (by decide) (by decide) j c 0 T 0) (plc_k (by decide) (by decide) (by decide) j c 0 T 0) (plc_k (by decide) (by decide) (by decide) j c 0 T 0) st
    have hAA : ∀ j, j ≤ c → plN T j = A j := by
      intro j
      induction j with
      | zero => intro _; rw [hA.1]; rfl
      | succ j ih =>
        intro hj
        obtain ⟨a1, a2, -, -, a5⟩ := hA.2 j (by omega)
        obtain ⟨b1, b2, -, -, b5⟩ := hp.2 j (by omega)
        rw [hpz j _ (by omega), ih (by omega), a5] at b5
        rw [ih (by omega)] at b1 b2
        have := (nI_eq (by omega) (by omega)).mp b5
        omega
    show (plc c 0 T 0).2 = S.2 ∧ ∀ k j, j < c → (plc c 0 T 0).1 k j = S.1 k j
    refine ⟨(plc_2 c 0 T 0).trans t2, fun k j hj => ?_⟩
    obtain ⟨a1, a2, a3, a4, -⟩ := hA.2 j hj
    obtain ⟨b1, b2, b3, b4, -⟩ := hp.2 j hj
    by_cases e12 : k = 12
    · subst e12
      rw [b3, a3, hAA j (by omega)]
    by_cases e13 : k = 13
    · subst e13
      rw [b4, a4, hAA j (by omega), hAA (j + 1) (by omega)]
    by_cases e4 : k = 4
    · subst e4
      rw [plc_4 c 0 T 0 j (Nat.zero_le _) (by omega), tk 0 j (by decide) (by decide) (by decide) hj]
      by_cases z : S.1 0 j = 0
      · rw [if_pos z, b3, hAA j (by omega), h4 j hj z, a3]
      · rw [if_neg z]
        exact t4 j hj z
    rw [plc_k e12 e13 e4]
    exact tk k j e12 e13 e4 hj
  | n + 1, i, T, f, hn, t2, tk, t4 => by
    simp only [cnl]
    by_cases z : T.1 14 i = 0
    · rw [if_pos z]
      exact cnl_same hA hz hc h14 h4 n (i + 1) T f (by omega) t2 tk t4
    · rw [if_neg z]
      have e14 : S.1 14 i = 1 := (h14 i (by omega)).resolve_left (fun y => z ((tk 14 i (by decide) (by decide) (by decide) (by omega)).trans y))
      refine cnl_same hA hz hc h14 h4 n (i + 1) _ _ (by omega) ?_ (fun k j a b d hj => ?_) (fun j hj y => ?_)
      · show (plc c 0 (sI T 14 i 0) 0).2 = S.2
        rw [plc_2]
        exact t2
      · rw [sI_ap]
        by_cases g : k = 14 ∧ j = i
        · rw [if_pos g, g.1, g.2]
          exact e14.symm
        · rw [if_neg g, plc_k a b d, sI_ap, if_neg g]
          exact tk k j a b d hj
      · have t0 : (sI T 14 i 0).1 0 j = S.1 0 j := by
          rw [sI_ap, if_neg (fun z => absurd z.1 (by decide))]
          exact tk 0 j (by decide) (by decide) (by decide) hj
        rw [sI_ap, if_neg (fun z => absurd z.1 (by decide)), plc_4 c 0 _ 0 j (Nat.zero_le _) (by omega), t0, if_neg y, sI_ap, if_neg (fun z => absurd z.1 (by decide))]
        exact t4 j hj y
/-- the press as it stands: what it says is what its LINES say -/
def OKY (D : DT) (cnt : Nat → Nat) (y : YS) : Prop := yE (nowF D cnt y00) y
theorem OKY.now (D : DT) (cnt : Nat → Nat) (y : YS) : OKY D cnt (nowF D cnt y) := nowF_any D cnt y00 y
theorem OKY.fn {D : DT} {cnt : Nat → Nat} {y : YS} (h : OKY D cnt y) : y.2.2.2.1 = (nowF D cnt y00).2.2.2.1 := by rw [h.2.1]
theorem OKY.ng {D : DT} {cnt : Nat → Nat} (hG : lnsG D cnt) {y : YS} (h : OKY D cnt y) (h0 : y.2.2.2.1 = 0) : NG D cnt y.1 y.2.1 := by
  have := (now_NG hG (y := y00) (h.fn.symm.trans h0)).E h.1
  rw [h.2.1] at this
  exact this
theorem OKY.refs {D : DT} {cnt : Nat → Nat} {y : YS} (h : OKY D cnt y) : sE y.2.1 y.1 y.1 := by
  have := h.1.symm.trans h.1
  rw [h.2.1] at this
  exact this
theorem OKY.dg {D : DT} {cnt : Nat → Nat} (hG : lnsG D cnt) {y : YS} (h : OKY D cnt y) : OKY D cnt (dgY y) := by
  unfold dgY
  by_cases z : y.2.2.2.1 = 0
  · rw [if_pos z]
    obtain ⟨⟨A, hA⟩, hc, -, -, -, -, -, hz, h14, h4⟩ := h.ng hG z
    obtain ⟨a, b⟩ := cnl_same hA hz hc.2 h14 h4 y.2.1 0 y.1 0 (by omega) rfl (fun _ _ _ _ _ _ => rfl) (fun _ _ _ => rfl)
    refine h.trans ⟨⟨fun k i _ hi => (b k i hi).symm, fun k i _ _ => by rw [a], h.refs.2.2⟩, rfl, hc.2⟩
  · rw [if_neg z]
    exact h
/-- how many words there are; 0 with a FAULT -/
def wnF (D : DT) (cnt : Nat → Nat) : Nat := if (nowF D cnt y00).2.2.2.1 = 0 then (tal (nowF D cnt y00).1 3 (nowF D cnt y00).2.1 0 0).toNatClampNeg else 0
theorem OKY.words {D : DT} {cnt : Nat → Nat} (hG : lnsG D cnt) {y : YS} (h : OKY D cnt y) (h0 : y.2.2.2.1 = 0) : ∃ A, PL y.1 y.2.1 A ∧ A y.2.1 = wnF D cnt ∧ wnF D cnt < 15000 ∧ tal y.1 3 y.2.1 0 0 = nI (wnF D cnt) := by
  obtain ⟨⟨A, hA⟩, hc, -⟩ := h.ng hG h0
  have e := hA.tally0
  have hb := hA.bd y.2.1 (Nat.le_refl _)
  have e2 : tal (nowF D cnt y00).1 3 (nowF D cnt y00).2.1 0 0 = nI (A y.2.1) := by
    rw [← e, h.2.1]
    exact h.1.talE 3 _ 0 0 (by rw [h.2.1]; omega)
  have e3 : wnF D cnt = A y.2.1 := by
    unfold wnF
    rw [if_pos (h.fn.symm.trans h0), e2, nI_clamp (by omega)]
  exact ⟨A, hA, e3.symm, by omega, by rw [e3]; exact e⟩
theorem asmF_c0 {D : DT} {cnt : Nat → Nat} {y : YS} (h : ¬ (asmF D cnt y).2.2.2.1 = 0) : (asmF D cnt y).2.1 = 0 := by
  rw [asmF_x] at h ⊢
  exact asmX_c0 h
theorem OKY.c0 {D : DT} {cnt : Nat → Nat} {y : YS} (h : OKY D cnt y) (h0 : ¬ y.2.2.2.1 = 0) : y.2.1 = 0 ∧ wnF D cnt = 0 := by
  have h1 : ¬ (asmF D cnt y00).2.2.2.1 = 0 := by
    rw [h.fn] at h0
    exact h0
  have h2 := asmF_c0 h1
  constructor
  · rw [← h.2.1]
    exact h2
  · unfold wnF
    rw [if_neg (show ¬ (nowF D cnt y00).2.2.2.1 = 0 from h1)]
theorem OKY.tal3 {D : DT} {cnt : Nat → Nat} (hG : lnsG D cnt) {y : YS} (h : OKY D cnt y) : tal y.1 3 y.2.1 0 0 = nI (wnF D cnt) ∧ wnF D cnt < 20000 := by
  by_cases z : y.2.2.2.1 = 0
  · obtain ⟨A, -, -, h1, h2⟩ := h.words hG z
    exact ⟨h2, by omega⟩
  · obtain ⟨h1, h2⟩ := h.c0 z
    rw [h1, h2]
    exact ⟨rfl, by omega⟩
