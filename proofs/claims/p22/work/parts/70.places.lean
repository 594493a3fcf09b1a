-- THE PLACES (built clean behind p1.s parts; p22's fact F2)
theorem plS_k (S : IS) (i : Nat) (ad : Int32) {k : Nat} (h12 : k ≠ 12) (h13 : k ≠ 13) (h4 : k ≠ 4) (j : Nat) : (plS S i ad).1 k j = S.1 k j := by
  unfold plS
  dsimp only
  rw [sI_ap, if_neg (fun z => h4 z.1), sI_ap, if_neg (fun z => h13 z.1), sI_ap, if_neg (fun z => h12 z.1)]
theorem plS_j (S : IS) (i : Nat) (ad : Int32) {j : Nat} (h : j ≠ i) (k : Nat) : (plS S i ad).1 k j = S.1 k j := by
  unfold plS
  dsimp only
  rw [sI_ap, if_neg (fun z => h z.2), sI_ap, if_neg (fun z => h z.2), sI_ap, if_neg (fun z => h z.2)]
theorem plS_12 (S : IS) (i : Nat) (ad : Int32) : (plS S i ad).1 12 i = ad := by
  unfold plS
  dsimp only
  rw [sI_ap, if_neg (fun z => absurd z.1 (by decide)), sI_ap, if_neg (fun z => absurd z.1 (by decide)), sI_ap, if_pos ⟨rfl, rfl⟩]
theorem szF_k {S T : IS} {j : Nat} (h0 : S.1 0 j = T.1 0 j) (h14 : S.1 14 j = T.1 14 j) (h11 : S.1 11 j = T.1 11 j) (h3 : S.1 3 j = T.1 3 j) (st : Int32) : szF S j st = szF T j st := by
  unfold szF
  rw [h0, h14, h11, h3]
theorem plS_13 (S : IS) (i : Nat) (ad : Int32) : (plS S i ad).1 13 i = szF S i ad := by
  unfold plS
  dsimp only
  rw [sI_ap, if_neg (fun z => absurd z.1 (by decide)), sI_ap, if_pos ⟨rfl, rfl⟩]
  exact szF_k (by rw [sI_ap, if_neg (fun z => absurd z.1 (by decide))]) (by rw [sI_ap, if_neg (fun z => absurd z.1 (by decide))]) (by rw [sI_ap, if_neg (fun z => absurd z.1 (by decide))]) (by rw [sI_ap, if_neg (fun z => absurd z.1 (by decide))]) ad
theorem plc_k {k : Nat} (h12 : k ≠ 12) (h13 : k ≠ 13) (h4 : k ≠ 4) (j : Nat) : ∀ (n i : Nat) (S : IS) (ad : Int32), (plc n i S ad).1 k j = S.1 k j
  | 0, _, _, _ => rfl
  | n + 1, i, S, ad => by
    simp only [plc]
    rw [plc_k h12 h13 h4 j n (i + 1), plS_k S i ad h12 h13 h4]
theorem plc_lo (k : Nat) {j : Nat} : ∀ (n i : Nat) (S : IS) (ad : Int32), j < i → (plc n i S ad).1 k j = S.1 k j
  | 0, _, _, _, _ => rfl
  | n + 1, i, S, ad, h => by
    simp only [plc]
    rw [plc_lo k n (i + 1) _ _ (by omega), plS_j S i ad (by omega)]
theorem plc_fst (n i : Nat) (S : IS) (ad : Int32) : (plc (n + 1) i S ad).1 12 i = ad := by
  simp only [plc]
  rw [plc_lo 12 n (i + 1) _ _ (by omega), plS_12]
theorem plc_next : ∀ (n i : Nat) (S : IS) (ad : Int32) (j : Nat), i ≤ j → j + 1 < i + n → (plc n i S ad).1 12 (j + 1) = (plc n i S ad).1 12 j + (plc n i S ad).1 13 j
  | 0, _, _, _, _, h1, h2 => (by omega)
  | n + 1, i, S, ad, j, h1, h2 => by
    simp only [plc]
    by_cases e : j = i
    · subst e
      rw [plc_lo 12 (j := j) n (j + 1) _ _ (by omega), plc_lo 13 (j := j) n (j + 1) _ _ (by omega), plS_12]
      cases n with
      | zero => omega
      | succ m => exact plc_fst m (j + 1) _ _
    · exact plc_next n (i + 1) _ _ j (by omega) (by omega)
theorem plc_13 : ∀ (n i : Nat) (S : IS) (ad : Int32) (j : Nat), i ≤ j → j < i + n → ∃ st, (plc n i S ad).1 13 j = szF S j st
  | 0, _, _, _, _, h1, h2 => (by omega)
  | n + 1, i, S, ad, j, h1, h2 => by
    simp only [plc]
    by_cases e : j = i
    · subst e
      exact ⟨ad, by rw [plc_lo 13 n (j + 1) _ _ (by omega), plS_13]⟩
    · obtain ⟨st, h⟩ := plc_13 n (i + 1) (plS S i ad) (ad + (plS S i ad).1 13 i) j (by omega) (by omega)
      exact ⟨st, h.trans (szF_k (plS_k S i ad (by decide) (by decide) (by decide) j) (plS_k S i ad (by decide) (by decide) (by decide) j) (plS_k S i ad (by decide) (by decide) (by decide) j) (plS_k S i ad (by decide) (by decide) (by decide) j) st)⟩
-- THE ROUNDS END (p22's fact F3)
theorem gvF_14 (S : IS) (i : Nat) (v : Int32) (o : Option Nat) : gvF (sI S 14 i v) o = gvF S o := by
  cases o with
  | none => rfl
  | some j =>
    show (sI S 14 i v).1 4 j = S.1 4 j
    rw [sI_ap, if_neg (fun z => absurd z.1 (by decide))]
theorem dstF_14 (S : IS) (i : Nat) (v : Int32) (j : Nat) : dstF (sI S 14 i v) j = dstF S j := by
  unfold dstF valF
  rw [gvF_14, gvF_14, sI_ap, if_neg (fun z => absurd z.1 (by decide)), sI_ap, if_neg (fun z => absurd z.1 (by decide))]
  rfl
theorem nearF_14 (S : IS) (i : Nat) (v : Int32) (j : Nat) : nearF (sI S 14 i v) j ↔ nearF S j := by
  unfold nearF
  rw [dstF_14]
theorem brF_14 (S : IS) (i : Nat) (v : Int32) (j : Nat) : brF (sI S 14 i v) j ↔ brF S j := by
  unfold brF
  rw [sI_ap, if_neg (fun z => absurd z.1 (by decide))]
/-- a branch that a round makes long -/
abbrev farF (S : IS) (j : Nat) : Prop := brF S j ∧ S.1 14 j = 0 ∧ ¬ nearF S j
theorem farF_14 {S : IS} {i : Nat} {v : Int32} {j : Nat} (h : j ≠ i) : farF (sI S 14 i v) j ↔ farF S j := by
  unfold farF
  rw [brF_14, nearF_14, sI_ap, if_neg (fun z => h z.2)]
theorem lng_k {k : Nat} (hk : k ≠ 14) (j : Nat) : ∀ (n i : Nat) (S : IS) (b : Int32), (lng n i S b).1.1 k j = S.1 k j
  | 0, _, _, _ => rfl
  | n + 1, i, S, b => by
    simp only [lng]
    split
    · rw [lng_k hk j n (i + 1), sI_ap, if_neg (fun z => hk z.1)]
    · rw [lng_k hk j n (i + 1)]
theorem lng_lo {j : Nat} : ∀ (n i : Nat) (S : IS) (b : Int32), j < i → (lng n i S b).1.1 14 j = S.1 14 j
  | 0, _, _, _, _ => rfl
  | n + 1, i, S, b, h => by
    simp only [lng]
    split
    · rw [lng_lo n (i + 1) _ _ (by omega), sI_ap, if_neg (fun z => by have := z.2; omega)]
    · rw [lng_lo n (i + 1) _ _ (by omega)]
theorem lng_14 {j : Nat} : ∀ (n i : Nat) (S : IS) (b : Int32), i ≤ j → j < i + n → (lng n i S b).1.1 14 j = if farF S j then 1 else S.1 14 j
  | 0, _, _, _, h1, h2 => by omega
  | n + 1, i, S, b, h1, h2 => by
    simp only [lng]
    by_cases e : j = i
    · subst e
      split
      · rename_i z
        rw [lng_lo n (j + 1) _ _ (by omega), sI_ap, if_pos ⟨rfl, rfl⟩]
      · rw [lng_lo n (j + 1) _ _ (by omega)]
    · split
      · rw [lng_14 n (i + 1) _ _ (by omega) (by omega)]
        by_cases f : farF S j
        · rw [if_pos f, if_pos ((farF_14 e).mpr f)]
        · rw [if_neg f, if_neg (fun z => f ((farF_14 e).mp z)), sI_ap, if_neg (fun z => e z.2)]
      · exact lng_14 n (i + 1) S b (by omega) (by omega)
theorem lng_1 : ∀ (n i : Nat) (S : IS), (lng n i S 1).2 = 1
  | 0, _, _ => rfl
  | n + 1, i, S => by
    simp only [lng]
    split <;> exact lng_1 n (i + 1) _
theorem lng_0 : ∀ (n i : Nat) (S : IS), (lng n i S 0).2 = 0 → (lng n i S 0).1 = S ∧ ∀ j, i ≤ j → j < i + n → ¬ farF S j
  | 0, _, _, _ => ⟨rfl, fun j h1 h2 => by omega⟩
  | n + 1, i, S, h => by
    simp only [lng] at h ⊢
    split at h
    · rw [lng_1] at h
      exact absurd h (by decide)
    · rename_i z
      rw [if_neg z]
      obtain ⟨h1, h2⟩ := lng_0 n (i + 1) S h
      refine ⟨h1, fun j g1 g2 => ?_⟩
      by_cases e : j = i
      · subst e; exact z
      · exact h2 j (by omega) (by omega)
theorem lng_far : ∀ (n i : Nat) (S : IS), ¬ (lng n i S 0).2 = 0 → ∃ j, i ≤ j ∧ j < i + n ∧ farF S j
  | 0, _, _, h => absurd rfl h
  | n + 1, i, S, h => by
    simp only [lng] at h
    split at h
    · rename_i z
      exact ⟨i, by omega, by omega, z⟩
    · obtain ⟨j, a, b, d⟩ := lng_far n (i + 1) S h
      exact ⟨j, by omega, by omega, d⟩
/-- the short branches below n -/
def nsh (S : IS) : Nat → Nat
  | 0 => 0
  | n + 1 => nsh S n + (if brF S n ∧ S.1 14 n = 0 then 1 else 0)
theorem nsh_le (S : IS) : ∀ n, nsh S n ≤ n
  | 0 => Nat.le_refl _
  | n + 1 => by
    have := nsh_le S n
    simp only [nsh]
    split <;> omega
theorem nsh_eq {S T : IS} : ∀ n, (∀ j, j < n → S.1 0 j = T.1 0 j ∧ S.1 14 j = T.1 14 j) → nsh S n = nsh T n
  | 0, _ => rfl
  | n + 1, h => by
    simp only [nsh]
    rw [nsh_eq n (fun j hj => h j (by omega))]
    unfold brF
    rw [(h n (by omega)).1, (h n (by omega)).2]
theorem nsh_lng {S : IS} {c : Nat} : ∀ n, n ≤ c → nsh (lng c 0 S 0).1 n ≤ nsh S n ∧ ((∃ j, j < n ∧ farF S j) → nsh (lng c 0 S 0).1 n < nsh S n)
  | 0, _ => ⟨Nat.le_refl _, fun ⟨j, a, _⟩ => by omega⟩
  | n + 1, hn => by
    obtain ⟨h1, h2⟩ := nsh_lng (S := S) (c := c) n (by omega)
    have hb : brF (lng c 0 S 0).1 n ↔ brF S n := by
      unfold brF
      rw [lng_k (by decide) n c 0 S 0]
    have h14 := lng_14 (j := n) c 0 S 0 (by omega) (by omega)
    simp only [nsh]
    by_cases f : farF S n
    · rw [if_pos f] at h14
      rw [if_neg (fun z => by have := z.2; rw [h14] at this; exact absurd this (by decide)), if_pos ⟨f.1, f.2.1⟩]
      exact ⟨by omega, fun _ => by omega⟩
    · rw [if_neg f] at h14
      have e : (if brF (lng c 0 S 0).1 n ∧ (lng c 0 S 0).1.1 14 n = 0 then 1 else 0) = (if brF S n ∧ S.1 14 n = 0 then 1 else 0) := if_iff (by rw [hb, h14]) 1 0
      rw [e]
      refine ⟨by omega, fun ⟨j, a, b⟩ => ?_⟩
      by_cases z : j = n
      · subst z; exact absurd b f
      · have := h2 ⟨j, by omega, b⟩
        omega
/-- behind the rounds the places stand, and no short branch is far -/
theorem rnd_end {c : Nat} : ∀ (n j : Nat) (S : IS), nsh S c < n → ∃ S1, (rnd c n j 1 S).1 = plc c 0 S1 0 ∧ ∀ i, i < c → ¬ farF (plc c 0 S1 0) i
  | 0, _, _, h => by omega
  | n + 1, j, S, h => by
    simp only [rnd]
    rw [if_neg (show ¬ (1 : Int32) = 0 by decide)]
    by_cases z : (lng c 0 (plc c 0 S 0) 0).2 = 0
    · obtain ⟨h1, h2⟩ := lng_0 c 0 (plc c 0 S 0) z
      rw [z, h1]
      refine ⟨S, ?_, fun i hi => h2 i (by omega) (by omega)⟩
      cases n with
      | zero => rfl
      | succ n => simp only [rnd]; rw [if_pos trivial]
    · have hb : (lng c 0 (plc c 0 S 0) 0).2 = 1 := (lng_b c c 0 (plc c 0 S 0) 0 (Or.inl rfl)).resolve_left z
      obtain ⟨k, a, b, d⟩ := lng_far c 0 (plc c 0 S 0) z
      have h3 := (nsh_lng (S := plc c 0 S 0) (c := c) c (Nat.le_refl _)).2 ⟨k, by omega, d⟩
      have h4 : nsh (plc c 0 S 0) c = nsh S c := nsh_eq c (fun j _ => ⟨plc_k (by decide) (by decide) (by decide) j c 0 S 0, plc_k (by decide) (by decide) (by decide) j c 0 S 0⟩)
      rw [hb]
      exact rnd_end n (j + 1) _ (by omega)
