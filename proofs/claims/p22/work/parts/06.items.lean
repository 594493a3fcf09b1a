-- THE ITEMS: one object, its array, 121 cells behind one another
theorem ne_toInt {x : Int32} {k : Int} (v : Int32) (hv : v.toInt = k) (h : ¬ x = v) : x.toInt ≠ k := fun e => h (Int32.toInt_inj.mp (e.trans hv.symm))
def b2i (p : Prop) [Decidable p] : Int32 := if p then 1 else 0
theorem b2i_t {p : Prop} [Decidable p] (h : p) : b2i p = 1 := if_pos h
theorem b2i_f {p : Prop} [Decidable p] (h : ¬ p) : b2i p = 0 := if_neg h
theorem b2i_0 {p : Prop} [Decidable p] : b2i p = 0 ↔ ¬ p := by unfold b2i; by_cases h : p <;> simp [h]
theorem b2i_1 {p : Prop} [Decidable p] : b2i p = 1 ↔ p := by unfold b2i; by_cases h : p <;> simp [h]
theorem b2i_n0 {p : Prop} [Decidable p] (h : ¬ b2i p = 0) : p := Decidable.byContradiction fun n => h (b2i_0.mpr n)
theorem b2i_nar {p : Prop} [Decidable p] : narrow .boolean (.int (b2i p)) = .int (b2i p) := by unfold b2i; by_cases h : p <;> simp [h] <;> rfl
theorem ok_Item : clsOK R_Item T_Item 16 ci_Item ty_Item := ⟨rfl, in_Item, tyok_Item, nm_Item, by decide +kernel⟩
theorem ok_Items : clsOK R_Items T_Items 2 ci_Items ty_Items := ⟨rfl, in_Items, tyok_Items, nm_Items, by decide +kernel⟩
theorem ok_Line : clsOK R_Line T_Line 5 ci_Line ty_Line := ⟨rfl, in_Line, tyok_Line, nm_Line, by decide +kernel⟩
theorem ok_Names : clsOK R_Names T_Names 3 ci_Names ty_Names := ⟨rfl, in_Names, tyok_Names, nm_Names, by decide +kernel⟩
theorem ok_Row : clsOK R_Row T_Row 2 ci_Row ty_Row := ⟨rfl, in_Row, tyok_Row, nm_Row, by decide +kernel⟩
theorem ok_Source : clsOK R_Source T_Source 1 ci_Source ty_Source := ⟨rfl, in_Source, tyok_Source, nm_Source, by decide +kernel⟩
theorem ok_Expander : clsOK R_Expander T_Expander 6 ci_Expander ty_Expander := ⟨rfl, in_Expander, tyok_Expander, nm_Expander, by decide +kernel⟩
theorem ok_Assembly : clsOK R_Assembly T_Assembly 8 ci_Assembly ty_Assembly := ⟨rfl, in_Assembly, tyok_Assembly, nm_Assembly, by decide +kernel⟩
theorem ok_BP : clsOK R_BP T_BP 4 ci_BP ty_BP := ⟨rfl, in_BP, tyok_BP, nm_BP, by decide +kernel⟩
/-- of each ITEM its numbers, by the number of the field, and the ITEMS that it names -/
abbrev IS : Type := (Nat → Nat → Int32) × (Nat → Nat → Option Nat)
def ir (a : Nat) (o : Option Nat) : Value := va_rf (o.map (fun j => a + 2 + j))
theorem ir_n (a : Nat) : ir a none = .null := rfl
theorem ir_s (a j : Nat) : ir a (some j) = .ref (a + 2 + j) := rfl
def iv (a : Nat) (S : IS) (i : Nat) : List Value := [.int (S.1 0 i), .int (S.1 1 i), .int (S.1 2 i), .int (S.1 3 i), .int (S.1 4 i), .int (S.1 5 i), .int (S.1 6 i), ir a (S.2 7 i), ir a (S.2 8 i), ir a (S.2 9 i), .int (S.1 10 i), .int (S.1 11 i), .int (S.1 12 i), .int (S.1 13 i), .int (S.1 14 i), .int (S.1 15 i)]
def sI (S : IS) (k i : Nat) (v : Int32) : IS := (fun f j => if f = k ∧ j = i then v else S.1 f j, S.2)
def sR (S : IS) (k i : Nat) (o : Option Nat) : IS := (S.1, fun f j => if f = k ∧ j = i then o else S.2 f j)
theorem iv_sI_ne {a i j k : Nat} {S : IS} {v : Int32} (h : j ≠ i) : iv a (sI S k i v) j = iv a S j := by simp [iv, sI, h]
theorem iv_sR_ne {a i j k : Nat} {S : IS} {o : Option Nat} (h : j ≠ i) : iv a (sR S k i o) j = iv a S j := by simp [iv, sR, h]
abbrev iArr (g : GG) (a : Nat) (H : Heap) : Prop := pt g (a + 1) (.inl (g.2 4, 121, .inr (.inr (.inr (.inr (fun i => some (a + 2 + i))))))) H
def iAt (g : GG) (a c : Nat) (S : IS) (H : Heap) : Prop :=
  pt g a (.inr (ci_Items, [.ref (a + 1), .int (nI c)])) H ∧ iArr g a H ∧ (∀ i, i < 121 → pt g (a + 2 + i) (.inr (ci_Item, iv a S i)) H) ∧ ∀ k i j, i < 121 → S.2 k i = some j → j < 121
abbrev iF (a : Nat) : Nat → Prop := fun q => a ≤ q ∧ q < a + 123
theorem iAt.keep {g : GG} {a c : Nat} {S : IS} {H H1 : Heap} (h : iAt g a c S H) (hq : ∀ q, a ≤ q → q < a + 123 → H1[q]? = H[q]?) : iAt g a c S H1 :=
  ⟨h.1.kept (hq _ (by omega) (by omega)), h.2.1.kept (hq _ (by omega) (by omega)), fun i hi => (h.2.2.1 i hi).kept (hq _ (by omega) (by omega)), h.2.2.2⟩
theorem iAt.lt {g : GG} {a c : Nat} {S : IS} {H : Heap} (h : iAt g a c S H) : a + 122 < H.size := (h.2.2.1 120 (by omega)).lt
/-- behind the writing of an ITEM's cell -/
theorem iAt.put {g : GG} {a c i : Nat} {S S' : IS} {H H1 : Heap} {fs : List Value} (h : iAt g a c S H) (hi : i < 121) (hp : pt g (a + 2 + i) (.inr (ci_Item, fs)) H1) (hc : chg (a + 2 + i) H H1) (e : fs = iv a S' i) (eo : ∀ j, j ≠ i → iv a S' j = iv a S j) (hw : ∀ k i j, i < 121 → S'.2 k i = some j → j < 121) : iAt g a c S' H1 := by
  refine ⟨h.1.off hc (by omega), h.2.1.off hc (by omega), fun j hj => ?_, hw⟩
  by_cases z : j = i
  · subst z
    rw [← e]
    exact hp
  · rw [eo j z]
    exact (h.2.2.1 j hj).off hc (by omega)
theorem iAt.pI {g : GG} {a c i k : Nat} {S : IS} {H H1 : Heap} {fs : List Value} {v : Int32} (h : iAt g a c S H) (hi : i < 121) (hp : pt g (a + 2 + i) (.inr (ci_Item, fs)) H1) (hc : chg (a + 2 + i) H H1) (e : fs = iv a (sI S k i v) i) : iAt g a c (sI S k i v) H1 :=
  h.put hi hp hc e (fun _ hj => iv_sI_ne hj) h.2.2.2
theorem iAt.pR {g : GG} {a c i k : Nat} {S : IS} {H H1 : Heap} {fs : List Value} {o : Option Nat} (h : iAt g a c S H) (hi : i < 121) (ho : ∀ j, o = some j → j < 121) (hp : pt g (a + 2 + i) (.inr (ci_Item, fs)) H1) (hc : chg (a + 2 + i) H H1) (e : fs = iv a (sR S k i o) i) : iAt g a c (sR S k i o) H1 :=
  h.put hi hp hc e (fun _ hj => iv_sR_ne hj) (fun f i' j hi' hj => by
    simp only [sR] at hj
    split at hj
    · exact ho j hj
    · exact h.2.2.2 f i' j hi' hj)
/-- the number of ITEMS is written -/
theorem iAt.pC {g : GG} {a c c' : Nat} {S : IS} {H H1 : Heap} {fs : List Value} (h : iAt g a c S H) (hp : pt g a (.inr (ci_Items, fs)) H1) (hc : chg a H H1) (e : fs = [.ref (a + 1), .int (nI c')]) : iAt g a c' S H1 :=
  ⟨e ▸ hp, h.2.1.off hc (by omega), fun i hi => (h.2.2.1 i hi).off hc (by omega), h.2.2.2⟩
-- what the methods of an ITEM answer
abbrev brF (S : IS) (i : Nat) : Prop := S.1 0 i = 3 ∨ S.1 0 i = 4
def gvF (S : IS) (o : Option Nat) : Int32 := match o with | none => 0 | some j => S.1 4 j
def valF (S : IS) (i : Nat) : Int32 := S.1 3 i + gvF S (S.2 7 i) - gvF S (S.2 8 i)
def dstF (S : IS) (i : Nat) : Int32 := valF S i - (S.1 12 i + 1)
abbrev nearF (S : IS) (i : Nat) : Prop := -8 ≤ dstF S i ∧ dstF S i ≤ 7
def abvF (S : IS) (i : Nat) : Int32 := match S.2 9 i with | none => 0 | some j => S.1 12 j + S.1 10 i - S.1 12 i
abbrev folF (S : IS) (i : Nat) : Prop := (S.1 0 i = 6 ∨ S.1 0 i = 7) ∧ S.1 13 i = 0 ∨ ¬ (S.1 0 i = 6 ∨ S.1 0 i = 7) ∧ ¬ S.1 0 i = 2
def szF (S : IS) (i : Nat) (st : Int32) : Int32 :=
  if S.1 0 i = 2 ∨ S.1 0 i = 5 then 1 else if S.1 0 i = 3 then (if S.1 14 i = 0 then 1 else 2) else if S.1 0 i = 4 then (if S.1 14 i = 0 then 1 else 3) else if S.1 0 i = 6 then S.1 11 i else
  if S.1 0 i = 7 then (if 0 < S.1 3 i then (S.1 3 i - (st - st / S.1 3 i * S.1 3 i)) - (S.1 3 i - (st - st / S.1 3 i * S.1 3 i)) / S.1 3 i * S.1 3 i else 0) else 0
def bwF (S : IS) (i : Nat) (o : Int32) : Int32 :=
  if S.1 14 i = 0 then (if S.1 0 i = 4 then 4008 else 3008) + dstF S i else
  let oj := if S.1 0 i = 4 then o - 1 else o
  if oj < 0 then 4100 else if oj = 0 then 3100 else valF S i
def shF (S : IS) (i : Nat) (w : Int32) : Int32 :=
  if w = 2 then 1 else if w = 3 then S.1 13 i else if w = 4 then b2i (brF S i) else if w = 5 then (if S.1 14 i = 0 then 0 else 1) else if w = 7 then b2i (S.1 0 i = 5) else
  if w = 8 then (if S.1 0 i = 6 then S.1 13 i else 0) else if w = 9 then (if S.1 0 i = 7 then S.1 13 i else 0) else if w = 10 then (if S.1 15 i = 0 then 0 else S.1 13 i) else
  if w = 11 then (if S.1 15 i = 0 ∧ (brF S i ∨ S.1 0 i = 5) then S.1 13 i else 0) else 0
def telS (S : IS) (i : Nat) (k x y n says ml dp : Int32) : IS :=
  sI (sI (sI (sI (sI (sI (sR (sR (sR (sI (sI (sI (sI (sI (sI (sI S 0 i k) 1 i x) 2 i y) 3 i n) 4 i says) 5 i ml) 6 i dp) 7 i none) 8 i none) 9 i none) 10 i 0) 11 i 0) 12 i 0) 13 i 0) 14 i 0) 15 i 0
/-- a LINE's cell -/
abbrev lnAt (g : GG) (q : Nat) (k x y n r : Int32) (H : Heap) : Prop := pt g q (.inr (ci_Line, [.int k, .int x, .int y, .int n, .int r])) H
theorem lt31 {n : Nat} (h : n < 121) : n < 2 ^ 31 := by omega
theorem wmin_l3 : Cond.methodLink R_Items 26 Lib.Math.min.name ∈ LW := LW_t 318 (by decide +kernel) (by decide +kernel)
theorem wmax_l3 : Cond.methodLink R_Items 38 Lib.Math.max.name ∈ LW := LW_t 311 (by decide +kernel) (by decide +kernel)
theorem wmax_l6 : Cond.methodLink R_Row 7 Lib.Math.max.name ∈ LW := LW_t 555 (by decide +kernel) (by decide +kernel)
theorem wmin_l6 : Cond.methodLink R_Row 25 Lib.Math.min.name ∈ LW := LW_t 492 (by decide +kernel) (by decide +kernel)
theorem wmin_s : Cond.static Lib.Math.min.name ∈ LW := LW_t 319 (by decide +kernel) (by decide +kernel)
theorem wmin_c : Cond.code Lib.Math.min.name Lib.Math.min.code 2 (some .int) ∈ LW := LW_t 320 (by decide +kernel) (by decide +kernel)
theorem wmax_s : Cond.static Lib.Math.max.name ∈ LW := LW_t 312 (by decide +kernel) (by decide +kernel)
theorem wmax_c : Cond.code Lib.Math.max.name Lib.Math.max.code 2 (some .int) ∈ LW := LW_t 313 (by decide +kernel) (by decide +kernel)
theorem wmath_i : Cond.initialized "java/lang/Math" ∈ LW := LW_t 5 (by decide +kernel) (by decide +kernel)
section MATH
variable {g : GG} {p : Program} {l : Launch} {e : Env} {s : State} {m : MethodId} {args : Array Value} {below : List Frame} {meth : Method} {c : Code} {H : Heap} {locs : List Loc} {cells slots : Nat} {Q : State → Prop}
variable {cc : ByteArray} {nL : Nat} {ret : Option FieldType} {own nm : String} {pc : Nat} {ls : Array Slot} {rest : List Value}
theorem m_min (X : CX g p s m args meth c cc nL ret own nm) {lv mcR msR index : Nat} (hlv : 1 ≤ lv) (hl : Cond.methodLink own index Lib.Math.min.name ∈ LW) (hr : (rest.map fun v => v.category).sum ≤ 8) (hls : ls.size = nL) (hm : cells ≤ mcR ∧ slots ≤ msR) {x y v : Int32} (hv : (if y < x then y else x) = v) (hdg : decode cc pc = .ok (.invokestatic index, 3))
    (kk : W p l e (rmK lv mcR msR) s m args below meth c H locs cells slots Q (F0 m (pc + 3) ls (.int v :: rest))) : W p l e (rmK lv mcR msR) s m args below meth c H locs cells slots Q (F0 m pc ls (.int y :: .int x :: rest)) := by
  subst hv
  exact va_mmin X.x X.b (X.ml.trans hls.symm) X.wn (X.ts _ hl) (X.ts _ wmin_s) (X.ts _ wmath_i) (X.ts _ wmin_c) (by simp only [rmK]; omega) (by simp only [rmK]; omega) hm.1 hm.2 hdg kk
theorem m_max (X : CX g p s m args meth c cc nL ret own nm) {lv mcR msR index : Nat} (hlv : 1 ≤ lv) (hl : Cond.methodLink own index Lib.Math.max.name ∈ LW) (hr : (rest.map fun v => v.category).sum ≤ 8) (hls : ls.size = nL) (hm : cells ≤ mcR ∧ slots ≤ msR) {x y v : Int32} (hv : (if x < y then y else x) = v) (hdg : decode cc pc = .ok (.invokestatic index, 3))
    (kk : W p l e (rmK lv mcR msR) s m args below meth c H locs cells slots Q (F0 m (pc + 3) ls (.int v :: rest))) : W p l e (rmK lv mcR msR) s m args below meth c H locs cells slots Q (F0 m pc ls (.int y :: .int x :: rest)) := by
  subst hv
  exact va_mmax X.x X.b (X.ml.trans hls.symm) X.wn (X.ts _ hl) (X.ts _ wmax_s) (X.ts _ wmath_i) (X.ts _ wmax_c) (by simp only [rmK]; omega) (by simp only [rmK]; omega) hm.1 hm.2 hdg kk
end MATH
theorem nI_dec (j : Nat) : nI j + Int32.ofInt (-1) = nI j - 1 := by rw [Int32.sub_eq_add_neg]; rfl
def iaO (c : Nat) (k : Int32) : Option Nat := if 0 ≤ k ∧ k < nI c then some k.toNatClampNeg else none
theorem iaO_lt {c j : Nat} {k : Int32} (h : iaO c k = some j) (hc : c < 2 ^ 31) : j < c := by
  unfold iaO at h
  split at h
  · rename_i hk
    obtain ⟨h1, h2⟩ := hk
    rcases pk_ix k hc with z | z | ⟨j2, z, rfl⟩
    · exact absurd h1 (Int32.not_le.mpr z)
    · exact absurd h2 (Int32.not_lt.mpr z)
    · rw [nI_clamp (by omega)] at h
      cases h
      exact z
  · cases h
theorem iaO_in {c j : Nat} (h : j < c) (hc : c < 2 ^ 31) : iaO c (nI j) = some j := by
  unfold iaO
  rw [if_pos ⟨nI_pos' (by omega), nI_lt h hc⟩, nI_clamp (by omega)]
theorem iaO_out {c : Nat} {k : Int32} (h : k < 0) : iaO c k = none := if_neg (fun z => absurd z.1 (Int32.not_le.mpr h))
theorem iaO_top {c : Nat} : iaO c (nI c) = none := if_neg (fun z => Int32.lt_irrefl z.2)
theorem nI_min {t c : Nat} (ht : t < 2 ^ 31) (hc : c < 2 ^ 31) : (if nI c < nI t then nI c else nI t) = nI (min t c) := by
  by_cases h : c < t
  · rw [if_pos ((nI_ltI hc ht).mpr h), Nat.min_eq_right (by omega)]
  · rw [if_neg (fun z => h ((nI_ltI hc ht).mp z)), Nat.min_eq_left (by omega)]
-- what the ITEMS look for
def nAh (S : IS) (k x : Int32) : Nat → Option Nat
  | 0 => none
  | j + 1 => if S.1 0 j = k ∧ S.1 1 j = x then some j else nAh S k x j
theorem nAh_lt {S : IS} {k x : Int32} : ∀ {t j : Nat}, nAh S k x t = some j → j < t
  | 0, j, h => by cases h
  | t + 1, j, h => by
    simp only [nAh] at h
    split at h
    · cases h; omega
    · have := nAh_lt h; omega
def nBe (S : IS) (k x : Int32) : Nat → Nat → Option Nat
  | 0, _ => none
  | n + 1, i => if S.1 0 i = k ∧ S.1 1 i = x then some i else nBe S k x n (i + 1)
theorem nBe_lt {S : IS} {k x : Int32} : ∀ {n i j : Nat}, nBe S k x n i = some j → i ≤ j ∧ j < i + n
  | 0, i, j, h => by cases h
  | n + 1, i, j, h => by
    simp only [nBe] at h
    split at h
    · cases h; omega
    · have := nBe_lt h; omega
def gvO (S : IS) (c : Nat) (x : Int32) (t : Nat) : Option Nat :=
  if 9 < x then nBe S 0 (x - 2) (c - (t + 1)) (t + 1) else
  match nAh S 0 x (min t c) with
  | some j => some j
  | none => if x < 8 then (match nBe S 0 x (c - (t + 1)) (t + 1) with | some j => some j | none => nAh S 1 x (min t c)) else none
theorem gvO_lt {S : IS} {c t j : Nat} {x : Int32} (h : gvO S c x t = some j) : j < c := by
  unfold gvO at h
  split at h
  · have := nBe_lt h; omega
  · split at h
    · rename_i j' e
      have := nAh_lt e
      cases h; omega
    · split at h
      · split at h
        · rename_i j' e
          have := nBe_lt e
          cases h
          omega
        · have := nAh_lt h; omega
      · cases h
theorem nAh_1 {S S2 : IS} (h : S2.1 = S.1) (k x : Int32) : ∀ t, nAh S2 k x t = nAh S k x t
  | 0 => rfl
  | t + 1 => by simp only [nAh, h, nAh_1 h k x t]
theorem nBe_1 {S S2 : IS} (h : S2.1 = S.1) (k x : Int32) : ∀ n i, nBe S2 k x n i = nBe S k x n i
  | 0, _ => rfl
  | n + 1, i => by simp only [nBe, h, nBe_1 h k x n (i + 1)]
theorem gvO_1 {S S2 : IS} (h : S2.1 = S.1) (c : Nat) (x : Int32) (t : Nat) : gvO S2 c x t = gvO S c x t := by
  simp only [gvO, nAh_1 h, nBe_1 h]
abbrev hvF (S : IS) (i : Nat) : Prop := S.1 0 i = 2 ∨ brF S i
def xgO (S : IS) (c i : Nat) (x : Int32) : Option Nat := if x = -1 then none else gvO S c x i
def lkS (S : IS) (c i : Nat) : IS := sR (sR S 7 i (xgO S c i (S.1 1 i))) 8 i (xgO S c i (S.1 2 i))
abbrev misF (S : IS) (c i : Nat) : Prop := (¬ S.1 1 i = -1 ∧ gvO S c (S.1 1 i) i = none) ∨ (¬ S.1 2 i = -1 ∧ gvO S c (S.1 2 i) i = none)
def lkv (c : Nat) : Nat → Nat → IS → IS × Int32
  | 0, _, S => (S, -1)
  | n + 1, i, S => if hvF S i then (if misF S c i then (lkS S c i, nI i) else lkv c n (i + 1) (lkS S c i)) else lkv c n (i + 1) S
def los (S : IS) (i : Nat) : Nat → Nat → Option Nat
  | 0, _ => none
  | n + 1, f => if S.1 0 f = 5 ∧ S.1 3 f = S.1 3 i then some f else los S i n (f + 1)
theorem los_lt {S : IS} {k : Nat} : ∀ {n i j : Nat}, los S k n i = some j → j < i + n
  | 0, i, j, h => by cases h
  | n + 1, i, j, h => by
    simp only [los] at h
    split at h
    · cases h; omega
    · have := los_lt h; omega
def tlp (q : Nat) : Nat → Nat → IS → IS
  | 0, _, S => S
  | n + 1, f, S => tlp q n (f + 1) (sR S 9 f (if S.1 0 f = 5 then some q else none))
/-- state, the first behind the pool ahead, how many different so far -/
def lkp : Nat → Nat → IS → Nat → Int32 → IS
  | 0, _, S, _, _ => S
  | n + 1, i, S, f, d =>
    if S.1 0 i = 5 then
      (match los S i (i - f) f with
      | none => lkp n (i + 1) (sI S 10 i d) f (d + 1)
      | some j => lkp n (i + 1) (sI S 10 i (S.1 10 j)) f (d + 0))
    else if S.1 0 i = 6 then lkp n (i + 1) (tlp i (i - f) f (sI S 11 i d)) (i + 1) 0
    else lkp n (i + 1) S f d
def plS (S : IS) (i : Nat) (ad : Int32) : IS :=
  let S1 := sI S 12 i ad
  let S2 := sI S1 13 i (szF S1 i ad)
  sI S2 4 i (if S2.1 0 i = 0 then ad else S2.1 4 i)
def plc : Nat → Nat → IS → Int32 → IS
  | 0, _, S, _ => S
  | n + 1, i, S, ad => plc n (i + 1) (plS S i ad) (ad + (plS S i ad).1 13 i)
def lng : Nat → Nat → IS → Int32 → IS × Int32
  | 0, _, S, b => (S, b)
  | n + 1, i, S, b => if brF S i ∧ S.1 14 i = 0 ∧ ¬ nearF S i then lng n (i + 1) (sI S 14 i 1) 1 else lng n (i + 1) S b
def ffl (S : IS) : Nat → Nat → Int32
  | 0, _ => -1
  | n + 1, i => if S.1 0 i = 5 ∧ 16 < abvF S i then nI i else ffl S n (i + 1)
def cnl (c : Nat) : Nat → Nat → IS → Int32 → IS × Int32
  | 0, _, S, f => (plc c 0 S 0, f)
  | n + 1, i, S, f => if S.1 14 i = 0 then cnl c n (i + 1) S f else
    let S2 := plc c 0 (sI S 14 i 0) 0
    cnl c n (i + 1) (sI S2 14 i 1) (f + b2i (nearF S2 i))
def tal (S : IS) (w : Int32) : Nat → Nat → Int32 → Int32
  | 0, _, s => s
  | n + 1, i, s => tal S w n (i + 1) (s + shF S i w)
def hof (S : IS) (ad : Int32) : Nat → Nat → Int32
  | 0, _ => -1
  | n + 1, i => if S.1 12 i ≤ ad ∧ ad < S.1 12 i + S.1 13 i then nI i else hof S ad n (i + 1)
def fwl (S : IS) (ad : Int32) : Nat → Nat → Int32
  | 0, _ => -1
  | n + 1, i => if S.1 12 i = ad then nI i else fwl S ad n (i + 1)
def fwF (S : IS) (c : Nat) (ad : Int32) : Int32 := if hof S ad c 0 = -1 then -1 else fwl S ad c 0
def wop (S : IS) (q : Nat) (pl : Int32) : Nat → Nat → Int32
  | 0, _ => 0
  | n + 1, i => if S.2 9 i = some q ∧ S.1 10 i = pl then S.1 3 i else wop S q pl n (i + 1)
def woF (S : IS) (c i : Nat) (o : Int32) : Int32 :=
  if S.1 0 i = 2 then valF S i else if S.1 0 i = 3 ∨ S.1 0 i = 4 then bwF S i o else if S.1 0 i = 5 then 5000 + abvF S i - 1 else if S.1 0 i = 6 then wop S i o c 0 else 0
section CALLM
variable {g : GG} {p : Program} {l : Launch} {e : Env} {s : State} {m : MethodId} {args : Array Value} {below : List Frame} {meth : Method} {c : Code} {H : Heap} {locs : List Loc} {cells slots : Nat} {Q : State → Prop}
variable {cc : ByteArray} {nL : Nat} {ret : Option FieldType} {own nm : String} {pc : Nat} {ls : Array Slot} {rest : List Value}
/-- a call that makes no cell -/
theorem m_callM (X : CX g p s m args meth c cc nL ret own nm) {lv mcR msR : Nat} {A A1 : Nat → Prop} {H0 : Heap} (hS : va_S (AA A H0) H0 H locs) {y : MethodName} {c1 : ByteArray} {n1 lv1 index k : Nat} {ret1 : Option FieldType} {b : Nat} {as st : List Value} {v0 : Option Value} {Pq : Heap → Prop} {C : String}
    (M : MM l y c1 n1 ret1 lv1 0 0 g H (.ref b :: as) A1 v0 Pq) (ok : CallVok own index C y c1 n1 ret1 k) {ci : Nat} {fs : List Value} (hb : pt g b (.inr (ci, fs)) H) {T : u_T} {N : Nat} (hci : vwCl[ci]? = some (C, T, N)) (hk : as.length = k) (hst : st = as.reverse ++ .ref b :: rest) (hr : (rest.map fun v => v.category).sum ≤ 8) (hls : ls.size = nL)
    (hdg : decode cc pc = .ok (.invokevirtual index, 3)) (hlv : lv1 + 1 ≤ lv) (hn1 : n1 ≤ 21) (hm : cells ≤ mcR ∧ slots ≤ msR) (hA : ∀ q, A1 q → A q)
    (kk : ∀ (H1 : Heap) (locs1 : List Loc), Pq H1 → fr A1 H H1 → va_S (AA A H0) H0 H1 locs1 → W p l e (rmK lv mcR msR) s m args below meth c H1 locs1 cells slots Q (F0 m (pc + 3) ls (v0.toList ++ rest))) : W p l e (rmK lv mcR msR) s m args below meth c H locs cells slots Q (F0 m pc ls st) :=
  m_callV X hS M ok hb hci hk hst hr hls hdg hlv hn1 hm (fun q h => h.elim (fun z => Or.inl (hA q z)) (fun z => Or.inr (Nat.le_trans hS.1 z))) kk
theorem m_callMN (X : CX g p s m args meth c cc nL ret own nm) {lv mcR msR : Nat} {A A1 : Nat → Prop} {H0 : Heap} (hS : va_S (AA A H0) H0 H locs) {y : MethodName} {c1 : ByteArray} {n1 lv1 index k : Nat} {ret1 : Option FieldType} {b : Nat} {as st : List Value} {v0 : Option Value} {Pq : Heap → Prop} {C host : String}
    (M : MM l y c1 n1 ret1 lv1 0 0 g H (.ref b :: as) A1 v0 Pq) (hN : va_Nw (.methodLinkNest own index y host) s) (hcode : Cond.code y c1 n1 ret1 ∈ LW) (hini : Cond.initialized y.cls ∈ LW) (hinst : Cond.instanceMethod y ∈ LW) (hsel : Cond.selects C y y ∈ LW) (hd : y.cls ≠ "java/lang/invoke/MethodHandle" ∧ y.cls ≠ "java/lang/invoke/VarHandle" ∧ (parseMethodDescriptor y.desc).map (fun d => d.parameters.length) = some k) {ci : Nat} {fs : List Value} (hb : pt g b (.inr (ci, fs)) H) {T : u_T} {N : Nat} (hci : vwCl[ci]? = some (C, T, N)) (hk : as.length = k) (hst : st = as.reverse ++ .ref b :: rest) (hr : (rest.map fun v => v.category).sum ≤ 8) (hls : ls.size = nL)
    (hdg : decode cc pc = .ok (.invokevirtual index, 3)) (hlv : lv1 + 1 ≤ lv) (hn1 : n1 ≤ 21) (hm : cells ≤ mcR ∧ slots ≤ msR) (hA : ∀ q, A1 q → A q)
    (kk : ∀ (H1 : Heap) (locs1 : List Loc), Pq H1 → fr A1 H H1 → va_S (AA A H0) H0 H1 locs1 → W p l e (rmK lv mcR msR) s m args below meth c H1 locs1 cells slots Q (F0 m (pc + 3) ls (v0.toList ++ rest))) : W p l e (rmK lv mcR msR) s m args below meth c H locs cells slots Q (F0 m pc ls st) :=
  m_callVN X hS M hN hcode hini hinst hsel hd hb hci hk hst hr hls hdg hlv hn1 hm (fun q h => h.elim (fun z => Or.inl (hA q z)) (fun z => Or.inr (Nat.le_trans hS.1 z))) kk
end CALLM
theorem lng_b (c : Nat) : ∀ (n i : Nat) (S : IS) (b : Int32), (b = 0 ∨ b = 1) → ((lng n i S b).2 = 0 ∨ (lng n i S b).2 = 1)
  | 0, _, _, _, h => h
  | n + 1, i, S, b, h => by
    simp only [lng]
    split
    · exact lng_b c n (i + 1) _ 1 (Or.inr rfl)
    · exact lng_b c n (i + 1) _ b h
theorem bool_nar {b : Int32} (h : b = 0 ∨ b = 1) : narrow .boolean (.int b) = .int b := by rcases h with rfl | rfl <;> rfl
