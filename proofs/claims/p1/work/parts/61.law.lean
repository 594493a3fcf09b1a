-- THE LAW, FROM ITS BEGINNING TO ITS END
/-- less room is asked for on the way; at its end all is as it was -/
theorem W.lessK {p : Program} {l : Launch} {e : Env} {R R' : Room} {s : State} {m : MethodId} {args : Array Value} {below : List Frame} {meth : Method} {c : Code} {H : Heap} {locs : List Loc} {cells slots : Nat} {Q : State → Prop} {fr' : JFrame} (hf : R'.frames ≤ R.frames) (hl : R'.locals ≤ R.locals) (hc : R'.cells ≤ R.cells) (hs : R'.slots ≤ R.slots)
    (k : (∀ {H2 : Heap} {locs2 : List Loc} {cells2 slots2 : Nat} {fr2 : JFrame}, W p l e R s m args below meth c H2 locs2 cells2 slots2 Q fr2 → W p l e R' s m args below meth c H2 locs2 cells2 slots2 Q fr2) → W p l e R' s m args below meth c H locs cells slots Q fr') : W p l e R s m args below meth c H locs cells slots Q fr' := by
  intro T hT X
  have hr := X.room
  exact W.less hf hl hc hs (k (fun w T' hT' X' => w T' hT' ⟨X'.admits, X'.cas, X'.clock, X'.frames, hr, X'.hears, X'.method, X'.code, X'.here, X'.tail, X'.warmed, X'.limits, X'.bytes, X'.same⟩)) T hT X
theorem in8 {w : Int32} (h : 0 ≤ w ∧ w ≤ 7) : ∃ t, t < 8 ∧ w = nI t := by
  rcases pk_ix w (show (8 : Nat) < 2 ^ 31 by omega) with z | z | z
  · exact absurd h.1 (Int32.not_le.mpr z)
  · exact absurd (Int32.le_trans (show (8 : Int32) ≤ w from z) h.2) (by decide)
  · exact z
theorem in12 {w : Int32} (h : 0 ≤ w ∧ w ≤ 11) : ∃ t, t < 12 ∧ w = nI t := by
  rcases pk_ix w (show (12 : Nat) < 2 ^ 31 by omega) with z | z | z
  · exact absurd h.1 (Int32.not_le.mpr z)
  · exact absurd (Int32.le_trans (show (12 : Int32) ≤ w from z) h.2) (by decide)
  · exact z
theorem in20 {w : Int32} (h : 1 ≤ w ∧ w ≤ 20) : ∃ t, 1 ≤ t ∧ t ≤ 20 ∧ w = nI t := by
  rcases pk_ix w (show (21 : Nat) < 2 ^ 31 by omega) with z | z | ⟨t, ht, z⟩
  · exact absurd (Int32.le_trans (show (1 : Int32) ≤ 1 by decide) h.1) (Int32.not_le.mpr (Int32.lt_trans z (by decide)))
  · exact absurd (Int32.le_trans (show (21 : Int32) ≤ w from z) h.2) (by decide)
  · refine ⟨t, ?_, by omega, z⟩
    rcases Nat.eq_zero_or_pos t with y | y
    · subst y
      rw [z] at h
      exact absurd h.1 (by decide)
    · exact y
theorem len8 {L : Nat} (h : L ≤ 8) (h2 : ¬ Int32.ofNat L - 8 < 0) : L = 8 := by
  rcases (show L = 0 ∨ L = 1 ∨ L = 2 ∨ L = 3 ∨ L = 4 ∨ L = 5 ∨ L = 6 ∨ L = 7 ∨ L = 8 by omega) with rfl | rfl | rfl | rfl | rfl | rfl | rfl | rfl | rfl
  all_goals first | rfl | exact absurd (by decide) h2
theorem lawJ_0 {g : GG} {p : Program} {l : Launch} {e : Env} {s : State} {m : MethodId} {below : List Frame} {meth : Method} {c : Code} {H : Heap} {locs : List Loc} {cells slots : Nat} {Q : State → Prop} {nm : String} {ls : Array Slot} {B mo oq b : Nat} {xs : Nat → Int32} (X : CX g p s m #[.ref b] meth c c_Law_law 9 (some .boolean) R_Law nm) (hfl : l.stackTraces = false) (hx : va_X b 8 xs s s.heap) (hbl : b < s.heap.size) (kk : LawE p l e s m b below meth c Q) (h0 : LawS g s B mo oq b locs cells slots ls H) : W p l e (rmK 2000 600002 7302232) s m #[.ref b] below meth c H locs cells slots Q (F0 m 132 ls []) := by
  by_cases h1 : rIn (xs 1)
  · obtain ⟨r, hr, h1⟩ := rIn_ex h1
    by_cases h6 : (xs 6) = 0
    · by_cases hln : lnOk (xs 2) (xs 3) (xs 4) (xs 5) 0
      · rcases Nat.eq_zero_or_pos r with z | z
        · subst z
          exact law_0_z0 X hfl hx hbl kk h0 (h1.trans rfl) hln h6
        · exact law_0_r0 X hfl hx hbl kk h0 hr z h1 hln h6
      · exact law_0_IA0 X hfl hx hbl kk h0 hr h1 hln h6
    · by_cases hln : lnOk (xs 2) (xs 3) (xs 4) (xs 5) 1
      · rcases Nat.eq_zero_or_pos r with z | z
        · subst z
          exact law_0_z1 X hfl hx hbl kk h0 (h1.trans rfl) hln h6
        · exact law_0_r1 X hfl hx hbl kk h0 hr z h1 hln h6
      · exact law_0_IA1 X hfl hx hbl kk h0 hr h1 hln h6
  · exact law_0_IO X hfl hx hbl kk h0 h1
theorem lawJ_6 {g : GG} {p : Program} {l : Launch} {e : Env} {s : State} {m : MethodId} {below : List Frame} {meth : Method} {c : Code} {H : Heap} {locs : List Loc} {cells slots : Nat} {Q : State → Prop} {nm : String} {ls : Array Slot} {B mo oq b : Nat} {xs : Nat → Int32} (X : CX g p s m #[.ref b] meth c c_Law_law 9 (some .boolean) R_Law nm) (hfl : l.stackTraces = false) (hx : va_X b 8 xs s s.heap) (hbl : b < s.heap.size) (kk : LawE p l e s m b below meth c Q) (h0 : LawS g s B mo oq b locs cells slots ls H) : W p l e (rmK 2000 600002 7302232) s m #[.ref b] below meth c H locs cells slots Q (F0 m 588 ls []) := by
  by_cases h1 : xs 1 = 0
  · by_cases h2 : 0 ≤ xs 2 ∧ xs 2 ≤ 7
    · obtain ⟨t, ht, h2⟩ := in8 h2
      exact law_6_y X hfl hx hbl kk h0 h1 ht h2
    · exact law_6_o X hfl hx hbl kk h0 h1 h2
  · exact law_6_n X hfl hx hbl kk h0 h1
theorem lawJ_10 {g : GG} {p : Program} {l : Launch} {e : Env} {s : State} {m : MethodId} {below : List Frame} {meth : Method} {c : Code} {H : Heap} {locs : List Loc} {cells slots : Nat} {Q : State → Prop} {nm : String} {ls : Array Slot} {B mo oq b : Nat} {xs : Nat → Int32} (X : CX g p s m #[.ref b] meth c c_Law_law 9 (some .boolean) R_Law nm) (hfl : l.stackTraces = false) (hx : va_X b 8 xs s s.heap) (hbl : b < s.heap.size) (kk : LawE p l e s m b below meth c Q) (h0 : LawS g s B mo oq b locs cells slots ls H) : W p l e (rmK 2000 600002 7302232) s m #[.ref b] below meth c H locs cells slots Q (F0 m 831 ls []) := by
  by_cases h1 : 0 ≤ xs 1 ∧ xs 1 ≤ 7
  · obtain ⟨t, ht, h1⟩ := in8 h1
    exact law_10_y X hfl hx hbl kk h0 ht h1
  · exact law_10_n X hfl hx hbl kk h0 h1
theorem lawJ_11 {g : GG} {p : Program} {l : Launch} {e : Env} {s : State} {m : MethodId} {below : List Frame} {meth : Method} {c : Code} {H : Heap} {locs : List Loc} {cells slots : Nat} {Q : State → Prop} {nm : String} {ls : Array Slot} {B mo oq b : Nat} {xs : Nat → Int32} (X : CX g p s m #[.ref b] meth c c_Law_law 9 (some .boolean) R_Law nm) (hfl : l.stackTraces = false) (hx : va_X b 8 xs s s.heap) (hbl : b < s.heap.size) (kk : LawE p l e s m b below meth c Q) (h0 : LawS g s B mo oq b locs cells slots ls H) : W p l e (rmK 2000 600002 7302232) s m #[.ref b] below meth c H locs cells slots Q (F0 m 887 ls []) := by
  by_cases h1 : 0 ≤ xs 1 ∧ xs 1 ≤ 11
  · obtain ⟨t, ht, h1⟩ := in12 h1
    exact law_11_y X hfl hx hbl kk h0 ht h1
  · exact law_11_n X hfl hx hbl kk h0 h1
theorem lawJ_15 {g : GG} {p : Program} {l : Launch} {e : Env} {s : State} {m : MethodId} {below : List Frame} {meth : Method} {c : Code} {H : Heap} {locs : List Loc} {cells slots : Nat} {Q : State → Prop} {nm : String} {ls : Array Slot} {B mo oq b : Nat} {xs : Nat → Int32} (X : CX g p s m #[.ref b] meth c c_Law_law 9 (some .boolean) R_Law nm) (hfl : l.stackTraces = false) (hx : va_X b 8 xs s s.heap) (hbl : b < s.heap.size) (kk : LawE p l e s m b below meth c Q) (h0 : LawS g s B mo oq b locs cells slots ls H) : W p l e (rmK 2000 600002 7302232) s m #[.ref b] below meth c H locs cells slots Q (F0 m 1132 ls []) := by
  by_cases h1 : xs 1 = 0
  · exact law_15_y X hfl hx hbl kk h0 h1
  · exact law_15_n X hfl hx hbl kk h0 h1
theorem lawJ_17 {g : GG} {p : Program} {l : Launch} {e : Env} {s : State} {m : MethodId} {below : List Frame} {meth : Method} {c : Code} {H : Heap} {locs : List Loc} {cells slots : Nat} {Q : State → Prop} {nm : String} {ls : Array Slot} {B mo oq b : Nat} {xs : Nat → Int32} (X : CX g p s m #[.ref b] meth c c_Law_law 9 (some .boolean) R_Law nm) (hfl : l.stackTraces = false) (hx : va_X b 8 xs s s.heap) (hbl : b < s.heap.size) (kk : LawE p l e s m b below meth c Q) (h0 : LawS g s B mo oq b locs cells slots ls H) : W p l e (rmK 2000 600002 7302232) s m #[.ref b] below meth c H locs cells slots Q (F0 m 1201 ls []) := by
  by_cases h1 : xs 1 = 0
  · by_cases h2 : 1 ≤ xs 2 ∧ xs 2 ≤ 20
    · obtain ⟨t, ht1, ht, h2⟩ := in20 h2
      exact law_17_y X hfl hx hbl kk h0 h1 ht1 ht h2
    · exact law_17_o X hfl hx hbl kk h0 h1 h2
  · exact law_17_n X hfl hx hbl kk h0 h1
set_option maxRecDepth 100000 in
set_option maxHeartbeats 4000000 in
theorem law_turn {g : GG} {p : Program} {l : Launch} {e : Env} {s : State} {m : MethodId} {below : List Frame} {meth : Method} {c : Code} {H : Heap} {locs : List Loc} {cells slots : Nat} {Q : State → Prop} {nm : String} {ls : Array Slot} {B mo oq b : Nat} {xs : Nat → Int32} (X : CX g p s m #[.ref b] meth c c_Law_law 9 (some .boolean) R_Law nm) (hfl : l.stackTraces = false) (hx : va_X b 8 xs s s.heap) (hbl : b < s.heap.size) (kk : LawE p l e s m b below meth c Q) (h0 : LawS g s B mo oq b locs cells slots ls H) : W p l e (rmK 2000 600002 7302232) s m #[.ref b] below meth c H locs cells slots Q (F0 m 33 ls []) := by
  obtain ⟨⟨hB, hmo, hoq⟩, hS, -, -, -, hZ, hl, hcs, hss⟩ := id h0
  refine lv_aload_n X.x X.b d_Law_law_33 rfl (lv_at hl 4 rfl) ?_
  refine lv_iload X.x X.b d_Law_law_34 (lv_at hl 0 rfl) ?_
  refine m_sld X hx hbl hS 0 (by decide) rfl d_Law_law_36 ?_
  refine lv_bipush (v := 31) X.x X.b d_Law_law_37 (by decide) ?_
  refine lv_iand X.x X.b d_Law_law_39 ?_
  by_cases k1 : (xs 0) &&& 31 = 0
  · skip
    refine lv_tableIn (off := 92) (tgt := 132) X.x X.b d_Law_law_40 (by rw [k1]; decide) (by rw [k1]; decide) (by rw [k1]; decide) (by decide) ?_
    exact lawJ_0 X hfl hx hbl kk h0
  by_cases k2 : (xs 0) &&& 31 = 1
  · skip
    refine lv_tableIn (off := 226) (tgt := 266) X.x X.b d_Law_law_40 (by rw [k2]; decide) (by rw [k2]; decide) (by rw [k2]; decide) (by decide) ?_
    exact law_1 X hfl hx hbl kk h0
  by_cases k3 : (xs 0) &&& 31 = 2
  · skip
    refine lv_tableIn (off := 374) (tgt := 414) X.x X.b d_Law_law_40 (by rw [k3]; decide) (by rw [k3]; decide) (by rw [k3]; decide) (by decide) ?_
    exact law_2 X hfl hx hbl kk h0
  by_cases k4 : (xs 0) &&& 31 = 3
  · skip
    refine lv_tableIn (off := 442) (tgt := 482) X.x X.b d_Law_law_40 (by rw [k4]; decide) (by rw [k4]; decide) (by rw [k4]; decide) (by decide) ?_
    exact law_3 X hfl hx hbl kk h0
  by_cases k5 : (xs 0) &&& 31 = 4
  · skip
    refine lv_tableIn (off := 522) (tgt := 562) X.x X.b d_Law_law_40 (by rw [k5]; decide) (by rw [k5]; decide) (by rw [k5]; decide) (by decide) ?_
    exact law_4 X hfl hx hbl kk h0
  by_cases k6 : (xs 0) &&& 31 = 5
  · skip
    refine lv_tableIn (off := 535) (tgt := 575) X.x X.b d_Law_law_40 (by rw [k6]; decide) (by rw [k6]; decide) (by rw [k6]; decide) (by decide) ?_
    exact law_5 X hfl hx hbl kk h0
  by_cases k7 : (xs 0) &&& 31 = 6
  · skip
    refine lv_tableIn (off := 548) (tgt := 588) X.x X.b d_Law_law_40 (by rw [k7]; decide) (by rw [k7]; decide) (by rw [k7]; decide) (by decide) ?_
    exact lawJ_6 X hfl hx hbl kk h0
  by_cases k8 : (xs 0) &&& 31 = 7
  · skip
    refine lv_tableIn (off := 616) (tgt := 656) X.x X.b d_Law_law_40 (by rw [k8]; decide) (by rw [k8]; decide) (by rw [k8]; decide) (by decide) ?_
    exact law_7 X hfl hx hbl kk h0
  by_cases k9 : (xs 0) &&& 31 = 8
  · skip
    refine lv_tableIn (off := 672) (tgt := 712) X.x X.b d_Law_law_40 (by rw [k9]; decide) (by rw [k9]; decide) (by rw [k9]; decide) (by decide) ?_
    exact law_8 X hfl hx hbl kk h0
  by_cases k10 : (xs 0) &&& 31 = 9
  · skip
    refine lv_tableIn (off := 728) (tgt := 768) X.x X.b d_Law_law_40 (by rw [k10]; decide) (by rw [k10]; decide) (by rw [k10]; decide) (by decide) ?_
    exact law_9 X hfl hx hbl kk h0
  by_cases k11 : (xs 0) &&& 31 = 10
  · skip
    refine lv_tableIn (off := 791) (tgt := 831) X.x X.b d_Law_law_40 (by rw [k11]; decide) (by rw [k11]; decide) (by rw [k11]; decide) (by decide) ?_
    exact lawJ_10 X hfl hx hbl kk h0
  by_cases k12 : (xs 0) &&& 31 = 11
  · skip
    refine lv_tableIn (off := 847) (tgt := 887) X.x X.b d_Law_law_40 (by rw [k12]; decide) (by rw [k12]; decide) (by rw [k12]; decide) (by decide) ?_
    exact lawJ_11 X hfl hx hbl kk h0
  by_cases k13 : (xs 0) &&& 31 = 12
  · skip
    refine lv_tableIn (off := 903) (tgt := 943) X.x X.b d_Law_law_40 (by rw [k13]; decide) (by rw [k13]; decide) (by rw [k13]; decide) (by decide) ?_
    exact law_12 X hfl hx hbl kk h0
  by_cases k14 : (xs 0) &&& 31 = 13
  · skip
    refine lv_tableIn (off := 944) (tgt := 984) X.x X.b d_Law_law_40 (by rw [k14]; decide) (by rw [k14]; decide) (by rw [k14]; decide) (by decide) ?_
    exact law_13 X hfl hx hbl kk h0
  by_cases k15 : (xs 0) &&& 31 = 14
  · skip
    refine lv_tableIn (off := 1012) (tgt := 1052) X.x X.b d_Law_law_40 (by rw [k15]; decide) (by rw [k15]; decide) (by rw [k15]; decide) (by decide) ?_
    exact law_14 X hfl hx hbl kk h0
  by_cases k16 : (xs 0) &&& 31 = 15
  · skip
    refine lv_tableIn (off := 1092) (tgt := 1132) X.x X.b d_Law_law_40 (by rw [k16]; decide) (by rw [k16]; decide) (by rw [k16]; decide) (by decide) ?_
    exact lawJ_15 X hfl hx hbl kk h0
  by_cases k17 : (xs 0) &&& 31 = 16
  · skip
    refine lv_tableIn (off := 1148) (tgt := 1188) X.x X.b d_Law_law_40 (by rw [k17]; decide) (by rw [k17]; decide) (by rw [k17]; decide) (by decide) ?_
    exact law_16 X hfl hx hbl kk h0
  by_cases k18 : (xs 0) &&& 31 = 17
  · skip
    refine lv_tableIn (off := 1161) (tgt := 1201) X.x X.b d_Law_law_40 (by rw [k18]; decide) (by rw [k18]; decide) (by rw [k18]; decide) (by decide) ?_
    exact lawJ_17 X hfl hx hbl kk h0
  by_cases k19 : (xs 0) &&& 31 = 18
  · skip
    refine lv_tableIn (off := 1229) (tgt := 1269) X.x X.b d_Law_law_40 (by rw [k19]; decide) (by rw [k19]; decide) (by rw [k19]; decide) (by decide) ?_
    exact law_18 X hfl hx hbl kk h0
  refine lv_tableOut (tgt := 1283) X.x X.b d_Law_law_40 (by have := ne_toInt (k := 0) 0 (by decide) k1; have := ne_toInt (k := 1) 1 (by decide) k2; have := ne_toInt (k := 2) 2 (by decide) k3; have := ne_toInt (k := 3) 3 (by decide) k4; have := ne_toInt (k := 4) 4 (by decide) k5; have := ne_toInt (k := 5) 5 (by decide) k6; have := ne_toInt (k := 6) 6 (by decide) k7; have := ne_toInt (k := 7) 7 (by decide) k8; have := ne_toInt (k := 8) 8 (by decide) k9; have := ne_toInt (k := 9) 9 (by decide) k10; have := ne_toInt (k := 10) 10 (by decide) k11; have := ne_toInt (k := 11) 11 (by decide) k12; have := ne_toInt (k := 12) 12 (by decide) k13; have := ne_toInt (k := 13) 13 (by decide) k14; have := ne_toInt (k := 14) 14 (by decide) k15; have := ne_toInt (k := 15) 15 (by decide) k16; have := ne_toInt (k := 16) 16 (by decide) k17; have := ne_toInt (k := 17) 17 (by decide) k18; have := ne_toInt (k := 18) 18 (by decide) k19; omega) (by decide) ?_
  exact kk _ _ _ _ _ hS (lv_sub hl [0, 4] rfl) (by omega) (by omega)
set_option maxRecDepth 100000 in
set_option maxHeartbeats 4000000 in
/-- behind the turn: out of the loop, for no ints are left -/
theorem law_after {g : GG} {p : Program} {l : Launch} {e : Env} {s : State} {m : MethodId} {below : List Frame} {meth : Method} {c : Code} {Q : State → Prop} {nm : String} {b : Nat} {xs : Nat → Int32} (X : CX g p s m #[.ref b] meth c c_Law_law 9 (some .boolean) R_Law nm) (hx : va_X b 8 xs s s.heap) (hbl : b < s.heap.size) (kend : ∀ (H : Heap) (locs : List Loc) (ls : Array Slot) (cells slots : Nat), va_S (geB s.heap.size) s.heap H locs → cells ≤ 1000 → slots ≤ 40000 → W p l e (rmK 2000 600002 7302232) s m #[.ref b] below meth c H locs cells slots Q (F0 m 1289 ls [])) : LawE p l e s m b below meth c Q := by
  intro H locs ls cells slots hS hl h1 h2
  refine lv_iinc (v := 8) (lv' := [(4, .int 8), (0, .ref b)]) X.x X.b d_Law_law_1283 hl (k := 0) rfl (by decide) (by decide) rfl (fun ls hl => ?_)
  refine lv_goto (tgt := 23) X.x X.b d_Law_law_1286 (by decide) ?_
  refine lv_iload X.x X.b d_Law_law_23 (lv_at hl 0 rfl) ?_
  refine lv_aload_n X.x X.b d_Law_law_25 rfl (lv_at hl 1 rfl) ?_
  refine m_slen X hx hbl hS d_Law_law_26 ?_
  refine lv_bipush (v := 8) X.x X.b d_Law_law_27 (by decide) ?_
  refine lv_isub X.x X.b d_Law_law_29 ?_
  refine lv_icmp_gt (tgt := 1289) X.x X.b d_Law_law_30 (by decide) (fun c2 => ?_) (fun c2 => ?_)
  · exact kend H locs ls _ _ hS h1 h2
  · exact absurd (by decide) c2
theorem toG {s : State} {H : Heap} {locs : List Loc} (h : va_S (AA noA s.heap) s.heap H locs) : va_S (geB s.heap.size) s.heap H locs := ⟨h.1, fun q h1 h2 => h.2.1 q h1 (fun z => z.elim (fun z => z.elim) h2), fun q hq => (h.2.2 q hq).elim (fun z => z.elim) id⟩
set_option maxRecDepth 100000 in
set_option maxHeartbeats 4000000 in
theorem law_walk {g : GG} {p : Program} {l : Launch} {e : Env} {s : State} {m : MethodId} {below : List Frame} {meth : Method} {c : Code} {Q : State → Prop} {nm : String} {ls : Array Slot} {b L : Nat} {xs : Nat → Int32} (X : CX g p s m #[.ref b] meth c c_Law_law 9 (some .boolean) R_Law nm) (hfl : l.stackTraces = false) (hx : va_X b L xs s s.heap) (hL : L ≤ 8) (hbl : b < s.heap.size) (hZ : ZZ s.heap.size s s.heap) (hl : lv_has ls 9 [(0, .ref b)]) (kend : ∀ (H : Heap) (locs : List Loc) (ls : Array Slot) (cells slots : Nat), va_S (geB s.heap.size) s.heap H locs → cells ≤ 1000 → slots ≤ 40000 → W p l e (rmK 2000 600002 7302232) s m #[.ref b] below meth c H locs cells slots Q (F0 m 1289 ls [])) : W p l e (rmK 2000 600002 7302232) s m #[.ref b] below meth c s.heap [] 0 0 Q (F0 m 0 ls []) := by
  obtain ⟨B, hB⟩ : ∃ B : Nat, s.heap.size = B := ⟨_, rfl⟩
  have hS : va_S (AA noA s.heap) s.heap s.heap [] := va_S.rf
  refine m_newo (fs := [.null, .null, .null, .null]) X ok_BP hS hB (LW_t 19 (by decide +kernel) (by decide +kernel)) (LW_t 20 (by decide +kernel) (by decide +kernel)) ini_BP (fun j hj => by rcases (show j = 0 ∨ j = 1 ∨ j = 2 ∨ j = 3 by omega) with rfl | rfl | rfl | rfl <;> rfl) (by omega) (by omega) d_Law_law_0 (fun H hn hgr hS hz => ?_)
  refine lv_dup X.x X.b d_Law_law_3 rfl ?_
  refine m_callI X hS (M_BP_init l g (fun _ _ => 0) D0 hn hz) i_Law_63 rfl rfl (Nat.le_of_ble_eq_true rfl) hl.1 d_Law_law_4 (by omega) (by decide) ⟨by omega, by omega⟩ (fun q z => z.elim (fun z => by have z : B ≤ q ∧ q < B + 287 := z; exact Or.inr (by omega)) (fun z => Or.inr (Nat.le_trans hS.1 z))) (fun H1 locs1 hb hfr1 hS => ?_)
  refine lv_astore_n (lv' := [(1, .ref B), (0, .ref b)]) X.x X.b d_Law_law_7 rfl hl (by decide) rfl (fun ls hl => ?_)
  have hbz := hb.lt
  clear hn hz hgr
  obtain ⟨mo, hmo⟩ : ∃ mo : Nat, H1.size = mo := ⟨_, rfl⟩
  refine m_newo (fs := [.int 0, .null, .null, .int 0, .int 0, .int 0, .int 0, .int 0, .null, .null, .null, .null, .null, .null, .null, .null, .null, .null, .null, .null, .null, .null, .null, .null, .null, .null, .null, .null]) X ok_Model hS hmo (LW_t 834 (by decide +kernel) (by decide +kernel)) (LW_t 835 (by decide +kernel) (by decide +kernel)) ini_Model (fun j hj => by rcases (show j = 0 ∨ j = 1 ∨ j = 2 ∨ j = 3 ∨ j = 4 ∨ j = 5 ∨ j = 6 ∨ j = 7 ∨ j = 8 ∨ j = 9 ∨ j = 10 ∨ j = 11 ∨ j = 12 ∨ j = 13 ∨ j = 14 ∨ j = 15 ∨ j = 16 ∨ j = 17 ∨ j = 18 ∨ j = 19 ∨ j = 20 ∨ j = 21 ∨ j = 22 ∨ j = 23 ∨ j = 24 ∨ j = 25 ∨ j = 26 ∨ j = 27 by omega) with rfl | rfl | rfl | rfl | rfl | rfl | rfl | rfl | rfl | rfl | rfl | rfl | rfl | rfl | rfl | rfl | rfl | rfl | rfl | rfl | rfl | rfl | rfl | rfl | rfl | rfl | rfl | rfl <;> rfl) (by omega) (by omega) d_Law_law_8 (fun H2 hn hgr hS hz => ?_)
  refine lv_dup X.x X.b d_Law_law_11 rfl ?_
  refine m_callI X hS (M_Model_init l g hn hz) i_Law_66 rfl rfl (Nat.le_of_ble_eq_true rfl) hl.1 d_Law_law_12 (by omega) (by decide) ⟨by omega, by omega⟩ (fun q z => z.elim (fun z => by have z : mo ≤ q ∧ q < mo + 23 := z; exact Or.inr (by omega)) (fun z => Or.inr (Nat.le_trans hS.1 z))) (fun H3 locs3 hq hfr2 hS => ?_)
  obtain ⟨p0, s0, hM, hf, hnl⟩ := hq
  have hb := hb.noA (H1 := H3) ⟨by have := hfr2.1; have := hgr.1; omega, fun q h1 _ => (hfr2.2 q (by have := hgr.1; omega) (fun z => by have z : mo ≤ q ∧ q < mo + 23 := z; omega)).trans (hgr.2 q h1)⟩
  clear hn hz hgr
  refine lv_astore_n (lv' := [(2, .ref mo), (1, .ref B), (0, .ref b)]) X.x X.b d_Law_law_15 rfl hl (by decide) rfl (fun ls hl => ?_)
  refine lv_iconst (v := 1) X.x X.b d_Law_law_16 (by decide) ?_
  obtain ⟨oq, hoq⟩ : ∃ oq : Nat, H3.size = oq := ⟨_, rfl⟩
  have hmz := hM.lt
  refine m_newA X 5 (atype := .long) (ty := .long) rfl rfl (fun h => h) (LW_t 1177 (by decide +kernel) (by decide +kernel)) hS (a0 := (1, .inr (.inl (fun _ => 0)))) (fun cA => rfl) (by decide) (by decide) (by decide) (by show _ + 1 ≤ 600002; omega) (by show _ + 1 ≤ 7302232; omega) d_Law_law_17 (fun H4 ho hgr hS => ?_)
  rw [hoq] at ho ⊢
  have hb := hb.noA (fr.of_grow hgr)
  have hM := hM.frame (A := noA) (fr.of_grow hgr) (fun q z => z.elim)
  refine lv_astore_n (lv' := [(3, .ref oq), (2, .ref mo), (1, .ref B), (0, .ref b)]) X.x X.b d_Law_law_19 rfl hl (by decide) rfl (fun ls hl => ?_)
  refine lv_iconst (v := 0) X.x X.b d_Law_law_20 (by decide) ?_
  refine lv_istore (lv' := [(4, .int 0), (3, .ref oq), (2, .ref mo), (1, .ref B), (0, .ref b)]) X.x X.b d_Law_law_21 hl (by decide) rfl (fun ls hl => ?_)
  have hSG := toG hS
  refine lv_iload X.x X.b d_Law_law_23 (lv_at hl 0 rfl) ?_
  refine lv_aload_n X.x X.b d_Law_law_25 rfl (lv_at hl 4 rfl) ?_
  refine m_slen X hx hbl hSG d_Law_law_26 ?_
  refine lv_bipush (v := 8) X.x X.b d_Law_law_27 (by decide) ?_
  refine lv_isub X.x X.b d_Law_law_29 ?_
  refine lv_icmp_gt (tgt := 1289) X.x X.b d_Law_law_30 (by decide) (fun c2 => ?_) (fun c2 => ?_)
  · exact kend H4 _ ls _ _ hSG (by omega) (by omega)
  · have hL8 : L = 8 := len8 hL c2
    subst hL8
    exact law_turn X hfl hx hbl (law_after X hx hbl kend) ⟨⟨hB.symm, by omega, by omega⟩, hSG, hb, ⟨p0, s0, hM, hf, hnl⟩, ⟨_, ho⟩, by subst hB; exact hZ.kept (fun a h1 h2 => hSG.2.1 a h1 h2), hl, by omega, by omega⟩
