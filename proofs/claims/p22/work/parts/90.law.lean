-- THE LAW'S BODY: what it starts from
section LROWS
variable {g : GG} {p : Program} {l : Launch} {e : Env} {R : Room} {s : State} {m : MethodId} {args : Array Value} {below : List Frame} {meth : Method} {c : Code} {H : Heap} {locs : List Loc} {cells slots : Nat} {Q : State → Prop}
variable {cc : ByteArray} {nL : Nat} {ret : Option FieldType} {own nm : String} {pc : Nat} {ls : Array Slot} {rest : List Value}
/-- less room is asked for -/
theorem W.less {R' : Room} {fr' : JFrame} (hf : R'.frames ≤ R.frames) (hl : R'.locals ≤ R.locals) (hc : R'.cells ≤ R.cells) (hs : R'.slots ≤ R.slots) (k : W p l e R' s m args below meth c H locs cells slots Q fr') : W p l e R s m args below meth c H locs cells slots Q fr' := by
  intro T hT X
  refine k T hT ⟨X.admits, X.cas, X.clock, X.frames, ?_, X.hears, X.method, X.code, X.here, X.tail, X.warmed, X.limits, X.bytes, X.same⟩
  have h := X.room
  simp only [State.hasRoom, Bool.and_eq_true, decide_eq_true_eq] at h ⊢
  obtain ⟨⟨⟨⟨h1, h2, h3, h4, h5, h6⟩, h7⟩, h8⟩, h9⟩ := h
  exact ⟨⟨⟨⟨by omega, by omega, by omega, by omega, by omega, h6⟩, by omega⟩, by omega⟩, h9⟩
theorem m_lcmp0 (X : CX g p s m args meth c cc nL ret own nm) {x : Int64} (hdg : decode cc pc = .ok (.lcmp, 1))
    (kk : W p l e R s m args below meth c H locs cells slots Q (F0 m (pc + 1) ls (.int 0 :: rest))) : W p l e R s m args below meth c H locs cells slots Q (F0 m pc ls (.long x :: .long x :: rest)) := by
  intro T hT Y
  obtain ⟨t, a, b⟩ := kk T hT Y
  refine ⟨t, ?_, b⟩
  jvm_step Y.here [Y.here.top, X.x, X.b, hdg, Int64.lt_irrefl]
  exact a
end LROWS
abbrev bzA (B : Nat) : Nat → Prop := fun q => B ≤ q ∧ q < B + 287
/-- the law's half: its press, its rows -/
def lawF (g : GG) (P B b RA : Nat) (V : Value × Value × Value) (d : Nat) (cnt : Nat → Nat) (fR : Nat → Nat) (fL : Nat → Nat → Nat) (D : DT) (H : Heap) : Prop :=
  prAt g P B b RA V d H ∧ rwAt g RA cnt fR fL D H ∧ spG P B RA cnt fR fL ∧ liG cnt D
theorem lawF.frm {g : GG} {P B b RA : Nat} {V : Value × Value × Value} {d : Nat} {cnt : Nat → Nat} {fR : Nat → Nat} {fL : Nat → Nat → Nat} {D : DT} {A : Nat → Prop} {H H1 : Heap} (h : lawF g P B b RA V d cnt fR fL D H) (hf : fr A H H1) (hA : ∀ q, A q → B ≤ q ∧ q < B + 287) : lawF g P B b RA V d cnt fR fL D H1 := by
  obtain ⟨h1, h2, h3, h4⟩ := h
  have hs := h3.1
  exact ⟨pt.fr h1 hf (fun z => by have := hA _ z; omega), h2.lo h3 hf (fun q z => by have := hA q z; omega), h3, h4⟩
theorem lawF.off {g : GG} {P B b RA a : Nat} {V : Value × Value × Value} {d : Nat} {cnt : Nat → Nat} {fR : Nat → Nat} {fL : Nat → Nat → Nat} {D : DT} {H H1 : Heap} (h : lawF g P B b RA V d cnt fR fL D H) (hc : chg a H H1) (hP : P ≠ a) (h1 : RA ≠ a) (h2 : ∀ r, r < 5 → fR r ≠ a) (h3 : ∀ r i, r < 5 → i < cnt r → fL r i ≠ a) : lawF g P B b RA V d cnt fR fL D H1 := by
  obtain ⟨k1, k2, k3, k4⟩ := h
  exact ⟨k1.off hc hP, k2.frK (fr.of_chg (A := eqA a) hc rfl) h1 h2 h3, k3, k4⟩
theorem lawF.bnd {g : GG} {P B b RA : Nat} {V : Value × Value × Value} {d : Nat} {cnt : Nat → Nat} {fR : Nat → Nat} {fL : Nat → Nat → Nat} {D : DT} {H : Heap} (h : lawF g P B b RA V d cnt fR fL D H) : P < H.size ∧ RA < H.size ∧ (∀ r, r < 5 → fR r < H.size) ∧ ∀ r i, r < 5 → i < cnt r → fL r i < H.size :=
  ⟨h.1.lt, h.2.1.1.lt, fun r hr => (h.2.1.2 r hr).1.lt, fun r i hr hi => ((h.2.1.2 r hr).2 i hi).lt⟩
theorem back_C (cnt : Nat → Nat) : va_up (moreC cnt) 0 (moreC cnt 0 - 1) = cnt := by
  funext r
  by_cases e : r = 0
  · subst e; rw [va_up_self, moreC_0]; rfl
  · rw [va_up_ne _ _ e]; exact va_up_ne _ _ e
theorem back_D (D : DT) (cnt : Nat → Nat) (d : Nat → Int32) : va_up (moreD D cnt d) 0 (remF (moreD D cnt d 0) (cnt 0)) = D := by
  funext r
  by_cases e : r = 0
  · subst e
    rw [va_up_self]
    unfold moreD
    rw [va_up_self]
    funext i
    unfold remF insF
    by_cases z : i < cnt 0
    · rw [if_pos z, if_pos z]
    · rw [if_neg z, if_neg (show ¬ i + 1 < cnt 0 by omega), if_neg (show ¬ i + 1 = cnt 0 by omega)]
      rfl
  · rw [va_up_ne _ _ e]; exact va_up_ne _ _ e
theorem put_D {D : DT} {r t : Nat} {d : Nat → Int32} (h : d = D r t) : va_up D r (va_up (D r) t d) = D := by
  subst h
  funext q
  by_cases e : q = r
  · subst e
    rw [va_up_self]
    funext i
    by_cases z : i = t
    · subst z; rw [va_up_self]
    · rw [va_up_ne _ _ z]
  · rw [va_up_ne _ _ e]
/-- the checksum that the LINES give -/
def dgC (D : DT) (cnt : Nat → Nat) : Int64 := dgF cnt D (nowF D cnt y00) (wnF D cnt)
section ASK
variable {D : DT} {cnt : Nat → Nat} {y : YS}
theorem OKY.dgc (h : OKY D cnt y) : dgF cnt D y (wnF D cnt) = dgC D cnt := dgF_E (yE.symm h) cnt D _
theorem OKY.wd (h : OKY D cnt y) (a : Int32) : wdF y.1 y.2.1 a = wdF (nowF D cnt y00).1 (nowF D cnt y00).2.1 a := by
  rw [← h.2.1]
  exact (h.1.wd h.2.2 a).symm
theorem OKY.at (hG : lnsG D cnt) (h : OKY D cnt y) (h0 : y.2.2.2.1 = 0) {w : Nat} (hw : w < wnF D cnt) : ∃ j, j < y.2.1 ∧ y.2.1 ≤ 121 ∧ hof y.1 (nI w) y.2.1 0 = nI j ∧
    (y.1.1 0 j = 3 → nI w = y.1.1 12 j → wdF y.1 y.2.1 (nI w) = 3100 ∨ (3000 ≤ wdF y.1 y.2.1 (nI w) ∧ wdF y.1 y.2.1 (nI w) ≤ 3015)) ∧ (y.1.1 0 j = 4 → nI w = y.1.1 12 j → wdF y.1 y.2.1 (nI w) = 4100 ∨ (4000 ≤ wdF y.1 y.2.1 (nI w) ∧ wdF y.1 y.2.1 (nI w) ≤ 4015)) ∧
    (y.1.1 0 j = 5 → 5000 ≤ wdF y.1 y.2.1 (nI w) ∧ wdF y.1 y.2.1 (nI w) ≤ 5015) ∧ (y.1.1 0 j = 7 → wdF y.1 y.2.1 (nI w) = 0) := by
  obtain ⟨A, hA, e, -, -⟩ := h.words hG h0
  have hN := h.ng hG h0
  obtain ⟨j, hj, -, h1, h2, h3, h4, h5⟩ := hN.word hA (show w < A y.2.1 by omega)
  exact ⟨j, hj, hN.2.1.2, h1, fun a b => h2 a b.symm, fun a b => h3 a b.symm, h4, h5⟩
theorem OKY.it (hG : lnsG D cnt) (h : OKY D cnt y) (h0 : y.2.2.2.1 = 0) {k : Nat} (hk : k + 1 < y.2.1) : ∃ t mm, t < 6 ∧ y.1.1 6 k = nI t ∧ mm < cnt 0 ∧ y.1.1 5 k = nI mm ∧ (nI t = 0 → D 0 mm 0 = y.1.1 0 k) ∧ (¬ nI t = 0 → D 0 mm 0 = 10) ∧ (k + 2 < y.2.1 → nI mm ≤ y.1.1 5 (k + 1)) := by
  obtain ⟨-, -, hi, -, hm, -⟩ := h.ng hG h0
  obtain ⟨-, -, ⟨t, ht, e6⟩, mm, hmm, e5, hD⟩ := hi k hk
  rw [e6] at hD
  refine ⟨t, mm, ht, e6, hmm, e5, fun z => ?_, fun z => ?_, fun z => ?_⟩
  · rw [if_pos z] at hD; exact hD
  · rw [if_neg z] at hD; exact hD
  · have := hm k z
    rw [e5] at this
    exact this
end ASK
section OFI
variable (S : IS) (j : Nat)
theorem of_0 : ofiF S j 0 = S.1 0 j := by unfold ofiF; rw [if_pos rfl]
theorem of_1 : ofiF S j 1 = S.1 12 j := by unfold ofiF; rw [if_neg (by decide), if_pos rfl]
theorem of_3 : ofiF S j 3 = S.1 5 j := by unfold ofiF; rw [if_neg (by decide), if_neg (by decide), if_neg (by decide), if_pos rfl]
theorem of_4 : ofiF S j 4 = S.1 6 j := by unfold ofiF; rw [if_neg (by decide), if_neg (by decide), if_neg (by decide), if_neg (by decide), if_pos rfl]
end OFI
theorem nI_m1 {j : Nat} (h : j < 2 ^ 31) : ¬ nI j = -1 := fun e => absurd (show nI j < 0 by rw [e]; decide) (Int32.not_lt.mpr (nI_pos' h))
theorem noLnI {g : GG} {s : State} {a n : Nat} {F : Nat → Int32} {H : Heap} (K : KK g s) (h2 : pt g a (.inl (g.2 0, n, .inl F)) H) : ∀ q, eqA a q → ¬ isLn g q H := fun q z ⟨vs, h⟩ => by
  have z : q = a := z
  rw [z] at h
  exact ln_arr K 0 rfl (vp_cell_i (g.2 0) n F) h h2
theorem wn_eq {D D2 : DT} {cnt cnt2 : Nat → Nat} (h : nowF D cnt y00 = nowF D2 cnt2 y00) : wnF D cnt = wnF D2 cnt2 := by
  unfold wnF
  rw [h]
set_option maxRecDepth 100000 in
set_option maxHeartbeats 4000000 in
theorem L4_z {g : GG} {p : Program} {l : Launch} {e : Env} {s : State} {m : MethodId} {below : List Frame} {meth : Method} {c : Code} {H : Heap} {locs : List Loc} {cells slots : Nat} {Q : State → Prop} {nm : String} {ls : Array Slot} {b L P B RA d ti sp cA sA : Nat} {xs : Nat → Int32} {V : Value × Value × Value} {cnt : Nat → Nat} {f : Nat → Nat → Nat} {fR : Nat → Nat} {fL : Nat → Nat → Nat} {D : DT} {Y : YS} (X : CX g p s m #[.ref b] meth c c_Law_law 15 (some .boolean) R_Law nm) (hbs : b < s.heap.size) (hPs : s.heap.size ≤ P) (hPB : P < B) (hx : va_X b L xs s H) (hS : va_S (AA noA s.heap) s.heap H locs) (hF : lawF g P B b RA V d cnt fR fL D H) (hB : bAt g B cnt f D Y H) (hok : OKY D cnt Y) (hG : lnsG D cnt) (hz : (nowF D cnt y00).2.2.2.1 = 0) (kk : ∀ (H1 : Heap) (locs1 : List Loc) (ls1 : Array Slot) (c1 s1 : Nat) (f1 : Nat → Nat → Nat) (Y1 : YS), lawF g P B b RA V d cnt fR fL D H1 → bAt g B cnt f1 D Y1 H1 → OKY D cnt Y1 → va_X b L xs s H1 → va_S (AA noA s.heap) s.heap H1 locs1 → lv_has ls1 15 [(4, .int (nI sp)), (3, .ref B), (2, .ref P), (1, .int (nI ti)), (0, .ref b)] → c1 ≤ cA → s1 ≤ sA → W p l e (rmK 2000 600064 7301640) s m #[.ref b] below meth c H1 locs1 c1 s1 Q (F0 m 790 ls1 [])) (hmx : cA ≤ 10000 ∧ sA ≤ 400000) (hcs : cells ≤ cA ∧ slots ≤ sA) (hl : lv_has ls 15 [(12, .int 0), (11, .int (nI Y.2.1)), (4, .int (nI sp)), (3, .ref B), (2, .ref P), (1, .int (nI ti)), (0, .ref b)]) : W p l e (rmK 2000 600064 7301640) s m #[.ref b] below meth c H locs cells slots Q (F0 m 667 ls []) := by
  have hyf : Y.2.2.2.1 = 0 := hok.fn.trans hz
  have hW20 := (hok.tal3 hG).2
  have hwm : ¬ nI (wnF D cnt) = -1 := nI_m1 (by omega)
  have hcc : Y.2.1 ≤ 121 := (hok.ng hG hyf).2.1.2
  have lp : ∀ (n k : Nat) (locs : List Loc) (ls : Array Slot), n = Y.2.1 - k → k ≤ Y.2.1 → va_S (AA noA s.heap) s.heap H locs → lv_has ls 15 [(12, .int (nI k)), (11, .int (nI Y.2.1)), (4, .int (nI sp)), (3, .ref B), (2, .ref P), (1, .int (nI ti)), (0, .ref b)] → W p l e (rmK 2000 600064 7301640) s m #[.ref b] below meth c H locs cells slots Q (F0 m 667 ls []) := by
    intro n
    induction n with
    | zero =>
      intro k locs ls hn hk hS hl
      refine lv_iload X.x X.b d_Law_law_667 (lv_at hl 0 rfl) ?_
      refine lv_iconst (v := 1) X.x X.b d_Law_law_669 (by decide) ?_
      refine lv_iadd X.x X.b d_Law_law_670 ?_
      rw [show nI (k) + 1 = nI (k + 1) from nI_add (k) 1]
      refine lv_iload X.x X.b d_Law_law_671 (lv_at hl 1 rfl) ?_
      refine lv_icmp_ge (tgt := 790) X.x X.b d_Law_law_673 (by decide) (fun c1 => ?_) (fun c1 => ?_)
      · skip
        have c1q := Int32.not_lt.mpr c1
        exact kk _ _ _ _ _ _ _ hF hB hok hx hS (lv_sub hl [2, 3, 4, 5, 6] rfl) (by omega) (by omega)
      · exact absurd (nI_le (by omega) (by omega)) c1
    | succ n ih =>
      intro k locs ls hn hk hS hl
      refine lv_iload X.x X.b d_Law_law_667 (lv_at hl 0 rfl) ?_
      refine lv_iconst (v := 1) X.x X.b d_Law_law_669 (by decide) ?_
      refine lv_iadd X.x X.b d_Law_law_670 ?_
      rw [show nI (k) + 1 = nI (k + 1) from nI_add (k) 1]
      refine lv_iload X.x X.b d_Law_law_671 (lv_at hl 1 rfl) ?_
      refine lv_icmp_ge (tgt := 790) X.x X.b d_Law_law_673 (by decide) (fun c2 => ?_) (fun c2 => ?_)
      · skip
        have c2q := Int32.not_lt.mpr c2
        exact kk _ _ _ _ _ _ _ hF hB hok hx hS (lv_sub hl [2, 3, 4, 5, 6] rfl) (by omega) (by omega)
      · skip
        have c2q := Int32.not_le.mp c2
        have hk1 : k + 1 < Y.2.1 := Nat.lt_of_not_le (fun z => c2 (nI_le z (by omega)))
        obtain ⟨t, mm, ht, e6, hmm, e5, hD0, hD1, hmo⟩ := hok.it hG hyf hk1
        refine lv_aload_n X.x X.b d_Law_law_676 rfl (lv_at hl 3 rfl) ?_
        refine lv_iload X.x X.b d_Law_law_677 (lv_at hl 0 rfl) ?_
        refine lv_iconst (v := 3) X.x X.b d_Law_law_679 (by decide) ?_
        have hR := M_BP_ofItem (it := nI (k)) (j := k) (wt := 3) l g hB (iaO_in (by omega) (by omega)) (by decide)
        rw [of_3, e5] at hR
        refine m_callP X hS hR v_Law_77 hB.1 rfl rfl rfl (Nat.le_of_ble_eq_true rfl) hl.1 d_Law_law_680 (by omega) (by decide) ⟨by omega, by omega⟩ (fun locs hS => ?_)
        clear hR
        refine lv_aload_n X.x X.b d_Law_law_683 rfl (lv_at hl 3 rfl) ?_
        refine lv_iload X.x X.b d_Law_law_684 (lv_at hl 0 rfl) ?_
        refine lv_iconst (v := 1) X.x X.b d_Law_law_686 (by decide) ?_
        refine lv_iadd X.x X.b d_Law_law_687 ?_
        rw [show nI (k) + 1 = nI (k + 1) from nI_add (k) 1]
        refine lv_iconst (v := 3) X.x X.b d_Law_law_688 (by decide) ?_
        have hR := M_BP_ofItem (it := nI (k + 1)) (j := (k + 1)) (wt := 3) l g hB (iaO_in (by omega) (by omega)) (by decide)
        rw [of_3] at hR
        refine m_callP X hS hR v_Law_77 hB.1 rfl rfl rfl (Nat.le_of_ble_eq_true rfl) hl.1 d_Law_law_689 (by omega) (by decide) ⟨by omega, by omega⟩ (fun locs hS => ?_)
        clear hR
        refine lv_icmp_le (tgt := 704) X.x X.b d_Law_law_692 (by decide) (fun c3 => ?_) (fun c3 => ?_)
        · skip
          have c3q := Int32.not_lt.mpr c3
          refine lv_aload_n X.x X.b d_Law_law_704 rfl (lv_at hl 3 rfl) ?_
          refine lv_iload X.x X.b d_Law_law_705 (lv_at hl 0 rfl) ?_
          refine lv_iconst (v := 4) X.x X.b d_Law_law_707 (by decide) ?_
          have hR := M_BP_ofItem (it := nI (k)) (j := k) (wt := 4) l g hB (iaO_in (by omega) (by omega)) (by decide)
          rw [of_4, e6] at hR
          refine m_callP X hS hR v_Law_77 hB.1 rfl rfl rfl (Nat.le_of_ble_eq_true rfl) hl.1 d_Law_law_708 (by omega) (by decide) ⟨by omega, by omega⟩ (fun locs hS => ?_)
          clear hR
          refine lv_iconst (v := 5) X.x X.b d_Law_law_711 (by decide) ?_
          refine lv_icmp_gt (tgt := 782) X.x X.b d_Law_law_712 (by decide) (fun c4 => ?_) (fun c4 => ?_)
          · exact absurd c4 (nI_nlt (a := 5) (b := t) (by omega) (by omega))
          · skip
            have c4q := Int32.not_lt.mp c4
            refine lv_aload_n X.x X.b d_Law_law_715 rfl (lv_at hl 3 rfl) ?_
            refine lv_iload X.x X.b d_Law_law_716 (lv_at hl 0 rfl) ?_
            refine lv_iconst (v := 4) X.x X.b d_Law_law_718 (by decide) ?_
            have hR := M_BP_ofItem (it := nI (k)) (j := k) (wt := 4) l g hB (iaO_in (by omega) (by omega)) (by decide)
            rw [of_4, e6] at hR
            refine m_callP X hS hR v_Law_77 hB.1 rfl rfl rfl (Nat.le_of_ble_eq_true rfl) hl.1 d_Law_law_719 (by omega) (by decide) ⟨by omega, by omega⟩ (fun locs hS => ?_)
            clear hR
            refine lv_if_ne (tgt := 751) X.x X.b d_Law_law_722 (by decide) (fun c5 => ?_) (fun c5 => ?_)
            · skip
              refine lv_aload_n X.x X.b d_Law_law_751 rfl (lv_at hl 3 rfl) ?_
              refine lv_iload X.x X.b d_Law_law_752 (lv_at hl 0 rfl) ?_
              refine lv_iconst (v := 4) X.x X.b d_Law_law_754 (by decide) ?_
              have hR := M_BP_ofItem (it := nI (k)) (j := k) (wt := 4) l g hB (iaO_in (by omega) (by omega)) (by decide)
              rw [of_4, e6] at hR
              refine m_callP X hS hR v_Law_77 hB.1 rfl rfl rfl (Nat.le_of_ble_eq_true rfl) hl.1 d_Law_law_755 (by omega) (by decide) ⟨by omega, by omega⟩ (fun locs hS => ?_)
              clear hR
              refine lv_if_le (tgt := 784) X.x X.b d_Law_law_758 (by decide) (fun c6 => ?_) (fun c6 => ?_)
              · skip
                have c6q := Int32.not_lt.mpr c6
                refine lv_iinc (v := nI (k + 1)) (lv' := [(12, .int (nI (k + 1))), (11, .int (nI Y.2.1)), (4, .int (nI sp)), (3, .ref B), (2, .ref P), (1, .int (nI ti)), (0, .ref b)]) X.x X.b d_Law_law_784 hl (k := 0) rfl (nI_1 k) (by decide) rfl (fun ls hl => ?_)
                refine lv_goto (tgt := 667) X.x X.b d_Law_law_787 (by decide) ?_
                exact ih (k + 1) locs ls (by omega) (by omega) hS (lv_sub hl [0, 1, 2, 3, 4, 5, 6] rfl)
              · skip
                have c6q := Int32.not_le.mp c6
                refine lv_aload_n X.x X.b d_Law_law_761 rfl (lv_at hl 4 rfl) ?_
                refine m_get (v := .ref RA) X ok_Press hF.1 3 (by decide) k_Law_66 rfl d_Law_law_762 ?_
                refine lv_iconst (v := 0) X.x X.b d_Law_law_765 (by decide) ?_
                refine m_row (r := 0) X hF.2.1 (show (0 : Nat) < 5 by omega) rfl d_Law_law_766 ?_
                refine lv_aload_n X.x X.b d_Law_law_767 rfl (lv_at hl 3 rfl) ?_
                refine lv_iload X.x X.b d_Law_law_768 (lv_at hl 0 rfl) ?_
                refine lv_iconst (v := 3) X.x X.b d_Law_law_770 (by decide) ?_
                have hR := M_BP_ofItem (it := nI (k)) (j := k) (wt := 3) l g hB (iaO_in (by omega) (by omega)) (by decide)
                rw [of_3, e5] at hR
                refine m_callP X hS hR v_Law_77 hB.1 rfl rfl rfl (Nat.le_of_ble_eq_true rfl) hl.1 d_Law_law_771 (by omega) (by decide) ⟨by omega, by omega⟩ (fun locs hS => ?_)
                clear hR
                refine m_rowld (r := 0) (t := mm) X hF.2.1 (show (0 : Nat) < 5 by omega) hmm (by have := hB.cap40 (show (0 : Nat) < 5 by omega); omega) rfl d_Law_law_774 ?_
                refine lv_iconst (v := 0) X.x X.b d_Law_law_775 (by decide) ?_
                refine m_i5 (u := D 0 mm 0) X ((hF.2.1.2 0 (show (0 : Nat) < 5 by omega)).2 mm hmm) 0 (by decide) (by decide) rfl rfl d_Law_law_776 ?_
                refine lv_bipush (v := 10) X.x X.b d_Law_law_777 (by decide) ?_
                refine lv_icmp_eq (tgt := 784) X.x X.b d_Law_law_779 (by decide) (fun c7 => ?_) (fun c7 => ?_)
                · skip
                  refine lv_iinc (v := nI (k + 1)) (lv' := [(12, .int (nI (k + 1))), (11, .int (nI Y.2.1)), (4, .int (nI sp)), (3, .ref B), (2, .ref P), (1, .int (nI ti)), (0, .ref b)]) X.x X.b d_Law_law_784 hl (k := 0) rfl (nI_1 k) (by decide) rfl (fun ls hl => ?_)
                  refine lv_goto (tgt := 667) X.x X.b d_Law_law_787 (by decide) ?_
                  exact ih (k + 1) locs ls (by omega) (by omega) hS (lv_sub hl [0, 1, 2, 3, 4, 5, 6] rfl)
                · exact absurd (hD1 (fun z => absurd (show nI t ≤ 0 by rw [z]; decide) (by assumption))) c7
            · skip
              refine lv_aload_n X.x X.b d_Law_law_725 rfl (lv_at hl 4 rfl) ?_
              refine m_get (v := .ref RA) X ok_Press hF.1 3 (by decide) k_Law_66 rfl d_Law_law_726 ?_
              refine lv_iconst (v := 0) X.x X.b d_Law_law_729 (by decide) ?_
              refine m_row (r := 0) X hF.2.1 (show (0 : Nat) < 5 by omega) rfl d_Law_law_730 ?_
              refine lv_aload_n X.x X.b d_Law_law_731 rfl (lv_at hl 3 rfl) ?_
              refine lv_iload X.x X.b d_Law_law_732 (lv_at hl 0 rfl) ?_
              refine lv_iconst (v := 3) X.x X.b d_Law_law_734 (by decide) ?_
              have hR := M_BP_ofItem (it := nI (k)) (j := k) (wt := 3) l g hB (iaO_in (by omega) (by omega)) (by decide)
              rw [of_3, e5] at hR
              refine m_callP X hS hR v_Law_77 hB.1 rfl rfl rfl (Nat.le_of_ble_eq_true rfl) hl.1 d_Law_law_735 (by omega) (by decide) ⟨by omega, by omega⟩ (fun locs hS => ?_)
              clear hR
              refine m_rowld (r := 0) (t := mm) X hF.2.1 (show (0 : Nat) < 5 by omega) hmm (by have := hB.cap40 (show (0 : Nat) < 5 by omega); omega) rfl d_Law_law_738 ?_
              refine lv_iconst (v := 0) X.x X.b d_Law_law_739 (by decide) ?_
              refine m_i5 (u := D 0 mm 0) X ((hF.2.1.2 0 (show (0 : Nat) < 5 by omega)).2 mm hmm) 0 (by decide) (by decide) rfl rfl d_Law_law_740 ?_
              refine lv_aload_n X.x X.b d_Law_law_741 rfl (lv_at hl 3 rfl) ?_
              refine lv_iload X.x X.b d_Law_law_742 (lv_at hl 0 rfl) ?_
              refine lv_iconst (v := 0) X.x X.b d_Law_law_744 (by decide) ?_
              have hR := M_BP_ofItem (it := nI (k)) (j := k) (wt := 0) l g hB (iaO_in (by omega) (by omega)) (by decide)
              rw [of_0] at hR
              refine m_callP X hS hR v_Law_77 hB.1 rfl rfl rfl (Nat.le_of_ble_eq_true rfl) hl.1 d_Law_law_745 (by omega) (by decide) ⟨by omega, by omega⟩ (fun locs hS => ?_)
              clear hR
              refine lv_icmp_ne (tgt := 782) X.x X.b d_Law_law_748 (by decide) (fun c8 => ?_) (fun c8 => ?_)
              · exact absurd (hD0 (by assumption)) c8
              · skip
                refine lv_aload_n X.x X.b d_Law_law_751 rfl (lv_at hl 3 rfl) ?_
                refine lv_iload X.x X.b d_Law_law_752 (lv_at hl 0 rfl) ?_
                refine lv_iconst (v := 4) X.x X.b d_Law_law_754 (by decide) ?_
                have hR := M_BP_ofItem (it := nI (k)) (j := k) (wt := 4) l g hB (iaO_in (by omega) (by omega)) (by decide)
                rw [of_4, e6] at hR
                refine m_callP X hS hR v_Law_77 hB.1 rfl rfl rfl (Nat.le_of_ble_eq_true rfl) hl.1 d_Law_law_755 (by omega) (by decide) ⟨by omega, by omega⟩ (fun locs hS => ?_)
                clear hR
                refine lv_if_le (tgt := 784) X.x X.b d_Law_law_758 (by decide) (fun c9 => ?_) (fun c9 => ?_)
                · skip
                  have c9q := Int32.not_lt.mpr c9
                  refine lv_iinc (v := nI (k + 1)) (lv' := [(12, .int (nI (k + 1))), (11, .int (nI Y.2.1)), (4, .int (nI sp)), (3, .ref B), (2, .ref P), (1, .int (nI ti)), (0, .ref b)]) X.x X.b d_Law_law_784 hl (k := 0) rfl (nI_1 k) (by decide) rfl (fun ls hl => ?_)
                  refine lv_goto (tgt := 667) X.x X.b d_Law_law_787 (by decide) ?_
                  exact ih (k + 1) locs ls (by omega) (by omega) hS (lv_sub hl [0, 1, 2, 3, 4, 5, 6] rfl)
                · skip
                  have c9q := Int32.not_le.mp c9
                  refine lv_aload_n X.x X.b d_Law_law_761 rfl (lv_at hl 4 rfl) ?_
                  refine m_get (v := .ref RA) X ok_Press hF.1 3 (by decide) k_Law_66 rfl d_Law_law_762 ?_
                  refine lv_iconst (v := 0) X.x X.b d_Law_law_765 (by decide) ?_
                  refine m_row (r := 0) X hF.2.1 (show (0 : Nat) < 5 by omega) rfl d_Law_law_766 ?_
                  refine lv_aload_n X.x X.b d_Law_law_767 rfl (lv_at hl 3 rfl) ?_
                  refine lv_iload X.x X.b d_Law_law_768 (lv_at hl 0 rfl) ?_
                  refine lv_iconst (v := 3) X.x X.b d_Law_law_770 (by decide) ?_
                  have hR := M_BP_ofItem (it := nI (k)) (j := k) (wt := 3) l g hB (iaO_in (by omega) (by omega)) (by decide)
                  rw [of_3, e5] at hR
                  refine m_callP X hS hR v_Law_77 hB.1 rfl rfl rfl (Nat.le_of_ble_eq_true rfl) hl.1 d_Law_law_771 (by omega) (by decide) ⟨by omega, by omega⟩ (fun locs hS => ?_)
                  clear hR
                  refine m_rowld (r := 0) (t := mm) X hF.2.1 (show (0 : Nat) < 5 by omega) hmm (by have := hB.cap40 (show (0 : Nat) < 5 by omega); omega) rfl d_Law_law_774 ?_
                  refine lv_iconst (v := 0) X.x X.b d_Law_law_775 (by decide) ?_
                  refine m_i5 (u := D 0 mm 0) X ((hF.2.1.2 0 (show (0 : Nat) < 5 by omega)).2 mm hmm) 0 (by decide) (by decide) rfl rfl d_Law_law_776 ?_
                  refine lv_bipush (v := 10) X.x X.b d_Law_law_777 (by decide) ?_
                  refine lv_icmp_eq (tgt := 784) X.x X.b d_Law_law_779 (by decide) (fun c10 => ?_) (fun c10 => ?_)
                  · skip
                    refine lv_iinc (v := nI (k + 1)) (lv' := [(12, .int (nI (k + 1))), (11, .int (nI Y.2.1)), (4, .int (nI sp)), (3, .ref B), (2, .ref P), (1, .int (nI ti)), (0, .ref b)]) X.x X.b d_Law_law_784 hl (k := 0) rfl (nI_1 k) (by decide) rfl (fun ls hl => ?_)
                    refine lv_goto (tgt := 667) X.x X.b d_Law_law_787 (by decide) ?_
                    exact ih (k + 1) locs ls (by omega) (by omega) hS (lv_sub hl [0, 1, 2, 3, 4, 5, 6] rfl)
                  · exact absurd (hD1 (fun z => absurd (show nI t ≤ 0 by rw [z]; decide) (by assumption))) c10
        · skip
          have c3q := Int32.not_le.mp c3
          refine lv_iload X.x X.b d_Law_law_695 (lv_at hl 0 rfl) ?_
          refine lv_iconst (v := 2) X.x X.b d_Law_law_697 (by decide) ?_
          refine lv_iadd X.x X.b d_Law_law_698 ?_
          rw [show nI (k) + 2 = nI (k + 2) from nI_add (k) 2]
          refine lv_iload X.x X.b d_Law_law_699 (lv_at hl 1 rfl) ?_
          refine lv_icmp_lt (tgt := 782) X.x X.b d_Law_law_701 (by decide) (fun c11 => ?_) (fun c11 => ?_)
          · exact absurd (hmo ((nI_ltI (by omega) (by omega)).mp c11)) (by assumption)
          · skip
            have c11q := Int32.not_lt.mp c11
            refine lv_aload_n X.x X.b d_Law_law_704 rfl (lv_at hl 3 rfl) ?_
            refine lv_iload X.x X.b d_Law_law_705 (lv_at hl 0 rfl) ?_
            refine lv_iconst (v := 4) X.x X.b d_Law_law_707 (by decide) ?_
            have hR := M_BP_ofItem (it := nI (k)) (j := k) (wt := 4) l g hB (iaO_in (by omega) (by omega)) (by decide)
            rw [of_4, e6] at hR
            refine m_callP X hS hR v_Law_77 hB.1 rfl rfl rfl (Nat.le_of_ble_eq_true rfl) hl.1 d_Law_law_708 (by omega) (by decide) ⟨by omega, by omega⟩ (fun locs hS => ?_)
            clear hR
            refine lv_iconst (v := 5) X.x X.b d_Law_law_711 (by decide) ?_
            refine lv_icmp_gt (tgt := 782) X.x X.b d_Law_law_712 (by decide) (fun c12 => ?_) (fun c12 => ?_)
            · exact absurd c12 (nI_nlt (a := 5) (b := t) (by omega) (by omega))
            · skip
              have c12q := Int32.not_lt.mp c12
              refine lv_aload_n X.x X.b d_Law_law_715 rfl (lv_at hl 3 rfl) ?_
              refine lv_iload X.x X.b d_Law_law_716 (lv_at hl 0 rfl) ?_
              refine lv_iconst (v := 4) X.x X.b d_Law_law_718 (by decide) ?_
              have hR := M_BP_ofItem (it := nI (k)) (j := k) (wt := 4) l g hB (iaO_in (by omega) (by omega)) (by decide)
              rw [of_4, e6] at hR
              refine m_callP X hS hR v_Law_77 hB.1 rfl rfl rfl (Nat.le_of_ble_eq_true rfl) hl.1 d_Law_law_719 (by omega) (by decide) ⟨by omega, by omega⟩ (fun locs hS => ?_)
              clear hR
              refine lv_if_ne (tgt := 751) X.x X.b d_Law_law_722 (by decide) (fun c13 => ?_) (fun c13 => ?_)
              · skip
                refine lv_aload_n X.x X.b d_Law_law_751 rfl (lv_at hl 3 rfl) ?_
                refine lv_iload X.x X.b d_Law_law_752 (lv_at hl 0 rfl) ?_
                refine lv_iconst (v := 4) X.x X.b d_Law_law_754 (by decide) ?_
                have hR := M_BP_ofItem (it := nI (k)) (j := k) (wt := 4) l g hB (iaO_in (by omega) (by omega)) (by decide)
                rw [of_4, e6] at hR
                refine m_callP X hS hR v_Law_77 hB.1 rfl rfl rfl (Nat.le_of_ble_eq_true rfl) hl.1 d_Law_law_755 (by omega) (by decide) ⟨by omega, by omega⟩ (fun locs hS => ?_)
                clear hR
                refine lv_if_le (tgt := 784) X.x X.b d_Law_law_758 (by decide) (fun c14 => ?_) (fun c14 => ?_)
                · skip
                  have c14q := Int32.not_lt.mpr c14
                  refine lv_iinc (v := nI (k + 1)) (lv' := [(12, .int (nI (k + 1))), (11, .int (nI Y.2.1)), (4, .int (nI sp)), (3, .ref B), (2, .ref P), (1, .int (nI ti)), (0, .ref b)]) X.x X.b d_Law_law_784 hl (k := 0) rfl (nI_1 k) (by decide) rfl (fun ls hl => ?_)
                  refine lv_goto (tgt := 667) X.x X.b d_Law_law_787 (by decide) ?_
                  exact ih (k + 1) locs ls (by omega) (by omega) hS (lv_sub hl [0, 1, 2, 3, 4, 5, 6] rfl)
                · skip
                  have c14q := Int32.not_le.mp c14
                  refine lv_aload_n X.x X.b d_Law_law_761 rfl (lv_at hl 4 rfl) ?_
                  refine m_get (v := .ref RA) X ok_Press hF.1 3 (by decide) k_Law_66 rfl d_Law_law_762 ?_
                  refine lv_iconst (v := 0) X.x X.b d_Law_law_765 (by decide) ?_
                  refine m_row (r := 0) X hF.2.1 (show (0 : Nat) < 5 by omega) rfl d_Law_law_766 ?_
                  refine lv_aload_n X.x X.b d_Law_law_767 rfl (lv_at hl 3 rfl) ?_
                  refine lv_iload X.x X.b d_Law_law_768 (lv_at hl 0 rfl) ?_
                  refine lv_iconst (v := 3) X.x X.b d_Law_law_770 (by decide) ?_
                  have hR := M_BP_ofItem (it := nI (k)) (j := k) (wt := 3) l g hB (iaO_in (by omega) (by omega)) (by decide)
                  rw [of_3, e5] at hR
                  refine m_callP X hS hR v_Law_77 hB.1 rfl rfl rfl (Nat.le_of_ble_eq_true rfl) hl.1 d_Law_law_771 (by omega) (by decide) ⟨by omega, by omega⟩ (fun locs hS => ?_)
                  clear hR
                  refine m_rowld (r := 0) (t := mm) X hF.2.1 (show (0 : Nat) < 5 by omega) hmm (by have := hB.cap40 (show (0 : Nat) < 5 by omega); omega) rfl d_Law_law_774 ?_
                  refine lv_iconst (v := 0) X.x X.b d_Law_law_775 (by decide) ?_
                  refine m_i5 (u := D 0 mm 0) X ((hF.2.1.2 0 (show (0 : Nat) < 5 by omega)).2 mm hmm) 0 (by decide) (by decide) rfl rfl d_Law_law_776 ?_
                  refine lv_bipush (v := 10) X.x X.b d_Law_law_777 (by decide) ?_
                  refine lv_icmp_eq (tgt := 784) X.x X.b d_Law_law_779 (by decide) (fun c15 => ?_) (fun c15 => ?_)
                  · skip
                    refine lv_iinc (v := nI (k + 1)) (lv' := [(12, .int (nI (k + 1))), (11, .int (nI Y.2.1)), (4, .int (nI sp)), (3, .ref B), (2, .ref P), (1, .int (nI ti)), (0, .ref b)]) X.x X.b d_Law_law_784 hl (k := 0) rfl (nI_1 k) (by decide) rfl (fun ls hl => ?_)
                    refine lv_goto (tgt := 667) X.x X.b d_Law_law_787 (by decide) ?_
                    exact ih (k + 1) locs ls (by omega) (by omega) hS (lv_sub hl [0, 1, 2, 3, 4, 5, 6] rfl)
                  · exact absurd (hD1 (fun z => absurd (show nI t ≤ 0 by rw [z]; decide) (by assumption))) c15
              · skip
                refine lv_aload_n X.x X.b d_Law_law_725 rfl (lv_at hl 4 rfl) ?_
                refine m_get (v := .ref RA) X ok_Press hF.1 3 (by decide) k_Law_66 rfl d_Law_law_726 ?_
                refine lv_iconst (v := 0) X.x X.b d_Law_law_729 (by decide) ?_
                refine m_row (r := 0) X hF.2.1 (show (0 : Nat) < 5 by omega) rfl d_Law_law_730 ?_
                refine lv_aload_n X.x X.b d_Law_law_731 rfl (lv_at hl 3 rfl) ?_
                refine lv_iload X.x X.b d_Law_law_732 (lv_at hl 0 rfl) ?_
                refine lv_iconst (v := 3) X.x X.b d_Law_law_734 (by decide) ?_
                have hR := M_BP_ofItem (it := nI (k)) (j := k) (wt := 3) l g hB (iaO_in (by omega) (by omega)) (by decide)
                rw [of_3, e5] at hR
                refine m_callP X hS hR v_Law_77 hB.1 rfl rfl rfl (Nat.le_of_ble_eq_true rfl) hl.1 d_Law_law_735 (by omega) (by decide) ⟨by omega, by omega⟩ (fun locs hS => ?_)
                clear hR
                refine m_rowld (r := 0) (t := mm) X hF.2.1 (show (0 : Nat) < 5 by omega) hmm (by have := hB.cap40 (show (0 : Nat) < 5 by omega); omega) rfl d_Law_law_738 ?_
                refine lv_iconst (v := 0) X.x X.b d_Law_law_739 (by decide) ?_
                refine m_i5 (u := D 0 mm 0) X ((hF.2.1.2 0 (show (0 : Nat) < 5 by omega)).2 mm hmm) 0 (by decide) (by decide) rfl rfl d_Law_law_740 ?_
                refine lv_aload_n X.x X.b d_Law_law_741 rfl (lv_at hl 3 rfl) ?_
                refine lv_iload X.x X.b d_Law_law_742 (lv_at hl 0 rfl) ?_
                refine lv_iconst (v := 0) X.x X.b d_Law_law_744 (by decide) ?_
                have hR := M_BP_ofItem (it := nI (k)) (j := k) (wt := 0) l g hB (iaO_in (by omega) (by omega)) (by decide)
                rw [of_0] at hR
                refine m_callP X hS hR v_Law_77 hB.1 rfl rfl rfl (Nat.le_of_ble_eq_true rfl) hl.1 d_Law_law_745 (by omega) (by decide) ⟨by omega, by omega⟩ (fun locs hS => ?_)
                clear hR
                refine lv_icmp_ne (tgt := 782) X.x X.b d_Law_law_748 (by decide) (fun c16 => ?_) (fun c16 => ?_)
                · exact absurd (hD0 (by assumption)) c16
                · skip
                  refine lv_aload_n X.x X.b d_Law_law_751 rfl (lv_at hl 3 rfl) ?_
                  refine lv_iload X.x X.b d_Law_law_752 (lv_at hl 0 rfl) ?_
                  refine lv_iconst (v := 4) X.x X.b d_Law_law_754 (by decide) ?_
                  have hR := M_BP_ofItem (it := nI (k)) (j := k) (wt := 4) l g hB (iaO_in (by omega) (by omega)) (by decide)
                  rw [of_4, e6] at hR
                  refine m_callP X hS hR v_Law_77 hB.1 rfl rfl rfl (Nat.le_of_ble_eq_true rfl) hl.1 d_Law_law_755 (by omega) (by decide) ⟨by omega, by omega⟩ (fun locs hS => ?_)
                  clear hR
                  refine lv_if_le (tgt := 784) X.x X.b d_Law_law_758 (by decide) (fun c17 => ?_) (fun c17 => ?_)
                  · skip
                    have c17q := Int32.not_lt.mpr c17
                    refine lv_iinc (v := nI (k + 1)) (lv' := [(12, .int (nI (k + 1))), (11, .int (nI Y.2.1)), (4, .int (nI sp)), (3, .ref B), (2, .ref P), (1, .int (nI ti)), (0, .ref b)]) X.x X.b d_Law_law_784 hl (k := 0) rfl (nI_1 k) (by decide) rfl (fun ls hl => ?_)
                    refine lv_goto (tgt := 667) X.x X.b d_Law_law_787 (by decide) ?_
                    exact ih (k + 1) locs ls (by omega) (by omega) hS (lv_sub hl [0, 1, 2, 3, 4, 5, 6] rfl)
                  · skip
                    have c17q := Int32.not_le.mp c17
                    refine lv_aload_n X.x X.b d_Law_law_761 rfl (lv_at hl 4 rfl) ?_
                    refine m_get (v := .ref RA) X ok_Press hF.1 3 (by decide) k_Law_66 rfl d_Law_law_762 ?_
                    refine lv_iconst (v := 0) X.x X.b d_Law_law_765 (by decide) ?_
                    refine m_row (r := 0) X hF.2.1 (show (0 : Nat) < 5 by omega) rfl d_Law_law_766 ?_
                    refine lv_aload_n X.x X.b d_Law_law_767 rfl (lv_at hl 3 rfl) ?_
                    refine lv_iload X.x X.b d_Law_law_768 (lv_at hl 0 rfl) ?_
                    refine lv_iconst (v := 3) X.x X.b d_Law_law_770 (by decide) ?_
                    have hR := M_BP_ofItem (it := nI (k)) (j := k) (wt := 3) l g hB (iaO_in (by omega) (by omega)) (by decide)
                    rw [of_3, e5] at hR
                    refine m_callP X hS hR v_Law_77 hB.1 rfl rfl rfl (Nat.le_of_ble_eq_true rfl) hl.1 d_Law_law_771 (by omega) (by decide) ⟨by omega, by omega⟩ (fun locs hS => ?_)
                    clear hR
                    refine m_rowld (r := 0) (t := mm) X hF.2.1 (show (0 : Nat) < 5 by omega) hmm (by have := hB.cap40 (show (0 : Nat) < 5 by omega); omega) rfl d_Law_law_774 ?_
                    refine lv_iconst (v := 0) X.x X.b d_Law_law_775 (by decide) ?_
                    refine m_i5 (u := D 0 mm 0) X ((hF.2.1.2 0 (show (0 : Nat) < 5 by omega)).2 mm hmm) 0 (by decide) (by decide) rfl rfl d_Law_law_776 ?_
                    refine lv_bipush (v := 10) X.x X.b d_Law_law_777 (by decide) ?_
                    refine lv_icmp_eq (tgt := 784) X.x X.b d_Law_law_779 (by decide) (fun c18 => ?_) (fun c18 => ?_)
                    · skip
                      refine lv_iinc (v := nI (k + 1)) (lv' := [(12, .int (nI (k + 1))), (11, .int (nI Y.2.1)), (4, .int (nI sp)), (3, .ref B), (2, .ref P), (1, .int (nI ti)), (0, .ref b)]) X.x X.b d_Law_law_784 hl (k := 0) rfl (nI_1 k) (by decide) rfl (fun ls hl => ?_)
                      refine lv_goto (tgt := 667) X.x X.b d_Law_law_787 (by decide) ?_
                      exact ih (k + 1) locs ls (by omega) (by omega) hS (lv_sub hl [0, 1, 2, 3, 4, 5, 6] rfl)
                    · exact absurd (hD1 (fun z => absurd (show nI t ≤ 0 by rw [z]; decide) (by assumption))) c18
  exact lp Y.2.1 0 locs ls rfl (Nat.zero_le _) hS hl
set_option maxRecDepth 100000 in
set_option maxHeartbeats 4000000 in
theorem L4_f {g : GG} {p : Program} {l : Launch} {e : Env} {s : State} {m : MethodId} {below : List Frame} {meth : Method} {c : Code} {H : Heap} {locs : List Loc} {cells slots : Nat} {Q : State → Prop} {nm : String} {ls : Array Slot} {b L P B RA d ti sp cA sA : Nat} {xs : Nat → Int32} {V : Value × Value × Value} {cnt : Nat → Nat} {f : Nat → Nat → Nat} {fR : Nat → Nat} {fL : Nat → Nat → Nat} {D : DT} {Y : YS} (X : CX g p s m #[.ref b] meth c c_Law_law 15 (some .boolean) R_Law nm) (hbs : b < s.heap.size) (hPs : s.heap.size ≤ P) (hPB : P < B) (hx : va_X b L xs s H) (hS : va_S (AA noA s.heap) s.heap H locs) (hF : lawF g P B b RA V d cnt fR fL D H) (hB : bAt g B cnt f D Y H) (hok : OKY D cnt Y) (hG : lnsG D cnt) {tf : Nat} (hft : (nowF D cnt y00).2.2.2.1 = nI tf) (ht1 : 1 ≤ tf) (ht6 : tf ≤ 6) (kk : ∀ (H1 : Heap) (locs1 : List Loc) (ls1 : Array Slot) (c1 s1 : Nat) (f1 : Nat → Nat → Nat) (Y1 : YS), lawF g P B b RA V d cnt fR fL D H1 → bAt g B cnt f1 D Y1 H1 → OKY D cnt Y1 → va_X b L xs s H1 → va_S (AA noA s.heap) s.heap H1 locs1 → lv_has ls1 15 [(4, .int (nI sp)), (3, .ref B), (2, .ref P), (1, .int (nI ti)), (0, .ref b)] → c1 ≤ cA → s1 ≤ sA → W p l e (rmK 2000 600064 7301640) s m #[.ref b] below meth c H1 locs1 c1 s1 Q (F0 m 790 ls1 [])) (hmx : cA ≤ 10000 ∧ sA ≤ 400000) (hcs : cells ≤ cA ∧ slots ≤ sA) (hl : lv_has ls 15 [(12, .int 0), (11, .int 0), (4, .int (nI sp)), (3, .ref B), (2, .ref P), (1, .int (nI ti)), (0, .ref b)]) : W p l e (rmK 2000 600064 7301640) s m #[.ref b] below meth c H locs cells slots Q (F0 m 667 ls []) := by
  have hyf : Y.2.2.2.1 = nI tf := hok.fn.trans hft
  have hfn : ¬ nI tf = 0 := nI_ne0 ht1 (by omega)
  have hfl : ¬ nI tf ≤ 0 := nI_nle ht1 (by omega)
  have hW0 : wnF D cnt = 0 := (hok.c0 (by rw [hyf]; exact hfn)).2
  refine lv_iload X.x X.b d_Law_law_667 (lv_at hl 0 rfl) ?_
  refine lv_iconst (v := 1) X.x X.b d_Law_law_669 (by decide) ?_
  refine lv_iadd X.x X.b d_Law_law_670 ?_
  rw [show (0 : Int32) + 1 = 1 by decide]
  refine lv_iload X.x X.b d_Law_law_671 (lv_at hl 1 rfl) ?_
  refine lv_icmp_ge (tgt := 790) X.x X.b d_Law_law_673 (by decide) (fun c1 => ?_) (fun c1 => ?_)
  · skip
    have c1q := Int32.not_lt.mpr c1
    exact kk _ _ _ _ _ _ _ hF hB hok hx hS (lv_sub hl [2, 3, 4, 5, 6] rfl) (by omega) (by omega)
  · exact absurd c1 (by decide)
set_option maxRecDepth 100000 in
set_option maxHeartbeats 4000000 in
theorem s648_z {g : GG} {p : Program} {l : Launch} {e : Env} {s : State} {m : MethodId} {below : List Frame} {meth : Method} {c : Code} {H : Heap} {locs : List Loc} {cells slots : Nat} {Q : State → Prop} {nm : String} {ls : Array Slot} {b L P B RA d ti sp cA sA : Nat} {xs : Nat → Int32} {V : Value × Value × Value} {cnt : Nat → Nat} {f : Nat → Nat → Nat} {fR : Nat → Nat} {fL : Nat → Nat → Nat} {D : DT} {Y : YS} (X : CX g p s m #[.ref b] meth c c_Law_law 15 (some .boolean) R_Law nm) (hbs : b < s.heap.size) (hPs : s.heap.size ≤ P) (hPB : P < B) (hx : va_X b L xs s H) (hS : va_S (AA noA s.heap) s.heap H locs) (hF : lawF g P B b RA V d cnt fR fL D H) (hB : bAt g B cnt f D Y H) (hok : OKY D cnt Y) (hG : lnsG D cnt) (hz : (nowF D cnt y00).2.2.2.1 = 0) (kk : ∀ (H1 : Heap) (locs1 : List Loc) (ls1 : Array Slot) (c1 s1 : Nat) (f1 : Nat → Nat → Nat) (Y1 : YS), lawF g P B b RA V d cnt fR fL D H1 → bAt g B cnt f1 D Y1 H1 → OKY D cnt Y1 → va_X b L xs s H1 → va_S (AA noA s.heap) s.heap H1 locs1 → lv_has ls1 15 [(4, .int (nI sp)), (3, .ref B), (2, .ref P), (1, .int (nI ti)), (0, .ref b)] → c1 ≤ cA → s1 ≤ sA → W p l e (rmK 2000 600064 7301640) s m #[.ref b] below meth c H1 locs1 c1 s1 Q (F0 m 790 ls1 [])) (hmx : cA ≤ 10000 ∧ sA ≤ 400000) (hcs : cells ≤ cA ∧ slots ≤ sA) (hl : lv_has ls 15 [(9, .int 0), (4, .int (nI sp)), (3, .ref B), (2, .ref P), (1, .int (nI ti)), (0, .ref b)]) : W p l e (rmK 2000 600064 7301640) s m #[.ref b] below meth c H locs cells slots Q (F0 m 648 ls []) := by
  have hyf : Y.2.2.2.1 = 0 := hok.fn.trans hz
  have hW20 := (hok.tal3 hG).2
  have hwm : ¬ nI (wnF D cnt) = -1 := nI_m1 (by omega)
  refine lv_iload X.x X.b d_Law_law_648 (lv_at hl 0 rfl) ?_
  refine lv_if_le (tgt := 657) X.x X.b d_Law_law_650 (by decide) (fun c1 => ?_) (fun c1 => ?_)
  · skip
    have c1q := Int32.not_lt.mpr c1
    refine lv_aload_n X.x X.b d_Law_law_657 rfl (lv_at hl 2 rfl) ?_
    refine lv_iconst (v := 2) X.x X.b d_Law_law_658 (by decide) ?_
    have hR := M_BP_many (wt := 2) l g hB (by decide) (by decide)
    rw [manF_2 cnt hyf] at hR
    refine m_callP X hS hR v_Law_34 hB.1 rfl rfl rfl (Nat.le_of_ble_eq_true rfl) hl.1 d_Law_law_659 (by omega) (by decide) ⟨by omega, by omega⟩ (fun locs hS => ?_)
    clear hR
    refine lv_istore (lv' := [(11, .int (nI Y.2.1)), (9, .int 0), (4, .int (nI sp)), (3, .ref B), (2, .ref P), (1, .int (nI ti)), (0, .ref b)]) X.x X.b d_Law_law_662 hl (by decide) rfl (fun ls hl => ?_)
    refine lv_iconst (v := 0) X.x X.b d_Law_law_664 (by decide) ?_
    refine lv_istore (lv' := [(12, .int 0), (11, .int (nI Y.2.1)), (9, .int 0), (4, .int (nI sp)), (3, .ref B), (2, .ref P), (1, .int (nI ti)), (0, .ref b)]) X.x X.b d_Law_law_665 hl (by decide) rfl (fun ls hl => ?_)
    exact L4_z X hbs hPs hPB hx hS hF hB hok hG hz kk hmx hcs (lv_sub hl [0, 1, 3, 4, 5, 6, 7] rfl)
  · exact absurd c1 (by decide)
set_option maxRecDepth 100000 in
set_option maxHeartbeats 4000000 in
theorem s648_f {g : GG} {p : Program} {l : Launch} {e : Env} {s : State} {m : MethodId} {below : List Frame} {meth : Method} {c : Code} {H : Heap} {locs : List Loc} {cells slots : Nat} {Q : State → Prop} {nm : String} {ls : Array Slot} {b L P B RA d ti sp cA sA : Nat} {xs : Nat → Int32} {V : Value × Value × Value} {cnt : Nat → Nat} {f : Nat → Nat → Nat} {fR : Nat → Nat} {fL : Nat → Nat → Nat} {D : DT} {Y : YS} (X : CX g p s m #[.ref b] meth c c_Law_law 15 (some .boolean) R_Law nm) (hbs : b < s.heap.size) (hPs : s.heap.size ≤ P) (hPB : P < B) (hx : va_X b L xs s H) (hS : va_S (AA noA s.heap) s.heap H locs) (hF : lawF g P B b RA V d cnt fR fL D H) (hB : bAt g B cnt f D Y H) (hok : OKY D cnt Y) (hG : lnsG D cnt) {tf : Nat} (hft : (nowF D cnt y00).2.2.2.1 = nI tf) (ht1 : 1 ≤ tf) (ht6 : tf ≤ 6) (kk : ∀ (H1 : Heap) (locs1 : List Loc) (ls1 : Array Slot) (c1 s1 : Nat) (f1 : Nat → Nat → Nat) (Y1 : YS), lawF g P B b RA V d cnt fR fL D H1 → bAt g B cnt f1 D Y1 H1 → OKY D cnt Y1 → va_X b L xs s H1 → va_S (AA noA s.heap) s.heap H1 locs1 → lv_has ls1 15 [(4, .int (nI sp)), (3, .ref B), (2, .ref P), (1, .int (nI ti)), (0, .ref b)] → c1 ≤ cA → s1 ≤ sA → W p l e (rmK 2000 600064 7301640) s m #[.ref b] below meth c H1 locs1 c1 s1 Q (F0 m 790 ls1 [])) (hmx : cA ≤ 10000 ∧ sA ≤ 400000) (hcs : cells ≤ cA ∧ slots ≤ sA) (hl : lv_has ls 15 [(9, .int (nI tf)), (4, .int (nI sp)), (3, .ref B), (2, .ref P), (1, .int (nI ti)), (0, .ref b)]) : W p l e (rmK 2000 600064 7301640) s m #[.ref b] below meth c H locs cells slots Q (F0 m 648 ls []) := by
  have hyf : Y.2.2.2.1 = nI tf := hok.fn.trans hft
  have hfn : ¬ nI tf = 0 := nI_ne0 ht1 (by omega)
  have hfl : ¬ nI tf ≤ 0 := nI_nle ht1 (by omega)
  have hW0 : wnF D cnt = 0 := (hok.c0 (by rw [hyf]; exact hfn)).2
  refine lv_iload X.x X.b d_Law_law_648 (lv_at hl 0 rfl) ?_
  refine lv_if_le (tgt := 657) X.x X.b d_Law_law_650 (by decide) (fun c1 => ?_) (fun c1 => ?_)
  · exact absurd c1 hfl
  · skip
    have c1q := Int32.not_le.mp c1
    refine lv_iconst (v := 0) X.x X.b d_Law_law_653 (by decide) ?_
    refine lv_goto (tgt := 662) X.x X.b d_Law_law_654 (by decide) ?_
    refine lv_istore (lv' := [(11, .int 0), (9, .int (nI tf)), (4, .int (nI sp)), (3, .ref B), (2, .ref P), (1, .int (nI ti)), (0, .ref b)]) X.x X.b d_Law_law_662 hl (by decide) rfl (fun ls hl => ?_)
    refine lv_iconst (v := 0) X.x X.b d_Law_law_664 (by decide) ?_
    refine lv_istore (lv' := [(12, .int 0), (11, .int 0), (9, .int (nI tf)), (4, .int (nI sp)), (3, .ref B), (2, .ref P), (1, .int (nI ti)), (0, .ref b)]) X.x X.b d_Law_law_665 hl (by decide) rfl (fun ls hl => ?_)
    exact L4_f X hbs hPs hPB hx hS hF hB hok hG hft ht1 ht6 kk hmx hcs (lv_sub hl [0, 1, 3, 4, 5, 6, 7] rfl)
set_option maxRecDepth 100000 in
set_option maxHeartbeats 4000000 in
theorem L3_z {g : GG} {p : Program} {l : Launch} {e : Env} {s : State} {m : MethodId} {below : List Frame} {meth : Method} {c : Code} {H : Heap} {locs : List Loc} {cells slots : Nat} {Q : State → Prop} {nm : String} {ls : Array Slot} {b L P B RA d ti sp cA sA : Nat} {xs : Nat → Int32} {V : Value × Value × Value} {cnt : Nat → Nat} {f : Nat → Nat → Nat} {fR : Nat → Nat} {fL : Nat → Nat → Nat} {D : DT} {Y : YS} (X : CX g p s m #[.ref b] meth c c_Law_law 15 (some .boolean) R_Law nm) (hbs : b < s.heap.size) (hPs : s.heap.size ≤ P) (hPB : P < B) (hx : va_X b L xs s H) (hS : va_S (AA noA s.heap) s.heap H locs) (hF : lawF g P B b RA V d cnt fR fL D H) (hB : bAt g B cnt f D Y H) (hok : OKY D cnt Y) (hG : lnsG D cnt) {al : Nat} {fa : Nat → Int32} (hal : pt g al (.inl (g.2 0, wnF D cnt, .inl fa)) H) (hal0 : B + 287 ≤ al) (hfa : ∀ i, i < wnF D cnt → fa i = wdF (nowF D cnt y00).1 (nowF D cnt y00).2.1 (nI i)) (hz : (nowF D cnt y00).2.2.2.1 = 0) (kk : ∀ (H1 : Heap) (locs1 : List Loc) (ls1 : Array Slot) (c1 s1 : Nat) (f1 : Nat → Nat → Nat) (Y1 : YS), lawF g P B b RA V d cnt fR fL D H1 → bAt g B cnt f1 D Y1 H1 → OKY D cnt Y1 → va_X b L xs s H1 → va_S (AA noA s.heap) s.heap H1 locs1 → lv_has ls1 15 [(4, .int (nI sp)), (3, .ref B), (2, .ref P), (1, .int (nI ti)), (0, .ref b)] → c1 ≤ cA → s1 ≤ sA → W p l e (rmK 2000 600064 7301640) s m #[.ref b] below meth c H1 locs1 c1 s1 Q (F0 m 790 ls1 [])) (hmx : cA ≤ 10000 ∧ sA ≤ 400000) (hcs : cells ≤ cA ∧ slots ≤ sA) (hl : lv_has ls 15 [(11, .int 0), (10, .ref al), (9, .int 0), (8, .int (nI (wnF D cnt))), (7, .int (nI (cnt 0))), (5, .long (dgC D cnt)), (4, .int (nI sp)), (3, .ref B), (2, .ref P), (1, .int (nI ti)), (0, .ref b)]) : W p l e (rmK 2000 600064 7301640) s m #[.ref b] below meth c H locs cells slots Q (F0 m 466 ls []) := by
  have hyf : Y.2.2.2.1 = 0 := hok.fn.trans hz
  have hW20 := (hok.tal3 hG).2
  have hwm : ¬ nI (wnF D cnt) = -1 := nI_m1 (by omega)
  have lp : ∀ (n w : Nat) (locs : List Loc) (ls : Array Slot), n = wnF D cnt - w → w ≤ wnF D cnt → va_S (AA noA s.heap) s.heap H locs → lv_has ls 15 [(11, .int (nI w)), (10, .ref al), (9, .int 0), (8, .int (nI (wnF D cnt))), (7, .int (nI (cnt 0))), (5, .long (dgC D cnt)), (4, .int (nI sp)), (3, .ref B), (2, .ref P), (1, .int (nI ti)), (0, .ref b)] → W p l e (rmK 2000 600064 7301640) s m #[.ref b] below meth c H locs cells slots Q (F0 m 466 ls []) := by
    intro n
    induction n with
    | zero =>
      intro w locs ls hn hw1 hS hl
      refine lv_iload X.x X.b d_Law_law_466 (lv_at hl 0 rfl) ?_
      refine lv_iload X.x X.b d_Law_law_468 (lv_at hl 3 rfl) ?_
      refine lv_icmp_ge (tgt := 648) X.x X.b d_Law_law_470 (by decide) (fun c1 => ?_) (fun c1 => ?_)
      · skip
        have c1q := Int32.not_lt.mpr c1
        exact s648_z X hbs hPs hPB hx hS hF hB hok hG hz kk hmx hcs (lv_sub hl [2, 6, 7, 8, 9, 10] rfl)
      · exact absurd (nI_le (by omega) (by omega)) c1
    | succ n ih =>
      intro w locs ls hn hw1 hS hl
      refine lv_iload X.x X.b d_Law_law_466 (lv_at hl 0 rfl) ?_
      refine lv_iload X.x X.b d_Law_law_468 (lv_at hl 3 rfl) ?_
      refine lv_icmp_ge (tgt := 648) X.x X.b d_Law_law_470 (by decide) (fun c2 => ?_) (fun c2 => ?_)
      · exact absurd ((nI_leI (by omega) (by omega)).mp c2) (by omega)
      · skip
        have c2q := Int32.not_le.mp c2
        have hw : w < wnF D cnt := by omega
        obtain ⟨j, hj, hcc, hjo, h3, h4, h5, h7⟩ := hok.at hG hyf hw
        obtain ⟨wd, hwd0⟩ : ∃ z, z = wdF Y.1 Y.2.1 (nI w) := ⟨_, rfl⟩
        rw [← hwd0] at h3 h4 h5 h7
        obtain ⟨kd, hkd⟩ : ∃ z, z = Y.1.1 0 j := ⟨_, rfl⟩
        rw [← hkd] at h3 h4 h5 h7
        obtain ⟨ad, had⟩ : ∃ z, z = Y.1.1 12 j := ⟨_, rfl⟩
        rw [← had] at h3 h4
        have hwd : fa w = wd := (hfa w hw).trans ((hok.wd _).symm.trans hwd0.symm)
        refine lv_aload_n X.x X.b d_Law_law_473 rfl (lv_at hl 7 rfl) ?_
        refine lv_iload X.x X.b d_Law_law_474 (lv_at hl 0 rfl) ?_
        have hR := M_BP_itemOf (ad := nI w) l g hB (by rw [hjo]; exact nI_m1 (by omega))
        rw [hjo] at hR
        refine m_callP X hS hR v_Law_74 hB.1 rfl rfl rfl (Nat.le_of_ble_eq_true rfl) hl.1 d_Law_law_476 (by omega) (by decide) ⟨by omega, by omega⟩ (fun locs hS => ?_)
        clear hR
        refine lv_istore (lv' := [(12, .int (nI j)), (11, .int (nI w)), (10, .ref al), (9, .int 0), (8, .int (nI (wnF D cnt))), (7, .int (nI (cnt 0))), (5, .long (dgC D cnt)), (4, .int (nI sp)), (3, .ref B), (2, .ref P), (1, .int (nI ti)), (0, .ref b)]) X.x X.b d_Law_law_479 hl (by decide) rfl (fun ls hl => ?_)
        refine lv_aload_n X.x X.b d_Law_law_481 rfl (lv_at hl 8 rfl) ?_
        refine lv_iload X.x X.b d_Law_law_482 (lv_at hl 0 rfl) ?_
        refine lv_iconst (v := 0) X.x X.b d_Law_law_484 (by decide) ?_
        have hR := M_BP_ofItem (it := nI j) (j := j) (wt := 0) l g hB (iaO_in (by omega) (by omega)) (by decide)
        rw [of_0, ← hkd] at hR
        refine m_callP X hS hR v_Law_77 hB.1 rfl rfl rfl (Nat.le_of_ble_eq_true rfl) hl.1 d_Law_law_485 (by omega) (by decide) ⟨by omega, by omega⟩ (fun locs hS => ?_)
        clear hR
        refine lv_istore (lv' := [(13, .int kd), (12, .int (nI j)), (11, .int (nI w)), (10, .ref al), (9, .int 0), (8, .int (nI (wnF D cnt))), (7, .int (nI (cnt 0))), (5, .long (dgC D cnt)), (4, .int (nI sp)), (3, .ref B), (2, .ref P), (1, .int (nI ti)), (0, .ref b)]) X.x X.b d_Law_law_488 hl (by decide) rfl (fun ls hl => ?_)
        refine lv_iload X.x X.b d_Law_law_490 (lv_at hl 2 rfl) ?_
        refine lv_aload_n X.x X.b d_Law_law_492 rfl (lv_at hl 9 rfl) ?_
        refine lv_iload X.x X.b d_Law_law_493 (lv_at hl 1 rfl) ?_
        refine lv_iconst (v := 1) X.x X.b d_Law_law_495 (by decide) ?_
        have hR := M_BP_ofItem (it := nI j) (j := j) (wt := 1) l g hB (iaO_in (by omega) (by omega)) (by decide)
        rw [of_1, ← had] at hR
        refine m_callP X hS hR v_Law_77 hB.1 rfl rfl rfl (Nat.le_of_ble_eq_true rfl) hl.1 d_Law_law_496 (by omega) (by decide) ⟨by omega, by omega⟩ (fun locs hS => ?_)
        clear hR
        refine lv_icmp_ne (tgt := 506) X.x X.b d_Law_law_499 (by decide) (fun c3 => ?_) (fun c3 => ?_)
        · skip
          refine lv_iconst (v := 0) X.x X.b d_Law_law_506 (by decide) ?_
          refine lv_istore (lv' := [(14, .int 0), (13, .int kd), (12, .int (nI j)), (11, .int (nI w)), (10, .ref al), (9, .int 0), (8, .int (nI (wnF D cnt))), (7, .int (nI (cnt 0))), (5, .long (dgC D cnt)), (4, .int (nI sp)), (3, .ref B), (2, .ref P), (1, .int (nI ti)), (0, .ref b)]) X.x X.b d_Law_law_507 hl (by decide) rfl (fun ls hl => ?_)
          refine lv_iload X.x X.b d_Law_law_509 (lv_at hl 1 rfl) ?_
          refine lv_iconst (v := 3) X.x X.b d_Law_law_511 (by decide) ?_
          refine lv_icmp_ne (tgt := 553) X.x X.b d_Law_law_512 (by decide) (fun c4 => ?_) (fun c4 => ?_)
          · skip
            refine lv_iload X.x X.b d_Law_law_553 (lv_at hl 1 rfl) ?_
            refine lv_iconst (v := 4) X.x X.b d_Law_law_555 (by decide) ?_
            refine lv_icmp_ne (tgt := 597) X.x X.b d_Law_law_556 (by decide) (fun c5 => ?_) (fun c5 => ?_)
            · skip
              refine lv_iload X.x X.b d_Law_law_597 (lv_at hl 1 rfl) ?_
              refine lv_iconst (v := 5) X.x X.b d_Law_law_599 (by decide) ?_
              refine lv_icmp_ne (tgt := 625) X.x X.b d_Law_law_600 (by decide) (fun c6 => ?_) (fun c6 => ?_)
              · skip
                refine lv_iload X.x X.b d_Law_law_625 (lv_at hl 1 rfl) ?_
                refine lv_bipush (v := 7) X.x X.b d_Law_law_627 (by decide) ?_
                refine lv_icmp_ne (tgt := 642) X.x X.b d_Law_law_629 (by decide) (fun c7 => ?_) (fun c7 => ?_)
                · skip
                  refine lv_iinc (v := nI (w + 1)) (lv' := [(11, .int (nI (w + 1))), (14, .int 0), (13, .int kd), (12, .int (nI j)), (10, .ref al), (9, .int 0), (8, .int (nI (wnF D cnt))), (7, .int (nI (cnt 0))), (5, .long (dgC D cnt)), (4, .int (nI sp)), (3, .ref B), (2, .ref P), (1, .int (nI ti)), (0, .ref b)]) X.x X.b d_Law_law_642 hl (k := 3) rfl (nI_1 w) (by decide) rfl (fun ls hl => ?_)
                  refine lv_goto (tgt := 466) X.x X.b d_Law_law_645 (by decide) ?_
                  exact ih (w + 1) locs ls (by omega) (by omega) hS (lv_sub hl [0, 4, 5, 6, 7, 8, 9, 10, 11, 12, 13] rfl)
                · skip
                  refine lv_aload X.x X.b d_Law_law_632 (lv_at hl 4 rfl) ?_
                  refine lv_iload X.x X.b d_Law_law_634 (lv_at hl 3 rfl) ?_
                  refine m_i5 (u := wd) X hal w hw (by omega) rfl hwd d_Law_law_636 ?_
                  refine lv_if_eq (tgt := 642) X.x X.b d_Law_law_637 (by decide) (fun c8 => ?_) (fun c8 => ?_)
                  · skip
                    refine lv_iinc (v := nI (w + 1)) (lv' := [(11, .int (nI (w + 1))), (14, .int 0), (13, .int kd), (12, .int (nI j)), (10, .ref al), (9, .int 0), (8, .int (nI (wnF D cnt))), (7, .int (nI (cnt 0))), (5, .long (dgC D cnt)), (4, .int (nI sp)), (3, .ref B), (2, .ref P), (1, .int (nI ti)), (0, .ref b)]) X.x X.b d_Law_law_642 hl (k := 3) rfl (nI_1 w) (by decide) rfl (fun ls hl => ?_)
                    refine lv_goto (tgt := 466) X.x X.b d_Law_law_645 (by decide) ?_
                    exact ih (w + 1) locs ls (by omega) (by omega) hS (lv_sub hl [0, 4, 5, 6, 7, 8, 9, 10, 11, 12, 13] rfl)
                  · exact absurd (h7 (by assumption)) c8
              · skip
                refine lv_aload X.x X.b d_Law_law_603 (lv_at hl 4 rfl) ?_
                refine lv_iload X.x X.b d_Law_law_605 (lv_at hl 3 rfl) ?_
                refine m_i5 (u := wd) X hal w hw (by omega) rfl hwd d_Law_law_607 ?_
                refine lv_sipush (v := 5000) X.x X.b d_Law_law_608 (by decide) ?_
                refine lv_icmp_lt (tgt := 640) X.x X.b d_Law_law_611 (by decide) (fun c9 => ?_) (fun c9 => ?_)
                · exact absurd (h5 (by assumption)).1 (Int32.not_le.mpr c9)
                · skip
                  have c9q := Int32.not_lt.mp c9
                  refine lv_aload X.x X.b d_Law_law_614 (lv_at hl 4 rfl) ?_
                  refine lv_iload X.x X.b d_Law_law_616 (lv_at hl 3 rfl) ?_
                  refine m_i5 (u := wd) X hal w hw (by omega) rfl hwd d_Law_law_618 ?_
                  refine lv_sipush (v := 5015) X.x X.b d_Law_law_619 (by decide) ?_
                  refine lv_icmp_gt (tgt := 640) X.x X.b d_Law_law_622 (by decide) (fun c10 => ?_) (fun c10 => ?_)
                  · exact absurd (h5 (by assumption)).2 (Int32.not_le.mpr c10)
                  · skip
                    have c10q := Int32.not_lt.mp c10
                    refine lv_iload X.x X.b d_Law_law_625 (lv_at hl 1 rfl) ?_
                    refine lv_bipush (v := 7) X.x X.b d_Law_law_627 (by decide) ?_
                    refine lv_icmp_ne (tgt := 642) X.x X.b d_Law_law_629 (by decide) (fun c11 => ?_) (fun c11 => ?_)
                    · skip
                      refine lv_iinc (v := nI (w + 1)) (lv' := [(11, .int (nI (w + 1))), (14, .int 0), (13, .int kd), (12, .int (nI j)), (10, .ref al), (9, .int 0), (8, .int (nI (wnF D cnt))), (7, .int (nI (cnt 0))), (5, .long (dgC D cnt)), (4, .int (nI sp)), (3, .ref B), (2, .ref P), (1, .int (nI ti)), (0, .ref b)]) X.x X.b d_Law_law_642 hl (k := 3) rfl (nI_1 w) (by decide) rfl (fun ls hl => ?_)
                      refine lv_goto (tgt := 466) X.x X.b d_Law_law_645 (by decide) ?_
                      exact ih (w + 1) locs ls (by omega) (by omega) hS (lv_sub hl [0, 4, 5, 6, 7, 8, 9, 10, 11, 12, 13] rfl)
                    · exact absurd (c6.symm.trans c11) (by decide)
            · skip
              refine lv_iload X.x X.b d_Law_law_559 (lv_at hl 0 rfl) ?_
              refine lv_if_eq (tgt := 597) X.x X.b d_Law_law_561 (by decide) (fun c12 => ?_) (fun c12 => ?_)
              · skip
                refine lv_iload X.x X.b d_Law_law_597 (lv_at hl 1 rfl) ?_
                refine lv_iconst (v := 5) X.x X.b d_Law_law_599 (by decide) ?_
                refine lv_icmp_ne (tgt := 625) X.x X.b d_Law_law_600 (by decide) (fun c13 => ?_) (fun c13 => ?_)
                · skip
                  refine lv_iload X.x X.b d_Law_law_625 (lv_at hl 1 rfl) ?_
                  refine lv_bipush (v := 7) X.x X.b d_Law_law_627 (by decide) ?_
                  refine lv_icmp_ne (tgt := 642) X.x X.b d_Law_law_629 (by decide) (fun c14 => ?_) (fun c14 => ?_)
                  · skip
                    refine lv_iinc (v := nI (w + 1)) (lv' := [(11, .int (nI (w + 1))), (14, .int 0), (13, .int kd), (12, .int (nI j)), (10, .ref al), (9, .int 0), (8, .int (nI (wnF D cnt))), (7, .int (nI (cnt 0))), (5, .long (dgC D cnt)), (4, .int (nI sp)), (3, .ref B), (2, .ref P), (1, .int (nI ti)), (0, .ref b)]) X.x X.b d_Law_law_642 hl (k := 3) rfl (nI_1 w) (by decide) rfl (fun ls hl => ?_)
                    refine lv_goto (tgt := 466) X.x X.b d_Law_law_645 (by decide) ?_
                    exact ih (w + 1) locs ls (by omega) (by omega) hS (lv_sub hl [0, 4, 5, 6, 7, 8, 9, 10, 11, 12, 13] rfl)
                  · exact absurd (c5.symm.trans c14) (by decide)
                · exact absurd (c5.symm.trans c13) (by decide)
              · exact absurd rfl c12
          · skip
            refine lv_iload X.x X.b d_Law_law_515 (lv_at hl 0 rfl) ?_
            refine lv_if_eq (tgt := 553) X.x X.b d_Law_law_517 (by decide) (fun c15 => ?_) (fun c15 => ?_)
            · skip
              refine lv_iload X.x X.b d_Law_law_553 (lv_at hl 1 rfl) ?_
              refine lv_iconst (v := 4) X.x X.b d_Law_law_555 (by decide) ?_
              refine lv_icmp_ne (tgt := 597) X.x X.b d_Law_law_556 (by decide) (fun c16 => ?_) (fun c16 => ?_)
              · skip
                refine lv_iload X.x X.b d_Law_law_597 (lv_at hl 1 rfl) ?_
                refine lv_iconst (v := 5) X.x X.b d_Law_law_599 (by decide) ?_
                refine lv_icmp_ne (tgt := 625) X.x X.b d_Law_law_600 (by decide) (fun c17 => ?_) (fun c17 => ?_)
                · skip
                  refine lv_iload X.x X.b d_Law_law_625 (lv_at hl 1 rfl) ?_
                  refine lv_bipush (v := 7) X.x X.b d_Law_law_627 (by decide) ?_
                  refine lv_icmp_ne (tgt := 642) X.x X.b d_Law_law_629 (by decide) (fun c18 => ?_) (fun c18 => ?_)
                  · skip
                    refine lv_iinc (v := nI (w + 1)) (lv' := [(11, .int (nI (w + 1))), (14, .int 0), (13, .int kd), (12, .int (nI j)), (10, .ref al), (9, .int 0), (8, .int (nI (wnF D cnt))), (7, .int (nI (cnt 0))), (5, .long (dgC D cnt)), (4, .int (nI sp)), (3, .ref B), (2, .ref P), (1, .int (nI ti)), (0, .ref b)]) X.x X.b d_Law_law_642 hl (k := 3) rfl (nI_1 w) (by decide) rfl (fun ls hl => ?_)
                    refine lv_goto (tgt := 466) X.x X.b d_Law_law_645 (by decide) ?_
                    exact ih (w + 1) locs ls (by omega) (by omega) hS (lv_sub hl [0, 4, 5, 6, 7, 8, 9, 10, 11, 12, 13] rfl)
                  · exact absurd (c4.symm.trans c18) (by decide)
                · exact absurd (c4.symm.trans c17) (by decide)
              · exact absurd (c4.symm.trans c16) (by decide)
            · exact absurd rfl c15
        · skip
          refine lv_iconst (v := 1) X.x X.b d_Law_law_502 (by decide) ?_
          refine lv_goto (tgt := 507) X.x X.b d_Law_law_503 (by decide) ?_
          refine lv_istore (lv' := [(14, .int 1), (13, .int kd), (12, .int (nI j)), (11, .int (nI w)), (10, .ref al), (9, .int 0), (8, .int (nI (wnF D cnt))), (7, .int (nI (cnt 0))), (5, .long (dgC D cnt)), (4, .int (nI sp)), (3, .ref B), (2, .ref P), (1, .int (nI ti)), (0, .ref b)]) X.x X.b d_Law_law_507 hl (by decide) rfl (fun ls hl => ?_)
          refine lv_iload X.x X.b d_Law_law_509 (lv_at hl 1 rfl) ?_
          refine lv_iconst (v := 3) X.x X.b d_Law_law_511 (by decide) ?_
          refine lv_icmp_ne (tgt := 553) X.x X.b d_Law_law_512 (by decide) (fun c19 => ?_) (fun c19 => ?_)
          · skip
            refine lv_iload X.x X.b d_Law_law_553 (lv_at hl 1 rfl) ?_
            refine lv_iconst (v := 4) X.x X.b d_Law_law_555 (by decide) ?_
            refine lv_icmp_ne (tgt := 597) X.x X.b d_Law_law_556 (by decide) (fun c20 => ?_) (fun c20 => ?_)
            · skip
              refine lv_iload X.x X.b d_Law_law_597 (lv_at hl 1 rfl) ?_
              refine lv_iconst (v := 5) X.x X.b d_Law_law_599 (by decide) ?_
              refine lv_icmp_ne (tgt := 625) X.x X.b d_Law_law_600 (by decide) (fun c21 => ?_) (fun c21 => ?_)
              · skip
                refine lv_iload X.x X.b d_Law_law_625 (lv_at hl 1 rfl) ?_
                refine lv_bipush (v := 7) X.x X.b d_Law_law_627 (by decide) ?_
                refine lv_icmp_ne (tgt := 642) X.x X.b d_Law_law_629 (by decide) (fun c22 => ?_) (fun c22 => ?_)
                · skip
                  refine lv_iinc (v := nI (w + 1)) (lv' := [(11, .int (nI (w + 1))), (14, .int 1), (13, .int kd), (12, .int (nI j)), (10, .ref al), (9, .int 0), (8, .int (nI (wnF D cnt))), (7, .int (nI (cnt 0))), (5, .long (dgC D cnt)), (4, .int (nI sp)), (3, .ref B), (2, .ref P), (1, .int (nI ti)), (0, .ref b)]) X.x X.b d_Law_law_642 hl (k := 3) rfl (nI_1 w) (by decide) rfl (fun ls hl => ?_)
                  refine lv_goto (tgt := 466) X.x X.b d_Law_law_645 (by decide) ?_
                  exact ih (w + 1) locs ls (by omega) (by omega) hS (lv_sub hl [0, 4, 5, 6, 7, 8, 9, 10, 11, 12, 13] rfl)
                · skip
                  refine lv_aload X.x X.b d_Law_law_632 (lv_at hl 4 rfl) ?_
                  refine lv_iload X.x X.b d_Law_law_634 (lv_at hl 3 rfl) ?_
                  refine m_i5 (u := wd) X hal w hw (by omega) rfl hwd d_Law_law_636 ?_
                  refine lv_if_eq (tgt := 642) X.x X.b d_Law_law_637 (by decide) (fun c23 => ?_) (fun c23 => ?_)
                  · skip
                    refine lv_iinc (v := nI (w + 1)) (lv' := [(11, .int (nI (w + 1))), (14, .int 1), (13, .int kd), (12, .int (nI j)), (10, .ref al), (9, .int 0), (8, .int (nI (wnF D cnt))), (7, .int (nI (cnt 0))), (5, .long (dgC D cnt)), (4, .int (nI sp)), (3, .ref B), (2, .ref P), (1, .int (nI ti)), (0, .ref b)]) X.x X.b d_Law_law_642 hl (k := 3) rfl (nI_1 w) (by decide) rfl (fun ls hl => ?_)
                    refine lv_goto (tgt := 466) X.x X.b d_Law_law_645 (by decide) ?_
                    exact ih (w + 1) locs ls (by omega) (by omega) hS (lv_sub hl [0, 4, 5, 6, 7, 8, 9, 10, 11, 12, 13] rfl)
                  · exact absurd (h7 (by assumption)) c23
              · skip
                refine lv_aload X.x X.b d_Law_law_603 (lv_at hl 4 rfl) ?_
                refine lv_iload X.x X.b d_Law_law_605 (lv_at hl 3 rfl) ?_
                refine m_i5 (u := wd) X hal w hw (by omega) rfl hwd d_Law_law_607 ?_
                refine lv_sipush (v := 5000) X.x X.b d_Law_law_608 (by decide) ?_
                refine lv_icmp_lt (tgt := 640) X.x X.b d_Law_law_611 (by decide) (fun c24 => ?_) (fun c24 => ?_)
                · exact absurd (h5 (by assumption)).1 (Int32.not_le.mpr c24)
                · skip
                  have c24q := Int32.not_lt.mp c24
                  refine lv_aload X.x X.b d_Law_law_614 (lv_at hl 4 rfl) ?_
                  refine lv_iload X.x X.b d_Law_law_616 (lv_at hl 3 rfl) ?_
                  refine m_i5 (u := wd) X hal w hw (by omega) rfl hwd d_Law_law_618 ?_
                  refine lv_sipush (v := 5015) X.x X.b d_Law_law_619 (by decide) ?_
                  refine lv_icmp_gt (tgt := 640) X.x X.b d_Law_law_622 (by decide) (fun c25 => ?_) (fun c25 => ?_)
                  · exact absurd (h5 (by assumption)).2 (Int32.not_le.mpr c25)
                  · skip
                    have c25q := Int32.not_lt.mp c25
                    refine lv_iload X.x X.b d_Law_law_625 (lv_at hl 1 rfl) ?_
                    refine lv_bipush (v := 7) X.x X.b d_Law_law_627 (by decide) ?_
                    refine lv_icmp_ne (tgt := 642) X.x X.b d_Law_law_629 (by decide) (fun c26 => ?_) (fun c26 => ?_)
                    · skip
                      refine lv_iinc (v := nI (w + 1)) (lv' := [(11, .int (nI (w + 1))), (14, .int 1), (13, .int kd), (12, .int (nI j)), (10, .ref al), (9, .int 0), (8, .int (nI (wnF D cnt))), (7, .int (nI (cnt 0))), (5, .long (dgC D cnt)), (4, .int (nI sp)), (3, .ref B), (2, .ref P), (1, .int (nI ti)), (0, .ref b)]) X.x X.b d_Law_law_642 hl (k := 3) rfl (nI_1 w) (by decide) rfl (fun ls hl => ?_)
                      refine lv_goto (tgt := 466) X.x X.b d_Law_law_645 (by decide) ?_
                      exact ih (w + 1) locs ls (by omega) (by omega) hS (lv_sub hl [0, 4, 5, 6, 7, 8, 9, 10, 11, 12, 13] rfl)
                    · exact absurd (c21.symm.trans c26) (by decide)
            · skip
              refine lv_iload X.x X.b d_Law_law_559 (lv_at hl 0 rfl) ?_
              refine lv_if_eq (tgt := 597) X.x X.b d_Law_law_561 (by decide) (fun c27 => ?_) (fun c27 => ?_)
              · exact absurd c27 (by decide)
              · skip
                refine lv_aload X.x X.b d_Law_law_564 (lv_at hl 4 rfl) ?_
                refine lv_iload X.x X.b d_Law_law_566 (lv_at hl 3 rfl) ?_
                refine m_i5 (u := wd) X hal w hw (by omega) rfl hwd d_Law_law_568 ?_
                refine lv_sipush (v := 4100) X.x X.b d_Law_law_569 (by decide) ?_
                refine lv_icmp_eq (tgt := 597) X.x X.b d_Law_law_572 (by decide) (fun c28 => ?_) (fun c28 => ?_)
                · skip
                  refine lv_iload X.x X.b d_Law_law_597 (lv_at hl 1 rfl) ?_
                  refine lv_iconst (v := 5) X.x X.b d_Law_law_599 (by decide) ?_
                  refine lv_icmp_ne (tgt := 625) X.x X.b d_Law_law_600 (by decide) (fun c29 => ?_) (fun c29 => ?_)
                  · skip
                    refine lv_iload X.x X.b d_Law_law_625 (lv_at hl 1 rfl) ?_
                    refine lv_bipush (v := 7) X.x X.b d_Law_law_627 (by decide) ?_
                    refine lv_icmp_ne (tgt := 642) X.x X.b d_Law_law_629 (by decide) (fun c30 => ?_) (fun c30 => ?_)
                    · skip
                      refine lv_iinc (v := nI (w + 1)) (lv' := [(11, .int (nI (w + 1))), (14, .int 1), (13, .int kd), (12, .int (nI j)), (10, .ref al), (9, .int 0), (8, .int (nI (wnF D cnt))), (7, .int (nI (cnt 0))), (5, .long (dgC D cnt)), (4, .int (nI sp)), (3, .ref B), (2, .ref P), (1, .int (nI ti)), (0, .ref b)]) X.x X.b d_Law_law_642 hl (k := 3) rfl (nI_1 w) (by decide) rfl (fun ls hl => ?_)
                      refine lv_goto (tgt := 466) X.x X.b d_Law_law_645 (by decide) ?_
                      exact ih (w + 1) locs ls (by omega) (by omega) hS (lv_sub hl [0, 4, 5, 6, 7, 8, 9, 10, 11, 12, 13] rfl)
                    · exact absurd (c20.symm.trans c30) (by decide)
                  · exact absurd (c20.symm.trans c29) (by decide)
                · skip
                  refine lv_aload X.x X.b d_Law_law_575 (lv_at hl 4 rfl) ?_
                  refine lv_iload X.x X.b d_Law_law_577 (lv_at hl 3 rfl) ?_
                  refine m_i5 (u := wd) X hal w hw (by omega) rfl hwd d_Law_law_579 ?_
                  refine lv_sipush (v := 4000) X.x X.b d_Law_law_580 (by decide) ?_
                  refine lv_icmp_lt (tgt := 640) X.x X.b d_Law_law_583 (by decide) (fun c31 => ?_) (fun c31 => ?_)
                  · exact absurd ((h4 (by assumption) (by assumption)).resolve_left (by assumption)).1 (Int32.not_le.mpr c31)
                  · skip
                    have c31q := Int32.not_lt.mp c31
                    refine lv_aload X.x X.b d_Law_law_586 (lv_at hl 4 rfl) ?_
                    refine lv_iload X.x X.b d_Law_law_588 (lv_at hl 3 rfl) ?_
                    refine m_i5 (u := wd) X hal w hw (by omega) rfl hwd d_Law_law_590 ?_
                    refine lv_sipush (v := 4015) X.x X.b d_Law_law_591 (by decide) ?_
                    refine lv_icmp_gt (tgt := 640) X.x X.b d_Law_law_594 (by decide) (fun c32 => ?_) (fun c32 => ?_)
                    · exact absurd ((h4 (by assumption) (by assumption)).resolve_left (by assumption)).2 (Int32.not_le.mpr c32)
                    · skip
                      have c32q := Int32.not_lt.mp c32
                      refine lv_iload X.x X.b d_Law_law_597 (lv_at hl 1 rfl) ?_
                      refine lv_iconst (v := 5) X.x X.b d_Law_law_599 (by decide) ?_
                      refine lv_icmp_ne (tgt := 625) X.x X.b d_Law_law_600 (by decide) (fun c33 => ?_) (fun c33 => ?_)
                      · skip
                        refine lv_iload X.x X.b d_Law_law_625 (lv_at hl 1 rfl) ?_
                        refine lv_bipush (v := 7) X.x X.b d_Law_law_627 (by decide) ?_
                        refine lv_icmp_ne (tgt := 642) X.x X.b d_Law_law_629 (by decide) (fun c34 => ?_) (fun c34 => ?_)
                        · skip
                          refine lv_iinc (v := nI (w + 1)) (lv' := [(11, .int (nI (w + 1))), (14, .int 1), (13, .int kd), (12, .int (nI j)), (10, .ref al), (9, .int 0), (8, .int (nI (wnF D cnt))), (7, .int (nI (cnt 0))), (5, .long (dgC D cnt)), (4, .int (nI sp)), (3, .ref B), (2, .ref P), (1, .int (nI ti)), (0, .ref b)]) X.x X.b d_Law_law_642 hl (k := 3) rfl (nI_1 w) (by decide) rfl (fun ls hl => ?_)
                          refine lv_goto (tgt := 466) X.x X.b d_Law_law_645 (by decide) ?_
                          exact ih (w + 1) locs ls (by omega) (by omega) hS (lv_sub hl [0, 4, 5, 6, 7, 8, 9, 10, 11, 12, 13] rfl)
                        · exact absurd (c20.symm.trans c34) (by decide)
                      · exact absurd (c20.symm.trans c33) (by decide)
          · skip
            refine lv_iload X.x X.b d_Law_law_515 (lv_at hl 0 rfl) ?_
            refine lv_if_eq (tgt := 553) X.x X.b d_Law_law_517 (by decide) (fun c35 => ?_) (fun c35 => ?_)
            · exact absurd c35 (by decide)
            · skip
              refine lv_aload X.x X.b d_Law_law_520 (lv_at hl 4 rfl) ?_
              refine lv_iload X.x X.b d_Law_law_522 (lv_at hl 3 rfl) ?_
              refine m_i5 (u := wd) X hal w hw (by omega) rfl hwd d_Law_law_524 ?_
              refine lv_sipush (v := 3100) X.x X.b d_Law_law_525 (by decide) ?_
              refine lv_icmp_eq (tgt := 553) X.x X.b d_Law_law_528 (by decide) (fun c36 => ?_) (fun c36 => ?_)
              · skip
                refine lv_iload X.x X.b d_Law_law_553 (lv_at hl 1 rfl) ?_
                refine lv_iconst (v := 4) X.x X.b d_Law_law_555 (by decide) ?_
                refine lv_icmp_ne (tgt := 597) X.x X.b d_Law_law_556 (by decide) (fun c37 => ?_) (fun c37 => ?_)
                · skip
                  refine lv_iload X.x X.b d_Law_law_597 (lv_at hl 1 rfl) ?_
                  refine lv_iconst (v := 5) X.x X.b d_Law_law_599 (by decide) ?_
                  refine lv_icmp_ne (tgt := 625) X.x X.b d_Law_law_600 (by decide) (fun c38 => ?_) (fun c38 => ?_)
                  · skip
                    refine lv_iload X.x X.b d_Law_law_625 (lv_at hl 1 rfl) ?_
                    refine lv_bipush (v := 7) X.x X.b d_Law_law_627 (by decide) ?_
                    refine lv_icmp_ne (tgt := 642) X.x X.b d_Law_law_629 (by decide) (fun c39 => ?_) (fun c39 => ?_)
                    · skip
                      refine lv_iinc (v := nI (w + 1)) (lv' := [(11, .int (nI (w + 1))), (14, .int 1), (13, .int kd), (12, .int (nI j)), (10, .ref al), (9, .int 0), (8, .int (nI (wnF D cnt))), (7, .int (nI (cnt 0))), (5, .long (dgC D cnt)), (4, .int (nI sp)), (3, .ref B), (2, .ref P), (1, .int (nI ti)), (0, .ref b)]) X.x X.b d_Law_law_642 hl (k := 3) rfl (nI_1 w) (by decide) rfl (fun ls hl => ?_)
                      refine lv_goto (tgt := 466) X.x X.b d_Law_law_645 (by decide) ?_
                      exact ih (w + 1) locs ls (by omega) (by omega) hS (lv_sub hl [0, 4, 5, 6, 7, 8, 9, 10, 11, 12, 13] rfl)
                    · exact absurd (c19.symm.trans c39) (by decide)
                  · exact absurd (c19.symm.trans c38) (by decide)
                · exact absurd (c19.symm.trans c37) (by decide)
              · skip
                refine lv_aload X.x X.b d_Law_law_531 (lv_at hl 4 rfl) ?_
                refine lv_iload X.x X.b d_Law_law_533 (lv_at hl 3 rfl) ?_
                refine m_i5 (u := wd) X hal w hw (by omega) rfl hwd d_Law_law_535 ?_
                refine lv_sipush (v := 3000) X.x X.b d_Law_law_536 (by decide) ?_
                refine lv_icmp_lt (tgt := 640) X.x X.b d_Law_law_539 (by decide) (fun c40 => ?_) (fun c40 => ?_)
                · exact absurd ((h3 (by assumption) (by assumption)).resolve_left (by assumption)).1 (Int32.not_le.mpr c40)
                · skip
                  have c40q := Int32.not_lt.mp c40
                  refine lv_aload X.x X.b d_Law_law_542 (lv_at hl 4 rfl) ?_
                  refine lv_iload X.x X.b d_Law_law_544 (lv_at hl 3 rfl) ?_
                  refine m_i5 (u := wd) X hal w hw (by omega) rfl hwd d_Law_law_546 ?_
                  refine lv_sipush (v := 3015) X.x X.b d_Law_law_547 (by decide) ?_
                  refine lv_icmp_gt (tgt := 640) X.x X.b d_Law_law_550 (by decide) (fun c41 => ?_) (fun c41 => ?_)
                  · exact absurd ((h3 (by assumption) (by assumption)).resolve_left (by assumption)).2 (Int32.not_le.mpr c41)
                  · skip
                    have c41q := Int32.not_lt.mp c41
                    refine lv_iload X.x X.b d_Law_law_553 (lv_at hl 1 rfl) ?_
                    refine lv_iconst (v := 4) X.x X.b d_Law_law_555 (by decide) ?_
                    refine lv_icmp_ne (tgt := 597) X.x X.b d_Law_law_556 (by decide) (fun c42 => ?_) (fun c42 => ?_)
                    · skip
                      refine lv_iload X.x X.b d_Law_law_597 (lv_at hl 1 rfl) ?_
                      refine lv_iconst (v := 5) X.x X.b d_Law_law_599 (by decide) ?_
                      refine lv_icmp_ne (tgt := 625) X.x X.b d_Law_law_600 (by decide) (fun c43 => ?_) (fun c43 => ?_)
                      · skip
                        refine lv_iload X.x X.b d_Law_law_625 (lv_at hl 1 rfl) ?_
                        refine lv_bipush (v := 7) X.x X.b d_Law_law_627 (by decide) ?_
                        refine lv_icmp_ne (tgt := 642) X.x X.b d_Law_law_629 (by decide) (fun c44 => ?_) (fun c44 => ?_)
                        · skip
                          refine lv_iinc (v := nI (w + 1)) (lv' := [(11, .int (nI (w + 1))), (14, .int 1), (13, .int kd), (12, .int (nI j)), (10, .ref al), (9, .int 0), (8, .int (nI (wnF D cnt))), (7, .int (nI (cnt 0))), (5, .long (dgC D cnt)), (4, .int (nI sp)), (3, .ref B), (2, .ref P), (1, .int (nI ti)), (0, .ref b)]) X.x X.b d_Law_law_642 hl (k := 3) rfl (nI_1 w) (by decide) rfl (fun ls hl => ?_)
                          refine lv_goto (tgt := 466) X.x X.b d_Law_law_645 (by decide) ?_
                          exact ih (w + 1) locs ls (by omega) (by omega) hS (lv_sub hl [0, 4, 5, 6, 7, 8, 9, 10, 11, 12, 13] rfl)
                        · exact absurd (c19.symm.trans c44) (by decide)
                      · exact absurd (c19.symm.trans c43) (by decide)
                    · exact absurd (c19.symm.trans c42) (by decide)
  exact lp (wnF D cnt) 0 locs ls rfl (Nat.zero_le _) hS hl
set_option maxRecDepth 100000 in
set_option maxHeartbeats 4000000 in
theorem L3_f {g : GG} {p : Program} {l : Launch} {e : Env} {s : State} {m : MethodId} {below : List Frame} {meth : Method} {c : Code} {H : Heap} {locs : List Loc} {cells slots : Nat} {Q : State → Prop} {nm : String} {ls : Array Slot} {b L P B RA d ti sp cA sA : Nat} {xs : Nat → Int32} {V : Value × Value × Value} {cnt : Nat → Nat} {f : Nat → Nat → Nat} {fR : Nat → Nat} {fL : Nat → Nat → Nat} {D : DT} {Y : YS} (X : CX g p s m #[.ref b] meth c c_Law_law 15 (some .boolean) R_Law nm) (hbs : b < s.heap.size) (hPs : s.heap.size ≤ P) (hPB : P < B) (hx : va_X b L xs s H) (hS : va_S (AA noA s.heap) s.heap H locs) (hF : lawF g P B b RA V d cnt fR fL D H) (hB : bAt g B cnt f D Y H) (hok : OKY D cnt Y) (hG : lnsG D cnt) {al : Nat} {fa : Nat → Int32} (hal : pt g al (.inl (g.2 0, wnF D cnt, .inl fa)) H) (hal0 : B + 287 ≤ al) (hfa : ∀ i, i < wnF D cnt → fa i = wdF (nowF D cnt y00).1 (nowF D cnt y00).2.1 (nI i)) {tf : Nat} (hft : (nowF D cnt y00).2.2.2.1 = nI tf) (ht1 : 1 ≤ tf) (ht6 : tf ≤ 6) (kk : ∀ (H1 : Heap) (locs1 : List Loc) (ls1 : Array Slot) (c1 s1 : Nat) (f1 : Nat → Nat → Nat) (Y1 : YS), lawF g P B b RA V d cnt fR fL D H1 → bAt g B cnt f1 D Y1 H1 → OKY D cnt Y1 → va_X b L xs s H1 → va_S (AA noA s.heap) s.heap H1 locs1 → lv_has ls1 15 [(4, .int (nI sp)), (3, .ref B), (2, .ref P), (1, .int (nI ti)), (0, .ref b)] → c1 ≤ cA → s1 ≤ sA → W p l e (rmK 2000 600064 7301640) s m #[.ref b] below meth c H1 locs1 c1 s1 Q (F0 m 790 ls1 [])) (hmx : cA ≤ 10000 ∧ sA ≤ 400000) (hcs : cells ≤ cA ∧ slots ≤ sA) (hl : lv_has ls 15 [(11, .int 0), (10, .ref al), (9, .int (nI tf)), (8, .int (-1)), (7, .int (nI (cnt 0))), (5, .long (dgC D cnt)), (4, .int (nI sp)), (3, .ref B), (2, .ref P), (1, .int (nI ti)), (0, .ref b)]) : W p l e (rmK 2000 600064 7301640) s m #[.ref b] below meth c H locs cells slots Q (F0 m 466 ls []) := by
  have hyf : Y.2.2.2.1 = nI tf := hok.fn.trans hft
  have hfn : ¬ nI tf = 0 := nI_ne0 ht1 (by omega)
  have hfl : ¬ nI tf ≤ 0 := nI_nle ht1 (by omega)
  have hW0 : wnF D cnt = 0 := (hok.c0 (by rw [hyf]; exact hfn)).2
  refine lv_iload X.x X.b d_Law_law_466 (lv_at hl 0 rfl) ?_
  refine lv_iload X.x X.b d_Law_law_468 (lv_at hl 3 rfl) ?_
  refine lv_icmp_ge (tgt := 648) X.x X.b d_Law_law_470 (by decide) (fun c1 => ?_) (fun c1 => ?_)
  · skip
    have c1q := Int32.not_lt.mpr c1
    exact s648_f X hbs hPs hPB hx hS hF hB hok hG hft ht1 ht6 kk hmx hcs (lv_sub hl [2, 6, 7, 8, 9, 10] rfl)
  · exact absurd c1 (by decide)
set_option maxRecDepth 100000 in
set_option maxHeartbeats 4000000 in
theorem s451_z {g : GG} {p : Program} {l : Launch} {e : Env} {s : State} {m : MethodId} {below : List Frame} {meth : Method} {c : Code} {H : Heap} {locs : List Loc} {cells slots : Nat} {Q : State → Prop} {nm : String} {ls : Array Slot} {b L P B RA d ti sp cA sA : Nat} {xs : Nat → Int32} {V : Value × Value × Value} {cnt : Nat → Nat} {f : Nat → Nat → Nat} {fR : Nat → Nat} {fL : Nat → Nat → Nat} {D : DT} {Y : YS} (X : CX g p s m #[.ref b] meth c c_Law_law 15 (some .boolean) R_Law nm) (hbs : b < s.heap.size) (hPs : s.heap.size ≤ P) (hPB : P < B) (hx : va_X b L xs s H) (hS : va_S (AA noA s.heap) s.heap H locs) (hF : lawF g P B b RA V d cnt fR fL D H) (hB : bAt g B cnt f D Y H) (hok : OKY D cnt Y) (hG : lnsG D cnt) {al : Nat} {fa : Nat → Int32} (hal : pt g al (.inl (g.2 0, wnF D cnt, .inl fa)) H) (hal0 : B + 287 ≤ al) (hfa : ∀ i, i < wnF D cnt → fa i = wdF (nowF D cnt y00).1 (nowF D cnt y00).2.1 (nI i)) (hz : (nowF D cnt y00).2.2.2.1 = 0) (kk : ∀ (H1 : Heap) (locs1 : List Loc) (ls1 : Array Slot) (c1 s1 : Nat) (f1 : Nat → Nat → Nat) (Y1 : YS), lawF g P B b RA V d cnt fR fL D H1 → bAt g B cnt f1 D Y1 H1 → OKY D cnt Y1 → va_X b L xs s H1 → va_S (AA noA s.heap) s.heap H1 locs1 → lv_has ls1 15 [(4, .int (nI sp)), (3, .ref B), (2, .ref P), (1, .int (nI ti)), (0, .ref b)] → c1 ≤ cA → s1 ≤ sA → W p l e (rmK 2000 600064 7301640) s m #[.ref b] below meth c H1 locs1 c1 s1 Q (F0 m 790 ls1 [])) (hmx : cA ≤ 10000 ∧ sA ≤ 400000) (hcs : cells ≤ cA ∧ slots ≤ sA) (hl : lv_has ls 15 [(10, .ref al), (9, .int 0), (8, .int (nI (wnF D cnt))), (7, .int (nI (cnt 0))), (5, .long (dgC D cnt)), (4, .int (nI sp)), (3, .ref B), (2, .ref P), (1, .int (nI ti)), (0, .ref b)]) : W p l e (rmK 2000 600064 7301640) s m #[.ref b] below meth c H locs cells slots Q (F0 m 451 ls []) := by
  have hyf : Y.2.2.2.1 = 0 := hok.fn.trans hz
  have hW20 := (hok.tal3 hG).2
  have hwm : ¬ nI (wnF D cnt) = -1 := nI_m1 (by omega)
  refine lv_aload_n X.x X.b d_Law_law_451 rfl (lv_at hl 6 rfl) ?_
  have hR := M_BP_digest l g hB (hok.tal3 hG).1 (hok.tal3 hG).2 (hok.held hG)
  rw [hok.dgc] at hR
  refine m_callV X hS hR v_Law_28 hB.1 rfl rfl rfl (Nat.le_of_ble_eq_true rfl) hl.1 d_Law_law_452 (by omega) (by decide) ⟨by omega, by omega⟩ (fun q z => z.elim (fun z => by have z : B ≤ q ∧ q < B + 287 := z; exact Or.inr (show s.heap.size ≤ q by omega)) (fun z => Or.inr (Nat.le_trans hS.1 z))) (fun H1 locs hB hfr hS => ?_)
  clear hR
  have hok := hok.dg hG
  have hF := hF.frm hfr (fun q z => z)
  have hx := hx.fr (g := g) hfr (fun z => by have z : B ≤ b ∧ b < B + 287 := z; omega)
  have hal := pt.fr hal hfr (fun z => by have z : B ≤ al ∧ al < B + 287 := z; omega)
  refine lv_lload X.x X.b d_Law_law_455 (lv_at hl 4 rfl) ?_
  refine m_lcmp0 X d_Law_law_457 ?_
  refine lv_if_eq (tgt := 463) X.x X.b d_Law_law_458 (by decide) (fun c1 => ?_) (fun c1 => ?_)
  · skip
    refine lv_iconst (v := 0) X.x X.b d_Law_law_463 (by decide) ?_
    refine lv_istore (lv' := [(11, .int 0), (10, .ref al), (9, .int 0), (8, .int (nI (wnF D cnt))), (7, .int (nI (cnt 0))), (5, .long (dgC D cnt)), (4, .int (nI sp)), (3, .ref B), (2, .ref P), (1, .int (nI ti)), (0, .ref b)]) X.x X.b d_Law_law_464 hl (by decide) rfl (fun ls hl => ?_)
    exact L3_z X hbs hPs hPB hx hS hF hB hok hG hal hal0 hfa hz kk hmx hcs (lv_sub hl [0, 1, 2, 3, 4, 5, 6, 7, 8, 9, 10] rfl)
  · exact absurd rfl c1
set_option maxRecDepth 100000 in
set_option maxHeartbeats 4000000 in
theorem s451_f {g : GG} {p : Program} {l : Launch} {e : Env} {s : State} {m : MethodId} {below : List Frame} {meth : Method} {c : Code} {H : Heap} {locs : List Loc} {cells slots : Nat} {Q : State → Prop} {nm : String} {ls : Array Slot} {b L P B RA d ti sp cA sA : Nat} {xs : Nat → Int32} {V : Value × Value × Value} {cnt : Nat → Nat} {f : Nat → Nat → Nat} {fR : Nat → Nat} {fL : Nat → Nat → Nat} {D : DT} {Y : YS} (X : CX g p s m #[.ref b] meth c c_Law_law 15 (some .boolean) R_Law nm) (hbs : b < s.heap.size) (hPs : s.heap.size ≤ P) (hPB : P < B) (hx : va_X b L xs s H) (hS : va_S (AA noA s.heap) s.heap H locs) (hF : lawF g P B b RA V d cnt fR fL D H) (hB : bAt g B cnt f D Y H) (hok : OKY D cnt Y) (hG : lnsG D cnt) {al : Nat} {fa : Nat → Int32} (hal : pt g al (.inl (g.2 0, wnF D cnt, .inl fa)) H) (hal0 : B + 287 ≤ al) (hfa : ∀ i, i < wnF D cnt → fa i = wdF (nowF D cnt y00).1 (nowF D cnt y00).2.1 (nI i)) {tf : Nat} (hft : (nowF D cnt y00).2.2.2.1 = nI tf) (ht1 : 1 ≤ tf) (ht6 : tf ≤ 6) (kk : ∀ (H1 : Heap) (locs1 : List Loc) (ls1 : Array Slot) (c1 s1 : Nat) (f1 : Nat → Nat → Nat) (Y1 : YS), lawF g P B b RA V d cnt fR fL D H1 → bAt g B cnt f1 D Y1 H1 → OKY D cnt Y1 → va_X b L xs s H1 → va_S (AA noA s.heap) s.heap H1 locs1 → lv_has ls1 15 [(4, .int (nI sp)), (3, .ref B), (2, .ref P), (1, .int (nI ti)), (0, .ref b)] → c1 ≤ cA → s1 ≤ sA → W p l e (rmK 2000 600064 7301640) s m #[.ref b] below meth c H1 locs1 c1 s1 Q (F0 m 790 ls1 [])) (hmx : cA ≤ 10000 ∧ sA ≤ 400000) (hcs : cells ≤ cA ∧ slots ≤ sA) (hl : lv_has ls 15 [(10, .ref al), (9, .int (nI tf)), (8, .int (-1)), (7, .int (nI (cnt 0))), (5, .long (dgC D cnt)), (4, .int (nI sp)), (3, .ref B), (2, .ref P), (1, .int (nI ti)), (0, .ref b)]) : W p l e (rmK 2000 600064 7301640) s m #[.ref b] below meth c H locs cells slots Q (F0 m 451 ls []) := by
  have hyf : Y.2.2.2.1 = nI tf := hok.fn.trans hft
  have hfn : ¬ nI tf = 0 := nI_ne0 ht1 (by omega)
  have hfl : ¬ nI tf ≤ 0 := nI_nle ht1 (by omega)
  have hW0 : wnF D cnt = 0 := (hok.c0 (by rw [hyf]; exact hfn)).2
  refine lv_aload_n X.x X.b d_Law_law_451 rfl (lv_at hl 6 rfl) ?_
  have hR := M_BP_digest l g hB (hok.tal3 hG).1 (hok.tal3 hG).2 (hok.held hG)
  rw [hok.dgc] at hR
  refine m_callV X hS hR v_Law_28 hB.1 rfl rfl rfl (Nat.le_of_ble_eq_true rfl) hl.1 d_Law_law_452 (by omega) (by decide) ⟨by omega, by omega⟩ (fun q z => z.elim (fun z => by have z : B ≤ q ∧ q < B + 287 := z; exact Or.inr (show s.heap.size ≤ q by omega)) (fun z => Or.inr (Nat.le_trans hS.1 z))) (fun H1 locs hB hfr hS => ?_)
  clear hR
  have hok := hok.dg hG
  have hF := hF.frm hfr (fun q z => z)
  have hx := hx.fr (g := g) hfr (fun z => by have z : B ≤ b ∧ b < B + 287 := z; omega)
  have hal := pt.fr hal hfr (fun z => by have z : B ≤ al ∧ al < B + 287 := z; omega)
  refine lv_lload X.x X.b d_Law_law_455 (lv_at hl 4 rfl) ?_
  refine m_lcmp0 X d_Law_law_457 ?_
  refine lv_if_eq (tgt := 463) X.x X.b d_Law_law_458 (by decide) (fun c1 => ?_) (fun c1 => ?_)
  · skip
    refine lv_iconst (v := 0) X.x X.b d_Law_law_463 (by decide) ?_
    refine lv_istore (lv' := [(11, .int 0), (10, .ref al), (9, .int (nI tf)), (8, .int (-1)), (7, .int (nI (cnt 0))), (5, .long (dgC D cnt)), (4, .int (nI sp)), (3, .ref B), (2, .ref P), (1, .int (nI ti)), (0, .ref b)]) X.x X.b d_Law_law_464 hl (by decide) rfl (fun ls hl => ?_)
    exact L3_f X hbs hPs hPB hx hS hF hB hok hG hal hal0 hfa hft ht1 ht6 kk hmx hcs (lv_sub hl [0, 1, 2, 3, 4, 5, 6, 7, 8, 9, 10] rfl)
  · exact absurd rfl c1
