-- DIGEST AND MEANSIZE
section ENDS
variable {g : GG} {p : Program} {l : Launch} {e : Env} {R : Room} {s : State} {m : MethodId} {args : Array Value} {below : List Frame} {meth : Method} {c : Code} {H : Heap} {locs : List Loc} {cells slots : Nat}
variable {cc : ByteArray} {nL : Nat} {own nm : String} {pc : Nat} {ls : Array Slot}
theorem m_lret (X : CX g p s m args meth c cc nL (some .long) own nm) {mc ms : Nat} {A : Nat → Prop} {H0 : Heap} {v0 : Option Value} {Pq : Heap → Prop} (hS : va_S (AA A H0) H0 H locs) (hc : cells ≤ mc) (hs : slots ≤ ms) {v : Int64} (hdg : decode cc pc = .ok (.lreturn, 1)) (hv0 : some (.long v) = v0) (hq : Pq H) : W p l e R s m args below meth c H locs cells slots (MQ below (QM v0 Pq A H0) args s mc ms (AA A H0)) (F0 m pc ls [.long v]) := by
  refine W.widen hc hs ?_
  exact W.lret X.x X.b X.r (fun t ht _ => ⟨by rw [hv0], by rw [ht]; exact hq, by rw [ht]; exact hS.fr'⟩) hS.2.2 hdg X.locks
theorem m_dret (X : CX g p s m args meth c cc nL (some .double) own nm) {mc ms : Nat} {A : Nat → Prop} {H0 : Heap} {v0 : Option Value} {Pq : Heap → Prop} (hS : va_S (AA A H0) H0 H locs) (hc : cells ≤ mc) (hs : slots ≤ ms) {v : UInt64} (hdg : decode cc pc = .ok (.dreturn, 1)) (hv0 : some (.double v) = v0) (hq : Pq H) : W p l e R s m args below meth c H locs cells slots (MQ below (QM v0 Pq A H0) args s mc ms (AA A H0)) (F0 m pc ls [.double v]) := by
  refine W.widen hc hs ?_
  exact W.dret X.x X.b X.r (fun t ht _ => ⟨by rw [hv0], by rw [ht]; exact hq, by rw [ht]; exact hS.fr'⟩) hS.2.2 hdg X.locks
end ENDS
/-- d * 31 + v for each v of a row -/
def dgL (f : Nat → Int32) : Nat → Nat → Int64 → Int64
  | 0, _, d => d
  | n + 1, i, d => dgL f n (i + 1) (d * 31 + (f i).toInt64)
def dgI (S : IS) : Nat → Nat → Int64 → Int64
  | 0, _, d => d
  | n + 1, i, d => dgI S n (i + 1) (dgL (fun t => ofiF S i (nI t)) 8 0 d)
def wdF (S : IS) (c : Nat) (ad : Int32) : Int32 := match iaO c (hof S ad c 0) with | none => 0 | some j => woF S c j (ad - S.1 12 j)
/-- every address of a word is some ITEM's -/
def heldF (S : IS) (c W : Nat) : Prop := ∀ a, a < W → ∃ j, iaO c (hof S (nI a) c 0) = some j
def dgO (y : YS) (W : Nat) (d : Int64) : Int64 :=
  dgL (fun x => valN y (nI x)) 8 0 (dgL (fun a => wdF y.1 y.2.1 (nI a)) W 0 (dgI y.1 y.2.1 0 d)) * 31 + (cnl y.2.1 y.2.1 0 y.1 0).2.toInt64
def y00 : YS := (IS0, 0, 0, 0, -1, 0)
def wwF (cnt : Nat → Nat) (D : DT) (k : Nat) : Int32 := wofF (asmF (va_up D 0 (remF (D 0) k)) (va_up cnt 0 (cnt 0 - 1)) y00)
def dgM (cnt : Nat → Nat) (D : DT) (y : YS) : Int64 :=
  dgL (wwF cnt D) (cnt 0) 0 ((dgL (fun t => manF cnt y (nI t)) 12 0 7619 * 31 + y.2.2.2.1.toInt64) * 31 + y.2.2.2.2.1.toInt64)
def dgF (cnt : Nat → Nat) (D : DT) (y : YS) (W : Nat) : Int64 := if y.2.2.2.1 = 0 then dgO y W (dgM cnt D y) else dgM cnt D y
/-- the press's own half behind a digest -/
def dgY (y : YS) : YS := if y.2.2.2.1 = 0 then ((cnl y.2.1 y.2.1 0 y.1 0).1, y.2) else y
-- not reached: BP_meanSize
set_option maxRecDepth 100000 in
set_option maxHeartbeats 4000000 in
theorem M_BP_digestOfItems (l : Launch) (g : GG) {B : Nat} {cnt : Nat → Nat} {f : Nat → Nat → Nat} {D : DT} {y : YS} {H0 : Heap} (hb : bAt g B cnt f D y H0) {Wn : Nat} (hW : tal y.1 3 y.2.1 0 0 = nI Wn) (hW31 : Wn < 20000) (hheld : heldF y.1 y.2.1 Wn) (hf : y.2.2.2.1 = 0) (d0 : Int64) : MM l y_BP_digestOfItems c_BP_digestOfItems 7 (some .long) 5 0 0 g H0 [.ref B, .long d0] (fun q => B + 13 + 1 ≤ q ∧ q < B + 13 + 1 + 123) (some (.long (dgO y Wn d0))) (fun H1 => bAt g B cnt f D ((cnl y.2.1 y.2.1 0 y.1 0).1, y.2) H1) := by
  refine MM.of (by decide +kernel) (Nat.le_of_ble_eq_true rfl) ?_
  intro p e s m below meth cd X hH ls hl
  have X : CX g p s m _ meth cd c_BP_digestOfItems 7 (some .long) R_BP _ := X
  have hl : lv_has ls 7 [(0, .ref B), (1, .long d0)] := hl
  have hS : va_S (AA (fun q => B + 13 + 1 ≤ q ∧ q < B + 13 + 1 + 123) H0) H0 H0 [] := va_S.rf
  have hb0 := hb
  obtain ⟨hB, hy, hqk, cnt2, f2, D2, y2, hO⟩ := hb
  obtain ⟨S, c, qd, fn, fl, rd⟩ := y
  obtain ⟨hA, hP, ⟨Qf, hQ⟩, ⟨ex, ef, em, hE⟩, hI, ⟨N, hN⟩, hs, hcc, hly, hlw, hhw⟩ := hy
  have hA : asAt g (B + 13) qd fn fl rd H0 := hA
  have hI : iAt g (B + 13 + 1) c S H0 := hI
  have hcc : c ≤ 121 := hcc
  have hf0 : fn = 0 := hf
  have hheld : heldF S c Wn := hheld
  have hW : tal S 3 c 0 0 = nI Wn := hW
  refine lv_lload_n X.x X.b d_BP_digestOfItems_0 rfl (lv_at hl 1 rfl) ?_
  refine lv_lstore_n (lv' := [(3, .long d0), (0, .ref B), (1, .long d0)]) X.x X.b d_BP_digestOfItems_1 rfl hl (by decide) rfl (fun ls hl => ?_)
  refine lv_iconst (v := 0) X.x X.b d_BP_digestOfItems_2 (by decide) ?_
  refine lv_istore (lv' := [(5, .int 0), (3, .long d0), (0, .ref B), (1, .long d0)]) X.x X.b d_BP_digestOfItems_3 hl (by decide) rfl (fun ls hl => ?_)
  have lp : ∀ (n i : Nat) (u : Int64), n = c - i → i < 5000 → (dgI S n i u = dgI S c 0 d0) → ∀ (locs : List Loc) (ls : Array Slot), va_S (AA (fun q => B + 13 + 1 ≤ q ∧ q < B + 13 + 1 + 123) H0) H0 H0 locs → lv_has ls 7 [(0, .ref B), (1, .long d0), (3, .long u), (5, .int (nI i))] → W p l e (rmK 5 0 0) s m ([.ref B, .long d0] : List Value).toArray below meth cd H0 locs 0 0 (MQ below (QM (some (.long (dgO (S, c, qd, fn, fl, rd) Wn d0))) (fun H1 => bAt g B cnt f D ((cnl c c 0 S 0).1, (S, c, qd, fn, fl, rd).2) H1) (fun q => B + 13 + 1 ≤ q ∧ q < B + 13 + 1 + 123) H0) ([.ref B, .long d0] : List Value).toArray s 0 0 (AA (fun q => B + 13 + 1 ≤ q ∧ q < B + 13 + 1 + 123) H0)) (F0 m 5 ls []) := by
    intro n
    induction n with
    | zero =>
      intro i u hin hi5 hV1 locs ls hS hl
      refine lv_iload X.x X.b d_BP_digestOfItems_5 (lv_at hl 3 rfl) ?_
      refine lv_aload_n X.x X.b d_BP_digestOfItems_7 rfl (lv_at hl 0 rfl) ?_
      refine m_get (v := .ref (B + 13)) X ok_BP hB 1 (by decide) k_BP_23 rfl d_BP_digestOfItems_8 ?_
      refine m_get (v := .ref (B + 13 + 1)) X ok_Assembly hA 0 (by decide) k_BP_147 rfl d_BP_digestOfItems_11 ?_
      refine m_get (v := .int (nI c)) X ok_Items hI.1 1 (by decide) k_BP_166 rfl d_BP_digestOfItems_14 ?_
      refine lv_icmp_ge (tgt := 58) X.x X.b d_BP_digestOfItems_17 (by decide) (fun c1 => ?_) (fun c1 => ?_)
      · skip
        have c1q := Int32.not_lt.mpr c1
        refine lv_aload_n X.x X.b d_BP_digestOfItems_58 rfl (lv_at hl 0 rfl) ?_
        refine m_get (v := .ref (B + 13)) X ok_BP hB 1 (by decide) k_BP_23 rfl d_BP_digestOfItems_59 ?_
        refine m_get (v := .ref (B + 13 + 1)) X ok_Assembly hA 0 (by decide) k_BP_147 rfl d_BP_digestOfItems_62 ?_
        refine lv_iconst (v := 3) X.x X.b d_BP_digestOfItems_65 (by decide) ?_
        refine m_callP X hS (show MP l y_Items_tally c_Items_tally 4 (some .int) 2 g _ [.ref (B + 13 + 1), .int 3] (some (.int (nI Wn))) from (by have z := M_Items_tally l g hI hcc 3; rw [hW] at z; exact z)) v_BP_185 hI.1 rfl rfl rfl (Nat.le_of_ble_eq_true rfl) hl.1 d_BP_digestOfItems_66 (by omega) (by decide) ⟨Nat.zero_le _, Nat.zero_le _⟩ (fun locs hS => ?_)
        refine lv_istore (lv' := [(5, .int (nI Wn)), (0, .ref B), (1, .long d0), (3, .long u)]) X.x X.b d_BP_digestOfItems_69 hl (by decide) rfl (fun ls hl => ?_)
        refine lv_iconst (v := 0) X.x X.b d_BP_digestOfItems_71 (by decide) ?_
        refine lv_istore (lv' := [(6, .int 0), (5, .int (nI Wn)), (0, .ref B), (1, .long d0), (3, .long u)]) X.x X.b d_BP_digestOfItems_72 hl (by decide) rfl (fun ls hl => ?_)
        have lp3 : ∀ (n3 i : Nat) (v : Int64), n3 = Wn - i → i < 20000 → (dgL (fun a => wdF S c (nI a)) n3 i v = dgL (fun a => wdF S c (nI a)) Wn 0 u) → ∀ (locs : List Loc) (ls : Array Slot), va_S (AA (fun q => B + 13 + 1 ≤ q ∧ q < B + 13 + 1 + 123) H0) H0 H0 locs → lv_has ls 7 [(0, .ref B), (1, .long d0), (3, .long v), (5, .int (nI Wn)), (6, .int (nI i))] → W p l e (rmK 5 0 0) s m ([.ref B, .long d0] : List Value).toArray below meth cd H0 locs 0 0 (MQ below (QM (some (.long (dgO (S, c, qd, fn, fl, rd) Wn d0))) (fun H1 => bAt g B cnt f D ((cnl c c 0 S 0).1, (S, c, qd, fn, fl, rd).2) H1) (fun q => B + 13 + 1 ≤ q ∧ q < B + 13 + 1 + 123) H0) ([.ref B, .long d0] : List Value).toArray s 0 0 (AA (fun q => B + 13 + 1 ≤ q ∧ q < B + 13 + 1 + 123) H0)) (F0 m 74 ls []) := by
          intro n3
          induction n3 with
          | zero =>
            intro i v hin3 hi53 hV3 locs ls hS hl
            refine lv_iload X.x X.b d_BP_digestOfItems_74 (lv_at hl 4 rfl) ?_
            refine lv_iload X.x X.b d_BP_digestOfItems_76 (lv_at hl 3 rfl) ?_
            refine lv_icmp_ge (tgt := 101) X.x X.b d_BP_digestOfItems_78 (by decide) (fun c2 => ?_) (fun c2 => ?_)
            · skip
              have c2q := Int32.not_lt.mpr c2
              refine lv_iconst (v := 0) X.x X.b d_BP_digestOfItems_101 (by decide) ?_
              refine lv_istore (lv' := [(6, .int 0), (0, .ref B), (1, .long d0), (3, .long v), (5, .int (nI Wn))]) X.x X.b d_BP_digestOfItems_102 hl (by decide) rfl (fun ls hl => ?_)
              have lp4 : ∀ (n4 i : Nat) (z : Int64), n4 = 8 - i → i < 5000 → (dgL (fun x => valN (S, c, qd, fn, fl, rd) (nI x)) n4 i z = dgL (fun x => valN (S, c, qd, fn, fl, rd) (nI x)) 8 0 v) → ∀ (locs : List Loc) (ls : Array Slot), va_S (AA (fun q => B + 13 + 1 ≤ q ∧ q < B + 13 + 1 + 123) H0) H0 H0 locs → lv_has ls 7 [(0, .ref B), (1, .long d0), (3, .long z), (5, .int (nI Wn)), (6, .int (nI i))] → W p l e (rmK 5 0 0) s m ([.ref B, .long d0] : List Value).toArray below meth cd H0 locs 0 0 (MQ below (QM (some (.long (dgO (S, c, qd, fn, fl, rd) Wn d0))) (fun H1 => bAt g B cnt f D ((cnl c c 0 S 0).1, (S, c, qd, fn, fl, rd).2) H1) (fun q => B + 13 + 1 ≤ q ∧ q < B + 13 + 1 + 123) H0) ([.ref B, .long d0] : List Value).toArray s 0 0 (AA (fun q => B + 13 + 1 ≤ q ∧ q < B + 13 + 1 + 123) H0)) (F0 m 104 ls []) := by
                intro n4
                induction n4 with
                | zero =>
                  intro i z hin4 hi54 hV4 locs ls hS hl
                  refine lv_iload X.x X.b d_BP_digestOfItems_104 (lv_at hl 4 rfl) ?_
                  refine lv_bipush (v := 8) X.x X.b d_BP_digestOfItems_106 (by decide) ?_
                  refine lv_icmp_ge (tgt := 131) X.x X.b d_BP_digestOfItems_108 (by decide) (fun c3 => ?_) (fun c3 => ?_)
                  · skip
                    have c3q := Int32.not_lt.mpr c3
                    refine lv_lload_n X.x X.b d_BP_digestOfItems_131 rfl (lv_at hl 2 rfl) ?_
                    refine lv_ldc2 (v := (31 : Int64)) X.x X.b X.wn (X.ts _ (LW_t 498 (by decide +kernel) (by decide +kernel))) d_BP_digestOfItems_132 ?_
                    refine lv_lmul X.x X.b d_BP_digestOfItems_135 ?_
                    refine lv_aload_n X.x X.b d_BP_digestOfItems_136 rfl (lv_at hl 0 rfl) ?_
                    have hR := M_BP_wrongly (y := (S, c, qd, fn, fl, rd)) l g hb0
                    refine m_callM X hS hR v_BP_237 hB rfl rfl rfl (Nat.le_of_ble_eq_true rfl) hl.1 d_BP_digestOfItems_137 (by omega) (by decide) ⟨Nat.zero_le _, Nat.zero_le _⟩ (fun q z => z) (fun H locs hb hfr hS => ?_)
                    refine lv_i2l (v := ((cnl c c 0 S 0).2).toInt64) X.x X.b d_BP_digestOfItems_140 rfl ?_
                    refine lv_ladd X.x X.b d_BP_digestOfItems_141 ?_
                    exact m_lret X hS (Nat.zero_le _) (Nat.zero_le _) d_BP_digestOfItems_142 (congrArg (fun z => some (Value.long z)) (by have e4 : z = _ := hV4; have e3 : v = _ := hV3; have e1 : u = _ := hV1; rw [e4, e3, e1]; rfl)) hb
                  · exact absurd ((nI_leI (a := 8) (b := i) (by omega) (by omega)).mpr (by omega)) c3
                | succ n4 ih4 =>
                  intro i z hin4 hi54 hV4 locs ls hS hl
                  refine lv_iload X.x X.b d_BP_digestOfItems_104 (lv_at hl 4 rfl) ?_
                  refine lv_bipush (v := 8) X.x X.b d_BP_digestOfItems_106 (by decide) ?_
                  refine lv_icmp_ge (tgt := 131) X.x X.b d_BP_digestOfItems_108 (by decide) (fun c4 => ?_) (fun c4 => ?_)
                  · exact absurd ((nI_leI (a := 8) (b := i) (by omega) (by omega)).mp c4) (by omega)
                  · skip
                    have c4q := Int32.not_le.mp c4
                    refine lv_lload_n X.x X.b d_BP_digestOfItems_111 rfl (lv_at hl 2 rfl) ?_
                    refine lv_ldc2 (v := (31 : Int64)) X.x X.b X.wn (X.ts _ (LW_t 498 (by decide +kernel) (by decide +kernel))) d_BP_digestOfItems_112 ?_
                    refine lv_lmul X.x X.b d_BP_digestOfItems_115 ?_
                    refine lv_aload_n X.x X.b d_BP_digestOfItems_116 rfl (lv_at hl 0 rfl) ?_
                    refine lv_iload X.x X.b d_BP_digestOfItems_117 (lv_at hl 4 rfl) ?_
                    have hR := M_BP_value (y := (S, c, qd, fn, fl, rd)) (x := nI i) l g hb0 hf0 (nI_pos (by omega)) (nI_lt (b := 8) (by omega) (by omega))
                    refine m_callP X hS hR v_BP_234 hB rfl rfl rfl (Nat.le_of_ble_eq_true rfl) hl.1 d_BP_digestOfItems_119 (by omega) (by decide) ⟨Nat.zero_le _, Nat.zero_le _⟩ (fun locs hS => ?_)
                    refine lv_i2l (v := (valN (S, c, qd, fn, fl, rd) (nI i)).toInt64) X.x X.b d_BP_digestOfItems_122 rfl ?_
                    refine lv_ladd X.x X.b d_BP_digestOfItems_123 ?_
                    refine lv_lstore_n (lv' := [(3, .long ((z * 31) + ((valN (S, c, qd, fn, fl, rd) (nI i)).toInt64))), (0, .ref B), (1, .long d0), (5, .int (nI Wn)), (6, .int (nI i))]) X.x X.b d_BP_digestOfItems_124 rfl hl (by decide) rfl (fun ls hl => ?_)
                    refine lv_iinc (v := nI (i + 1)) (lv' := [(6, .int (nI (i + 1))), (3, .long ((z * 31) + ((valN (S, c, qd, fn, fl, rd) (nI i)).toInt64))), (0, .ref B), (1, .long d0), (5, .int (nI Wn))]) X.x X.b d_BP_digestOfItems_125 hl (k := 4) rfl (nI_1 i) (by decide) rfl (fun ls hl => ?_)
                    refine lv_goto (tgt := 104) X.x X.b d_BP_digestOfItems_128 (by decide) ?_
                    exact ih4 (i + 1) ((z * 31) + ((valN (S, c, qd, fn, fl, rd) (nI i)).toInt64)) (by omega) (by omega) (by rw [← hV4]; rfl) _ _ hS (lv_sub hl [2, 3, 1, 4, 0] rfl)
              exact lp4 8 0 v (by omega) (by omega) (rfl) _ _ hS (lv_sub hl [1, 2, 3, 4, 0] rfl)
            · exact absurd ((nI_leI (a := Wn) (b := i) (by omega) (by omega)).mpr (by omega)) c2
          | succ n3 ih3 =>
            intro i v hin3 hi53 hV3 locs ls hS hl
            refine lv_iload X.x X.b d_BP_digestOfItems_74 (lv_at hl 4 rfl) ?_
            refine lv_iload X.x X.b d_BP_digestOfItems_76 (lv_at hl 3 rfl) ?_
            refine lv_icmp_ge (tgt := 101) X.x X.b d_BP_digestOfItems_78 (by decide) (fun c5 => ?_) (fun c5 => ?_)
            · exact absurd ((nI_leI (a := Wn) (b := i) (by omega) (by omega)).mp c5) (by omega)
            · skip
              have c5q := Int32.not_le.mp c5
              refine lv_lload_n X.x X.b d_BP_digestOfItems_81 rfl (lv_at hl 2 rfl) ?_
              refine lv_ldc2 (v := (31 : Int64)) X.x X.b X.wn (X.ts _ (LW_t 498 (by decide +kernel) (by decide +kernel))) d_BP_digestOfItems_82 ?_
              refine lv_lmul X.x X.b d_BP_digestOfItems_85 ?_
              refine lv_aload_n X.x X.b d_BP_digestOfItems_86 rfl (lv_at hl 0 rfl) ?_
              refine lv_iload X.x X.b d_BP_digestOfItems_87 (lv_at hl 4 rfl) ?_
              obtain ⟨j, hj⟩ := hheld i (by omega)
              have hR := M_BP_word (y := (S, c, qd, fn, fl, rd)) (ad := nI i) (j := j) l g hb0 hj
              rw [show woF (S, c, qd, fn, fl, rd).1 (S, c, qd, fn, fl, rd).2.1 j (nI i - (S, c, qd, fn, fl, rd).1.1 12 j) = wdF S c (nI i) from by unfold wdF; rw [show iaO c (hof S (nI i) c 0) = some j from hj]] at hR
              refine m_callP X hS hR v_BP_231 hB rfl rfl rfl (Nat.le_of_ble_eq_true rfl) hl.1 d_BP_digestOfItems_89 (by omega) (by decide) ⟨Nat.zero_le _, Nat.zero_le _⟩ (fun locs hS => ?_)
              refine lv_i2l (v := (wdF S c (nI i)).toInt64) X.x X.b d_BP_digestOfItems_92 rfl ?_
              refine lv_ladd X.x X.b d_BP_digestOfItems_93 ?_
              refine lv_lstore_n (lv' := [(3, .long ((v * 31) + ((wdF S c (nI i)).toInt64))), (0, .ref B), (1, .long d0), (5, .int (nI Wn)), (6, .int (nI i))]) X.x X.b d_BP_digestOfItems_94 rfl hl (by decide) rfl (fun ls hl => ?_)
              refine lv_iinc (v := nI (i + 1)) (lv' := [(6, .int (nI (i + 1))), (3, .long ((v * 31) + ((wdF S c (nI i)).toInt64))), (0, .ref B), (1, .long d0), (5, .int (nI Wn))]) X.x X.b d_BP_digestOfItems_95 hl (k := 4) rfl (nI_1 i) (by decide) rfl (fun ls hl => ?_)
              refine lv_goto (tgt := 74) X.x X.b d_BP_digestOfItems_98 (by decide) ?_
              exact ih3 (i + 1) ((v * 31) + ((wdF S c (nI i)).toInt64)) (by omega) (by omega) (by rw [← hV3]; rfl) _ _ hS (lv_sub hl [2, 3, 1, 4, 0] rfl)
        exact lp3 Wn 0 u (by omega) (by omega) (rfl) _ _ hS (lv_sub hl [2, 3, 4, 1, 0] rfl)
      · exact absurd ((nI_leI (a := c) (b := i) (by omega) (by omega)).mpr (by omega)) c1
    | succ n ih =>
      intro i u hin hi5 hV1 locs ls hS hl
      refine lv_iload X.x X.b d_BP_digestOfItems_5 (lv_at hl 3 rfl) ?_
      refine lv_aload_n X.x X.b d_BP_digestOfItems_7 rfl (lv_at hl 0 rfl) ?_
      refine m_get (v := .ref (B + 13)) X ok_BP hB 1 (by decide) k_BP_23 rfl d_BP_digestOfItems_8 ?_
      refine m_get (v := .ref (B + 13 + 1)) X ok_Assembly hA 0 (by decide) k_BP_147 rfl d_BP_digestOfItems_11 ?_
      refine m_get (v := .int (nI c)) X ok_Items hI.1 1 (by decide) k_BP_166 rfl d_BP_digestOfItems_14 ?_
      refine lv_icmp_ge (tgt := 58) X.x X.b d_BP_digestOfItems_17 (by decide) (fun c6 => ?_) (fun c6 => ?_)
      · exact absurd ((nI_leI (a := c) (b := i) (by omega) (by omega)).mp c6) (by omega)
      · skip
        have c6q := Int32.not_le.mp c6
        refine lv_iconst (v := 0) X.x X.b d_BP_digestOfItems_20 (by decide) ?_
        refine lv_istore (lv' := [(6, .int 0), (0, .ref B), (1, .long d0), (3, .long u), (5, .int (nI i))]) X.x X.b d_BP_digestOfItems_21 hl (by decide) rfl (fun ls hl => ?_)
        have lp2 : ∀ (n2 t : Nat) (v : Int64), n2 = 8 - t → t < 5000 → (dgL (fun t => ofiF S i (nI t)) n2 t v = dgL (fun t => ofiF S i (nI t)) 8 0 u) → ∀ (locs : List Loc) (ls : Array Slot), va_S (AA (fun q => B + 13 + 1 ≤ q ∧ q < B + 13 + 1 + 123) H0) H0 H0 locs → lv_has ls 7 [(0, .ref B), (1, .long d0), (3, .long v), (5, .int (nI i)), (6, .int (nI t))] → W p l e (rmK 5 0 0) s m ([.ref B, .long d0] : List Value).toArray below meth cd H0 locs 0 0 (MQ below (QM (some (.long (dgO (S, c, qd, fn, fl, rd) Wn d0))) (fun H1 => bAt g B cnt f D ((cnl c c 0 S 0).1, (S, c, qd, fn, fl, rd).2) H1) (fun q => B + 13 + 1 ≤ q ∧ q < B + 13 + 1 + 123) H0) ([.ref B, .long d0] : List Value).toArray s 0 0 (AA (fun q => B + 13 + 1 ≤ q ∧ q < B + 13 + 1 + 123) H0)) (F0 m 23 ls []) := by
          intro n2
          induction n2 with
          | zero =>
            intro t v hin2 ht5 hV2 locs ls hS hl
            refine lv_iload X.x X.b d_BP_digestOfItems_23 (lv_at hl 4 rfl) ?_
            refine lv_bipush (v := 7) X.x X.b d_BP_digestOfItems_25 (by decide) ?_
            refine lv_icmp_gt (tgt := 52) X.x X.b d_BP_digestOfItems_27 (by decide) (fun c7 => ?_) (fun c7 => ?_)
            · skip
              have c7q := Int32.not_le.mpr c7
              refine lv_iinc (v := nI (i + 1)) (lv' := [(5, .int (nI (i + 1))), (0, .ref B), (1, .long d0), (3, .long v), (6, .int (nI t))]) X.x X.b d_BP_digestOfItems_52 hl (k := 3) rfl (nI_1 i) (by decide) rfl (fun ls hl => ?_)
              refine lv_goto (tgt := 5) X.x X.b d_BP_digestOfItems_55 (by decide) ?_
              exact ih (i + 1) v (by omega) (by omega) (by rw [← hV1]; show dgI S n (i + 1) _ = dgI S n (i + 1) _; rw [← hV2]; rfl) _ _ hS (lv_sub hl [1, 2, 3, 0] rfl)
            · exact absurd ((nI_ltI (a := 7) (b := t) (by omega) (by omega)).mpr (by omega)) c7
          | succ n2 ih2 =>
            intro t v hin2 ht5 hV2 locs ls hS hl
            refine lv_iload X.x X.b d_BP_digestOfItems_23 (lv_at hl 4 rfl) ?_
            refine lv_bipush (v := 7) X.x X.b d_BP_digestOfItems_25 (by decide) ?_
            refine lv_icmp_gt (tgt := 52) X.x X.b d_BP_digestOfItems_27 (by decide) (fun c8 => ?_) (fun c8 => ?_)
            · exact absurd ((nI_ltI (a := 7) (b := t) (by omega) (by omega)).mp c8) (by omega)
            · skip
              have c8q := Int32.not_lt.mp c8
              refine lv_lload_n X.x X.b d_BP_digestOfItems_30 rfl (lv_at hl 2 rfl) ?_
              refine lv_ldc2 (v := (31 : Int64)) X.x X.b X.wn (X.ts _ (LW_t 498 (by decide +kernel) (by decide +kernel))) d_BP_digestOfItems_31 ?_
              refine lv_lmul X.x X.b d_BP_digestOfItems_34 ?_
              refine lv_aload_n X.x X.b d_BP_digestOfItems_35 rfl (lv_at hl 0 rfl) ?_
              refine lv_iload X.x X.b d_BP_digestOfItems_36 (lv_at hl 3 rfl) ?_
              refine lv_iload X.x X.b d_BP_digestOfItems_38 (lv_at hl 4 rfl) ?_
              have hR := M_BP_ofItem (y := (S, c, qd, fn, fl, rd)) (it := nI i) (j := i) (wt := nI t) l g hb0 (show iaO c (nI i) = some i from iaO_in (by omega) (by omega)) (by rcases (show t = 0 ∨ t = 1 ∨ t = 2 ∨ t = 3 ∨ t = 4 ∨ t = 5 ∨ t = 6 ∨ t = 7 by omega) with rfl | rfl | rfl | rfl | rfl | rfl | rfl | rfl <;> simp [nI])
              refine m_callP X hS hR v_BP_228 hB rfl rfl rfl (Nat.le_of_ble_eq_true rfl) hl.1 d_BP_digestOfItems_40 (by omega) (by decide) ⟨Nat.zero_le _, Nat.zero_le _⟩ (fun locs hS => ?_)
              refine lv_i2l (v := (ofiF S i (nI t)).toInt64) X.x X.b d_BP_digestOfItems_43 rfl ?_
              refine lv_ladd X.x X.b d_BP_digestOfItems_44 ?_
              refine lv_lstore_n (lv' := [(3, .long ((v * 31) + ((ofiF S i (nI t)).toInt64))), (0, .ref B), (1, .long d0), (5, .int (nI i)), (6, .int (nI t))]) X.x X.b d_BP_digestOfItems_45 rfl hl (by decide) rfl (fun ls hl => ?_)
              refine lv_iinc (v := nI (t + 1)) (lv' := [(6, .int (nI (t + 1))), (3, .long ((v * 31) + ((ofiF S i (nI t)).toInt64))), (0, .ref B), (1, .long d0), (5, .int (nI i))]) X.x X.b d_BP_digestOfItems_46 hl (k := 4) rfl (nI_1 t) (by decide) rfl (fun ls hl => ?_)
              refine lv_goto (tgt := 23) X.x X.b d_BP_digestOfItems_49 (by decide) ?_
              exact ih2 (t + 1) ((v * 31) + ((ofiF S i (nI t)).toInt64)) (by omega) (by omega) (by rw [← hV2]; rfl) _ _ hS (lv_sub hl [2, 3, 1, 4, 0] rfl)
        exact lp2 8 0 u (by omega) (by omega) (rfl) _ _ hS (lv_sub hl [1, 2, 3, 4, 0] rfl)
  exact lp c 0 d0 (by omega) (by omega) (rfl) _ _ hS (lv_sub hl [2, 3, 1, 0] rfl)
set_option maxRecDepth 100000 in
set_option maxHeartbeats 4000000 in
theorem M_BP_digest (l : Launch) (g : GG) {B : Nat} {cnt : Nat → Nat} {f : Nat → Nat → Nat} {D : DT} {y : YS} {H0 : Heap} (hb : bAt g B cnt f D y H0) {Wn : Nat} (hW : tal y.1 3 y.2.1 0 0 = nI Wn) (hW31 : Wn < 20000) (hheld : y.2.2.2.1 = 0 → heldF y.1 y.2.1 Wn) : MM l y_BP_digest c_BP_digest 5 (some .long) 22 0 0 g H0 [.ref B] (fun q => B ≤ q ∧ q < B + 287) (some (.long (dgF cnt D y Wn))) (fun H1 => bAt g B cnt f D (dgY y) H1) := by
  refine MM.of (by decide +kernel) (Nat.le_of_ble_eq_true rfl) ?_
  intro p e s m below meth cd X hH ls hl
  have X : CX g p s m _ meth cd c_BP_digest 5 (some .long) R_BP _ := X
  have hl : lv_has ls 5 [(0, .ref B)] := hl
  have hS : va_S (AA (fun q => B ≤ q ∧ q < B + 287) H0) H0 H0 [] := va_S.rf
  have h40 : cnt 0 ≤ 60 := hb.2.1.s.cap 0 (by omega)
  refine lv_ldc2 (v := (7619 : Int64)) X.x X.b X.wn (X.ts _ (LW_t 497 (by decide +kernel) (by decide +kernel))) d_BP_digest_0 ?_
  refine lv_lstore_n (lv' := [(1, .long 7619), (0, .ref B)]) X.x X.b d_BP_digest_3 rfl hl (by decide) rfl (fun ls hl => ?_)
  refine lv_iconst (v := 0) X.x X.b d_BP_digest_4 (by decide) ?_
  refine lv_istore_n (lv' := [(3, .int 0), (1, .long 7619), (0, .ref B)]) X.x X.b d_BP_digest_5 rfl hl (by decide) rfl (fun ls hl => ?_)
  have lp : ∀ (n i : Nat) (u : Int64), n = 12 - i → i < 5000 → (dgL (fun t => manF cnt y (nI t)) n i u = dgL (fun t => manF cnt y (nI t)) 12 0 7619) → ∀ (locs : List Loc) (ls : Array Slot), va_S (AA (fun q => B ≤ q ∧ q < B + 287) H0) H0 H0 locs → lv_has ls 5 [(0, .ref B), (1, .long u), (3, .int (nI i))] → W p l e (rmK 22 0 0) s m ([.ref B] : List Value).toArray below meth cd H0 locs 0 0 (MQ below (QM (some (.long (dgF cnt D y Wn))) (fun H1 => bAt g B cnt f D (dgY y) H1) (fun q => B ≤ q ∧ q < B + 287) H0) ([.ref B] : List Value).toArray s 0 0 (AA (fun q => B ≤ q ∧ q < B + 287) H0)) (F0 m 6 ls []) := by
    intro n
    induction n with
    | zero =>
      intro i u hin hi5 hV1 locs ls hS hl
      refine lv_iload_n X.x X.b d_BP_digest_6 rfl (lv_at hl 2 rfl) ?_
      refine lv_bipush (v := 11) X.x X.b d_BP_digest_7 (by decide) ?_
      refine lv_icmp_gt (tgt := 31) X.x X.b d_BP_digest_9 (by decide) (fun c1 => ?_) (fun c1 => ?_)
      · skip
        have c1q := Int32.not_le.mpr c1
        refine lv_lload_n X.x X.b d_BP_digest_31 rfl (lv_at hl 1 rfl) ?_
        refine lv_ldc2 (v := (31 : Int64)) X.x X.b X.wn (X.ts _ (LW_t 498 (by decide +kernel) (by decide +kernel))) d_BP_digest_32 ?_
        refine lv_lmul X.x X.b d_BP_digest_35 ?_
        refine lv_aload_n X.x X.b d_BP_digest_36 rfl (lv_at hl 0 rfl) ?_
        refine m_get (v := .ref (B + 13)) X ok_BP hb.1 1 (by decide) k_BP_23 rfl d_BP_digest_37 ?_
        refine m_get (v := .int y.2.2.2.1) X ok_Assembly hb.2.1.1 5 (by decide) k_BP_113 rfl d_BP_digest_40 ?_
        refine lv_i2l (v := y.2.2.2.1.toInt64) X.x X.b d_BP_digest_43 rfl ?_
        refine lv_ladd X.x X.b d_BP_digest_44 ?_
        refine lv_lstore_n (lv' := [(1, .long ((u * 31) + y.2.2.2.1.toInt64)), (0, .ref B), (3, .int (nI i))]) X.x X.b d_BP_digest_45 rfl hl (by decide) rfl (fun ls hl => ?_)
        refine lv_lload_n X.x X.b d_BP_digest_46 rfl (lv_at hl 0 rfl) ?_
        refine lv_ldc2 (v := (31 : Int64)) X.x X.b X.wn (X.ts _ (LW_t 498 (by decide +kernel) (by decide +kernel))) d_BP_digest_47 ?_
        refine lv_lmul X.x X.b d_BP_digest_50 ?_
        refine lv_aload_n X.x X.b d_BP_digest_51 rfl (lv_at hl 1 rfl) ?_
        refine m_get (v := .ref (B + 13)) X ok_BP hb.1 1 (by decide) k_BP_23 rfl d_BP_digest_52 ?_
        refine m_get (v := .int y.2.2.2.2.1) X ok_Assembly hb.2.1.1 6 (by decide) k_BP_116 rfl d_BP_digest_55 ?_
        refine lv_i2l (v := y.2.2.2.2.1.toInt64) X.x X.b d_BP_digest_58 rfl ?_
        refine lv_ladd X.x X.b d_BP_digest_59 ?_
        refine lv_lstore_n (lv' := [(1, .long ((((u * 31) + y.2.2.2.1.toInt64) * 31) + y.2.2.2.2.1.toInt64)), (0, .ref B), (3, .int (nI i))]) X.x X.b d_BP_digest_60 rfl hl (by decide) rfl (fun ls hl => ?_)
        refine lv_aload_n X.x X.b d_BP_digest_61 rfl (lv_at hl 1 rfl) ?_
        refine m_get (v := .ref (B + 1)) X ok_BP hb.1 0 (by decide) k_BP_14 rfl d_BP_digest_62 ?_
        refine lv_iconst (v := 0) X.x X.b d_BP_digest_65 (by decide) ?_
        refine m_callP X hS (show MP l y_Source_countOf c_Source_countOf 2 (some .int) 1 g _ [.ref (B + 1), .int 0] (some (.int (nI (cnt 0)))) from (by have z := M_Source_countOf l g hb.2.1.s 0; rw [show ctF cnt 0 = nI (cnt 0) from (ctF_in (cnt := cnt) (r := 0) (by decide) : ctF cnt (nI 0) = nI (cnt 0))] at z; exact z)) v_BP_66 hb.2.1.s.1 rfl rfl rfl (Nat.le_of_ble_eq_true rfl) hl.1 d_BP_digest_66 (by omega) (by decide) ⟨Nat.zero_le _, Nat.zero_le _⟩ (fun locs hS => ?_)
        refine lv_istore_n (lv' := [(3, .int (nI (cnt 0))), (1, .long ((((u * 31) + y.2.2.2.1.toInt64) * 31) + y.2.2.2.2.1.toInt64)), (0, .ref B)]) X.x X.b d_BP_digest_69 rfl hl (by decide) rfl (fun ls hl => ?_)
        refine lv_iconst (v := 0) X.x X.b d_BP_digest_70 (by decide) ?_
        refine lv_istore (lv' := [(4, .int 0), (3, .int (nI (cnt 0))), (1, .long ((((u * 31) + y.2.2.2.1.toInt64) * 31) + y.2.2.2.2.1.toInt64)), (0, .ref B)]) X.x X.b d_BP_digest_71 hl (by decide) rfl (fun ls hl => ?_)
        have lp2 : ∀ (n2 i : Nat) (v : Int64), n2 = cnt 0 - i → i < 5000 → (dgL (wwF cnt D) n2 i v = dgM cnt D y) → ∀ (H : Heap) (locs : List Loc) (ls : Array Slot), bAt g B cnt f D y H → va_S (AA (fun q => B ≤ q ∧ q < B + 287) H0) H0 H locs → lv_has ls 5 [(0, .ref B), (1, .long v), (3, .int (nI (cnt 0))), (4, .int (nI i))] → W p l e (rmK 22 0 0) s m ([.ref B] : List Value).toArray below meth cd H locs 0 0 (MQ below (QM (some (.long (dgF cnt D y Wn))) (fun H1 => bAt g B cnt f D (dgY y) H1) (fun q => B ≤ q ∧ q < B + 287) H0) ([.ref B] : List Value).toArray s 0 0 (AA (fun q => B ≤ q ∧ q < B + 287) H0)) (F0 m 73 ls []) := by
          intro n2
          induction n2 with
          | zero =>
            intro i v hin2 hi52 hV2 H locs ls hb hS hl
            refine lv_iload X.x X.b d_BP_digest_73 (lv_at hl 3 rfl) ?_
            refine lv_iload_n X.x X.b d_BP_digest_75 rfl (lv_at hl 2 rfl) ?_
            refine lv_icmp_ge (tgt := 100) X.x X.b d_BP_digest_76 (by decide) (fun c2 => ?_) (fun c2 => ?_)
            · skip
              have c2q := Int32.not_lt.mpr c2
              refine lv_aload_n X.x X.b d_BP_digest_100 rfl (lv_at hl 0 rfl) ?_
              refine m_get (v := .ref (B + 13)) X ok_BP hb.1 1 (by decide) k_BP_23 rfl d_BP_digest_101 ?_
              refine m_get (v := .int y.2.2.2.1) X ok_Assembly hb.2.1.1 5 (by decide) k_BP_113 rfl d_BP_digest_104 ?_
              refine lv_if_ne (tgt := 118) X.x X.b d_BP_digest_107 (by decide) (fun c3 => ?_) (fun c3 => ?_)
              · skip
                refine lv_lload_n X.x X.b d_BP_digest_118 rfl (lv_at hl 1 rfl) ?_
                exact m_lret X hS (Nat.zero_le _) (Nat.zero_le _) d_BP_digest_119 (congrArg (fun z => some (Value.long z)) (by unfold dgF; rw [if_neg c3]; have e2 : v = dgM cnt D y := hV2; rw [e2])) (by unfold dgY; rw [if_neg c3]; exact hb)
              · skip
                refine lv_aload_n X.x X.b d_BP_digest_110 rfl (lv_at hl 0 rfl) ?_
                refine lv_lload_n X.x X.b d_BP_digest_111 rfl (lv_at hl 1 rfl) ?_
                have hR := M_BP_digestOfItems l g hb hW hW31 (hheld c3) c3 v
                refine m_callM X hS hR v_BP_224 hb.1 rfl rfl rfl (Nat.le_of_ble_eq_true rfl) hl.1 d_BP_digest_112 (by omega) (by decide) ⟨Nat.zero_le _, Nat.zero_le _⟩ (fun q z => by have z : B + 13 + 1 ≤ q ∧ q < B + 13 + 1 + 123 := z; exact ⟨by omega, by omega⟩) (fun H locs hb hfr hS => ?_)
                refine lv_goto (tgt := 119) X.x X.b d_BP_digest_115 (by decide) ?_
                exact m_lret X hS (Nat.zero_le _) (Nat.zero_le _) d_BP_digest_119 (congrArg (fun z => some (Value.long z)) (by unfold dgF; rw [if_pos c3]; have e2 : v = dgM cnt D y := hV2; rw [e2])) (by unfold dgY; rw [if_pos c3]; exact hb)
            · exact absurd ((nI_leI (a := cnt 0) (b := i) (by omega) (by omega)).mpr (by omega)) c2
          | succ n2 ih2 =>
            intro i v hin2 hi52 hV2 H locs ls hb hS hl
            refine lv_iload X.x X.b d_BP_digest_73 (lv_at hl 3 rfl) ?_
            refine lv_iload_n X.x X.b d_BP_digest_75 rfl (lv_at hl 2 rfl) ?_
            refine lv_icmp_ge (tgt := 100) X.x X.b d_BP_digest_76 (by decide) (fun c4 => ?_) (fun c4 => ?_)
            · exact absurd ((nI_leI (a := cnt 0) (b := i) (by omega) (by omega)).mp c4) (by omega)
            · skip
              have c4q := Int32.not_le.mp c4
              refine lv_lload_n X.x X.b d_BP_digest_79 rfl (lv_at hl 1 rfl) ?_
              refine lv_ldc2 (v := (31 : Int64)) X.x X.b X.wn (X.ts _ (LW_t 498 (by decide +kernel) (by decide +kernel))) d_BP_digest_80 ?_
              refine lv_lmul X.x X.b d_BP_digest_83 ?_
              refine lv_aload_n X.x X.b d_BP_digest_84 rfl (lv_at hl 0 rfl) ?_
              refine lv_iconst (v := 0) X.x X.b d_BP_digest_85 (by decide) ?_
              refine lv_iload X.x X.b d_BP_digest_86 (lv_at hl 3 rfl) ?_
              obtain ⟨cnt3, f3, D3, y3, hq⟩ := bAt.q.mp hb
              have hR : MM l y_BP_wordsWithout c_BP_wordsWithout 3 (some .int) 21 0 0 g H [.ref B, .int 0, .int (nI i)] (fun q => B + 144 ≤ q ∧ q < B + 287) (some (.int (wwF cnt D i))) (fun H1 => bQt g B cnt f D y (va_up cnt 0 (cnt 0 - 1)) (va_up f 0 (remF (f 0) i)) (va_up D 0 (remF (D 0) i)) (asmF (va_up D 0 (remF (D 0) i)) (va_up cnt 0 (cnt 0 - 1)) y3) H1) := by have z := M_BP_wordsWithout (r := 0) (t := i) l g hq (by omega) (by omega); rw [wof_any _ _ y3 y00] at z; exact z
              refine m_callM X hS hR v_BP_220 hb.1 rfl rfl rfl (Nat.le_of_ble_eq_true rfl) hl.1 d_BP_digest_88 (by omega) (by decide) ⟨Nat.zero_le _, Nat.zero_le _⟩ (fun q z => by have z : B + 144 ≤ q ∧ q < B + 287 := z; exact ⟨by omega, by omega⟩) (fun H locs hq hfr hS => ?_)
              have hb := bAt.q.mpr ⟨_, _, _, _, hq⟩
              refine lv_i2l (v := (wwF cnt D i).toInt64) X.x X.b d_BP_digest_91 rfl ?_
              refine lv_ladd X.x X.b d_BP_digest_92 ?_
              refine lv_lstore_n (lv' := [(1, .long ((v * 31) + ((wwF cnt D i).toInt64))), (0, .ref B), (3, .int (nI (cnt 0))), (4, .int (nI i))]) X.x X.b d_BP_digest_93 rfl hl (by decide) rfl (fun ls hl => ?_)
              refine lv_iinc (v := nI (i + 1)) (lv' := [(4, .int (nI (i + 1))), (1, .long ((v * 31) + ((wwF cnt D i).toInt64))), (0, .ref B), (3, .int (nI (cnt 0)))]) X.x X.b d_BP_digest_94 hl (k := 3) rfl (nI_1 i) (by decide) rfl (fun ls hl => ?_)
              refine lv_goto (tgt := 73) X.x X.b d_BP_digest_97 (by decide) ?_
              exact ih2 (i + 1) ((v * 31) + ((wwF cnt D i).toInt64)) (by omega) (by omega) (by rw [← hV2]; rfl) _ _ _ hb hS (lv_sub hl [2, 1, 3, 0] rfl)
        exact lp2 (cnt 0) 0 ((((u * 31) + y.2.2.2.1.toInt64) * 31) + y.2.2.2.2.1.toInt64) (by omega) (by omega) (by unfold dgM; rw [← hV1]; rfl) _ _ _ hb hS (lv_sub hl [3, 2, 1, 0] rfl)
      · exact absurd ((nI_ltI (a := 11) (b := i) (by omega) (by omega)).mpr (by omega)) c1
    | succ n ih =>
      intro i u hin hi5 hV1 locs ls hS hl
      refine lv_iload_n X.x X.b d_BP_digest_6 rfl (lv_at hl 2 rfl) ?_
      refine lv_bipush (v := 11) X.x X.b d_BP_digest_7 (by decide) ?_
      refine lv_icmp_gt (tgt := 31) X.x X.b d_BP_digest_9 (by decide) (fun c5 => ?_) (fun c5 => ?_)
      · exact absurd ((nI_ltI (a := 11) (b := i) (by omega) (by omega)).mp c5) (by omega)
      · skip
        have c5q := Int32.not_lt.mp c5
        refine lv_lload_n X.x X.b d_BP_digest_12 rfl (lv_at hl 1 rfl) ?_
        refine lv_ldc2 (v := (31 : Int64)) X.x X.b X.wn (X.ts _ (LW_t 498 (by decide +kernel) (by decide +kernel))) d_BP_digest_13 ?_
        refine lv_lmul X.x X.b d_BP_digest_16 ?_
        refine lv_aload_n X.x X.b d_BP_digest_17 rfl (lv_at hl 0 rfl) ?_
        refine lv_iload_n X.x X.b d_BP_digest_18 rfl (lv_at hl 2 rfl) ?_
        have hR := M_BP_many (wt := nI i) l g hb (nI_pos (by omega)) ((nI_leI (b := 11) (by omega) (by omega)).mpr (by omega))
        refine m_callP X hS hR v_BP_217 hb.1 rfl rfl rfl (Nat.le_of_ble_eq_true rfl) hl.1 d_BP_digest_19 (by omega) (by decide) ⟨Nat.zero_le _, Nat.zero_le _⟩ (fun locs hS => ?_)
        refine lv_i2l (v := (manF cnt y (nI i)).toInt64) X.x X.b d_BP_digest_22 rfl ?_
        refine lv_ladd X.x X.b d_BP_digest_23 ?_
        refine lv_lstore_n (lv' := [(1, .long ((u * 31) + ((manF cnt y (nI i)).toInt64))), (0, .ref B), (3, .int (nI i))]) X.x X.b d_BP_digest_24 rfl hl (by decide) rfl (fun ls hl => ?_)
        refine lv_iinc (v := nI (i + 1)) (lv' := [(3, .int (nI (i + 1))), (1, .long ((u * 31) + ((manF cnt y (nI i)).toInt64))), (0, .ref B)]) X.x X.b d_BP_digest_25 hl (k := 2) rfl (nI_1 i) (by decide) rfl (fun ls hl => ?_)
        refine lv_goto (tgt := 6) X.x X.b d_BP_digest_28 (by decide) ?_
        exact ih (i + 1) ((u * 31) + ((manF cnt y (nI i)).toInt64)) (by omega) (by omega) (by rw [← hV1]; rfl) _ _ hS (lv_sub hl [2, 1, 0] rfl)
  exact lp 12 0 7619 (by omega) (by omega) (rfl) _ _ hS (lv_sub hl [2, 1, 0] rfl)
