-- THE LAW'S BODY: ITS BEGINNING, ITS LOOPS
theorem wmax_law : Cond.methodLink R_Law 42 Lib.Math.max.name ∈ LW := LW_t 841 (by decide +kernel) (by decide +kernel)
theorem cl_Pr : Cond.classLink R_Law 9 R_Press ∈ LW := LW_t 531 (by decide +kernel) (by decide +kernel)
theorem in_Pr : Cond.instantiable R_Press 12 ∈ LW := LW_t 532 (by decide +kernel) (by decide +kernel)
set_option maxRecDepth 100000 in
set_option maxHeartbeats 4000000 in
theorem L1_z {g : GG} {p : Program} {l : Launch} {e : Env} {s : State} {m : MethodId} {below : List Frame} {meth : Method} {c : Code} {H : Heap} {locs : List Loc} {cells slots : Nat} {Q : State → Prop} {nm : String} {ls : Array Slot} {b L P B RA d ti sp cA sA : Nat} {xs : Nat → Int32} {V : Value × Value × Value} {cnt : Nat → Nat} {f : Nat → Nat → Nat} {fR : Nat → Nat} {fL : Nat → Nat → Nat} {D : DT} {Y : YS} (X : CX g p s m #[.ref b] meth c c_Law_law 15 (some .boolean) R_Law nm) (hbs : b < s.heap.size) (hPs : s.heap.size ≤ P) (hPB : P < B) (hx : va_X b L xs s H) (hS : va_S (AA noA s.heap) s.heap H locs) (hF : lawF g P B b RA V d cnt fR fL D H) (hB : bAt g B cnt f D Y H) (hok : OKY D cnt Y) (hG : lnsG D cnt) (hz : (nowF D cnt y00).2.2.2.1 = 0) (kk : ∀ (H1 : Heap) (locs1 : List Loc) (ls1 : Array Slot) (c1 s1 : Nat) (f1 : Nat → Nat → Nat) (Y1 : YS), lawF g P B b RA V d cnt fR fL D H1 → bAt g B cnt f1 D Y1 H1 → OKY D cnt Y1 → va_X b L xs s H1 → va_S (AA noA s.heap) s.heap H1 locs1 → lv_has ls1 15 [(4, .int (nI sp)), (3, .ref B), (2, .ref P), (1, .int (nI ti)), (0, .ref b)] → c1 ≤ cA → s1 ≤ sA → W p l e (rmK 2000 600064 7301640) s m #[.ref b] below meth c H1 locs1 c1 s1 Q (F0 m 790 ls1 [])) (hmx : cA ≤ 10000 ∧ sA ≤ 400000) {al : Nat} {fa : Nat → Int32} (hal : pt g al (.inl (g.2 0, wnF D cnt, .inl fa)) H) (hal0 : B + 287 ≤ al) (hbd : P < al ∧ RA < al ∧ (∀ r, r < 5 → fR r < al) ∧ ∀ r i, r < 5 → i < cnt r → fL r i < al) (hcs : cells + 171 ≤ cA ∧ slots + 855 ≤ sA) (hl : lv_has ls 15 [(11, .int 0), (10, .ref al), (9, .int 0), (8, .int (nI (wnF D cnt))), (7, .int (nI (cnt 0))), (5, .long (dgC D cnt)), (4, .int (nI sp)), (3, .ref B), (2, .ref P), (1, .int (nI ti)), (0, .ref b)]) : W p l e (rmK 2000 600064 7301640) s m #[.ref b] below meth c H locs cells slots Q (F0 m 101 ls []) := by
  have hyf : Y.2.2.2.1 = 0 := hok.fn.trans hz
  have hW20 := (hok.tal3 hG).2
  have hwm : ¬ nI (wnF D cnt) = -1 := nI_m1 (by omega)
  obtain ⟨hb1, hb2, hb3, hb4⟩ := hbd
  have lp : ∀ (n w : Nat) (fa : Nat → Int32) (H : Heap) (locs : List Loc) (ls : Array Slot), n = wnF D cnt - w → w ≤ wnF D cnt → (∀ i, i < w → fa i = wdF (nowF D cnt y00).1 (nowF D cnt y00).2.1 (nI i)) → lawF g P B b RA V d cnt fR fL D H → bAt g B cnt f D Y H → va_X b L xs s H → va_S (AA noA s.heap) s.heap H locs → pt g al (.inl (g.2 0, wnF D cnt, .inl fa)) H → lv_has ls 15 [(11, .int (nI w)), (10, .ref al), (9, .int 0), (8, .int (nI (wnF D cnt))), (7, .int (nI (cnt 0))), (5, .long (dgC D cnt)), (4, .int (nI sp)), (3, .ref B), (2, .ref P), (1, .int (nI ti)), (0, .ref b)] → W p l e (rmK 2000 600064 7301640) s m #[.ref b] below meth c H locs cells slots Q (F0 m 101 ls []) := by
    intro n
    induction n with
    | zero =>
      intro w fa H locs ls hn hw1 hfw hF hB hx hS hal hl
      refine lv_iload X.x X.b d_Law_law_101 (lv_at hl 0 rfl) ?_
      refine lv_iload X.x X.b d_Law_law_103 (lv_at hl 3 rfl) ?_
      refine lv_icmp_ge (tgt := 125) X.x X.b d_Law_law_105 (by decide) (fun c1 => ?_) (fun c1 => ?_)
      · skip
        have c1q := Int32.not_lt.mpr c1
        exact s125_z X hbs hPs hPB hx hS hF hB hok hG hal hal0 (fun i hi => hfw i (by omega)) hz kk hmx (by omega) (lv_sub hl [1, 2, 3, 4, 5, 6, 7, 8, 9, 10] rfl)
      · exact absurd (nI_le (by omega) (by omega)) c1
    | succ n ih =>
      intro w fa H locs ls hn hw1 hfw hF hB hx hS hal hl
      refine lv_iload X.x X.b d_Law_law_101 (lv_at hl 0 rfl) ?_
      refine lv_iload X.x X.b d_Law_law_103 (lv_at hl 3 rfl) ?_
      refine lv_icmp_ge (tgt := 125) X.x X.b d_Law_law_105 (by decide) (fun c2 => ?_) (fun c2 => ?_)
      · exact absurd ((nI_leI (by omega) (by omega)).mp c2) (by omega)
      · skip
        have c2q := Int32.not_le.mp c2
        have hw : w < wnF D cnt := by omega
        refine lv_aload X.x X.b d_Law_law_108 (lv_at hl 1 rfl) ?_
        refine lv_iload X.x X.b d_Law_law_110 (lv_at hl 0 rfl) ?_
        refine lv_aload_n X.x X.b d_Law_law_112 rfl (lv_at hl 7 rfl) ?_
        refine lv_iload X.x X.b d_Law_law_113 (lv_at hl 0 rfl) ?_
        obtain ⟨j, e1, e2⟩ := hok.word hG hyf hw
        have hR := M_BP_word (ad := nI w) (j := j) l g hB e1
        rw [e2, hok.wd] at hR
        refine m_callP X hS hR v_Law_48 hB.1 rfl rfl rfl (Nat.le_of_ble_eq_true rfl) hl.1 d_Law_law_115 (by omega) (by decide) ⟨by omega, by omega⟩ (fun locs hS => ?_)
        clear hR
        refine m_iast X hS (Or.inr (show s.heap.size ≤ al by omega)) hal (vp_in_nI hw (by omega)) d_Law_law_118 (fun H1 locs hp hcg hS => ?_)
        rw [nI_clamp (show w < 2 ^ 31 by omega)] at hp
        have hF := hF.off hcg (by omega) (by omega) (fun r hr => by have := hb3 r hr; omega) (fun r i hr hi => by have := hb4 r i hr hi; omega)
        have hB := hB.frK (fr.of_chg (A := eqA al) hcg rfl) (fun q z y => by have z : q = al := z; omega) (noLnI X.kx hal)
        have hx := hx.off hcg (by omega)
        have hal := hp
        refine lv_iinc (v := nI (w + 1)) (lv' := [(11, .int (nI (w + 1))), (10, .ref al), (9, .int 0), (8, .int (nI (wnF D cnt))), (7, .int (nI (cnt 0))), (5, .long (dgC D cnt)), (4, .int (nI sp)), (3, .ref B), (2, .ref P), (1, .int (nI ti)), (0, .ref b)]) X.x X.b d_Law_law_119 hl (k := 0) rfl (nI_1 w) (by decide) rfl (fun ls hl => ?_)
        refine lv_goto (tgt := 101) X.x X.b d_Law_law_122 (by decide) ?_
        refine ih (w + 1) _ H1 locs ls (by omega) (by omega) (fun i hi => ?_) hF hB hx hS hal (lv_sub hl [0, 1, 2, 3, 4, 5, 6, 7, 8, 9, 10] rfl)
        unfold upd
        by_cases z : i = w
        · rw [if_pos z, z]
        · rw [if_neg z]; exact hfw i (by omega)
  exact lp (wnF D cnt) 0 fa H locs ls rfl (Nat.zero_le _) (fun i hi => absurd hi (Nat.not_lt_zero i)) hF hB hx hS hal hl
set_option maxRecDepth 100000 in
set_option maxHeartbeats 4000000 in
theorem L1_f {g : GG} {p : Program} {l : Launch} {e : Env} {s : State} {m : MethodId} {below : List Frame} {meth : Method} {c : Code} {H : Heap} {locs : List Loc} {cells slots : Nat} {Q : State → Prop} {nm : String} {ls : Array Slot} {b L P B RA d ti sp cA sA : Nat} {xs : Nat → Int32} {V : Value × Value × Value} {cnt : Nat → Nat} {f : Nat → Nat → Nat} {fR : Nat → Nat} {fL : Nat → Nat → Nat} {D : DT} {Y : YS} (X : CX g p s m #[.ref b] meth c c_Law_law 15 (some .boolean) R_Law nm) (hbs : b < s.heap.size) (hPs : s.heap.size ≤ P) (hPB : P < B) (hx : va_X b L xs s H) (hS : va_S (AA noA s.heap) s.heap H locs) (hF : lawF g P B b RA V d cnt fR fL D H) (hB : bAt g B cnt f D Y H) (hok : OKY D cnt Y) (hG : lnsG D cnt) {tf : Nat} (hft : (nowF D cnt y00).2.2.2.1 = nI tf) (ht1 : 1 ≤ tf) (ht6 : tf ≤ 6) (kk : ∀ (H1 : Heap) (locs1 : List Loc) (ls1 : Array Slot) (c1 s1 : Nat) (f1 : Nat → Nat → Nat) (Y1 : YS), lawF g P B b RA V d cnt fR fL D H1 → bAt g B cnt f1 D Y1 H1 → OKY D cnt Y1 → va_X b L xs s H1 → va_S (AA noA s.heap) s.heap H1 locs1 → lv_has ls1 15 [(4, .int (nI sp)), (3, .ref B), (2, .ref P), (1, .int (nI ti)), (0, .ref b)] → c1 ≤ cA → s1 ≤ sA → W p l e (rmK 2000 600064 7301640) s m #[.ref b] below meth c H1 locs1 c1 s1 Q (F0 m 790 ls1 [])) (hmx : cA ≤ 10000 ∧ sA ≤ 400000) {al : Nat} {fa : Nat → Int32} (hal : pt g al (.inl (g.2 0, wnF D cnt, .inl fa)) H) (hal0 : B + 287 ≤ al) (hbd : P < al ∧ RA < al ∧ (∀ r, r < 5 → fR r < al) ∧ ∀ r i, r < 5 → i < cnt r → fL r i < al) (hcs : cells + 171 ≤ cA ∧ slots + 855 ≤ sA) (hl : lv_has ls 15 [(11, .int 0), (10, .ref al), (9, .int (nI tf)), (8, .int (-1)), (7, .int (nI (cnt 0))), (5, .long (dgC D cnt)), (4, .int (nI sp)), (3, .ref B), (2, .ref P), (1, .int (nI ti)), (0, .ref b)]) : W p l e (rmK 2000 600064 7301640) s m #[.ref b] below meth c H locs cells slots Q (F0 m 101 ls []) := by
  have hyf : Y.2.2.2.1 = nI tf := hok.fn.trans hft
  have hfn : ¬ nI tf = 0 := nI_ne0 ht1 (by omega)
  have hfl : ¬ nI tf ≤ 0 := nI_nle ht1 (by omega)
  have hW0 : wnF D cnt = 0 := (hok.c0 (by rw [hyf]; exact hfn)).2
  refine lv_iload X.x X.b d_Law_law_101 (lv_at hl 0 rfl) ?_
  refine lv_iload X.x X.b d_Law_law_103 (lv_at hl 3 rfl) ?_
  refine lv_icmp_ge (tgt := 125) X.x X.b d_Law_law_105 (by decide) (fun c1 => ?_) (fun c1 => ?_)
  · skip
    have c1q := Int32.not_lt.mpr c1
    exact s125_f X hbs hPs hPB hx hS hF hB hok hG hal hal0 (fun i hi => by omega) hft ht1 ht6 kk hmx (by omega) (lv_sub hl [1, 2, 3, 4, 5, 6, 7, 8, 9, 10] rfl)
  · exact absurd c1 (by decide)
set_option maxRecDepth 100000 in
set_option maxHeartbeats 4000000 in
theorem s62_z {g : GG} {p : Program} {l : Launch} {e : Env} {s : State} {m : MethodId} {below : List Frame} {meth : Method} {c : Code} {H : Heap} {locs : List Loc} {cells slots : Nat} {Q : State → Prop} {nm : String} {ls : Array Slot} {b L P B RA d ti sp cA sA : Nat} {xs : Nat → Int32} {V : Value × Value × Value} {cnt : Nat → Nat} {f : Nat → Nat → Nat} {fR : Nat → Nat} {fL : Nat → Nat → Nat} {D : DT} {Y : YS} (X : CX g p s m #[.ref b] meth c c_Law_law 15 (some .boolean) R_Law nm) (hbs : b < s.heap.size) (hPs : s.heap.size ≤ P) (hPB : P < B) (hx : va_X b L xs s H) (hS : va_S (AA noA s.heap) s.heap H locs) (hF : lawF g P B b RA V d cnt fR fL D H) (hB : bAt g B cnt f D Y H) (hok : OKY D cnt Y) (hG : lnsG D cnt) (hz : (nowF D cnt y00).2.2.2.1 = 0) (kk : ∀ (H1 : Heap) (locs1 : List Loc) (ls1 : Array Slot) (c1 s1 : Nat) (f1 : Nat → Nat → Nat) (Y1 : YS), lawF g P B b RA V d cnt fR fL D H1 → bAt g B cnt f1 D Y1 H1 → OKY D cnt Y1 → va_X b L xs s H1 → va_S (AA noA s.heap) s.heap H1 locs1 → lv_has ls1 15 [(4, .int (nI sp)), (3, .ref B), (2, .ref P), (1, .int (nI ti)), (0, .ref b)] → c1 ≤ cA → s1 ≤ sA → W p l e (rmK 2000 600064 7301640) s m #[.ref b] below meth c H1 locs1 c1 s1 Q (F0 m 790 ls1 [])) (hmx : cA ≤ 10000 ∧ sA ≤ 400000) (hcs : cells + 172 ≤ cA ∧ slots + 20855 ≤ sA) (hl : lv_has ls 15 [(4, .int (nI sp)), (3, .ref B), (2, .ref P), (1, .int (nI ti)), (0, .ref b)]) : W p l e (rmK 2000 600064 7301640) s m #[.ref b] below meth c H locs cells slots Q (F0 m 62 ls []) := by
  have hyf : Y.2.2.2.1 = 0 := hok.fn.trans hz
  have hW20 := (hok.tal3 hG).2
  have hwm : ¬ nI (wnF D cnt) = -1 := nI_m1 (by omega)
  refine lv_aload_n X.x X.b d_Law_law_62 rfl (lv_at hl 1 rfl) ?_
  have hR := M_BP_digest l g hB (hok.tal3 hG).1 (hok.tal3 hG).2 (hok.held hG)
  rw [hok.dgc] at hR
  refine m_callV X hS hR v_Law_28 hB.1 rfl rfl rfl (Nat.le_of_ble_eq_true rfl) hl.1 d_Law_law_63 (by omega) (by decide) ⟨by omega, by omega⟩ (fun q z => z.elim (fun z => by have z : B ≤ q ∧ q < B + 287 := z; exact Or.inr (show s.heap.size ≤ q by omega)) (fun z => Or.inr (Nat.le_trans hS.1 z))) (fun H1 locs hB hfr hS => ?_)
  clear hR
  have hok := hok.dg hG
  have hF := hF.frm hfr (fun q z => z)
  have hx := hx.fr (g := g) hfr (fun z => by have z : B ≤ b ∧ b < B + 287 := z; omega)
  have hyf := hok.fn.trans hz
  refine lv_lstore (lv' := [(5, .long (dgC D cnt)), (4, .int (nI sp)), (3, .ref B), (2, .ref P), (1, .int (nI ti)), (0, .ref b)]) X.x X.b d_Law_law_66 hl (by decide) rfl (fun ls hl => ?_)
  refine lv_aload_n X.x X.b d_Law_law_68 rfl (lv_at hl 2 rfl) ?_
  refine lv_iconst (v := 0) X.x X.b d_Law_law_69 (by decide) ?_
  have hR := M_BP_many (wt := 0) l g hB (by decide) (by decide)
  rw [manF_0] at hR
  refine m_callP X hS hR v_Law_34 hB.1 rfl rfl rfl (Nat.le_of_ble_eq_true rfl) hl.1 d_Law_law_70 (by omega) (by decide) ⟨by omega, by omega⟩ (fun locs hS => ?_)
  clear hR
  refine lv_istore (lv' := [(7, .int (nI (cnt 0))), (5, .long (dgC D cnt)), (4, .int (nI sp)), (3, .ref B), (2, .ref P), (1, .int (nI ti)), (0, .ref b)]) X.x X.b d_Law_law_73 hl (by decide) rfl (fun ls hl => ?_)
  refine lv_aload_n X.x X.b d_Law_law_75 rfl (lv_at hl 3 rfl) ?_
  refine lv_iconst (v := 3) X.x X.b d_Law_law_76 (by decide) ?_
  have hR := M_BP_many (wt := 3) l g hB (by decide) (by decide)
  rw [hok.many3 hG, if_pos hyf] at hR
  refine m_callP X hS hR v_Law_34 hB.1 rfl rfl rfl (Nat.le_of_ble_eq_true rfl) hl.1 d_Law_law_77 (by omega) (by decide) ⟨by omega, by omega⟩ (fun locs hS => ?_)
  clear hR
  refine lv_istore (lv' := [(8, .int (nI (wnF D cnt))), (7, .int (nI (cnt 0))), (5, .long (dgC D cnt)), (4, .int (nI sp)), (3, .ref B), (2, .ref P), (1, .int (nI ti)), (0, .ref b)]) X.x X.b d_Law_law_80 hl (by decide) rfl (fun ls hl => ?_)
  refine lv_aload_n X.x X.b d_Law_law_82 rfl (lv_at hl 4 rfl) ?_
  have hR := M_BP_fault l g hB
  rw [hyf] at hR
  refine m_callP X hS hR v_Law_38 hB.1 rfl rfl rfl (Nat.le_of_ble_eq_true rfl) hl.1 d_Law_law_83 (by omega) (by decide) ⟨by omega, by omega⟩ (fun locs hS => ?_)
  clear hR
  refine lv_istore (lv' := [(9, .int 0), (8, .int (nI (wnF D cnt))), (7, .int (nI (cnt 0))), (5, .long (dgC D cnt)), (4, .int (nI sp)), (3, .ref B), (2, .ref P), (1, .int (nI ti)), (0, .ref b)]) X.x X.b d_Law_law_86 hl (by decide) rfl (fun ls hl => ?_)
  refine lv_iconst (v := 0) X.x X.b d_Law_law_88 (by decide) ?_
  refine lv_iload X.x X.b d_Law_law_89 (lv_at hl 1 rfl) ?_
  refine m_max (v := nI (wnF D cnt)) X (by decide) wmax_law (Nat.le_of_ble_eq_true rfl) hl.1 ⟨by omega, by omega⟩ (max0_nI (by omega)) d_Law_law_91 ?_
  obtain ⟨al, hal9⟩ : ∃ z : Nat, Array.size H1 = z := ⟨_, rfl⟩
  have hbd0 := hF.bnd
  have hBl := hB.lt
  rw [hal9] at hbd0 hBl
  refine m_newI X hS hal9 (wnF D cnt) (nI_pos (by omega)) (nI_clamp (by omega)) (by omega) (by omega) (by omega) d_Law_law_94 (fun H2 hn hgr hS hz2 => ?_)
  have hfr := fr.of_grow (A := noA) hgr
  have hF := hF.frm hfr (fun q z => z.elim)
  have hB := hB.frK hfr (fun q z => z.elim) (fun q z => z.elim)
  have hx := hx.grow hgr
  have hal : pt g al (.inl (g.2 0, wnF D cnt, .inl (fun _ => 0))) H2 := hn
  refine lv_astore (lv' := [(10, .ref al), (9, .int 0), (8, .int (nI (wnF D cnt))), (7, .int (nI (cnt 0))), (5, .long (dgC D cnt)), (4, .int (nI sp)), (3, .ref B), (2, .ref P), (1, .int (nI ti)), (0, .ref b)]) X.x X.b d_Law_law_96 hl (by decide) rfl (fun ls hl => ?_)
  refine lv_iconst (v := 0) X.x X.b d_Law_law_98 (by decide) ?_
  refine lv_istore (lv' := [(11, .int 0), (10, .ref al), (9, .int 0), (8, .int (nI (wnF D cnt))), (7, .int (nI (cnt 0))), (5, .long (dgC D cnt)), (4, .int (nI sp)), (3, .ref B), (2, .ref P), (1, .int (nI ti)), (0, .ref b)]) X.x X.b d_Law_law_99 hl (by decide) rfl (fun ls hl => ?_)
  exact L1_z X hbs hPs hPB hx hS hF hB hok hG hz kk hmx hal hBl hbd0 (by omega) (lv_sub hl [0, 1, 2, 3, 4, 5, 6, 7, 8, 9, 10] rfl)
set_option maxRecDepth 100000 in
set_option maxHeartbeats 4000000 in
theorem s62_f {g : GG} {p : Program} {l : Launch} {e : Env} {s : State} {m : MethodId} {below : List Frame} {meth : Method} {c : Code} {H : Heap} {locs : List Loc} {cells slots : Nat} {Q : State → Prop} {nm : String} {ls : Array Slot} {b L P B RA d ti sp cA sA : Nat} {xs : Nat → Int32} {V : Value × Value × Value} {cnt : Nat → Nat} {f : Nat → Nat → Nat} {fR : Nat → Nat} {fL : Nat → Nat → Nat} {D : DT} {Y : YS} (X : CX g p s m #[.ref b] meth c c_Law_law 15 (some .boolean) R_Law nm) (hbs : b < s.heap.size) (hPs : s.heap.size ≤ P) (hPB : P < B) (hx : va_X b L xs s H) (hS : va_S (AA noA s.heap) s.heap H locs) (hF : lawF g P B b RA V d cnt fR fL D H) (hB : bAt g B cnt f D Y H) (hok : OKY D cnt Y) (hG : lnsG D cnt) {tf : Nat} (hft : (nowF D cnt y00).2.2.2.1 = nI tf) (ht1 : 1 ≤ tf) (ht6 : tf ≤ 6) (kk : ∀ (H1 : Heap) (locs1 : List Loc) (ls1 : Array Slot) (c1 s1 : Nat) (f1 : Nat → Nat → Nat) (Y1 : YS), lawF g P B b RA V d cnt fR fL D H1 → bAt g B cnt f1 D Y1 H1 → OKY D cnt Y1 → va_X b L xs s H1 → va_S (AA noA s.heap) s.heap H1 locs1 → lv_has ls1 15 [(4, .int (nI sp)), (3, .ref B), (2, .ref P), (1, .int (nI ti)), (0, .ref b)] → c1 ≤ cA → s1 ≤ sA → W p l e (rmK 2000 600064 7301640) s m #[.ref b] below meth c H1 locs1 c1 s1 Q (F0 m 790 ls1 [])) (hmx : cA ≤ 10000 ∧ sA ≤ 400000) (hcs : cells + 172 ≤ cA ∧ slots + 20855 ≤ sA) (hl : lv_has ls 15 [(4, .int (nI sp)), (3, .ref B), (2, .ref P), (1, .int (nI ti)), (0, .ref b)]) : W p l e (rmK 2000 600064 7301640) s m #[.ref b] below meth c H locs cells slots Q (F0 m 62 ls []) := by
  have hyf : Y.2.2.2.1 = nI tf := hok.fn.trans hft
  have hfn : ¬ nI tf = 0 := nI_ne0 ht1 (by omega)
  have hfl : ¬ nI tf ≤ 0 := nI_nle ht1 (by omega)
  have hW0 : wnF D cnt = 0 := (hok.c0 (by rw [hyf]; exact hfn)).2
  refine lv_aload_n X.x X.b d_Law_law_62 rfl (lv_at hl 1 rfl) ?_
  have hR := M_BP_digest l g hB (hok.tal3 hG).1 (hok.tal3 hG).2 (hok.held hG)
  rw [hok.dgc] at hR
  refine m_callV X hS hR v_Law_28 hB.1 rfl rfl rfl (Nat.le_of_ble_eq_true rfl) hl.1 d_Law_law_63 (by omega) (by decide) ⟨by omega, by omega⟩ (fun q z => z.elim (fun z => by have z : B ≤ q ∧ q < B + 287 := z; exact Or.inr (show s.heap.size ≤ q by omega)) (fun z => Or.inr (Nat.le_trans hS.1 z))) (fun H1 locs hB hfr hS => ?_)
  clear hR
  have hok := hok.dg hG
  have hF := hF.frm hfr (fun q z => z)
  have hx := hx.fr (g := g) hfr (fun z => by have z : B ≤ b ∧ b < B + 287 := z; omega)
  have hyf := hok.fn.trans hft
  refine lv_lstore (lv' := [(5, .long (dgC D cnt)), (4, .int (nI sp)), (3, .ref B), (2, .ref P), (1, .int (nI ti)), (0, .ref b)]) X.x X.b d_Law_law_66 hl (by decide) rfl (fun ls hl => ?_)
  refine lv_aload_n X.x X.b d_Law_law_68 rfl (lv_at hl 2 rfl) ?_
  refine lv_iconst (v := 0) X.x X.b d_Law_law_69 (by decide) ?_
  have hR := M_BP_many (wt := 0) l g hB (by decide) (by decide)
  rw [manF_0] at hR
  refine m_callP X hS hR v_Law_34 hB.1 rfl rfl rfl (Nat.le_of_ble_eq_true rfl) hl.1 d_Law_law_70 (by omega) (by decide) ⟨by omega, by omega⟩ (fun locs hS => ?_)
  clear hR
  refine lv_istore (lv' := [(7, .int (nI (cnt 0))), (5, .long (dgC D cnt)), (4, .int (nI sp)), (3, .ref B), (2, .ref P), (1, .int (nI ti)), (0, .ref b)]) X.x X.b d_Law_law_73 hl (by decide) rfl (fun ls hl => ?_)
  refine lv_aload_n X.x X.b d_Law_law_75 rfl (lv_at hl 3 rfl) ?_
  refine lv_iconst (v := 3) X.x X.b d_Law_law_76 (by decide) ?_
  have hR := M_BP_many (wt := 3) l g hB (by decide) (by decide)
  rw [hok.many3 hG, if_neg (by rw [hyf]; exact hfn)] at hR
  refine m_callP X hS hR v_Law_34 hB.1 rfl rfl rfl (Nat.le_of_ble_eq_true rfl) hl.1 d_Law_law_77 (by omega) (by decide) ⟨by omega, by omega⟩ (fun locs hS => ?_)
  clear hR
  refine lv_istore (lv' := [(8, .int (-1)), (7, .int (nI (cnt 0))), (5, .long (dgC D cnt)), (4, .int (nI sp)), (3, .ref B), (2, .ref P), (1, .int (nI ti)), (0, .ref b)]) X.x X.b d_Law_law_80 hl (by decide) rfl (fun ls hl => ?_)
  refine lv_aload_n X.x X.b d_Law_law_82 rfl (lv_at hl 4 rfl) ?_
  have hR := M_BP_fault l g hB
  rw [hyf] at hR
  refine m_callP X hS hR v_Law_38 hB.1 rfl rfl rfl (Nat.le_of_ble_eq_true rfl) hl.1 d_Law_law_83 (by omega) (by decide) ⟨by omega, by omega⟩ (fun locs hS => ?_)
  clear hR
  refine lv_istore (lv' := [(9, .int (nI tf)), (8, .int (-1)), (7, .int (nI (cnt 0))), (5, .long (dgC D cnt)), (4, .int (nI sp)), (3, .ref B), (2, .ref P), (1, .int (nI ti)), (0, .ref b)]) X.x X.b d_Law_law_86 hl (by decide) rfl (fun ls hl => ?_)
  refine lv_iconst (v := 0) X.x X.b d_Law_law_88 (by decide) ?_
  refine lv_iload X.x X.b d_Law_law_89 (lv_at hl 1 rfl) ?_
  refine m_max (v := 0) X (by decide) wmax_law (Nat.le_of_ble_eq_true rfl) hl.1 ⟨by omega, by omega⟩ (by decide) d_Law_law_91 ?_
  obtain ⟨al, hal9⟩ : ∃ z : Nat, Array.size H1 = z := ⟨_, rfl⟩
  have hbd0 := hF.bnd
  have hBl := hB.lt
  rw [hal9] at hbd0 hBl
  refine m_newI X hS hal9 0 (by decide) (by decide) (by decide) (by omega) (by omega) d_Law_law_94 (fun H2 hn hgr hS hz2 => ?_)
  have hfr := fr.of_grow (A := noA) hgr
  have hF := hF.frm hfr (fun q z => z.elim)
  have hB := hB.frK hfr (fun q z => z.elim) (fun q z => z.elim)
  have hx := hx.grow hgr
  have hal : pt g al (.inl (g.2 0, wnF D cnt, .inl (fun _ => 0))) H2 := by rw [hW0]; exact hn
  refine lv_astore (lv' := [(10, .ref al), (9, .int (nI tf)), (8, .int (-1)), (7, .int (nI (cnt 0))), (5, .long (dgC D cnt)), (4, .int (nI sp)), (3, .ref B), (2, .ref P), (1, .int (nI ti)), (0, .ref b)]) X.x X.b d_Law_law_96 hl (by decide) rfl (fun ls hl => ?_)
  refine lv_iconst (v := 0) X.x X.b d_Law_law_98 (by decide) ?_
  refine lv_istore (lv' := [(11, .int 0), (10, .ref al), (9, .int (nI tf)), (8, .int (-1)), (7, .int (nI (cnt 0))), (5, .long (dgC D cnt)), (4, .int (nI sp)), (3, .ref B), (2, .ref P), (1, .int (nI ti)), (0, .ref b)]) X.x X.b d_Law_law_99 hl (by decide) rfl (fun ls hl => ?_)
  exact L1_f X hbs hPs hPB hx hS hF hB hok hG hft ht1 ht6 kk hmx hal hBl hbd0 (by omega) (lv_sub hl [0, 1, 2, 3, 4, 5, 6, 7, 8, 9, 10] rfl)
theorem s62 {g : GG} {p : Program} {l : Launch} {e : Env} {s : State} {m : MethodId} {below : List Frame} {meth : Method} {c : Code} {H : Heap} {locs : List Loc} {cells slots : Nat} {Q : State → Prop} {nm : String} {ls : Array Slot} {b L P B RA d ti sp cA sA : Nat} {xs : Nat → Int32} {V : Value × Value × Value} {cnt : Nat → Nat} {f : Nat → Nat → Nat} {fR : Nat → Nat} {fL : Nat → Nat → Nat} {D : DT} {Y : YS} (X : CX g p s m #[.ref b] meth c c_Law_law 15 (some .boolean) R_Law nm) (hbs : b < s.heap.size) (hPs : s.heap.size ≤ P) (hPB : P < B) (hx : va_X b L xs s H) (hS : va_S (AA noA s.heap) s.heap H locs) (hF : lawF g P B b RA V d cnt fR fL D H) (hB : bAt g B cnt f D Y H) (hok : OKY D cnt Y) (hG : lnsG D cnt) (kk : ∀ (H1 : Heap) (locs1 : List Loc) (ls1 : Array Slot) (c1 s1 : Nat) (f1 : Nat → Nat → Nat) (Y1 : YS), lawF g P B b RA V d cnt fR fL D H1 → bAt g B cnt f1 D Y1 H1 → OKY D cnt Y1 → va_X b L xs s H1 → va_S (AA noA s.heap) s.heap H1 locs1 → lv_has ls1 15 [(4, .int (nI sp)), (3, .ref B), (2, .ref P), (1, .int (nI ti)), (0, .ref b)] → c1 ≤ cA → s1 ≤ sA → W p l e (rmK 2000 600064 7301640) s m #[.ref b] below meth c H1 locs1 c1 s1 Q (F0 m 790 ls1 [])) (hmx : cA ≤ 10000 ∧ sA ≤ 400000) (hcs : cells + 172 ≤ cA ∧ slots + 20855 ≤ sA) (hl : lv_has ls 15 [(4, .int (nI sp)), (3, .ref B), (2, .ref P), (1, .int (nI ti)), (0, .ref b)]) : W p l e (rmK 2000 600064 7301640) s m #[.ref b] below meth c H locs cells slots Q (F0 m 62 ls []) := by
  rcases Decidable.em ((nowF D cnt y00).2.2.2.1 = 0) with hz | hn
  · exact s62_z X hbs hPs hPB hx hS hF hB hok hG hz kk hmx hcs hl
  · obtain ⟨t, ht, e⟩ := asmF_fn hG y00
    have e : (nowF D cnt y00).2.2.2.1 = nI t := e
    refine s62_f X hbs hPs hPB hx hS hF hB hok hG e ?_ ht kk hmx hcs hl
    exact Nat.pos_of_ne_zero (fun z => hn (by rw [e, z]; rfl))
section STEP
variable {g : GG} {p : Program} {l : Launch} {e : Env} {s : State} {m : MethodId} {below : List Frame} {meth : Method} {c : Code} {Q : State → Prop} {nm : String} {b L P B RA ti : Nat} {xs : Nat → Int32} {V : Value × Value × Value}
abbrev lwW (p : Program) (l : Launch) (e : Env) (s : State) (m : MethodId) (b : Nat) (below : List Frame) (meth : Method) (c : Code) (H : Heap) (locs : List Loc) (cells slots : Nat) (Q : State → Prop) (pc : Nat) (ls : Array Slot) : Prop := W p l e (rmK 2000 600064 7301640) s m #[.ref b] below meth c H locs cells slots Q (F0 m pc ls [])
set_option maxRecDepth 100000 in
set_option maxHeartbeats 4000000 in
/-- a step -/
theorem s46 (X : CX g p s m #[.ref b] meth c c_Law_law 15 (some .boolean) R_Law nm) (hL : L ≤ 260) (hbs : b < s.heap.size) (hPs : s.heap.size ≤ P) {sp cA sA : Nat} (hsp : sp < 4)
    (ks : ∀ (H1 : Heap) (locs1 : List Loc) (ls1 : Array Slot) (c1 s1 d1 : Nat) (cnt1 : Nat → Nat) (f1 : Nat → Nat → Nat) (fR1 : Nat → Nat) (fL1 : Nat → Nat → Nat) (D1 : DT) (Y1 : YS), lawP g P B b RA V d1 cnt1 f1 fR1 fL1 D1 Y1 H1 → d1 ≤ 400 + 40 * (sp + 1) → va_X b L xs s H1 → va_S (AA noA s.heap) s.heap H1 locs1 → lv_has ls1 15 [(4, .int (nI sp)), (3, .ref B), (2, .ref P), (1, .int (nI ti)), (0, .ref b)] → c1 ≤ cA → s1 ≤ sA → lwW p l e s m b below meth c H1 locs1 c1 s1 Q 790 ls1) (hmx : cA ≤ 10000 ∧ sA ≤ 400000)
    {H : Heap} {locs : List Loc} {ls : Array Slot} {cells slots d : Nat} {cnt : Nat → Nat} {f : Nat → Nat → Nat} {fR : Nat → Nat} {fL : Nat → Nat → Nat} {D : DT} {Y : YS} (hP : lawP g P B b RA V d cnt f fR fL D Y H) (hd : d ≤ 400 + 40 * sp) (hx : va_X b L xs s H) (hS : va_S (AA noA s.heap) s.heap H locs) (hcs : cells + 180 ≤ cA ∧ slots + 20967 ≤ sA) (hl : lv_has ls 15 [(4, .int (nI sp)), (3, .ref B), (2, .ref P), (1, .int (nI ti)), (0, .ref b)]) : lwW p l e s m b below meth c H locs cells slots Q 46 ls := by
  have hbP : b < P := by omega
  refine lv_aload_n X.x X.b d_Law_law_46 rfl (lv_at hl 2 rfl) ?_
  refine m_callVX X hS hx (N_Press_add l g hL hbP hP (by omega)) v_Law_22 hP.1 rfl rfl rfl (Nat.le_of_ble_eq_true rfl) hl.1 d_Law_law_47 (by omega) (by decide) ⟨by omega, by omega⟩ (fun q z => z.elim (fun z => by have z : P ≤ q := z; exact Or.inr (show s.heap.size ≤ q by omega)) (fun z => Or.inr (Nat.le_trans hS.1 z))) (fun w H1 locs hq hfr hS => ?_)
  have hx := hx.fr (g := g) hfr (fun z => by have z : P ≤ b := z; omega)
  obtain ⟨rfl, d1, cnt1, f1, fR1, fL1, D1, Y1, hP1, h1, h2⟩ := hq
  refine lv_if_eq (tgt := 60) X.x X.b d_Law_law_50 (by decide) (fun c1 => absurd c1 (by decide)) (fun _ => ?_)
  refine lv_aload_n X.x X.b d_Law_law_53 rfl (lv_at hl 2 rfl) ?_
  refine m_callVX X hS hx (N_Press_change l g hL hbP hP1 (by omega)) v_Law_25 hP1.1 rfl rfl rfl (Nat.le_of_ble_eq_true rfl) hl.1 d_Law_law_54 (by omega) (by decide) ⟨by omega, by omega⟩ (fun q z => z.elim (fun z => by have z : P ≤ q := z; exact Or.inr (show s.heap.size ≤ q by omega)) (fun z => Or.inr (Nat.le_trans hS.1 z))) (fun w H2 locs hq hfr hS => ?_)
  have hx := hx.fr (g := g) hfr (fun z => by have z : P ≤ b := z; omega)
  obtain ⟨rfl, d2, cnt2, f2, fR2, fL2, D2, Y2, hP2, h3, h4⟩ := hq
  refine lv_if_ne (tgt := 62) X.x X.b d_Law_law_57 (by decide) (fun _ => ?_) (fun c1 => absurd c1 (by decide))
  obtain ⟨k1, k2, k3, k4, k5, k6⟩ := hP2
  refine s62 X hbs hPs k4.1.1 hx hS ⟨k1, k2, k4, k5⟩ k3 k6 (k3.G k5) (fun H1 locs1 ls1 c1 s1 f1 Y1 hF hB hok hx hS hl hc hs => ?_) hmx (by omega) hl
  exact ks H1 locs1 ls1 c1 s1 _ _ _ _ _ _ _ ⟨hF.1, hF.2.1, hB, hF.2.2.1, hF.2.2.2, hok⟩ (by omega) hx hS hl hc hs
set_option maxRecDepth 100000 in
set_option maxHeartbeats 4000000 in
/-- the four steps -/
theorem s40 (X : CX g p s m #[.ref b] meth c c_Law_law 15 (some .boolean) R_Law nm) (hL : L ≤ 260) (hbs : b < s.heap.size) (hPs : s.heap.size ≤ P) {cB sB : Nat} (hmx : cB ≤ 10000 ∧ sB ≤ 400000)
    (kt : ∀ (H1 : Heap) (locs1 : List Loc) (ls1 : Array Slot) (c1 s1 : Nat), va_X b L xs s H1 → va_S (AA noA s.heap) s.heap H1 locs1 → lv_has ls1 15 [(1, .int (nI (ti + 1))), (0, .ref b)] → c1 ≤ cB → s1 ≤ sB → lwW p l e s m b below meth c H1 locs1 c1 s1 Q 2 ls1) :
    ∀ (n sp : Nat) (H : Heap) (locs : List Loc) (ls : Array Slot) (cells slots d : Nat) (cnt : Nat → Nat) (f : Nat → Nat → Nat) (fR : Nat → Nat) (fL : Nat → Nat → Nat) (D : DT) (Y : YS), n = 4 - sp → sp ≤ 4 → lawP g P B b RA V d cnt f fR fL D Y H → d ≤ 400 + 40 * sp → va_X b L xs s H → va_S (AA noA s.heap) s.heap H locs → cells + 180 * (4 - sp) ≤ cB → slots + 21000 * (4 - sp) ≤ sB → lv_has ls 15 [(4, .int (nI sp)), (3, .ref B), (2, .ref P), (1, .int (nI ti)), (0, .ref b)] → lwW p l e s m b below meth c H locs cells slots Q 40 ls := by
  intro n
  induction n with
  | zero =>
    intro sp H locs ls cells slots d cnt f fR fL D Y hn hsp hP hd hx hS hc hs hl
    refine lv_iload X.x X.b d_Law_law_40 (lv_at hl 0 rfl) ?_
    refine lv_iconst (v := 4) X.x X.b d_Law_law_42 (by decide) ?_
    refine lv_icmp_ge (tgt := 796) X.x X.b d_Law_law_43 (by decide) (fun _ => ?_) (fun c1 => absurd (nI_le (a := 4) (b := sp) (by omega) (by omega)) c1)
    refine lv_iinc (v := nI (ti + 1)) (lv' := [(1, .int (nI (ti + 1))), (4, .int (nI sp)), (3, .ref B), (2, .ref P), (0, .ref b)]) X.x X.b d_Law_law_796 hl (k := 3) rfl (nI_1 ti) (by decide) rfl (fun ls hl => ?_)
    refine lv_goto (tgt := 2) X.x X.b d_Law_law_799 (by decide) ?_
    exact kt H locs ls cells slots hx hS (lv_sub hl [0, 4] rfl) (by omega) (by omega)
  | succ n ih =>
    intro sp H locs ls cells slots d cnt f fR fL D Y hn hsp hP hd hx hS hc hs hl
    refine lv_iload X.x X.b d_Law_law_40 (lv_at hl 0 rfl) ?_
    refine lv_iconst (v := 4) X.x X.b d_Law_law_42 (by decide) ?_
    refine lv_icmp_ge (tgt := 796) X.x X.b d_Law_law_43 (by decide) (fun c1 => absurd ((nI_leI (a := 4) (b := sp) (by omega) (by omega)).mp c1) (by omega)) (fun _ => ?_)
    refine s46 (cA := cB - 180 * (3 - sp)) (sA := sB - 21000 * (3 - sp)) X hL hbs hPs (by omega) (fun H1 locs1 ls1 c1 s1 d1 cnt1 f1 fR1 fL1 D1 Y1 hP hd hx hS hl hc hs => ?_) (by omega) hP hd hx hS (by omega) hl
    refine lv_iinc (v := nI (sp + 1)) (lv' := [(4, .int (nI (sp + 1))), (3, .ref B), (2, .ref P), (1, .int (nI ti)), (0, .ref b)]) X.x X.b d_Law_law_790 hl (k := 0) rfl (nI_1 sp) (by decide) rfl (fun ls hl => ?_)
    refine lv_goto (tgt := 40) X.x X.b d_Law_law_793 (by decide) ?_
    exact ih (sp + 1) H1 locs1 ls c1 s1 d1 _ _ _ _ _ _ (by omega) (by omega) hP hd hx hS (by omega) (by omega) hl
set_option maxRecDepth 100000 in
set_option maxHeartbeats 4000000 in
/-- the three presses -/
theorem s2 (X : CX g p s m #[.ref b] meth c c_Law_law 15 (some .boolean) R_Law nm) (hL : L ≤ 260) (hbs : b < s.heap.size)
    (kend : ∀ (H1 : Heap) (locs1 : List Loc) (ls1 : Array Slot) (c1 s1 : Nat), va_S (AA noA s.heap) s.heap H1 locs1 → c1 ≤ 9000 → s1 ≤ 390000 → lwW p l e s m b below meth c H1 locs1 c1 s1 Q 802 ls1) :
    ∀ (n ti : Nat) (H : Heap) (locs : List Loc) (ls : Array Slot) (cells slots : Nat), n = 3 - ti → ti ≤ 3 → va_X b L xs s H → va_S (AA noA s.heap) s.heap H locs → cells + 1100 * (3 - ti) ≤ 9000 → slots + 100000 * (3 - ti) ≤ 390000 → lv_has ls 15 [(1, .int (nI ti)), (0, .ref b)] → lwW p l e s m b below meth c H locs cells slots Q 2 ls := by
  intro n
  induction n with
  | zero =>
    intro ti H locs ls cells slots hn hti hx hS hc hs hl
    refine lv_iload_n X.x X.b d_Law_law_2 rfl (lv_at hl 0 rfl) ?_
    refine lv_iconst (v := 3) X.x X.b d_Law_law_3 (by decide) ?_
    refine lv_icmp_ge (tgt := 802) X.x X.b d_Law_law_4 (by decide) (fun _ => ?_) (fun c1 => absurd (nI_le (a := 3) (b := ti) (by omega) (by omega)) c1)
    exact kend H locs ls cells slots hS (by omega) (by omega)
  | succ n ih =>
    intro ti H locs ls cells slots hn hti hx hS hc hs hl
    refine lv_iload_n X.x X.b d_Law_law_2 rfl (lv_at hl 0 rfl) ?_
    refine lv_iconst (v := 3) X.x X.b d_Law_law_3 (by decide) ?_
    refine lv_icmp_ge (tgt := 802) X.x X.b d_Law_law_4 (by decide) (fun c1 => absurd ((nI_leI (a := 3) (b := ti) (by omega) (by omega)).mp c1) (by omega)) (fun _ => ?_)
    obtain ⟨P, hP0⟩ : ∃ P : Nat, Array.size H = P := ⟨_, rfl⟩
    have hPs : s.heap.size ≤ P := by have := hS.1; omega
    have hbP : b < P := by omega
    refine m_newo (fs := pr0) X ok_Press hS hP0 cl_Pr in_Pr ini_Press (fun j hj => by rcases (show j = 0 ∨ j = 1 ∨ j = 2 ∨ j = 3 ∨ j = 4 ∨ j = 5 ∨ j = 6 ∨ j = 7 ∨ j = 8 ∨ j = 9 ∨ j = 10 ∨ j = 11 by omega) with rfl | rfl | rfl | rfl | rfl | rfl | rfl | rfl | rfl | rfl | rfl | rfl <;> rfl) (by omega) (by omega) d_Law_law_7 (fun H1 hn0 hgr hS hz => ?_)
    have hx := hx.grow hgr
    refine lv_dup X.x X.b d_Law_law_10 rfl ?_
    refine lv_aload_n X.x X.b d_Law_law_11 rfl (lv_at hl 1 rfl) ?_
    refine lv_bipush (v := 31) X.x X.b d_Law_law_12 (by decide) ?_
    refine lv_iload_n X.x X.b d_Law_law_14 rfl (lv_at hl 0 rfl) ?_
    refine lv_imul X.x X.b d_Law_law_15 ?_
    refine lv_bipush (v := 7) X.x X.b d_Law_law_16 (by decide) ?_
    refine lv_iadd X.x X.b d_Law_law_18 ?_
    rw [show (31 : Int32) * nI ti + 7 = nI (31 * ti + 7) by rw [show (31 : Int32) * nI ti = nI (31 * ti) from nI_mul 31 ti]; exact nI_add (31 * ti) 7]
    refine m_callIX X hS hx (N_Press_init (d := 31 * ti + 7) l g hbP hn0 hz) i_Law_11 rfl rfl (Nat.le_of_ble_eq_true rfl) hl.1 d_Law_law_19 (by omega) (by decide) ⟨by omega, by omega⟩ (fun q z => z.elim (fun z => by have z : P ≤ q := z; exact Or.inr (show s.heap.size ≤ q by omega)) (fun z => Or.inr (Nat.le_trans hS.1 z))) (fun H2 locs2 hq hfr hS => ?_)
    have hx := hx.fr (g := g) hfr (fun z => by have z : P ≤ b := z; omega)
    obtain ⟨B, RA, V, cnt, f, fR, fL, D, Y, hP⟩ := hq
    refine lv_astore_n (lv' := [(2, .ref P), (1, .int (nI ti)), (0, .ref b)]) X.x X.b d_Law_law_22 rfl hl (by decide) rfl (fun ls hl => ?_)
    refine lv_aload_n X.x X.b d_Law_law_23 rfl (lv_at hl 0 rfl) ?_
    refine m_get (v := .ref B) X ok_Press hP.1 0 (by decide) k_Law_14 rfl d_Law_law_24 ?_
    refine lv_astore_n (lv' := [(3, .ref B), (2, .ref P), (1, .int (nI ti)), (0, .ref b)]) X.x X.b d_Law_law_27 rfl hl (by decide) rfl (fun ls hl => ?_)
    refine lv_aload_n X.x X.b d_Law_law_28 rfl (lv_at hl 1 rfl) ?_
    refine m_callVX X hS hx (N_Press_found l g hL hbP hP (by omega)) v_Law_18 hP.1 rfl rfl rfl (Nat.le_of_ble_eq_true rfl) hl.1 d_Law_law_29 (by omega) (by decide) ⟨by omega, by omega⟩ (fun q z => z.elim (fun z => by have z : P ≤ q := z; exact Or.inr (show s.heap.size ≤ q by omega)) (fun z => Or.inr (Nat.le_trans hS.1 z))) (fun w H3 locs hq hfr hS => ?_)
    have hx := hx.fr (g := g) hfr (fun z => by have z : P ≤ b := z; omega)
    obtain ⟨rfl, d1, cnt1, f1, fR1, fL1, D1, Y1, hP1, h1, h2⟩ := hq
    refine lv_if_ne (tgt := 37) X.x X.b d_Law_law_32 (by decide) (fun _ => ?_) (fun c1 => absurd c1 (by decide))
    refine lv_iconst (v := 0) X.x X.b d_Law_law_37 (by decide) ?_
    refine lv_istore (lv' := [(4, .int 0), (3, .ref B), (2, .ref P), (1, .int (nI ti)), (0, .ref b)]) X.x X.b d_Law_law_38 hl (by decide) rfl (fun ls hl => ?_)
    refine s40 (cB := 9000 - 1100 * (2 - ti)) (sB := 390000 - 100000 * (2 - ti)) X hL hbs hPs (by omega) (fun H1 locs1 ls1 c1 s1 hx hS hl hc hs => ?_) 4 0 _ _ ls _ _ d1 _ _ _ _ _ _ rfl (by omega) hP1 (by omega) hx hS (by omega) (by omega) hl
    exact ih (ti + 1) H1 locs1 ls1 c1 s1 (by omega) (by omega) hx hS (by omega) (by omega) hl
end STEP
