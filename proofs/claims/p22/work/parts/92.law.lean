-- THE LAW'S BODY: AN END, A DATA AT MAIN'S END; LONGBY
set_option maxRecDepth 100000 in
set_option maxHeartbeats 4000000 in
theorem s252_z {g : GG} {p : Program} {l : Launch} {e : Env} {s : State} {m : MethodId} {below : List Frame} {meth : Method} {c : Code} {H : Heap} {locs : List Loc} {cells slots : Nat} {Q : State → Prop} {nm : String} {ls : Array Slot} {b L P B RA d ti sp cA sA : Nat} {xs : Nat → Int32} {V : Value × Value × Value} {cnt : Nat → Nat} {f : Nat → Nat → Nat} {fR : Nat → Nat} {fL : Nat → Nat → Nat} {D : DT} {Y : YS} (X : CX g p s m #[.ref b] meth c c_Law_law 15 (some .boolean) R_Law nm) (hbs : b < s.heap.size) (hPs : s.heap.size ≤ P) (hPB : P < B) (hx : va_X b L xs s H) (hS : va_S (AA noA s.heap) s.heap H locs) (hF : lawF g P B b RA V d cnt fR fL D H) (hB : bAt g B cnt f D Y H) (hok : OKY D cnt Y) (hG : lnsG D cnt) {al : Nat} {fa : Nat → Int32} (hal : pt g al (.inl (g.2 0, wnF D cnt, .inl fa)) H) (hal0 : B + 287 ≤ al) (hfa : ∀ i, i < wnF D cnt → fa i = wdF (nowF D cnt y00).1 (nowF D cnt y00).2.1 (nI i)) (hz : (nowF D cnt y00).2.2.2.1 = 0) (kk : ∀ (H1 : Heap) (locs1 : List Loc) (ls1 : Array Slot) (c1 s1 : Nat) (f1 : Nat → Nat → Nat) (Y1 : YS), lawF g P B b RA V d cnt fR fL D H1 → bAt g B cnt f1 D Y1 H1 → OKY D cnt Y1 → va_X b L xs s H1 → va_S (AA noA s.heap) s.heap H1 locs1 → lv_has ls1 15 [(4, .int (nI sp)), (3, .ref B), (2, .ref P), (1, .int (nI ti)), (0, .ref b)] → c1 ≤ cA → s1 ≤ sA → W p l e (rmK 2000 600064 7301640) s m #[.ref b] below meth c H1 locs1 c1 s1 Q (F0 m 790 ls1 [])) (hmx : cA ≤ 10000 ∧ sA ≤ 400000) (hc : cnt 0 < 40) (hcs : cells + 169 ≤ cA ∧ slots + 845 ≤ sA) (hl : lv_has ls 15 [(10, .ref al), (9, .int 0), (8, .int (nI (wnF D cnt))), (7, .int (nI (cnt 0))), (5, .long (dgC D cnt)), (4, .int (nI sp)), (3, .ref B), (2, .ref P), (1, .int (nI ti)), (0, .ref b)]) : W p l e (rmK 2000 600064 7301640) s m #[.ref b] below meth c H locs cells slots Q (F0 m 252 ls []) := by
  have hyf : Y.2.2.2.1 = 0 := hok.fn.trans hz
  have hW20 := (hok.tal3 hG).2
  have hwm : ¬ nI (wnF D cnt) = -1 := nI_m1 (by omega)
  rcases more_data hG (by omega) hz with h2 | h6 | ⟨h0, hw | hw⟩
  · skip
    refine lv_aload_n X.x X.b d_Law_law_252 rfl (lv_at hl 6 rfl) ?_
    refine lv_iconst (v := 0) X.x X.b d_Law_law_253 (by decide) ?_
    refine lv_iconst (v := 2) X.x X.b d_Law_law_254 (by decide) ?_
    refine lv_iconst (v := -1) X.x X.b d_Law_law_255 (by decide) ?_
    refine lv_iconst (v := -1) X.x X.b d_Law_law_256 (by decide) ?_
    refine lv_bipush (v := 7) X.x X.b d_Law_law_257 (by decide) ?_
    refine lv_iconst (v := 0) X.x X.b d_Law_law_259 (by decide) ?_
    have hR := M_BP_add l g hB (r := 0) (by omega) (show cnt 0 < capF 40 0 from hc) (show lnOk 2 (-1) (-1) 7 0 from by decide) (Or.inl rfl) rfl
    refine m_callV X hS hR v_Law_54 hB.1 rfl rfl rfl (Nat.le_of_ble_eq_true rfl) hl.1 d_Law_law_260 (by omega) (by decide) ⟨by omega, by omega⟩ (fun q z => z.elim (fun z => by have z : B ≤ q ∧ q < B + 287 := z; exact Or.inr (show s.heap.size ≤ q by omega)) (fun z => Or.inr (Nat.le_trans hS.1 z))) (fun H1 locs hB hfr hS => ?_)
    clear hR
    have hF := hF.frm hfr (fun q z => z)
    have hx := hx.fr (g := g) hfr (fun z => by have z : B ≤ b ∧ b < B + 287 := z; omega)
    have hal := pt.fr hal hfr (fun z => by have z : B ≤ al ∧ al < B + 287 := z; omega)
    obtain ⟨YD, hYD⟩ : ∃ z, z = nowF (moreD D cnt (dl 2 (-1) (-1) 7 0)) (moreC cnt) Y := ⟨_, rfl⟩
    obtain ⟨f', hB⟩ : ∃ f', bAt g B (moreC cnt) f' (moreD D cnt (dl 2 (-1) (-1) 7 0)) (nowF (moreD D cnt (dl 2 (-1) (-1) 7 0)) (moreC cnt) Y) H1 := ⟨_, hB⟩
    rw [← hYD] at hB
    have hokD : OKY (moreD D cnt (dl 2 (-1) (-1) 7 0)) (moreC cnt) YD := by rw [hYD]; exact OKY.now _ _ Y
    have hGD : lnsG (moreD D cnt (dl 2 (-1) (-1) 7 0)) (moreC cnt) := more_G hG (by omega) (show lnOk 2 (-1) (-1) 7 0 from by decide)
    have hfY : YD.2.2.2.1 = 2 := hokD.fn.trans h2
    refine lv_iload X.x X.b d_Law_law_263 (lv_at hl 3 rfl) ?_
    refine lv_icmp_eq (tgt := 270) X.x X.b d_Law_law_265 (by decide) (fun c1 => ?_) (fun c1 => ?_)
    · skip
      refine lv_aload_n X.x X.b d_Law_law_270 rfl (lv_at hl 6 rfl) ?_
      refine lv_iconst (v := 3) X.x X.b d_Law_law_271 (by decide) ?_
      have hR := M_BP_many (wt := 3) l g hB (by decide) (by decide)
      rw [hokD.many3 hGD, if_neg (by rw [hfY]; decide)] at hR
      refine m_callP X hS hR v_Law_34 hB.1 rfl rfl rfl (Nat.le_of_ble_eq_true rfl) hl.1 d_Law_law_272 (by omega) (by decide) ⟨by omega, by omega⟩ (fun locs hS => ?_)
      clear hR
      refine lv_istore (lv' := [(11, .int (-1)), (10, .ref al), (9, .int 0), (8, .int (nI (wnF D cnt))), (7, .int (nI (cnt 0))), (5, .long (dgC D cnt)), (4, .int (nI sp)), (3, .ref B), (2, .ref P), (1, .int (nI ti)), (0, .ref b)]) X.x X.b d_Law_law_275 hl (by decide) rfl (fun ls hl => ?_)
      refine lv_iload X.x X.b d_Law_law_277 (lv_at hl 2 rfl) ?_
      refine lv_if_ne (tgt := 304) X.x X.b d_Law_law_279 (by decide) (fun c2 => ?_) (fun c2 => ?_)
      · exact absurd rfl c2
      · skip
        refine lv_iload X.x X.b d_Law_law_282 (lv_at hl 0 rfl) ?_
        refine lv_iconst (v := -1) X.x X.b d_Law_law_284 (by decide) ?_
        refine lv_icmp_eq (tgt := 304) X.x X.b d_Law_law_285 (by decide) (fun c3 => ?_) (fun c3 => ?_)
        · skip
          refine lv_iload X.x X.b d_Law_law_304 (lv_at hl 2 rfl) ?_
          refine lv_if_ne (tgt := 332) X.x X.b d_Law_law_306 (by decide) (fun c4 => ?_) (fun c4 => ?_)
          · exact absurd c2 c4
          · skip
            refine lv_iload X.x X.b d_Law_law_309 (lv_at hl 0 rfl) ?_
            refine lv_iconst (v := -1) X.x X.b d_Law_law_311 (by decide) ?_
            refine lv_icmp_ne (tgt := 332) X.x X.b d_Law_law_312 (by decide) (fun c5 => ?_) (fun c5 => ?_)
            · exact absurd c3 c5
            · skip
              refine lv_aload_n X.x X.b d_Law_law_315 rfl (lv_at hl 7 rfl) ?_
              have hR := M_BP_fault l g hB
              rw [hfY] at hR
              refine m_callP X hS hR v_Law_38 hB.1 rfl rfl rfl (Nat.le_of_ble_eq_true rfl) hl.1 d_Law_law_316 (by omega) (by decide) ⟨by omega, by omega⟩ (fun locs hS => ?_)
              clear hR
              refine lv_iconst (v := 2) X.x X.b d_Law_law_319 (by decide) ?_
              refine lv_icmp_eq (tgt := 332) X.x X.b d_Law_law_320 (by decide) (fun c6 => ?_) (fun c6 => ?_)
              · skip
                refine lv_aload_n X.x X.b d_Law_law_332 rfl (lv_at hl 7 rfl) ?_
                refine lv_iconst (v := 0) X.x X.b d_Law_law_333 (by decide) ?_
                refine lv_iload X.x X.b d_Law_law_334 (lv_at hl 4 rfl) ?_
                have hR := M_BP_cut l g hB (r := 0) (t := cnt 0) (by omega) (show cnt 0 < moreC cnt 0 by rw [moreC_0]; omega)
                rw [back_C, back_D, show moreC cnt 0 - 1 = cnt 0 by rw [moreC_0]; rfl] at hR
                refine m_callV X hS hR v_Law_63 hB.1 rfl rfl rfl (Nat.le_of_ble_eq_true rfl) hl.1 d_Law_law_336 (by omega) (by decide) ⟨by omega, by omega⟩ (fun q z => z.elim (fun z => by have z : B ≤ q ∧ q < B + 287 := z; exact Or.inr (show s.heap.size ≤ q by omega)) (fun z => Or.inr (Nat.le_trans hS.1 z))) (fun H1 locs hB hfr hS => ?_)
                clear hR
                have hF := hF.frm hfr (fun q z => z)
                have hx := hx.fr (g := g) hfr (fun z => by have z : B ≤ b ∧ b < B + 287 := z; omega)
                have hal := pt.fr hal hfr (fun z => by have z : B ≤ al ∧ al < B + 287 := z; omega)
                have hok : OKY D cnt _ := OKY.now D cnt YD
                refine lv_iload X.x X.b d_Law_law_339 (lv_at hl 4 rfl) ?_
                refine lv_icmp_ne (tgt := 354) X.x X.b d_Law_law_341 (by decide) (fun c7 => ?_) (fun c7 => ?_)
                · exact absurd c1 c7
                · skip
                  refine lv_aload_n X.x X.b d_Law_law_344 rfl (lv_at hl 7 rfl) ?_
                  have hR := M_BP_digest l g hB (hok.tal3 hG).1 (hok.tal3 hG).2 (hok.held hG)
                  rw [hok.dgc] at hR
                  refine m_callV X hS hR v_Law_28 hB.1 rfl rfl rfl (Nat.le_of_ble_eq_true rfl) hl.1 d_Law_law_345 (by omega) (by decide) ⟨by omega, by omega⟩ (fun q z => z.elim (fun z => by have z : B ≤ q ∧ q < B + 287 := z; exact Or.inr (show s.heap.size ≤ q by omega)) (fun z => Or.inr (Nat.le_trans hS.1 z))) (fun H1 locs hB hfr hS => ?_)
                  clear hR
                  have hok := hok.dg hG
                  have hF := hF.frm hfr (fun q z => z)
                  have hx := hx.fr (g := g) hfr (fun z => by have z : B ≤ b ∧ b < B + 287 := z; omega)
                  have hal := pt.fr hal hfr (fun z => by have z : B ≤ al ∧ al < B + 287 := z; omega)
                  refine lv_lload X.x X.b d_Law_law_348 (lv_at hl 5 rfl) ?_
                  refine m_lcmp0 X d_Law_law_350 ?_
                  refine lv_if_eq (tgt := 356) X.x X.b d_Law_law_351 (by decide) (fun c8 => ?_) (fun c8 => ?_)
                  · skip
                    refine lv_iconst (v := 0) X.x X.b d_Law_law_356 (by decide) ?_
                    refine lv_istore (lv' := [(11, .int 0), (10, .ref al), (9, .int 0), (8, .int (nI (wnF D cnt))), (7, .int (nI (cnt 0))), (5, .long (dgC D cnt)), (4, .int (nI sp)), (3, .ref B), (2, .ref P), (1, .int (nI ti)), (0, .ref b)]) X.x X.b d_Law_law_357 hl (by decide) rfl (fun ls hl => ?_)
                    exact L2_z X hbs hPs hPB hx hS hF hB hok hG hal hal0 hfa hz kk hmx (by omega) (lv_sub hl [0, 1, 2, 3, 4, 5, 6, 7, 8, 9, 10] rfl)
                  · exact absurd c4 c8
              · exact absurd rfl c6
        · exact absurd rfl c3
    · exact absurd rfl c1
  · skip
    refine lv_aload_n X.x X.b d_Law_law_252 rfl (lv_at hl 6 rfl) ?_
    refine lv_iconst (v := 0) X.x X.b d_Law_law_253 (by decide) ?_
    refine lv_iconst (v := 2) X.x X.b d_Law_law_254 (by decide) ?_
    refine lv_iconst (v := -1) X.x X.b d_Law_law_255 (by decide) ?_
    refine lv_iconst (v := -1) X.x X.b d_Law_law_256 (by decide) ?_
    refine lv_bipush (v := 7) X.x X.b d_Law_law_257 (by decide) ?_
    refine lv_iconst (v := 0) X.x X.b d_Law_law_259 (by decide) ?_
    have hR := M_BP_add l g hB (r := 0) (by omega) (show cnt 0 < capF 40 0 from hc) (show lnOk 2 (-1) (-1) 7 0 from by decide) (Or.inl rfl) rfl
    refine m_callV X hS hR v_Law_54 hB.1 rfl rfl rfl (Nat.le_of_ble_eq_true rfl) hl.1 d_Law_law_260 (by omega) (by decide) ⟨by omega, by omega⟩ (fun q z => z.elim (fun z => by have z : B ≤ q ∧ q < B + 287 := z; exact Or.inr (show s.heap.size ≤ q by omega)) (fun z => Or.inr (Nat.le_trans hS.1 z))) (fun H1 locs hB hfr hS => ?_)
    clear hR
    have hF := hF.frm hfr (fun q z => z)
    have hx := hx.fr (g := g) hfr (fun z => by have z : B ≤ b ∧ b < B + 287 := z; omega)
    have hal := pt.fr hal hfr (fun z => by have z : B ≤ al ∧ al < B + 287 := z; omega)
    obtain ⟨YD, hYD⟩ : ∃ z, z = nowF (moreD D cnt (dl 2 (-1) (-1) 7 0)) (moreC cnt) Y := ⟨_, rfl⟩
    obtain ⟨f', hB⟩ : ∃ f', bAt g B (moreC cnt) f' (moreD D cnt (dl 2 (-1) (-1) 7 0)) (nowF (moreD D cnt (dl 2 (-1) (-1) 7 0)) (moreC cnt) Y) H1 := ⟨_, hB⟩
    rw [← hYD] at hB
    have hokD : OKY (moreD D cnt (dl 2 (-1) (-1) 7 0)) (moreC cnt) YD := by rw [hYD]; exact OKY.now _ _ Y
    have hGD : lnsG (moreD D cnt (dl 2 (-1) (-1) 7 0)) (moreC cnt) := more_G hG (by omega) (show lnOk 2 (-1) (-1) 7 0 from by decide)
    have hfY : YD.2.2.2.1 = 6 := hokD.fn.trans h6
    refine lv_iload X.x X.b d_Law_law_263 (lv_at hl 3 rfl) ?_
    refine lv_icmp_eq (tgt := 270) X.x X.b d_Law_law_265 (by decide) (fun c9 => ?_) (fun c9 => ?_)
    · skip
      refine lv_aload_n X.x X.b d_Law_law_270 rfl (lv_at hl 6 rfl) ?_
      refine lv_iconst (v := 3) X.x X.b d_Law_law_271 (by decide) ?_
      have hR := M_BP_many (wt := 3) l g hB (by decide) (by decide)
      rw [hokD.many3 hGD, if_neg (by rw [hfY]; decide)] at hR
      refine m_callP X hS hR v_Law_34 hB.1 rfl rfl rfl (Nat.le_of_ble_eq_true rfl) hl.1 d_Law_law_272 (by omega) (by decide) ⟨by omega, by omega⟩ (fun locs hS => ?_)
      clear hR
      refine lv_istore (lv' := [(11, .int (-1)), (10, .ref al), (9, .int 0), (8, .int (nI (wnF D cnt))), (7, .int (nI (cnt 0))), (5, .long (dgC D cnt)), (4, .int (nI sp)), (3, .ref B), (2, .ref P), (1, .int (nI ti)), (0, .ref b)]) X.x X.b d_Law_law_275 hl (by decide) rfl (fun ls hl => ?_)
      refine lv_iload X.x X.b d_Law_law_277 (lv_at hl 2 rfl) ?_
      refine lv_if_ne (tgt := 304) X.x X.b d_Law_law_279 (by decide) (fun c10 => ?_) (fun c10 => ?_)
      · exact absurd rfl c10
      · skip
        refine lv_iload X.x X.b d_Law_law_282 (lv_at hl 0 rfl) ?_
        refine lv_iconst (v := -1) X.x X.b d_Law_law_284 (by decide) ?_
        refine lv_icmp_eq (tgt := 304) X.x X.b d_Law_law_285 (by decide) (fun c11 => ?_) (fun c11 => ?_)
        · skip
          refine lv_iload X.x X.b d_Law_law_304 (lv_at hl 2 rfl) ?_
          refine lv_if_ne (tgt := 332) X.x X.b d_Law_law_306 (by decide) (fun c12 => ?_) (fun c12 => ?_)
          · exact absurd c10 c12
          · skip
            refine lv_iload X.x X.b d_Law_law_309 (lv_at hl 0 rfl) ?_
            refine lv_iconst (v := -1) X.x X.b d_Law_law_311 (by decide) ?_
            refine lv_icmp_ne (tgt := 332) X.x X.b d_Law_law_312 (by decide) (fun c13 => ?_) (fun c13 => ?_)
            · exact absurd c11 c13
            · skip
              refine lv_aload_n X.x X.b d_Law_law_315 rfl (lv_at hl 7 rfl) ?_
              have hR := M_BP_fault l g hB
              rw [hfY] at hR
              refine m_callP X hS hR v_Law_38 hB.1 rfl rfl rfl (Nat.le_of_ble_eq_true rfl) hl.1 d_Law_law_316 (by omega) (by decide) ⟨by omega, by omega⟩ (fun locs hS => ?_)
              clear hR
              refine lv_iconst (v := 2) X.x X.b d_Law_law_319 (by decide) ?_
              refine lv_icmp_eq (tgt := 332) X.x X.b d_Law_law_320 (by decide) (fun c14 => ?_) (fun c14 => ?_)
              · exact absurd c14 (by decide)
              · skip
                refine lv_aload_n X.x X.b d_Law_law_323 rfl (lv_at hl 7 rfl) ?_
                have hR := M_BP_fault l g hB
                rw [hfY] at hR
                refine m_callP X hS hR v_Law_38 hB.1 rfl rfl rfl (Nat.le_of_ble_eq_true rfl) hl.1 d_Law_law_324 (by omega) (by decide) ⟨by omega, by omega⟩ (fun locs hS => ?_)
                clear hR
                refine lv_bipush (v := 6) X.x X.b d_Law_law_327 (by decide) ?_
                refine lv_icmp_ne (tgt := 354) X.x X.b d_Law_law_329 (by decide) (fun c15 => ?_) (fun c15 => ?_)
                · exact absurd rfl c15
                · skip
                  refine lv_aload_n X.x X.b d_Law_law_332 rfl (lv_at hl 7 rfl) ?_
                  refine lv_iconst (v := 0) X.x X.b d_Law_law_333 (by decide) ?_
                  refine lv_iload X.x X.b d_Law_law_334 (lv_at hl 4 rfl) ?_
                  have hR := M_BP_cut l g hB (r := 0) (t := cnt 0) (by omega) (show cnt 0 < moreC cnt 0 by rw [moreC_0]; omega)
                  rw [back_C, back_D, show moreC cnt 0 - 1 = cnt 0 by rw [moreC_0]; rfl] at hR
                  refine m_callV X hS hR v_Law_63 hB.1 rfl rfl rfl (Nat.le_of_ble_eq_true rfl) hl.1 d_Law_law_336 (by omega) (by decide) ⟨by omega, by omega⟩ (fun q z => z.elim (fun z => by have z : B ≤ q ∧ q < B + 287 := z; exact Or.inr (show s.heap.size ≤ q by omega)) (fun z => Or.inr (Nat.le_trans hS.1 z))) (fun H1 locs hB hfr hS => ?_)
                  clear hR
                  have hF := hF.frm hfr (fun q z => z)
                  have hx := hx.fr (g := g) hfr (fun z => by have z : B ≤ b ∧ b < B + 287 := z; omega)
                  have hal := pt.fr hal hfr (fun z => by have z : B ≤ al ∧ al < B + 287 := z; omega)
                  have hok : OKY D cnt _ := OKY.now D cnt YD
                  refine lv_iload X.x X.b d_Law_law_339 (lv_at hl 4 rfl) ?_
                  refine lv_icmp_ne (tgt := 354) X.x X.b d_Law_law_341 (by decide) (fun c16 => ?_) (fun c16 => ?_)
                  · exact absurd c9 c16
                  · skip
                    refine lv_aload_n X.x X.b d_Law_law_344 rfl (lv_at hl 7 rfl) ?_
                    have hR := M_BP_digest l g hB (hok.tal3 hG).1 (hok.tal3 hG).2 (hok.held hG)
                    rw [hok.dgc] at hR
                    refine m_callV X hS hR v_Law_28 hB.1 rfl rfl rfl (Nat.le_of_ble_eq_true rfl) hl.1 d_Law_law_345 (by omega) (by decide) ⟨by omega, by omega⟩ (fun q z => z.elim (fun z => by have z : B ≤ q ∧ q < B + 287 := z; exact Or.inr (show s.heap.size ≤ q by omega)) (fun z => Or.inr (Nat.le_trans hS.1 z))) (fun H1 locs hB hfr hS => ?_)
                    clear hR
                    have hok := hok.dg hG
                    have hF := hF.frm hfr (fun q z => z)
                    have hx := hx.fr (g := g) hfr (fun z => by have z : B ≤ b ∧ b < B + 287 := z; omega)
                    have hal := pt.fr hal hfr (fun z => by have z : B ≤ al ∧ al < B + 287 := z; omega)
                    refine lv_lload X.x X.b d_Law_law_348 (lv_at hl 5 rfl) ?_
                    refine m_lcmp0 X d_Law_law_350 ?_
                    refine lv_if_eq (tgt := 356) X.x X.b d_Law_law_351 (by decide) (fun c17 => ?_) (fun c17 => ?_)
                    · skip
                      refine lv_iconst (v := 0) X.x X.b d_Law_law_356 (by decide) ?_
                      refine lv_istore (lv' := [(11, .int 0), (10, .ref al), (9, .int 0), (8, .int (nI (wnF D cnt))), (7, .int (nI (cnt 0))), (5, .long (dgC D cnt)), (4, .int (nI sp)), (3, .ref B), (2, .ref P), (1, .int (nI ti)), (0, .ref b)]) X.x X.b d_Law_law_357 hl (by decide) rfl (fun ls hl => ?_)
                      exact L2_z X hbs hPs hPB hx hS hF hB hok hG hal hal0 hfa hz kk hmx (by omega) (lv_sub hl [0, 1, 2, 3, 4, 5, 6, 7, 8, 9, 10] rfl)
                    · exact absurd c12 c17
        · exact absurd rfl c11
    · exact absurd rfl c9
  · skip
    refine lv_aload_n X.x X.b d_Law_law_252 rfl (lv_at hl 6 rfl) ?_
    refine lv_iconst (v := 0) X.x X.b d_Law_law_253 (by decide) ?_
    refine lv_iconst (v := 2) X.x X.b d_Law_law_254 (by decide) ?_
    refine lv_iconst (v := -1) X.x X.b d_Law_law_255 (by decide) ?_
    refine lv_iconst (v := -1) X.x X.b d_Law_law_256 (by decide) ?_
    refine lv_bipush (v := 7) X.x X.b d_Law_law_257 (by decide) ?_
    refine lv_iconst (v := 0) X.x X.b d_Law_law_259 (by decide) ?_
    have hR := M_BP_add l g hB (r := 0) (by omega) (show cnt 0 < capF 40 0 from hc) (show lnOk 2 (-1) (-1) 7 0 from by decide) (Or.inl rfl) rfl
    refine m_callV X hS hR v_Law_54 hB.1 rfl rfl rfl (Nat.le_of_ble_eq_true rfl) hl.1 d_Law_law_260 (by omega) (by decide) ⟨by omega, by omega⟩ (fun q z => z.elim (fun z => by have z : B ≤ q ∧ q < B + 287 := z; exact Or.inr (show s.heap.size ≤ q by omega)) (fun z => Or.inr (Nat.le_trans hS.1 z))) (fun H1 locs hB hfr hS => ?_)
    clear hR
    have hF := hF.frm hfr (fun q z => z)
    have hx := hx.fr (g := g) hfr (fun z => by have z : B ≤ b ∧ b < B + 287 := z; omega)
    have hal := pt.fr hal hfr (fun z => by have z : B ≤ al ∧ al < B + 287 := z; omega)
    obtain ⟨YD, hYD⟩ : ∃ z, z = nowF (moreD D cnt (dl 2 (-1) (-1) 7 0)) (moreC cnt) Y := ⟨_, rfl⟩
    obtain ⟨f', hB⟩ : ∃ f', bAt g B (moreC cnt) f' (moreD D cnt (dl 2 (-1) (-1) 7 0)) (nowF (moreD D cnt (dl 2 (-1) (-1) 7 0)) (moreC cnt) Y) H1 := ⟨_, hB⟩
    rw [← hYD] at hB
    have hokD : OKY (moreD D cnt (dl 2 (-1) (-1) 7 0)) (moreC cnt) YD := by rw [hYD]; exact OKY.now _ _ Y
    have hGD : lnsG (moreD D cnt (dl 2 (-1) (-1) 7 0)) (moreC cnt) := more_G hG (by omega) (show lnOk 2 (-1) (-1) 7 0 from by decide)
    have hfY : YD.2.2.2.1 = 0 := hokD.fn.trans h0
    refine lv_iload X.x X.b d_Law_law_263 (lv_at hl 3 rfl) ?_
    refine lv_icmp_eq (tgt := 270) X.x X.b d_Law_law_265 (by decide) (fun c18 => ?_) (fun c18 => ?_)
    · skip
      refine lv_aload_n X.x X.b d_Law_law_270 rfl (lv_at hl 6 rfl) ?_
      refine lv_iconst (v := 3) X.x X.b d_Law_law_271 (by decide) ?_
      have hR := M_BP_many (wt := 3) l g hB (by decide) (by decide)
      rw [hokD.many3 hGD, if_pos hfY, hw] at hR
      refine m_callP X hS hR v_Law_34 hB.1 rfl rfl rfl (Nat.le_of_ble_eq_true rfl) hl.1 d_Law_law_272 (by omega) (by decide) ⟨by omega, by omega⟩ (fun locs hS => ?_)
      clear hR
      refine lv_istore (lv' := [(11, .int (nI (wnF D cnt))), (10, .ref al), (9, .int 0), (8, .int (nI (wnF D cnt))), (7, .int (nI (cnt 0))), (5, .long (dgC D cnt)), (4, .int (nI sp)), (3, .ref B), (2, .ref P), (1, .int (nI ti)), (0, .ref b)]) X.x X.b d_Law_law_275 hl (by decide) rfl (fun ls hl => ?_)
      refine lv_iload X.x X.b d_Law_law_277 (lv_at hl 2 rfl) ?_
      refine lv_if_ne (tgt := 304) X.x X.b d_Law_law_279 (by decide) (fun c19 => ?_) (fun c19 => ?_)
      · exact absurd rfl c19
      · skip
        refine lv_iload X.x X.b d_Law_law_282 (lv_at hl 0 rfl) ?_
        refine lv_iconst (v := -1) X.x X.b d_Law_law_284 (by decide) ?_
        refine lv_icmp_eq (tgt := 304) X.x X.b d_Law_law_285 (by decide) (fun c20 => ?_) (fun c20 => ?_)
        · exact absurd c20 hwm
        · skip
          refine lv_iload X.x X.b d_Law_law_288 (lv_at hl 0 rfl) ?_
          refine lv_iload X.x X.b d_Law_law_290 (lv_at hl 3 rfl) ?_
          refine lv_iconst (v := 1) X.x X.b d_Law_law_292 (by decide) ?_
          refine lv_iadd X.x X.b d_Law_law_293 ?_
          rw [show nI (wnF D cnt) + 1 = nI (wnF D cnt + 1) from nI_add (wnF D cnt) 1]
          refine lv_icmp_eq (tgt := 304) X.x X.b d_Law_law_294 (by decide) (fun c21 => ?_) (fun c21 => ?_)
          · skip
            refine lv_iload X.x X.b d_Law_law_304 (lv_at hl 2 rfl) ?_
            refine lv_if_ne (tgt := 332) X.x X.b d_Law_law_306 (by decide) (fun c22 => ?_) (fun c22 => ?_)
            · exact absurd c19 c22
            · skip
              refine lv_iload X.x X.b d_Law_law_309 (lv_at hl 0 rfl) ?_
              refine lv_iconst (v := -1) X.x X.b d_Law_law_311 (by decide) ?_
              refine lv_icmp_ne (tgt := 332) X.x X.b d_Law_law_312 (by decide) (fun c23 => ?_) (fun c23 => ?_)
              · skip
                refine lv_aload_n X.x X.b d_Law_law_332 rfl (lv_at hl 7 rfl) ?_
                refine lv_iconst (v := 0) X.x X.b d_Law_law_333 (by decide) ?_
                refine lv_iload X.x X.b d_Law_law_334 (lv_at hl 4 rfl) ?_
                have hR := M_BP_cut l g hB (r := 0) (t := cnt 0) (by omega) (show cnt 0 < moreC cnt 0 by rw [moreC_0]; omega)
                rw [back_C, back_D, show moreC cnt 0 - 1 = cnt 0 by rw [moreC_0]; rfl] at hR
                refine m_callV X hS hR v_Law_63 hB.1 rfl rfl rfl (Nat.le_of_ble_eq_true rfl) hl.1 d_Law_law_336 (by omega) (by decide) ⟨by omega, by omega⟩ (fun q z => z.elim (fun z => by have z : B ≤ q ∧ q < B + 287 := z; exact Or.inr (show s.heap.size ≤ q by omega)) (fun z => Or.inr (Nat.le_trans hS.1 z))) (fun H1 locs hB hfr hS => ?_)
                clear hR
                have hF := hF.frm hfr (fun q z => z)
                have hx := hx.fr (g := g) hfr (fun z => by have z : B ≤ b ∧ b < B + 287 := z; omega)
                have hal := pt.fr hal hfr (fun z => by have z : B ≤ al ∧ al < B + 287 := z; omega)
                have hok : OKY D cnt _ := OKY.now D cnt YD
                refine lv_iload X.x X.b d_Law_law_339 (lv_at hl 4 rfl) ?_
                refine lv_icmp_ne (tgt := 354) X.x X.b d_Law_law_341 (by decide) (fun c24 => ?_) (fun c24 => ?_)
                · exact absurd c18 c24
                · skip
                  refine lv_aload_n X.x X.b d_Law_law_344 rfl (lv_at hl 7 rfl) ?_
                  have hR := M_BP_digest l g hB (hok.tal3 hG).1 (hok.tal3 hG).2 (hok.held hG)
                  rw [hok.dgc] at hR
                  refine m_callV X hS hR v_Law_28 hB.1 rfl rfl rfl (Nat.le_of_ble_eq_true rfl) hl.1 d_Law_law_345 (by omega) (by decide) ⟨by omega, by omega⟩ (fun q z => z.elim (fun z => by have z : B ≤ q ∧ q < B + 287 := z; exact Or.inr (show s.heap.size ≤ q by omega)) (fun z => Or.inr (Nat.le_trans hS.1 z))) (fun H1 locs hB hfr hS => ?_)
                  clear hR
                  have hok := hok.dg hG
                  have hF := hF.frm hfr (fun q z => z)
                  have hx := hx.fr (g := g) hfr (fun z => by have z : B ≤ b ∧ b < B + 287 := z; omega)
                  have hal := pt.fr hal hfr (fun z => by have z : B ≤ al ∧ al < B + 287 := z; omega)
                  refine lv_lload X.x X.b d_Law_law_348 (lv_at hl 5 rfl) ?_
                  refine m_lcmp0 X d_Law_law_350 ?_
                  refine lv_if_eq (tgt := 356) X.x X.b d_Law_law_351 (by decide) (fun c25 => ?_) (fun c25 => ?_)
                  · skip
                    refine lv_iconst (v := 0) X.x X.b d_Law_law_356 (by decide) ?_
                    refine lv_istore (lv' := [(11, .int 0), (10, .ref al), (9, .int 0), (8, .int (nI (wnF D cnt))), (7, .int (nI (cnt 0))), (5, .long (dgC D cnt)), (4, .int (nI sp)), (3, .ref B), (2, .ref P), (1, .int (nI ti)), (0, .ref b)]) X.x X.b d_Law_law_357 hl (by decide) rfl (fun ls hl => ?_)
                    exact L2_z X hbs hPs hPB hx hS hF hB hok hG hal hal0 hfa hz kk hmx (by omega) (lv_sub hl [0, 1, 2, 3, 4, 5, 6, 7, 8, 9, 10] rfl)
                  · exact absurd c22 c25
              · exact absurd c23 c20
          · skip
            refine lv_iload X.x X.b d_Law_law_297 (lv_at hl 0 rfl) ?_
            refine lv_iload X.x X.b d_Law_law_299 (lv_at hl 3 rfl) ?_
            refine lv_icmp_ne (tgt := 354) X.x X.b d_Law_law_301 (by decide) (fun c26 => ?_) (fun c26 => ?_)
            · exact absurd rfl c26
            · skip
              refine lv_iload X.x X.b d_Law_law_304 (lv_at hl 2 rfl) ?_
              refine lv_if_ne (tgt := 332) X.x X.b d_Law_law_306 (by decide) (fun c27 => ?_) (fun c27 => ?_)
              · exact absurd c19 c27
              · skip
                refine lv_iload X.x X.b d_Law_law_309 (lv_at hl 0 rfl) ?_
                refine lv_iconst (v := -1) X.x X.b d_Law_law_311 (by decide) ?_
                refine lv_icmp_ne (tgt := 332) X.x X.b d_Law_law_312 (by decide) (fun c28 => ?_) (fun c28 => ?_)
                · skip
                  refine lv_aload_n X.x X.b d_Law_law_332 rfl (lv_at hl 7 rfl) ?_
                  refine lv_iconst (v := 0) X.x X.b d_Law_law_333 (by decide) ?_
                  refine lv_iload X.x X.b d_Law_law_334 (lv_at hl 4 rfl) ?_
                  have hR := M_BP_cut l g hB (r := 0) (t := cnt 0) (by omega) (show cnt 0 < moreC cnt 0 by rw [moreC_0]; omega)
                  rw [back_C, back_D, show moreC cnt 0 - 1 = cnt 0 by rw [moreC_0]; rfl] at hR
                  refine m_callV X hS hR v_Law_63 hB.1 rfl rfl rfl (Nat.le_of_ble_eq_true rfl) hl.1 d_Law_law_336 (by omega) (by decide) ⟨by omega, by omega⟩ (fun q z => z.elim (fun z => by have z : B ≤ q ∧ q < B + 287 := z; exact Or.inr (show s.heap.size ≤ q by omega)) (fun z => Or.inr (Nat.le_trans hS.1 z))) (fun H1 locs hB hfr hS => ?_)
                  clear hR
                  have hF := hF.frm hfr (fun q z => z)
                  have hx := hx.fr (g := g) hfr (fun z => by have z : B ≤ b ∧ b < B + 287 := z; omega)
                  have hal := pt.fr hal hfr (fun z => by have z : B ≤ al ∧ al < B + 287 := z; omega)
                  have hok : OKY D cnt _ := OKY.now D cnt YD
                  refine lv_iload X.x X.b d_Law_law_339 (lv_at hl 4 rfl) ?_
                  refine lv_icmp_ne (tgt := 354) X.x X.b d_Law_law_341 (by decide) (fun c29 => ?_) (fun c29 => ?_)
                  · exact absurd c18 c29
                  · skip
                    refine lv_aload_n X.x X.b d_Law_law_344 rfl (lv_at hl 7 rfl) ?_
                    have hR := M_BP_digest l g hB (hok.tal3 hG).1 (hok.tal3 hG).2 (hok.held hG)
                    rw [hok.dgc] at hR
                    refine m_callV X hS hR v_Law_28 hB.1 rfl rfl rfl (Nat.le_of_ble_eq_true rfl) hl.1 d_Law_law_345 (by omega) (by decide) ⟨by omega, by omega⟩ (fun q z => z.elim (fun z => by have z : B ≤ q ∧ q < B + 287 := z; exact Or.inr (show s.heap.size ≤ q by omega)) (fun z => Or.inr (Nat.le_trans hS.1 z))) (fun H1 locs hB hfr hS => ?_)
                    clear hR
                    have hok := hok.dg hG
                    have hF := hF.frm hfr (fun q z => z)
                    have hx := hx.fr (g := g) hfr (fun z => by have z : B ≤ b ∧ b < B + 287 := z; omega)
                    have hal := pt.fr hal hfr (fun z => by have z : B ≤ al ∧ al < B + 287 := z; omega)
                    refine lv_lload X.x X.b d_Law_law_348 (lv_at hl 5 rfl) ?_
                    refine m_lcmp0 X d_Law_law_350 ?_
                    refine lv_if_eq (tgt := 356) X.x X.b d_Law_law_351 (by decide) (fun c30 => ?_) (fun c30 => ?_)
                    · skip
                      refine lv_iconst (v := 0) X.x X.b d_Law_law_356 (by decide) ?_
                      refine lv_istore (lv' := [(11, .int 0), (10, .ref al), (9, .int 0), (8, .int (nI (wnF D cnt))), (7, .int (nI (cnt 0))), (5, .long (dgC D cnt)), (4, .int (nI sp)), (3, .ref B), (2, .ref P), (1, .int (nI ti)), (0, .ref b)]) X.x X.b d_Law_law_357 hl (by decide) rfl (fun ls hl => ?_)
                      exact L2_z X hbs hPs hPB hx hS hF hB hok hG hal hal0 hfa hz kk hmx (by omega) (lv_sub hl [0, 1, 2, 3, 4, 5, 6, 7, 8, 9, 10] rfl)
                    · exact absurd c27 c30
                · exact absurd c28 c20
    · exact absurd rfl c18
  · have hwm1 : ¬ nI (wnF D cnt + 1) = -1 := nI_m1 (by omega)
    refine lv_aload_n X.x X.b d_Law_law_252 rfl (lv_at hl 6 rfl) ?_
    refine lv_iconst (v := 0) X.x X.b d_Law_law_253 (by decide) ?_
    refine lv_iconst (v := 2) X.x X.b d_Law_law_254 (by decide) ?_
    refine lv_iconst (v := -1) X.x X.b d_Law_law_255 (by decide) ?_
    refine lv_iconst (v := -1) X.x X.b d_Law_law_256 (by decide) ?_
    refine lv_bipush (v := 7) X.x X.b d_Law_law_257 (by decide) ?_
    refine lv_iconst (v := 0) X.x X.b d_Law_law_259 (by decide) ?_
    have hR := M_BP_add l g hB (r := 0) (by omega) (show cnt 0 < capF 40 0 from hc) (show lnOk 2 (-1) (-1) 7 0 from by decide) (Or.inl rfl) rfl
    refine m_callV X hS hR v_Law_54 hB.1 rfl rfl rfl (Nat.le_of_ble_eq_true rfl) hl.1 d_Law_law_260 (by omega) (by decide) ⟨by omega, by omega⟩ (fun q z => z.elim (fun z => by have z : B ≤ q ∧ q < B + 287 := z; exact Or.inr (show s.heap.size ≤ q by omega)) (fun z => Or.inr (Nat.le_trans hS.1 z))) (fun H1 locs hB hfr hS => ?_)
    clear hR
    have hF := hF.frm hfr (fun q z => z)
    have hx := hx.fr (g := g) hfr (fun z => by have z : B ≤ b ∧ b < B + 287 := z; omega)
    have hal := pt.fr hal hfr (fun z => by have z : B ≤ al ∧ al < B + 287 := z; omega)
    obtain ⟨YD, hYD⟩ : ∃ z, z = nowF (moreD D cnt (dl 2 (-1) (-1) 7 0)) (moreC cnt) Y := ⟨_, rfl⟩
    obtain ⟨f', hB⟩ : ∃ f', bAt g B (moreC cnt) f' (moreD D cnt (dl 2 (-1) (-1) 7 0)) (nowF (moreD D cnt (dl 2 (-1) (-1) 7 0)) (moreC cnt) Y) H1 := ⟨_, hB⟩
    rw [← hYD] at hB
    have hokD : OKY (moreD D cnt (dl 2 (-1) (-1) 7 0)) (moreC cnt) YD := by rw [hYD]; exact OKY.now _ _ Y
    have hGD : lnsG (moreD D cnt (dl 2 (-1) (-1) 7 0)) (moreC cnt) := more_G hG (by omega) (show lnOk 2 (-1) (-1) 7 0 from by decide)
    have hfY : YD.2.2.2.1 = 0 := hokD.fn.trans h0
    refine lv_iload X.x X.b d_Law_law_263 (lv_at hl 3 rfl) ?_
    refine lv_icmp_eq (tgt := 270) X.x X.b d_Law_law_265 (by decide) (fun c31 => ?_) (fun c31 => ?_)
    · skip
      refine lv_aload_n X.x X.b d_Law_law_270 rfl (lv_at hl 6 rfl) ?_
      refine lv_iconst (v := 3) X.x X.b d_Law_law_271 (by decide) ?_
      have hR := M_BP_many (wt := 3) l g hB (by decide) (by decide)
      rw [hokD.many3 hGD, if_pos hfY, hw] at hR
      refine m_callP X hS hR v_Law_34 hB.1 rfl rfl rfl (Nat.le_of_ble_eq_true rfl) hl.1 d_Law_law_272 (by omega) (by decide) ⟨by omega, by omega⟩ (fun locs hS => ?_)
      clear hR
      refine lv_istore (lv' := [(11, .int (nI (wnF D cnt + 1))), (10, .ref al), (9, .int 0), (8, .int (nI (wnF D cnt))), (7, .int (nI (cnt 0))), (5, .long (dgC D cnt)), (4, .int (nI sp)), (3, .ref B), (2, .ref P), (1, .int (nI ti)), (0, .ref b)]) X.x X.b d_Law_law_275 hl (by decide) rfl (fun ls hl => ?_)
      refine lv_iload X.x X.b d_Law_law_277 (lv_at hl 2 rfl) ?_
      refine lv_if_ne (tgt := 304) X.x X.b d_Law_law_279 (by decide) (fun c32 => ?_) (fun c32 => ?_)
      · exact absurd rfl c32
      · skip
        refine lv_iload X.x X.b d_Law_law_282 (lv_at hl 0 rfl) ?_
        refine lv_iconst (v := -1) X.x X.b d_Law_law_284 (by decide) ?_
        refine lv_icmp_eq (tgt := 304) X.x X.b d_Law_law_285 (by decide) (fun c33 => ?_) (fun c33 => ?_)
        · exact absurd c33 hwm1
        · skip
          refine lv_iload X.x X.b d_Law_law_288 (lv_at hl 0 rfl) ?_
          refine lv_iload X.x X.b d_Law_law_290 (lv_at hl 3 rfl) ?_
          refine lv_iconst (v := 1) X.x X.b d_Law_law_292 (by decide) ?_
          refine lv_iadd X.x X.b d_Law_law_293 ?_
          rw [show nI (wnF D cnt) + 1 = nI (wnF D cnt + 1) from nI_add (wnF D cnt) 1]
          refine lv_icmp_eq (tgt := 304) X.x X.b d_Law_law_294 (by decide) (fun c34 => ?_) (fun c34 => ?_)
          · skip
            refine lv_iload X.x X.b d_Law_law_304 (lv_at hl 2 rfl) ?_
            refine lv_if_ne (tgt := 332) X.x X.b d_Law_law_306 (by decide) (fun c35 => ?_) (fun c35 => ?_)
            · exact absurd c32 c35
            · skip
              refine lv_iload X.x X.b d_Law_law_309 (lv_at hl 0 rfl) ?_
              refine lv_iconst (v := -1) X.x X.b d_Law_law_311 (by decide) ?_
              refine lv_icmp_ne (tgt := 332) X.x X.b d_Law_law_312 (by decide) (fun c36 => ?_) (fun c36 => ?_)
              · skip
                refine lv_aload_n X.x X.b d_Law_law_332 rfl (lv_at hl 7 rfl) ?_
                refine lv_iconst (v := 0) X.x X.b d_Law_law_333 (by decide) ?_
                refine lv_iload X.x X.b d_Law_law_334 (lv_at hl 4 rfl) ?_
                have hR := M_BP_cut l g hB (r := 0) (t := cnt 0) (by omega) (show cnt 0 < moreC cnt 0 by rw [moreC_0]; omega)
                rw [back_C, back_D, show moreC cnt 0 - 1 = cnt 0 by rw [moreC_0]; rfl] at hR
                refine m_callV X hS hR v_Law_63 hB.1 rfl rfl rfl (Nat.le_of_ble_eq_true rfl) hl.1 d_Law_law_336 (by omega) (by decide) ⟨by omega, by omega⟩ (fun q z => z.elim (fun z => by have z : B ≤ q ∧ q < B + 287 := z; exact Or.inr (show s.heap.size ≤ q by omega)) (fun z => Or.inr (Nat.le_trans hS.1 z))) (fun H1 locs hB hfr hS => ?_)
                clear hR
                have hF := hF.frm hfr (fun q z => z)
                have hx := hx.fr (g := g) hfr (fun z => by have z : B ≤ b ∧ b < B + 287 := z; omega)
                have hal := pt.fr hal hfr (fun z => by have z : B ≤ al ∧ al < B + 287 := z; omega)
                have hok : OKY D cnt _ := OKY.now D cnt YD
                refine lv_iload X.x X.b d_Law_law_339 (lv_at hl 4 rfl) ?_
                refine lv_icmp_ne (tgt := 354) X.x X.b d_Law_law_341 (by decide) (fun c37 => ?_) (fun c37 => ?_)
                · exact absurd c31 c37
                · skip
                  refine lv_aload_n X.x X.b d_Law_law_344 rfl (lv_at hl 7 rfl) ?_
                  have hR := M_BP_digest l g hB (hok.tal3 hG).1 (hok.tal3 hG).2 (hok.held hG)
                  rw [hok.dgc] at hR
                  refine m_callV X hS hR v_Law_28 hB.1 rfl rfl rfl (Nat.le_of_ble_eq_true rfl) hl.1 d_Law_law_345 (by omega) (by decide) ⟨by omega, by omega⟩ (fun q z => z.elim (fun z => by have z : B ≤ q ∧ q < B + 287 := z; exact Or.inr (show s.heap.size ≤ q by omega)) (fun z => Or.inr (Nat.le_trans hS.1 z))) (fun H1 locs hB hfr hS => ?_)
                  clear hR
                  have hok := hok.dg hG
                  have hF := hF.frm hfr (fun q z => z)
                  have hx := hx.fr (g := g) hfr (fun z => by have z : B ≤ b ∧ b < B + 287 := z; omega)
                  have hal := pt.fr hal hfr (fun z => by have z : B ≤ al ∧ al < B + 287 := z; omega)
                  refine lv_lload X.x X.b d_Law_law_348 (lv_at hl 5 rfl) ?_
                  refine m_lcmp0 X d_Law_law_350 ?_
                  refine lv_if_eq (tgt := 356) X.x X.b d_Law_law_351 (by decide) (fun c38 => ?_) (fun c38 => ?_)
                  · skip
                    refine lv_iconst (v := 0) X.x X.b d_Law_law_356 (by decide) ?_
                    refine lv_istore (lv' := [(11, .int 0), (10, .ref al), (9, .int 0), (8, .int (nI (wnF D cnt))), (7, .int (nI (cnt 0))), (5, .long (dgC D cnt)), (4, .int (nI sp)), (3, .ref B), (2, .ref P), (1, .int (nI ti)), (0, .ref b)]) X.x X.b d_Law_law_357 hl (by decide) rfl (fun ls hl => ?_)
                    exact L2_z X hbs hPs hPB hx hS hF hB hok hG hal hal0 hfa hz kk hmx (by omega) (lv_sub hl [0, 1, 2, 3, 4, 5, 6, 7, 8, 9, 10] rfl)
                  · exact absurd c35 c38
              · exact absurd c36 c33
          · exact absurd rfl c34
    · exact absurd rfl c31
set_option maxRecDepth 100000 in
set_option maxHeartbeats 4000000 in
theorem s252_f {g : GG} {p : Program} {l : Launch} {e : Env} {s : State} {m : MethodId} {below : List Frame} {meth : Method} {c : Code} {H : Heap} {locs : List Loc} {cells slots : Nat} {Q : State → Prop} {nm : String} {ls : Array Slot} {b L P B RA d ti sp cA sA : Nat} {xs : Nat → Int32} {V : Value × Value × Value} {cnt : Nat → Nat} {f : Nat → Nat → Nat} {fR : Nat → Nat} {fL : Nat → Nat → Nat} {D : DT} {Y : YS} (X : CX g p s m #[.ref b] meth c c_Law_law 15 (some .boolean) R_Law nm) (hbs : b < s.heap.size) (hPs : s.heap.size ≤ P) (hPB : P < B) (hx : va_X b L xs s H) (hS : va_S (AA noA s.heap) s.heap H locs) (hF : lawF g P B b RA V d cnt fR fL D H) (hB : bAt g B cnt f D Y H) (hok : OKY D cnt Y) (hG : lnsG D cnt) {al : Nat} {fa : Nat → Int32} (hal : pt g al (.inl (g.2 0, wnF D cnt, .inl fa)) H) (hal0 : B + 287 ≤ al) (hfa : ∀ i, i < wnF D cnt → fa i = wdF (nowF D cnt y00).1 (nowF D cnt y00).2.1 (nI i)) {tf : Nat} (hft : (nowF D cnt y00).2.2.2.1 = nI tf) (ht1 : 1 ≤ tf) (ht6 : tf ≤ 6) (kk : ∀ (H1 : Heap) (locs1 : List Loc) (ls1 : Array Slot) (c1 s1 : Nat) (f1 : Nat → Nat → Nat) (Y1 : YS), lawF g P B b RA V d cnt fR fL D H1 → bAt g B cnt f1 D Y1 H1 → OKY D cnt Y1 → va_X b L xs s H1 → va_S (AA noA s.heap) s.heap H1 locs1 → lv_has ls1 15 [(4, .int (nI sp)), (3, .ref B), (2, .ref P), (1, .int (nI ti)), (0, .ref b)] → c1 ≤ cA → s1 ≤ sA → W p l e (rmK 2000 600064 7301640) s m #[.ref b] below meth c H1 locs1 c1 s1 Q (F0 m 790 ls1 [])) (hmx : cA ≤ 10000 ∧ sA ≤ 400000) (hc : cnt 0 < 40) (hcs : cells + 169 ≤ cA ∧ slots + 845 ≤ sA) (hl : lv_has ls 15 [(10, .ref al), (9, .int (nI tf)), (8, .int (-1)), (7, .int (nI (cnt 0))), (5, .long (dgC D cnt)), (4, .int (nI sp)), (3, .ref B), (2, .ref P), (1, .int (nI ti)), (0, .ref b)]) : W p l e (rmK 2000 600064 7301640) s m #[.ref b] below meth c H locs cells slots Q (F0 m 252 ls []) := by
  have hyf : Y.2.2.2.1 = nI tf := hok.fn.trans hft
  have hfn : ¬ nI tf = 0 := nI_ne0 ht1 (by omega)
  have hfl : ¬ nI tf ≤ 0 := nI_nle ht1 (by omega)
  have hW0 : wnF D cnt = 0 := (hok.c0 (by rw [hyf]; exact hfn)).2
  refine lv_aload_n X.x X.b d_Law_law_252 rfl (lv_at hl 6 rfl) ?_
  refine lv_iconst (v := 0) X.x X.b d_Law_law_253 (by decide) ?_
  refine lv_iconst (v := 2) X.x X.b d_Law_law_254 (by decide) ?_
  refine lv_iconst (v := -1) X.x X.b d_Law_law_255 (by decide) ?_
  refine lv_iconst (v := -1) X.x X.b d_Law_law_256 (by decide) ?_
  refine lv_bipush (v := 7) X.x X.b d_Law_law_257 (by decide) ?_
  refine lv_iconst (v := 0) X.x X.b d_Law_law_259 (by decide) ?_
  have hR := M_BP_add l g hB (r := 0) (by omega) (show cnt 0 < capF 40 0 from hc) (show lnOk 2 (-1) (-1) 7 0 from by decide) (Or.inl rfl) rfl
  refine m_callV X hS hR v_Law_54 hB.1 rfl rfl rfl (Nat.le_of_ble_eq_true rfl) hl.1 d_Law_law_260 (by omega) (by decide) ⟨by omega, by omega⟩ (fun q z => z.elim (fun z => by have z : B ≤ q ∧ q < B + 287 := z; exact Or.inr (show s.heap.size ≤ q by omega)) (fun z => Or.inr (Nat.le_trans hS.1 z))) (fun H1 locs hB hfr hS => ?_)
  clear hR
  have hF := hF.frm hfr (fun q z => z)
  have hx := hx.fr (g := g) hfr (fun z => by have z : B ≤ b ∧ b < B + 287 := z; omega)
  have hal := pt.fr hal hfr (fun z => by have z : B ≤ al ∧ al < B + 287 := z; omega)
  obtain ⟨YD, hYD⟩ : ∃ z, z = nowF (moreD D cnt (dl 2 (-1) (-1) 7 0)) (moreC cnt) Y := ⟨_, rfl⟩
  obtain ⟨f', hB⟩ : ∃ f', bAt g B (moreC cnt) f' (moreD D cnt (dl 2 (-1) (-1) 7 0)) (nowF (moreD D cnt (dl 2 (-1) (-1) 7 0)) (moreC cnt) Y) H1 := ⟨_, hB⟩
  rw [← hYD] at hB
  have hokD : OKY (moreD D cnt (dl 2 (-1) (-1) 7 0)) (moreC cnt) YD := by rw [hYD]; exact OKY.now _ _ Y
  have hGD : lnsG (moreD D cnt (dl 2 (-1) (-1) 7 0)) (moreC cnt) := more_G hG (by omega) (show lnOk 2 (-1) (-1) 7 0 from by decide)
  refine lv_iload X.x X.b d_Law_law_263 (lv_at hl 3 rfl) ?_
  refine lv_icmp_eq (tgt := 270) X.x X.b d_Law_law_265 (by decide) (fun c1 => ?_) (fun c1 => ?_)
  · skip
    refine lv_aload_n X.x X.b d_Law_law_270 rfl (lv_at hl 6 rfl) ?_
    refine lv_iconst (v := 3) X.x X.b d_Law_law_271 (by decide) ?_
    have hR := M_BP_many (wt := 3) l g hB (by decide) (by decide)
    rw [hokD.many3 hGD] at hR
    obtain ⟨nw, hnw⟩ : ∃ z, z = (if YD.2.2.2.1 = 0 then nI (wnF (moreD D cnt (dl 2 (-1) (-1) 7 0)) (moreC cnt)) else -1) := ⟨_, rfl⟩
    rw [← hnw] at hR
    refine m_callP X hS hR v_Law_34 hB.1 rfl rfl rfl (Nat.le_of_ble_eq_true rfl) hl.1 d_Law_law_272 (by omega) (by decide) ⟨by omega, by omega⟩ (fun locs hS => ?_)
    clear hR
    refine lv_istore (lv' := [(11, .int nw), (10, .ref al), (9, .int (nI tf)), (8, .int (-1)), (7, .int (nI (cnt 0))), (5, .long (dgC D cnt)), (4, .int (nI sp)), (3, .ref B), (2, .ref P), (1, .int (nI ti)), (0, .ref b)]) X.x X.b d_Law_law_275 hl (by decide) rfl (fun ls hl => ?_)
    refine lv_iload X.x X.b d_Law_law_277 (lv_at hl 2 rfl) ?_
    refine lv_if_ne (tgt := 304) X.x X.b d_Law_law_279 (by decide) (fun c2 => ?_) (fun c2 => ?_)
    · skip
      refine lv_iload X.x X.b d_Law_law_304 (lv_at hl 2 rfl) ?_
      refine lv_if_ne (tgt := 332) X.x X.b d_Law_law_306 (by decide) (fun c3 => ?_) (fun c3 => ?_)
      · skip
        refine lv_aload_n X.x X.b d_Law_law_332 rfl (lv_at hl 7 rfl) ?_
        refine lv_iconst (v := 0) X.x X.b d_Law_law_333 (by decide) ?_
        refine lv_iload X.x X.b d_Law_law_334 (lv_at hl 4 rfl) ?_
        have hR := M_BP_cut l g hB (r := 0) (t := cnt 0) (by omega) (show cnt 0 < moreC cnt 0 by rw [moreC_0]; omega)
        rw [back_C, back_D, show moreC cnt 0 - 1 = cnt 0 by rw [moreC_0]; rfl] at hR
        refine m_callV X hS hR v_Law_63 hB.1 rfl rfl rfl (Nat.le_of_ble_eq_true rfl) hl.1 d_Law_law_336 (by omega) (by decide) ⟨by omega, by omega⟩ (fun q z => z.elim (fun z => by have z : B ≤ q ∧ q < B + 287 := z; exact Or.inr (show s.heap.size ≤ q by omega)) (fun z => Or.inr (Nat.le_trans hS.1 z))) (fun H1 locs hB hfr hS => ?_)
        clear hR
        have hF := hF.frm hfr (fun q z => z)
        have hx := hx.fr (g := g) hfr (fun z => by have z : B ≤ b ∧ b < B + 287 := z; omega)
        have hal := pt.fr hal hfr (fun z => by have z : B ≤ al ∧ al < B + 287 := z; omega)
        have hok : OKY D cnt _ := OKY.now D cnt YD
        refine lv_iload X.x X.b d_Law_law_339 (lv_at hl 4 rfl) ?_
        refine lv_icmp_ne (tgt := 354) X.x X.b d_Law_law_341 (by decide) (fun c4 => ?_) (fun c4 => ?_)
        · exact absurd c1 c4
        · skip
          refine lv_aload_n X.x X.b d_Law_law_344 rfl (lv_at hl 7 rfl) ?_
          have hR := M_BP_digest l g hB (hok.tal3 hG).1 (hok.tal3 hG).2 (hok.held hG)
          rw [hok.dgc] at hR
          refine m_callV X hS hR v_Law_28 hB.1 rfl rfl rfl (Nat.le_of_ble_eq_true rfl) hl.1 d_Law_law_345 (by omega) (by decide) ⟨by omega, by omega⟩ (fun q z => z.elim (fun z => by have z : B ≤ q ∧ q < B + 287 := z; exact Or.inr (show s.heap.size ≤ q by omega)) (fun z => Or.inr (Nat.le_trans hS.1 z))) (fun H1 locs hB hfr hS => ?_)
          clear hR
          have hok := hok.dg hG
          have hF := hF.frm hfr (fun q z => z)
          have hx := hx.fr (g := g) hfr (fun z => by have z : B ≤ b ∧ b < B + 287 := z; omega)
          have hal := pt.fr hal hfr (fun z => by have z : B ≤ al ∧ al < B + 287 := z; omega)
          refine lv_lload X.x X.b d_Law_law_348 (lv_at hl 5 rfl) ?_
          refine m_lcmp0 X d_Law_law_350 ?_
          refine lv_if_eq (tgt := 356) X.x X.b d_Law_law_351 (by decide) (fun c5 => ?_) (fun c5 => ?_)
          · skip
            refine lv_iconst (v := 0) X.x X.b d_Law_law_356 (by decide) ?_
            refine lv_istore (lv' := [(11, .int 0), (10, .ref al), (9, .int (nI tf)), (8, .int (-1)), (7, .int (nI (cnt 0))), (5, .long (dgC D cnt)), (4, .int (nI sp)), (3, .ref B), (2, .ref P), (1, .int (nI ti)), (0, .ref b)]) X.x X.b d_Law_law_357 hl (by decide) rfl (fun ls hl => ?_)
            exact L2_f X hbs hPs hPB hx hS hF hB hok hG hal hal0 hfa hft ht1 ht6 kk hmx (by omega) (lv_sub hl [0, 1, 2, 3, 4, 5, 6, 7, 8, 9, 10] rfl)
          · exact absurd rfl c5
      · exact absurd c3 c2
    · exact absurd c2 hfn
  · exact absurd rfl c1
set_option maxRecDepth 100000 in
set_option maxHeartbeats 4000000 in
theorem s174_z {g : GG} {p : Program} {l : Launch} {e : Env} {s : State} {m : MethodId} {below : List Frame} {meth : Method} {c : Code} {H : Heap} {locs : List Loc} {cells slots : Nat} {Q : State → Prop} {nm : String} {ls : Array Slot} {b L P B RA d ti sp cA sA : Nat} {xs : Nat → Int32} {V : Value × Value × Value} {cnt : Nat → Nat} {f : Nat → Nat → Nat} {fR : Nat → Nat} {fL : Nat → Nat → Nat} {D : DT} {Y : YS} (X : CX g p s m #[.ref b] meth c c_Law_law 15 (some .boolean) R_Law nm) (hbs : b < s.heap.size) (hPs : s.heap.size ≤ P) (hPB : P < B) (hx : va_X b L xs s H) (hS : va_S (AA noA s.heap) s.heap H locs) (hF : lawF g P B b RA V d cnt fR fL D H) (hB : bAt g B cnt f D Y H) (hok : OKY D cnt Y) (hG : lnsG D cnt) {al : Nat} {fa : Nat → Int32} (hal : pt g al (.inl (g.2 0, wnF D cnt, .inl fa)) H) (hal0 : B + 287 ≤ al) (hfa : ∀ i, i < wnF D cnt → fa i = wdF (nowF D cnt y00).1 (nowF D cnt y00).2.1 (nI i)) (hz : (nowF D cnt y00).2.2.2.1 = 0) (kk : ∀ (H1 : Heap) (locs1 : List Loc) (ls1 : Array Slot) (c1 s1 : Nat) (f1 : Nat → Nat → Nat) (Y1 : YS), lawF g P B b RA V d cnt fR fL D H1 → bAt g B cnt f1 D Y1 H1 → OKY D cnt Y1 → va_X b L xs s H1 → va_S (AA noA s.heap) s.heap H1 locs1 → lv_has ls1 15 [(4, .int (nI sp)), (3, .ref B), (2, .ref P), (1, .int (nI ti)), (0, .ref b)] → c1 ≤ cA → s1 ≤ sA → W p l e (rmK 2000 600064 7301640) s m #[.ref b] below meth c H1 locs1 c1 s1 Q (F0 m 790 ls1 [])) (hmx : cA ≤ 10000 ∧ sA ≤ 400000) (hcs : cells + 170 ≤ cA ∧ slots + 850 ≤ sA) (hl : lv_has ls 15 [(10, .ref al), (9, .int 0), (8, .int (nI (wnF D cnt))), (7, .int (nI (cnt 0))), (5, .long (dgC D cnt)), (4, .int (nI sp)), (3, .ref B), (2, .ref P), (1, .int (nI ti)), (0, .ref b)]) : W p l e (rmK 2000 600064 7301640) s m #[.ref b] below meth c H locs cells slots Q (F0 m 174 ls []) := by
  have hyf : Y.2.2.2.1 = 0 := hok.fn.trans hz
  have hW20 := (hok.tal3 hG).2
  have hwm : ¬ nI (wnF D cnt) = -1 := nI_m1 (by omega)
  have hc40 := hB.cap40 (r := 0) (by omega)
  rcases more_end hG y00 hz with h2 | heq
  · skip
    refine lv_iload X.x X.b d_Law_law_174 (lv_at hl 3 rfl) ?_
    refine lv_bipush (v := 40) X.x X.b d_Law_law_176 (by decide) ?_
    refine lv_icmp_ge (tgt := 356) X.x X.b d_Law_law_178 (by decide) (fun c1 => ?_) (fun c1 => ?_)
    · skip
      have c1q := Int32.not_lt.mpr c1
      refine lv_iconst (v := 0) X.x X.b d_Law_law_356 (by decide) ?_
      refine lv_istore (lv' := [(11, .int 0), (10, .ref al), (9, .int 0), (8, .int (nI (wnF D cnt))), (7, .int (nI (cnt 0))), (5, .long (dgC D cnt)), (4, .int (nI sp)), (3, .ref B), (2, .ref P), (1, .int (nI ti)), (0, .ref b)]) X.x X.b d_Law_law_357 hl (by decide) rfl (fun ls hl => ?_)
      exact L2_z X hbs hPs hPB hx hS hF hB hok hG hal hal0 hfa hz kk hmx (by omega) (lv_sub hl [0, 1, 2, 3, 4, 5, 6, 7, 8, 9, 10] rfl)
    · skip
      have c1q := Int32.not_le.mp c1
      have hc : cnt 0 < 40 := Nat.lt_of_not_le (fun z => c1 (nI_le (a := 40) z (by omega)))
      refine lv_aload_n X.x X.b d_Law_law_181 rfl (lv_at hl 6 rfl) ?_
      refine lv_iconst (v := 0) X.x X.b d_Law_law_182 (by decide) ?_
      refine lv_bipush (v := 9) X.x X.b d_Law_law_183 (by decide) ?_
      refine lv_iconst (v := -1) X.x X.b d_Law_law_185 (by decide) ?_
      refine lv_iconst (v := -1) X.x X.b d_Law_law_186 (by decide) ?_
      refine lv_iconst (v := 0) X.x X.b d_Law_law_187 (by decide) ?_
      refine lv_iconst (v := 0) X.x X.b d_Law_law_188 (by decide) ?_
      have hR := M_BP_add l g hB (r := 0) (by omega) (show cnt 0 < capF 40 0 from hc) (show lnOk 9 (-1) (-1) 0 0 from by decide) (Or.inl rfl) rfl
      refine m_callV X hS hR v_Law_54 hB.1 rfl rfl rfl (Nat.le_of_ble_eq_true rfl) hl.1 d_Law_law_189 (by omega) (by decide) ⟨by omega, by omega⟩ (fun q z => z.elim (fun z => by have z : B ≤ q ∧ q < B + 287 := z; exact Or.inr (show s.heap.size ≤ q by omega)) (fun z => Or.inr (Nat.le_trans hS.1 z))) (fun H1 locs hB hfr hS => ?_)
      clear hR
      have hF := hF.frm hfr (fun q z => z)
      have hx := hx.fr (g := g) hfr (fun z => by have z : B ≤ b ∧ b < B + 287 := z; omega)
      have hal := pt.fr hal hfr (fun z => by have z : B ≤ al ∧ al < B + 287 := z; omega)
      obtain ⟨YD, hYD⟩ : ∃ z, z = nowF (moreD D cnt (dl 9 (-1) (-1) 0 0)) (moreC cnt) Y := ⟨_, rfl⟩
      obtain ⟨f', hB⟩ : ∃ f', bAt g B (moreC cnt) f' (moreD D cnt (dl 9 (-1) (-1) 0 0)) (nowF (moreD D cnt (dl 9 (-1) (-1) 0 0)) (moreC cnt) Y) H1 := ⟨_, hB⟩
      rw [← hYD] at hB
      have hokD : OKY (moreD D cnt (dl 9 (-1) (-1) 0 0)) (moreC cnt) YD := by rw [hYD]; exact OKY.now _ _ Y
      have hGD : lnsG (moreD D cnt (dl 9 (-1) (-1) 0 0)) (moreC cnt) := more_G hG (by omega) (show lnOk 9 (-1) (-1) 0 0 from by decide)
      have hfY : YD.2.2.2.1 = 2 := hokD.fn.trans h2
      refine lv_iload X.x X.b d_Law_law_192 (lv_at hl 3 rfl) ?_
      refine lv_icmp_ne (tgt := 250) X.x X.b d_Law_law_194 (by decide) (fun c2 => ?_) (fun c2 => ?_)
      · exact absurd rfl c2
      · skip
        refine lv_iload X.x X.b d_Law_law_197 (lv_at hl 1 rfl) ?_
        refine lv_if_ne (tgt := 228) X.x X.b d_Law_law_199 (by decide) (fun c3 => ?_) (fun c3 => ?_)
        · exact absurd rfl c3
        · skip
          refine lv_aload_n X.x X.b d_Law_law_202 rfl (lv_at hl 6 rfl) ?_
          have hR := M_BP_fault l g hB
          rw [hfY] at hR
          refine m_callP X hS hR v_Law_38 hB.1 rfl rfl rfl (Nat.le_of_ble_eq_true rfl) hl.1 d_Law_law_203 (by omega) (by decide) ⟨by omega, by omega⟩ (fun locs hS => ?_)
          clear hR
          refine lv_iconst (v := 2) X.x X.b d_Law_law_206 (by decide) ?_
          refine lv_icmp_eq (tgt := 228) X.x X.b d_Law_law_207 (by decide) (fun c4 => ?_) (fun c4 => ?_)
          · skip
            refine lv_aload_n X.x X.b d_Law_law_228 rfl (lv_at hl 6 rfl) ?_
            refine lv_iconst (v := 0) X.x X.b d_Law_law_229 (by decide) ?_
            refine lv_iload X.x X.b d_Law_law_230 (lv_at hl 3 rfl) ?_
            have hR := M_BP_cut l g hB (r := 0) (t := cnt 0) (by omega) (show cnt 0 < moreC cnt 0 by rw [moreC_0]; omega)
            rw [back_C, back_D, show moreC cnt 0 - 1 = cnt 0 by rw [moreC_0]; rfl] at hR
            refine m_callV X hS hR v_Law_63 hB.1 rfl rfl rfl (Nat.le_of_ble_eq_true rfl) hl.1 d_Law_law_232 (by omega) (by decide) ⟨by omega, by omega⟩ (fun q z => z.elim (fun z => by have z : B ≤ q ∧ q < B + 287 := z; exact Or.inr (show s.heap.size ≤ q by omega)) (fun z => Or.inr (Nat.le_trans hS.1 z))) (fun H1 locs hB hfr hS => ?_)
            clear hR
            have hF := hF.frm hfr (fun q z => z)
            have hx := hx.fr (g := g) hfr (fun z => by have z : B ≤ b ∧ b < B + 287 := z; omega)
            have hal := pt.fr hal hfr (fun z => by have z : B ≤ al ∧ al < B + 287 := z; omega)
            have hok : OKY D cnt _ := OKY.now D cnt YD
            refine lv_iload X.x X.b d_Law_law_235 (lv_at hl 3 rfl) ?_
            refine lv_icmp_ne (tgt := 250) X.x X.b d_Law_law_237 (by decide) (fun c5 => ?_) (fun c5 => ?_)
            · exact absurd c2 c5
            · skip
              refine lv_aload_n X.x X.b d_Law_law_240 rfl (lv_at hl 6 rfl) ?_
              have hR := M_BP_digest l g hB (hok.tal3 hG).1 (hok.tal3 hG).2 (hok.held hG)
              rw [hok.dgc] at hR
              refine m_callV X hS hR v_Law_28 hB.1 rfl rfl rfl (Nat.le_of_ble_eq_true rfl) hl.1 d_Law_law_241 (by omega) (by decide) ⟨by omega, by omega⟩ (fun q z => z.elim (fun z => by have z : B ≤ q ∧ q < B + 287 := z; exact Or.inr (show s.heap.size ≤ q by omega)) (fun z => Or.inr (Nat.le_trans hS.1 z))) (fun H1 locs hB hfr hS => ?_)
              clear hR
              have hok := hok.dg hG
              have hF := hF.frm hfr (fun q z => z)
              have hx := hx.fr (g := g) hfr (fun z => by have z : B ≤ b ∧ b < B + 287 := z; omega)
              have hal := pt.fr hal hfr (fun z => by have z : B ≤ al ∧ al < B + 287 := z; omega)
              refine lv_lload X.x X.b d_Law_law_244 (lv_at hl 4 rfl) ?_
              refine m_lcmp0 X d_Law_law_246 ?_
              refine lv_if_eq (tgt := 252) X.x X.b d_Law_law_247 (by decide) (fun c6 => ?_) (fun c6 => ?_)
              · skip
                exact s252_z X hbs hPs hPB hx hS hF hB hok hG hal hal0 hfa hz kk hmx hc (by omega) (lv_sub hl [0, 1, 2, 3, 4, 5, 6, 7, 8, 9] rfl)
              · exact absurd c3 c6
          · exact absurd rfl c4
  · skip
    refine lv_iload X.x X.b d_Law_law_174 (lv_at hl 3 rfl) ?_
    refine lv_bipush (v := 40) X.x X.b d_Law_law_176 (by decide) ?_
    refine lv_icmp_ge (tgt := 356) X.x X.b d_Law_law_178 (by decide) (fun c7 => ?_) (fun c7 => ?_)
    · skip
      have c7q := Int32.not_lt.mpr c7
      refine lv_iconst (v := 0) X.x X.b d_Law_law_356 (by decide) ?_
      refine lv_istore (lv' := [(11, .int 0), (10, .ref al), (9, .int 0), (8, .int (nI (wnF D cnt))), (7, .int (nI (cnt 0))), (5, .long (dgC D cnt)), (4, .int (nI sp)), (3, .ref B), (2, .ref P), (1, .int (nI ti)), (0, .ref b)]) X.x X.b d_Law_law_357 hl (by decide) rfl (fun ls hl => ?_)
      exact L2_z X hbs hPs hPB hx hS hF hB hok hG hal hal0 hfa hz kk hmx (by omega) (lv_sub hl [0, 1, 2, 3, 4, 5, 6, 7, 8, 9, 10] rfl)
    · skip
      have c7q := Int32.not_le.mp c7
      have hc : cnt 0 < 40 := Nat.lt_of_not_le (fun z => c7 (nI_le (a := 40) z (by omega)))
      refine lv_aload_n X.x X.b d_Law_law_181 rfl (lv_at hl 6 rfl) ?_
      refine lv_iconst (v := 0) X.x X.b d_Law_law_182 (by decide) ?_
      refine lv_bipush (v := 9) X.x X.b d_Law_law_183 (by decide) ?_
      refine lv_iconst (v := -1) X.x X.b d_Law_law_185 (by decide) ?_
      refine lv_iconst (v := -1) X.x X.b d_Law_law_186 (by decide) ?_
      refine lv_iconst (v := 0) X.x X.b d_Law_law_187 (by decide) ?_
      refine lv_iconst (v := 0) X.x X.b d_Law_law_188 (by decide) ?_
      have hR := M_BP_add l g hB (r := 0) (by omega) (show cnt 0 < capF 40 0 from hc) (show lnOk 9 (-1) (-1) 0 0 from by decide) (Or.inl rfl) rfl
      refine m_callV X hS hR v_Law_54 hB.1 rfl rfl rfl (Nat.le_of_ble_eq_true rfl) hl.1 d_Law_law_189 (by omega) (by decide) ⟨by omega, by omega⟩ (fun q z => z.elim (fun z => by have z : B ≤ q ∧ q < B + 287 := z; exact Or.inr (show s.heap.size ≤ q by omega)) (fun z => Or.inr (Nat.le_trans hS.1 z))) (fun H1 locs hB hfr hS => ?_)
      clear hR
      have hF := hF.frm hfr (fun q z => z)
      have hx := hx.fr (g := g) hfr (fun z => by have z : B ≤ b ∧ b < B + 287 := z; omega)
      have hal := pt.fr hal hfr (fun z => by have z : B ≤ al ∧ al < B + 287 := z; omega)
      obtain ⟨YD, hYD⟩ : ∃ z, z = nowF (moreD D cnt (dl 9 (-1) (-1) 0 0)) (moreC cnt) Y := ⟨_, rfl⟩
      obtain ⟨f', hB⟩ : ∃ f', bAt g B (moreC cnt) f' (moreD D cnt (dl 9 (-1) (-1) 0 0)) (nowF (moreD D cnt (dl 9 (-1) (-1) 0 0)) (moreC cnt) Y) H1 := ⟨_, hB⟩
      rw [← hYD] at hB
      have hokD : OKY (moreD D cnt (dl 9 (-1) (-1) 0 0)) (moreC cnt) YD := by rw [hYD]; exact OKY.now _ _ Y
      have hGD : lnsG (moreD D cnt (dl 9 (-1) (-1) 0 0)) (moreC cnt) := more_G hG (by omega) (show lnOk 9 (-1) (-1) 0 0 from by decide)
      have hfY : YD.2.2.2.1 = 0 := hokD.fn.trans ((congrArg (fun z : YS => z.2.2.2.1) heq).trans hz)
      refine lv_iload X.x X.b d_Law_law_192 (lv_at hl 3 rfl) ?_
      refine lv_icmp_ne (tgt := 250) X.x X.b d_Law_law_194 (by decide) (fun c8 => ?_) (fun c8 => ?_)
      · exact absurd rfl c8
      · skip
        refine lv_iload X.x X.b d_Law_law_197 (lv_at hl 1 rfl) ?_
        refine lv_if_ne (tgt := 228) X.x X.b d_Law_law_199 (by decide) (fun c9 => ?_) (fun c9 => ?_)
        · exact absurd rfl c9
        · skip
          refine lv_aload_n X.x X.b d_Law_law_202 rfl (lv_at hl 6 rfl) ?_
          have hR := M_BP_fault l g hB
          rw [hfY] at hR
          refine m_callP X hS hR v_Law_38 hB.1 rfl rfl rfl (Nat.le_of_ble_eq_true rfl) hl.1 d_Law_law_203 (by omega) (by decide) ⟨by omega, by omega⟩ (fun locs hS => ?_)
          clear hR
          refine lv_iconst (v := 2) X.x X.b d_Law_law_206 (by decide) ?_
          refine lv_icmp_eq (tgt := 228) X.x X.b d_Law_law_207 (by decide) (fun c10 => ?_) (fun c10 => ?_)
          · exact absurd c10 (by decide)
          · skip
            refine lv_aload_n X.x X.b d_Law_law_210 rfl (lv_at hl 6 rfl) ?_
            have hR := M_BP_fault l g hB
            rw [hfY] at hR
            refine m_callP X hS hR v_Law_38 hB.1 rfl rfl rfl (Nat.le_of_ble_eq_true rfl) hl.1 d_Law_law_211 (by omega) (by decide) ⟨by omega, by omega⟩ (fun locs hS => ?_)
            clear hR
            refine lv_if_ne (tgt := 250) X.x X.b d_Law_law_214 (by decide) (fun c11 => ?_) (fun c11 => ?_)
            · exact absurd c9 c11
            · skip
              refine lv_aload_n X.x X.b d_Law_law_217 rfl (lv_at hl 6 rfl) ?_
              refine lv_aload X.x X.b d_Law_law_218 (lv_at hl 0 rfl) ?_
              refine lv_iload X.x X.b d_Law_law_220 (lv_at hl 2 rfl) ?_
              have hR := M_Law_areWords (fa := fa) l g hB hGD hokD hfY (by rw [wn_eq heq]; exact hal) (fun i hi => (hfa i (wn_eq heq ▸ hi)).trans (by rw [hokD.wd, heq]))
              rw [wn_eq heq] at hR
              refine m_callSP X hS hR s_Law_57 rfl rfl (Nat.le_of_ble_eq_true rfl) hl.1 d_Law_law_222 (by omega) (by decide) ⟨by omega, by omega⟩ (fun locs hS => ?_)
              clear hR
              refine lv_if_eq (tgt := 250) X.x X.b d_Law_law_225 (by decide) (fun c12 => ?_) (fun c12 => ?_)
              · exact absurd c12 (by decide)
              · skip
                refine lv_aload_n X.x X.b d_Law_law_228 rfl (lv_at hl 6 rfl) ?_
                refine lv_iconst (v := 0) X.x X.b d_Law_law_229 (by decide) ?_
                refine lv_iload X.x X.b d_Law_law_230 (lv_at hl 3 rfl) ?_
                have hR := M_BP_cut l g hB (r := 0) (t := cnt 0) (by omega) (show cnt 0 < moreC cnt 0 by rw [moreC_0]; omega)
                rw [back_C, back_D, show moreC cnt 0 - 1 = cnt 0 by rw [moreC_0]; rfl] at hR
                refine m_callV X hS hR v_Law_63 hB.1 rfl rfl rfl (Nat.le_of_ble_eq_true rfl) hl.1 d_Law_law_232 (by omega) (by decide) ⟨by omega, by omega⟩ (fun q z => z.elim (fun z => by have z : B ≤ q ∧ q < B + 287 := z; exact Or.inr (show s.heap.size ≤ q by omega)) (fun z => Or.inr (Nat.le_trans hS.1 z))) (fun H1 locs hB hfr hS => ?_)
                clear hR
                have hF := hF.frm hfr (fun q z => z)
                have hx := hx.fr (g := g) hfr (fun z => by have z : B ≤ b ∧ b < B + 287 := z; omega)
                have hal := pt.fr hal hfr (fun z => by have z : B ≤ al ∧ al < B + 287 := z; omega)
                have hok : OKY D cnt _ := OKY.now D cnt YD
                refine lv_iload X.x X.b d_Law_law_235 (lv_at hl 3 rfl) ?_
                refine lv_icmp_ne (tgt := 250) X.x X.b d_Law_law_237 (by decide) (fun c13 => ?_) (fun c13 => ?_)
                · exact absurd c8 c13
                · skip
                  refine lv_aload_n X.x X.b d_Law_law_240 rfl (lv_at hl 6 rfl) ?_
                  have hR := M_BP_digest l g hB (hok.tal3 hG).1 (hok.tal3 hG).2 (hok.held hG)
                  rw [hok.dgc] at hR
                  refine m_callV X hS hR v_Law_28 hB.1 rfl rfl rfl (Nat.le_of_ble_eq_true rfl) hl.1 d_Law_law_241 (by omega) (by decide) ⟨by omega, by omega⟩ (fun q z => z.elim (fun z => by have z : B ≤ q ∧ q < B + 287 := z; exact Or.inr (show s.heap.size ≤ q by omega)) (fun z => Or.inr (Nat.le_trans hS.1 z))) (fun H1 locs hB hfr hS => ?_)
                  clear hR
                  have hok := hok.dg hG
                  have hF := hF.frm hfr (fun q z => z)
                  have hx := hx.fr (g := g) hfr (fun z => by have z : B ≤ b ∧ b < B + 287 := z; omega)
                  have hal := pt.fr hal hfr (fun z => by have z : B ≤ al ∧ al < B + 287 := z; omega)
                  refine lv_lload X.x X.b d_Law_law_244 (lv_at hl 4 rfl) ?_
                  refine m_lcmp0 X d_Law_law_246 ?_
                  refine lv_if_eq (tgt := 252) X.x X.b d_Law_law_247 (by decide) (fun c14 => ?_) (fun c14 => ?_)
                  · skip
                    exact s252_z X hbs hPs hPB hx hS hF hB hok hG hal hal0 hfa hz kk hmx hc (by omega) (lv_sub hl [0, 1, 2, 3, 4, 5, 6, 7, 8, 9] rfl)
                  · exact absurd c11 c14
set_option maxRecDepth 100000 in
set_option maxHeartbeats 4000000 in
theorem s174_f {g : GG} {p : Program} {l : Launch} {e : Env} {s : State} {m : MethodId} {below : List Frame} {meth : Method} {c : Code} {H : Heap} {locs : List Loc} {cells slots : Nat} {Q : State → Prop} {nm : String} {ls : Array Slot} {b L P B RA d ti sp cA sA : Nat} {xs : Nat → Int32} {V : Value × Value × Value} {cnt : Nat → Nat} {f : Nat → Nat → Nat} {fR : Nat → Nat} {fL : Nat → Nat → Nat} {D : DT} {Y : YS} (X : CX g p s m #[.ref b] meth c c_Law_law 15 (some .boolean) R_Law nm) (hbs : b < s.heap.size) (hPs : s.heap.size ≤ P) (hPB : P < B) (hx : va_X b L xs s H) (hS : va_S (AA noA s.heap) s.heap H locs) (hF : lawF g P B b RA V d cnt fR fL D H) (hB : bAt g B cnt f D Y H) (hok : OKY D cnt Y) (hG : lnsG D cnt) {al : Nat} {fa : Nat → Int32} (hal : pt g al (.inl (g.2 0, wnF D cnt, .inl fa)) H) (hal0 : B + 287 ≤ al) (hfa : ∀ i, i < wnF D cnt → fa i = wdF (nowF D cnt y00).1 (nowF D cnt y00).2.1 (nI i)) {tf : Nat} (hft : (nowF D cnt y00).2.2.2.1 = nI tf) (ht1 : 1 ≤ tf) (ht6 : tf ≤ 6) (kk : ∀ (H1 : Heap) (locs1 : List Loc) (ls1 : Array Slot) (c1 s1 : Nat) (f1 : Nat → Nat → Nat) (Y1 : YS), lawF g P B b RA V d cnt fR fL D H1 → bAt g B cnt f1 D Y1 H1 → OKY D cnt Y1 → va_X b L xs s H1 → va_S (AA noA s.heap) s.heap H1 locs1 → lv_has ls1 15 [(4, .int (nI sp)), (3, .ref B), (2, .ref P), (1, .int (nI ti)), (0, .ref b)] → c1 ≤ cA → s1 ≤ sA → W p l e (rmK 2000 600064 7301640) s m #[.ref b] below meth c H1 locs1 c1 s1 Q (F0 m 790 ls1 [])) (hmx : cA ≤ 10000 ∧ sA ≤ 400000) (hcs : cells + 170 ≤ cA ∧ slots + 850 ≤ sA) (hl : lv_has ls 15 [(10, .ref al), (9, .int (nI tf)), (8, .int (-1)), (7, .int (nI (cnt 0))), (5, .long (dgC D cnt)), (4, .int (nI sp)), (3, .ref B), (2, .ref P), (1, .int (nI ti)), (0, .ref b)]) : W p l e (rmK 2000 600064 7301640) s m #[.ref b] below meth c H locs cells slots Q (F0 m 174 ls []) := by
  have hyf : Y.2.2.2.1 = nI tf := hok.fn.trans hft
  have hfn : ¬ nI tf = 0 := nI_ne0 ht1 (by omega)
  have hfl : ¬ nI tf ≤ 0 := nI_nle ht1 (by omega)
  have hW0 : wnF D cnt = 0 := (hok.c0 (by rw [hyf]; exact hfn)).2
  have hc40 := hB.cap40 (r := 0) (by omega)
  refine lv_iload X.x X.b d_Law_law_174 (lv_at hl 3 rfl) ?_
  refine lv_bipush (v := 40) X.x X.b d_Law_law_176 (by decide) ?_
  refine lv_icmp_ge (tgt := 356) X.x X.b d_Law_law_178 (by decide) (fun c1 => ?_) (fun c1 => ?_)
  · skip
    have c1q := Int32.not_lt.mpr c1
    refine lv_iconst (v := 0) X.x X.b d_Law_law_356 (by decide) ?_
    refine lv_istore (lv' := [(11, .int 0), (10, .ref al), (9, .int (nI tf)), (8, .int (-1)), (7, .int (nI (cnt 0))), (5, .long (dgC D cnt)), (4, .int (nI sp)), (3, .ref B), (2, .ref P), (1, .int (nI ti)), (0, .ref b)]) X.x X.b d_Law_law_357 hl (by decide) rfl (fun ls hl => ?_)
    exact L2_f X hbs hPs hPB hx hS hF hB hok hG hal hal0 hfa hft ht1 ht6 kk hmx (by omega) (lv_sub hl [0, 1, 2, 3, 4, 5, 6, 7, 8, 9, 10] rfl)
  · skip
    have c1q := Int32.not_le.mp c1
    have hc : cnt 0 < 40 := Nat.lt_of_not_le (fun z => c1 (nI_le (a := 40) z (by omega)))
    refine lv_aload_n X.x X.b d_Law_law_181 rfl (lv_at hl 6 rfl) ?_
    refine lv_iconst (v := 0) X.x X.b d_Law_law_182 (by decide) ?_
    refine lv_bipush (v := 9) X.x X.b d_Law_law_183 (by decide) ?_
    refine lv_iconst (v := -1) X.x X.b d_Law_law_185 (by decide) ?_
    refine lv_iconst (v := -1) X.x X.b d_Law_law_186 (by decide) ?_
    refine lv_iconst (v := 0) X.x X.b d_Law_law_187 (by decide) ?_
    refine lv_iconst (v := 0) X.x X.b d_Law_law_188 (by decide) ?_
    have hR := M_BP_add l g hB (r := 0) (by omega) (show cnt 0 < capF 40 0 from hc) (show lnOk 9 (-1) (-1) 0 0 from by decide) (Or.inl rfl) rfl
    refine m_callV X hS hR v_Law_54 hB.1 rfl rfl rfl (Nat.le_of_ble_eq_true rfl) hl.1 d_Law_law_189 (by omega) (by decide) ⟨by omega, by omega⟩ (fun q z => z.elim (fun z => by have z : B ≤ q ∧ q < B + 287 := z; exact Or.inr (show s.heap.size ≤ q by omega)) (fun z => Or.inr (Nat.le_trans hS.1 z))) (fun H1 locs hB hfr hS => ?_)
    clear hR
    have hF := hF.frm hfr (fun q z => z)
    have hx := hx.fr (g := g) hfr (fun z => by have z : B ≤ b ∧ b < B + 287 := z; omega)
    have hal := pt.fr hal hfr (fun z => by have z : B ≤ al ∧ al < B + 287 := z; omega)
    obtain ⟨YD, hYD⟩ : ∃ z, z = nowF (moreD D cnt (dl 9 (-1) (-1) 0 0)) (moreC cnt) Y := ⟨_, rfl⟩
    obtain ⟨f', hB⟩ : ∃ f', bAt g B (moreC cnt) f' (moreD D cnt (dl 9 (-1) (-1) 0 0)) (nowF (moreD D cnt (dl 9 (-1) (-1) 0 0)) (moreC cnt) Y) H1 := ⟨_, hB⟩
    rw [← hYD] at hB
    have hokD : OKY (moreD D cnt (dl 9 (-1) (-1) 0 0)) (moreC cnt) YD := by rw [hYD]; exact OKY.now _ _ Y
    have hGD : lnsG (moreD D cnt (dl 9 (-1) (-1) 0 0)) (moreC cnt) := more_G hG (by omega) (show lnOk 9 (-1) (-1) 0 0 from by decide)
    refine lv_iload X.x X.b d_Law_law_192 (lv_at hl 3 rfl) ?_
    refine lv_icmp_ne (tgt := 250) X.x X.b d_Law_law_194 (by decide) (fun c2 => ?_) (fun c2 => ?_)
    · exact absurd rfl c2
    · skip
      refine lv_iload X.x X.b d_Law_law_197 (lv_at hl 1 rfl) ?_
      refine lv_if_ne (tgt := 228) X.x X.b d_Law_law_199 (by decide) (fun c3 => ?_) (fun c3 => ?_)
      · skip
        refine lv_aload_n X.x X.b d_Law_law_228 rfl (lv_at hl 6 rfl) ?_
        refine lv_iconst (v := 0) X.x X.b d_Law_law_229 (by decide) ?_
        refine lv_iload X.x X.b d_Law_law_230 (lv_at hl 3 rfl) ?_
        have hR := M_BP_cut l g hB (r := 0) (t := cnt 0) (by omega) (show cnt 0 < moreC cnt 0 by rw [moreC_0]; omega)
        rw [back_C, back_D, show moreC cnt 0 - 1 = cnt 0 by rw [moreC_0]; rfl] at hR
        refine m_callV X hS hR v_Law_63 hB.1 rfl rfl rfl (Nat.le_of_ble_eq_true rfl) hl.1 d_Law_law_232 (by omega) (by decide) ⟨by omega, by omega⟩ (fun q z => z.elim (fun z => by have z : B ≤ q ∧ q < B + 287 := z; exact Or.inr (show s.heap.size ≤ q by omega)) (fun z => Or.inr (Nat.le_trans hS.1 z))) (fun H1 locs hB hfr hS => ?_)
        clear hR
        have hF := hF.frm hfr (fun q z => z)
        have hx := hx.fr (g := g) hfr (fun z => by have z : B ≤ b ∧ b < B + 287 := z; omega)
        have hal := pt.fr hal hfr (fun z => by have z : B ≤ al ∧ al < B + 287 := z; omega)
        have hok : OKY D cnt _ := OKY.now D cnt YD
        refine lv_iload X.x X.b d_Law_law_235 (lv_at hl 3 rfl) ?_
        refine lv_icmp_ne (tgt := 250) X.x X.b d_Law_law_237 (by decide) (fun c4 => ?_) (fun c4 => ?_)
        · exact absurd c2 c4
        · skip
          refine lv_aload_n X.x X.b d_Law_law_240 rfl (lv_at hl 6 rfl) ?_
          have hR := M_BP_digest l g hB (hok.tal3 hG).1 (hok.tal3 hG).2 (hok.held hG)
          rw [hok.dgc] at hR
          refine m_callV X hS hR v_Law_28 hB.1 rfl rfl rfl (Nat.le_of_ble_eq_true rfl) hl.1 d_Law_law_241 (by omega) (by decide) ⟨by omega, by omega⟩ (fun q z => z.elim (fun z => by have z : B ≤ q ∧ q < B + 287 := z; exact Or.inr (show s.heap.size ≤ q by omega)) (fun z => Or.inr (Nat.le_trans hS.1 z))) (fun H1 locs hB hfr hS => ?_)
          clear hR
          have hok := hok.dg hG
          have hF := hF.frm hfr (fun q z => z)
          have hx := hx.fr (g := g) hfr (fun z => by have z : B ≤ b ∧ b < B + 287 := z; omega)
          have hal := pt.fr hal hfr (fun z => by have z : B ≤ al ∧ al < B + 287 := z; omega)
          refine lv_lload X.x X.b d_Law_law_244 (lv_at hl 4 rfl) ?_
          refine m_lcmp0 X d_Law_law_246 ?_
          refine lv_if_eq (tgt := 252) X.x X.b d_Law_law_247 (by decide) (fun c5 => ?_) (fun c5 => ?_)
          · skip
            exact s252_f X hbs hPs hPB hx hS hF hB hok hG hal hal0 hfa hft ht1 ht6 kk hmx hc (by omega) (lv_sub hl [0, 1, 2, 3, 4, 5, 6, 7, 8, 9] rfl)
          · exact absurd rfl c5
      · exact absurd c3 hfn
set_option maxRecDepth 100000 in
set_option maxHeartbeats 4000000 in
theorem s125_z {g : GG} {p : Program} {l : Launch} {e : Env} {s : State} {m : MethodId} {below : List Frame} {meth : Method} {c : Code} {H : Heap} {locs : List Loc} {cells slots : Nat} {Q : State → Prop} {nm : String} {ls : Array Slot} {b L P B RA d ti sp cA sA : Nat} {xs : Nat → Int32} {V : Value × Value × Value} {cnt : Nat → Nat} {f : Nat → Nat → Nat} {fR : Nat → Nat} {fL : Nat → Nat → Nat} {D : DT} {Y : YS} (X : CX g p s m #[.ref b] meth c c_Law_law 15 (some .boolean) R_Law nm) (hbs : b < s.heap.size) (hPs : s.heap.size ≤ P) (hPB : P < B) (hx : va_X b L xs s H) (hS : va_S (AA noA s.heap) s.heap H locs) (hF : lawF g P B b RA V d cnt fR fL D H) (hB : bAt g B cnt f D Y H) (hok : OKY D cnt Y) (hG : lnsG D cnt) {al : Nat} {fa : Nat → Int32} (hal : pt g al (.inl (g.2 0, wnF D cnt, .inl fa)) H) (hal0 : B + 287 ≤ al) (hfa : ∀ i, i < wnF D cnt → fa i = wdF (nowF D cnt y00).1 (nowF D cnt y00).2.1 (nI i)) (hz : (nowF D cnt y00).2.2.2.1 = 0) (kk : ∀ (H1 : Heap) (locs1 : List Loc) (ls1 : Array Slot) (c1 s1 : Nat) (f1 : Nat → Nat → Nat) (Y1 : YS), lawF g P B b RA V d cnt fR fL D H1 → bAt g B cnt f1 D Y1 H1 → OKY D cnt Y1 → va_X b L xs s H1 → va_S (AA noA s.heap) s.heap H1 locs1 → lv_has ls1 15 [(4, .int (nI sp)), (3, .ref B), (2, .ref P), (1, .int (nI ti)), (0, .ref b)] → c1 ≤ cA → s1 ≤ sA → W p l e (rmK 2000 600064 7301640) s m #[.ref b] below meth c H1 locs1 c1 s1 Q (F0 m 790 ls1 [])) (hmx : cA ≤ 10000 ∧ sA ≤ 400000) (hcs : cells + 171 ≤ cA ∧ slots + 855 ≤ sA) (hl : lv_has ls 15 [(10, .ref al), (9, .int 0), (8, .int (nI (wnF D cnt))), (7, .int (nI (cnt 0))), (5, .long (dgC D cnt)), (4, .int (nI sp)), (3, .ref B), (2, .ref P), (1, .int (nI ti)), (0, .ref b)]) : W p l e (rmK 2000 600064 7301640) s m #[.ref b] below meth c H locs cells slots Q (F0 m 125 ls []) := by
  have hyf : Y.2.2.2.1 = 0 := hok.fn.trans hz
  have hW20 := (hok.tal3 hG).2
  have hwm : ¬ nI (wnF D cnt) = -1 := nI_m1 (by omega)
  refine lv_aload_n X.x X.b d_Law_law_125 rfl (lv_at hl 6 rfl) ?_
  refine lv_iload X.x X.b d_Law_law_126 (lv_at hl 3 rfl) ?_
  refine lv_iconst (v := 1) X.x X.b d_Law_law_128 (by decide) ?_
  obtain ⟨cnt2, f2, D2, y2, hq⟩ := bAt.q.mp hB
  have hR := M_BP_longBy l g hq (t := cnt 0) (k := 1) (Nat.le_refl _) (by omega) (by omega) hyf
  have hno := lb_no hG (hB.cap40 (r := 0) (by omega)) (hok.ng hG hyf).2.1.2 (t := cnt 0) (Nat.le_refl _) (d := dl 2 (-1) (-1) 0 0) (show lnOk 2 (-1) (-1) 0 0 from by decide) (k := 1) (by omega) (asmF_c121 (lbX D (cnt 0) (dl 2 (-1) (-1) 0 0) 1) (lbC cnt 1) y2)
  obtain ⟨lb, hlb⟩ : ∃ z, z = lbA Y (asmF (lbX D (cnt 0) (dl 2 (-1) (-1) 0 0) 1) (lbC cnt 1) y2) := ⟨_, rfl⟩
  rw [← hlb] at hR hno
  refine m_callV X hS hR v_Law_51 hB.1 rfl rfl rfl (Nat.le_of_ble_eq_true rfl) hl.1 d_Law_law_129 (by omega) (by decide) ⟨by omega, by omega⟩ (fun q z => z.elim (fun z => by have z : B + 144 ≤ q ∧ q < B + 287 := z; exact Or.inr (show s.heap.size ≤ q by omega)) (fun z => Or.inr (Nat.le_trans hS.1 z))) (fun H1 locs hq hfr hS => ?_)
  clear hR hB
  obtain ⟨q0, hq⟩ := hq
  have hB := bAt.q.mpr ⟨_, _, _, _, hq⟩
  have hfr : fr (bzA B) H H1 := hfr.mono (fun q _ z => by have z : B + 144 ≤ q ∧ q < B + 287 := z; exact ⟨by omega, by omega⟩)
  have hF := hF.frm hfr (fun q z => z)
  have hx := hx.fr (g := g) hfr (fun z => by have z : B ≤ b ∧ b < B + 287 := z; omega)
  have hal := pt.fr hal hfr (fun z => by have z : B ≤ al ∧ al < B + 287 := z; omega)
  refine lv_sipush (v := -1006) X.x X.b d_Law_law_132 (by decide) ?_
  refine lv_icmp_lt (tgt := 172) X.x X.b d_Law_law_135 (by decide) (fun c1 => ?_) (fun c1 => ?_)
  · exact absurd c1 hno
  · skip
    have c1q := Int32.not_lt.mp c1
    refine lv_iload X.x X.b d_Law_law_138 (lv_at hl 1 rfl) ?_
    refine lv_if_le (tgt := 147) X.x X.b d_Law_law_140 (by decide) (fun c2 => ?_) (fun c2 => ?_)
    · skip
      have c2q := Int32.not_lt.mpr c2
      refine lv_iconst (v := 0) X.x X.b d_Law_law_147 (by decide) ?_
      refine lv_iload X.x X.b d_Law_law_148 (lv_at hl 2 rfl) ?_
      refine lv_iconst (v := -1) X.x X.b d_Law_law_150 (by decide) ?_
      refine lv_icmp_ne (tgt := 158) X.x X.b d_Law_law_151 (by decide) (fun c3 => ?_) (fun c3 => ?_)
      · skip
        refine lv_iconst (v := 0) X.x X.b d_Law_law_158 (by decide) ?_
        refine lv_icmp_ne (tgt := 172) X.x X.b d_Law_law_159 (by decide) (fun c4 => ?_) (fun c4 => ?_)
        · exact absurd rfl c4
        · skip
          refine lv_aload_n X.x X.b d_Law_law_162 rfl (lv_at hl 6 rfl) ?_
          have hR := M_BP_digest l g hB (hok.tal3 hG).1 (hok.tal3 hG).2 (hok.held hG)
          rw [hok.dgc] at hR
          refine m_callV X hS hR v_Law_28 hB.1 rfl rfl rfl (Nat.le_of_ble_eq_true rfl) hl.1 d_Law_law_163 (by omega) (by decide) ⟨by omega, by omega⟩ (fun q z => z.elim (fun z => by have z : B ≤ q ∧ q < B + 287 := z; exact Or.inr (show s.heap.size ≤ q by omega)) (fun z => Or.inr (Nat.le_trans hS.1 z))) (fun H1 locs hB hfr hS => ?_)
          clear hR
          have hok := hok.dg hG
          have hF := hF.frm hfr (fun q z => z)
          have hx := hx.fr (g := g) hfr (fun z => by have z : B ≤ b ∧ b < B + 287 := z; omega)
          have hal := pt.fr hal hfr (fun z => by have z : B ≤ al ∧ al < B + 287 := z; omega)
          refine lv_lload X.x X.b d_Law_law_166 (lv_at hl 4 rfl) ?_
          refine m_lcmp0 X d_Law_law_168 ?_
          refine lv_if_eq (tgt := 174) X.x X.b d_Law_law_169 (by decide) (fun c5 => ?_) (fun c5 => ?_)
          · skip
            exact s174_z X hbs hPs hPB hx hS hF hB hok hG hal hal0 hfa hz kk hmx (by omega) (lv_sub hl [0, 1, 2, 3, 4, 5, 6, 7, 8, 9] rfl)
          · exact absurd c4 c5
      · exact absurd c3 hwm
    · exact absurd c2 (by decide)
set_option maxRecDepth 100000 in
set_option maxHeartbeats 4000000 in
theorem s125_f {g : GG} {p : Program} {l : Launch} {e : Env} {s : State} {m : MethodId} {below : List Frame} {meth : Method} {c : Code} {H : Heap} {locs : List Loc} {cells slots : Nat} {Q : State → Prop} {nm : String} {ls : Array Slot} {b L P B RA d ti sp cA sA : Nat} {xs : Nat → Int32} {V : Value × Value × Value} {cnt : Nat → Nat} {f : Nat → Nat → Nat} {fR : Nat → Nat} {fL : Nat → Nat → Nat} {D : DT} {Y : YS} (X : CX g p s m #[.ref b] meth c c_Law_law 15 (some .boolean) R_Law nm) (hbs : b < s.heap.size) (hPs : s.heap.size ≤ P) (hPB : P < B) (hx : va_X b L xs s H) (hS : va_S (AA noA s.heap) s.heap H locs) (hF : lawF g P B b RA V d cnt fR fL D H) (hB : bAt g B cnt f D Y H) (hok : OKY D cnt Y) (hG : lnsG D cnt) {al : Nat} {fa : Nat → Int32} (hal : pt g al (.inl (g.2 0, wnF D cnt, .inl fa)) H) (hal0 : B + 287 ≤ al) (hfa : ∀ i, i < wnF D cnt → fa i = wdF (nowF D cnt y00).1 (nowF D cnt y00).2.1 (nI i)) {tf : Nat} (hft : (nowF D cnt y00).2.2.2.1 = nI tf) (ht1 : 1 ≤ tf) (ht6 : tf ≤ 6) (kk : ∀ (H1 : Heap) (locs1 : List Loc) (ls1 : Array Slot) (c1 s1 : Nat) (f1 : Nat → Nat → Nat) (Y1 : YS), lawF g P B b RA V d cnt fR fL D H1 → bAt g B cnt f1 D Y1 H1 → OKY D cnt Y1 → va_X b L xs s H1 → va_S (AA noA s.heap) s.heap H1 locs1 → lv_has ls1 15 [(4, .int (nI sp)), (3, .ref B), (2, .ref P), (1, .int (nI ti)), (0, .ref b)] → c1 ≤ cA → s1 ≤ sA → W p l e (rmK 2000 600064 7301640) s m #[.ref b] below meth c H1 locs1 c1 s1 Q (F0 m 790 ls1 [])) (hmx : cA ≤ 10000 ∧ sA ≤ 400000) (hcs : cells + 171 ≤ cA ∧ slots + 855 ≤ sA) (hl : lv_has ls 15 [(10, .ref al), (9, .int (nI tf)), (8, .int (-1)), (7, .int (nI (cnt 0))), (5, .long (dgC D cnt)), (4, .int (nI sp)), (3, .ref B), (2, .ref P), (1, .int (nI ti)), (0, .ref b)]) : W p l e (rmK 2000 600064 7301640) s m #[.ref b] below meth c H locs cells slots Q (F0 m 125 ls []) := by
  have hyf : Y.2.2.2.1 = nI tf := hok.fn.trans hft
  have hfn : ¬ nI tf = 0 := nI_ne0 ht1 (by omega)
  have hfl : ¬ nI tf ≤ 0 := nI_nle ht1 (by omega)
  have hW0 : wnF D cnt = 0 := (hok.c0 (by rw [hyf]; exact hfn)).2
  refine lv_aload_n X.x X.b d_Law_law_125 rfl (lv_at hl 6 rfl) ?_
  refine lv_iload X.x X.b d_Law_law_126 (lv_at hl 3 rfl) ?_
  refine lv_iconst (v := 1) X.x X.b d_Law_law_128 (by decide) ?_
  obtain ⟨cnt2, f2, D2, y2, hq⟩ := bAt.q.mp hB
  have hR := M_BP_longBy_f l g hq (t := cnt 0) (k := 1) (Nat.le_refl _) (by omega) (by omega) (by rw [hyf]; exact hfn)
  refine m_callP X hS hR v_Law_51 hB.1 rfl rfl rfl (Nat.le_of_ble_eq_true rfl) hl.1 d_Law_law_129 (by omega) (by decide) ⟨by omega, by omega⟩ (fun locs hS => ?_)
  clear hR hq
  refine lv_sipush (v := -1006) X.x X.b d_Law_law_132 (by decide) ?_
  refine lv_icmp_lt (tgt := 172) X.x X.b d_Law_law_135 (by decide) (fun c1 => ?_) (fun c1 => ?_)
  · exact absurd c1 (by decide)
  · skip
    have c1q := Int32.not_lt.mp c1
    refine lv_iload X.x X.b d_Law_law_138 (lv_at hl 1 rfl) ?_
    refine lv_if_le (tgt := 147) X.x X.b d_Law_law_140 (by decide) (fun c2 => ?_) (fun c2 => ?_)
    · exact absurd c2 hfl
    · skip
      have c2q := Int32.not_le.mp c2
      refine lv_iconst (v := 1) X.x X.b d_Law_law_143 (by decide) ?_
      refine lv_goto (tgt := 148) X.x X.b d_Law_law_144 (by decide) ?_
      refine lv_iload X.x X.b d_Law_law_148 (lv_at hl 2 rfl) ?_
      refine lv_iconst (v := -1) X.x X.b d_Law_law_150 (by decide) ?_
      refine lv_icmp_ne (tgt := 158) X.x X.b d_Law_law_151 (by decide) (fun c3 => ?_) (fun c3 => ?_)
      · exact absurd rfl c3
      · skip
        refine lv_iconst (v := 1) X.x X.b d_Law_law_154 (by decide) ?_
        refine lv_goto (tgt := 159) X.x X.b d_Law_law_155 (by decide) ?_
        refine lv_icmp_ne (tgt := 172) X.x X.b d_Law_law_159 (by decide) (fun c4 => ?_) (fun c4 => ?_)
        · exact absurd rfl c4
        · skip
          refine lv_aload_n X.x X.b d_Law_law_162 rfl (lv_at hl 6 rfl) ?_
          have hR := M_BP_digest l g hB (hok.tal3 hG).1 (hok.tal3 hG).2 (hok.held hG)
          rw [hok.dgc] at hR
          refine m_callV X hS hR v_Law_28 hB.1 rfl rfl rfl (Nat.le_of_ble_eq_true rfl) hl.1 d_Law_law_163 (by omega) (by decide) ⟨by omega, by omega⟩ (fun q z => z.elim (fun z => by have z : B ≤ q ∧ q < B + 287 := z; exact Or.inr (show s.heap.size ≤ q by omega)) (fun z => Or.inr (Nat.le_trans hS.1 z))) (fun H1 locs hB hfr hS => ?_)
          clear hR
          have hok := hok.dg hG
          have hF := hF.frm hfr (fun q z => z)
          have hx := hx.fr (g := g) hfr (fun z => by have z : B ≤ b ∧ b < B + 287 := z; omega)
          have hal := pt.fr hal hfr (fun z => by have z : B ≤ al ∧ al < B + 287 := z; omega)
          refine lv_lload X.x X.b d_Law_law_166 (lv_at hl 4 rfl) ?_
          refine m_lcmp0 X d_Law_law_168 ?_
          refine lv_if_eq (tgt := 174) X.x X.b d_Law_law_169 (by decide) (fun c5 => ?_) (fun c5 => ?_)
          · skip
            exact s174_f X hbs hPs hPB hx hS hF hB hok hG hal hal0 hfa hft ht1 ht6 kk hmx (by omega) (lv_sub hl [0, 1, 2, 3, 4, 5, 6, 7, 8, 9] rfl)
          · exact absurd rfl c5
