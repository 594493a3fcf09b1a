-- THE LAW'S BODY: LINES PUT AGAIN
set_option maxRecDepth 100000 in
set_option maxHeartbeats 4000000 in
theorem L2_z {g : GG} {p : Program} {l : Launch} {e : Env} {s : State} {m : MethodId} {below : List Frame} {meth : Method} {c : Code} {H : Heap} {locs : List Loc} {cells slots : Nat} {Q : State → Prop} {nm : String} {ls : Array Slot} {b L P B RA d ti sp cA sA : Nat} {xs : Nat → Int32} {V : Value × Value × Value} {cnt : Nat → Nat} {f : Nat → Nat → Nat} {fR : Nat → Nat} {fL : Nat → Nat → Nat} {D : DT} {Y : YS} (X : CX g p s m #[.ref b] meth c c_Law_law 15 (some .boolean) R_Law nm) (hbs : b < s.heap.size) (hPs : s.heap.size ≤ P) (hPB : P < B) (hx : va_X b L xs s H) (hS : va_S (AA noA s.heap) s.heap H locs) (hF : lawF g P B b RA V d cnt fR fL D H) (hB : bAt g B cnt f D Y H) (hok : OKY D cnt Y) (hG : lnsG D cnt) {al : Nat} {fa : Nat → Int32} (hal : pt g al (.inl (g.2 0, wnF D cnt, .inl fa)) H) (hal0 : B + 287 ≤ al) (hfa : ∀ i, i < wnF D cnt → fa i = wdF (nowF D cnt y00).1 (nowF D cnt y00).2.1 (nI i)) (hz : (nowF D cnt y00).2.2.2.1 = 0) (kk : ∀ (H1 : Heap) (locs1 : List Loc) (ls1 : Array Slot) (c1 s1 : Nat) (f1 : Nat → Nat → Nat) (Y1 : YS), lawF g P B b RA V d cnt fR fL D H1 → bAt g B cnt f1 D Y1 H1 → OKY D cnt Y1 → va_X b L xs s H1 → va_S (AA noA s.heap) s.heap H1 locs1 → lv_has ls1 15 [(4, .int (nI sp)), (3, .ref B), (2, .ref P), (1, .int (nI ti)), (0, .ref b)] → c1 ≤ cA → s1 ≤ sA → W p l e (rmK 2000 600064 7301640) s m #[.ref b] below meth c H1 locs1 c1 s1 Q (F0 m 790 ls1 [])) (hmx : cA ≤ 10000 ∧ sA ≤ 400000) (hcs : cells + 168 ≤ cA ∧ slots + 840 ≤ sA) (hl : lv_has ls 15 [(11, .int 0), (10, .ref al), (9, .int 0), (8, .int (nI (wnF D cnt))), (7, .int (nI (cnt 0))), (5, .long (dgC D cnt)), (4, .int (nI sp)), (3, .ref B), (2, .ref P), (1, .int (nI ti)), (0, .ref b)]) : W p l e (rmK 2000 600064 7301640) s m #[.ref b] below meth c H locs cells slots Q (F0 m 359 ls []) := by
  have hyf : Y.2.2.2.1 = 0 := hok.fn.trans hz
  have hW20 := (hok.tal3 hG).2
  have hwm : ¬ nI (wnF D cnt) = -1 := nI_m1 (by omega)
  have lp : ∀ (n r : Nat) (H : Heap) (locs : List Loc) (ls : Array Slot) (cells slots : Nat) (f : Nat → Nat → Nat) (Y : YS), n = 4 - r → r ≤ 4 → cells + 42 * (4 - r) ≤ cA → slots + 210 * (4 - r) ≤ sA → lawF g P B b RA V d cnt fR fL D H → bAt g B cnt f D Y H → OKY D cnt Y → va_X b L xs s H → va_S (AA noA s.heap) s.heap H locs → pt g al (.inl (g.2 0, wnF D cnt, .inl fa)) H → lv_has ls 15 [(11, .int (nI r)), (10, .ref al), (9, .int 0), (8, .int (nI (wnF D cnt))), (7, .int (nI (cnt 0))), (5, .long (dgC D cnt)), (4, .int (nI sp)), (3, .ref B), (2, .ref P), (1, .int (nI ti)), (0, .ref b)] → W p l e (rmK 2000 600064 7301640) s m #[.ref b] below meth c H locs cells slots Q (F0 m 359 ls []) := by
    intro n
    induction n with
    | zero =>
      intro r H locs ls cells slots f Y hn hr4 hcA hsA hF hB hok hx hS hal hl
      refine lv_iload X.x X.b d_Law_law_359 (lv_at hl 0 rfl) ?_
      refine lv_iconst (v := 4) X.x X.b d_Law_law_361 (by decide) ?_
      refine lv_icmp_ge (tgt := 451) X.x X.b d_Law_law_362 (by decide) (fun c1 => ?_) (fun c1 => ?_)
      · skip
        have c1q := Int32.not_lt.mpr c1
        exact s451_z X hbs hPs hPB hx hS hF hB hok hG hal hal0 hfa hz kk hmx (by omega) (lv_sub hl [1, 2, 3, 4, 5, 6, 7, 8, 9, 10] rfl)
      · exact absurd (nI_le (a := 4) (b := r) (by omega) (by omega)) c1
    | succ n ih =>
      intro r H locs ls cells slots f Y hn hr4 hcA hsA hF hB hok hx hS hal hl
      have hr : r < 5 := by omega
      have lq : ∀ (n2 k : Nat) (H : Heap) (locs : List Loc) (ls : Array Slot) (cells slots : Nat) (f : Nat → Nat → Nat) (Y : YS), cnt r ≤ k + n2 → k ≤ 42 → cells + (42 - k) + 42 * (3 - r) ≤ cA → slots + 5 * (42 - k) + 210 * (3 - r) ≤ sA → lawF g P B b RA V d cnt fR fL D H → bAt g B cnt f D Y H → OKY D cnt Y → va_X b L xs s H → va_S (AA noA s.heap) s.heap H locs → pt g al (.inl (g.2 0, wnF D cnt, .inl fa)) H → lv_has ls 15 [(12, .int (nI k)), (11, .int (nI r)), (10, .ref al), (9, .int 0), (8, .int (nI (wnF D cnt))), (7, .int (nI (cnt 0))), (5, .long (dgC D cnt)), (4, .int (nI sp)), (3, .ref B), (2, .ref P), (1, .int (nI ti)), (0, .ref b)] → W p l e (rmK 2000 600064 7301640) s m #[.ref b] below meth c H locs cells slots Q (F0 m 368 ls []) := by
        intro n2
        induction n2 with
        | zero =>
          intro k H locs ls cells slots f Y hk hk42 hcA hsA hF hB hok hx hS hal hl
          refine lv_iload X.x X.b d_Law_law_368 (lv_at hl 0 rfl) ?_
          refine lv_aload_n X.x X.b d_Law_law_370 rfl (lv_at hl 9 rfl) ?_
          refine m_get (v := .ref RA) X ok_Press hF.1 3 (by decide) k_Law_66 rfl d_Law_law_371 ?_
          refine lv_iload X.x X.b d_Law_law_374 (lv_at hl 1 rfl) ?_
          refine m_row (r := r) X hF.2.1 hr rfl d_Law_law_376 ?_
          refine m_alen (v := nI (cnt r)) X 5 rfl (hF.2.1.2 r hr).1 rfl d_Law_law_377 ?_
          refine lv_icmp_ge (tgt := 445) X.x X.b d_Law_law_378 (by decide) (fun c2 => ?_) (fun c2 => ?_)
          · skip
            have c2q := Int32.not_lt.mpr c2
            refine lv_iinc (v := nI (r + 1)) (lv' := [(11, .int (nI (r + 1))), (12, .int (nI k)), (10, .ref al), (9, .int 0), (8, .int (nI (wnF D cnt))), (7, .int (nI (cnt 0))), (5, .long (dgC D cnt)), (4, .int (nI sp)), (3, .ref B), (2, .ref P), (1, .int (nI ti)), (0, .ref b)]) X.x X.b d_Law_law_445 hl (k := 1) rfl (nI_1 r) (by decide) rfl (fun ls hl => ?_)
            refine lv_goto (tgt := 359) X.x X.b d_Law_law_448 (by decide) ?_
            exact ih (r + 1) _ _ _ _ _ _ _ (by omega) (by omega) (by omega) (by omega) hF hB hok hx hS hal (lv_sub hl [0, 2, 3, 4, 5, 6, 7, 8, 9, 10, 11] rfl)
          · exact absurd (nI_le (by omega) (by have := hB.cap40 hr; omega)) c2
        | succ n2 ih2 =>
          intro k H locs ls cells slots f Y hk hk42 hcA hsA hF hB hok hx hS hal hl
          refine lv_iload X.x X.b d_Law_law_368 (lv_at hl 0 rfl) ?_
          refine lv_aload_n X.x X.b d_Law_law_370 rfl (lv_at hl 9 rfl) ?_
          refine m_get (v := .ref RA) X ok_Press hF.1 3 (by decide) k_Law_66 rfl d_Law_law_371 ?_
          refine lv_iload X.x X.b d_Law_law_374 (lv_at hl 1 rfl) ?_
          refine m_row (r := r) X hF.2.1 hr rfl d_Law_law_376 ?_
          refine m_alen (v := nI (cnt r)) X 5 rfl (hF.2.1.2 r hr).1 rfl d_Law_law_377 ?_
          refine lv_icmp_ge (tgt := 445) X.x X.b d_Law_law_378 (by decide) (fun c3 => ?_) (fun c3 => ?_)
          · skip
            have c3q := Int32.not_lt.mpr c3
            refine lv_iinc (v := nI (r + 1)) (lv' := [(11, .int (nI (r + 1))), (12, .int (nI k)), (10, .ref al), (9, .int 0), (8, .int (nI (wnF D cnt))), (7, .int (nI (cnt 0))), (5, .long (dgC D cnt)), (4, .int (nI sp)), (3, .ref B), (2, .ref P), (1, .int (nI ti)), (0, .ref b)]) X.x X.b d_Law_law_445 hl (k := 1) rfl (nI_1 r) (by decide) rfl (fun ls hl => ?_)
            refine lv_goto (tgt := 359) X.x X.b d_Law_law_448 (by decide) ?_
            exact ih (r + 1) _ _ _ _ _ _ _ (by omega) (by omega) (by omega) (by omega) hF hB hok hx hS hal (lv_sub hl [0, 2, 3, 4, 5, 6, 7, 8, 9, 10, 11] rfl)
          · skip
            have c3q := Int32.not_le.mp c3
            have hc40 := hB.cap40 hr
            have hk3 : k < cnt r := Nat.lt_of_not_le (fun z => c3 (nI_le z (by omega)))
            refine lv_aload_n X.x X.b d_Law_law_381 rfl (lv_at hl 9 rfl) ?_
            refine m_get (v := .ref RA) X ok_Press hF.1 3 (by decide) k_Law_66 rfl d_Law_law_382 ?_
            refine lv_iload X.x X.b d_Law_law_385 (lv_at hl 1 rfl) ?_
            refine m_row (r := r) X hF.2.1 hr rfl d_Law_law_387 ?_
            refine lv_iload X.x X.b d_Law_law_388 (lv_at hl 0 rfl) ?_
            refine m_rowld (r := r) (t := k) X hF.2.1 hr hk3 (by have := hB.cap40 hr; omega) rfl d_Law_law_390 ?_
            refine lv_astore (lv' := [(13, .ref (fL r k)), (12, .int (nI k)), (11, .int (nI r)), (10, .ref al), (9, .int 0), (8, .int (nI (wnF D cnt))), (7, .int (nI (cnt 0))), (5, .long (dgC D cnt)), (4, .int (nI sp)), (3, .ref B), (2, .ref P), (1, .int (nI ti)), (0, .ref b)]) X.x X.b d_Law_law_391 hl (by decide) rfl (fun ls hl => ?_)
            refine lv_aload_n X.x X.b d_Law_law_393 rfl (lv_at hl 9 rfl) ?_
            refine lv_iload X.x X.b d_Law_law_394 (lv_at hl 2 rfl) ?_
            refine lv_iload X.x X.b d_Law_law_396 (lv_at hl 1 rfl) ?_
            refine lv_aload X.x X.b d_Law_law_398 (lv_at hl 0 rfl) ?_
            refine lv_iconst (v := 0) X.x X.b d_Law_law_400 (by decide) ?_
            refine m_i5 (u := D r k 0) X ((hF.2.1.2 r hr).2 k hk3) 0 (by decide) (by decide) rfl rfl d_Law_law_401 ?_
            refine lv_aload X.x X.b d_Law_law_402 (lv_at hl 0 rfl) ?_
            refine lv_iconst (v := 1) X.x X.b d_Law_law_404 (by decide) ?_
            refine m_i5 (u := D r k 1) X ((hF.2.1.2 r hr).2 k hk3) 1 (by decide) (by decide) rfl rfl d_Law_law_405 ?_
            refine lv_aload X.x X.b d_Law_law_406 (lv_at hl 0 rfl) ?_
            refine lv_iconst (v := 2) X.x X.b d_Law_law_408 (by decide) ?_
            refine m_i5 (u := D r k 2) X ((hF.2.1.2 r hr).2 k hk3) 2 (by decide) (by decide) rfl rfl d_Law_law_409 ?_
            refine lv_aload X.x X.b d_Law_law_410 (lv_at hl 0 rfl) ?_
            refine lv_iconst (v := 3) X.x X.b d_Law_law_412 (by decide) ?_
            refine m_i5 (u := D r k 3) X ((hF.2.1.2 r hr).2 k hk3) 3 (by decide) (by decide) rfl rfl d_Law_law_413 ?_
            refine lv_aload X.x X.b d_Law_law_414 (lv_at hl 0 rfl) ?_
            refine lv_iconst (v := 4) X.x X.b d_Law_law_416 (by decide) ?_
            refine m_i5 (u := D r k 4) X ((hF.2.1.2 r hr).2 k hk3) 4 (by decide) (by decide) rfl rfl d_Law_law_417 ?_
            refine lv_iconst (v := 1) X.x X.b d_Law_law_418 (by decide) ?_
            refine lv_icmp_ne (tgt := 426) X.x X.b d_Law_law_419 (by decide) (fun c4 => ?_) (fun c4 => ?_)
            · skip
              refine lv_iconst (v := 0) X.x X.b d_Law_law_426 (by decide) ?_
              have h4v : D r k 4 = 0 := ((hF.2.2.2 r k hr hk3).2.2).resolve_right c4
              have hln : lnOk (D r k 0) (D r k 1) (D r k 2) (D r k 3) 0 := by have z : lnOk (D r k 0) (D r k 1) (D r k 2) (D r k 3) (D r k 4) := (hF.2.2.2 r k hr hk3).2.1; rw [h4v] at z; exact z
              have hdl : dl (D r k 0) (D r k 1) (D r k 2) (D r k 3) 0 = D r k := by rw [← h4v]; exact (hF.2.2.2 r k hr hk3).1.symm
              refine m_callV X hS (M_BP_put l g hB hr hk3 hln (by decide) rfl) v_Law_70 hB.1 rfl rfl rfl (Nat.le_of_ble_eq_true rfl) hl.1 d_Law_law_427 (by omega) (by decide) ⟨by omega, by omega⟩ (fun q z => z.elim (fun z => by have z : B ≤ q ∧ q < B + 287 := z; exact Or.inr (show s.heap.size ≤ q by omega)) (fun z => Or.inr (Nat.le_trans hS.1 z))) (fun H1 locs hB hfr hS => ?_)
              rw [put_D hdl] at hB
              have hok : OKY D cnt _ := OKY.now D cnt Y
              have hF := hF.frm hfr (fun q z => z)
              have hx := hx.fr (g := g) hfr (fun z => by have z : B ≤ b ∧ b < B + 287 := z; omega)
              have hal := pt.fr hal hfr (fun z => by have z : B ≤ al ∧ al < B + 287 := z; omega)
              refine lv_aload X.x X.b d_Law_law_430 (lv_at hl 0 rfl) ?_
              refine lv_iconst (v := 0) X.x X.b d_Law_law_432 (by decide) ?_
              refine m_i5 (u := D r k 0) X ((hF.2.1.2 r hr).2 k hk3) 0 (by decide) (by decide) rfl rfl d_Law_law_433 ?_
              refine lv_icmp_eq (tgt := 439) X.x X.b d_Law_law_434 (by decide) (fun c5 => ?_) (fun c5 => ?_)
              · skip
                refine lv_iinc (v := (nI k) + 3) (lv' := [(12, .int ((nI k) + 3)), (13, .ref (fL r k)), (11, .int (nI r)), (10, .ref al), (9, .int 0), (8, .int (nI (wnF D cnt))), (7, .int (nI (cnt 0))), (5, .long (dgC D cnt)), (4, .int (nI sp)), (3, .ref B), (2, .ref P), (1, .int (nI ti)), (0, .ref b)]) X.x X.b d_Law_law_439 hl (k := 1) rfl rfl (by decide) rfl (fun ls hl => ?_)
                refine lv_goto (tgt := 368) X.x X.b d_Law_law_442 (by decide) ?_
                rw [show nI k + 3 = nI (k + 3) from nI_add k 3] at hl
                exact ih2 (k + 3) _ _ _ _ _ _ _ (by omega) (by omega) (by omega) (by omega) hF hB hok hx hS hal (lv_sub hl [0, 2, 3, 4, 5, 6, 7, 8, 9, 10, 11, 12] rfl)
              · exact absurd rfl c5
            · skip
              refine lv_iconst (v := 1) X.x X.b d_Law_law_422 (by decide) ?_
              refine lv_goto (tgt := 427) X.x X.b d_Law_law_423 (by decide) ?_
              have h4v : D r k 4 = 1 := c4
              have hln : lnOk (D r k 0) (D r k 1) (D r k 2) (D r k 3) 1 := by have z : lnOk (D r k 0) (D r k 1) (D r k 2) (D r k 3) (D r k 4) := (hF.2.2.2 r k hr hk3).2.1; rw [h4v] at z; exact z
              have hdl : dl (D r k 0) (D r k 1) (D r k 2) (D r k 3) 1 = D r k := by rw [← h4v]; exact (hF.2.2.2 r k hr hk3).1.symm
              refine m_callV X hS (M_BP_put l g hB hr hk3 hln (by decide) rfl) v_Law_70 hB.1 rfl rfl rfl (Nat.le_of_ble_eq_true rfl) hl.1 d_Law_law_427 (by omega) (by decide) ⟨by omega, by omega⟩ (fun q z => z.elim (fun z => by have z : B ≤ q ∧ q < B + 287 := z; exact Or.inr (show s.heap.size ≤ q by omega)) (fun z => Or.inr (Nat.le_trans hS.1 z))) (fun H1 locs hB hfr hS => ?_)
              rw [put_D hdl] at hB
              have hok : OKY D cnt _ := OKY.now D cnt Y
              have hF := hF.frm hfr (fun q z => z)
              have hx := hx.fr (g := g) hfr (fun z => by have z : B ≤ b ∧ b < B + 287 := z; omega)
              have hal := pt.fr hal hfr (fun z => by have z : B ≤ al ∧ al < B + 287 := z; omega)
              refine lv_aload X.x X.b d_Law_law_430 (lv_at hl 0 rfl) ?_
              refine lv_iconst (v := 0) X.x X.b d_Law_law_432 (by decide) ?_
              refine m_i5 (u := D r k 0) X ((hF.2.1.2 r hr).2 k hk3) 0 (by decide) (by decide) rfl rfl d_Law_law_433 ?_
              refine lv_icmp_eq (tgt := 439) X.x X.b d_Law_law_434 (by decide) (fun c6 => ?_) (fun c6 => ?_)
              · skip
                refine lv_iinc (v := (nI k) + 3) (lv' := [(12, .int ((nI k) + 3)), (13, .ref (fL r k)), (11, .int (nI r)), (10, .ref al), (9, .int 0), (8, .int (nI (wnF D cnt))), (7, .int (nI (cnt 0))), (5, .long (dgC D cnt)), (4, .int (nI sp)), (3, .ref B), (2, .ref P), (1, .int (nI ti)), (0, .ref b)]) X.x X.b d_Law_law_439 hl (k := 1) rfl rfl (by decide) rfl (fun ls hl => ?_)
                refine lv_goto (tgt := 368) X.x X.b d_Law_law_442 (by decide) ?_
                rw [show nI k + 3 = nI (k + 3) from nI_add k 3] at hl
                exact ih2 (k + 3) _ _ _ _ _ _ _ (by omega) (by omega) (by omega) (by omega) hF hB hok hx hS hal (lv_sub hl [0, 2, 3, 4, 5, 6, 7, 8, 9, 10, 11, 12] rfl)
              · exact absurd rfl c6
      refine lv_iload X.x X.b d_Law_law_359 (lv_at hl 0 rfl) ?_
      refine lv_iconst (v := 4) X.x X.b d_Law_law_361 (by decide) ?_
      refine lv_icmp_ge (tgt := 451) X.x X.b d_Law_law_362 (by decide) (fun c7 => ?_) (fun c7 => ?_)
      · exact absurd ((nI_leI (a := 4) (b := r) (by omega) (by omega)).mp c7) (by omega)
      · skip
        have c7q := Int32.not_le.mp c7
        refine lv_iconst (v := 0) X.x X.b d_Law_law_365 (by decide) ?_
        refine lv_istore (lv' := [(12, .int 0), (11, .int (nI r)), (10, .ref al), (9, .int 0), (8, .int (nI (wnF D cnt))), (7, .int (nI (cnt 0))), (5, .long (dgC D cnt)), (4, .int (nI sp)), (3, .ref B), (2, .ref P), (1, .int (nI ti)), (0, .ref b)]) X.x X.b d_Law_law_366 hl (by decide) rfl (fun ls hl => ?_)
        exact lq 50 0 _ _ _ _ _ _ _ (by have := hB.cap40 hr; omega) (by omega) (by omega) (by omega) hF hB hok hx hS hal (lv_sub hl [0, 1, 2, 3, 4, 5, 6, 7, 8, 9, 10, 11] rfl)
  exact lp 4 0 _ _ _ _ _ _ _ rfl (by omega) (by omega) (by omega) hF hB hok hx hS hal hl
set_option maxRecDepth 100000 in
set_option maxHeartbeats 4000000 in
theorem L2_f {g : GG} {p : Program} {l : Launch} {e : Env} {s : State} {m : MethodId} {below : List Frame} {meth : Method} {c : Code} {H : Heap} {locs : List Loc} {cells slots : Nat} {Q : State → Prop} {nm : String} {ls : Array Slot} {b L P B RA d ti sp cA sA : Nat} {xs : Nat → Int32} {V : Value × Value × Value} {cnt : Nat → Nat} {f : Nat → Nat → Nat} {fR : Nat → Nat} {fL : Nat → Nat → Nat} {D : DT} {Y : YS} (X : CX g p s m #[.ref b] meth c c_Law_law 15 (some .boolean) R_Law nm) (hbs : b < s.heap.size) (hPs : s.heap.size ≤ P) (hPB : P < B) (hx : va_X b L xs s H) (hS : va_S (AA noA s.heap) s.heap H locs) (hF : lawF g P B b RA V d cnt fR fL D H) (hB : bAt g B cnt f D Y H) (hok : OKY D cnt Y) (hG : lnsG D cnt) {al : Nat} {fa : Nat → Int32} (hal : pt g al (.inl (g.2 0, wnF D cnt, .inl fa)) H) (hal0 : B + 287 ≤ al) (hfa : ∀ i, i < wnF D cnt → fa i = wdF (nowF D cnt y00).1 (nowF D cnt y00).2.1 (nI i)) {tf : Nat} (hft : (nowF D cnt y00).2.2.2.1 = nI tf) (ht1 : 1 ≤ tf) (ht6 : tf ≤ 6) (kk : ∀ (H1 : Heap) (locs1 : List Loc) (ls1 : Array Slot) (c1 s1 : Nat) (f1 : Nat → Nat → Nat) (Y1 : YS), lawF g P B b RA V d cnt fR fL D H1 → bAt g B cnt f1 D Y1 H1 → OKY D cnt Y1 → va_X b L xs s H1 → va_S (AA noA s.heap) s.heap H1 locs1 → lv_has ls1 15 [(4, .int (nI sp)), (3, .ref B), (2, .ref P), (1, .int (nI ti)), (0, .ref b)] → c1 ≤ cA → s1 ≤ sA → W p l e (rmK 2000 600064 7301640) s m #[.ref b] below meth c H1 locs1 c1 s1 Q (F0 m 790 ls1 [])) (hmx : cA ≤ 10000 ∧ sA ≤ 400000) (hcs : cells + 168 ≤ cA ∧ slots + 840 ≤ sA) (hl : lv_has ls 15 [(11, .int 0), (10, .ref al), (9, .int (nI tf)), (8, .int (-1)), (7, .int (nI (cnt 0))), (5, .long (dgC D cnt)), (4, .int (nI sp)), (3, .ref B), (2, .ref P), (1, .int (nI ti)), (0, .ref b)]) : W p l e (rmK 2000 600064 7301640) s m #[.ref b] below meth c H locs cells slots Q (F0 m 359 ls []) := by
  have hyf : Y.2.2.2.1 = nI tf := hok.fn.trans hft
  have hfn : ¬ nI tf = 0 := nI_ne0 ht1 (by omega)
  have hfl : ¬ nI tf ≤ 0 := nI_nle ht1 (by omega)
  have hW0 : wnF D cnt = 0 := (hok.c0 (by rw [hyf]; exact hfn)).2
  have lp : ∀ (n r : Nat) (H : Heap) (locs : List Loc) (ls : Array Slot) (cells slots : Nat) (f : Nat → Nat → Nat) (Y : YS), n = 4 - r → r ≤ 4 → cells + 42 * (4 - r) ≤ cA → slots + 210 * (4 - r) ≤ sA → lawF g P B b RA V d cnt fR fL D H → bAt g B cnt f D Y H → OKY D cnt Y → va_X b L xs s H → va_S (AA noA s.heap) s.heap H locs → pt g al (.inl (g.2 0, wnF D cnt, .inl fa)) H → lv_has ls 15 [(11, .int (nI r)), (10, .ref al), (9, .int (nI tf)), (8, .int (-1)), (7, .int (nI (cnt 0))), (5, .long (dgC D cnt)), (4, .int (nI sp)), (3, .ref B), (2, .ref P), (1, .int (nI ti)), (0, .ref b)] → W p l e (rmK 2000 600064 7301640) s m #[.ref b] below meth c H locs cells slots Q (F0 m 359 ls []) := by
    intro n
    induction n with
    | zero =>
      intro r H locs ls cells slots f Y hn hr4 hcA hsA hF hB hok hx hS hal hl
      refine lv_iload X.x X.b d_Law_law_359 (lv_at hl 0 rfl) ?_
      refine lv_iconst (v := 4) X.x X.b d_Law_law_361 (by decide) ?_
      refine lv_icmp_ge (tgt := 451) X.x X.b d_Law_law_362 (by decide) (fun c1 => ?_) (fun c1 => ?_)
      · skip
        have c1q := Int32.not_lt.mpr c1
        exact s451_f X hbs hPs hPB hx hS hF hB hok hG hal hal0 hfa hft ht1 ht6 kk hmx (by omega) (lv_sub hl [1, 2, 3, 4, 5, 6, 7, 8, 9, 10] rfl)
      · exact absurd (nI_le (a := 4) (b := r) (by omega) (by omega)) c1
    | succ n ih =>
      intro r H locs ls cells slots f Y hn hr4 hcA hsA hF hB hok hx hS hal hl
      have hr : r < 5 := by omega
      have lq : ∀ (n2 k : Nat) (H : Heap) (locs : List Loc) (ls : Array Slot) (cells slots : Nat) (f : Nat → Nat → Nat) (Y : YS), cnt r ≤ k + n2 → k ≤ 42 → cells + (42 - k) + 42 * (3 - r) ≤ cA → slots + 5 * (42 - k) + 210 * (3 - r) ≤ sA → lawF g P B b RA V d cnt fR fL D H → bAt g B cnt f D Y H → OKY D cnt Y → va_X b L xs s H → va_S (AA noA s.heap) s.heap H locs → pt g al (.inl (g.2 0, wnF D cnt, .inl fa)) H → lv_has ls 15 [(12, .int (nI k)), (11, .int (nI r)), (10, .ref al), (9, .int (nI tf)), (8, .int (-1)), (7, .int (nI (cnt 0))), (5, .long (dgC D cnt)), (4, .int (nI sp)), (3, .ref B), (2, .ref P), (1, .int (nI ti)), (0, .ref b)] → W p l e (rmK 2000 600064 7301640) s m #[.ref b] below meth c H locs cells slots Q (F0 m 368 ls []) := by
        intro n2
        induction n2 with
        | zero =>
          intro k H locs ls cells slots f Y hk hk42 hcA hsA hF hB hok hx hS hal hl
          refine lv_iload X.x X.b d_Law_law_368 (lv_at hl 0 rfl) ?_
          refine lv_aload_n X.x X.b d_Law_law_370 rfl (lv_at hl 9 rfl) ?_
          refine m_get (v := .ref RA) X ok_Press hF.1 3 (by decide) k_Law_66 rfl d_Law_law_371 ?_
          refine lv_iload X.x X.b d_Law_law_374 (lv_at hl 1 rfl) ?_
          refine m_row (r := r) X hF.2.1 hr rfl d_Law_law_376 ?_
          refine m_alen (v := nI (cnt r)) X 5 rfl (hF.2.1.2 r hr).1 rfl d_Law_law_377 ?_
          refine lv_icmp_ge (tgt := 445) X.x X.b d_Law_law_378 (by decide) (fun c2 => ?_) (fun c2 => ?_)
          · skip
            have c2q := Int32.not_lt.mpr c2
            refine lv_iinc (v := nI (r + 1)) (lv' := [(11, .int (nI (r + 1))), (12, .int (nI k)), (10, .ref al), (9, .int (nI tf)), (8, .int (-1)), (7, .int (nI (cnt 0))), (5, .long (dgC D cnt)), (4, .int (nI sp)), (3, .ref B), (2, .ref P), (1, .int (nI ti)), (0, .ref b)]) X.x X.b d_Law_law_445 hl (k := 1) rfl (nI_1 r) (by decide) rfl (fun ls hl => ?_)
            refine lv_goto (tgt := 359) X.x X.b d_Law_law_448 (by decide) ?_
            exact ih (r + 1) _ _ _ _ _ _ _ (by omega) (by omega) (by omega) (by omega) hF hB hok hx hS hal (lv_sub hl [0, 2, 3, 4, 5, 6, 7, 8, 9, 10, 11] rfl)
          · exact absurd (nI_le (by omega) (by have := hB.cap40 hr; omega)) c2
        | succ n2 ih2 =>
          intro k H locs ls cells slots f Y hk hk42 hcA hsA hF hB hok hx hS hal hl
          refine lv_iload X.x X.b d_Law_law_368 (lv_at hl 0 rfl) ?_
          refine lv_aload_n X.x X.b d_Law_law_370 rfl (lv_at hl 9 rfl) ?_
          refine m_get (v := .ref RA) X ok_Press hF.1 3 (by decide) k_Law_66 rfl d_Law_law_371 ?_
          refine lv_iload X.x X.b d_Law_law_374 (lv_at hl 1 rfl) ?_
          refine m_row (r := r) X hF.2.1 hr rfl d_Law_law_376 ?_
          refine m_alen (v := nI (cnt r)) X 5 rfl (hF.2.1.2 r hr).1 rfl d_Law_law_377 ?_
          refine lv_icmp_ge (tgt := 445) X.x X.b d_Law_law_378 (by decide) (fun c3 => ?_) (fun c3 => ?_)
          · skip
            have c3q := Int32.not_lt.mpr c3
            refine lv_iinc (v := nI (r + 1)) (lv' := [(11, .int (nI (r + 1))), (12, .int (nI k)), (10, .ref al), (9, .int (nI tf)), (8, .int (-1)), (7, .int (nI (cnt 0))), (5, .long (dgC D cnt)), (4, .int (nI sp)), (3, .ref B), (2, .ref P), (1, .int (nI ti)), (0, .ref b)]) X.x X.b d_Law_law_445 hl (k := 1) rfl (nI_1 r) (by decide) rfl (fun ls hl => ?_)
            refine lv_goto (tgt := 359) X.x X.b d_Law_law_448 (by decide) ?_
            exact ih (r + 1) _ _ _ _ _ _ _ (by omega) (by omega) (by omega) (by omega) hF hB hok hx hS hal (lv_sub hl [0, 2, 3, 4, 5, 6, 7, 8, 9, 10, 11] rfl)
          · skip
            have c3q := Int32.not_le.mp c3
            have hc40 := hB.cap40 hr
            have hk3 : k < cnt r := Nat.lt_of_not_le (fun z => c3 (nI_le z (by omega)))
            refine lv_aload_n X.x X.b d_Law_law_381 rfl (lv_at hl 9 rfl) ?_
            refine m_get (v := .ref RA) X ok_Press hF.1 3 (by decide) k_Law_66 rfl d_Law_law_382 ?_
            refine lv_iload X.x X.b d_Law_law_385 (lv_at hl 1 rfl) ?_
            refine m_row (r := r) X hF.2.1 hr rfl d_Law_law_387 ?_
            refine lv_iload X.x X.b d_Law_law_388 (lv_at hl 0 rfl) ?_
            refine m_rowld (r := r) (t := k) X hF.2.1 hr hk3 (by have := hB.cap40 hr; omega) rfl d_Law_law_390 ?_
            refine lv_astore (lv' := [(13, .ref (fL r k)), (12, .int (nI k)), (11, .int (nI r)), (10, .ref al), (9, .int (nI tf)), (8, .int (-1)), (7, .int (nI (cnt 0))), (5, .long (dgC D cnt)), (4, .int (nI sp)), (3, .ref B), (2, .ref P), (1, .int (nI ti)), (0, .ref b)]) X.x X.b d_Law_law_391 hl (by decide) rfl (fun ls hl => ?_)
            refine lv_aload_n X.x X.b d_Law_law_393 rfl (lv_at hl 9 rfl) ?_
            refine lv_iload X.x X.b d_Law_law_394 (lv_at hl 2 rfl) ?_
            refine lv_iload X.x X.b d_Law_law_396 (lv_at hl 1 rfl) ?_
            refine lv_aload X.x X.b d_Law_law_398 (lv_at hl 0 rfl) ?_
            refine lv_iconst (v := 0) X.x X.b d_Law_law_400 (by decide) ?_
            refine m_i5 (u := D r k 0) X ((hF.2.1.2 r hr).2 k hk3) 0 (by decide) (by decide) rfl rfl d_Law_law_401 ?_
            refine lv_aload X.x X.b d_Law_law_402 (lv_at hl 0 rfl) ?_
            refine lv_iconst (v := 1) X.x X.b d_Law_law_404 (by decide) ?_
            refine m_i5 (u := D r k 1) X ((hF.2.1.2 r hr).2 k hk3) 1 (by decide) (by decide) rfl rfl d_Law_law_405 ?_
            refine lv_aload X.x X.b d_Law_law_406 (lv_at hl 0 rfl) ?_
            refine lv_iconst (v := 2) X.x X.b d_Law_law_408 (by decide) ?_
            refine m_i5 (u := D r k 2) X ((hF.2.1.2 r hr).2 k hk3) 2 (by decide) (by decide) rfl rfl d_Law_law_409 ?_
            refine lv_aload X.x X.b d_Law_law_410 (lv_at hl 0 rfl) ?_
            refine lv_iconst (v := 3) X.x X.b d_Law_law_412 (by decide) ?_
            refine m_i5 (u := D r k 3) X ((hF.2.1.2 r hr).2 k hk3) 3 (by decide) (by decide) rfl rfl d_Law_law_413 ?_
            refine lv_aload X.x X.b d_Law_law_414 (lv_at hl 0 rfl) ?_
            refine lv_iconst (v := 4) X.x X.b d_Law_law_416 (by decide) ?_
            refine m_i5 (u := D r k 4) X ((hF.2.1.2 r hr).2 k hk3) 4 (by decide) (by decide) rfl rfl d_Law_law_417 ?_
            refine lv_iconst (v := 1) X.x X.b d_Law_law_418 (by decide) ?_
            refine lv_icmp_ne (tgt := 426) X.x X.b d_Law_law_419 (by decide) (fun c4 => ?_) (fun c4 => ?_)
            · skip
              refine lv_iconst (v := 0) X.x X.b d_Law_law_426 (by decide) ?_
              have h4v : D r k 4 = 0 := ((hF.2.2.2 r k hr hk3).2.2).resolve_right c4
              have hln : lnOk (D r k 0) (D r k 1) (D r k 2) (D r k 3) 0 := by have z : lnOk (D r k 0) (D r k 1) (D r k 2) (D r k 3) (D r k 4) := (hF.2.2.2 r k hr hk3).2.1; rw [h4v] at z; exact z
              have hdl : dl (D r k 0) (D r k 1) (D r k 2) (D r k 3) 0 = D r k := by rw [← h4v]; exact (hF.2.2.2 r k hr hk3).1.symm
              refine m_callV X hS (M_BP_put l g hB hr hk3 hln (by decide) rfl) v_Law_70 hB.1 rfl rfl rfl (Nat.le_of_ble_eq_true rfl) hl.1 d_Law_law_427 (by omega) (by decide) ⟨by omega, by omega⟩ (fun q z => z.elim (fun z => by have z : B ≤ q ∧ q < B + 287 := z; exact Or.inr (show s.heap.size ≤ q by omega)) (fun z => Or.inr (Nat.le_trans hS.1 z))) (fun H1 locs hB hfr hS => ?_)
              rw [put_D hdl] at hB
              have hok : OKY D cnt _ := OKY.now D cnt Y
              have hF := hF.frm hfr (fun q z => z)
              have hx := hx.fr (g := g) hfr (fun z => by have z : B ≤ b ∧ b < B + 287 := z; omega)
              have hal := pt.fr hal hfr (fun z => by have z : B ≤ al ∧ al < B + 287 := z; omega)
              refine lv_aload X.x X.b d_Law_law_430 (lv_at hl 0 rfl) ?_
              refine lv_iconst (v := 0) X.x X.b d_Law_law_432 (by decide) ?_
              refine m_i5 (u := D r k 0) X ((hF.2.1.2 r hr).2 k hk3) 0 (by decide) (by decide) rfl rfl d_Law_law_433 ?_
              refine lv_icmp_eq (tgt := 439) X.x X.b d_Law_law_434 (by decide) (fun c5 => ?_) (fun c5 => ?_)
              · skip
                refine lv_iinc (v := (nI k) + 3) (lv' := [(12, .int ((nI k) + 3)), (13, .ref (fL r k)), (11, .int (nI r)), (10, .ref al), (9, .int (nI tf)), (8, .int (-1)), (7, .int (nI (cnt 0))), (5, .long (dgC D cnt)), (4, .int (nI sp)), (3, .ref B), (2, .ref P), (1, .int (nI ti)), (0, .ref b)]) X.x X.b d_Law_law_439 hl (k := 1) rfl rfl (by decide) rfl (fun ls hl => ?_)
                refine lv_goto (tgt := 368) X.x X.b d_Law_law_442 (by decide) ?_
                rw [show nI k + 3 = nI (k + 3) from nI_add k 3] at hl
                exact ih2 (k + 3) _ _ _ _ _ _ _ (by omega) (by omega) (by omega) (by omega) hF hB hok hx hS hal (lv_sub hl [0, 2, 3, 4, 5, 6, 7, 8, 9, 10, 11, 12] rfl)
              · exact absurd rfl c5
            · skip
              refine lv_iconst (v := 1) X.x X.b d_Law_law_422 (by decide) ?_
              refine lv_goto (tgt := 427) X.x X.b d_Law_law_423 (by decide) ?_
              have h4v : D r k 4 = 1 := c4
              have hln : lnOk (D r k 0) (D r k 1) (D r k 2) (D r k 3) 1 := by have z : lnOk (D r k 0) (D r k 1) (D r k 2) (D r k 3) (D r k 4) := (hF.2.2.2 r k hr hk3).2.1; rw [h4v] at z; exact z
              have hdl : dl (D r k 0) (D r k 1) (D r k 2) (D r k 3) 1 = D r k := by rw [← h4v]; exact (hF.2.2.2 r k hr hk3).1.symm
              refine m_callV X hS (M_BP_put l g hB hr hk3 hln (by decide) rfl) v_Law_70 hB.1 rfl rfl rfl (Nat.le_of_ble_eq_true rfl) hl.1 d_Law_law_427 (by omega) (by decide) ⟨by omega, by omega⟩ (fun q z => z.elim (fun z => by have z : B ≤ q ∧ q < B + 287 := z; exact Or.inr (show s.heap.size ≤ q by omega)) (fun z => Or.inr (Nat.le_trans hS.1 z))) (fun H1 locs hB hfr hS => ?_)
              rw [put_D hdl] at hB
              have hok : OKY D cnt _ := OKY.now D cnt Y
              have hF := hF.frm hfr (fun q z => z)
              have hx := hx.fr (g := g) hfr (fun z => by have z : B ≤ b ∧ b < B + 287 := z; omega)
              have hal := pt.fr hal hfr (fun z => by have z : B ≤ al ∧ al < B + 287 := z; omega)
              refine lv_aload X.x X.b d_Law_law_430 (lv_at hl 0 rfl) ?_
              refine lv_iconst (v := 0) X.x X.b d_Law_law_432 (by decide) ?_
              refine m_i5 (u := D r k 0) X ((hF.2.1.2 r hr).2 k hk3) 0 (by decide) (by decide) rfl rfl d_Law_law_433 ?_
              refine lv_icmp_eq (tgt := 439) X.x X.b d_Law_law_434 (by decide) (fun c6 => ?_) (fun c6 => ?_)
              · skip
                refine lv_iinc (v := (nI k) + 3) (lv' := [(12, .int ((nI k) + 3)), (13, .ref (fL r k)), (11, .int (nI r)), (10, .ref al), (9, .int (nI tf)), (8, .int (-1)), (7, .int (nI (cnt 0))), (5, .long (dgC D cnt)), (4, .int (nI sp)), (3, .ref B), (2, .ref P), (1, .int (nI ti)), (0, .ref b)]) X.x X.b d_Law_law_439 hl (k := 1) rfl rfl (by decide) rfl (fun ls hl => ?_)
                refine lv_goto (tgt := 368) X.x X.b d_Law_law_442 (by decide) ?_
                rw [show nI k + 3 = nI (k + 3) from nI_add k 3] at hl
                exact ih2 (k + 3) _ _ _ _ _ _ _ (by omega) (by omega) (by omega) (by omega) hF hB hok hx hS hal (lv_sub hl [0, 2, 3, 4, 5, 6, 7, 8, 9, 10, 11, 12] rfl)
              · exact absurd rfl c6
      refine lv_iload X.x X.b d_Law_law_359 (lv_at hl 0 rfl) ?_
      refine lv_iconst (v := 4) X.x X.b d_Law_law_361 (by decide) ?_
      refine lv_icmp_ge (tgt := 451) X.x X.b d_Law_law_362 (by decide) (fun c7 => ?_) (fun c7 => ?_)
      · exact absurd ((nI_leI (a := 4) (b := r) (by omega) (by omega)).mp c7) (by omega)
      · skip
        have c7q := Int32.not_le.mp c7
        refine lv_iconst (v := 0) X.x X.b d_Law_law_365 (by decide) ?_
        refine lv_istore (lv' := [(12, .int 0), (11, .int (nI r)), (10, .ref al), (9, .int (nI tf)), (8, .int (-1)), (7, .int (nI (cnt 0))), (5, .long (dgC D cnt)), (4, .int (nI sp)), (3, .ref B), (2, .ref P), (1, .int (nI ti)), (0, .ref b)]) X.x X.b d_Law_law_366 hl (by decide) rfl (fun ls hl => ?_)
        exact lq 50 0 _ _ _ _ _ _ _ (by have := hB.cap40 hr; omega) (by omega) (by omega) (by omega) hF hB hok hx hS hal (lv_sub hl [0, 1, 2, 3, 4, 5, 6, 7, 8, 9, 10, 11] rfl)
  exact lp 4 0 _ _ _ _ _ _ _ rfl (by omega) (by omega) (by omega) hF hB hok hx hS hal hl
