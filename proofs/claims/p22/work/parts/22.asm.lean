set_option maxRecDepth 100000 in
set_option maxHeartbeats 4000000 in
theorem M_Assembly_failAt (l : Launch) (g : GG) {w so cap0 lo hi : Nat} {cnt : Nat → Nat} {f : Nat → Nat → Nat} {D : DT} {y : YS} {H0 : Heap} (hy : aAt g w so cap0 cnt f D lo hi y H0) (n ln : Int32) : MM l y_Assembly_failAt c_Assembly_failAt 3 none 1 0 0 g H0 [.ref w, .int n, .int ln] (zF w) (none) (fun H1 => aAt g w so cap0 cnt f D lo hi (failF y n ln) H1) := by
  refine MM.of (by decide +kernel) (Nat.le_of_ble_eq_true rfl) ?_
  intro p e s m below meth cd X hH ls hl
  have X : CX g p s m _ meth cd c_Assembly_failAt 3 none R_Assembly _ := X
  have hl : lv_has ls 3 [(0, .ref w), (1, .int n), (2, .int ln)] := hl
  have hS : va_S (AA (zF w) H0) H0 H0 [] := va_S.rf
  obtain ⟨S, c, qd, fn, fl, rd⟩ := y
  obtain ⟨hA, hP, ⟨Qf, hQ⟩, ⟨ex, ef, em, hE⟩, hI, ⟨N, hN⟩, hs, hcc, hly, hlw, hhw⟩ := hy
  have hA : asAt g w qd fn fl rd H0 := hA
  have hI : iAt g (w + 1) c S H0 := hI
  have hcc : c ≤ 121 := hcc
  refine lv_aload_n X.x X.b d_Assembly_failAt_0 rfl (lv_at hl 0 rfl) ?_
  refine lv_iload_n X.x X.b d_Assembly_failAt_1 rfl (lv_at hl 1 rfl) ?_
  refine m_put X ok_Assembly hS (Or.inl ⟨by omega, by omega⟩) hA 5 (by decide) k_Assembly_44 rfl (ok_Assembly.2.2.1 _ (by decide)) rfl rfl (Nat.le_of_ble_eq_true rfl) d_Assembly_failAt_2 (fun H locs hp hcg hS => ?_)
  have hA : asAt g w qd n fl rd H := hp
  have hfr := fr.of_chg (A := fun q => q = w) hcg rfl
  have hP := hP.fr hfr (fun z => by have z : w + 129 = w := z; omega)
  have hQ := hQ.fr hfr (fun z => by have z : w + 130 = w := z; omega)
  have hE := hE.fr hfr (fun z => by have z : w + 124 = w := z; omega)
  have hI := hI.frame hfr (fun q z => by have z : q = w := z; omega)
  have hN := hN.frame hfr (fun q z => by have z : q = w := z; omega)
  have hs := hs.frame hfr (fun q z => by have z : q = w := z; omega)
  refine lv_aload_n X.x X.b d_Assembly_failAt_5 rfl (lv_at hl 0 rfl) ?_
  refine lv_iload_n X.x X.b d_Assembly_failAt_6 rfl (lv_at hl 2 rfl) ?_
  refine m_put X ok_Assembly hS (Or.inl ⟨by omega, by omega⟩) hA 6 (by decide) k_Assembly_47 rfl (ok_Assembly.2.2.1 _ (by decide)) rfl rfl (Nat.le_of_ble_eq_true rfl) d_Assembly_failAt_7 (fun H locs hp hcg hS => ?_)
  have hA : asAt g w qd n ln rd H := hp
  have hfr := fr.of_chg (A := fun q => q = w) hcg rfl
  have hP := hP.fr hfr (fun z => by have z : w + 129 = w := z; omega)
  have hQ := hQ.fr hfr (fun z => by have z : w + 130 = w := z; omega)
  have hE := hE.fr hfr (fun z => by have z : w + 124 = w := z; omega)
  have hI := hI.frame hfr (fun q z => by have z : q = w := z; omega)
  have hN := hN.frame hfr (fun q z => by have z : q = w := z; omega)
  have hs := hs.frame hfr (fun q z => by have z : q = w := z; omega)
  refine lv_aload_n X.x X.b d_Assembly_failAt_10 rfl (lv_at hl 0 rfl) ?_
  refine m_get (v := .ref (w + 1)) X ok_Assembly hA 0 (by decide) k_Assembly_12 rfl d_Assembly_failAt_11 ?_
  refine m_callM X hS (M_Items_clear l g hI (by omega)) v_Assembly_93 hI.1 rfl rfl rfl (Nat.le_of_ble_eq_true rfl) hl.1 d_Assembly_failAt_14 (by omega) (by decide) ⟨Nat.zero_le _, Nat.zero_le _⟩ (fun q z => by have z : w + 1 ≤ q ∧ q < w + 1 + 123 := z; exact ⟨by omega, by omega⟩) (fun H locs hI hfr hS => ?_)
  have hA := hA.fr hfr (fun z => by have z : w + 1 ≤ w ∧ w < w + 1 + 123 := z; omega)
  have hP := hP.fr hfr (fun z => by have z : w + 1 ≤ w + 129 ∧ w + 129 < w + 1 + 123 := z; omega)
  have hQ := hQ.fr hfr (fun z => by have z : w + 1 ≤ w + 130 ∧ w + 130 < w + 1 + 123 := z; omega)
  have hE := hE.fr hfr (fun z => by have z : w + 1 ≤ w + 124 ∧ w + 124 < w + 1 + 123 := z; omega)
  have hN := hN.frame hfr (fun q z => by have z : w + 1 ≤ q ∧ q < w + 1 + 123 := z; omega)
  have hs := hs.frame hfr (fun q z => by have z : w + 1 ≤ q ∧ q < w + 1 + 123 := z; omega)
  have hM : failF (S, c, qd, fn, fl, rd) n ln = (S, 0, qd, n, ln, rd) := by simp [failF]
  exact m_vret X hS (Nat.zero_le _) (Nat.zero_le _) d_Assembly_failAt_17 rfl (by rw [hM]; exact ⟨hA, hP, ⟨_, hQ⟩, ⟨_, _, _, hE⟩, hI, ⟨_, hN⟩, hs, show 0 ≤ 121 by omega, hly, hlw, hhw⟩)
set_option maxRecDepth 100000 in
set_option maxHeartbeats 4000000 in
theorem M_Assembly_failsAtItem (l : Launch) (g : GG) {w so cap0 lo hi : Nat} {cnt : Nat → Nat} {f : Nat → Nat → Nat} {D : DT} {y : YS} {H0 : Heap} (hy : aAt g w so cap0 cnt f D lo hi y H0) (n it : Int32) : MM l y_Assembly_failsAtItem c_Assembly_failsAtItem 4 (some .boolean) 2 0 0 g H0 [.ref w, .int n, .int it] (zF w) (some (.int (b2i (¬ iaO y.2.1 it = none)))) (fun H1 => aAt g w so cap0 cnt f D lo hi (faiF y n it) H1) := by
  refine MM.of (by decide +kernel) (Nat.le_of_ble_eq_true rfl) ?_
  intro p e s m below meth cd X hH ls hl
  have X : CX g p s m _ meth cd c_Assembly_failsAtItem 4 (some .boolean) R_Assembly _ := X
  have hl : lv_has ls 4 [(0, .ref w), (1, .int n), (2, .int it)] := hl
  have hS : va_S (AA (zF w) H0) H0 H0 [] := va_S.rf
  obtain ⟨S, c, qd, fn, fl, rd⟩ := y
  obtain ⟨hA, hP, ⟨Qf, hQ⟩, ⟨ex, ef, em, hE⟩, hI, ⟨N, hN⟩, hs, hcc, hly, hlw, hhw⟩ := hy
  have hA : asAt g w qd fn fl rd H0 := hA
  have hI : iAt g (w + 1) c S H0 := hI
  have hcc : c ≤ 121 := hcc
  refine lv_aload_n X.x X.b d_Assembly_failsAtItem_0 rfl (lv_at hl 0 rfl) ?_
  refine m_get (v := .ref (w + 1)) X ok_Assembly hA 0 (by decide) k_Assembly_12 rfl d_Assembly_failsAtItem_1 ?_
  refine lv_iload_n X.x X.b d_Assembly_failsAtItem_4 rfl (lv_at hl 2 rfl) ?_
  refine m_callP X hS (M_Items_itemAt l g hI (by omega) it) v_Assembly_96 hI.1 rfl rfl rfl (Nat.le_of_ble_eq_true rfl) hl.1 d_Assembly_failsAtItem_5 (by omega) (by decide) ⟨Nat.zero_le _, Nat.zero_le _⟩ (fun locs hS => ?_)
  rcases o1 : iaO c it with _ | j2
  · skip
    try rw [o1]
    refine lv_astore_nN (lv' := [(3, .null), (0, .ref w), (1, .int n), (2, .int it)]) X.x X.b d_Assembly_failsAtItem_8 rfl hl (by decide) rfl (fun ls hl => ?_)
    refine lv_aload_nN X.x X.b d_Assembly_failsAtItem_9 rfl (lv_at hl 0 rfl) ?_
    refine lv_ifnonnullN X.x X.b d_Assembly_failsAtItem_10 ?_
    refine lv_iconst (v := 0) X.x X.b d_Assembly_failsAtItem_13 (by decide) ?_
    have hM : faiF (S, c, qd, fn, fl, rd) n it = (S, c, qd, fn, fl, rd) := by simp [faiF, failF, o1]
    exact m_zret X hS (Nat.zero_le _) (Nat.zero_le _) d_Assembly_failsAtItem_14 rfl (congrArg (fun z => some (Value.int z)) (by simp [b2i, o1])) (by rw [hM]; exact ⟨hA, hP, ⟨_, hQ⟩, ⟨_, _, _, hE⟩, hI, ⟨_, hN⟩, hs, show c ≤ 121 by omega, hly, hlw, hhw⟩)
  · skip
    try rw [o1]
    refine lv_astore_n (lv' := [(3, .ref (w + 1 + 2 + j2)), (0, .ref w), (1, .int n), (2, .int it)]) X.x X.b d_Assembly_failsAtItem_8 rfl hl (by decide) rfl (fun ls hl => ?_)
    refine lv_aload_n X.x X.b d_Assembly_failsAtItem_9 rfl (lv_at hl 0 rfl) ?_
    refine lv_ifnonnull (tgt := 15) X.x X.b d_Assembly_failsAtItem_10 (by decide) ?_
    refine lv_aload_n X.x X.b d_Assembly_failsAtItem_15 rfl (lv_at hl 1 rfl) ?_
    refine lv_iload_n X.x X.b d_Assembly_failsAtItem_16 rfl (lv_at hl 2 rfl) ?_
    refine lv_aload_n X.x X.b d_Assembly_failsAtItem_17 rfl (lv_at hl 0 rfl) ?_
    refine m_get (v := .int (S.1 5 j2)) X ok_Item (hI.2.2.1 j2 (Nat.lt_of_lt_of_le (iaO_lt o1 (by omega)) (by omega))) 5 (by decide) k_Assembly_100 rfl d_Assembly_failsAtItem_18 ?_
    have hR := M_Assembly_failAt (y := (S, c, qd, fn, fl, rd)) l g ⟨hA, hP, ⟨_, hQ⟩, ⟨_, _, _, hE⟩, hI, ⟨_, hN⟩, hs, show c ≤ 121 by omega, hly, hlw, hhw⟩ n (S.1 5 j2)
    refine m_callM X hS hR v_Assembly_64 hA rfl rfl rfl (Nat.le_of_ble_eq_true rfl) hl.1 d_Assembly_failsAtItem_21 (by omega) (by decide) ⟨Nat.zero_le _, Nat.zero_le _⟩ (fun q z => z) (fun H locs hy hfr hS => ?_)
    obtain ⟨hA, hP, ⟨Qf, hQ⟩, ⟨ex, ef, em, hE⟩, hI, ⟨N, hN⟩, hs, -, -, -, -⟩ := hy
    have hA : asAt g w qd n (S.1 5 j2) rd H := hA
    have hI : iAt g (w + 1) 0 S H := hI
    refine lv_iconst (v := 1) X.x X.b d_Assembly_failsAtItem_24 (by decide) ?_
    have hM : faiF (S, c, qd, fn, fl, rd) n it = (S, 0, qd, n, S.1 5 j2, rd) := by simp [faiF, failF, o1]
    exact m_zret X hS (Nat.zero_le _) (Nat.zero_le _) d_Assembly_failsAtItem_25 rfl (congrArg (fun z => some (Value.int z)) (by simp [b2i, o1])) (by rw [hM]; exact ⟨hA, hP, ⟨_, hQ⟩, ⟨_, _, _, hE⟩, hI, ⟨_, hN⟩, hs, show 0 ≤ 121 by omega, hly, hlw, hhw⟩)
set_option maxRecDepth 100000 in
set_option maxHeartbeats 4000000 in
theorem M_Assembly_wordsOrFault (l : Launch) (g : GG) {w so cap0 lo hi : Nat} {cnt : Nat → Nat} {f : Nat → Nat → Nat} {D : DT} {y : YS} {H0 : Heap} (hy : aAt g w so cap0 cnt f D lo hi y H0) : MP l y_Assembly_wordsOrFault c_Assembly_wordsOrFault 1 (some .int) 3 g H0 [.ref w] (some (.int (wofF y))) := by
  refine MM.of (by decide +kernel) (Nat.le_of_ble_eq_true rfl) ?_
  intro p e s m below meth cd X hH ls hl
  have X : CX g p s m _ meth cd c_Assembly_wordsOrFault 1 (some .int) R_Assembly _ := X
  have hl : lv_has ls 1 [(0, .ref w)] := hl
  have hS : va_S (AA (noA) H0) H0 H0 [] := va_S.rf
  obtain ⟨S, c, qd, fn, fl, rd⟩ := y
  obtain ⟨hA, hP, ⟨Qf, hQ⟩, ⟨ex, ef, em, hE⟩, hI, ⟨N, hN⟩, hs, hcc, hly, hlw, hhw⟩ := hy
  have hA : asAt g w qd fn fl rd H0 := hA
  have hI : iAt g (w + 1) c S H0 := hI
  have hcc : c ≤ 121 := hcc
  refine lv_aload_n X.x X.b d_Assembly_wordsOrFault_0 rfl (lv_at hl 0 rfl) ?_
  refine m_get (v := .int fn) X ok_Assembly hA 5 (by decide) k_Assembly_44 rfl d_Assembly_wordsOrFault_1 ?_
  refine lv_if_ne (tgt := 18) X.x X.b d_Assembly_wordsOrFault_4 (by decide) (fun c1 => ?_) (fun c1 => ?_)
  · skip
    refine lv_bipush (v := -10) X.x X.b d_Assembly_wordsOrFault_18 (by decide) ?_
    refine lv_aload_n X.x X.b d_Assembly_wordsOrFault_20 rfl (lv_at hl 0 rfl) ?_
    refine m_get (v := .int fn) X ok_Assembly hA 5 (by decide) k_Assembly_44 rfl d_Assembly_wordsOrFault_21 ?_
    refine lv_isub X.x X.b d_Assembly_wordsOrFault_24 ?_
    exact m_iret X hS (Nat.zero_le _) (Nat.zero_le _) d_Assembly_wordsOrFault_25 (congrArg (fun z => some (Value.int z)) (by simp [wofF, c1])) rfl
  · skip
    refine lv_aload_n X.x X.b d_Assembly_wordsOrFault_7 rfl (lv_at hl 0 rfl) ?_
    refine m_get (v := .ref (w + 1)) X ok_Assembly hA 0 (by decide) k_Assembly_12 rfl d_Assembly_wordsOrFault_8 ?_
    refine lv_iconst (v := 3) X.x X.b d_Assembly_wordsOrFault_11 (by decide) ?_
    refine m_callP X hS (M_Items_tally l g hI (by omega) 3) v_Assembly_103 hI.1 rfl rfl rfl (Nat.le_of_ble_eq_true rfl) hl.1 d_Assembly_wordsOrFault_12 (by omega) (by decide) ⟨Nat.zero_le _, Nat.zero_le _⟩ (fun locs hS => ?_)
    refine lv_goto (tgt := 25) X.x X.b d_Assembly_wordsOrFault_15 (by decide) ?_
    exact m_iret X hS (Nat.zero_le _) (Nat.zero_le _) d_Assembly_wordsOrFault_25 (congrArg (fun z => some (Value.int z)) (by simp [wofF, c1])) rfl
