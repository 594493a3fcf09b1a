set_option maxRecDepth 100000 in
set_option maxHeartbeats 4000000 in
theorem M_Assembly_reach (l : Launch) (g : GG) {w so cap0 lo hi : Nat} {cnt : Nat → Nat} {f : Nat → Nat → Nat} {D : DT} {S : IS} {c k : Nat} {fn fl rd : Int32} {Qf : Nat → Int32} {H0 : Heap} (hk : k ≤ 121) (hy : aQt g w so cap0 cnt f D lo hi (S, c, nI k, fn, fl, rd) Qf H0) (a_ : Int32) : MM l y_Assembly_reach c_Assembly_reach 3 none 1 0 0 g H0 [.ref w, .int a_] (zF w) (none) (fun H1 => (fun z : QS => aQt g w so cap0 cnt f D lo hi (z.1, c, nI z.2.1, fn, fl, rd) z.2.2 H1) (rea c (S, k, Qf) a_)) := by
  refine MM.of (by decide +kernel) (Nat.le_of_ble_eq_true rfl) ?_
  intro p e s m below meth cd X hH ls hl
  have X : CX g p s m _ meth cd c_Assembly_reach 3 none R_Assembly _ := X
  have hl : lv_has ls 3 [(0, .ref w), (1, .int a_)] := hl
  have hS : va_S (AA (zF w) H0) H0 H0 [] := va_S.rf
  obtain ⟨hA, hP, hQ, ⟨ex, ef, em, hE⟩, hI, ⟨N, hN⟩, hs, hcc, hly, hlw, hhw⟩ := hy
  have hA : asAt g w (nI k) fn fl rd H0 := hA
  have hI : iAt g (w + 1) c S H0 := hI
  have hcc : c ≤ 121 := hcc
  refine lv_aload_n X.x X.b d_Assembly_reach_0 rfl (lv_at hl 0 rfl) ?_
  refine m_get (v := .ref (w + 1)) X ok_Assembly hA 0 (by decide) k_Assembly_12 rfl d_Assembly_reach_1 ?_
  refine lv_iload_n X.x X.b d_Assembly_reach_4 rfl (lv_at hl 1 rfl) ?_
  refine m_callP X hS (M_Items_itemAt l g hI (by omega) a_) v_Assembly_96 hI.1 rfl rfl rfl (Nat.le_of_ble_eq_true rfl) hl.1 d_Assembly_reach_5 (by omega) (by decide) ⟨Nat.zero_le _, Nat.zero_le _⟩ (fun locs hS => ?_)
  rcases o1 : iaO c a_ with _ | j2
  · skip
    try rw [o1]
    refine lv_astore_nN (lv' := [(2, .null), (0, .ref w), (1, .int a_)]) X.x X.b d_Assembly_reach_8 rfl hl (by decide) rfl (fun ls hl => ?_)
    refine lv_aload_nN X.x X.b d_Assembly_reach_9 rfl (lv_at hl 0 rfl) ?_
    refine lv_ifnullN (tgt := 39) X.x X.b d_Assembly_reach_10 (by decide) ?_
    have hM : rea c (S, k, Qf) a_ = (S, k, Qf) := by simp [rea, o1]
    exact m_vret X hS (Nat.zero_le _) (Nat.zero_le _) d_Assembly_reach_39 rfl (by rw [hM]; exact ⟨hA, hP, hQ, ⟨_, _, _, hE⟩, hI, ⟨_, hN⟩, hs, hcc, hly, hlw, hhw⟩)
  · skip
    try rw [o1]
    refine lv_astore_n (lv' := [(2, .ref (w + 1 + 2 + j2)), (0, .ref w), (1, .int a_)]) X.x X.b d_Assembly_reach_8 rfl hl (by decide) rfl (fun ls hl => ?_)
    refine lv_aload_n X.x X.b d_Assembly_reach_9 rfl (lv_at hl 0 rfl) ?_
    refine lv_ifnull X.x X.b d_Assembly_reach_10 ?_
    refine lv_aload_n X.x X.b d_Assembly_reach_13 rfl (lv_at hl 0 rfl) ?_
    refine m_get (v := .int (S.1 15 j2)) X ok_Item (hI.2.2.1 j2 (Nat.lt_of_lt_of_le (iaO_lt o1 (by omega)) hcc)) 15 (by decide) k_Assembly_123 rfl d_Assembly_reach_14 ?_
    refine lv_if_ne (tgt := 39) X.x X.b d_Assembly_reach_17 (by decide) (fun c3 => ?_) (fun c3 => ?_)
    · skip
      have hM : rea c (S, k, Qf) a_ = (S, k, Qf) := by simp [rea, o1, c3]
      exact m_vret X hS (Nat.zero_le _) (Nat.zero_le _) d_Assembly_reach_39 rfl (by rw [hM]; exact ⟨hA, hP, hQ, ⟨_, _, _, hE⟩, hI, ⟨_, hN⟩, hs, hcc, hly, hlw, hhw⟩)
    · skip
      refine lv_aload_n X.x X.b d_Assembly_reach_20 rfl (lv_at hl 0 rfl) ?_
      refine m_callP X hS (M_Item_canBeFollowed l g hI (Nat.lt_of_lt_of_le (iaO_lt o1 (by omega)) hcc)) v_Assembly_127 (hI.2.2.1 j2 (Nat.lt_of_lt_of_le (iaO_lt o1 (by omega)) hcc)) rfl rfl rfl (Nat.le_of_ble_eq_true rfl) hl.1 d_Assembly_reach_21 (by omega) (by decide) ⟨Nat.zero_le _, Nat.zero_le _⟩ (fun locs hS => ?_)
      refine lv_if_eq (tgt := 39) X.x X.b d_Assembly_reach_24 (by decide) (fun c4 => ?_) (fun c4 => ?_)
      · skip
        have c4 := b2i_0.mp c4
        have hM : rea c (S, k, Qf) a_ = (S, k, Qf) := by simp [rea, o1, c3, c4]
        exact m_vret X hS (Nat.zero_le _) (Nat.zero_le _) d_Assembly_reach_39 rfl (by rw [hM]; exact ⟨hA, hP, hQ, ⟨_, _, _, hE⟩, hI, ⟨_, hN⟩, hs, hcc, hly, hlw, hhw⟩)
      · skip
        have c4 := b2i_n0 c4
        refine lv_aload_n X.x X.b d_Assembly_reach_27 rfl (lv_at hl 1 rfl) ?_
        refine m_get (v := .int (nI k)) X ok_Assembly hA 4 (by decide) k_Assembly_40 rfl d_Assembly_reach_28 ?_
        refine lv_aload_n X.x X.b d_Assembly_reach_31 rfl (lv_at hl 1 rfl) ?_
        refine m_get (v := .ref (w + 130)) X ok_Assembly hA 3 (by decide) k_Assembly_36 rfl d_Assembly_reach_32 ?_
        refine m_alen (v := 121) X 0 rfl hQ rfl d_Assembly_reach_35 ?_
        refine lv_icmp_lt (tgt := 40) X.x X.b d_Assembly_reach_36 (by decide) (fun c5 => ?_) (fun c5 => ?_)
        · skip
          have c5q := Int32.not_le.mpr c5
          have c5 : k < 121 := (nI_ltI (b := 121) (by omega) (by omega)).mp c5
          have c5q := c5
          refine lv_aload_n X.x X.b d_Assembly_reach_40 rfl (lv_at hl 0 rfl) ?_
          refine lv_iconst (v := 1) X.x X.b d_Assembly_reach_41 (by decide) ?_
          have hjb : j2 < 121 := (Nat.lt_of_lt_of_le (iaO_lt o1 (by omega)) hcc)
          refine m_put X ok_Item hS (Or.inl ⟨by omega, by omega⟩) (hI.2.2.1 j2 (Nat.lt_of_lt_of_le (iaO_lt o1 (by omega)) hcc)) 15 (by decide) k_Assembly_123 rfl (ok_Item.2.2.1 _ (by decide)) rfl rfl (Nat.le_of_ble_eq_true rfl) d_Assembly_reach_42 (fun H locs hp hcg hS => ?_)
          have hI := hI.pI (k := 15) (v := 1) (Nat.lt_of_lt_of_le (iaO_lt o1 (by omega)) hcc) hp hcg (by simp [iv, sI])
          obtain ⟨S6, eS6⟩ : ∃ z, z = sI S 15 j2 1 := ⟨_, rfl⟩
          rw [← eS6] at hI
          have hfr := fr.of_chg (A := fun q => q = w + 1 + 2 + j2) hcg rfl
          have hA := hA.fr hfr (fun z => by have z : w = w + 1 + 2 + j2 := z; omega)
          have hP := hP.fr hfr (fun z => by have z : w + 129 = w + 1 + 2 + j2 := z; omega)
          have hQ := hQ.fr hfr (fun z => by have z : w + 130 = w + 1 + 2 + j2 := z; omega)
          have hE := hE.fr hfr (fun z => by have z : w + 124 = w + 1 + 2 + j2 := z; omega)
          have hN := hN.frame hfr (fun q z => by have z : q = w + 1 + 2 + j2 := z; omega)
          have hs := hs.frame hfr (fun q z => by have z : q = w + 1 + 2 + j2 := z; omega)
          refine lv_aload_n X.x X.b d_Assembly_reach_45 rfl (lv_at hl 1 rfl) ?_
          refine m_get (v := .ref (w + 130)) X ok_Assembly hA 3 (by decide) k_Assembly_36 rfl d_Assembly_reach_46 ?_
          refine lv_aload_n X.x X.b d_Assembly_reach_49 rfl (lv_at hl 1 rfl) ?_
          refine m_get (v := .int (nI k)) X ok_Assembly hA 4 (by decide) k_Assembly_40 rfl d_Assembly_reach_50 ?_
          refine lv_iload_n X.x X.b d_Assembly_reach_53 rfl (lv_at hl 2 rfl) ?_
          refine m_iast X hS (Or.inl ⟨by omega, by omega⟩) hQ (vp_in_nI (by omega) (by omega)) d_Assembly_reach_54 (fun H locs hp hcg hS => ?_)
          rw [nI_clamp (by omega)] at hp
          have hQ := hp
          have hfr := fr.of_chg (A := fun q => q = w + 130) hcg rfl
          have hA := hA.fr hfr (fun z => by have z : w = w + 130 := z; omega)
          have hP := hP.fr hfr (fun z => by have z : w + 129 = w + 130 := z; omega)
          have hE := hE.fr hfr (fun z => by have z : w + 124 = w + 130 := z; omega)
          have hI := hI.frame hfr (fun q z => by have z : q = w + 130 := z; omega)
          have hN := hN.frame hfr (fun q z => by have z : q = w + 130 := z; omega)
          have hs := hs.frame hfr (fun q z => by have z : q = w + 130 := z; omega)
          refine lv_aload_n X.x X.b d_Assembly_reach_55 rfl (lv_at hl 1 rfl) ?_
          refine lv_dup X.x X.b d_Assembly_reach_56 rfl ?_
          refine m_get (v := .int (nI k)) X ok_Assembly hA 4 (by decide) k_Assembly_40 rfl d_Assembly_reach_57 ?_
          refine lv_iconst (v := 1) X.x X.b d_Assembly_reach_60 (by decide) ?_
          refine lv_iadd X.x X.b d_Assembly_reach_61 ?_
          refine lv_topi (fun z ez => ?_)
          rw [nI_1] at ez
          subst ez
          refine m_put X ok_Assembly hS (Or.inl ⟨by omega, by omega⟩) hA 4 (by decide) k_Assembly_40 rfl (ok_Assembly.2.2.1 _ (by decide)) rfl rfl (Nat.le_of_ble_eq_true rfl) d_Assembly_reach_62 (fun H locs hp hcg hS => ?_)
          have hA : asAt g w (nI (k + 1)) fn fl rd H := hp
          have hfr := fr.of_chg (A := fun q => q = w) hcg rfl
          have hP := hP.fr hfr (fun z => by have z : w + 129 = w := z; omega)
          have hQ := hQ.fr hfr (fun z => by have z : w + 130 = w := z; omega)
          have hE := hE.fr hfr (fun z => by have z : w + 124 = w := z; omega)
          have hI := hI.frame hfr (fun q z => by have z : q = w := z; omega)
          have hN := hN.frame hfr (fun q z => by have z : q = w := z; omega)
          have hs := hs.frame hfr (fun q z => by have z : q = w := z; omega)
          have hM : rea c (S, k, Qf) a_ = (S6, k + 1, upd Qf k a_) := by simp [rea, o1, c3, c4, c5, c5q, ← eS6]
          exact m_vret X hS (Nat.zero_le _) (Nat.zero_le _) d_Assembly_reach_65 rfl (by rw [hM]; exact ⟨hA, hP, hQ, ⟨_, _, _, hE⟩, hI, ⟨_, hN⟩, hs, hcc, hly, hlw, hhw⟩)
        · skip
          have c5q := Int32.not_lt.mp c5
          have c5 : ¬ k < 121 := fun z => c5 ((nI_ltI (b := 121) (by omega) (by omega)).mpr z)
          have c5q := c5
          have hM : rea c (S, k, Qf) a_ = (S, k, Qf) := by simp [rea, o1, c3, c4, c5, c5q]
          exact m_vret X hS (Nat.zero_le _) (Nat.zero_le _) d_Assembly_reach_39 rfl (by rw [hM]; exact ⟨hA, hP, hQ, ⟨_, _, _, hE⟩, hI, ⟨_, hN⟩, hs, hcc, hly, hlw, hhw⟩)
set_option maxRecDepth 100000 in
set_option maxHeartbeats 4000000 in
theorem M_Assembly_follow (l : Launch) (g : GG) {w so cap0 lo hi : Nat} {cnt : Nat → Nat} {f : Nat → Nat → Nat} {D : DT} {S : IS} {c k : Nat} {fn fl rd : Int32} {Qf : Nat → Int32} {H0 : Heap} (hk : k ≤ 121) (hy : aQt g w so cap0 cnt f D lo hi (S, c, nI k, fn, fl, rd) Qf H0) : MM l y_Assembly_follow c_Assembly_follow 3 none 2 0 0 g H0 [.ref w] (zF w) (none) (fun H1 => (fun z : QS => aQt g w so cap0 cnt f D lo hi (z.1, c, nI z.2.1, fn, fl, rd) z.2.2 H1) (flwF (S, c, nI k, fn, fl, rd) Qf)) := by
  refine MM.of (by decide +kernel) (Nat.le_of_ble_eq_true rfl) ?_
  intro p e s m below meth cd X hH ls hl
  have X : CX g p s m _ meth cd c_Assembly_follow 3 none R_Assembly _ := X
  have hl : lv_has ls 3 [(0, .ref w)] := hl
  have hS : va_S (AA (zF w) H0) H0 H0 [] := va_S.rf
  obtain ⟨hA, hP, hQ, ⟨ex, ef, em, hE⟩, hI, ⟨N, hN⟩, hs, hcc, hly, hlw, hhw⟩ := hy
  have hA : asAt g w (nI k) fn fl rd H0 := hA
  have hI : iAt g (w + 1) c S H0 := hI
  have hcc : c ≤ 121 := hcc
  refine lv_aload_n X.x X.b d_Assembly_follow_0 rfl (lv_at hl 0 rfl) ?_
  refine lv_iconst (v := 0) X.x X.b d_Assembly_follow_1 (by decide) ?_
  refine m_put X ok_Assembly hS (Or.inl ⟨by omega, by omega⟩) hA 4 (by decide) k_Assembly_40 rfl (ok_Assembly.2.2.1 _ (by decide)) rfl rfl (Nat.le_of_ble_eq_true rfl) d_Assembly_follow_2 (fun H locs hp hcg hS => ?_)
  have hA : asAt g w (nI 0) fn fl rd H := hp
  have hfr := fr.of_chg (A := fun q => q = w) hcg rfl
  have hP := hP.fr hfr (fun z => by have z : w + 129 = w := z; omega)
  have hQ := hQ.fr hfr (fun z => by have z : w + 130 = w := z; omega)
  have hE := hE.fr hfr (fun z => by have z : w + 124 = w := z; omega)
  have hI := hI.frame hfr (fun q z => by have z : q = w := z; omega)
  have hN := hN.frame hfr (fun q z => by have z : q = w := z; omega)
  have hs := hs.frame hfr (fun q z => by have z : q = w := z; omega)
  refine lv_aload_n X.x X.b d_Assembly_follow_5 rfl (lv_at hl 0 rfl) ?_
  refine lv_iconst (v := 0) X.x X.b d_Assembly_follow_6 (by decide) ?_
  have hR := M_Assembly_reach (k := 0) l g (Nat.zero_le _) ⟨hA, hP, hQ, ⟨_, _, _, hE⟩, hI, ⟨_, hN⟩, hs, hcc, hly, hlw, hhw⟩ 0
  have hkq1 : (rea c (S, 0, Qf) 0).2.1 ≤ 121 := rea_le (Nat.zero_le _)
  obtain ⟨⟨Sq1, kq1, Qq1⟩, hq1⟩ : ∃ z, z = rea c (S, 0, Qf) 0 := ⟨_, rfl⟩
  rw [← hq1] at hR hkq1
  have hkq1 : kq1 ≤ 121 := hkq1
  refine m_callM X hS hR v_Assembly_107 hA rfl rfl rfl (Nat.le_of_ble_eq_true rfl) hl.1 d_Assembly_follow_7 (by omega) (by decide) ⟨Nat.zero_le _, Nat.zero_le _⟩ (fun q z => z) (fun H locs hy hfr hS => ?_)
  obtain ⟨hA, hP, hQ, ⟨ex, ef, em, hE⟩, hI, ⟨N, hN⟩, hs, -, -, -, -⟩ := hy
  have hA : asAt g w (nI kq1) fn fl rd H := hA
  have hI : iAt g (w + 1) c Sq1 H := hI
  have hQ : quAt g w Qq1 H := hQ
  refine lv_iconst (v := 0) X.x X.b d_Assembly_follow_10 (by decide) ?_
  refine lv_istore_n (lv' := [(1, .int 0), (0, .ref w)]) X.x X.b d_Assembly_follow_11 rfl hl (by decide) rfl (fun ls hl => ?_)
  have lp : ∀ (n i : Nat) (S2 : IS) (k2 : Nat) (Q2 : Nat → Int32), n = 121 - i → i < 5000 → (k2 ≤ 121 ∧ fol c n i (S2, k2, Q2) = flwF (S, c, nI k, fn, fl, rd) Qf) → ∀ (H : Heap) (locs : List Loc) (ls : Array Slot), asAt g w (nI k2) fn fl rd H → poAt g w H → quAt g w Q2 H → (∃ x fn ml, exAt g w so x fn ml H) → iAt g (w + 1) c S2 H → (∃ N, nAt g (w + 125) N H) → sAt g so cap0 cnt f D lo hi H → va_S (AA (zF w) H0) H0 H locs → lv_has ls 3 [(0, .ref w), (1, .int (nI i))] → W p l e (rmK 2 0 0) s m ([.ref w] : List Value).toArray below meth cd H locs 0 0 (MQ below (QM (none) (fun H1 => (fun z : QS => aQt g w so cap0 cnt f D lo hi (z.1, c, nI z.2.1, fn, fl, rd) z.2.2 H1) (flwF (S, c, nI k, fn, fl, rd) Qf)) (zF w) H0) ([.ref w] : List Value).toArray s 0 0 (AA (zF w) H0)) (F0 m 12 ls []) := by
    intro n
    induction n with
    | zero =>
      intro i S2 k2 Q2 hin hi5 hV H locs ls hA hP hQ hE hI hN hs hS hl
      obtain ⟨hk2, hV⟩ := hV
      obtain ⟨ex, ef, em, hE⟩ := hE
      obtain ⟨N, hN⟩ := hN
      refine lv_iload_n X.x X.b d_Assembly_follow_12 rfl (lv_at hl 1 rfl) ?_
      refine lv_aload_n X.x X.b d_Assembly_follow_13 rfl (lv_at hl 0 rfl) ?_
      refine m_get (v := .int (nI k2)) X ok_Assembly hA 4 (by decide) k_Assembly_40 rfl d_Assembly_follow_14 ?_
      refine lv_icmp_ge (tgt := 96) X.x X.b d_Assembly_follow_17 (by decide) (fun c2 => ?_) (fun c2 => ?_)
      · skip
        have c2q := Int32.not_lt.mpr c2
        have c2 : ¬ i < k2 := Nat.not_lt_of_le ((nI_leI (by omega) (by omega)).mp c2)
        have c2q := c2
        have hM : flwF (S, c, nI k, fn, fl, rd) Qf = (S2, k2, Q2) := hV.symm.trans (by simp [fol, ← hq1, c2, c2q])
        exact m_vret X hS (Nat.zero_le _) (Nat.zero_le _) d_Assembly_follow_96 rfl (by rw [hM]; exact ⟨hA, hP, hQ, ⟨_, _, _, hE⟩, hI, ⟨_, hN⟩, hs, hcc, hly, hlw, hhw⟩)
      · skip
        have c2q := Int32.not_le.mp c2
        have c2 : i < k2 := Nat.lt_of_not_le (fun z => c2 (nI_le z (by omega)))
        have c2q := c2
        refine lv_iload_n X.x X.b d_Assembly_follow_20 rfl (lv_at hl 1 rfl) ?_
        refine lv_aload_n X.x X.b d_Assembly_follow_21 rfl (lv_at hl 0 rfl) ?_
        refine m_get (v := .ref (w + 130)) X ok_Assembly hA 3 (by decide) k_Assembly_36 rfl d_Assembly_follow_22 ?_
        refine m_alen (v := 121) X 0 rfl hQ rfl d_Assembly_follow_25 ?_
        refine lv_icmp_ge (tgt := 96) X.x X.b d_Assembly_follow_26 (by decide) (fun c3 => ?_) (fun c3 => ?_)
        · skip
          have c3q := Int32.not_lt.mpr c3
          have hM : flwF (S, c, nI k, fn, fl, rd) Qf = (S2, k2, Q2) := hV.symm.trans (by simp [fol, ← hq1, c2, c2q, c3, c3q])
          exact m_vret X hS (Nat.zero_le _) (Nat.zero_le _) d_Assembly_follow_96 rfl (by rw [hM]; exact ⟨hA, hP, hQ, ⟨_, _, _, hE⟩, hI, ⟨_, hN⟩, hs, hcc, hly, hlw, hhw⟩)
        · exact absurd (nI_le (a := 121) (b := i) (by omega) (by omega)) c3
    | succ n ih =>
      intro i S2 k2 Q2 hin hi5 hV H locs ls hA hP hQ hE hI hN hs hS hl
      obtain ⟨hk2, hV⟩ := hV
      obtain ⟨ex, ef, em, hE⟩ := hE
      obtain ⟨N, hN⟩ := hN
      refine lv_iload_n X.x X.b d_Assembly_follow_12 rfl (lv_at hl 1 rfl) ?_
      refine lv_aload_n X.x X.b d_Assembly_follow_13 rfl (lv_at hl 0 rfl) ?_
      refine m_get (v := .int (nI k2)) X ok_Assembly hA 4 (by decide) k_Assembly_40 rfl d_Assembly_follow_14 ?_
      refine lv_icmp_ge (tgt := 96) X.x X.b d_Assembly_follow_17 (by decide) (fun c4 => ?_) (fun c4 => ?_)
      · skip
        have c4q := Int32.not_lt.mpr c4
        have c4 : ¬ i < k2 := Nat.not_lt_of_le ((nI_leI (by omega) (by omega)).mp c4)
        have c4q := c4
        have hM : flwF (S, c, nI k, fn, fl, rd) Qf = (S2, k2, Q2) := hV.symm.trans (by simp [fol, ← hq1, c4, c4q])
        exact m_vret X hS (Nat.zero_le _) (Nat.zero_le _) d_Assembly_follow_96 rfl (by rw [hM]; exact ⟨hA, hP, hQ, ⟨_, _, _, hE⟩, hI, ⟨_, hN⟩, hs, hcc, hly, hlw, hhw⟩)
      · skip
        have c4q := Int32.not_le.mp c4
        have c4 : i < k2 := Nat.lt_of_not_le (fun z => c4 (nI_le z (by omega)))
        have c4q := c4
        refine lv_iload_n X.x X.b d_Assembly_follow_20 rfl (lv_at hl 1 rfl) ?_
        refine lv_aload_n X.x X.b d_Assembly_follow_21 rfl (lv_at hl 0 rfl) ?_
        refine m_get (v := .ref (w + 130)) X ok_Assembly hA 3 (by decide) k_Assembly_36 rfl d_Assembly_follow_22 ?_
        refine m_alen (v := 121) X 0 rfl hQ rfl d_Assembly_follow_25 ?_
        refine lv_icmp_ge (tgt := 96) X.x X.b d_Assembly_follow_26 (by decide) (fun c5 => ?_) (fun c5 => ?_)
        · exact absurd ((nI_leI (a := 121) (b := i) (by omega) (by omega)).mp c5) (by omega)
        · skip
          have c5q := Int32.not_le.mp c5
          refine lv_aload_n X.x X.b d_Assembly_follow_29 rfl (lv_at hl 0 rfl) ?_
          refine m_get (v := .ref (w + 1)) X ok_Assembly hA 0 (by decide) k_Assembly_12 rfl d_Assembly_follow_30 ?_
          refine lv_aload_n X.x X.b d_Assembly_follow_33 rfl (lv_at hl 0 rfl) ?_
          refine m_get (v := .ref (w + 130)) X ok_Assembly hA 3 (by decide) k_Assembly_36 rfl d_Assembly_follow_34 ?_
          refine lv_iload_n X.x X.b d_Assembly_follow_37 rfl (lv_at hl 1 rfl) ?_
          refine m_iald X hQ (vp_in_nI (by omega) (by omega)) d_Assembly_follow_38 ?_
          rw [nI_clamp (by omega)]
          refine m_callP X hS (M_Items_itemAt l g hI (by omega) (Q2 i)) v_Assembly_96 hI.1 rfl rfl rfl (Nat.le_of_ble_eq_true rfl) hl.1 d_Assembly_follow_39 (by omega) (by decide) ⟨Nat.zero_le _, Nat.zero_le _⟩ (fun locs hS => ?_)
          rcases o6 : iaO c (Q2 i) with _ | j7
          · skip
            try rw [o6]
            refine lv_astore_nN (lv' := [(2, .null), (0, .ref w), (1, .int (nI i))]) X.x X.b d_Assembly_follow_42 rfl hl (by decide) rfl (fun ls hl => ?_)
            refine lv_aload_nN X.x X.b d_Assembly_follow_43 rfl (lv_at hl 0 rfl) ?_
            refine lv_ifnonnullN X.x X.b d_Assembly_follow_44 ?_
            have hM : flwF (S, c, nI k, fn, fl, rd) Qf = (S2, k2, Q2) := hV.symm.trans (by simp [fol, ← hq1, c4, c4q, c5, c5q, o6])
            exact m_vret X hS (Nat.zero_le _) (Nat.zero_le _) d_Assembly_follow_47 rfl (by rw [hM]; exact ⟨hA, hP, hQ, ⟨_, _, _, hE⟩, hI, ⟨_, hN⟩, hs, hcc, hly, hlw, hhw⟩)
          · skip
            try rw [o6]
            refine lv_astore_n (lv' := [(2, .ref (w + 1 + 2 + j7)), (0, .ref w), (1, .int (nI i))]) X.x X.b d_Assembly_follow_42 rfl hl (by decide) rfl (fun ls hl => ?_)
            refine lv_aload_n X.x X.b d_Assembly_follow_43 rfl (lv_at hl 0 rfl) ?_
            refine lv_ifnonnull (tgt := 48) X.x X.b d_Assembly_follow_44 (by decide) ?_
            refine lv_aload_n X.x X.b d_Assembly_follow_48 rfl (lv_at hl 0 rfl) ?_
            refine m_get (v := .int (S2.1 0 j7)) X ok_Item (hI.2.2.1 j7 (Nat.lt_of_lt_of_le (iaO_lt o6 (by omega)) hcc)) 0 (by decide) k_Assembly_111 rfl d_Assembly_follow_49 ?_
            refine lv_iconst (v := 3) X.x X.b d_Assembly_follow_52 (by decide) ?_
            refine lv_icmp_eq (tgt := 68) X.x X.b d_Assembly_follow_53 (by decide) (fun c8 => ?_) (fun c8 => ?_)
            · skip
              refine lv_aload_n X.x X.b d_Assembly_follow_68 rfl (lv_at hl 0 rfl) ?_
              refine m_callP X hS (M_Item_isBranch l g hI (Nat.lt_of_lt_of_le (iaO_lt o6 (by omega)) hcc)) v_Assembly_114 (hI.2.2.1 j7 (Nat.lt_of_lt_of_le (iaO_lt o6 (by omega)) hcc)) rfl rfl rfl (Nat.le_of_ble_eq_true rfl) hl.1 d_Assembly_follow_69 (by omega) (by decide) ⟨Nat.zero_le _, Nat.zero_le _⟩ (fun locs hS => ?_)
              refine lv_if_eq (tgt := 90) X.x X.b d_Assembly_follow_72 (by decide) (fun c9 => ?_) (fun c9 => ?_)
              · skip
                have c9 := b2i_0.mp c9
                refine lv_iinc (v := nI (i + 1)) (lv' := [(1, .int (nI (i + 1))), (2, .ref (w + 1 + 2 + j7)), (0, .ref w)]) X.x X.b d_Assembly_follow_90 hl (k := 2) rfl (nI_1 i) (by decide) rfl (fun ls hl => ?_)
                refine lv_goto (tgt := 12) X.x X.b d_Assembly_follow_93 (by decide) ?_
                exact ih (i + 1) S2 k2 Q2 (by omega) (by omega) (⟨hk2, by rw [← hV]; simp [fol, ← hq1, c4, c4q, c5, c5q, o6, c8, c9]⟩) _ _ _ hA hP hQ ⟨_, _, _, hE⟩ hI ⟨_, hN⟩ hs hS (lv_sub hl [2, 0] rfl)
              · skip
                have c9 := b2i_n0 c9
                refine lv_aload_n X.x X.b d_Assembly_follow_75 rfl (lv_at hl 1 rfl) ?_
                refine lv_aload_n X.x X.b d_Assembly_follow_76 rfl (lv_at hl 1 rfl) ?_
                refine m_get (v := .ref (w + 1)) X ok_Assembly hA 0 (by decide) k_Assembly_12 rfl d_Assembly_follow_77 ?_
                refine lv_aload_n X.x X.b d_Assembly_follow_80 rfl (lv_at hl 0 rfl) ?_
                refine m_callP X hS (M_Item_valueHere l g hI (Nat.lt_of_lt_of_le (iaO_lt o6 (by omega)) hcc)) v_Assembly_117 (hI.2.2.1 j7 (Nat.lt_of_lt_of_le (iaO_lt o6 (by omega)) hcc)) rfl rfl rfl (Nat.le_of_ble_eq_true rfl) hl.1 d_Assembly_follow_81 (by omega) (by decide) ⟨Nat.zero_le _, Nat.zero_le _⟩ (fun locs hS => ?_)
                refine m_callP X hS (M_Items_firstWith l g hI hcc (valF S2 j7)) v_Assembly_120 hI.1 rfl rfl rfl (Nat.le_of_ble_eq_true rfl) hl.1 d_Assembly_follow_84 (by omega) (by decide) ⟨Nat.zero_le _, Nat.zero_le _⟩ (fun locs hS => ?_)
                have hR := M_Assembly_reach (k := k2) l g hk2 ⟨hA, hP, hQ, ⟨_, _, _, hE⟩, hI, ⟨_, hN⟩, hs, hcc, hly, hlw, hhw⟩ (fwF S2 c (valF S2 j7))
                have hkq10 : (rea c (S2, k2, Q2) (fwF S2 c (valF S2 j7))).2.1 ≤ 121 := rea_le hk2
                obtain ⟨⟨Sq10, kq10, Qq10⟩, hq10⟩ : ∃ z, z = rea c (S2, k2, Q2) (fwF S2 c (valF S2 j7)) := ⟨_, rfl⟩
                rw [← hq10] at hR hkq10
                have hkq10 : kq10 ≤ 121 := hkq10
                refine m_callM X hS hR v_Assembly_107 hA rfl rfl rfl (Nat.le_of_ble_eq_true rfl) hl.1 d_Assembly_follow_87 (by omega) (by decide) ⟨Nat.zero_le _, Nat.zero_le _⟩ (fun q z => z) (fun H locs hy hfr hS => ?_)
                obtain ⟨hA, hP, hQ, ⟨ex, ef, em, hE⟩, hI, ⟨N, hN⟩, hs, -, -, -, -⟩ := hy
                have hA : asAt g w (nI kq10) fn fl rd H := hA
                have hI : iAt g (w + 1) c Sq10 H := hI
                have hQ : quAt g w Qq10 H := hQ
                refine lv_iinc (v := nI (i + 1)) (lv' := [(1, .int (nI (i + 1))), (2, .ref (w + 1 + 2 + j7)), (0, .ref w)]) X.x X.b d_Assembly_follow_90 hl (k := 2) rfl (nI_1 i) (by decide) rfl (fun ls hl => ?_)
                refine lv_goto (tgt := 12) X.x X.b d_Assembly_follow_93 (by decide) ?_
                exact ih (i + 1) Sq10 kq10 Qq10 (by omega) (by omega) (⟨hkq10, by rw [← hV]; simp [fol, ← hq1, c4, c4q, c5, c5q, o6, c8, c9, ← hq10]⟩) _ _ _ hA hP hQ ⟨_, _, _, hE⟩ hI ⟨_, hN⟩ hs hS (lv_sub hl [2, 0] rfl)
            · skip
              refine lv_aload_n X.x X.b d_Assembly_follow_56 rfl (lv_at hl 1 rfl) ?_
              refine lv_aload_n X.x X.b d_Assembly_follow_57 rfl (lv_at hl 1 rfl) ?_
              refine m_get (v := .ref (w + 130)) X ok_Assembly hA 3 (by decide) k_Assembly_36 rfl d_Assembly_follow_58 ?_
              refine lv_iload_n X.x X.b d_Assembly_follow_61 rfl (lv_at hl 2 rfl) ?_
              refine m_iald X hQ (vp_in_nI (by omega) (by omega)) d_Assembly_follow_62 ?_
              rw [nI_clamp (by omega)]
              refine lv_iconst (v := 1) X.x X.b d_Assembly_follow_63 (by decide) ?_
              refine lv_iadd X.x X.b d_Assembly_follow_64 ?_
              have hR := M_Assembly_reach (k := k2) l g hk2 ⟨hA, hP, hQ, ⟨_, _, _, hE⟩, hI, ⟨_, hN⟩, hs, hcc, hly, hlw, hhw⟩ ((Q2 i) + 1)
              have hkq11 : (rea c (S2, k2, Q2) ((Q2 i) + 1)).2.1 ≤ 121 := rea_le hk2
              obtain ⟨⟨Sq11, kq11, Qq11⟩, hq11⟩ : ∃ z, z = rea c (S2, k2, Q2) ((Q2 i) + 1) := ⟨_, rfl⟩
              rw [← hq11] at hR hkq11
              have hkq11 : kq11 ≤ 121 := hkq11
              refine m_callM X hS hR v_Assembly_107 hA rfl rfl rfl (Nat.le_of_ble_eq_true rfl) hl.1 d_Assembly_follow_65 (by omega) (by decide) ⟨Nat.zero_le _, Nat.zero_le _⟩ (fun q z => z) (fun H locs hy hfr hS => ?_)
              obtain ⟨hA, hP, hQ, ⟨ex, ef, em, hE⟩, hI, ⟨N, hN⟩, hs, -, -, -, -⟩ := hy
              have hA : asAt g w (nI kq11) fn fl rd H := hA
              have hI : iAt g (w + 1) c Sq11 H := hI
              have hQ : quAt g w Qq11 H := hQ
              refine lv_aload_n X.x X.b d_Assembly_follow_68 rfl (lv_at hl 0 rfl) ?_
              refine m_callP X hS (M_Item_isBranch l g hI (Nat.lt_of_lt_of_le (iaO_lt o6 (by omega)) hcc)) v_Assembly_114 (hI.2.2.1 j7 (Nat.lt_of_lt_of_le (iaO_lt o6 (by omega)) hcc)) rfl rfl rfl (Nat.le_of_ble_eq_true rfl) hl.1 d_Assembly_follow_69 (by omega) (by decide) ⟨Nat.zero_le _, Nat.zero_le _⟩ (fun locs hS => ?_)
              refine lv_if_eq (tgt := 90) X.x X.b d_Assembly_follow_72 (by decide) (fun c12 => ?_) (fun c12 => ?_)
              · skip
                have c12 := b2i_0.mp c12
                refine lv_iinc (v := nI (i + 1)) (lv' := [(1, .int (nI (i + 1))), (2, .ref (w + 1 + 2 + j7)), (0, .ref w)]) X.x X.b d_Assembly_follow_90 hl (k := 2) rfl (nI_1 i) (by decide) rfl (fun ls hl => ?_)
                refine lv_goto (tgt := 12) X.x X.b d_Assembly_follow_93 (by decide) ?_
                exact ih (i + 1) Sq11 kq11 Qq11 (by omega) (by omega) (⟨hkq11, by rw [← hV]; simp [fol, ← hq1, c4, c4q, c5, c5q, o6, c8, ← hq11, c12]⟩) _ _ _ hA hP hQ ⟨_, _, _, hE⟩ hI ⟨_, hN⟩ hs hS (lv_sub hl [2, 0] rfl)
              · skip
                have c12 := b2i_n0 c12
                refine lv_aload_n X.x X.b d_Assembly_follow_75 rfl (lv_at hl 1 rfl) ?_
                refine lv_aload_n X.x X.b d_Assembly_follow_76 rfl (lv_at hl 1 rfl) ?_
                refine m_get (v := .ref (w + 1)) X ok_Assembly hA 0 (by decide) k_Assembly_12 rfl d_Assembly_follow_77 ?_
                refine lv_aload_n X.x X.b d_Assembly_follow_80 rfl (lv_at hl 0 rfl) ?_
                refine m_callP X hS (M_Item_valueHere l g hI (Nat.lt_of_lt_of_le (iaO_lt o6 (by omega)) hcc)) v_Assembly_117 (hI.2.2.1 j7 (Nat.lt_of_lt_of_le (iaO_lt o6 (by omega)) hcc)) rfl rfl rfl (Nat.le_of_ble_eq_true rfl) hl.1 d_Assembly_follow_81 (by omega) (by decide) ⟨Nat.zero_le _, Nat.zero_le _⟩ (fun locs hS => ?_)
                refine m_callP X hS (M_Items_firstWith l g hI hcc (valF Sq11 j7)) v_Assembly_120 hI.1 rfl rfl rfl (Nat.le_of_ble_eq_true rfl) hl.1 d_Assembly_follow_84 (by omega) (by decide) ⟨Nat.zero_le _, Nat.zero_le _⟩ (fun locs hS => ?_)
                have hR := M_Assembly_reach (k := kq11) l g hkq11 ⟨hA, hP, hQ, ⟨_, _, _, hE⟩, hI, ⟨_, hN⟩, hs, hcc, hly, hlw, hhw⟩ (fwF Sq11 c (valF Sq11 j7))
                have hkq13 : (rea c (Sq11, kq11, Qq11) (fwF Sq11 c (valF Sq11 j7))).2.1 ≤ 121 := rea_le hkq11
                obtain ⟨⟨Sq13, kq13, Qq13⟩, hq13⟩ : ∃ z, z = rea c (Sq11, kq11, Qq11) (fwF Sq11 c (valF Sq11 j7)) := ⟨_, rfl⟩
                rw [← hq13] at hR hkq13
                have hkq13 : kq13 ≤ 121 := hkq13
                refine m_callM X hS hR v_Assembly_107 hA rfl rfl rfl (Nat.le_of_ble_eq_true rfl) hl.1 d_Assembly_follow_87 (by omega) (by decide) ⟨Nat.zero_le _, Nat.zero_le _⟩ (fun q z => z) (fun H locs hy hfr hS => ?_)
                obtain ⟨hA, hP, hQ, ⟨ex, ef, em, hE⟩, hI, ⟨N, hN⟩, hs, -, -, -, -⟩ := hy
                have hA : asAt g w (nI kq13) fn fl rd H := hA
                have hI : iAt g (w + 1) c Sq13 H := hI
                have hQ : quAt g w Qq13 H := hQ
                refine lv_iinc (v := nI (i + 1)) (lv' := [(1, .int (nI (i + 1))), (2, .ref (w + 1 + 2 + j7)), (0, .ref w)]) X.x X.b d_Assembly_follow_90 hl (k := 2) rfl (nI_1 i) (by decide) rfl (fun ls hl => ?_)
                refine lv_goto (tgt := 12) X.x X.b d_Assembly_follow_93 (by decide) ?_
                exact ih (i + 1) Sq13 kq13 Qq13 (by omega) (by omega) (⟨hkq13, by rw [← hV]; simp [fol, ← hq1, c4, c4q, c5, c5q, o6, c8, ← hq11, c12, ← hq13]⟩) _ _ _ hA hP hQ ⟨_, _, _, hE⟩ hI ⟨_, hN⟩ hs hS (lv_sub hl [2, 0] rfl)
  exact lp 121 0 Sq1 kq1 Qq1 (by omega) (by omega) (⟨hkq1, by simp [flwF, ← hq1]⟩) _ _ _ hA hP hQ ⟨_, _, _, hE⟩ hI ⟨_, hN⟩ hs hS (lv_sub hl [1, 0] rfl)
