set_option maxRecDepth 100000 in
set_option maxHeartbeats 4000000 in
theorem M_Assembly_assemble (l : Launch) (g : GG) {w so cap0 lo hi : Nat} {cnt : Nat → Nat} {f : Nat → Nat → Nat} {D : DT} {y : YS} {H0 : Heap} (hy : aAt g w so cap0 cnt f D lo hi y H0) : MM l y_Assembly_assemble c_Assembly_assemble 2 none 20 0 0 g H0 [.ref w] (zF w) (none) (fun H1 => aAt g w so cap0 cnt f D lo hi (asmF D cnt y) H1) := by
  refine MM.of (by decide +kernel) (Nat.le_of_ble_eq_true rfl) ?_
  intro p e s m below meth cd X hH ls hl
  have X : CX g p s m _ meth cd c_Assembly_assemble 2 none R_Assembly _ := X
  have hl : lv_has ls 2 [(0, .ref w)] := hl
  have hS : va_S (AA (zF w) H0) H0 H0 [] := va_S.rf
  obtain ⟨S, c, qd, fn, fl, rd⟩ := y
  obtain ⟨hA, hP, ⟨Qf, hQ⟩, ⟨ex, ef, em, hE⟩, hI, ⟨N, hN⟩, hs, hcc, hly, hlw, hhw⟩ := hy
  have hA : asAt g w qd fn fl rd H0 := hA
  have hI : iAt g (w + 1) c S H0 := hI
  have hcc : c ≤ 121 := hcc
  refine lv_aload_n X.x X.b d_Assembly_assemble_0 rfl (lv_at hl 0 rfl) ?_
  refine lv_iconst (v := 0) X.x X.b d_Assembly_assemble_1 (by decide) ?_
  refine m_put X ok_Assembly hS (Or.inl ⟨by omega, by omega⟩) hA 5 (by decide) k_Assembly_44 rfl (ok_Assembly.2.2.1 _ (by decide)) rfl rfl (Nat.le_of_ble_eq_true rfl) d_Assembly_assemble_2 (fun H locs hp hcg hS => ?_)
  have hA : asAt g w qd 0 fl rd H := hp
  have hfr := fr.of_chg (A := fun q => q = w) hcg rfl
  have hP := hP.fr hfr (fun z => by have z : w + 129 = w := z; omega)
  have hQ := hQ.fr hfr (fun z => by have z : w + 130 = w := z; omega)
  have hE := hE.fr hfr (fun z => by have z : w + 124 = w := z; omega)
  have hI := hI.frame hfr (fun q z => by have z : q = w := z; omega)
  have hN := hN.frame hfr (fun q z => by have z : q = w := z; omega)
  have hs := hs.frame hfr (fun q z => by have z : q = w := z; omega)
  refine lv_aload_n X.x X.b d_Assembly_assemble_5 rfl (lv_at hl 0 rfl) ?_
  refine lv_iconst (v := -1) X.x X.b d_Assembly_assemble_6 (by decide) ?_
  refine m_put X ok_Assembly hS (Or.inl ⟨by omega, by omega⟩) hA 6 (by decide) k_Assembly_47 rfl (ok_Assembly.2.2.1 _ (by decide)) rfl rfl (Nat.le_of_ble_eq_true rfl) d_Assembly_assemble_7 (fun H locs hp hcg hS => ?_)
  have hA : asAt g w qd 0 (-1) rd H := hp
  have hfr := fr.of_chg (A := fun q => q = w) hcg rfl
  have hP := hP.fr hfr (fun z => by have z : w + 129 = w := z; omega)
  have hQ := hQ.fr hfr (fun z => by have z : w + 130 = w := z; omega)
  have hE := hE.fr hfr (fun z => by have z : w + 124 = w := z; omega)
  have hI := hI.frame hfr (fun q z => by have z : q = w := z; omega)
  have hN := hN.frame hfr (fun q z => by have z : q = w := z; omega)
  have hs := hs.frame hfr (fun q z => by have z : q = w := z; omega)
  refine lv_aload_n X.x X.b d_Assembly_assemble_10 rfl (lv_at hl 0 rfl) ?_
  refine lv_iconst (v := 0) X.x X.b d_Assembly_assemble_11 (by decide) ?_
  refine m_put X ok_Assembly hS (Or.inl ⟨by omega, by omega⟩) hA 7 (by decide) k_Assembly_50 rfl (ok_Assembly.2.2.1 _ (by decide)) rfl rfl (Nat.le_of_ble_eq_true rfl) d_Assembly_assemble_12 (fun H locs hp hcg hS => ?_)
  have hA : asAt g w qd 0 (-1) 0 H := hp
  have hfr := fr.of_chg (A := fun q => q = w) hcg rfl
  have hP := hP.fr hfr (fun z => by have z : w + 129 = w := z; omega)
  have hQ := hQ.fr hfr (fun z => by have z : w + 130 = w := z; omega)
  have hE := hE.fr hfr (fun z => by have z : w + 124 = w := z; omega)
  have hI := hI.frame hfr (fun q z => by have z : q = w := z; omega)
  have hN := hN.frame hfr (fun q z => by have z : q = w := z; omega)
  have hs := hs.frame hfr (fun q z => by have z : q = w := z; omega)
  refine lv_aload_n X.x X.b d_Assembly_assemble_15 rfl (lv_at hl 0 rfl) ?_
  refine m_get (v := .ref (w + 124)) X ok_Assembly hA 1 (by decide) k_Assembly_23 rfl d_Assembly_assemble_16 ?_
  have hR := M_Expander_startOver (xs := (S, c, N, ex, ef, em)) l g ⟨hE, hI, hN, hs, hcc, hly, hlw, hhw⟩
  refine m_callM X hS hR v_Assembly_53 hE rfl rfl rfl (Nat.le_of_ble_eq_true rfl) hl.1 d_Assembly_assemble_19 (by omega) (by decide) ⟨Nat.zero_le _, Nat.zero_le _⟩ (fun q z => by have z : w + 1 ≤ q ∧ q < w + 129 := z; exact ⟨by omega, by omega⟩) (fun H locs hx hfr hS => ?_)
  have hA := hA.fr hfr (fun z => by have z : w + 1 ≤ w ∧ w < w + 129 := z; omega)
  have hP := hP.fr hfr (fun z => by have z : w + 1 ≤ w + 129 ∧ w + 129 < w + 129 := z; omega)
  have hQ := hQ.fr hfr (fun z => by have z : w + 1 ≤ w + 130 ∧ w + 130 < w + 129 := z; omega)
  refine lv_aload_n X.x X.b d_Assembly_assemble_22 rfl (lv_at hl 0 rfl) ?_
  refine m_get (v := .ref (w + 124)) X ok_Assembly hA 1 (by decide) k_Assembly_23 rfl d_Assembly_assemble_23 ?_
  refine lv_iconst (v := 0) X.x X.b d_Assembly_assemble_26 (by decide) ?_
  refine lv_iconst (v := 0) X.x X.b d_Assembly_assemble_27 (by decide) ?_
  refine lv_iconst (v := 0) X.x X.b d_Assembly_assemble_28 (by decide) ?_
  have hR := rowOK_all l g w so cap0 cnt f D lo hi 5 (Nat.le_refl 5) (S, 0, nn0, 0, 0, 0) H 0 0 hx
  obtain ⟨⟨S1, k1, N1, x1, f1, m1⟩, hG⟩ : ∃ z, z = xCall D cnt (5 + 1) 0 0 (S, 0, nn0, 0, 0, 0) := ⟨_, rfl⟩
  rw [← hG] at hR
  refine m_callMN X hS hR X.kx.2.2.2.2.2.1 w_Expander_expandRow ini_Expander wi_Expander_expandRow wl_Expander_expandRow (by decide +kernel) hx.1 rfl rfl rfl (Nat.le_of_ble_eq_true rfl) hl.1 d_Assembly_assemble_29 (by omega) (by decide) ⟨Nat.zero_le _, Nat.zero_le _⟩ (fun q z => by have z : w + 1 ≤ q ∧ q < w + 129 := z; exact ⟨by omega, by omega⟩) (fun H locs hx hfr hS => ?_)
  have hA := hA.fr hfr (fun z => by have z : w + 1 ≤ w ∧ w < w + 129 := z; omega)
  have hP := hP.fr hfr (fun z => by have z : w + 1 ≤ w + 129 ∧ w + 129 < w + 129 := z; omega)
  have hQ := hQ.fr hfr (fun z => by have z : w + 1 ≤ w + 130 ∧ w + 130 < w + 129 := z; omega)
  obtain ⟨hE, hI, hN, hs, hcc, -, -, -⟩ := hx
  have hE : exAt g w so x1 f1 m1 H := hE
  have hI : iAt g (w + 1) k1 S1 H := hI
  have hN : nAt g (w + 125) N1 H := hN
  have hcc : k1 ≤ 120 := hcc
  refine lv_aload_n X.x X.b d_Assembly_assemble_32 rfl (lv_at hl 0 rfl) ?_
  refine m_get (v := .ref (w + 124)) X ok_Assembly hA 1 (by decide) k_Assembly_23 rfl d_Assembly_assemble_33 ?_
  refine m_get (v := .int f1) X ok_Expander hE 4 (by decide) k_Assembly_60 rfl d_Assembly_assemble_36 ?_
  refine lv_if_eq (tgt := 61) X.x X.b d_Assembly_assemble_39 (by decide) (fun c1 => ?_) (fun c1 => ?_)
  · skip
    refine lv_aload_n X.x X.b d_Assembly_assemble_61 rfl (lv_at hl 0 rfl) ?_
    refine m_get (v := .ref (w + 1)) X ok_Assembly hA 0 (by decide) k_Assembly_12 rfl d_Assembly_assemble_62 ?_
    refine lv_aload_n X.x X.b d_Assembly_assemble_65 rfl (lv_at hl 0 rfl) ?_
    refine m_get (v := .ref (w + 129)) X ok_Assembly hA 2 (by decide) k_Assembly_32 rfl d_Assembly_assemble_66 ?_
    refine lv_iconst (v := 0) X.x X.b d_Assembly_assemble_69 (by decide) ?_
    refine lv_iconst (v := 0) X.x X.b d_Assembly_assemble_70 (by decide) ?_
    refine lv_iconst (v := -1) X.x X.b d_Assembly_assemble_71 (by decide) ?_
    refine lv_iconst (v := 0) X.x X.b d_Assembly_assemble_72 (by decide) ?_
    refine m_callM X hS (M_Items_append l g hI (by omega) hP (by omega) (by omega) 0 0 (-1) 0) v_Assembly_68 hI.1 rfl rfl rfl (Nat.le_of_ble_eq_true rfl) hl.1 d_Assembly_assemble_73 (by omega) (by decide) ⟨Nat.zero_le _, Nat.zero_le _⟩ (fun q z => by have z : w + 1 ≤ q ∧ q < w + 1 + 123 := z; exact ⟨by omega, by omega⟩) (fun H locs hI hfr hS => ?_)
    have hA := hA.fr hfr (fun z => by have z : w + 1 ≤ w ∧ w < w + 1 + 123 := z; omega)
    have hP := hP.fr hfr (fun z => by have z : w + 1 ≤ w + 129 ∧ w + 129 < w + 1 + 123 := z; omega)
    have hQ := hQ.fr hfr (fun z => by have z : w + 1 ≤ w + 130 ∧ w + 130 < w + 1 + 123 := z; omega)
    have hE := hE.fr hfr (fun z => by have z : w + 1 ≤ w + 124 ∧ w + 124 < w + 1 + 123 := z; omega)
    have hN := hN.frame hfr (fun q z => by have z : w + 1 ≤ q ∧ q < w + 1 + 123 := z; omega)
    have hs := hs.frame hfr (fun q z => by have z : w + 1 ≤ q ∧ q < w + 1 + 123 := z; omega)
    refine lv_aload_n X.x X.b d_Assembly_assemble_76 rfl (lv_at hl 0 rfl) ?_
    refine lv_iconst (v := 5) X.x X.b d_Assembly_assemble_77 (by decide) ?_
    refine lv_aload_n X.x X.b d_Assembly_assemble_78 rfl (lv_at hl 0 rfl) ?_
    refine m_get (v := .ref (w + 1)) X ok_Assembly hA 0 (by decide) k_Assembly_12 rfl d_Assembly_assemble_79 ?_
    have hR := M_Items_linkValues l g hI (by omega)
    obtain ⟨⟨S3, r3⟩, hG3⟩ : ∃ z, z = lkv (k1 + 1) (k1 + 1) 0 (telS S1 k1 6 (-1) (-1) 0 0 (-1) 0) := ⟨_, rfl⟩
    rw [← hG3] at hR
    refine m_callM X hS hR v_Assembly_72 hI.1 rfl rfl rfl (Nat.le_of_ble_eq_true rfl) hl.1 d_Assembly_assemble_82 (by omega) (by decide) ⟨Nat.zero_le _, Nat.zero_le _⟩ (fun q z => by have z : w + 1 ≤ q ∧ q < w + 1 + 123 := z; exact ⟨by omega, by omega⟩) (fun H locs hI hfr hS => ?_)
    have hI : iAt g (w + 1) (k1 + 1) S3 H := hI
    have hA := hA.fr hfr (fun z => by have z : w + 1 ≤ w ∧ w < w + 1 + 123 := z; omega)
    have hP := hP.fr hfr (fun z => by have z : w + 1 ≤ w + 129 ∧ w + 129 < w + 1 + 123 := z; omega)
    have hQ := hQ.fr hfr (fun z => by have z : w + 1 ≤ w + 130 ∧ w + 130 < w + 1 + 123 := z; omega)
    have hE := hE.fr hfr (fun z => by have z : w + 1 ≤ w + 124 ∧ w + 124 < w + 1 + 123 := z; omega)
    have hN := hN.frame hfr (fun q z => by have z : w + 1 ≤ q ∧ q < w + 1 + 123 := z; omega)
    have hs := hs.frame hfr (fun q z => by have z : w + 1 ≤ q ∧ q < w + 1 + 123 := z; omega)
    rcases o2 : iaO (k1 + 1) r3 with _ | j3
    · skip
      have hR := M_Assembly_failsAtItem (y := (S3, (k1 + 1), qd, 0, (-1), 0)) l g ⟨hA, hP, ⟨_, hQ⟩, ⟨_, _, _, hE⟩, hI, ⟨_, hN⟩, hs, show (k1 + 1) ≤ 121 by omega, hly, hlw, hhw⟩ 5 r3
      rw [show faiF (S3, (k1 + 1), qd, 0, (-1), 0) 5 r3 = (S3, (k1 + 1), qd, 0, (-1), 0) from by simp [faiF, failF, o2], show b2i (¬ iaO ((S3, (k1 + 1), qd, 0, (-1), 0)).2.1 r3 = none) = 0 from by simp [b2i, o2]] at hR
      refine m_callM X hS hR v_Assembly_76 hA rfl rfl rfl (Nat.le_of_ble_eq_true rfl) hl.1 d_Assembly_assemble_85 (by omega) (by decide) ⟨Nat.zero_le _, Nat.zero_le _⟩ (fun q z => z) (fun H locs hy hfr hS => ?_)
      obtain ⟨hA, hP, ⟨Qf, hQ⟩, ⟨ex, ef, em, hE⟩, hI, ⟨N, hN⟩, hs, -, -, -, -⟩ := hy
      have hA : asAt g w qd 0 (-1) 0 H := hA
      have hI : iAt g (w + 1) (k1 + 1) S3 H := hI
      refine lv_if_eq (tgt := 92) X.x X.b d_Assembly_assemble_88 (by decide) (fun c4 => ?_) (fun c4 => ?_)
      · skip
        refine lv_aload_n X.x X.b d_Assembly_assemble_92 rfl (lv_at hl 0 rfl) ?_
        refine m_get (v := .ref (w + 1)) X ok_Assembly hA 0 (by decide) k_Assembly_12 rfl d_Assembly_assemble_93 ?_
        refine m_callM X hS (M_Items_linkPools l g hI (by omega)) v_Assembly_80 hI.1 rfl rfl rfl (Nat.le_of_ble_eq_true rfl) hl.1 d_Assembly_assemble_96 (by omega) (by decide) ⟨Nat.zero_le _, Nat.zero_le _⟩ (fun q z => by have z : w + 1 ≤ q ∧ q < w + 1 + 123 := z; exact ⟨by omega, by omega⟩) (fun H locs hI hfr hS => ?_)
        have hA := hA.fr hfr (fun z => by have z : w + 1 ≤ w ∧ w < w + 1 + 123 := z; omega)
        have hP := hP.fr hfr (fun z => by have z : w + 1 ≤ w + 129 ∧ w + 129 < w + 1 + 123 := z; omega)
        have hQ := hQ.fr hfr (fun z => by have z : w + 1 ≤ w + 130 ∧ w + 130 < w + 1 + 123 := z; omega)
        have hE := hE.fr hfr (fun z => by have z : w + 1 ≤ w + 124 ∧ w + 124 < w + 1 + 123 := z; omega)
        have hN := hN.frame hfr (fun q z => by have z : w + 1 ≤ q ∧ q < w + 1 + 123 := z; omega)
        have hs := hs.frame hfr (fun q z => by have z : w + 1 ≤ q ∧ q < w + 1 + 123 := z; omega)
        obtain ⟨S4, hG4⟩ : ∃ z, z = (lkp (k1 + 1) 0 S3 0 0) := ⟨_, rfl⟩
        rw [← hG4] at hI
        refine lv_iconst (v := 1) X.x X.b d_Assembly_assemble_99 (by decide) ?_
        refine lv_istore_n (lv' := [(1, .int 1), (0, .ref w)]) X.x X.b d_Assembly_assemble_100 rfl hl (by decide) rfl (fun ls hl => ?_)
        have lp : ∀ (n i : Nat) (b : Int32) (Sx : IS), n = 121 - i → i < 5000 → (rnd (k1 + 1) n i b Sx = rnd (k1 + 1) 121 0 1 S4) → ∀ (H : Heap) (locs : List Loc) (ls : Array Slot), asAt g w qd 0 (-1) (nI i) H → poAt g w H → (∃ Qf, quAt g w Qf H) → (∃ x fn ml, exAt g w so x fn ml H) → iAt g (w + 1) (k1 + 1) Sx H → (∃ N, nAt g (w + 125) N H) → sAt g so cap0 cnt f D lo hi H → va_S (AA (zF w) H0) H0 H locs → lv_has ls 2 [(0, .ref w), (1, .int b)] → W p l e (rmK 20 0 0) s m ([.ref w] : List Value).toArray below meth cd H locs 0 0 (MQ below (QM (none) (fun H1 => aAt g w so cap0 cnt f D lo hi (asmF D cnt (S, c, qd, fn, fl, rd)) H1) (zF w) H0) ([.ref w] : List Value).toArray s 0 0 (AA (zF w) H0)) (F0 m 101 ls []) := by
          intro n
          induction n with
          | zero =>
            intro i b Sx hin hi5 hV H locs ls hA hP hQ hE hI hN hs hS hl
            obtain ⟨Qf, hQ⟩ := hQ
            obtain ⟨ex, ef, em, hE⟩ := hE
            obtain ⟨N, hN⟩ := hN
            refine lv_iload_n X.x X.b d_Assembly_assemble_101 rfl (lv_at hl 1 rfl) ?_
            refine lv_if_eq (tgt := 142) X.x X.b d_Assembly_assemble_102 (by decide) (fun c5 => ?_) (fun c5 => ?_)
            · skip
              refine lv_aload_n X.x X.b d_Assembly_assemble_142 rfl (lv_at hl 0 rfl) ?_
              refine lv_bipush (v := 6) X.x X.b d_Assembly_assemble_143 (by decide) ?_
              refine lv_aload_n X.x X.b d_Assembly_assemble_145 rfl (lv_at hl 0 rfl) ?_
              refine m_get (v := .ref (w + 1)) X ok_Assembly hA 0 (by decide) k_Assembly_12 rfl d_Assembly_assemble_146 ?_
              refine m_callP X hS (M_Items_firstFarLoad l g hI (by omega)) v_Assembly_90 hI.1 rfl rfl rfl (Nat.le_of_ble_eq_true rfl) hl.1 d_Assembly_assemble_149 (by omega) (by decide) ⟨Nat.zero_le _, Nat.zero_le _⟩ (fun locs hS => ?_)
              rcases o6 : iaO (k1 + 1) (ffl Sx (k1 + 1) 0) with _ | j7
              · skip
                have hR := M_Assembly_failsAtItem (y := (Sx, (k1 + 1), qd, 0, (-1), nI i)) l g ⟨hA, hP, ⟨_, hQ⟩, ⟨_, _, _, hE⟩, hI, ⟨_, hN⟩, hs, show (k1 + 1) ≤ 121 by omega, hly, hlw, hhw⟩ 6 (ffl Sx (k1 + 1) 0)
                rw [show faiF (Sx, (k1 + 1), qd, 0, (-1), nI i) 6 (ffl Sx (k1 + 1) 0) = (Sx, (k1 + 1), qd, 0, (-1), nI i) from by simp [faiF, failF, o6], show b2i (¬ iaO ((Sx, (k1 + 1), qd, 0, (-1), nI i)).2.1 (ffl Sx (k1 + 1) 0) = none) = 0 from by simp [b2i, o6]] at hR
                refine m_callM X hS hR v_Assembly_76 hA rfl rfl rfl (Nat.le_of_ble_eq_true rfl) hl.1 d_Assembly_assemble_152 (by omega) (by decide) ⟨Nat.zero_le _, Nat.zero_le _⟩ (fun q z => z) (fun H locs hy hfr hS => ?_)
                obtain ⟨hA, hP, ⟨Qf, hQ⟩, ⟨ex, ef, em, hE⟩, hI, ⟨N, hN⟩, hs, -, -, -, -⟩ := hy
                have hA : asAt g w qd 0 (-1) (nI i) H := hA
                have hI : iAt g (w + 1) (k1 + 1) Sx H := hI
                refine lv_pop X.x X.b d_Assembly_assemble_155 rfl ?_
                have hW : rnd (k1 + 1) 121 0 1 S4 = (Sx, i) := hV.symm.trans (by simp [rnd, c4, c5])
                have hM : asmF D cnt (S, c, qd, fn, fl, rd) = (Sx, (k1 + 1), qd, 0, (-1), nI i) := by show asmX (xCall D cnt (5 + 1) 0 0 (S, 0, nn0, 0, 0, 0)) qd = _; rw [← hG]; simp only [asmX]; rw [if_pos c1]; simp only [asmL]; rw [← hG3, o2]; simp only [asmT]; rw [← hG4, hW]; simp [faiF, failF, o6]
                exact m_vret X hS (Nat.zero_le _) (Nat.zero_le _) d_Assembly_assemble_156 rfl (by rw [hM]; exact ⟨hA, hP, ⟨_, hQ⟩, ⟨_, _, _, hE⟩, hI, ⟨_, hN⟩, hs, show (k1 + 1) ≤ 121 by omega, hly, hlw, hhw⟩)
              · skip
                have hR := M_Assembly_failsAtItem (y := (Sx, (k1 + 1), qd, 0, (-1), nI i)) l g ⟨hA, hP, ⟨_, hQ⟩, ⟨_, _, _, hE⟩, hI, ⟨_, hN⟩, hs, show (k1 + 1) ≤ 121 by omega, hly, hlw, hhw⟩ 6 (ffl Sx (k1 + 1) 0)
                rw [show faiF (Sx, (k1 + 1), qd, 0, (-1), nI i) 6 (ffl Sx (k1 + 1) 0) = (Sx, 0, qd, 6, Sx.1 5 j7, nI i) from by simp [faiF, failF, o6], show b2i (¬ iaO ((Sx, (k1 + 1), qd, 0, (-1), nI i)).2.1 (ffl Sx (k1 + 1) 0) = none) = 1 from by simp [b2i, o6]] at hR
                refine m_callM X hS hR v_Assembly_76 hA rfl rfl rfl (Nat.le_of_ble_eq_true rfl) hl.1 d_Assembly_assemble_152 (by omega) (by decide) ⟨Nat.zero_le _, Nat.zero_le _⟩ (fun q z => z) (fun H locs hy hfr hS => ?_)
                obtain ⟨hA, hP, ⟨Qf, hQ⟩, ⟨ex, ef, em, hE⟩, hI, ⟨N, hN⟩, hs, -, -, -, -⟩ := hy
                have hA : asAt g w qd 6 (Sx.1 5 j7) (nI i) H := hA
                have hI : iAt g (w + 1) 0 Sx H := hI
                refine lv_pop X.x X.b d_Assembly_assemble_155 rfl ?_
                have hW : rnd (k1 + 1) 121 0 1 S4 = (Sx, i) := hV.symm.trans (by simp [rnd, c4, c5])
                have hM : asmF D cnt (S, c, qd, fn, fl, rd) = (Sx, 0, qd, 6, Sx.1 5 j7, nI i) := by show asmX (xCall D cnt (5 + 1) 0 0 (S, 0, nn0, 0, 0, 0)) qd = _; rw [← hG]; simp only [asmX]; rw [if_pos c1]; simp only [asmL]; rw [← hG3, o2]; simp only [asmT]; rw [← hG4, hW]; simp [faiF, failF, o6]
                exact m_vret X hS (Nat.zero_le _) (Nat.zero_le _) d_Assembly_assemble_156 rfl (by rw [hM]; exact ⟨hA, hP, ⟨_, hQ⟩, ⟨_, _, _, hE⟩, hI, ⟨_, hN⟩, hs, show 0 ≤ 121 by omega, hly, hlw, hhw⟩)
            · skip
              refine lv_aload_n X.x X.b d_Assembly_assemble_105 rfl (lv_at hl 0 rfl) ?_
              refine m_get (v := .int (nI i)) X ok_Assembly hA 7 (by decide) k_Assembly_50 rfl d_Assembly_assemble_106 ?_
              refine lv_bipush (v := 120) X.x X.b d_Assembly_assemble_109 (by decide) ?_
              refine lv_icmp_gt (tgt := 142) X.x X.b d_Assembly_assemble_111 (by decide) (fun c8 => ?_) (fun c8 => ?_)
              · skip
                have c8q := Int32.not_le.mpr c8
                refine lv_aload_n X.x X.b d_Assembly_assemble_142 rfl (lv_at hl 0 rfl) ?_
                refine lv_bipush (v := 6) X.x X.b d_Assembly_assemble_143 (by decide) ?_
                refine lv_aload_n X.x X.b d_Assembly_assemble_145 rfl (lv_at hl 0 rfl) ?_
                refine m_get (v := .ref (w + 1)) X ok_Assembly hA 0 (by decide) k_Assembly_12 rfl d_Assembly_assemble_146 ?_
                refine m_callP X hS (M_Items_firstFarLoad l g hI (by omega)) v_Assembly_90 hI.1 rfl rfl rfl (Nat.le_of_ble_eq_true rfl) hl.1 d_Assembly_assemble_149 (by omega) (by decide) ⟨Nat.zero_le _, Nat.zero_le _⟩ (fun locs hS => ?_)
                rcases o9 : iaO (k1 + 1) (ffl Sx (k1 + 1) 0) with _ | j10
                · skip
                  have hR := M_Assembly_failsAtItem (y := (Sx, (k1 + 1), qd, 0, (-1), nI i)) l g ⟨hA, hP, ⟨_, hQ⟩, ⟨_, _, _, hE⟩, hI, ⟨_, hN⟩, hs, show (k1 + 1) ≤ 121 by omega, hly, hlw, hhw⟩ 6 (ffl Sx (k1 + 1) 0)
                  rw [show faiF (Sx, (k1 + 1), qd, 0, (-1), nI i) 6 (ffl Sx (k1 + 1) 0) = (Sx, (k1 + 1), qd, 0, (-1), nI i) from by simp [faiF, failF, o9], show b2i (¬ iaO ((Sx, (k1 + 1), qd, 0, (-1), nI i)).2.1 (ffl Sx (k1 + 1) 0) = none) = 0 from by simp [b2i, o9]] at hR
                  refine m_callM X hS hR v_Assembly_76 hA rfl rfl rfl (Nat.le_of_ble_eq_true rfl) hl.1 d_Assembly_assemble_152 (by omega) (by decide) ⟨Nat.zero_le _, Nat.zero_le _⟩ (fun q z => z) (fun H locs hy hfr hS => ?_)
                  obtain ⟨hA, hP, ⟨Qf, hQ⟩, ⟨ex, ef, em, hE⟩, hI, ⟨N, hN⟩, hs, -, -, -, -⟩ := hy
                  have hA : asAt g w qd 0 (-1) (nI i) H := hA
                  have hI : iAt g (w + 1) (k1 + 1) Sx H := hI
                  refine lv_pop X.x X.b d_Assembly_assemble_155 rfl ?_
                  have hW : rnd (k1 + 1) 121 0 1 S4 = (Sx, i) := hV.symm.trans (by simp [rnd, c4, c5, c8, c8q])
                  have hM : asmF D cnt (S, c, qd, fn, fl, rd) = (Sx, (k1 + 1), qd, 0, (-1), nI i) := by show asmX (xCall D cnt (5 + 1) 0 0 (S, 0, nn0, 0, 0, 0)) qd = _; rw [← hG]; simp only [asmX]; rw [if_pos c1]; simp only [asmL]; rw [← hG3, o2]; simp only [asmT]; rw [← hG4, hW]; simp [faiF, failF, o9]
                  exact m_vret X hS (Nat.zero_le _) (Nat.zero_le _) d_Assembly_assemble_156 rfl (by rw [hM]; exact ⟨hA, hP, ⟨_, hQ⟩, ⟨_, _, _, hE⟩, hI, ⟨_, hN⟩, hs, show (k1 + 1) ≤ 121 by omega, hly, hlw, hhw⟩)
                · skip
                  have hR := M_Assembly_failsAtItem (y := (Sx, (k1 + 1), qd, 0, (-1), nI i)) l g ⟨hA, hP, ⟨_, hQ⟩, ⟨_, _, _, hE⟩, hI, ⟨_, hN⟩, hs, show (k1 + 1) ≤ 121 by omega, hly, hlw, hhw⟩ 6 (ffl Sx (k1 + 1) 0)
                  rw [show faiF (Sx, (k1 + 1), qd, 0, (-1), nI i) 6 (ffl Sx (k1 + 1) 0) = (Sx, 0, qd, 6, Sx.1 5 j10, nI i) from by simp [faiF, failF, o9], show b2i (¬ iaO ((Sx, (k1 + 1), qd, 0, (-1), nI i)).2.1 (ffl Sx (k1 + 1) 0) = none) = 1 from by simp [b2i, o9]] at hR
                  refine m_callM X hS hR v_Assembly_76 hA rfl rfl rfl (Nat.le_of_ble_eq_true rfl) hl.1 d_Assembly_assemble_152 (by omega) (by decide) ⟨Nat.zero_le _, Nat.zero_le _⟩ (fun q z => z) (fun H locs hy hfr hS => ?_)
                  obtain ⟨hA, hP, ⟨Qf, hQ⟩, ⟨ex, ef, em, hE⟩, hI, ⟨N, hN⟩, hs, -, -, -, -⟩ := hy
                  have hA : asAt g w qd 6 (Sx.1 5 j10) (nI i) H := hA
                  have hI : iAt g (w + 1) 0 Sx H := hI
                  refine lv_pop X.x X.b d_Assembly_assemble_155 rfl ?_
                  have hW : rnd (k1 + 1) 121 0 1 S4 = (Sx, i) := hV.symm.trans (by simp [rnd, c4, c5, c8, c8q])
                  have hM : asmF D cnt (S, c, qd, fn, fl, rd) = (Sx, 0, qd, 6, Sx.1 5 j10, nI i) := by show asmX (xCall D cnt (5 + 1) 0 0 (S, 0, nn0, 0, 0, 0)) qd = _; rw [← hG]; simp only [asmX]; rw [if_pos c1]; simp only [asmL]; rw [← hG3, o2]; simp only [asmT]; rw [← hG4, hW]; simp [faiF, failF, o9]
                  exact m_vret X hS (Nat.zero_le _) (Nat.zero_le _) d_Assembly_assemble_156 rfl (by rw [hM]; exact ⟨hA, hP, ⟨_, hQ⟩, ⟨_, _, _, hE⟩, hI, ⟨_, hN⟩, hs, show 0 ≤ 121 by omega, hly, hlw, hhw⟩)
              · exact absurd ((nI_ltI (a := 120) (b := i) (by omega) (by omega)).mpr (by omega)) c8
          | succ n ih =>
            intro i b Sx hin hi5 hV H locs ls hA hP hQ hE hI hN hs hS hl
            obtain ⟨Qf, hQ⟩ := hQ
            obtain ⟨ex, ef, em, hE⟩ := hE
            obtain ⟨N, hN⟩ := hN
            refine lv_iload_n X.x X.b d_Assembly_assemble_101 rfl (lv_at hl 1 rfl) ?_
            refine lv_if_eq (tgt := 142) X.x X.b d_Assembly_assemble_102 (by decide) (fun c11 => ?_) (fun c11 => ?_)
            · skip
              refine lv_aload_n X.x X.b d_Assembly_assemble_142 rfl (lv_at hl 0 rfl) ?_
              refine lv_bipush (v := 6) X.x X.b d_Assembly_assemble_143 (by decide) ?_
              refine lv_aload_n X.x X.b d_Assembly_assemble_145 rfl (lv_at hl 0 rfl) ?_
              refine m_get (v := .ref (w + 1)) X ok_Assembly hA 0 (by decide) k_Assembly_12 rfl d_Assembly_assemble_146 ?_
              refine m_callP X hS (M_Items_firstFarLoad l g hI (by omega)) v_Assembly_90 hI.1 rfl rfl rfl (Nat.le_of_ble_eq_true rfl) hl.1 d_Assembly_assemble_149 (by omega) (by decide) ⟨Nat.zero_le _, Nat.zero_le _⟩ (fun locs hS => ?_)
              rcases o12 : iaO (k1 + 1) (ffl Sx (k1 + 1) 0) with _ | j13
              · skip
                have hR := M_Assembly_failsAtItem (y := (Sx, (k1 + 1), qd, 0, (-1), nI i)) l g ⟨hA, hP, ⟨_, hQ⟩, ⟨_, _, _, hE⟩, hI, ⟨_, hN⟩, hs, show (k1 + 1) ≤ 121 by omega, hly, hlw, hhw⟩ 6 (ffl Sx (k1 + 1) 0)
                rw [show faiF (Sx, (k1 + 1), qd, 0, (-1), nI i) 6 (ffl Sx (k1 + 1) 0) = (Sx, (k1 + 1), qd, 0, (-1), nI i) from by simp [faiF, failF, o12], show b2i (¬ iaO ((Sx, (k1 + 1), qd, 0, (-1), nI i)).2.1 (ffl Sx (k1 + 1) 0) = none) = 0 from by simp [b2i, o12]] at hR
                refine m_callM X hS hR v_Assembly_76 hA rfl rfl rfl (Nat.le_of_ble_eq_true rfl) hl.1 d_Assembly_assemble_152 (by omega) (by decide) ⟨Nat.zero_le _, Nat.zero_le _⟩ (fun q z => z) (fun H locs hy hfr hS => ?_)
                obtain ⟨hA, hP, ⟨Qf, hQ⟩, ⟨ex, ef, em, hE⟩, hI, ⟨N, hN⟩, hs, -, -, -, -⟩ := hy
                have hA : asAt g w qd 0 (-1) (nI i) H := hA
                have hI : iAt g (w + 1) (k1 + 1) Sx H := hI
                refine lv_pop X.x X.b d_Assembly_assemble_155 rfl ?_
                have hW : rnd (k1 + 1) 121 0 1 S4 = (Sx, i) := hV.symm.trans (by simp [rnd, c4, c11])
                have hM : asmF D cnt (S, c, qd, fn, fl, rd) = (Sx, (k1 + 1), qd, 0, (-1), nI i) := by show asmX (xCall D cnt (5 + 1) 0 0 (S, 0, nn0, 0, 0, 0)) qd = _; rw [← hG]; simp only [asmX]; rw [if_pos c1]; simp only [asmL]; rw [← hG3, o2]; simp only [asmT]; rw [← hG4, hW]; simp [faiF, failF, o12]
                exact m_vret X hS (Nat.zero_le _) (Nat.zero_le _) d_Assembly_assemble_156 rfl (by rw [hM]; exact ⟨hA, hP, ⟨_, hQ⟩, ⟨_, _, _, hE⟩, hI, ⟨_, hN⟩, hs, show (k1 + 1) ≤ 121 by omega, hly, hlw, hhw⟩)
              · skip
                have hR := M_Assembly_failsAtItem (y := (Sx, (k1 + 1), qd, 0, (-1), nI i)) l g ⟨hA, hP, ⟨_, hQ⟩, ⟨_, _, _, hE⟩, hI, ⟨_, hN⟩, hs, show (k1 + 1) ≤ 121 by omega, hly, hlw, hhw⟩ 6 (ffl Sx (k1 + 1) 0)
                rw [show faiF (Sx, (k1 + 1), qd, 0, (-1), nI i) 6 (ffl Sx (k1 + 1) 0) = (Sx, 0, qd, 6, Sx.1 5 j13, nI i) from by simp [faiF, failF, o12], show b2i (¬ iaO ((Sx, (k1 + 1), qd, 0, (-1), nI i)).2.1 (ffl Sx (k1 + 1) 0) = none) = 1 from by simp [b2i, o12]] at hR
                refine m_callM X hS hR v_Assembly_76 hA rfl rfl rfl (Nat.le_of_ble_eq_true rfl) hl.1 d_Assembly_assemble_152 (by omega) (by decide) ⟨Nat.zero_le _, Nat.zero_le _⟩ (fun q z => z) (fun H locs hy hfr hS => ?_)
                obtain ⟨hA, hP, ⟨Qf, hQ⟩, ⟨ex, ef, em, hE⟩, hI, ⟨N, hN⟩, hs, -, -, -, -⟩ := hy
                have hA : asAt g w qd 6 (Sx.1 5 j13) (nI i) H := hA
                have hI : iAt g (w + 1) 0 Sx H := hI
                refine lv_pop X.x X.b d_Assembly_assemble_155 rfl ?_
                have hW : rnd (k1 + 1) 121 0 1 S4 = (Sx, i) := hV.symm.trans (by simp [rnd, c4, c11])
                have hM : asmF D cnt (S, c, qd, fn, fl, rd) = (Sx, 0, qd, 6, Sx.1 5 j13, nI i) := by show asmX (xCall D cnt (5 + 1) 0 0 (S, 0, nn0, 0, 0, 0)) qd = _; rw [← hG]; simp only [asmX]; rw [if_pos c1]; simp only [asmL]; rw [← hG3, o2]; simp only [asmT]; rw [← hG4, hW]; simp [faiF, failF, o12]
                exact m_vret X hS (Nat.zero_le _) (Nat.zero_le _) d_Assembly_assemble_156 rfl (by rw [hM]; exact ⟨hA, hP, ⟨_, hQ⟩, ⟨_, _, _, hE⟩, hI, ⟨_, hN⟩, hs, show 0 ≤ 121 by omega, hly, hlw, hhw⟩)
            · skip
              refine lv_aload_n X.x X.b d_Assembly_assemble_105 rfl (lv_at hl 0 rfl) ?_
              refine m_get (v := .int (nI i)) X ok_Assembly hA 7 (by decide) k_Assembly_50 rfl d_Assembly_assemble_106 ?_
              refine lv_bipush (v := 120) X.x X.b d_Assembly_assemble_109 (by decide) ?_
              refine lv_icmp_gt (tgt := 142) X.x X.b d_Assembly_assemble_111 (by decide) (fun c14 => ?_) (fun c14 => ?_)
              · exact absurd ((nI_ltI (a := 120) (b := i) (by omega) (by omega)).mp c14) (by omega)
              · skip
                have c14q := Int32.not_lt.mp c14
                refine lv_aload_n X.x X.b d_Assembly_assemble_114 rfl (lv_at hl 0 rfl) ?_
                refine lv_dup X.x X.b d_Assembly_assemble_115 rfl ?_
                refine m_get (v := .int (nI i)) X ok_Assembly hA 7 (by decide) k_Assembly_50 rfl d_Assembly_assemble_116 ?_
                refine lv_iconst (v := 1) X.x X.b d_Assembly_assemble_119 (by decide) ?_
                refine lv_iadd X.x X.b d_Assembly_assemble_120 ?_
                refine lv_topi (fun z ez => ?_)
                rw [nI_1] at ez
                subst ez
                refine m_put X ok_Assembly hS (Or.inl ⟨by omega, by omega⟩) hA 7 (by decide) k_Assembly_50 rfl (ok_Assembly.2.2.1 _ (by decide)) rfl rfl (Nat.le_of_ble_eq_true rfl) d_Assembly_assemble_121 (fun H locs hp hcg hS => ?_)
                have hA : asAt g w qd 0 (-1) (nI (i + 1)) H := hp
                have hfr := fr.of_chg (A := fun q => q = w) hcg rfl
                have hP := hP.fr hfr (fun z => by have z : w + 129 = w := z; omega)
                have hQ := hQ.fr hfr (fun z => by have z : w + 130 = w := z; omega)
                have hE := hE.fr hfr (fun z => by have z : w + 124 = w := z; omega)
                have hI := hI.frame hfr (fun q z => by have z : q = w := z; omega)
                have hN := hN.frame hfr (fun q z => by have z : q = w := z; omega)
                have hs := hs.frame hfr (fun q z => by have z : q = w := z; omega)
                refine lv_aload_n X.x X.b d_Assembly_assemble_124 rfl (lv_at hl 0 rfl) ?_
                refine m_get (v := .ref (w + 1)) X ok_Assembly hA 0 (by decide) k_Assembly_12 rfl d_Assembly_assemble_125 ?_
                refine m_callM X hS (M_Items_place l g hI (by omega)) v_Assembly_83 hI.1 rfl rfl rfl (Nat.le_of_ble_eq_true rfl) hl.1 d_Assembly_assemble_128 (by omega) (by decide) ⟨Nat.zero_le _, Nat.zero_le _⟩ (fun q z => by have z : w + 1 ≤ q ∧ q < w + 1 + 123 := z; exact ⟨by omega, by omega⟩) (fun H locs hI hfr hS => ?_)
                have hA := hA.fr hfr (fun z => by have z : w + 1 ≤ w ∧ w < w + 1 + 123 := z; omega)
                have hP := hP.fr hfr (fun z => by have z : w + 1 ≤ w + 129 ∧ w + 129 < w + 1 + 123 := z; omega)
                have hQ := hQ.fr hfr (fun z => by have z : w + 1 ≤ w + 130 ∧ w + 130 < w + 1 + 123 := z; omega)
                have hE := hE.fr hfr (fun z => by have z : w + 1 ≤ w + 124 ∧ w + 124 < w + 1 + 123 := z; omega)
                have hN := hN.frame hfr (fun q z => by have z : w + 1 ≤ q ∧ q < w + 1 + 123 := z; omega)
                have hs := hs.frame hfr (fun q z => by have z : w + 1 ≤ q ∧ q < w + 1 + 123 := z; omega)
                refine lv_aload_n X.x X.b d_Assembly_assemble_131 rfl (lv_at hl 0 rfl) ?_
                refine m_get (v := .ref (w + 1)) X ok_Assembly hA 0 (by decide) k_Assembly_12 rfl d_Assembly_assemble_132 ?_
                refine m_callM X hS (M_Items_lengthen l g hI (by omega)) v_Assembly_86 hI.1 rfl rfl rfl (Nat.le_of_ble_eq_true rfl) hl.1 d_Assembly_assemble_135 (by omega) (by decide) ⟨Nat.zero_le _, Nat.zero_le _⟩ (fun q z => by have z : w + 1 ≤ q ∧ q < w + 1 + 123 := z; exact ⟨by omega, by omega⟩) (fun H locs hI hfr hS => ?_)
                have hA := hA.fr hfr (fun z => by have z : w + 1 ≤ w ∧ w < w + 1 + 123 := z; omega)
                have hP := hP.fr hfr (fun z => by have z : w + 1 ≤ w + 129 ∧ w + 129 < w + 1 + 123 := z; omega)
                have hQ := hQ.fr hfr (fun z => by have z : w + 1 ≤ w + 130 ∧ w + 130 < w + 1 + 123 := z; omega)
                have hE := hE.fr hfr (fun z => by have z : w + 1 ≤ w + 124 ∧ w + 124 < w + 1 + 123 := z; omega)
                have hN := hN.frame hfr (fun q z => by have z : w + 1 ≤ q ∧ q < w + 1 + 123 := z; omega)
                have hs := hs.frame hfr (fun q z => by have z : w + 1 ≤ q ∧ q < w + 1 + 123 := z; omega)
                refine lv_istore_n (lv' := [(1, .int ((lng (k1 + 1) 0 (plc (k1 + 1) 0 Sx 0) 0).2)), (0, .ref w)]) X.x X.b d_Assembly_assemble_138 rfl hl (by decide) rfl (fun ls hl => ?_)
                refine lv_goto (tgt := 101) X.x X.b d_Assembly_assemble_139 (by decide) ?_
                exact ih (i + 1) ((lng (k1 + 1) 0 (plc (k1 + 1) 0 Sx 0) 0).2) ((lng (k1 + 1) 0 (plc (k1 + 1) 0 Sx 0) 0).1) (by omega) (by omega) (by rw [← hV]; simp [rnd, c1, o2, c4, c11, c14, c14q]) _ _ _ hA hP ⟨_, hQ⟩ ⟨_, _, _, hE⟩ hI ⟨_, hN⟩ hs hS (lv_sub hl [1, 0] rfl)
        exact lp 121 0 1 S4 (by omega) (by omega) (rfl) _ _ _ hA hP ⟨_, hQ⟩ ⟨_, _, _, hE⟩ hI ⟨_, hN⟩ hs hS (lv_sub hl [1, 0] rfl)
      · exact absurd c4 (by decide)
    · skip
      have hR := M_Assembly_failsAtItem (y := (S3, (k1 + 1), qd, 0, (-1), 0)) l g ⟨hA, hP, ⟨_, hQ⟩, ⟨_, _, _, hE⟩, hI, ⟨_, hN⟩, hs, show (k1 + 1) ≤ 121 by omega, hly, hlw, hhw⟩ 5 r3
      rw [show faiF (S3, (k1 + 1), qd, 0, (-1), 0) 5 r3 = (S3, 0, qd, 5, S3.1 5 j3, 0) from by simp [faiF, failF, o2], show b2i (¬ iaO ((S3, (k1 + 1), qd, 0, (-1), 0)).2.1 r3 = none) = 1 from by simp [b2i, o2]] at hR
      refine m_callM X hS hR v_Assembly_76 hA rfl rfl rfl (Nat.le_of_ble_eq_true rfl) hl.1 d_Assembly_assemble_85 (by omega) (by decide) ⟨Nat.zero_le _, Nat.zero_le _⟩ (fun q z => z) (fun H locs hy hfr hS => ?_)
      obtain ⟨hA, hP, ⟨Qf, hQ⟩, ⟨ex, ef, em, hE⟩, hI, ⟨N, hN⟩, hs, -, -, -, -⟩ := hy
      have hA : asAt g w qd 5 (S3.1 5 j3) 0 H := hA
      have hI : iAt g (w + 1) 0 S3 H := hI
      refine lv_if_eq (tgt := 92) X.x X.b d_Assembly_assemble_88 (by decide) (fun c15 => ?_) (fun c15 => ?_)
      · exact absurd c15 (by decide)
      · skip
        have hM : asmF D cnt (S, c, qd, fn, fl, rd) = (S3, 0, qd, 5, S3.1 5 j3, 0) := by show asmX (xCall D cnt (5 + 1) 0 0 (S, 0, nn0, 0, 0, 0)) qd = _; rw [← hG]; simp only [asmX]; rw [if_pos c1]; simp only [asmL]; rw [← hG3, o2]; simp [failF]
        exact m_vret X hS (Nat.zero_le _) (Nat.zero_le _) d_Assembly_assemble_91 rfl (by rw [hM]; exact ⟨hA, hP, ⟨_, hQ⟩, ⟨_, _, _, hE⟩, hI, ⟨_, hN⟩, hs, show 0 ≤ 121 by omega, hly, hlw, hhw⟩)
  · skip
    refine lv_aload_n X.x X.b d_Assembly_assemble_42 rfl (lv_at hl 0 rfl) ?_
    refine lv_aload_n X.x X.b d_Assembly_assemble_43 rfl (lv_at hl 0 rfl) ?_
    refine m_get (v := .ref (w + 124)) X ok_Assembly hA 1 (by decide) k_Assembly_23 rfl d_Assembly_assemble_44 ?_
    refine m_get (v := .int f1) X ok_Expander hE 4 (by decide) k_Assembly_60 rfl d_Assembly_assemble_47 ?_
    refine lv_aload_n X.x X.b d_Assembly_assemble_50 rfl (lv_at hl 0 rfl) ?_
    refine m_get (v := .ref (w + 124)) X ok_Assembly hA 1 (by decide) k_Assembly_23 rfl d_Assembly_assemble_51 ?_
    refine m_get (v := .int m1) X ok_Expander hE 5 (by decide) k_Assembly_61 rfl d_Assembly_assemble_54 ?_
    have hR := M_Assembly_failAt (y := (S1, k1, qd, 0, (-1), 0)) l g ⟨hA, hP, ⟨_, hQ⟩, ⟨_, _, _, hE⟩, hI, ⟨_, hN⟩, hs, show k1 ≤ 121 by omega, hly, hlw, hhw⟩ f1 m1
    refine m_callM X hS hR v_Assembly_64 hA rfl rfl rfl (Nat.le_of_ble_eq_true rfl) hl.1 d_Assembly_assemble_57 (by omega) (by decide) ⟨Nat.zero_le _, Nat.zero_le _⟩ (fun q z => z) (fun H locs hy hfr hS => ?_)
    obtain ⟨hA, hP, ⟨Qf, hQ⟩, ⟨ex, ef, em, hE⟩, hI, ⟨N, hN⟩, hs, -, -, -, -⟩ := hy
    have hA : asAt g w qd f1 m1 0 H := hA
    have hI : iAt g (w + 1) 0 S1 H := hI
    have hM : asmF D cnt (S, c, qd, fn, fl, rd) = (S1, 0, qd, f1, m1, 0) := by show asmX (xCall D cnt (5 + 1) 0 0 (S, 0, nn0, 0, 0, 0)) qd = _; rw [← hG]; simp only [asmX]; rw [if_neg c1]; simp [failF]
    exact m_vret X hS (Nat.zero_le _) (Nat.zero_le _) d_Assembly_assemble_60 rfl (by rw [hM]; exact ⟨hA, hP, ⟨_, hQ⟩, ⟨_, _, _, hE⟩, hI, ⟨_, hN⟩, hs, show 0 ≤ 121 by omega, hly, hlw, hhw⟩)
