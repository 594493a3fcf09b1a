set_option maxRecDepth 100000 in
set_option maxHeartbeats 4000000 in
theorem M_Items_loadOfSame (l : Launch) (g : GG) {a c : Nat} {S : IS} {H0 : Heap} (hI : iAt g a c S H0) (hc : c ≤ 121) {f q : Nat} (hq : q < 121) (hf : f ≤ q) : MP l y_Items_loadOfSame c_Items_loadOfSame 4 (some (.object "BranchPress$Item")) 0 g H0 [.ref a, .int (nI f), .int (nI q)] (some (ir a (los S q (q - f) f))) := by
  refine MM.of (by decide +kernel) (Nat.le_of_ble_eq_true rfl) ?_
  intro p e s m below meth cd X hH ls hl
  have X : CX g p s m _ meth cd c_Items_loadOfSame 4 (some (.object "BranchPress$Item")) R_Items _ := X
  have hl : lv_has ls 4 [(0, .ref a), (1, .int (nI f)), (2, .int (nI q))] := hl
  have hS : va_S (AA (noA) H0) H0 H0 [] := va_S.rf
  refine lv_iload_n X.x X.b d_Items_loadOfSame_0 rfl (lv_at hl 1 rfl) ?_
  refine lv_istore_n (lv' := [(3, .int (nI f)), (0, .ref a), (1, .int (nI f)), (2, .int (nI q))]) X.x X.b d_Items_loadOfSame_1 rfl hl (by decide) rfl (fun ls hl => ?_)
  have lp : ∀ (n i : Nat), n = q - i → i < 5000 → (los S q n i = los S q (q - f) f) → ∀ (locs : List Loc) (ls : Array Slot), va_S (AA (noA) H0) H0 H0 locs → lv_has ls 4 [(0, .ref a), (2, .int (nI q)), (3, .int (nI i))] → W p l e (rmK 0 0 0) s m ([.ref a, .int (nI f), .int (nI q)] : List Value).toArray below meth cd H0 locs 0 0 (MQ below (QM (some (ir a (los S q (q - f) f))) (fun H1 => H1 = H0) (noA) H0) ([.ref a, .int (nI f), .int (nI q)] : List Value).toArray s 0 0 (AA (noA) H0)) (F0 m 2 ls []) := by
    intro n
    induction n with
    | zero =>
      intro i hin hi5 hE locs ls hS hl
      refine lv_iload_n X.x X.b d_Items_loadOfSame_2 rfl (lv_at hl 2 rfl) ?_
      refine lv_iload_n X.x X.b d_Items_loadOfSame_3 rfl (lv_at hl 1 rfl) ?_
      refine lv_icmp_ge (tgt := 54) X.x X.b d_Items_loadOfSame_4 (by decide) (fun c1 => ?_) (fun c1 => ?_)
      · skip
        have c1q := Int32.not_lt.mpr c1
        refine lv_null X.x X.b d_Items_loadOfSame_54 ?_
        exact m_aret X hS (Nat.zero_le _) (Nat.zero_le _) (Or.inl rfl) d_Items_loadOfSame_55 (by rw [← hE]; simp [los, ir_n, ir_s, c1, c1q]) rfl
      · exact absurd ((nI_leI (a := q) (b := i) (by omega) (by omega)).mpr (by omega)) c1
    | succ n ih =>
      intro i hin hi5 hE locs ls hS hl
      refine lv_iload_n X.x X.b d_Items_loadOfSame_2 rfl (lv_at hl 2 rfl) ?_
      refine lv_iload_n X.x X.b d_Items_loadOfSame_3 rfl (lv_at hl 1 rfl) ?_
      refine lv_icmp_ge (tgt := 54) X.x X.b d_Items_loadOfSame_4 (by decide) (fun c2 => ?_) (fun c2 => ?_)
      · exact absurd ((nI_leI (a := q) (b := i) (by omega) (by omega)).mp c2) (by omega)
      · skip
        have c2q := Int32.not_le.mp c2
        refine lv_aload_n X.x X.b d_Items_loadOfSame_7 rfl (lv_at hl 0 rfl) ?_
        refine m_get (v := .ref (a + 1)) X ok_Items hI.1 0 (by decide) k_Items_11 rfl d_Items_loadOfSame_8 ?_
        refine lv_iload_n X.x X.b d_Items_loadOfSame_11 rfl (lv_at hl 2 rfl) ?_
        refine m_qald (v := .ref (a + 2 + i)) X 4 rfl hI.2.1 (vp_in_nI (by omega) (by decide)) (by rw [nI_clamp (lt31 (by omega))]; rfl) d_Items_loadOfSame_12 ?_
        refine m_get (v := .int (S.1 0 i)) X ok_Item (hI.2.2.1 i (by omega)) 0 (by decide) k_Items_32 rfl d_Items_loadOfSame_13 ?_
        refine lv_iconst (v := 5) X.x X.b d_Items_loadOfSame_16 (by decide) ?_
        refine lv_icmp_ne (tgt := 48) X.x X.b d_Items_loadOfSame_17 (by decide) (fun c3 => ?_) (fun c3 => ?_)
        · skip
          refine lv_iinc (v := nI (i + 1)) (lv' := [(3, .int (nI (i + 1))), (0, .ref a), (2, .int (nI q))]) X.x X.b d_Items_loadOfSame_48 hl (k := 2) rfl (nI_1 i) (by decide) rfl (fun ls hl => ?_)
          refine lv_goto (tgt := 2) X.x X.b d_Items_loadOfSame_51 (by decide) ?_
          exact ih (i + 1) (by omega) (by omega) (by rw [← hE]; simp [los, c2, c2q, c3]) _ _ hS (lv_sub hl [1, 2, 0] rfl)
        · skip
          refine lv_aload_n X.x X.b d_Items_loadOfSame_20 rfl (lv_at hl 0 rfl) ?_
          refine m_get (v := .ref (a + 1)) X ok_Items hI.1 0 (by decide) k_Items_11 rfl d_Items_loadOfSame_21 ?_
          refine lv_iload_n X.x X.b d_Items_loadOfSame_24 rfl (lv_at hl 2 rfl) ?_
          refine m_qald (v := .ref (a + 2 + i)) X 4 rfl hI.2.1 (vp_in_nI (by omega) (by decide)) (by rw [nI_clamp (lt31 (by omega))]; rfl) d_Items_loadOfSame_25 ?_
          refine m_get (v := .int (S.1 3 i)) X ok_Item (hI.2.2.1 i (by omega)) 3 (by decide) k_Items_79 rfl d_Items_loadOfSame_26 ?_
          refine lv_aload_n X.x X.b d_Items_loadOfSame_29 rfl (lv_at hl 0 rfl) ?_
          refine m_get (v := .ref (a + 1)) X ok_Items hI.1 0 (by decide) k_Items_11 rfl d_Items_loadOfSame_30 ?_
          refine lv_iload_n X.x X.b d_Items_loadOfSame_33 rfl (lv_at hl 1 rfl) ?_
          refine m_qald (v := .ref (a + 2 + q)) X 4 rfl hI.2.1 (vp_in_nI (by omega) (by decide)) (by rw [nI_clamp (lt31 (by omega))]; rfl) d_Items_loadOfSame_34 ?_
          refine m_get (v := .int (S.1 3 q)) X ok_Item (hI.2.2.1 q (by omega)) 3 (by decide) k_Items_79 rfl d_Items_loadOfSame_35 ?_
          refine lv_icmp_ne (tgt := 48) X.x X.b d_Items_loadOfSame_38 (by decide) (fun c4 => ?_) (fun c4 => ?_)
          · skip
            refine lv_iinc (v := nI (i + 1)) (lv' := [(3, .int (nI (i + 1))), (0, .ref a), (2, .int (nI q))]) X.x X.b d_Items_loadOfSame_48 hl (k := 2) rfl (nI_1 i) (by decide) rfl (fun ls hl => ?_)
            refine lv_goto (tgt := 2) X.x X.b d_Items_loadOfSame_51 (by decide) ?_
            exact ih (i + 1) (by omega) (by omega) (by rw [← hE]; simp [los, c2, c2q, c3, c4]) _ _ hS (lv_sub hl [1, 2, 0] rfl)
          · skip
            refine lv_aload_n X.x X.b d_Items_loadOfSame_41 rfl (lv_at hl 0 rfl) ?_
            refine m_get (v := .ref (a + 1)) X ok_Items hI.1 0 (by decide) k_Items_11 rfl d_Items_loadOfSame_42 ?_
            refine lv_iload_n X.x X.b d_Items_loadOfSame_45 rfl (lv_at hl 2 rfl) ?_
            refine m_qald (v := .ref (a + 2 + i)) X 4 rfl hI.2.1 (vp_in_nI (by omega) (by decide)) (by rw [nI_clamp (lt31 (by omega))]; rfl) d_Items_loadOfSame_46 ?_
            exact m_aret X hS (Nat.zero_le _) (Nat.zero_le _) (Or.inr ⟨_, rfl⟩) d_Items_loadOfSame_47 (by rw [← hE]; simp [los, ir_n, ir_s, c2, c2q, c3, c4]) rfl
  exact lp (q - f) f (by omega) (by omega) (rfl) _ _ hS (lv_sub hl [1, 3, 0] rfl)
set_option maxRecDepth 100000 in
set_option maxHeartbeats 4000000 in
theorem M_Items_tellPool (l : Launch) (g : GG) {a c : Nat} {S : IS} {H0 : Heap} (hI : iAt g a c S H0) (hc : c ≤ 121) {f q : Nat} (hq : q < 121) (hf : f ≤ q) : MM l y_Items_tellPool c_Items_tellPool 4 none 0 0 0 g H0 [.ref a, .int (nI f), .int (nI q)] (iF a) (none) (fun H1 => iAt g a c (tlp q (q - f) f S) H1) := by
  refine MM.of (by decide +kernel) (Nat.le_of_ble_eq_true rfl) ?_
  intro p e s m below meth cd X hH ls hl
  have X : CX g p s m _ meth cd c_Items_tellPool 4 none R_Items _ := X
  have hl : lv_has ls 4 [(0, .ref a), (1, .int (nI f)), (2, .int (nI q))] := hl
  have hS : va_S (AA (iF a) H0) H0 H0 [] := va_S.rf
  refine lv_iload_n X.x X.b d_Items_tellPool_0 rfl (lv_at hl 1 rfl) ?_
  refine lv_istore_n (lv' := [(3, .int (nI f)), (0, .ref a), (1, .int (nI f)), (2, .int (nI q))]) X.x X.b d_Items_tellPool_1 rfl hl (by decide) rfl (fun ls hl => ?_)
  have lp : ∀ (n i : Nat) (Sx : IS), n = q - i → i < 5000 → (tlp q n i Sx = tlp q (q - f) f S) → ∀ (H : Heap) (locs : List Loc) (ls : Array Slot), iAt g a c Sx H → va_S (AA (iF a) H0) H0 H locs → lv_has ls 4 [(0, .ref a), (2, .int (nI q)), (3, .int (nI i))] → W p l e (rmK 0 0 0) s m ([.ref a, .int (nI f), .int (nI q)] : List Value).toArray below meth cd H locs 0 0 (MQ below (QM (none) (fun H1 => iAt g a c (tlp q (q - f) f S) H1) (iF a) H0) ([.ref a, .int (nI f), .int (nI q)] : List Value).toArray s 0 0 (AA (iF a) H0)) (F0 m 2 ls []) := by
    intro n
    induction n with
    | zero =>
      intro i Sx hin hi5 hE H locs ls hI hS hl
      refine lv_iload_n X.x X.b d_Items_tellPool_2 rfl (lv_at hl 2 rfl) ?_
      refine lv_iload_n X.x X.b d_Items_tellPool_3 rfl (lv_at hl 1 rfl) ?_
      refine lv_icmp_ge (tgt := 45) X.x X.b d_Items_tellPool_4 (by decide) (fun c1 => ?_) (fun c1 => ?_)
      · skip
        have c1q := Int32.not_lt.mpr c1
        exact m_vret X hS (Nat.zero_le _) (Nat.zero_le _) d_Items_tellPool_45 rfl (by rw [← hE]; exact hI)
      · exact absurd ((nI_leI (a := q) (b := i) (by omega) (by omega)).mpr (by omega)) c1
    | succ n ih =>
      intro i Sx hin hi5 hE H locs ls hI hS hl
      refine lv_iload_n X.x X.b d_Items_tellPool_2 rfl (lv_at hl 2 rfl) ?_
      refine lv_iload_n X.x X.b d_Items_tellPool_3 rfl (lv_at hl 1 rfl) ?_
      refine lv_icmp_ge (tgt := 45) X.x X.b d_Items_tellPool_4 (by decide) (fun c2 => ?_) (fun c2 => ?_)
      · exact absurd ((nI_leI (a := q) (b := i) (by omega) (by omega)).mp c2) (by omega)
      · skip
        have c2q := Int32.not_le.mp c2
        refine lv_aload_n X.x X.b d_Items_tellPool_7 rfl (lv_at hl 0 rfl) ?_
        refine m_get (v := .ref (a + 1)) X ok_Items hI.1 0 (by decide) k_Items_11 rfl d_Items_tellPool_8 ?_
        refine lv_iload_n X.x X.b d_Items_tellPool_11 rfl (lv_at hl 2 rfl) ?_
        refine m_qald (v := .ref (a + 2 + i)) X 4 rfl hI.2.1 (vp_in_nI (by omega) (by decide)) (by rw [nI_clamp (lt31 (by omega))]; rfl) d_Items_tellPool_12 ?_
        refine lv_aload_n X.x X.b d_Items_tellPool_13 rfl (lv_at hl 0 rfl) ?_
        refine m_get (v := .ref (a + 1)) X ok_Items hI.1 0 (by decide) k_Items_11 rfl d_Items_tellPool_14 ?_
        refine lv_iload_n X.x X.b d_Items_tellPool_17 rfl (lv_at hl 2 rfl) ?_
        refine m_qald (v := .ref (a + 2 + i)) X 4 rfl hI.2.1 (vp_in_nI (by omega) (by decide)) (by rw [nI_clamp (lt31 (by omega))]; rfl) d_Items_tellPool_18 ?_
        refine m_get (v := .int (Sx.1 0 i)) X ok_Item (hI.2.2.1 i (by omega)) 0 (by decide) k_Items_32 rfl d_Items_tellPool_19 ?_
        refine lv_iconst (v := 5) X.x X.b d_Items_tellPool_22 (by decide) ?_
        refine lv_icmp_ne (tgt := 35) X.x X.b d_Items_tellPool_23 (by decide) (fun c3 => ?_) (fun c3 => ?_)
        · skip
          refine lv_null X.x X.b d_Items_tellPool_35 ?_
          refine m_put X ok_Item hS (Or.inl ⟨by omega, by omega⟩) (hI.2.2.1 i (by omega)) 9 (by decide) k_Items_82 rfl (ok_Item.2.2.1 _ (by decide)) rfl rfl (Nat.le_of_ble_eq_true rfl) d_Items_tellPool_36 (fun H locs hp hcg hS => ?_)
          have hI := hI.pR (k := 9) (o := none) (by omega) (fun _ z => by cases z) hp hcg (by simp [iv, sR, ir, va_rf])
          refine lv_iinc (v := nI (i + 1)) (lv' := [(3, .int (nI (i + 1))), (0, .ref a), (2, .int (nI q))]) X.x X.b d_Items_tellPool_39 hl (k := 2) rfl (nI_1 i) (by decide) rfl (fun ls hl => ?_)
          refine lv_goto (tgt := 2) X.x X.b d_Items_tellPool_42 (by decide) ?_
          exact ih (i + 1) (sR Sx 9 i none) (by omega) (by omega) (by rw [← hE]; simp [tlp, c2, c2q, c3]) _ _ _ hI hS (lv_sub hl [1, 2, 0] rfl)
        · skip
          refine lv_aload_n X.x X.b d_Items_tellPool_26 rfl (lv_at hl 0 rfl) ?_
          refine m_get (v := .ref (a + 1)) X ok_Items hI.1 0 (by decide) k_Items_11 rfl d_Items_tellPool_27 ?_
          refine lv_iload_n X.x X.b d_Items_tellPool_30 rfl (lv_at hl 1 rfl) ?_
          refine m_qald (v := .ref (a + 2 + q)) X 4 rfl hI.2.1 (vp_in_nI (by omega) (by decide)) (by rw [nI_clamp (lt31 (by omega))]; rfl) d_Items_tellPool_31 ?_
          refine lv_goto (tgt := 36) X.x X.b d_Items_tellPool_32 (by decide) ?_
          refine m_put X ok_Item hS (Or.inl ⟨by omega, by omega⟩) (hI.2.2.1 i (by omega)) 9 (by decide) k_Items_82 rfl (ok_Item.2.2.1 _ (by decide)) rfl rfl (Nat.le_of_ble_eq_true rfl) d_Items_tellPool_36 (fun H locs hp hcg hS => ?_)
          have hI := hI.pR (k := 9) (o := some q) (by omega) (fun _ z => by cases z; exact (by omega)) hp hcg (by simp [iv, sR, ir, va_rf])
          refine lv_iinc (v := nI (i + 1)) (lv' := [(3, .int (nI (i + 1))), (0, .ref a), (2, .int (nI q))]) X.x X.b d_Items_tellPool_39 hl (k := 2) rfl (nI_1 i) (by decide) rfl (fun ls hl => ?_)
          refine lv_goto (tgt := 2) X.x X.b d_Items_tellPool_42 (by decide) ?_
          exact ih (i + 1) (sR Sx 9 i (some q)) (by omega) (by omega) (by rw [← hE]; simp [tlp, c2, c2q, c3]) _ _ _ hI hS (lv_sub hl [1, 2, 0] rfl)
  exact lp (q - f) f S (by omega) (by omega) (rfl) _ _ _ hI hS (lv_sub hl [1, 3, 0] rfl)
set_option maxRecDepth 100000 in
set_option maxHeartbeats 4000000 in
theorem M_Items_linkPools (l : Launch) (g : GG) {a c : Nat} {S : IS} {H0 : Heap} (hI : iAt g a c S H0) (hc : c ≤ 121) : MM l y_Items_linkPools c_Items_linkPools 5 none 1 0 0 g H0 [.ref a] (iF a) (none) (fun H1 => iAt g a c (lkp c 0 S 0 0) H1) := by
  refine MM.of (by decide +kernel) (Nat.le_of_ble_eq_true rfl) ?_
  intro p e s m below meth cd X hH ls hl
  have X : CX g p s m _ meth cd c_Items_linkPools 5 none R_Items _ := X
  have hl : lv_has ls 5 [(0, .ref a)] := hl
  have hS : va_S (AA (iF a) H0) H0 H0 [] := va_S.rf
  refine lv_iconst (v := 0) X.x X.b d_Items_linkPools_0 (by decide) ?_
  refine lv_istore_n (lv' := [(1, .int 0), (0, .ref a)]) X.x X.b d_Items_linkPools_1 rfl hl (by decide) rfl (fun ls hl => ?_)
  refine lv_iconst (v := 0) X.x X.b d_Items_linkPools_2 (by decide) ?_
  refine lv_istore_n (lv' := [(2, .int 0), (1, .int 0), (0, .ref a)]) X.x X.b d_Items_linkPools_3 rfl hl (by decide) rfl (fun ls hl => ?_)
  refine lv_iconst (v := 0) X.x X.b d_Items_linkPools_4 (by decide) ?_
  refine lv_istore_n (lv' := [(3, .int 0), (2, .int 0), (1, .int 0), (0, .ref a)]) X.x X.b d_Items_linkPools_5 rfl hl (by decide) rfl (fun ls hl => ?_)
  have lp : ∀ (n i : Nat) (f : Nat) (d : Int32) (Sx : IS), n = c - i → i < 5000 → (f ≤ i ∧ lkp n i Sx f d = lkp c 0 S 0 0) → ∀ (H : Heap) (locs : List Loc) (ls : Array Slot), iAt g a c Sx H → va_S (AA (iF a) H0) H0 H locs → lv_has ls 5 [(0, .ref a), (1, .int (nI f)), (2, .int d), (3, .int (nI i))] → W p l e (rmK 1 0 0) s m ([.ref a] : List Value).toArray below meth cd H locs 0 0 (MQ below (QM (none) (fun H1 => iAt g a c (lkp c 0 S 0 0) H1) (iF a) H0) ([.ref a] : List Value).toArray s 0 0 (AA (iF a) H0)) (F0 m 6 ls []) := by
    intro n
    induction n with
    | zero =>
      intro i f d Sx hin hi5 hE H locs ls hI hS hl
      obtain ⟨hfi, hE⟩ := hE
      refine lv_iload_n X.x X.b d_Items_linkPools_6 rfl (lv_at hl 3 rfl) ?_
      refine lv_aload_n X.x X.b d_Items_linkPools_7 rfl (lv_at hl 0 rfl) ?_
      refine m_get (v := .int (nI c)) X ok_Items hI.1 1 (by decide) k_Items_18 rfl d_Items_linkPools_8 ?_
      refine lv_icmp_ge (tgt := 116) X.x X.b d_Items_linkPools_11 (by decide) (fun c1 => ?_) (fun c1 => ?_)
      · skip
        have c1q := Int32.not_lt.mpr c1
        exact m_vret X hS (Nat.zero_le _) (Nat.zero_le _) d_Items_linkPools_116 rfl (by rw [← hE]; exact hI)
      · exact absurd ((nI_leI (a := c) (b := i) (by omega) (by omega)).mpr (by omega)) c1
    | succ n ih =>
      intro i f d Sx hin hi5 hE H locs ls hI hS hl
      obtain ⟨hfi, hE⟩ := hE
      refine lv_iload_n X.x X.b d_Items_linkPools_6 rfl (lv_at hl 3 rfl) ?_
      refine lv_aload_n X.x X.b d_Items_linkPools_7 rfl (lv_at hl 0 rfl) ?_
      refine m_get (v := .int (nI c)) X ok_Items hI.1 1 (by decide) k_Items_18 rfl d_Items_linkPools_8 ?_
      refine lv_icmp_ge (tgt := 116) X.x X.b d_Items_linkPools_11 (by decide) (fun c2 => ?_) (fun c2 => ?_)
      · exact absurd ((nI_leI (a := c) (b := i) (by omega) (by omega)).mp c2) (by omega)
      · skip
        have c2q := Int32.not_le.mp c2
        refine lv_aload_n X.x X.b d_Items_linkPools_14 rfl (lv_at hl 0 rfl) ?_
        refine m_get (v := .ref (a + 1)) X ok_Items hI.1 0 (by decide) k_Items_11 rfl d_Items_linkPools_15 ?_
        refine lv_iload_n X.x X.b d_Items_linkPools_18 rfl (lv_at hl 3 rfl) ?_
        refine m_qald (v := .ref (a + 2 + i)) X 4 rfl hI.2.1 (vp_in_nI (by omega) (by decide)) (by rw [nI_clamp (lt31 (by omega))]; rfl) d_Items_linkPools_19 ?_
        refine m_get (v := .int (Sx.1 0 i)) X ok_Item (hI.2.2.1 i (by omega)) 0 (by decide) k_Items_32 rfl d_Items_linkPools_20 ?_
        refine lv_iconst (v := 5) X.x X.b d_Items_linkPools_23 (by decide) ?_
        refine lv_icmp_ne (tgt := 74) X.x X.b d_Items_linkPools_24 (by decide) (fun c3 => ?_) (fun c3 => ?_)
        · skip
          refine lv_aload_n X.x X.b d_Items_linkPools_74 rfl (lv_at hl 0 rfl) ?_
          refine m_get (v := .ref (a + 1)) X ok_Items hI.1 0 (by decide) k_Items_11 rfl d_Items_linkPools_75 ?_
          refine lv_iload_n X.x X.b d_Items_linkPools_78 rfl (lv_at hl 3 rfl) ?_
          refine m_qald (v := .ref (a + 2 + i)) X 4 rfl hI.2.1 (vp_in_nI (by omega) (by decide)) (by rw [nI_clamp (lt31 (by omega))]; rfl) d_Items_linkPools_79 ?_
          refine m_get (v := .int (Sx.1 0 i)) X ok_Item (hI.2.2.1 i (by omega)) 0 (by decide) k_Items_32 rfl d_Items_linkPools_80 ?_
          refine lv_bipush (v := 6) X.x X.b d_Items_linkPools_83 (by decide) ?_
          refine lv_icmp_ne (tgt := 110) X.x X.b d_Items_linkPools_85 (by decide) (fun c4 => ?_) (fun c4 => ?_)
          · skip
            refine lv_iinc (v := nI (i + 1)) (lv' := [(3, .int (nI (i + 1))), (0, .ref a), (1, .int (nI f)), (2, .int d)]) X.x X.b d_Items_linkPools_110 hl (k := 3) rfl (nI_1 i) (by decide) rfl (fun ls hl => ?_)
            refine lv_goto (tgt := 6) X.x X.b d_Items_linkPools_113 (by decide) ?_
            exact ih (i + 1) f d Sx (by omega) (by omega) (⟨by omega, by rw [← hE]; simp [lkp, c2, c2q, c3, c4]⟩) _ _ _ hI hS (lv_sub hl [1, 2, 3, 0] rfl)
          · skip
            refine lv_aload_n X.x X.b d_Items_linkPools_88 rfl (lv_at hl 0 rfl) ?_
            refine m_get (v := .ref (a + 1)) X ok_Items hI.1 0 (by decide) k_Items_11 rfl d_Items_linkPools_89 ?_
            refine lv_iload_n X.x X.b d_Items_linkPools_92 rfl (lv_at hl 3 rfl) ?_
            refine m_qald (v := .ref (a + 2 + i)) X 4 rfl hI.2.1 (vp_in_nI (by omega) (by decide)) (by rw [nI_clamp (lt31 (by omega))]; rfl) d_Items_linkPools_93 ?_
            refine lv_iload_n X.x X.b d_Items_linkPools_94 rfl (lv_at hl 2 rfl) ?_
            refine m_put X ok_Item hS (Or.inl ⟨by omega, by omega⟩) (hI.2.2.1 i (by omega)) 11 (by decide) k_Items_72 rfl (ok_Item.2.2.1 _ (by decide)) rfl rfl (Nat.le_of_ble_eq_true rfl) d_Items_linkPools_95 (fun H locs hp hcg hS => ?_)
            have hI := hI.pI (k := 11) (v := d) (by omega) hp hcg (by simp [iv, sI])
            obtain ⟨S5, eS5⟩ : ∃ z, z = sI Sx 11 i d := ⟨_, rfl⟩
            rw [← eS5] at hI
            refine lv_aload_n X.x X.b d_Items_linkPools_98 rfl (lv_at hl 0 rfl) ?_
            refine lv_iload_n X.x X.b d_Items_linkPools_99 rfl (lv_at hl 1 rfl) ?_
            refine lv_iload_n X.x X.b d_Items_linkPools_100 rfl (lv_at hl 3 rfl) ?_
            refine m_callM X hS (M_Items_tellPool (f := f) (q := i) l g hI hc (by omega) (by omega)) v_Items_75 hI.1 rfl rfl rfl (Nat.le_of_ble_eq_true rfl) hl.1 d_Items_linkPools_101 (by omega) (by decide) ⟨Nat.zero_le _, Nat.zero_le _⟩ (fun _ h => h) (fun H locs hI hfr hS => ?_)
            refine lv_iload_n X.x X.b d_Items_linkPools_104 rfl (lv_at hl 3 rfl) ?_
            refine lv_iconst (v := 1) X.x X.b d_Items_linkPools_105 (by decide) ?_
            refine lv_iadd X.x X.b d_Items_linkPools_106 ?_
            refine lv_topi (fun z ez => ?_)
            rw [nI_1] at ez
            subst ez
            refine lv_istore_n (lv' := [(1, .int (nI (i + 1))), (0, .ref a), (2, .int d), (3, .int (nI i))]) X.x X.b d_Items_linkPools_107 rfl hl (by decide) rfl (fun ls hl => ?_)
            refine lv_iconst (v := 0) X.x X.b d_Items_linkPools_108 (by decide) ?_
            refine lv_istore_n (lv' := [(2, .int 0), (1, .int (nI (i + 1))), (0, .ref a), (3, .int (nI i))]) X.x X.b d_Items_linkPools_109 rfl hl (by decide) rfl (fun ls hl => ?_)
            refine lv_iinc (v := nI (i + 1)) (lv' := [(3, .int (nI (i + 1))), (2, .int 0), (1, .int (nI (i + 1))), (0, .ref a)]) X.x X.b d_Items_linkPools_110 hl (k := 3) rfl (nI_1 i) (by decide) rfl (fun ls hl => ?_)
            refine lv_goto (tgt := 6) X.x X.b d_Items_linkPools_113 (by decide) ?_
            exact ih (i + 1) (i + 1) 0 (tlp i (i - f) f S5) (by omega) (by omega) (⟨by omega, by rw [← hE]; simp [lkp, c2, c2q, c3, c4, ← eS5]⟩) _ _ _ hI hS (lv_sub hl [3, 2, 1, 0] rfl)
        · skip
          refine lv_aload_n X.x X.b d_Items_linkPools_27 rfl (lv_at hl 0 rfl) ?_
          refine lv_iload_n X.x X.b d_Items_linkPools_28 rfl (lv_at hl 1 rfl) ?_
          refine lv_iload_n X.x X.b d_Items_linkPools_29 rfl (lv_at hl 3 rfl) ?_
          refine m_callP X hS (M_Items_loadOfSame (f := f) (q := i) l g hI hc (by omega) (by omega)) v_Items_66 hI.1 rfl rfl rfl (Nat.le_of_ble_eq_true rfl) hl.1 d_Items_linkPools_30 (by omega) (by decide) ⟨Nat.zero_le _, Nat.zero_le _⟩ (fun locs hS => ?_)
          rcases o6 : los Sx i (i - f) f with _ | j7
          · skip
            try rw [o6]
            refine lv_astoreN (lv' := [(4, .null), (0, .ref a), (1, .int (nI f)), (2, .int d), (3, .int (nI i))]) X.x X.b d_Items_linkPools_33 hl (by decide) rfl (fun ls hl => ?_)
            refine lv_aload_n X.x X.b d_Items_linkPools_35 rfl (lv_at hl 1 rfl) ?_
            refine m_get (v := .ref (a + 1)) X ok_Items hI.1 0 (by decide) k_Items_11 rfl d_Items_linkPools_36 ?_
            refine lv_iload_n X.x X.b d_Items_linkPools_39 rfl (lv_at hl 4 rfl) ?_
            refine m_qald (v := .ref (a + 2 + i)) X 4 rfl hI.2.1 (vp_in_nI (by omega) (by decide)) (by rw [nI_clamp (lt31 (by omega))]; rfl) d_Items_linkPools_40 ?_
            refine lv_aloadN X.x X.b d_Items_linkPools_41 (lv_at hl 0 rfl) ?_
            refine lv_ifnonnullN X.x X.b d_Items_linkPools_43 ?_
            refine lv_iload_n X.x X.b d_Items_linkPools_46 rfl (lv_at hl 3 rfl) ?_
            refine lv_goto (tgt := 55) X.x X.b d_Items_linkPools_47 (by decide) ?_
            refine m_put X ok_Item hS (Or.inl ⟨by omega, by omega⟩) (hI.2.2.1 i (by omega)) 10 (by decide) k_Items_69 rfl (ok_Item.2.2.1 _ (by decide)) rfl rfl (Nat.le_of_ble_eq_true rfl) d_Items_linkPools_55 (fun H locs hp hcg hS => ?_)
            have hI := hI.pI (k := 10) (v := d) (by omega) hp hcg (by simp [iv, sI])
            obtain ⟨S8, eS8⟩ : ∃ z, z = sI Sx 10 i d := ⟨_, rfl⟩
            rw [← eS8] at hI
            refine lv_iload_n X.x X.b d_Items_linkPools_58 rfl (lv_at hl 3 rfl) ?_
            refine lv_aloadN X.x X.b d_Items_linkPools_59 (lv_at hl 0 rfl) ?_
            refine lv_ifnonnullN X.x X.b d_Items_linkPools_61 ?_
            refine lv_iconst (v := 1) X.x X.b d_Items_linkPools_64 (by decide) ?_
            refine lv_goto (tgt := 69) X.x X.b d_Items_linkPools_65 (by decide) ?_
            refine lv_iadd X.x X.b d_Items_linkPools_69 ?_
            refine lv_istore_n (lv' := [(2, .int (d + 1)), (4, .null), (0, .ref a), (1, .int (nI f)), (3, .int (nI i))]) X.x X.b d_Items_linkPools_70 rfl hl (by decide) rfl (fun ls hl => ?_)
            refine lv_goto (tgt := 110) X.x X.b d_Items_linkPools_71 (by decide) ?_
            refine lv_iinc (v := nI (i + 1)) (lv' := [(3, .int (nI (i + 1))), (2, .int (d + 1)), (4, .null), (0, .ref a), (1, .int (nI f))]) X.x X.b d_Items_linkPools_110 hl (k := 4) rfl (nI_1 i) (by decide) rfl (fun ls hl => ?_)
            refine lv_goto (tgt := 6) X.x X.b d_Items_linkPools_113 (by decide) ?_
            exact ih (i + 1) f (d + 1) S8 (by omega) (by omega) (⟨by omega, by rw [← hE]; simp [lkp, c2, c2q, c3, o6, ← eS8]⟩) _ _ _ hI hS (lv_sub hl [3, 4, 1, 0] rfl)
          · skip
            try rw [o6]
            refine lv_astore (lv' := [(4, .ref (a + 2 + j7)), (0, .ref a), (1, .int (nI f)), (2, .int d), (3, .int (nI i))]) X.x X.b d_Items_linkPools_33 hl (by decide) rfl (fun ls hl => ?_)
            refine lv_aload_n X.x X.b d_Items_linkPools_35 rfl (lv_at hl 1 rfl) ?_
            refine m_get (v := .ref (a + 1)) X ok_Items hI.1 0 (by decide) k_Items_11 rfl d_Items_linkPools_36 ?_
            refine lv_iload_n X.x X.b d_Items_linkPools_39 rfl (lv_at hl 4 rfl) ?_
            refine m_qald (v := .ref (a + 2 + i)) X 4 rfl hI.2.1 (vp_in_nI (by omega) (by decide)) (by rw [nI_clamp (lt31 (by omega))]; rfl) d_Items_linkPools_40 ?_
            refine lv_aload X.x X.b d_Items_linkPools_41 (lv_at hl 0 rfl) ?_
            refine lv_ifnonnull (tgt := 50) X.x X.b d_Items_linkPools_43 (by decide) ?_
            refine lv_aload X.x X.b d_Items_linkPools_50 (lv_at hl 0 rfl) ?_
            refine m_get (v := .int (Sx.1 10 j7)) X ok_Item (hI.2.2.1 j7 (by have := los_lt o6; omega)) 10 (by decide) k_Items_69 rfl d_Items_linkPools_52 ?_
            refine m_put X ok_Item hS (Or.inl ⟨by omega, by omega⟩) (hI.2.2.1 i (by omega)) 10 (by decide) k_Items_69 rfl (ok_Item.2.2.1 _ (by decide)) rfl rfl (Nat.le_of_ble_eq_true rfl) d_Items_linkPools_55 (fun H locs hp hcg hS => ?_)
            have hI := hI.pI (k := 10) (v := Sx.1 10 j7) (by omega) hp hcg (by simp [iv, sI])
            obtain ⟨S9, eS9⟩ : ∃ z, z = sI Sx 10 i (Sx.1 10 j7) := ⟨_, rfl⟩
            rw [← eS9] at hI
            refine lv_iload_n X.x X.b d_Items_linkPools_58 rfl (lv_at hl 3 rfl) ?_
            refine lv_aload X.x X.b d_Items_linkPools_59 (lv_at hl 0 rfl) ?_
            refine lv_ifnonnull (tgt := 68) X.x X.b d_Items_linkPools_61 (by decide) ?_
            refine lv_iconst (v := 0) X.x X.b d_Items_linkPools_68 (by decide) ?_
            refine lv_iadd X.x X.b d_Items_linkPools_69 ?_
            refine lv_istore_n (lv' := [(2, .int (d + 0)), (4, .ref (a + 2 + j7)), (0, .ref a), (1, .int (nI f)), (3, .int (nI i))]) X.x X.b d_Items_linkPools_70 rfl hl (by decide) rfl (fun ls hl => ?_)
            refine lv_goto (tgt := 110) X.x X.b d_Items_linkPools_71 (by decide) ?_
            refine lv_iinc (v := nI (i + 1)) (lv' := [(3, .int (nI (i + 1))), (2, .int (d + 0)), (4, .ref (a + 2 + j7)), (0, .ref a), (1, .int (nI f))]) X.x X.b d_Items_linkPools_110 hl (k := 4) rfl (nI_1 i) (by decide) rfl (fun ls hl => ?_)
            refine lv_goto (tgt := 6) X.x X.b d_Items_linkPools_113 (by decide) ?_
            exact ih (i + 1) f (d + 0) S9 (by omega) (by omega) (⟨by omega, by rw [← hE]; simp [lkp, c2, c2q, c3, o6, ← eS9]⟩) _ _ _ hI hS (lv_sub hl [3, 4, 1, 0] rfl)
  exact lp c 0 0 0 S (by omega) (by omega) (⟨Nat.le_refl _, rfl⟩) _ _ _ hI hS (lv_sub hl [3, 2, 1, 0] rfl)
set_option maxRecDepth 100000 in
set_option maxHeartbeats 4000000 in
theorem M_Items_place (l : Launch) (g : GG) {a c : Nat} {S : IS} {H0 : Heap} (hI : iAt g a c S H0) (hc : c ≤ 121) : MM l y_Items_place c_Items_place 3 none 1 0 0 g H0 [.ref a] (iF a) (none) (fun H1 => iAt g a c (plc c 0 S 0) H1) := by
  refine MM.of (by decide +kernel) (Nat.le_of_ble_eq_true rfl) ?_
  intro p e s m below meth cd X hH ls hl
  have X : CX g p s m _ meth cd c_Items_place 3 none R_Items _ := X
  have hl : lv_has ls 3 [(0, .ref a)] := hl
  have hS : va_S (AA (iF a) H0) H0 H0 [] := va_S.rf
  refine lv_iconst (v := 0) X.x X.b d_Items_place_0 (by decide) ?_
  refine lv_istore_n (lv' := [(1, .int 0), (0, .ref a)]) X.x X.b d_Items_place_1 rfl hl (by decide) rfl (fun ls hl => ?_)
  refine lv_iconst (v := 0) X.x X.b d_Items_place_2 (by decide) ?_
  refine lv_istore_n (lv' := [(2, .int 0), (1, .int 0), (0, .ref a)]) X.x X.b d_Items_place_3 rfl hl (by decide) rfl (fun ls hl => ?_)
  have lp : ∀ (n i : Nat) (ad : Int32) (Sx : IS), n = c - i → i < 5000 → (plc n i Sx ad = plc c 0 S 0) → ∀ (H : Heap) (locs : List Loc) (ls : Array Slot), iAt g a c Sx H → va_S (AA (iF a) H0) H0 H locs → lv_has ls 3 [(0, .ref a), (1, .int ad), (2, .int (nI i))] → W p l e (rmK 1 0 0) s m ([.ref a] : List Value).toArray below meth cd H locs 0 0 (MQ below (QM (none) (fun H1 => iAt g a c (plc c 0 S 0) H1) (iF a) H0) ([.ref a] : List Value).toArray s 0 0 (AA (iF a) H0)) (F0 m 4 ls []) := by
    intro n
    induction n with
    | zero =>
      intro i ad Sx hin hi5 hE H locs ls hI hS hl
      refine lv_iload_n X.x X.b d_Items_place_4 rfl (lv_at hl 2 rfl) ?_
      refine lv_aload_n X.x X.b d_Items_place_5 rfl (lv_at hl 0 rfl) ?_
      refine m_get (v := .int (nI c)) X ok_Items hI.1 1 (by decide) k_Items_18 rfl d_Items_place_6 ?_
      refine lv_icmp_ge (tgt := 93) X.x X.b d_Items_place_9 (by decide) (fun c1 => ?_) (fun c1 => ?_)
      · skip
        have c1q := Int32.not_lt.mpr c1
        exact m_vret X hS (Nat.zero_le _) (Nat.zero_le _) d_Items_place_93 rfl (by rw [← hE]; exact hI)
      · exact absurd ((nI_leI (a := c) (b := i) (by omega) (by omega)).mpr (by omega)) c1
    | succ n ih =>
      intro i ad Sx hin hi5 hE H locs ls hI hS hl
      refine lv_iload_n X.x X.b d_Items_place_4 rfl (lv_at hl 2 rfl) ?_
      refine lv_aload_n X.x X.b d_Items_place_5 rfl (lv_at hl 0 rfl) ?_
      refine m_get (v := .int (nI c)) X ok_Items hI.1 1 (by decide) k_Items_18 rfl d_Items_place_6 ?_
      refine lv_icmp_ge (tgt := 93) X.x X.b d_Items_place_9 (by decide) (fun c2 => ?_) (fun c2 => ?_)
      · exact absurd ((nI_leI (a := c) (b := i) (by omega) (by omega)).mp c2) (by omega)
      · skip
        have c2q := Int32.not_le.mp c2
        refine lv_aload_n X.x X.b d_Items_place_12 rfl (lv_at hl 0 rfl) ?_
        refine m_get (v := .ref (a + 1)) X ok_Items hI.1 0 (by decide) k_Items_11 rfl d_Items_place_13 ?_
        refine lv_iload_n X.x X.b d_Items_place_16 rfl (lv_at hl 2 rfl) ?_
        refine m_qald (v := .ref (a + 2 + i)) X 4 rfl hI.2.1 (vp_in_nI (by omega) (by decide)) (by rw [nI_clamp (lt31 (by omega))]; rfl) d_Items_place_17 ?_
        refine lv_iload_n X.x X.b d_Items_place_18 rfl (lv_at hl 1 rfl) ?_
        refine m_put X ok_Item hS (Or.inl ⟨by omega, by omega⟩) (hI.2.2.1 i (by omega)) 12 (by decide) k_Items_85 rfl (ok_Item.2.2.1 _ (by decide)) rfl rfl (Nat.le_of_ble_eq_true rfl) d_Items_place_19 (fun H locs hp hcg hS => ?_)
        have hI := hI.pI (k := 12) (v := ad) (by omega) hp hcg (by simp [iv, sI])
        obtain ⟨S3, eS3⟩ : ∃ z, z = sI Sx 12 i ad := ⟨_, rfl⟩
        rw [← eS3] at hI
        refine lv_aload_n X.x X.b d_Items_place_22 rfl (lv_at hl 0 rfl) ?_
        refine m_get (v := .ref (a + 1)) X ok_Items hI.1 0 (by decide) k_Items_11 rfl d_Items_place_23 ?_
        refine lv_iload_n X.x X.b d_Items_place_26 rfl (lv_at hl 2 rfl) ?_
        refine m_qald (v := .ref (a + 2 + i)) X 4 rfl hI.2.1 (vp_in_nI (by omega) (by decide)) (by rw [nI_clamp (lt31 (by omega))]; rfl) d_Items_place_27 ?_
        refine lv_aload_n X.x X.b d_Items_place_28 rfl (lv_at hl 0 rfl) ?_
        refine m_get (v := .ref (a + 1)) X ok_Items hI.1 0 (by decide) k_Items_11 rfl d_Items_place_29 ?_
        refine lv_iload_n X.x X.b d_Items_place_32 rfl (lv_at hl 2 rfl) ?_
        refine m_qald (v := .ref (a + 2 + i)) X 4 rfl hI.2.1 (vp_in_nI (by omega) (by decide)) (by rw [nI_clamp (lt31 (by omega))]; rfl) d_Items_place_33 ?_
        refine lv_iload_n X.x X.b d_Items_place_34 rfl (lv_at hl 1 rfl) ?_
        refine m_callP X hS (M_Item_sizeAt l g hI (by omega) ad) v_Items_88 (hI.2.2.1 i (by omega)) rfl rfl rfl (Nat.le_of_ble_eq_true rfl) hl.1 d_Items_place_35 (by omega) (by decide) ⟨Nat.zero_le _, Nat.zero_le _⟩ (fun locs hS => ?_)
        refine m_put X ok_Item hS (Or.inl ⟨by omega, by omega⟩) (hI.2.2.1 i (by omega)) 13 (by decide) k_Items_92 rfl (ok_Item.2.2.1 _ (by decide)) rfl rfl (Nat.le_of_ble_eq_true rfl) d_Items_place_38 (fun H locs hp hcg hS => ?_)
        have hI := hI.pI (k := 13) (v := szF S3 i ad) (by omega) hp hcg (by simp [iv, sI])
        obtain ⟨S4, eS4⟩ : ∃ z, z = sI S3 13 i (szF S3 i ad) := ⟨_, rfl⟩
        rw [← eS4] at hI
        refine lv_aload_n X.x X.b d_Items_place_41 rfl (lv_at hl 0 rfl) ?_
        refine m_get (v := .ref (a + 1)) X ok_Items hI.1 0 (by decide) k_Items_11 rfl d_Items_place_42 ?_
        refine lv_iload_n X.x X.b d_Items_place_45 rfl (lv_at hl 2 rfl) ?_
        refine m_qald (v := .ref (a + 2 + i)) X 4 rfl hI.2.1 (vp_in_nI (by omega) (by decide)) (by rw [nI_clamp (lt31 (by omega))]; rfl) d_Items_place_46 ?_
        refine lv_aload_n X.x X.b d_Items_place_47 rfl (lv_at hl 0 rfl) ?_
        refine m_get (v := .ref (a + 1)) X ok_Items hI.1 0 (by decide) k_Items_11 rfl d_Items_place_48 ?_
        refine lv_iload_n X.x X.b d_Items_place_51 rfl (lv_at hl 2 rfl) ?_
        refine m_qald (v := .ref (a + 2 + i)) X 4 rfl hI.2.1 (vp_in_nI (by omega) (by decide)) (by rw [nI_clamp (lt31 (by omega))]; rfl) d_Items_place_52 ?_
        refine m_get (v := .int (S4.1 0 i)) X ok_Item (hI.2.2.1 i (by omega)) 0 (by decide) k_Items_32 rfl d_Items_place_53 ?_
        refine lv_if_ne (tgt := 63) X.x X.b d_Items_place_56 (by decide) (fun c5 => ?_) (fun c5 => ?_)
        · skip
          refine lv_aload_n X.x X.b d_Items_place_63 rfl (lv_at hl 0 rfl) ?_
          refine m_get (v := .ref (a + 1)) X ok_Items hI.1 0 (by decide) k_Items_11 rfl d_Items_place_64 ?_
          refine lv_iload_n X.x X.b d_Items_place_67 rfl (lv_at hl 2 rfl) ?_
          refine m_qald (v := .ref (a + 2 + i)) X 4 rfl hI.2.1 (vp_in_nI (by omega) (by decide)) (by rw [nI_clamp (lt31 (by omega))]; rfl) d_Items_place_68 ?_
          refine m_get (v := .int (S4.1 4 i)) X ok_Item (hI.2.2.1 i (by omega)) 4 (by decide) k_Items_95 rfl d_Items_place_69 ?_
          refine m_put X ok_Item hS (Or.inl ⟨by omega, by omega⟩) (hI.2.2.1 i (by omega)) 4 (by decide) k_Items_95 rfl (ok_Item.2.2.1 _ (by decide)) rfl rfl (Nat.le_of_ble_eq_true rfl) d_Items_place_72 (fun H locs hp hcg hS => ?_)
          have hI := hI.pI (k := 4) (v := S4.1 4 i) (by omega) hp hcg (by simp [iv, sI])
          obtain ⟨S6, eS6⟩ : ∃ z, z = sI S4 4 i (S4.1 4 i) := ⟨_, rfl⟩
          rw [← eS6] at hI
          refine lv_iload_n X.x X.b d_Items_place_75 rfl (lv_at hl 1 rfl) ?_
          refine lv_aload_n X.x X.b d_Items_place_76 rfl (lv_at hl 0 rfl) ?_
          refine m_get (v := .ref (a + 1)) X ok_Items hI.1 0 (by decide) k_Items_11 rfl d_Items_place_77 ?_
          refine lv_iload_n X.x X.b d_Items_place_80 rfl (lv_at hl 2 rfl) ?_
          refine m_qald (v := .ref (a + 2 + i)) X 4 rfl hI.2.1 (vp_in_nI (by omega) (by decide)) (by rw [nI_clamp (lt31 (by omega))]; rfl) d_Items_place_81 ?_
          refine m_get (v := .int (S6.1 13 i)) X ok_Item (hI.2.2.1 i (by omega)) 13 (by decide) k_Items_92 rfl d_Items_place_82 ?_
          refine lv_iadd X.x X.b d_Items_place_85 ?_
          refine lv_istore_n (lv' := [(1, .int (ad + (S6.1 13 i))), (0, .ref a), (2, .int (nI i))]) X.x X.b d_Items_place_86 rfl hl (by decide) rfl (fun ls hl => ?_)
          refine lv_iinc (v := nI (i + 1)) (lv' := [(2, .int (nI (i + 1))), (1, .int (ad + (S6.1 13 i))), (0, .ref a)]) X.x X.b d_Items_place_87 hl (k := 2) rfl (nI_1 i) (by decide) rfl (fun ls hl => ?_)
          refine lv_goto (tgt := 4) X.x X.b d_Items_place_90 (by decide) ?_
          exact ih (i + 1) (ad + (S6.1 13 i)) S6 (by omega) (by omega) (by rw [← hE]; simp [plc, plS, c2, c2q, ← eS3, ← eS4, c5, ← eS6]) _ _ _ hI hS (lv_sub hl [2, 1, 0] rfl)
        · skip
          refine lv_iload_n X.x X.b d_Items_place_59 rfl (lv_at hl 1 rfl) ?_
          refine lv_goto (tgt := 72) X.x X.b d_Items_place_60 (by decide) ?_
          refine m_put X ok_Item hS (Or.inl ⟨by omega, by omega⟩) (hI.2.2.1 i (by omega)) 4 (by decide) k_Items_95 rfl (ok_Item.2.2.1 _ (by decide)) rfl rfl (Nat.le_of_ble_eq_true rfl) d_Items_place_72 (fun H locs hp hcg hS => ?_)
          have hI := hI.pI (k := 4) (v := ad) (by omega) hp hcg (by simp [iv, sI])
          obtain ⟨S7, eS7⟩ : ∃ z, z = sI S4 4 i ad := ⟨_, rfl⟩
          rw [← eS7] at hI
          refine lv_iload_n X.x X.b d_Items_place_75 rfl (lv_at hl 1 rfl) ?_
          refine lv_aload_n X.x X.b d_Items_place_76 rfl (lv_at hl 0 rfl) ?_
          refine m_get (v := .ref (a + 1)) X ok_Items hI.1 0 (by decide) k_Items_11 rfl d_Items_place_77 ?_
          refine lv_iload_n X.x X.b d_Items_place_80 rfl (lv_at hl 2 rfl) ?_
          refine m_qald (v := .ref (a + 2 + i)) X 4 rfl hI.2.1 (vp_in_nI (by omega) (by decide)) (by rw [nI_clamp (lt31 (by omega))]; rfl) d_Items_place_81 ?_
          refine m_get (v := .int (S7.1 13 i)) X ok_Item (hI.2.2.1 i (by omega)) 13 (by decide) k_Items_92 rfl d_Items_place_82 ?_
          refine lv_iadd X.x X.b d_Items_place_85 ?_
          refine lv_istore_n (lv' := [(1, .int (ad + (S7.1 13 i))), (0, .ref a), (2, .int (nI i))]) X.x X.b d_Items_place_86 rfl hl (by decide) rfl (fun ls hl => ?_)
          refine lv_iinc (v := nI (i + 1)) (lv' := [(2, .int (nI (i + 1))), (1, .int (ad + (S7.1 13 i))), (0, .ref a)]) X.x X.b d_Items_place_87 hl (k := 2) rfl (nI_1 i) (by decide) rfl (fun ls hl => ?_)
          refine lv_goto (tgt := 4) X.x X.b d_Items_place_90 (by decide) ?_
          exact ih (i + 1) (ad + (S7.1 13 i)) S7 (by omega) (by omega) (by rw [← hE]; simp [plc, plS, c2, c2q, ← eS3, ← eS4, c5, ← eS7]) _ _ _ hI hS (lv_sub hl [2, 1, 0] rfl)
  exact lp c 0 0 S (by omega) (by omega) (rfl) _ _ _ hI hS (lv_sub hl [2, 1, 0] rfl)
set_option maxRecDepth 100000 in
set_option maxHeartbeats 4000000 in
theorem M_Items_lengthen (l : Launch) (g : GG) {a c : Nat} {S : IS} {H0 : Heap} (hI : iAt g a c S H0) (hc : c ≤ 121) : MM l y_Items_lengthen c_Items_lengthen 3 (some .boolean) 3 0 0 g H0 [.ref a] (iF a) (some (.int (lng c 0 S 0).2)) (fun H1 => iAt g a c (lng c 0 S 0).1 H1) := by
  refine MM.of (by decide +kernel) (Nat.le_of_ble_eq_true rfl) ?_
  intro p e s m below meth cd X hH ls hl
  have X : CX g p s m _ meth cd c_Items_lengthen 3 (some .boolean) R_Items _ := X
  have hl : lv_has ls 3 [(0, .ref a)] := hl
  have hS : va_S (AA (iF a) H0) H0 H0 [] := va_S.rf
  refine lv_iconst (v := 0) X.x X.b d_Items_lengthen_0 (by decide) ?_
  refine lv_istore_n (lv' := [(1, .int 0), (0, .ref a)]) X.x X.b d_Items_lengthen_1 rfl hl (by decide) rfl (fun ls hl => ?_)
  refine lv_iconst (v := 0) X.x X.b d_Items_lengthen_2 (by decide) ?_
  refine lv_istore_n (lv' := [(2, .int 0), (1, .int 0), (0, .ref a)]) X.x X.b d_Items_lengthen_3 rfl hl (by decide) rfl (fun ls hl => ?_)
  have lp : ∀ (n i : Nat) (b : Int32) (Sx : IS), n = c - i → i < 5000 → ((b = 0 ∨ b = 1) ∧ lng n i Sx b = lng c 0 S 0) → ∀ (H : Heap) (locs : List Loc) (ls : Array Slot), iAt g a c Sx H → va_S (AA (iF a) H0) H0 H locs → lv_has ls 3 [(0, .ref a), (1, .int b), (2, .int (nI i))] → W p l e (rmK 3 0 0) s m ([.ref a] : List Value).toArray below meth cd H locs 0 0 (MQ below (QM (some (.int (lng c 0 S 0).2)) (fun H1 => iAt g a c (lng c 0 S 0).1 H1) (iF a) H0) ([.ref a] : List Value).toArray s 0 0 (AA (iF a) H0)) (F0 m 4 ls []) := by
    intro n
    induction n with
    | zero =>
      intro i b Sx hin hi5 hE H locs ls hI hS hl
      obtain ⟨hb, hE⟩ := hE
      refine lv_iload_n X.x X.b d_Items_lengthen_4 rfl (lv_at hl 2 rfl) ?_
      refine lv_aload_n X.x X.b d_Items_lengthen_5 rfl (lv_at hl 0 rfl) ?_
      refine m_get (v := .int (nI c)) X ok_Items hI.1 1 (by decide) k_Items_18 rfl d_Items_lengthen_6 ?_
      refine lv_icmp_ge (tgt := 66) X.x X.b d_Items_lengthen_9 (by decide) (fun c1 => ?_) (fun c1 => ?_)
      · skip
        have c1q := Int32.not_lt.mpr c1
        refine lv_iload_n X.x X.b d_Items_lengthen_66 rfl (lv_at hl 1 rfl) ?_
        exact m_zret X hS (Nat.zero_le _) (Nat.zero_le _) d_Items_lengthen_67 (bool_nar hb) (by rw [← hE]; rfl) (by rw [← hE]; exact hI)
      · exact absurd ((nI_leI (a := c) (b := i) (by omega) (by omega)).mpr (by omega)) c1
    | succ n ih =>
      intro i b Sx hin hi5 hE H locs ls hI hS hl
      obtain ⟨hb, hE⟩ := hE
      refine lv_iload_n X.x X.b d_Items_lengthen_4 rfl (lv_at hl 2 rfl) ?_
      refine lv_aload_n X.x X.b d_Items_lengthen_5 rfl (lv_at hl 0 rfl) ?_
      refine m_get (v := .int (nI c)) X ok_Items hI.1 1 (by decide) k_Items_18 rfl d_Items_lengthen_6 ?_
      refine lv_icmp_ge (tgt := 66) X.x X.b d_Items_lengthen_9 (by decide) (fun c2 => ?_) (fun c2 => ?_)
      · exact absurd ((nI_leI (a := c) (b := i) (by omega) (by omega)).mp c2) (by omega)
      · skip
        have c2q := Int32.not_le.mp c2
        refine lv_aload_n X.x X.b d_Items_lengthen_12 rfl (lv_at hl 0 rfl) ?_
        refine m_get (v := .ref (a + 1)) X ok_Items hI.1 0 (by decide) k_Items_11 rfl d_Items_lengthen_13 ?_
        refine lv_iload_n X.x X.b d_Items_lengthen_16 rfl (lv_at hl 2 rfl) ?_
        refine m_qald (v := .ref (a + 2 + i)) X 4 rfl hI.2.1 (vp_in_nI (by omega) (by decide)) (by rw [nI_clamp (lt31 (by omega))]; rfl) d_Items_lengthen_17 ?_
        refine m_callP X hS (M_Item_isBranch l g hI (by omega)) v_Items_98 (hI.2.2.1 i (by omega)) rfl rfl rfl (Nat.le_of_ble_eq_true rfl) hl.1 d_Items_lengthen_18 (by omega) (by decide) ⟨Nat.zero_le _, Nat.zero_le _⟩ (fun locs hS => ?_)
        refine lv_if_eq (tgt := 60) X.x X.b d_Items_lengthen_21 (by decide) (fun c3 => ?_) (fun c3 => ?_)
        · skip
          have c3 := b2i_0.mp c3
          refine lv_iinc (v := nI (i + 1)) (lv' := [(2, .int (nI (i + 1))), (0, .ref a), (1, .int b)]) X.x X.b d_Items_lengthen_60 hl (k := 2) rfl (nI_1 i) (by decide) rfl (fun ls hl => ?_)
          refine lv_goto (tgt := 4) X.x X.b d_Items_lengthen_63 (by decide) ?_
          exact ih (i + 1) b Sx (by omega) (by omega) (⟨by first | exact Or.inr rfl | exact hb, by rw [← hE]; simp [lng, c2, c2q, c3]⟩) _ _ _ hI hS (lv_sub hl [1, 2, 0] rfl)
        · skip
          have c3 := b2i_n0 c3
          refine lv_aload_n X.x X.b d_Items_lengthen_24 rfl (lv_at hl 0 rfl) ?_
          refine m_get (v := .ref (a + 1)) X ok_Items hI.1 0 (by decide) k_Items_11 rfl d_Items_lengthen_25 ?_
          refine lv_iload_n X.x X.b d_Items_lengthen_28 rfl (lv_at hl 2 rfl) ?_
          refine m_qald (v := .ref (a + 2 + i)) X 4 rfl hI.2.1 (vp_in_nI (by omega) (by decide)) (by rw [nI_clamp (lt31 (by omega))]; rfl) d_Items_lengthen_29 ?_
          refine m_get (v := .int (Sx.1 14 i)) X ok_Item (hI.2.2.1 i (by omega)) 14 (by decide) k_Items_101 rfl d_Items_lengthen_30 ?_
          refine lv_if_ne (tgt := 60) X.x X.b d_Items_lengthen_33 (by decide) (fun c4 => ?_) (fun c4 => ?_)
          · skip
            refine lv_iinc (v := nI (i + 1)) (lv' := [(2, .int (nI (i + 1))), (0, .ref a), (1, .int b)]) X.x X.b d_Items_lengthen_60 hl (k := 2) rfl (nI_1 i) (by decide) rfl (fun ls hl => ?_)
            refine lv_goto (tgt := 4) X.x X.b d_Items_lengthen_63 (by decide) ?_
            exact ih (i + 1) b Sx (by omega) (by omega) (⟨by first | exact Or.inr rfl | exact hb, by rw [← hE]; simp [lng, c2, c2q, c3, c4]⟩) _ _ _ hI hS (lv_sub hl [1, 2, 0] rfl)
          · skip
            refine lv_aload_n X.x X.b d_Items_lengthen_36 rfl (lv_at hl 0 rfl) ?_
            refine m_get (v := .ref (a + 1)) X ok_Items hI.1 0 (by decide) k_Items_11 rfl d_Items_lengthen_37 ?_
            refine lv_iload_n X.x X.b d_Items_lengthen_40 rfl (lv_at hl 2 rfl) ?_
            refine m_qald (v := .ref (a + 2 + i)) X 4 rfl hI.2.1 (vp_in_nI (by omega) (by decide)) (by rw [nI_clamp (lt31 (by omega))]; rfl) d_Items_lengthen_41 ?_
            refine m_callP X hS (M_Item_isNear l g hI (by omega)) v_Items_105 (hI.2.2.1 i (by omega)) rfl rfl rfl (Nat.le_of_ble_eq_true rfl) hl.1 d_Items_lengthen_42 (by omega) (by decide) ⟨Nat.zero_le _, Nat.zero_le _⟩ (fun locs hS => ?_)
            refine lv_if_ne (tgt := 60) X.x X.b d_Items_lengthen_45 (by decide) (fun c5 => ?_) (fun c5 => ?_)
            · skip
              have c5 := b2i_n0 c5
              refine lv_iinc (v := nI (i + 1)) (lv' := [(2, .int (nI (i + 1))), (0, .ref a), (1, .int b)]) X.x X.b d_Items_lengthen_60 hl (k := 2) rfl (nI_1 i) (by decide) rfl (fun ls hl => ?_)
              refine lv_goto (tgt := 4) X.x X.b d_Items_lengthen_63 (by decide) ?_
              exact ih (i + 1) b Sx (by omega) (by omega) (⟨by first | exact Or.inr rfl | exact hb, by rw [← hE]; simp [lng, c2, c2q, c3, c4, c5]⟩) _ _ _ hI hS (lv_sub hl [1, 2, 0] rfl)
            · skip
              have c5 := b2i_0.mp c5
              refine lv_aload_n X.x X.b d_Items_lengthen_48 rfl (lv_at hl 0 rfl) ?_
              refine m_get (v := .ref (a + 1)) X ok_Items hI.1 0 (by decide) k_Items_11 rfl d_Items_lengthen_49 ?_
              refine lv_iload_n X.x X.b d_Items_lengthen_52 rfl (lv_at hl 2 rfl) ?_
              refine m_qald (v := .ref (a + 2 + i)) X 4 rfl hI.2.1 (vp_in_nI (by omega) (by decide)) (by rw [nI_clamp (lt31 (by omega))]; rfl) d_Items_lengthen_53 ?_
              refine lv_iconst (v := 1) X.x X.b d_Items_lengthen_54 (by decide) ?_
              refine m_put X ok_Item hS (Or.inl ⟨by omega, by omega⟩) (hI.2.2.1 i (by omega)) 14 (by decide) k_Items_101 rfl (ok_Item.2.2.1 _ (by decide)) rfl rfl (Nat.le_of_ble_eq_true rfl) d_Items_lengthen_55 (fun H locs hp hcg hS => ?_)
              have hI := hI.pI (k := 14) (v := 1) (by omega) hp hcg (by simp [iv, sI])
              obtain ⟨S6, eS6⟩ : ∃ z, z = sI Sx 14 i 1 := ⟨_, rfl⟩
              rw [← eS6] at hI
              refine lv_iconst (v := 1) X.x X.b d_Items_lengthen_58 (by decide) ?_
              refine lv_istore_n (lv' := [(1, .int 1), (0, .ref a), (2, .int (nI i))]) X.x X.b d_Items_lengthen_59 rfl hl (by decide) rfl (fun ls hl => ?_)
              refine lv_iinc (v := nI (i + 1)) (lv' := [(2, .int (nI (i + 1))), (1, .int 1), (0, .ref a)]) X.x X.b d_Items_lengthen_60 hl (k := 2) rfl (nI_1 i) (by decide) rfl (fun ls hl => ?_)
              refine lv_goto (tgt := 4) X.x X.b d_Items_lengthen_63 (by decide) ?_
              exact ih (i + 1) 1 S6 (by omega) (by omega) (⟨by first | exact Or.inr rfl | exact hb, by rw [← hE]; simp [lng, c2, c2q, c3, c4, c5, ← eS6]⟩) _ _ _ hI hS (lv_sub hl [2, 1, 0] rfl)
  exact lp c 0 0 S (by omega) (by omega) (⟨Or.inl rfl, rfl⟩) _ _ _ hI hS (lv_sub hl [2, 1, 0] rfl)
set_option maxRecDepth 100000 in
set_option maxHeartbeats 4000000 in
theorem M_Items_firstFarLoad (l : Launch) (g : GG) {a c : Nat} {S : IS} {H0 : Heap} (hI : iAt g a c S H0) (hc : c ≤ 121) : MP l y_Items_firstFarLoad c_Items_firstFarLoad 2 (some .int) 1 g H0 [.ref a] (some (.int (ffl S c 0))) := by
  refine MM.of (by decide +kernel) (Nat.le_of_ble_eq_true rfl) ?_
  intro p e s m below meth cd X hH ls hl
  have X : CX g p s m _ meth cd c_Items_firstFarLoad 2 (some .int) R_Items _ := X
  have hl : lv_has ls 2 [(0, .ref a)] := hl
  have hS : va_S (AA (noA) H0) H0 H0 [] := va_S.rf
  refine lv_iconst (v := 0) X.x X.b d_Items_firstFarLoad_0 (by decide) ?_
  refine lv_istore_n (lv' := [(1, .int 0), (0, .ref a)]) X.x X.b d_Items_firstFarLoad_1 rfl hl (by decide) rfl (fun ls hl => ?_)
  have lp : ∀ (n i : Nat), n = c - i → i < 5000 → (ffl S n i = ffl S c 0) → ∀ (locs : List Loc) (ls : Array Slot), va_S (AA (noA) H0) H0 H0 locs → lv_has ls 2 [(0, .ref a), (1, .int (nI i))] → W p l e (rmK 1 0 0) s m ([.ref a] : List Value).toArray below meth cd H0 locs 0 0 (MQ below (QM (some (.int (ffl S c 0))) (fun H1 => H1 = H0) (noA) H0) ([.ref a] : List Value).toArray s 0 0 (AA (noA) H0)) (F0 m 2 ls []) := by
    intro n
    induction n with
    | zero =>
      intro i hin hi5 hE locs ls hS hl
      refine lv_iload_n X.x X.b d_Items_firstFarLoad_2 rfl (lv_at hl 1 rfl) ?_
      refine lv_aload_n X.x X.b d_Items_firstFarLoad_3 rfl (lv_at hl 0 rfl) ?_
      refine m_get (v := .int (nI c)) X ok_Items hI.1 1 (by decide) k_Items_18 rfl d_Items_firstFarLoad_4 ?_
      refine lv_icmp_ge (tgt := 45) X.x X.b d_Items_firstFarLoad_7 (by decide) (fun c1 => ?_) (fun c1 => ?_)
      · skip
        have c1q := Int32.not_lt.mpr c1
        refine lv_iconst (v := -1) X.x X.b d_Items_firstFarLoad_45 (by decide) ?_
        exact m_iret X hS (Nat.zero_le _) (Nat.zero_le _) d_Items_firstFarLoad_46 (by rw [← hE]; simp [ffl, c1, c1q]) rfl
      · exact absurd ((nI_leI (a := c) (b := i) (by omega) (by omega)).mpr (by omega)) c1
    | succ n ih =>
      intro i hin hi5 hE locs ls hS hl
      refine lv_iload_n X.x X.b d_Items_firstFarLoad_2 rfl (lv_at hl 1 rfl) ?_
      refine lv_aload_n X.x X.b d_Items_firstFarLoad_3 rfl (lv_at hl 0 rfl) ?_
      refine m_get (v := .int (nI c)) X ok_Items hI.1 1 (by decide) k_Items_18 rfl d_Items_firstFarLoad_4 ?_
      refine lv_icmp_ge (tgt := 45) X.x X.b d_Items_firstFarLoad_7 (by decide) (fun c2 => ?_) (fun c2 => ?_)
      · exact absurd ((nI_leI (a := c) (b := i) (by omega) (by omega)).mp c2) (by omega)
      · skip
        have c2q := Int32.not_le.mp c2
        refine lv_aload_n X.x X.b d_Items_firstFarLoad_10 rfl (lv_at hl 0 rfl) ?_
        refine m_get (v := .ref (a + 1)) X ok_Items hI.1 0 (by decide) k_Items_11 rfl d_Items_firstFarLoad_11 ?_
        refine lv_iload_n X.x X.b d_Items_firstFarLoad_14 rfl (lv_at hl 1 rfl) ?_
        refine m_qald (v := .ref (a + 2 + i)) X 4 rfl hI.2.1 (vp_in_nI (by omega) (by decide)) (by rw [nI_clamp (lt31 (by omega))]; rfl) d_Items_firstFarLoad_15 ?_
        refine m_get (v := .int (S.1 0 i)) X ok_Item (hI.2.2.1 i (by omega)) 0 (by decide) k_Items_32 rfl d_Items_firstFarLoad_16 ?_
        refine lv_iconst (v := 5) X.x X.b d_Items_firstFarLoad_19 (by decide) ?_
        refine lv_icmp_ne (tgt := 39) X.x X.b d_Items_firstFarLoad_20 (by decide) (fun c3 => ?_) (fun c3 => ?_)
        · skip
          refine lv_iinc (v := nI (i + 1)) (lv' := [(1, .int (nI (i + 1))), (0, .ref a)]) X.x X.b d_Items_firstFarLoad_39 hl (k := 1) rfl (nI_1 i) (by decide) rfl (fun ls hl => ?_)
          refine lv_goto (tgt := 2) X.x X.b d_Items_firstFarLoad_42 (by decide) ?_
          exact ih (i + 1) (by omega) (by omega) (by rw [← hE]; simp [ffl, c2, c2q, c3]) _ _ hS (lv_sub hl [1, 0] rfl)
        · skip
          refine lv_aload_n X.x X.b d_Items_firstFarLoad_23 rfl (lv_at hl 0 rfl) ?_
          refine m_get (v := .ref (a + 1)) X ok_Items hI.1 0 (by decide) k_Items_11 rfl d_Items_firstFarLoad_24 ?_
          refine lv_iload_n X.x X.b d_Items_firstFarLoad_27 rfl (lv_at hl 1 rfl) ?_
          refine m_qald (v := .ref (a + 2 + i)) X 4 rfl hI.2.1 (vp_in_nI (by omega) (by decide)) (by rw [nI_clamp (lt31 (by omega))]; rfl) d_Items_firstFarLoad_28 ?_
          refine m_callP X hS (M_Item_aboveLoad l g hI (by omega)) v_Items_108 (hI.2.2.1 i (by omega)) rfl rfl rfl (Nat.le_of_ble_eq_true rfl) hl.1 d_Items_firstFarLoad_29 (by omega) (by decide) ⟨Nat.zero_le _, Nat.zero_le _⟩ (fun locs hS => ?_)
          refine lv_bipush (v := 16) X.x X.b d_Items_firstFarLoad_32 (by decide) ?_
          refine lv_icmp_le (tgt := 39) X.x X.b d_Items_firstFarLoad_34 (by decide) (fun c4 => ?_) (fun c4 => ?_)
          · skip
            have c4q := Int32.not_lt.mpr c4
            refine lv_iinc (v := nI (i + 1)) (lv' := [(1, .int (nI (i + 1))), (0, .ref a)]) X.x X.b d_Items_firstFarLoad_39 hl (k := 1) rfl (nI_1 i) (by decide) rfl (fun ls hl => ?_)
            refine lv_goto (tgt := 2) X.x X.b d_Items_firstFarLoad_42 (by decide) ?_
            exact ih (i + 1) (by omega) (by omega) (by rw [← hE]; simp [ffl, c2, c2q, c3, c4, c4q]) _ _ hS (lv_sub hl [1, 0] rfl)
          · skip
            have c4q := Int32.not_le.mp c4
            refine lv_iload_n X.x X.b d_Items_firstFarLoad_37 rfl (lv_at hl 1 rfl) ?_
            exact m_iret X hS (Nat.zero_le _) (Nat.zero_le _) d_Items_firstFarLoad_38 (by rw [← hE]; simp [ffl, c2, c2q, c3, c4, c4q]) rfl
  exact lp c 0 (by omega) (by omega) (rfl) _ _ hS (lv_sub hl [1, 0] rfl)
set_option maxRecDepth 100000 in
set_option maxHeartbeats 4000000 in
theorem M_Items_tally (l : Launch) (g : GG) {a c : Nat} {S : IS} {H0 : Heap} (hI : iAt g a c S H0) (hc : c ≤ 121) (k : Int32) : MP l y_Items_tally c_Items_tally 4 (some .int) 2 g H0 [.ref a, .int k] (some (.int (tal S k c 0 0))) := by
  refine MM.of (by decide +kernel) (Nat.le_of_ble_eq_true rfl) ?_
  intro p e s m below meth cd X hH ls hl
  have X : CX g p s m _ meth cd c_Items_tally 4 (some .int) R_Items _ := X
  have hl : lv_has ls 4 [(0, .ref a), (1, .int k)] := hl
  have hS : va_S (AA (noA) H0) H0 H0 [] := va_S.rf
  refine lv_iconst (v := 0) X.x X.b d_Items_tally_0 (by decide) ?_
  refine lv_istore_n (lv' := [(2, .int 0), (0, .ref a), (1, .int k)]) X.x X.b d_Items_tally_1 rfl hl (by decide) rfl (fun ls hl => ?_)
  refine lv_iconst (v := 0) X.x X.b d_Items_tally_2 (by decide) ?_
  refine lv_istore_n (lv' := [(3, .int 0), (2, .int 0), (0, .ref a), (1, .int k)]) X.x X.b d_Items_tally_3 rfl hl (by decide) rfl (fun ls hl => ?_)
  have lp : ∀ (n i : Nat) (u : Int32), n = c - i → i < 5000 → (tal S k n i u = tal S k c 0 0) → ∀ (locs : List Loc) (ls : Array Slot), va_S (AA (noA) H0) H0 H0 locs → lv_has ls 4 [(0, .ref a), (1, .int k), (2, .int u), (3, .int (nI i))] → W p l e (rmK 2 0 0) s m ([.ref a, .int k] : List Value).toArray below meth cd H0 locs 0 0 (MQ below (QM (some (.int (tal S k c 0 0))) (fun H1 => H1 = H0) (noA) H0) ([.ref a, .int k] : List Value).toArray s 0 0 (AA (noA) H0)) (F0 m 4 ls []) := by
    intro n
    induction n with
    | zero =>
      intro i u hin hi5 hE locs ls hS hl
      refine lv_iload_n X.x X.b d_Items_tally_4 rfl (lv_at hl 3 rfl) ?_
      refine lv_aload_n X.x X.b d_Items_tally_5 rfl (lv_at hl 0 rfl) ?_
      refine m_get (v := .int (nI c)) X ok_Items hI.1 1 (by decide) k_Items_18 rfl d_Items_tally_6 ?_
      refine lv_icmp_ge (tgt := 31) X.x X.b d_Items_tally_9 (by decide) (fun c1 => ?_) (fun c1 => ?_)
      · skip
        have c1q := Int32.not_lt.mpr c1
        refine lv_iload_n X.x X.b d_Items_tally_31 rfl (lv_at hl 2 rfl) ?_
        exact m_iret X hS (Nat.zero_le _) (Nat.zero_le _) d_Items_tally_32 (by rw [← hE]; rfl) rfl
      · exact absurd ((nI_leI (a := c) (b := i) (by omega) (by omega)).mpr (by omega)) c1
    | succ n ih =>
      intro i u hin hi5 hE locs ls hS hl
      refine lv_iload_n X.x X.b d_Items_tally_4 rfl (lv_at hl 3 rfl) ?_
      refine lv_aload_n X.x X.b d_Items_tally_5 rfl (lv_at hl 0 rfl) ?_
      refine m_get (v := .int (nI c)) X ok_Items hI.1 1 (by decide) k_Items_18 rfl d_Items_tally_6 ?_
      refine lv_icmp_ge (tgt := 31) X.x X.b d_Items_tally_9 (by decide) (fun c2 => ?_) (fun c2 => ?_)
      · exact absurd ((nI_leI (a := c) (b := i) (by omega) (by omega)).mp c2) (by omega)
      · skip
        have c2q := Int32.not_le.mp c2
        refine lv_iload_n X.x X.b d_Items_tally_12 rfl (lv_at hl 2 rfl) ?_
        refine lv_aload_n X.x X.b d_Items_tally_13 rfl (lv_at hl 0 rfl) ?_
        refine m_get (v := .ref (a + 1)) X ok_Items hI.1 0 (by decide) k_Items_11 rfl d_Items_tally_14 ?_
        refine lv_iload_n X.x X.b d_Items_tally_17 rfl (lv_at hl 3 rfl) ?_
        refine m_qald (v := .ref (a + 2 + i)) X 4 rfl hI.2.1 (vp_in_nI (by omega) (by decide)) (by rw [nI_clamp (lt31 (by omega))]; rfl) d_Items_tally_18 ?_
        refine lv_iload_n X.x X.b d_Items_tally_19 rfl (lv_at hl 1 rfl) ?_
        refine m_callP X hS (M_Item_shareOf l g hI (by omega) k) v_Items_114 (hI.2.2.1 i (by omega)) rfl rfl rfl (Nat.le_of_ble_eq_true rfl) hl.1 d_Items_tally_20 (by omega) (by decide) ⟨Nat.zero_le _, Nat.zero_le _⟩ (fun locs hS => ?_)
        refine lv_iadd X.x X.b d_Items_tally_23 ?_
        refine lv_istore_n (lv' := [(2, .int (u + (shF S i k))), (0, .ref a), (1, .int k), (3, .int (nI i))]) X.x X.b d_Items_tally_24 rfl hl (by decide) rfl (fun ls hl => ?_)
        refine lv_iinc (v := nI (i + 1)) (lv' := [(3, .int (nI (i + 1))), (2, .int (u + (shF S i k))), (0, .ref a), (1, .int k)]) X.x X.b d_Items_tally_25 hl (k := 3) rfl (nI_1 i) (by decide) rfl (fun ls hl => ?_)
        refine lv_goto (tgt := 4) X.x X.b d_Items_tally_28 (by decide) ?_
        exact ih (i + 1) (u + (shF S i k)) (by omega) (by omega) (by rw [← hE]; simp [tal, c2, c2q]) _ _ hS (lv_sub hl [2, 3, 1, 0] rfl)
  exact lp c 0 0 (by omega) (by omega) (rfl) _ _ hS (lv_sub hl [2, 3, 1, 0] rfl)
set_option maxRecDepth 100000 in
set_option maxHeartbeats 4000000 in
theorem M_Items_holderOf (l : Launch) (g : GG) {a c : Nat} {S : IS} {H0 : Heap} (hI : iAt g a c S H0) (hc : c ≤ 121) (ad : Int32) : MP l y_Items_holderOf c_Items_holderOf 4 (some .int) 0 g H0 [.ref a, .int ad] (some (.int (hof S ad c 0))) := by
  refine MM.of (by decide +kernel) (Nat.le_of_ble_eq_true rfl) ?_
  intro p e s m below meth cd X hH ls hl
  have X : CX g p s m _ meth cd c_Items_holderOf 4 (some .int) R_Items _ := X
  have hl : lv_has ls 4 [(0, .ref a), (1, .int ad)] := hl
  have hS : va_S (AA (noA) H0) H0 H0 [] := va_S.rf
  refine lv_iconst (v := 0) X.x X.b d_Items_holderOf_0 (by decide) ?_
  refine lv_istore_n (lv' := [(2, .int 0), (0, .ref a), (1, .int ad)]) X.x X.b d_Items_holderOf_1 rfl hl (by decide) rfl (fun ls hl => ?_)
  have lp : ∀ (n i : Nat), n = c - i → i < 5000 → (hof S ad n i = hof S ad c 0) → ∀ (locs : List Loc) (ls : Array Slot), va_S (AA (noA) H0) H0 H0 locs → lv_has ls 4 [(0, .ref a), (1, .int ad), (2, .int (nI i))] → W p l e (rmK 0 0 0) s m ([.ref a, .int ad] : List Value).toArray below meth cd H0 locs 0 0 (MQ below (QM (some (.int (hof S ad c 0))) (fun H1 => H1 = H0) (noA) H0) ([.ref a, .int ad] : List Value).toArray s 0 0 (AA (noA) H0)) (F0 m 2 ls []) := by
    intro n
    induction n with
    | zero =>
      intro i hin hi5 hE locs ls hS hl
      refine lv_iload_n X.x X.b d_Items_holderOf_2 rfl (lv_at hl 2 rfl) ?_
      refine lv_aload_n X.x X.b d_Items_holderOf_3 rfl (lv_at hl 0 rfl) ?_
      refine m_get (v := .int (nI c)) X ok_Items hI.1 1 (by decide) k_Items_18 rfl d_Items_holderOf_4 ?_
      refine lv_icmp_ge (tgt := 48) X.x X.b d_Items_holderOf_7 (by decide) (fun c1 => ?_) (fun c1 => ?_)
      · skip
        have c1q := Int32.not_lt.mpr c1
        refine lv_iconst (v := -1) X.x X.b d_Items_holderOf_48 (by decide) ?_
        exact m_iret X hS (Nat.zero_le _) (Nat.zero_le _) d_Items_holderOf_49 (by rw [← hE]; simp [hof, c1, c1q]) rfl
      · exact absurd ((nI_leI (a := c) (b := i) (by omega) (by omega)).mpr (by omega)) c1
    | succ n ih =>
      intro i hin hi5 hE locs ls hS hl
      refine lv_iload_n X.x X.b d_Items_holderOf_2 rfl (lv_at hl 2 rfl) ?_
      refine lv_aload_n X.x X.b d_Items_holderOf_3 rfl (lv_at hl 0 rfl) ?_
      refine m_get (v := .int (nI c)) X ok_Items hI.1 1 (by decide) k_Items_18 rfl d_Items_holderOf_4 ?_
      refine lv_icmp_ge (tgt := 48) X.x X.b d_Items_holderOf_7 (by decide) (fun c2 => ?_) (fun c2 => ?_)
      · exact absurd ((nI_leI (a := c) (b := i) (by omega) (by omega)).mp c2) (by omega)
      · skip
        have c2q := Int32.not_le.mp c2
        refine lv_aload_n X.x X.b d_Items_holderOf_10 rfl (lv_at hl 0 rfl) ?_
        refine m_get (v := .ref (a + 1)) X ok_Items hI.1 0 (by decide) k_Items_11 rfl d_Items_holderOf_11 ?_
        refine lv_iload_n X.x X.b d_Items_holderOf_14 rfl (lv_at hl 2 rfl) ?_
        refine m_qald (v := .ref (a + 2 + i)) X 4 rfl hI.2.1 (vp_in_nI (by omega) (by decide)) (by rw [nI_clamp (lt31 (by omega))]; rfl) d_Items_holderOf_15 ?_
        refine m_get (v := .int (S.1 12 i)) X ok_Item (hI.2.2.1 i (by omega)) 12 (by decide) k_Items_85 rfl d_Items_holderOf_16 ?_
        refine lv_istore_n (lv' := [(3, .int (S.1 12 i)), (0, .ref a), (1, .int ad), (2, .int (nI i))]) X.x X.b d_Items_holderOf_19 rfl hl (by decide) rfl (fun ls hl => ?_)
        refine lv_iload_n X.x X.b d_Items_holderOf_20 rfl (lv_at hl 2 rfl) ?_
        refine lv_iload_n X.x X.b d_Items_holderOf_21 rfl (lv_at hl 0 rfl) ?_
        refine lv_icmp_lt (tgt := 42) X.x X.b d_Items_holderOf_22 (by decide) (fun c3 => ?_) (fun c3 => ?_)
        · skip
          have c3q := Int32.not_le.mpr c3
          refine lv_iinc (v := nI (i + 1)) (lv' := [(2, .int (nI (i + 1))), (3, .int (S.1 12 i)), (0, .ref a), (1, .int ad)]) X.x X.b d_Items_holderOf_42 hl (k := 3) rfl (nI_1 i) (by decide) rfl (fun ls hl => ?_)
          refine lv_goto (tgt := 2) X.x X.b d_Items_holderOf_45 (by decide) ?_
          exact ih (i + 1) (by omega) (by omega) (by rw [← hE]; simp [hof, c2, c2q, c3, c3q]) _ _ hS (lv_sub hl [2, 3, 0] rfl)
        · skip
          have c3q := Int32.not_lt.mp c3
          refine lv_iload_n X.x X.b d_Items_holderOf_25 rfl (lv_at hl 2 rfl) ?_
          refine lv_iload_n X.x X.b d_Items_holderOf_26 rfl (lv_at hl 0 rfl) ?_
          refine lv_aload_n X.x X.b d_Items_holderOf_27 rfl (lv_at hl 1 rfl) ?_
          refine m_get (v := .ref (a + 1)) X ok_Items hI.1 0 (by decide) k_Items_11 rfl d_Items_holderOf_28 ?_
          refine lv_iload_n X.x X.b d_Items_holderOf_31 rfl (lv_at hl 3 rfl) ?_
          refine m_qald (v := .ref (a + 2 + i)) X 4 rfl hI.2.1 (vp_in_nI (by omega) (by decide)) (by rw [nI_clamp (lt31 (by omega))]; rfl) d_Items_holderOf_32 ?_
          refine m_get (v := .int (S.1 13 i)) X ok_Item (hI.2.2.1 i (by omega)) 13 (by decide) k_Items_92 rfl d_Items_holderOf_33 ?_
          refine lv_iadd X.x X.b d_Items_holderOf_36 ?_
          refine lv_icmp_ge (tgt := 42) X.x X.b d_Items_holderOf_37 (by decide) (fun c4 => ?_) (fun c4 => ?_)
          · skip
            have c4q := Int32.not_lt.mpr c4
            refine lv_iinc (v := nI (i + 1)) (lv' := [(2, .int (nI (i + 1))), (3, .int (S.1 12 i)), (0, .ref a), (1, .int ad)]) X.x X.b d_Items_holderOf_42 hl (k := 3) rfl (nI_1 i) (by decide) rfl (fun ls hl => ?_)
            refine lv_goto (tgt := 2) X.x X.b d_Items_holderOf_45 (by decide) ?_
            exact ih (i + 1) (by omega) (by omega) (by rw [← hE]; simp [hof, c2, c2q, c3, c3q, c4, c4q]) _ _ hS (lv_sub hl [2, 3, 0] rfl)
          · skip
            have c4q := Int32.not_le.mp c4
            refine lv_iload_n X.x X.b d_Items_holderOf_40 rfl (lv_at hl 3 rfl) ?_
            exact m_iret X hS (Nat.zero_le _) (Nat.zero_le _) d_Items_holderOf_41 (by rw [← hE]; simp [hof, c2, c2q, c3, c3q, c4, c4q]) rfl
  exact lp c 0 (by omega) (by omega) (rfl) _ _ hS (lv_sub hl [1, 2, 0] rfl)
set_option maxRecDepth 100000 in
set_option maxHeartbeats 4000000 in
theorem M_Items_firstWith (l : Launch) (g : GG) {a c : Nat} {S : IS} {H0 : Heap} (hI : iAt g a c S H0) (hc : c ≤ 121) (ad : Int32) : MP l y_Items_firstWith c_Items_firstWith 3 (some .int) 1 g H0 [.ref a, .int ad] (some (.int (fwF S c ad))) := by
  refine MM.of (by decide +kernel) (Nat.le_of_ble_eq_true rfl) ?_
  intro p e s m below meth cd X hH ls hl
  have X : CX g p s m _ meth cd c_Items_firstWith 3 (some .int) R_Items _ := X
  have hl : lv_has ls 3 [(0, .ref a), (1, .int ad)] := hl
  have hS : va_S (AA (noA) H0) H0 H0 [] := va_S.rf
  refine lv_aload_n X.x X.b d_Items_firstWith_0 rfl (lv_at hl 0 rfl) ?_
  refine lv_iload_n X.x X.b d_Items_firstWith_1 rfl (lv_at hl 1 rfl) ?_
  refine m_callP X hS (M_Items_holderOf l g hI hc ad) v_Items_117 hI.1 rfl rfl rfl (Nat.le_of_ble_eq_true rfl) hl.1 d_Items_firstWith_2 (by omega) (by decide) ⟨Nat.zero_le _, Nat.zero_le _⟩ (fun locs hS => ?_)
  refine lv_iconst (v := -1) X.x X.b d_Items_firstWith_5 (by decide) ?_
  refine lv_icmp_ne (tgt := 11) X.x X.b d_Items_firstWith_6 (by decide) (fun c1 => ?_) (fun c1 => ?_)
  · skip
    refine lv_iconst (v := 0) X.x X.b d_Items_firstWith_11 (by decide) ?_
    refine lv_istore_n (lv' := [(2, .int 0), (0, .ref a), (1, .int ad)]) X.x X.b d_Items_firstWith_12 rfl hl (by decide) rfl (fun ls hl => ?_)
    have lp : ∀ (n i : Nat), n = c - i → i < 5000 → (fwl S ad n i = fwl S ad c 0) → ∀ (locs : List Loc) (ls : Array Slot), va_S (AA (noA) H0) H0 H0 locs → lv_has ls 3 [(0, .ref a), (1, .int ad), (2, .int (nI i))] → W p l e (rmK 1 0 0) s m ([.ref a, .int ad] : List Value).toArray below meth cd H0 locs 0 0 (MQ below (QM (some (.int (fwF S c ad))) (fun H1 => H1 = H0) (noA) H0) ([.ref a, .int ad] : List Value).toArray s 0 0 (AA (noA) H0)) (F0 m 13 ls []) := by
      intro n
      induction n with
      | zero =>
        intro i hin hi5 hE locs ls hS hl
        refine lv_iload_n X.x X.b d_Items_firstWith_13 rfl (lv_at hl 2 rfl) ?_
        refine lv_aload_n X.x X.b d_Items_firstWith_14 rfl (lv_at hl 0 rfl) ?_
        refine m_get (v := .int (nI c)) X ok_Items hI.1 1 (by decide) k_Items_18 rfl d_Items_firstWith_15 ?_
        refine lv_icmp_ge (tgt := 42) X.x X.b d_Items_firstWith_18 (by decide) (fun c2 => ?_) (fun c2 => ?_)
        · skip
          have c2q := Int32.not_lt.mpr c2
          refine lv_iconst (v := -1) X.x X.b d_Items_firstWith_42 (by decide) ?_
          exact m_iret X hS (Nat.zero_le _) (Nat.zero_le _) d_Items_firstWith_43 (by first | (unfold fwF; rw [if_neg c1, ← hE]; simp [fwl, c1, c2, c2q]) | simp [fwF, c1, c2, c2q]) rfl
        · exact absurd ((nI_leI (a := c) (b := i) (by omega) (by omega)).mpr (by omega)) c2
      | succ n ih =>
        intro i hin hi5 hE locs ls hS hl
        refine lv_iload_n X.x X.b d_Items_firstWith_13 rfl (lv_at hl 2 rfl) ?_
        refine lv_aload_n X.x X.b d_Items_firstWith_14 rfl (lv_at hl 0 rfl) ?_
        refine m_get (v := .int (nI c)) X ok_Items hI.1 1 (by decide) k_Items_18 rfl d_Items_firstWith_15 ?_
        refine lv_icmp_ge (tgt := 42) X.x X.b d_Items_firstWith_18 (by decide) (fun c3 => ?_) (fun c3 => ?_)
        · exact absurd ((nI_leI (a := c) (b := i) (by omega) (by omega)).mp c3) (by omega)
        · skip
          have c3q := Int32.not_le.mp c3
          refine lv_aload_n X.x X.b d_Items_firstWith_21 rfl (lv_at hl 0 rfl) ?_
          refine m_get (v := .ref (a + 1)) X ok_Items hI.1 0 (by decide) k_Items_11 rfl d_Items_firstWith_22 ?_
          refine lv_iload_n X.x X.b d_Items_firstWith_25 rfl (lv_at hl 2 rfl) ?_
          refine m_qald (v := .ref (a + 2 + i)) X 4 rfl hI.2.1 (vp_in_nI (by omega) (by decide)) (by rw [nI_clamp (lt31 (by omega))]; rfl) d_Items_firstWith_26 ?_
          refine m_get (v := .int (S.1 12 i)) X ok_Item (hI.2.2.1 i (by omega)) 12 (by decide) k_Items_85 rfl d_Items_firstWith_27 ?_
          refine lv_iload_n X.x X.b d_Items_firstWith_30 rfl (lv_at hl 1 rfl) ?_
          refine lv_icmp_ne (tgt := 36) X.x X.b d_Items_firstWith_31 (by decide) (fun c4 => ?_) (fun c4 => ?_)
          · skip
            refine lv_iinc (v := nI (i + 1)) (lv' := [(2, .int (nI (i + 1))), (0, .ref a), (1, .int ad)]) X.x X.b d_Items_firstWith_36 hl (k := 2) rfl (nI_1 i) (by decide) rfl (fun ls hl => ?_)
            refine lv_goto (tgt := 13) X.x X.b d_Items_firstWith_39 (by decide) ?_
            exact ih (i + 1) (by omega) (by omega) (by rw [← hE]; simp [fwl, c1, c3, c3q, c4]) _ _ hS (lv_sub hl [1, 2, 0] rfl)
          · skip
            refine lv_iload_n X.x X.b d_Items_firstWith_34 rfl (lv_at hl 2 rfl) ?_
            exact m_iret X hS (Nat.zero_le _) (Nat.zero_le _) d_Items_firstWith_35 (by first | (unfold fwF; rw [if_neg c1, ← hE]; simp [fwl, c1, c3, c3q, c4]) | simp [fwF, c1, c3, c3q, c4]) rfl
    exact lp c 0 (by omega) (by omega) (rfl) _ _ hS (lv_sub hl [1, 2, 0] rfl)
  · skip
    refine lv_iconst (v := -1) X.x X.b d_Items_firstWith_9 (by decide) ?_
    exact m_iret X hS (Nat.zero_le _) (Nat.zero_le _) d_Items_firstWith_10 (by first | (unfold fwF; rw [if_neg c1, ← hE]; simp [fwl, c1]) | simp [fwF, c1]) rfl
set_option maxRecDepth 100000 in
set_option maxHeartbeats 4000000 in
theorem M_Items_wordOfPool (l : Launch) (g : GG) {a c : Nat} {S : IS} {H0 : Heap} (hI : iAt g a c S H0) (hc : c ≤ 121) {q : Nat} (hq : q < 121) (k : Int32) : MP l y_Items_wordOfPool c_Items_wordOfPool 4 (some .int) 0 g H0 [.ref a, .ref (a + 2 + q), .int k] (some (.int (wop S q k c 0))) := by
  refine MM.of (by decide +kernel) (Nat.le_of_ble_eq_true rfl) ?_
  intro p e s m below meth cd X hH ls hl
  have X : CX g p s m _ meth cd c_Items_wordOfPool 4 (some .int) R_Items _ := X
  have hl : lv_has ls 4 [(0, .ref a), (1, .ref (a + 2 + q)), (2, .int k)] := hl
  have hS : va_S (AA (noA) H0) H0 H0 [] := va_S.rf
  refine lv_iconst (v := 0) X.x X.b d_Items_wordOfPool_0 (by decide) ?_
  refine lv_istore_n (lv' := [(3, .int 0), (0, .ref a), (1, .ref (a + 2 + q)), (2, .int k)]) X.x X.b d_Items_wordOfPool_1 rfl hl (by decide) rfl (fun ls hl => ?_)
  have lp : ∀ (n i : Nat), n = c - i → i < 5000 → (wop S q k n i = wop S q k c 0) → ∀ (locs : List Loc) (ls : Array Slot), va_S (AA (noA) H0) H0 H0 locs → lv_has ls 4 [(0, .ref a), (1, .ref (a + 2 + q)), (2, .int k), (3, .int (nI i))] → W p l e (rmK 0 0 0) s m ([.ref a, .ref (a + 2 + q), .int k] : List Value).toArray below meth cd H0 locs 0 0 (MQ below (QM (some (.int (wop S q k c 0))) (fun H1 => H1 = H0) (noA) H0) ([.ref a, .ref (a + 2 + q), .int k] : List Value).toArray s 0 0 (AA (noA) H0)) (F0 m 2 ls []) := by
    intro n
    induction n with
    | zero =>
      intro i hin hi5 hE locs ls hS hl
      refine lv_iload_n X.x X.b d_Items_wordOfPool_2 rfl (lv_at hl 3 rfl) ?_
      refine lv_aload_n X.x X.b d_Items_wordOfPool_3 rfl (lv_at hl 0 rfl) ?_
      refine m_get (v := .int (nI c)) X ok_Items hI.1 1 (by decide) k_Items_18 rfl d_Items_wordOfPool_4 ?_
      refine lv_icmp_ge (tgt := 52) X.x X.b d_Items_wordOfPool_7 (by decide) (fun c1 => ?_) (fun c1 => ?_)
      · skip
        have c1q := Int32.not_lt.mpr c1
        refine lv_iconst (v := 0) X.x X.b d_Items_wordOfPool_52 (by decide) ?_
        exact m_iret X hS (Nat.zero_le _) (Nat.zero_le _) d_Items_wordOfPool_53 (by rw [← hE]; simp [wop, c1, c1q]) rfl
      · exact absurd ((nI_leI (a := c) (b := i) (by omega) (by omega)).mpr (by omega)) c1
    | succ n ih =>
      intro i hin hi5 hE locs ls hS hl
      refine lv_iload_n X.x X.b d_Items_wordOfPool_2 rfl (lv_at hl 3 rfl) ?_
      refine lv_aload_n X.x X.b d_Items_wordOfPool_3 rfl (lv_at hl 0 rfl) ?_
      refine m_get (v := .int (nI c)) X ok_Items hI.1 1 (by decide) k_Items_18 rfl d_Items_wordOfPool_4 ?_
      refine lv_icmp_ge (tgt := 52) X.x X.b d_Items_wordOfPool_7 (by decide) (fun c2 => ?_) (fun c2 => ?_)
      · exact absurd ((nI_leI (a := c) (b := i) (by omega) (by omega)).mp c2) (by omega)
      · skip
        have c2q := Int32.not_le.mp c2
        refine lv_aload_n X.x X.b d_Items_wordOfPool_10 rfl (lv_at hl 0 rfl) ?_
        refine m_get (v := .ref (a + 1)) X ok_Items hI.1 0 (by decide) k_Items_11 rfl d_Items_wordOfPool_11 ?_
        refine lv_iload_n X.x X.b d_Items_wordOfPool_14 rfl (lv_at hl 3 rfl) ?_
        refine m_qald (v := .ref (a + 2 + i)) X 4 rfl hI.2.1 (vp_in_nI (by omega) (by decide)) (by rw [nI_clamp (lt31 (by omega))]; rfl) d_Items_wordOfPool_15 ?_
        rcases o3 : S.2 9 i with _ | j4
        · skip
          refine m_get (v := .null) X ok_Item (hI.2.2.1 i (by omega)) 9 (by decide) k_Items_82 (by simp [iv, ir_n, ir_s, o3]) d_Items_wordOfPool_16 ?_
          refine lv_aload_n X.x X.b d_Items_wordOfPool_19 rfl (lv_at hl 1 rfl) ?_
          refine lv_acmp_ne (rx := none) (ry := (some (a + 2 + q))) (tgt := 46) X.x X.b d_Items_wordOfPool_20 (by decide) (fun c5 => ?_) (fun c5 => ?_)
          · skip
            refine lv_iinc (v := nI (i + 1)) (lv' := [(3, .int (nI (i + 1))), (0, .ref a), (1, .ref (a + 2 + q)), (2, .int k)]) X.x X.b d_Items_wordOfPool_46 hl (k := 3) rfl (nI_1 i) (by decide) rfl (fun ls hl => ?_)
            refine lv_goto (tgt := 2) X.x X.b d_Items_wordOfPool_49 (by decide) ?_
            exact ih (i + 1) (by omega) (by omega) (by rw [← hE]; simp [wop, c2, c2q, o3]) _ _ hS (lv_sub hl [1, 2, 3, 0] rfl)
          · skip
            exact absurd c5 (by simp)
        · skip
          refine m_get (v := .ref (a + 2 + j4)) X ok_Item (hI.2.2.1 i (by omega)) 9 (by decide) k_Items_82 (by simp [iv, ir_n, ir_s, o3]) d_Items_wordOfPool_16 ?_
          refine lv_aload_n X.x X.b d_Items_wordOfPool_19 rfl (lv_at hl 1 rfl) ?_
          refine lv_acmp_ne (rx := (some (a + 2 + j4))) (ry := (some (a + 2 + q))) (tgt := 46) X.x X.b d_Items_wordOfPool_20 (by decide) (fun c6 => ?_) (fun c6 => ?_)
          · skip
            have c6 : ¬ j4 = q := fun z => c6 (by rw [z])
            refine lv_iinc (v := nI (i + 1)) (lv' := [(3, .int (nI (i + 1))), (0, .ref a), (1, .ref (a + 2 + q)), (2, .int k)]) X.x X.b d_Items_wordOfPool_46 hl (k := 3) rfl (nI_1 i) (by decide) rfl (fun ls hl => ?_)
            refine lv_goto (tgt := 2) X.x X.b d_Items_wordOfPool_49 (by decide) ?_
            exact ih (i + 1) (by omega) (by omega) (by rw [← hE]; simp [wop, c2, c2q, o3, c6]) _ _ hS (lv_sub hl [1, 2, 3, 0] rfl)
          · skip
            have c6 : q = j4 := by have := Option.some.inj c6; omega
            subst c6
            refine lv_aload_n X.x X.b d_Items_wordOfPool_23 rfl (lv_at hl 0 rfl) ?_
            refine m_get (v := .ref (a + 1)) X ok_Items hI.1 0 (by decide) k_Items_11 rfl d_Items_wordOfPool_24 ?_
            refine lv_iload_n X.x X.b d_Items_wordOfPool_27 rfl (lv_at hl 3 rfl) ?_
            refine m_qald (v := .ref (a + 2 + i)) X 4 rfl hI.2.1 (vp_in_nI (by omega) (by decide)) (by rw [nI_clamp (lt31 (by omega))]; rfl) d_Items_wordOfPool_28 ?_
            refine m_get (v := .int (S.1 10 i)) X ok_Item (hI.2.2.1 i (by omega)) 10 (by decide) k_Items_69 rfl d_Items_wordOfPool_29 ?_
            refine lv_iload_n X.x X.b d_Items_wordOfPool_32 rfl (lv_at hl 2 rfl) ?_
            refine lv_icmp_ne (tgt := 46) X.x X.b d_Items_wordOfPool_33 (by decide) (fun c7 => ?_) (fun c7 => ?_)
            · skip
              refine lv_iinc (v := nI (i + 1)) (lv' := [(3, .int (nI (i + 1))), (0, .ref a), (1, .ref (a + 2 + q)), (2, .int k)]) X.x X.b d_Items_wordOfPool_46 hl (k := 3) rfl (nI_1 i) (by decide) rfl (fun ls hl => ?_)
              refine lv_goto (tgt := 2) X.x X.b d_Items_wordOfPool_49 (by decide) ?_
              exact ih (i + 1) (by omega) (by omega) (by rw [← hE]; simp [wop, c2, c2q, o3, c7]) _ _ hS (lv_sub hl [1, 2, 3, 0] rfl)
            · skip
              refine lv_aload_n X.x X.b d_Items_wordOfPool_36 rfl (lv_at hl 0 rfl) ?_
              refine m_get (v := .ref (a + 1)) X ok_Items hI.1 0 (by decide) k_Items_11 rfl d_Items_wordOfPool_37 ?_
              refine lv_iload_n X.x X.b d_Items_wordOfPool_40 rfl (lv_at hl 3 rfl) ?_
              refine m_qald (v := .ref (a + 2 + i)) X 4 rfl hI.2.1 (vp_in_nI (by omega) (by decide)) (by rw [nI_clamp (lt31 (by omega))]; rfl) d_Items_wordOfPool_41 ?_
              refine m_get (v := .int (S.1 3 i)) X ok_Item (hI.2.2.1 i (by omega)) 3 (by decide) k_Items_79 rfl d_Items_wordOfPool_42 ?_
              exact m_iret X hS (Nat.zero_le _) (Nat.zero_le _) d_Items_wordOfPool_45 (by rw [← hE]; simp [wop, c2, c2q, o3, c7]) rfl
  exact lp c 0 (by omega) (by omega) (rfl) _ _ hS (lv_sub hl [1, 2, 3, 0] rfl)
