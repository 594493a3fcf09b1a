set_option maxRecDepth 100000 in
set_option maxHeartbeats 4000000 in
theorem M_Row_insert (l : Launch) (g : GG) {b cap c : Nat} {f : Nat → Nat} {H0 : Heap} (hR : rAt g b cap c f H0) (hcap : cap ≤ 60) (hcc : c ≤ cap) (hln : ∀ i, i < c → isLn g (f i) H0 ∧ offR b (f i)) {t ln : Nat} (ht : t ≤ c) (hc1 : c < cap) (hl2 : isLn g ln H0) (hlo : offR b ln) : MM l y_Row_insert c_Row_insert 4 none 0 0 0 g H0 [.ref b, .int (nI t), .ref ln] (rF b) (none) (fun H1 => rAt g b cap (c + 1) (insF f t ln) H1) := by
  refine MM.of (by decide +kernel) (Nat.le_of_ble_eq_true rfl) ?_
  intro p e s m below meth cd X hH ls hl
  have X : CX g p s m _ meth cd c_Row_insert 4 none R_Row _ := X
  have hl : lv_has ls 4 [(0, .ref b), (1, .int (nI t)), (2, .ref ln)] := hl
  have hS : va_S (AA (rF b) H0) H0 H0 [] := va_S.rf
  obtain ⟨hR1, F, hRa, hF⟩ := hR
  obtain ⟨vl, hl2⟩ := hl2
  obtain ⟨vf, hv⟩ : ∃ vf : Nat → List Value, ∀ i, i < c → pt g (f i) (.inr (ci_Line, vf i)) H0 := ⟨fun i => if h : i < c then (hln i h).1.choose else [], fun i h => by show pt g (f i) (.inr (ci_Line, if h : i < c then (hln i h).1.choose else [])) H0; rw [dif_pos h]; exact (hln i h).1.choose_spec⟩
  refine lv_aload_n X.x X.b d_Row_insert_0 rfl (lv_at hl 0 rfl) ?_
  refine m_get (v := .int (nI c)) X ok_Row hR1 1 (by decide) k_Row_21 rfl d_Row_insert_1 ?_
  refine lv_aload_n X.x X.b d_Row_insert_4 rfl (lv_at hl 0 rfl) ?_
  refine m_get (v := .ref (b + 1)) X ok_Row hR1 0 (by decide) k_Row_15 rfl d_Row_insert_5 ?_
  refine m_alen (v := nI cap) X 2 rfl hRa rfl d_Row_insert_8 ?_
  refine lv_icmp_ge (tgt := 24) X.x X.b d_Row_insert_9 (by decide) (fun c1 => ?_) (fun c1 => ?_)
  · exact absurd c1 (nI_ge (by omega) (by omega))
  · skip
    have c1q := Int32.not_le.mp c1
    refine lv_iload_n X.x X.b d_Row_insert_12 rfl (lv_at hl 1 rfl) ?_
    refine lv_if_lt (tgt := 24) X.x X.b d_Row_insert_13 (by decide) (fun c2 => ?_) (fun c2 => ?_)
    · exact absurd c2 (nI_pos (by omega))
    · skip
      have c2q := Int32.not_lt.mp c2
      refine lv_iload_n X.x X.b d_Row_insert_16 rfl (lv_at hl 1 rfl) ?_
      refine lv_aload_n X.x X.b d_Row_insert_17 rfl (lv_at hl 0 rfl) ?_
      refine m_get (v := .int (nI c)) X ok_Row hR1 1 (by decide) k_Row_21 rfl d_Row_insert_18 ?_
      refine lv_icmp_le (tgt := 25) X.x X.b d_Row_insert_21 (by decide) (fun c3 => ?_) (fun c3 => ?_)
      · skip
        have c3q := Int32.not_lt.mpr c3
        refine lv_aload_n X.x X.b d_Row_insert_25 rfl (lv_at hl 0 rfl) ?_
        refine m_get (v := .int (nI c)) X ok_Row hR1 1 (by decide) k_Row_21 rfl d_Row_insert_26 ?_
        refine lv_istore_n (lv' := [(3, .int (nI c)), (0, .ref b), (1, .int (nI t)), (2, .ref ln)]) X.x X.b d_Row_insert_29 rfl hl (by decide) rfl (fun ls hl => ?_)
        have lp : ∀ (n : Nat), t + n ≤ c → ∀ (F : Nat → Option Nat) (H : Heap) (locs : List Loc) (ls : Array Slot), (∀ x, x < t + n → F x = some (f x)) → (∀ x, t + n < x → x ≤ c → F x = some (f (x - 1))) → pt g b (.inr (ci_Row, [.ref (b + 1), .int (nI c)])) H → pt g (b + 1) (qarr (g.2 2) cap F) H → (∀ i, i < c → pt g (f i) (.inr (ci_Line, vf i)) H) → pt g ln (.inr (ci_Line, vl)) H → va_S (AA (rF b) H0) H0 H locs → lv_has ls 4 [(0, .ref b), (1, .int (nI t)), (2, .ref ln), (3, .int (nI (t + n)))] → W p l e (rmK 0 0 0) s m ([.ref b, .int (nI t), .ref ln] : List Value).toArray below meth cd H locs 0 0 (MQ below (QM (none) (fun H1 => rAt g b cap (c + 1) (insF f t ln) H1) (rF b) H0) ([.ref b, .int (nI t), .ref ln] : List Value).toArray s 0 0 (AA (rF b) H0)) (F0 m 30 ls []) := by
          intro n
          induction n with
          | zero =>
            intro hn F H locs ls hF hG hR1 hRa hv hl2 hS hl
            have hl : lv_has ls 4 [(0, .ref b), (1, .int (nI t)), (2, .ref ln), (3, .int (nI t))] := hl
            refine lv_iload_n X.x X.b d_Row_insert_30 rfl (lv_at hl 3 rfl) ?_
            refine lv_iload_n X.x X.b d_Row_insert_31 rfl (lv_at hl 1 rfl) ?_
            refine lv_icmp_le (tgt := 55) X.x X.b d_Row_insert_32 (by decide) (fun c4 => ?_) (fun c4 => ?_)
            · skip
              have c4q := Int32.not_lt.mpr c4
              refine lv_aload_n X.x X.b d_Row_insert_55 rfl (lv_at hl 0 rfl) ?_
              refine m_get (v := .ref (b + 1)) X ok_Row hR1 0 (by decide) k_Row_15 rfl d_Row_insert_56 ?_
              refine lv_iload_n X.x X.b d_Row_insert_59 rfl (lv_at hl 1 rfl) ?_
              refine lv_aload_n X.x X.b d_Row_insert_60 rfl (lv_at hl 2 rfl) ?_
              refine m_qast X hS (Or.inl ⟨by omega, by omega⟩) 2 ci_Line rfl hRa hl2 rfl (vp_in_nI (by omega) (by omega)) d_Row_insert_61 (fun H locs hp hcg hS => ?_)
              rw [nI_clamp (by omega)] at hp
              have hR1 := hR1.off hcg (by omega)
              have hRa := hp
              have hv := fun i hi => (hv i hi).off hcg (by have := (hln i hi).2; unfold offR at this; omega)
              have hl2 := hl2.off hcg (by unfold offR at hlo; omega)
              refine lv_aload_n X.x X.b d_Row_insert_62 rfl (lv_at hl 0 rfl) ?_
              refine lv_dup X.x X.b d_Row_insert_63 rfl ?_
              refine m_get (v := .int (nI c)) X ok_Row hR1 1 (by decide) k_Row_21 rfl d_Row_insert_64 ?_
              refine lv_iconst (v := 1) X.x X.b d_Row_insert_67 (by decide) ?_
              refine lv_iadd X.x X.b d_Row_insert_68 ?_
              refine m_put X ok_Row hS (Or.inl ⟨by omega, by omega⟩) hR1 1 (by decide) k_Row_21 rfl (ok_Row.2.2.1 _ (by decide)) rfl rfl (Nat.le_of_ble_eq_true rfl) d_Row_insert_69 (fun H locs hp hcg hS => ?_)
              have hR1 : pt g b (.inr (ci_Row, [.ref (b + 1), .int (nI (c + 1))])) H := by have hp2 := hp; rw [show ((nI c) + 1 : Int32) = nI (c + 1) from (nI_1 c)] at hp2; exact hp2
              have hRa := hRa.off hcg (by omega)
              have hv := fun i hi => (hv i hi).off hcg (by have := (hln i hi).2; unfold offR at this; omega)
              have hl2 := hl2.off hcg (by unfold offR at hlo; omega)
              exact m_vret X hS (Nat.zero_le _) (Nat.zero_le _) d_Row_insert_72 rfl ⟨hR1, _, hRa, fun x hx => by simp only [insF]; by_cases z : x = t <;> by_cases z2 : x < t <;> simp only [va_up, z, z2, if_true, if_false] <;> first | rfl | omega | exact hF x (by omega) | (rw [if_neg (by omega)]; exact hG x (by omega) (by omega)) | exact hG x (by omega) (by omega) | (simp; done)⟩
            · exact absurd (nI_le (Nat.le_refl _) (by omega)) c4
          | succ n ih =>
            intro hn F H locs ls hF hG hR1 hRa hv hl2 hS hl
            have hl : lv_has ls 4 [(0, .ref b), (1, .int (nI t)), (2, .ref ln), (3, .int (nI (t + n + 1)))] := hl
            refine lv_iload_n X.x X.b d_Row_insert_30 rfl (lv_at hl 3 rfl) ?_
            refine lv_iload_n X.x X.b d_Row_insert_31 rfl (lv_at hl 1 rfl) ?_
            refine lv_icmp_le (tgt := 55) X.x X.b d_Row_insert_32 (by decide) (fun c5 => ?_) (fun c5 => ?_)
            · exact absurd c5 (nI_ge (by omega) (by omega))
            · skip
              have c5q := Int32.not_le.mp c5
              refine lv_aload_n X.x X.b d_Row_insert_35 rfl (lv_at hl 0 rfl) ?_
              refine m_get (v := .ref (b + 1)) X ok_Row hR1 0 (by decide) k_Row_15 rfl d_Row_insert_36 ?_
              refine lv_iload_n X.x X.b d_Row_insert_39 rfl (lv_at hl 3 rfl) ?_
              refine lv_aload_n X.x X.b d_Row_insert_40 rfl (lv_at hl 0 rfl) ?_
              refine m_get (v := .ref (b + 1)) X ok_Row hR1 0 (by decide) k_Row_15 rfl d_Row_insert_41 ?_
              refine lv_iload_n X.x X.b d_Row_insert_44 rfl (lv_at hl 3 rfl) ?_
              refine lv_iconst (v := 1) X.x X.b d_Row_insert_45 (by decide) ?_
              refine lv_isub X.x X.b d_Row_insert_46 ?_
              refine lv_topi (fun z ez => ?_)
              rw [nI_pred] at ez
              subst ez
              refine m_qald (v := .ref (f (t + n))) X 2 rfl hRa (vp_in_nI (by omega) (by omega)) (by rw [nI_clamp (by omega), hF _ (by omega)]; rfl) d_Row_insert_47 ?_
              refine m_qast X hS (Or.inl ⟨by omega, by omega⟩) 2 ci_Line rfl hRa (hv _ (by omega)) rfl (vp_in_nI (by omega) (by omega)) d_Row_insert_48 (fun H locs hp hcg hS => ?_)
              rw [nI_clamp (by omega)] at hp
              have hR1 := hR1.off hcg (by omega)
              have hRa := hp
              have hv := fun i hi => (hv i hi).off hcg (by have := (hln i hi).2; unfold offR at this; omega)
              have hl2 := hl2.off hcg (by unfold offR at hlo; omega)
              refine lv_iinc (v := nI (t + n + 1) - 1) (lv' := [(3, .int (nI (t + n + 1) - 1)), (0, .ref b), (1, .int (nI t)), (2, .ref ln)]) X.x X.b d_Row_insert_49 hl (k := 3) rfl (nI_dec _) (by decide) rfl (fun ls hl => ?_)
              refine lv_goto (tgt := 30) X.x X.b d_Row_insert_52 (by decide) ?_
              rw [nI_pred] at hl
              refine ih (by omega) _ _ _ _ (fun x hx => by rw [va_up_ne _ _ (by omega)]; exact hF x (by omega)) (fun x h1 h2 => ?_) hR1 hRa hv hl2 hS (lv_sub hl [1, 2, 3, 0] rfl)
              by_cases z : x = t + n + 1
              · subst z; rw [va_up_self]; rfl
              · rw [va_up_ne _ _ z]; exact hG x (by omega) h2
        exact lp (c - t) (by omega) _ _ _ _ (fun x hx => hF x (by omega)) (fun x h1 h2 => absurd h1 (by omega)) hR1 hRa hv hl2 hS (by rw [show t + (c - t) = c by omega]; exact lv_sub hl [1, 2, 3, 0] rfl)
      · exact absurd (nI_le ht (by omega)) c3
set_option maxRecDepth 100000 in
set_option maxHeartbeats 4000000 in
theorem M_Row_remove (l : Launch) (g : GG) {b cap c : Nat} {f : Nat → Nat} {H0 : Heap} (hR : rAt g b cap c f H0) (hcap : cap ≤ 60) (hcc : c ≤ cap) (hln : ∀ i, i < c → isLn g (f i) H0 ∧ offR b (f i)) {t : Nat} (ht : t < c) : MM l y_Row_remove c_Row_remove 3 none 0 0 0 g H0 [.ref b, .int (nI t)] (rF b) (none) (fun H1 => rAt g b cap (c - 1) (remF f t) H1) := by
  refine MM.of (by decide +kernel) (Nat.le_of_ble_eq_true rfl) ?_
  intro p e s m below meth cd X hH ls hl
  have X : CX g p s m _ meth cd c_Row_remove 3 none R_Row _ := X
  have hl : lv_has ls 3 [(0, .ref b), (1, .int (nI t))] := hl
  have hS : va_S (AA (rF b) H0) H0 H0 [] := va_S.rf
  obtain ⟨hR1, F, hRa, hF⟩ := hR
  obtain ⟨vf, hv⟩ : ∃ vf : Nat → List Value, ∀ i, i < c → pt g (f i) (.inr (ci_Line, vf i)) H0 := ⟨fun i => if h : i < c then (hln i h).1.choose else [], fun i h => by show pt g (f i) (.inr (ci_Line, if h : i < c then (hln i h).1.choose else [])) H0; rw [dif_pos h]; exact (hln i h).1.choose_spec⟩
  refine lv_iload_n X.x X.b d_Row_remove_0 rfl (lv_at hl 1 rfl) ?_
  refine lv_if_lt (tgt := 12) X.x X.b d_Row_remove_1 (by decide) (fun c1 => ?_) (fun c1 => ?_)
  · exact absurd c1 (nI_pos (by omega))
  · skip
    have c1q := Int32.not_lt.mp c1
    refine lv_iload_n X.x X.b d_Row_remove_4 rfl (lv_at hl 1 rfl) ?_
    refine lv_aload_n X.x X.b d_Row_remove_5 rfl (lv_at hl 0 rfl) ?_
    refine m_get (v := .int (nI c)) X ok_Row hR1 1 (by decide) k_Row_21 rfl d_Row_remove_6 ?_
    refine lv_icmp_lt (tgt := 13) X.x X.b d_Row_remove_9 (by decide) (fun c2 => ?_) (fun c2 => ?_)
    · skip
      have c2q := Int32.not_le.mpr c2
      refine lv_aload_n X.x X.b d_Row_remove_13 rfl (lv_at hl 0 rfl) ?_
      refine lv_dup X.x X.b d_Row_remove_14 rfl ?_
      refine m_get (v := .int (nI c)) X ok_Row hR1 1 (by decide) k_Row_21 rfl d_Row_remove_15 ?_
      refine lv_iconst (v := 1) X.x X.b d_Row_remove_18 (by decide) ?_
      refine lv_isub X.x X.b d_Row_remove_19 ?_
      refine m_put X ok_Row hS (Or.inl ⟨by omega, by omega⟩) hR1 1 (by decide) k_Row_21 rfl (ok_Row.2.2.1 _ (by decide)) rfl rfl (Nat.le_of_ble_eq_true rfl) d_Row_remove_20 (fun H locs hp hcg hS => ?_)
      have hR1 : pt g b (.inr (ci_Row, [.ref (b + 1), .int (nI (c - 1))])) H := by have hp2 := hp; rw [show ((nI c) - 1 : Int32) = nI (c - 1) from (by rw [← nI_pred (c - 1), show c - 1 + 1 = c by omega])] at hp2; exact hp2
      have hRa := hRa.off hcg (by omega)
      have hv := fun i hi => (hv i hi).off hcg (by have := (hln i hi).2; unfold offR at this; omega)
      refine lv_iload_n X.x X.b d_Row_remove_23 rfl (lv_at hl 1 rfl) ?_
      refine lv_istore_n (lv' := [(2, .int (nI t)), (0, .ref b), (1, .int (nI t))]) X.x X.b d_Row_remove_24 rfl hl (by decide) rfl (fun ls hl => ?_)
      have lp : ∀ (n i : Nat) (Fx : Nat → Option Nat), n = (c - 1) - i → i < 5000 → (t ≤ i ∧ (∀ x, t ≤ x → x < i → Fx x = some (f (x + 1))) ∧ (∀ x, x < t → Fx x = some (f x)) ∧ (∀ x, i ≤ x → x < c → Fx x = some (f x))) → ∀ (H : Heap) (locs : List Loc) (ls : Array Slot), pt g b (.inr (ci_Row, [.ref (b + 1), .int (nI (c - 1))])) H → pt g (b + 1) (qarr (g.2 2) cap Fx) H → (∀ i, i < c → pt g (f i) (.inr (ci_Line, vf i)) H) → va_S (AA (rF b) H0) H0 H locs → lv_has ls 3 [(0, .ref b), (1, .int (nI t)), (2, .int (nI i))] → W p l e (rmK 0 0 0) s m ([.ref b, .int (nI t)] : List Value).toArray below meth cd H locs 0 0 (MQ below (QM (none) (fun H1 => rAt g b cap (c - 1) (remF f t) H1) (rF b) H0) ([.ref b, .int (nI t)] : List Value).toArray s 0 0 (AA (rF b) H0)) (F0 m 25 ls []) := by
        intro n
        induction n with
        | zero =>
          intro i Fx hin hi5 hE H locs ls hR1 hRa hv hS hl
          obtain ⟨hti, hE⟩ := hE
          refine lv_iload_n X.x X.b d_Row_remove_25 rfl (lv_at hl 2 rfl) ?_
          refine lv_aload_n X.x X.b d_Row_remove_26 rfl (lv_at hl 0 rfl) ?_
          refine m_get (v := .int (nI (c - 1))) X ok_Row hR1 1 (by decide) k_Row_21 rfl d_Row_remove_27 ?_
          refine lv_icmp_ge (tgt := 53) X.x X.b d_Row_remove_30 (by decide) (fun c3 => ?_) (fun c3 => ?_)
          · skip
            have c3q := Int32.not_lt.mpr c3
            exact m_vret X hS (Nat.zero_le _) (Nat.zero_le _) d_Row_remove_53 rfl ⟨hR1, _, hRa, fun x hx => by by_cases z : x < t <;> simp only [remF, z, if_true, if_false]; exact hE.2.1 x (by omega); exact hE.1 x (by omega) (by omega)⟩
          · exact absurd ((nI_leI (a := (c - 1)) (b := i) (by omega) (by omega)).mpr (by omega)) c3
        | succ n ih =>
          intro i Fx hin hi5 hE H locs ls hR1 hRa hv hS hl
          obtain ⟨hti, hE⟩ := hE
          refine lv_iload_n X.x X.b d_Row_remove_25 rfl (lv_at hl 2 rfl) ?_
          refine lv_aload_n X.x X.b d_Row_remove_26 rfl (lv_at hl 0 rfl) ?_
          refine m_get (v := .int (nI (c - 1))) X ok_Row hR1 1 (by decide) k_Row_21 rfl d_Row_remove_27 ?_
          refine lv_icmp_ge (tgt := 53) X.x X.b d_Row_remove_30 (by decide) (fun c4 => ?_) (fun c4 => ?_)
          · exact absurd ((nI_leI (a := (c - 1)) (b := i) (by omega) (by omega)).mp c4) (by omega)
          · skip
            have c4q := Int32.not_le.mp c4
            refine lv_aload_n X.x X.b d_Row_remove_33 rfl (lv_at hl 0 rfl) ?_
            refine m_get (v := .ref (b + 1)) X ok_Row hR1 0 (by decide) k_Row_15 rfl d_Row_remove_34 ?_
            refine lv_iload_n X.x X.b d_Row_remove_37 rfl (lv_at hl 2 rfl) ?_
            refine lv_aload_n X.x X.b d_Row_remove_38 rfl (lv_at hl 0 rfl) ?_
            refine m_get (v := .ref (b + 1)) X ok_Row hR1 0 (by decide) k_Row_15 rfl d_Row_remove_39 ?_
            refine lv_iload_n X.x X.b d_Row_remove_42 rfl (lv_at hl 2 rfl) ?_
            refine lv_iconst (v := 1) X.x X.b d_Row_remove_43 (by decide) ?_
            refine lv_iadd X.x X.b d_Row_remove_44 ?_
            refine lv_topi (fun z ez => ?_)
            rw [nI_1] at ez
            subst ez
            refine m_qald (v := .ref (f (i + 1))) X 2 rfl hRa (vp_in_nI (by omega) (by omega)) (by rw [nI_clamp (by omega), hE.2.2 _ (by omega) (by omega)]; rfl) d_Row_remove_45 ?_
            refine m_qast X hS (Or.inl ⟨by omega, by omega⟩) 2 ci_Line rfl hRa (hv _ (by omega)) rfl (vp_in_nI (by omega) (by omega)) d_Row_remove_46 (fun H locs hp hcg hS => ?_)
            rw [nI_clamp (by omega)] at hp
            have hR1 := hR1.off hcg (by omega)
            have hRa := hp
            have hv := fun i hi => (hv i hi).off hcg (by have := (hln i hi).2; unfold offR at this; omega)
            refine lv_iinc (v := nI (i + 1)) (lv' := [(2, .int (nI (i + 1))), (0, .ref b), (1, .int (nI t))]) X.x X.b d_Row_remove_47 hl (k := 2) rfl (nI_1 i) (by decide) rfl (fun ls hl => ?_)
            refine lv_goto (tgt := 25) X.x X.b d_Row_remove_50 (by decide) ?_
            exact ih (i + 1) (va_up Fx i (some (f (i + 1)))) (by omega) (by omega) (⟨by omega, fun x h1 h2 => by by_cases z : x = i <;> first | (subst z; rw [va_up_self]) | (rw [va_up_ne _ _ z]; exact hE.1 x h1 (by omega)), fun x h => by rw [va_up_ne _ _ (by omega)]; exact hE.2.1 x h, fun x h1 h2 => by rw [va_up_ne _ _ (by omega)]; exact hE.2.2 x (by omega) h2⟩) _ _ _ hR1 hRa hv hS (lv_sub hl [1, 2, 0] rfl)
      exact lp ((c - 1) - t) t F (by omega) (by omega) (⟨Nat.le_refl _, fun x h1 h2 => absurd h1 (by omega), fun x h => hF x (by omega), fun x h1 h2 => hF x h2⟩) _ _ _ hR1 hRa hv hS (lv_sub hl [1, 2, 0] rfl)
    · exact absurd (nI_lt ht (by omega)) c2
set_option maxRecDepth 100000 in
set_option maxHeartbeats 4000000 in
theorem M_Row_copyFrom (l : Launch) (g : GG) {b cap c b2 cap2 m2 : Nat} {f f2 : Nat → Nat} {H0 : Heap} (hR : rAt g b cap c f H0) (hQ : rAt g b2 cap2 m2 f2 H0) (hcap : cap ≤ 60) (hcc : m2 ≤ cap) (hcc2 : m2 ≤ cap2) (hcap2 : cap2 ≤ 60) (hb : b + 2 ≤ b2 ∨ b2 + 2 ≤ b) (hln : ∀ i, i < m2 → isLn g (f2 i) H0 ∧ offR b (f2 i)) : MM l y_Row_copyFrom c_Row_copyFrom 3 none 1 0 0 g H0 [.ref b, .ref b2] (rF b) (none) (fun H1 => rAt g b cap m2 f2 H1) := by
  refine MM.of (by decide +kernel) (Nat.le_of_ble_eq_true rfl) ?_
  intro p e s m below meth cd X hH ls hl
  have X : CX g p s m _ meth cd c_Row_copyFrom 3 none R_Row _ := X
  have hl : lv_has ls 3 [(0, .ref b), (1, .ref b2)] := hl
  have hS : va_S (AA (rF b) H0) H0 H0 [] := va_S.rf
  obtain ⟨hR1, F, hRa, hF⟩ := hR
  obtain ⟨hQ1, F2, hQa, hF2⟩ := hQ
  obtain ⟨vf, hv⟩ : ∃ vf : Nat → List Value, ∀ i, i < m2 → pt g (f2 i) (.inr (ci_Line, vf i)) H0 := ⟨fun i => if h : i < m2 then (hln i h).1.choose else [], fun i h => by show pt g (f2 i) (.inr (ci_Line, if h : i < m2 then (hln i h).1.choose else [])) H0; rw [dif_pos h]; exact (hln i h).1.choose_spec⟩
  refine lv_aload_n X.x X.b d_Row_copyFrom_0 rfl (lv_at hl 0 rfl) ?_
  refine lv_aload_n X.x X.b d_Row_copyFrom_1 rfl (lv_at hl 1 rfl) ?_
  refine m_get (v := .int (nI m2)) X ok_Row hQ1 1 (by decide) k_Row_21 rfl d_Row_copyFrom_2 ?_
  refine lv_aload_n X.x X.b d_Row_copyFrom_5 rfl (lv_at hl 0 rfl) ?_
  refine m_get (v := .ref (b + 1)) X ok_Row hR1 0 (by decide) k_Row_15 rfl d_Row_copyFrom_6 ?_
  refine m_alen (v := nI cap) X 2 rfl hRa rfl d_Row_copyFrom_9 ?_
  refine m_min (v := nI m2) X (by decide) wmin_l6 (Nat.le_of_ble_eq_true rfl) hl.1 ⟨Nat.zero_le _, Nat.zero_le _⟩ (by rw [nI_min (by omega) (by omega), Nat.min_eq_left hcc]) d_Row_copyFrom_10 ?_
  refine m_put X ok_Row hS (Or.inl ⟨by omega, by omega⟩) hR1 1 (by decide) k_Row_21 rfl (ok_Row.2.2.1 _ (by decide)) rfl rfl (Nat.le_of_ble_eq_true rfl) d_Row_copyFrom_13 (fun H locs hp hcg hS => ?_)
  have hR1 : pt g b (.inr (ci_Row, [.ref (b + 1), .int (nI m2)])) H := by have hp2 := hp; rw [show (nI m2 : Int32) = nI m2 from rfl] at hp2; exact hp2
  have hRa := hRa.off hcg (by omega)
  have hv := fun i hi => (hv i hi).off hcg (by have := (hln i hi).2; unfold offR at this; omega)
  have hQ1 := hQ1.off hcg (by omega)
  have hQa := hQa.off hcg (by omega)
  refine lv_iconst (v := 0) X.x X.b d_Row_copyFrom_16 (by decide) ?_
  refine lv_istore_n (lv' := [(2, .int 0), (0, .ref b), (1, .ref b2)]) X.x X.b d_Row_copyFrom_17 rfl hl (by decide) rfl (fun ls hl => ?_)
  have lp : ∀ (n i : Nat) (Fx : Nat → Option Nat), n = m2 - i → i < 5000 → (∀ x, x < i → Fx x = some (f2 x)) → ∀ (H : Heap) (locs : List Loc) (ls : Array Slot), pt g b (.inr (ci_Row, [.ref (b + 1), .int (nI m2)])) H → pt g (b + 1) (qarr (g.2 2) cap Fx) H → pt g b2 (.inr (ci_Row, [.ref (b2 + 1), .int (nI m2)])) H → pt g (b2 + 1) (qarr (g.2 2) cap2 F2) H → (∀ i, i < m2 → pt g (f2 i) (.inr (ci_Line, vf i)) H) → va_S (AA (rF b) H0) H0 H locs → lv_has ls 3 [(0, .ref b), (1, .ref b2), (2, .int (nI i))] → W p l e (rmK 1 0 0) s m ([.ref b, .ref b2] : List Value).toArray below meth cd H locs 0 0 (MQ below (QM (none) (fun H1 => rAt g b cap m2 f2 H1) (rF b) H0) ([.ref b, .ref b2] : List Value).toArray s 0 0 (AA (rF b) H0)) (F0 m 18 ls []) := by
    intro n
    induction n with
    | zero =>
      intro i Fx hin hi5 hE H locs ls hR1 hRa hQ1 hQa hv hS hl
      refine lv_iload_n X.x X.b d_Row_copyFrom_18 rfl (lv_at hl 2 rfl) ?_
      refine lv_aload_n X.x X.b d_Row_copyFrom_19 rfl (lv_at hl 0 rfl) ?_
      refine m_get (v := .int (nI m2)) X ok_Row hR1 1 (by decide) k_Row_21 rfl d_Row_copyFrom_20 ?_
      refine lv_icmp_ge (tgt := 44) X.x X.b d_Row_copyFrom_23 (by decide) (fun c1 => ?_) (fun c1 => ?_)
      · skip
        have c1q := Int32.not_lt.mpr c1
        exact m_vret X hS (Nat.zero_le _) (Nat.zero_le _) d_Row_copyFrom_44 rfl ⟨hR1, _, hRa, fun x hx => hE x (by omega)⟩
      · exact absurd ((nI_leI (a := m2) (b := i) (by omega) (by omega)).mpr (by omega)) c1
    | succ n ih =>
      intro i Fx hin hi5 hE H locs ls hR1 hRa hQ1 hQa hv hS hl
      refine lv_iload_n X.x X.b d_Row_copyFrom_18 rfl (lv_at hl 2 rfl) ?_
      refine lv_aload_n X.x X.b d_Row_copyFrom_19 rfl (lv_at hl 0 rfl) ?_
      refine m_get (v := .int (nI m2)) X ok_Row hR1 1 (by decide) k_Row_21 rfl d_Row_copyFrom_20 ?_
      refine lv_icmp_ge (tgt := 44) X.x X.b d_Row_copyFrom_23 (by decide) (fun c2 => ?_) (fun c2 => ?_)
      · exact absurd ((nI_leI (a := m2) (b := i) (by omega) (by omega)).mp c2) (by omega)
      · skip
        have c2q := Int32.not_le.mp c2
        refine lv_aload_n X.x X.b d_Row_copyFrom_26 rfl (lv_at hl 0 rfl) ?_
        refine m_get (v := .ref (b + 1)) X ok_Row hR1 0 (by decide) k_Row_15 rfl d_Row_copyFrom_27 ?_
        refine lv_iload_n X.x X.b d_Row_copyFrom_30 rfl (lv_at hl 2 rfl) ?_
        refine lv_aload_n X.x X.b d_Row_copyFrom_31 rfl (lv_at hl 1 rfl) ?_
        refine m_get (v := .ref (b2 + 1)) X ok_Row hQ1 0 (by decide) k_Row_15 rfl d_Row_copyFrom_32 ?_
        refine lv_iload_n X.x X.b d_Row_copyFrom_35 rfl (lv_at hl 2 rfl) ?_
        refine m_qald (v := .ref (f2 i)) X 2 rfl hQa (vp_in_nI (by omega) (by omega)) (by rw [nI_clamp (by omega), hF2 _ (by omega)]; rfl) d_Row_copyFrom_36 ?_
        refine m_qast X hS (Or.inl ⟨by omega, by omega⟩) 2 ci_Line rfl hRa (hv _ (by omega)) rfl (vp_in_nI (by omega) (by omega)) d_Row_copyFrom_37 (fun H locs hp hcg hS => ?_)
        rw [nI_clamp (by omega)] at hp
        have hR1 := hR1.off hcg (by omega)
        have hRa := hp
        have hv := fun i hi => (hv i hi).off hcg (by have := (hln i hi).2; unfold offR at this; omega)
        have hQ1 := hQ1.off hcg (by omega)
        have hQa := hQa.off hcg (by omega)
        refine lv_iinc (v := nI (i + 1)) (lv' := [(2, .int (nI (i + 1))), (0, .ref b), (1, .ref b2)]) X.x X.b d_Row_copyFrom_38 hl (k := 2) rfl (nI_1 i) (by decide) rfl (fun ls hl => ?_)
        refine lv_goto (tgt := 18) X.x X.b d_Row_copyFrom_41 (by decide) ?_
        exact ih (i + 1) (va_up Fx i (some (f2 i))) (by omega) (by omega) (fun x hx => by by_cases z : x = i <;> first | (subst z; rw [va_up_self]) | (rw [va_up_ne _ _ z]; exact hE x (by omega))) _ _ _ hR1 hRa hQ1 hQa hv hS (lv_sub hl [1, 2, 0] rfl)
  exact lp m2 0 F (by omega) (by omega) (fun x hx => absurd hx (Nat.not_lt_zero x)) _ _ _ hR1 hRa hQ1 hQa hv hS (lv_sub hl [1, 2, 0] rfl)
