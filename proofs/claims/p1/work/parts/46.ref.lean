-- THE REFERENCE ON LINES THAT ARE ALL DATA OF 0
/-- but the rows of fs nothing has changed -/
def same (fs : List Nat) (s t : Nat → Nat → Int32) : Prop := ∀ f, f ∉ fs → t f = s f
theorem same.rf (fs : List Nat) (s : Nat → Nat → Int32) : same fs s s := fun _ _ => rfl
theorem same.up {fs : List Nat} {s t : Nat → Nat → Int32} (h : same fs s t) (f : Nat) (r : Nat → Int32) (hf : f ∈ fs) : same fs s (updR t f r) := fun j hj => by
  rw [updR_mf t f r (show j ≠ f from fun e => hj (by rw [e]; exact hf))]
  exact h j hj
theorem same.tr {fs gs : List Nat} {s t u : Nat → Nat → Int32} (h : same fs s t) (h2 : same gs t u) (hi : ∀ f ∈ gs, f ∈ fs) : same fs s u := fun j hj => (h2 j (fun z => hj (hi j z))).trans (h j hj)
theorem same.mono {fs gs : List Nat} {s t : Nat → Nat → Int32} (h : same fs s t) (hi : ∀ f ∈ fs, f ∈ gs) : same gs s t := fun j hj => h j (fun z => hj (hi j z))
/-- but the fields of ks nothing has changed -/
def samP (ks : List Nat) (p q : Nat → Int32) : Prop := ∀ k, k ∉ ks → q k = p k
theorem samP.rf (ks : List Nat) (p : Nat → Int32) : samP ks p p := fun _ _ => rfl
theorem samP.up {ks : List Nat} {p q : Nat → Int32} (h : samP ks p q) (k : Nat) (v : Int32) (hk : k ∈ ks) : samP ks p (upd q k v) := fun j hj => by
  rw [upd_mi q k v (show j ≠ k from fun e => hj (by rw [e]; exact hk))]
  exact h j hj
theorem samP.tr {ks gs : List Nat} {p q r : Nat → Int32} (h : samP ks p q) (h2 : samP gs q r) (hi : ∀ k ∈ gs, k ∈ ks) : samP ks p r := fun j hj => (h2 j (fun z => hj (hi j z))).trans (h j hj)
/-- c DATA, and the POOL behind all -/
def dxP (c : Nat) (p : Nat → Int32) (s : Nat → Nat → Int32) : Prop := (p 3 = 0 ∧ p 5 = nI (c + 1)) ∧ (∀ k, k < c → s 8 k = 2 ∧ s 9 k = -1 ∧ s 10 k = -1) ∧ s 8 c = 6
theorem wmaxM : Cond.methodLink R_Model 157 Lib.Math.max.name ∈ LW := LW_t 885 (by decide +kernel) (by decide +kernel)
theorem nI_inj {a b : Nat} (ha : a < 2 ^ 31) (hb : b < 2 ^ 31) (h : nI a = nI b) : a = b := by
  have h2 := congrArg Int32.toNatClampNeg h
  rwa [nI_clamp ha, nI_clamp hb] at h2
def szM (s : Nat → Nat → Int32) (k : Nat) (fr_ : Int32) : Int32 :=
  if s 8 k = 0 then 0 else if s 8 k = 1 then 0 else if s 8 k = 3 then (if s 23 k = 0 then 1 else 2) else if s 8 k = 4 then (if s 23 k = 0 then 1 else 3) else if s 8 k = 6 then s 15 k else
  if s 8 k = 7 then (s 11 k - (fr_ - fr_ / s 11 k * s 11 k)) - (s 11 k - (fr_ - fr_ / s 11 k * s 11 k)) / s 11 k * s 11 k else 1
theorem at0 (i : Nat) : ((0 : Int32) * 64 + nI i) * 5 = nI (5 * i) := by
  have z := at_nI (r := 0) (t := 0) (by omega) (by omega)
  rw [show (0 : Int32) * 64 + nI i = nI i from by rw [show (0 : Int32) * 64 = nI 0 from rfl, nI_ad, Nat.zero_add], show (5 : Int32) = nI 5 from rfl, nI_mu, Nat.mul_comm]
/-- the first c LINES of MAIN are DATA of 0 -/
def dLn (c : Nat) (s : Nat → Nat → Int32) : Prop := s 2 0 = nI c ∧ ∀ i, i < c → s 1 (5 * i) = 2 ∧ s 1 (5 * i + 1) = -1 ∧ s 1 (5 * i + 2) = -1 ∧ s 1 (5 * i + 3) = 0 ∧ s 1 (5 * i + 4) = 0
theorem itR_o (s : Nat → Nat → Int32) (c : Nat) (k a b v f d : Int32) : same [8, 9, 10, 11, 12, 13] s (itR s c k a b v f d) := by
  unfold itR
  exact ((((((same.rf [8, 9, 10, 11, 12, 13] s).up 8 _ (by decide)).up 9 _ (by decide)).up 10 _ (by decide)).up 11 _ (by decide)).up 12 _ (by decide)).up 13 _ (by decide)
theorem itR_at (s : Nat → Nat → Int32) (c : Nat) (k a b v f d : Int32) : itR s c k a b v f d 8 c = k ∧ itR s c k a b v f d 9 c = a ∧ itR s c k a b v f d 10 c = b ∧ itR s c k a b v f d 11 c = v ∧ itR s c k a b v f d 12 c = f ∧ itR s c k a b v f d 13 c = d := by
  unfold itR
  refine ⟨?_, ?_, ?_, ?_, ?_, ?_⟩ <;> simp [updR, upd]
theorem updR_n2 (s : Nat → Nat → Int32) (f c : Nat) (x : Int32) {j : Nat} (h : j ≠ c) (w : Nat) : updR s f (upd (s f) c x) w j = s w j := by
  by_cases z : w = f
  · subst z
    exact updR_mi _ _ _ _ h
  · rw [updR_mf _ _ _ z]
theorem itR_ne (s : Nat → Nat → Int32) (c : Nat) (k a b v f d : Int32) {j : Nat} (h : j ≠ c) (w : Nat) : itR s c k a b v f d w j = s w j := by
  unfold itR
  exact (updR_n2 _ _ _ _ h w).trans ((updR_n2 _ _ _ _ h w).trans ((updR_n2 _ _ _ _ h w).trans ((updR_n2 _ _ _ _ h w).trans ((updR_n2 _ _ _ _ h w).trans (updR_n2 _ _ _ _ h w)))))
set_option maxRecDepth 100000 in
set_option maxHeartbeats 4000000 in
theorem M_Model_sizeOf (l : Launch) (g : GG) {mo tq : Nat} {p0 : Nat → Int32} {s0 : Nat → Nat → Int32} {H0 : Heap} (hM : mAt g mo tq p0 s0 H0) {k : Nat} {fr_ : Int32} (hk : k < 121) (hn7 : s0 8 k = 7 → ¬ s0 11 k = 0) : MP l y_Model_sizeOf c_Model_sizeOf 3 (some .int) 0 g H0 [.ref mo, .int (nI k), .int fr_] (some (.int (szM s0 k fr_))) := by
  refine MM.of (by decide +kernel) (Nat.le_of_ble_eq_true rfl) ?_
  intro p e s m below meth cd X hH ls hl
  have X : CX g p s m _ meth cd c_Model_sizeOf 3 (some .int) R_Model _ := X
  have hl : lv_has ls 3 [(0, .ref mo), (1, .int (nI k)), (2, .int fr_)] := hl
  have hS : va_S (AA (noA) H0) H0 H0 [] := va_S.rf
  have hlt0 := hM.lt
  have htq0 := hM.tq
  refine lv_aload_n X.x X.b d_Model_sizeOf_0 rfl (lv_at hl 0 rfl) ?_
  refine m_get (v := .ref (mo + 3)) X ok_Model hM.1 8 (by decide) k_Model_16 rfl d_Model_sizeOf_1 ?_
  refine lv_iload_n X.x X.b d_Model_sizeOf_4 rfl (lv_at hl 1 rfl) ?_
  refine m_ild (v := s0 8 k) X hM.a8 k rfl (by omega) (by decide) (show s0 8 k = s0 8 k from rfl) d_Model_sizeOf_5 ?_
  by_cases k1 : s0 8 k = 0
  · skip
    refine lv_tableIn (off := 46) (tgt := 52) X.x X.b d_Model_sizeOf_6 (by rw [k1]; decide) (by rw [k1]; decide) (by rw [k1]; decide) (by decide) ?_
    refine lv_iconst (v := 0) X.x X.b d_Model_sizeOf_52 (by decide) ?_
    exact m_iret X hS (by omega) (by omega) d_Model_sizeOf_53 (congrArg (fun z => some (Value.int z)) (by simp [szM, k1])) rfl
  by_cases k2 : s0 8 k = 1
  · skip
    refine lv_tableIn (off := 46) (tgt := 52) X.x X.b d_Model_sizeOf_6 (by rw [k2]; decide) (by rw [k2]; decide) (by rw [k2]; decide) (by decide) ?_
    refine lv_iconst (v := 0) X.x X.b d_Model_sizeOf_52 (by decide) ?_
    exact m_iret X hS (by omega) (by omega) d_Model_sizeOf_53 (congrArg (fun z => some (Value.int z)) (by simp [szM, k2])) rfl
  by_cases k3 : s0 8 k = 2
  · skip
    refine lv_tableIn (off := 108) (tgt := 114) X.x X.b d_Model_sizeOf_6 (by rw [k3]; decide) (by rw [k3]; decide) (by rw [k3]; decide) (by decide) ?_
    refine lv_iconst (v := 1) X.x X.b d_Model_sizeOf_114 (by decide) ?_
    exact m_iret X hS (by omega) (by omega) d_Model_sizeOf_115 (congrArg (fun z => some (Value.int z)) (by simp [szM, k3])) rfl
  by_cases k4 : s0 8 k = 3
  · skip
    refine lv_tableIn (off := 48) (tgt := 54) X.x X.b d_Model_sizeOf_6 (by rw [k4]; decide) (by rw [k4]; decide) (by rw [k4]; decide) (by decide) ?_
    refine lv_aload_n X.x X.b d_Model_sizeOf_54 rfl (lv_at hl 0 rfl) ?_
    refine m_get (v := .ref (mo + 18)) X ok_Model hM.1 23 (by decide) k_Model_61 rfl d_Model_sizeOf_55 ?_
    refine lv_iload_n X.x X.b d_Model_sizeOf_58 rfl (lv_at hl 1 rfl) ?_
    refine m_zld (v := s0 23 k) X hM.a23 k rfl (by omega) (by decide) (show s0 23 k = s0 23 k from rfl) d_Model_sizeOf_59 ?_
    refine lv_if_eq (tgt := 67) X.x X.b d_Model_sizeOf_60 (by decide) (fun c5 => ?_) (fun c5 => ?_)
    · skip
      refine lv_iconst (v := 1) X.x X.b d_Model_sizeOf_67 (by decide) ?_
      exact m_iret X hS (by omega) (by omega) d_Model_sizeOf_68 (congrArg (fun z => some (Value.int z)) (by simp [szM, k4, c5])) rfl
    · skip
      refine lv_iconst (v := 2) X.x X.b d_Model_sizeOf_63 (by decide) ?_
      refine lv_goto (tgt := 68) X.x X.b d_Model_sizeOf_64 (by decide) ?_
      exact m_iret X hS (by omega) (by omega) d_Model_sizeOf_68 (congrArg (fun z => some (Value.int z)) (by simp [szM, k4, c5])) rfl
  by_cases k6 : s0 8 k = 4
  · skip
    refine lv_tableIn (off := 63) (tgt := 69) X.x X.b d_Model_sizeOf_6 (by rw [k6]; decide) (by rw [k6]; decide) (by rw [k6]; decide) (by decide) ?_
    refine lv_aload_n X.x X.b d_Model_sizeOf_69 rfl (lv_at hl 0 rfl) ?_
    refine m_get (v := .ref (mo + 18)) X ok_Model hM.1 23 (by decide) k_Model_61 rfl d_Model_sizeOf_70 ?_
    refine lv_iload_n X.x X.b d_Model_sizeOf_73 rfl (lv_at hl 1 rfl) ?_
    refine m_zld (v := s0 23 k) X hM.a23 k rfl (by omega) (by decide) (show s0 23 k = s0 23 k from rfl) d_Model_sizeOf_74 ?_
    refine lv_if_eq (tgt := 82) X.x X.b d_Model_sizeOf_75 (by decide) (fun c7 => ?_) (fun c7 => ?_)
    · skip
      refine lv_iconst (v := 1) X.x X.b d_Model_sizeOf_82 (by decide) ?_
      exact m_iret X hS (by omega) (by omega) d_Model_sizeOf_83 (congrArg (fun z => some (Value.int z)) (by simp [szM, k6, c7])) rfl
    · skip
      refine lv_iconst (v := 3) X.x X.b d_Model_sizeOf_78 (by decide) ?_
      refine lv_goto (tgt := 83) X.x X.b d_Model_sizeOf_79 (by decide) ?_
      exact m_iret X hS (by omega) (by omega) d_Model_sizeOf_83 (congrArg (fun z => some (Value.int z)) (by simp [szM, k6, c7])) rfl
  by_cases k8 : s0 8 k = 5
  · skip
    refine lv_tableIn (off := 108) (tgt := 114) X.x X.b d_Model_sizeOf_6 (by rw [k8]; decide) (by rw [k8]; decide) (by rw [k8]; decide) (by decide) ?_
    refine lv_iconst (v := 1) X.x X.b d_Model_sizeOf_114 (by decide) ?_
    exact m_iret X hS (by omega) (by omega) d_Model_sizeOf_115 (congrArg (fun z => some (Value.int z)) (by simp [szM, k8])) rfl
  by_cases k9 : s0 8 k = 6
  · skip
    refine lv_tableIn (off := 78) (tgt := 84) X.x X.b d_Model_sizeOf_6 (by rw [k9]; decide) (by rw [k9]; decide) (by rw [k9]; decide) (by decide) ?_
    refine lv_aload_n X.x X.b d_Model_sizeOf_84 rfl (lv_at hl 0 rfl) ?_
    refine m_get (v := .ref (mo + 10)) X ok_Model hM.1 15 (by decide) k_Model_37 rfl d_Model_sizeOf_85 ?_
    refine lv_iload_n X.x X.b d_Model_sizeOf_88 rfl (lv_at hl 1 rfl) ?_
    refine m_ild (v := s0 15 k) X hM.a15 k rfl (by omega) (by decide) (show s0 15 k = s0 15 k from rfl) d_Model_sizeOf_89 ?_
    exact m_iret X hS (by omega) (by omega) d_Model_sizeOf_90 (congrArg (fun z => some (Value.int z)) (by simp [szM, k9])) rfl
  by_cases k10 : s0 8 k = 7
  · skip
    refine lv_tableIn (off := 85) (tgt := 91) X.x X.b d_Model_sizeOf_6 (by rw [k10]; decide) (by rw [k10]; decide) (by rw [k10]; decide) (by decide) ?_
    refine lv_aload_n X.x X.b d_Model_sizeOf_91 rfl (lv_at hl 0 rfl) ?_
    refine m_get (v := .ref (mo + 6)) X ok_Model hM.1 11 (by decide) k_Model_25 rfl d_Model_sizeOf_92 ?_
    refine lv_iload_n X.x X.b d_Model_sizeOf_95 rfl (lv_at hl 1 rfl) ?_
    refine m_ild (v := s0 11 k) X hM.a11 k rfl (by omega) (by decide) (show s0 11 k = s0 11 k from rfl) d_Model_sizeOf_96 ?_
    refine lv_iload_n X.x X.b d_Model_sizeOf_97 rfl (lv_at hl 2 rfl) ?_
    refine lv_aload_n X.x X.b d_Model_sizeOf_98 rfl (lv_at hl 0 rfl) ?_
    refine m_get (v := .ref (mo + 6)) X ok_Model hM.1 11 (by decide) k_Model_25 rfl d_Model_sizeOf_99 ?_
    refine lv_iload_n X.x X.b d_Model_sizeOf_102 rfl (lv_at hl 1 rfl) ?_
    refine m_ild (v := s0 11 k) X hM.a11 k rfl (by omega) (by decide) (show s0 11 k = s0 11 k from rfl) d_Model_sizeOf_103 ?_
    refine lv_irem X.x X.b d_Model_sizeOf_104 (hn7 k10) ?_
    refine lv_isub X.x X.b d_Model_sizeOf_105 ?_
    refine lv_aload_n X.x X.b d_Model_sizeOf_106 rfl (lv_at hl 0 rfl) ?_
    refine m_get (v := .ref (mo + 6)) X ok_Model hM.1 11 (by decide) k_Model_25 rfl d_Model_sizeOf_107 ?_
    refine lv_iload_n X.x X.b d_Model_sizeOf_110 rfl (lv_at hl 1 rfl) ?_
    refine m_ild (v := s0 11 k) X hM.a11 k rfl (by omega) (by decide) (show s0 11 k = s0 11 k from rfl) d_Model_sizeOf_111 ?_
    refine lv_irem X.x X.b d_Model_sizeOf_112 (hn7 k10) ?_
    exact m_iret X hS (by omega) (by omega) d_Model_sizeOf_113 (congrArg (fun z => some (Value.int z)) (by simp [szM, k10])) rfl
  refine lv_tableOut (tgt := 114) X.x X.b d_Model_sizeOf_6 (by have := ne_toInt (k := 0) 0 (by decide) k1; have := ne_toInt (k := 1) 1 (by decide) k2; have := ne_toInt (k := 2) 2 (by decide) k3; have := ne_toInt (k := 3) 3 (by decide) k4; have := ne_toInt (k := 4) 4 (by decide) k6; have := ne_toInt (k := 5) 5 (by decide) k8; have := ne_toInt (k := 6) 6 (by decide) k9; have := ne_toInt (k := 7) 7 (by decide) k10; omega) (by decide) ?_
  refine lv_iconst (v := 1) X.x X.b d_Model_sizeOf_114 (by decide) ?_
  exact m_iret X hS (by omega) (by omega) d_Model_sizeOf_115 (congrArg (fun z => some (Value.int z)) (by simp [szM, k1, k2, k3, k4, k6, k8, k9, k10])) rfl
set_option maxRecDepth 100000 in
set_option maxHeartbeats 4000000 in
theorem M_Model_place_w (l : Launch) (g : GG) {mo tq : Nat} {p0 : Nat → Int32} {s0 : Nat → Nat → Int32} {H0 : Heap} (hM : mAt g mo tq p0 s0 H0) {c : Nat} (hc5 : p0 5 = nI c) (hc : c ≤ 121) (hn7 : (∀ k, k < c → s0 8 k = 7 → ¬ s0 11 k = 0)) : MM l y_Model_place c_Model_place 3 none 2 0 0 g H0 [.ref mo] (fun q => mo ≤ q ∧ q < mo + 23) (none) (fun H1 => ∃ p s, mAt g mo tq p s H1 ∧ samP [6] p0 p ∧ same [14, 15] s0 s) := by
  refine MM.of (by decide +kernel) (Nat.le_of_ble_eq_true rfl) ?_
  intro p e s m below meth cd X hH ls hl
  have X : CX g p s m _ meth cd c_Model_place 3 none R_Model _ := X
  have hl : lv_has ls 3 [(0, .ref mo)] := hl
  have hS : va_S (AA (fun q => mo ≤ q ∧ q < mo + 23) H0) H0 H0 [] := va_S.rf
  have hlt0 := hM.lt
  have htq0 := hM.tq
  refine lv_iconst (v := 0) X.x X.b d_Model_place_0 (by decide) ?_
  refine lv_istore_n (lv' := [(1, .int 0), (0, .ref mo)]) X.x X.b d_Model_place_1 rfl hl (by decide) rfl (fun ls hl => ?_)
  refine lv_iconst (v := 0) X.x X.b d_Model_place_2 (by decide) ?_
  refine lv_istore_n (lv' := [(2, .int 0), (1, .int 0), (0, .ref mo)]) X.x X.b d_Model_place_3 rfl hl (by decide) rfl (fun ls hl => ?_)
  have lp : ∀ (n i : Nat) (fr_ : Int32) (ss : Nat → Nat → Int32), n = c - i → i < 5000 → (same [14, 15] s0 ss) → ∀ (H : Heap) (locs : List Loc) (ls : Array Slot), mAt g mo tq p0 ss H → va_S (AA (fun q => mo ≤ q ∧ q < mo + 23) H0) H0 H locs → lv_has ls 3 [(0, .ref mo), (1, .int fr_), (2, .int (nI i))] → W p l e (rmK 2 0 0) s m ([.ref mo] : List Value).toArray below meth cd H locs 0 0 (MQ below (QM (none) (fun H1 => ∃ p s, mAt g mo tq p s H1 ∧ samP [6] p0 p ∧ same [14, 15] s0 s) (fun q => mo ≤ q ∧ q < mo + 23) H0) ([.ref mo] : List Value).toArray s 0 0 (AA (fun q => mo ≤ q ∧ q < mo + 23) H0)) (F0 m 4 ls []) := by
    intro n
    induction n with
    | zero =>
      intro i fr_ ss hin hi5 hE H locs ls hM hS hl
      refine lv_iload_n X.x X.b d_Model_place_4 rfl (lv_at hl 2 rfl) ?_
      refine lv_aload_n X.x X.b d_Model_place_5 rfl (lv_at hl 0 rfl) ?_
      refine m_get (v := .int (nI c)) X ok_Model hM.1 5 (by decide) k_Model_132 (congrArg (fun z => some (Value.int z)) (show p0 5 = nI c from (by rw [hc5]))) d_Model_place_6 ?_
      refine lv_icmp_ge (tgt := 46) X.x X.b d_Model_place_9 (by decide) (fun c1 => ?_) (fun c1 => ?_)
      · skip
        have c1q := Int32.not_lt.mpr c1
        refine lv_aload_n X.x X.b d_Model_place_46 rfl (lv_at hl 0 rfl) ?_
        refine m_get (v := .ref (mo + 9)) X ok_Model hM.1 14 (by decide) k_Model_34 rfl d_Model_place_47 ?_
        refine lv_aload_n X.x X.b d_Model_place_50 rfl (lv_at hl 0 rfl) ?_
        refine m_get (v := .int (nI c)) X ok_Model hM.1 5 (by decide) k_Model_132 (congrArg (fun z => some (Value.int z)) (show p0 5 = nI c from (by rw [hc5]))) d_Model_place_51 ?_
        refine lv_iload_n X.x X.b d_Model_place_54 rfl (lv_at hl 1 rfl) ?_
        refine m_ist X hS (Or.inl ⟨by omega, by omega⟩) hM.a14 c rfl (by omega) (by decide) d_Model_place_55 (fun H locs hp hcg hS => ?_)
        have hM := hM.s14 hp hcg
        obtain ⟨s_1, es_1⟩ : ∃ z, z = updR ss 14 (upd (ss 14) c fr_) := ⟨_, rfl⟩
        rw [← es_1] at hM
        refine lv_aload_n X.x X.b d_Model_place_56 rfl (lv_at hl 0 rfl) ?_
        refine lv_iload_n X.x X.b d_Model_place_57 rfl (lv_at hl 1 rfl) ?_
        refine m_put X ok_Model hS (Or.inl ⟨by omega, by omega⟩) hM.1 6 (by decide) k_Model_165 rfl (ok_Model.2.2.1 _ (by decide)) rfl rfl (Nat.le_of_ble_eq_true rfl) d_Model_place_58 (fun H locs hp hcg hS => ?_)
        have hM := hM.f6 hp hcg
        obtain ⟨p_2, ep_2⟩ : ∃ z, z = upd p0 6 fr_ := ⟨_, rfl⟩
        rw [← ep_2] at hM
        subst ep_2
        subst es_1
        exact m_vret X hS (by omega) (by omega) d_Model_place_61 rfl ⟨_, _, hM, (samP.rf [6] p0).up _ _ (by decide), hE.up _ _ (by decide)⟩
      · exact absurd ((nI_leI (a := c) (b := i) (by omega) (by omega)).mpr (by omega)) c1
    | succ n ih =>
      intro i fr_ ss hin hi5 hE H locs ls hM hS hl
      refine lv_iload_n X.x X.b d_Model_place_4 rfl (lv_at hl 2 rfl) ?_
      refine lv_aload_n X.x X.b d_Model_place_5 rfl (lv_at hl 0 rfl) ?_
      refine m_get (v := .int (nI c)) X ok_Model hM.1 5 (by decide) k_Model_132 (congrArg (fun z => some (Value.int z)) (show p0 5 = nI c from (by rw [hc5]))) d_Model_place_6 ?_
      refine lv_icmp_ge (tgt := 46) X.x X.b d_Model_place_9 (by decide) (fun c2 => ?_) (fun c2 => ?_)
      · exact absurd ((nI_leI (a := c) (b := i) (by omega) (by omega)).mp c2) (by omega)
      · skip
        have c2q := Int32.not_le.mp c2
        refine lv_aload_n X.x X.b d_Model_place_12 rfl (lv_at hl 0 rfl) ?_
        refine m_get (v := .ref (mo + 9)) X ok_Model hM.1 14 (by decide) k_Model_34 rfl d_Model_place_13 ?_
        refine lv_iload_n X.x X.b d_Model_place_16 rfl (lv_at hl 2 rfl) ?_
        refine lv_iload_n X.x X.b d_Model_place_17 rfl (lv_at hl 1 rfl) ?_
        refine m_ist X hS (Or.inl ⟨by omega, by omega⟩) hM.a14 i rfl (by omega) (by decide) d_Model_place_18 (fun H locs hp hcg hS => ?_)
        have hM := hM.s14 hp hcg
        obtain ⟨s_3, es_3⟩ : ∃ z, z = updR ss 14 (upd (ss 14) i fr_) := ⟨_, rfl⟩
        rw [← es_3] at hM
        refine lv_aload_n X.x X.b d_Model_place_19 rfl (lv_at hl 0 rfl) ?_
        refine m_get (v := .ref (mo + 10)) X ok_Model hM.1 15 (by decide) k_Model_37 rfl d_Model_place_20 ?_
        refine lv_iload_n X.x X.b d_Model_place_23 rfl (lv_at hl 2 rfl) ?_
        refine lv_aload_n X.x X.b d_Model_place_24 rfl (lv_at hl 0 rfl) ?_
        refine lv_iload_n X.x X.b d_Model_place_25 rfl (lv_at hl 2 rfl) ?_
        refine lv_iload_n X.x X.b d_Model_place_26 rfl (lv_at hl 1 rfl) ?_
        have hR := M_Model_sizeOf (k := i) (fr_ := fr_) l g hM (by omega) (by rw [es_3, updR_mf _ _ _ (show 8 ≠ 14 by decide), hE 8 (by decide), updR_mf _ _ _ (show 11 ≠ 14 by decide), hE 11 (by decide)]; exact hn7 i (by omega))
        refine m_callP X hS hR v_Model_162 hM.1 rfl rfl rfl (Nat.le_of_ble_eq_true rfl) hl.1 d_Model_place_27 (by omega) (by decide) ⟨by omega, by omega⟩ (fun locs hS => ?_)
        refine m_ist X hS (Or.inl ⟨by omega, by omega⟩) hM.a15 i rfl (by omega) (by decide) d_Model_place_30 (fun H locs hp hcg hS => ?_)
        have hM := hM.s15 hp hcg
        obtain ⟨s_4, es_4⟩ : ∃ z, z = updR s_3 15 (upd (s_3 15) i (szM s_3 i fr_)) := ⟨_, rfl⟩
        rw [← es_4] at hM
        refine lv_iload_n X.x X.b d_Model_place_31 rfl (lv_at hl 1 rfl) ?_
        refine lv_aload_n X.x X.b d_Model_place_32 rfl (lv_at hl 0 rfl) ?_
        refine m_get (v := .ref (mo + 10)) X ok_Model hM.1 15 (by decide) k_Model_37 rfl d_Model_place_33 ?_
        refine lv_iload_n X.x X.b d_Model_place_36 rfl (lv_at hl 2 rfl) ?_
        refine m_ild (v := szM s_3 i fr_) X hM.a15 i rfl (by omega) (by decide) (show s_4 15 i = szM s_3 i fr_ from (by rw [es_4, updR_hit])) d_Model_place_37 ?_
        refine lv_iadd X.x X.b d_Model_place_38 ?_
        refine lv_istore_n (lv' := [(1, .int (fr_ + (szM s_3 i fr_))), (0, .ref mo), (2, .int (nI i))]) X.x X.b d_Model_place_39 rfl hl (by decide) rfl (fun ls hl => ?_)
        refine lv_iinc (v := nI (i + 1)) (lv' := [(2, .int (nI (i + 1))), (1, .int (fr_ + (szM s_3 i fr_))), (0, .ref mo)]) X.x X.b d_Model_place_40 hl (k := 2) rfl (nI_1 i) (by decide) rfl (fun ls hl => ?_)
        refine lv_goto (tgt := 4) X.x X.b d_Model_place_43 (by decide) ?_
        exact ih (i + 1) (fr_ + (szM s_3 i fr_)) s_4 (by omega) (by omega) (by rw [es_4, es_3]; exact (hE.up _ _ (by decide)).up _ _ (by decide)) _ _ _ hM hS (lv_sub hl [2, 1, 0] rfl)
  exact lp c 0 0 s0 (by omega) (by omega) (same.rf _ _) _ _ _ hM hS (lv_sub hl [2, 1, 0] rfl)
set_option maxRecDepth 100000 in
set_option maxHeartbeats 4000000 in
theorem M_Model_take_o (l : Launch) (g : GG) {mo tq : Nat} {p0 : Nat → Int32} {s0 : Nat → Nat → Int32} {H0 : Heap} (hM : mAt g mo tq p0 s0 H0) {c : Nat} (hc5 : p0 5 = nI c) (hc : c < 121) (k a b v fr_ dp : Int32) (h0 : ¬ k = 0) (h1 : ¬ k = 1) : MM l y_Model_take c_Model_take 8 none 1 0 0 g H0 [.ref mo, .int k, .int a, .int b, .int v, .int fr_, .int dp] (fun q => mo ≤ q ∧ q < mo + 23) (none) (fun H1 => mAt g mo tq (upd p0 5 (nI (c + 1))) (itR s0 c k a b v fr_ dp) H1) := by
  refine MM.of (by decide +kernel) (Nat.le_of_ble_eq_true rfl) ?_
  intro p e s m below meth cd X hH ls hl
  have X : CX g p s m _ meth cd c_Model_take 8 none R_Model _ := X
  have hl : lv_has ls 8 [(0, .ref mo), (1, .int k), (2, .int a), (3, .int b), (4, .int v), (5, .int fr_), (6, .int dp)] := hl
  have hS : va_S (AA (fun q => mo ≤ q ∧ q < mo + 23) H0) H0 H0 [] := va_S.rf
  have hlt0 := hM.lt
  have htq0 := hM.tq
  refine lv_iload_n X.x X.b d_Model_take_0 rfl (lv_at hl 1 rfl) ?_
  refine lv_iconst (v := 1) X.x X.b d_Model_take_1 (by decide) ?_
  refine lv_icmp_ne (tgt := 69) X.x X.b d_Model_take_2 (by decide) (fun c1 => ?_) (fun c1 => ?_)
  · skip
    refine lv_iload_n X.x X.b d_Model_take_69 rfl (lv_at hl 1 rfl) ?_
    refine lv_if_ne (tgt := 117) X.x X.b d_Model_take_70 (by decide) (fun c2 => ?_) (fun c2 => ?_)
    · skip
      refine lv_aload_n X.x X.b d_Model_take_117 rfl (lv_at hl 0 rfl) ?_
      refine lv_iload_n X.x X.b d_Model_take_118 rfl (lv_at hl 1 rfl) ?_
      refine lv_iload_n X.x X.b d_Model_take_119 rfl (lv_at hl 2 rfl) ?_
      refine lv_iload_n X.x X.b d_Model_take_120 rfl (lv_at hl 3 rfl) ?_
      refine lv_iload X.x X.b d_Model_take_121 (lv_at hl 4 rfl) ?_
      refine lv_iload X.x X.b d_Model_take_123 (lv_at hl 5 rfl) ?_
      refine lv_iload X.x X.b d_Model_take_125 (lv_at hl 6 rfl) ?_
      have hR := M_Model_item (c := c) l g hM (by rw [hc5]) (by omega) k a b v fr_ dp
      refine m_callM X hS hR v_Model_151 hM.1 rfl rfl rfl (Nat.le_of_ble_eq_true rfl) hl.1 d_Model_take_127 (by omega) (by decide) ⟨by omega, by omega⟩ (fun q z => by have z : mo ≤ q ∧ q < mo + 23 := z; exact ⟨by omega, by omega⟩) (fun H locs hM hfr hS => ?_)
      obtain ⟨p_1, ep_1⟩ : ∃ z, z = upd p0 5 (nI (c + 1)) := ⟨_, rfl⟩
      rw [← ep_1] at hM
      obtain ⟨s_2, es_2⟩ : ∃ z, z = itR s0 c k a b v fr_ dp := ⟨_, rfl⟩
      rw [← es_2] at hM
      exact m_vret X hS (by omega) (by omega) d_Model_take_130 rfl (by subst es_2; subst ep_1; exact hM)
    · exact absurd c2 h0
  · exact absurd c1 h1
set_option maxRecDepth 100000 in
set_option maxHeartbeats 4000000 in
theorem M_Model_expand_D (l : Launch) (g : GG) {mo tq : Nat} {p0 : Nat → Int32} {s0 : Nat → Nat → Int32} {H0 : Heap} (hM : mAt g mo tq p0 s0 H0) {c : Nat} (hc : c ≤ 20) (hD : dLn c s0) (hf3 : p0 3 = 0) : MM l y_Model_expand c_Model_expand 13 none 3 3 18 g H0 [.ref mo] (fun q => mo ≤ q ∧ q < mo + 23) (none) (fun H1 => ∃ p s, mAt g mo tq p s H1 ∧ (p 0 = p0 0 ∧ p 4 = p0 4) ∧ (s 1 = s0 1 ∧ s 2 = s0 2) ∧ dxP c p s ∧ (s 11 c = 0 ∧ s 12 c = -1 ∧ s 13 c = 0) ∧ ∀ j, j < 8 → s 25 j = 0 ∧ s 27 j = -1) := by
  refine MM.of (by decide +kernel) (Nat.le_of_ble_eq_true rfl) ?_
  intro p e s m below meth cd X hH ls hl
  have X : CX g p s m _ meth cd c_Model_expand 13 none R_Model _ := X
  have hl : lv_has ls 13 [(0, .ref mo)] := hl
  have hS : va_S (AA (fun q => mo ≤ q ∧ q < mo + 23) H0) H0 H0 [] := va_S.rf
  have hlt0 := hM.lt
  have htq0 := hM.tq
  refine lv_bipush (v := 6) X.x X.b d_Model_expand_0 (by decide) ?_
  obtain ⟨q2, hq2⟩ := sz_of hS
  have hlt2 := hM.lt
  have hsz2 := hS.1
  refine m_newI X hS hq2 6 (by decide) (by decide) (by decide) (by omega) (by omega) d_Model_expand_2 (fun H hL2 hgr hS hz2 => ?_)
  have hfr := fr.of_grow (A := noA) hgr
  have hM := hM.frame hfr (fun q z => z.elim)
  refine lv_astore_n (lv' := [(1, .ref q2), (0, .ref mo)]) X.x X.b d_Model_expand_4 rfl hl (by decide) rfl (fun ls hl => ?_)
  refine lv_bipush (v := 6) X.x X.b d_Model_expand_5 (by decide) ?_
  obtain ⟨q7, hq7⟩ := sz_of hS
  have hlt7 := hM.lt
  have hsz7 := hS.1
  refine m_newI X hS hq7 6 (by decide) (by decide) (by decide) (by omega) (by omega) d_Model_expand_7 (fun H hL7 hgr hS hz2 => ?_)
  have hfr := fr.of_grow (A := noA) hgr
  have hM := hM.frame hfr (fun q z => z.elim)
  have hL2 := hL2.fr hfr (fun z => z)
  refine lv_astore_n (lv' := [(2, .ref q7), (1, .ref q2), (0, .ref mo)]) X.x X.b d_Model_expand_9 rfl hl (by decide) rfl (fun ls hl => ?_)
  refine lv_bipush (v := 6) X.x X.b d_Model_expand_10 (by decide) ?_
  obtain ⟨q12, hq12⟩ := sz_of hS
  have hlt12 := hM.lt
  have hsz12 := hS.1
  refine m_newI X hS hq12 6 (by decide) (by decide) (by decide) (by omega) (by omega) d_Model_expand_12 (fun H hL12 hgr hS hz2 => ?_)
  have hfr := fr.of_grow (A := noA) hgr
  have hM := hM.frame hfr (fun q z => z.elim)
  have hL2 := hL2.fr hfr (fun z => z)
  have hL7 := hL7.fr hfr (fun z => z)
  refine lv_astore_n (lv' := [(3, .ref q12), (2, .ref q7), (1, .ref q2), (0, .ref mo)]) X.x X.b d_Model_expand_14 rfl hl (by decide) rfl (fun ls hl => ?_)
  refine lv_iconst (v := 0) X.x X.b d_Model_expand_15 (by decide) ?_
  refine lv_istore (lv' := [(4, .int 0), (3, .ref q12), (2, .ref q7), (1, .ref q2), (0, .ref mo)]) X.x X.b d_Model_expand_16 hl (by decide) rfl (fun ls hl => ?_)
  refine lv_iconst (v := 0) X.x X.b d_Model_expand_18 (by decide) ?_
  refine lv_istore (lv' := [(5, .int 0), (4, .int 0), (3, .ref q12), (2, .ref q7), (1, .ref q2), (0, .ref mo)]) X.x X.b d_Model_expand_19 hl (by decide) rfl (fun ls hl => ?_)
  refine lv_aload_n X.x X.b d_Model_expand_21 rfl (lv_at hl 5 rfl) ?_
  refine lv_iconst (v := 0) X.x X.b d_Model_expand_22 (by decide) ?_
  refine m_put X ok_Model hS (Or.inl ⟨by omega, by omega⟩) hM.1 5 (by decide) k_Model_132 rfl (ok_Model.2.2.1 _ (by decide)) rfl rfl (Nat.le_of_ble_eq_true rfl) d_Model_expand_23 (fun H locs hp hcg hS => ?_)
  have hM := hM.f5 hp hcg
  obtain ⟨p_1, ep_1⟩ : ∃ z, z = upd p0 5 0 := ⟨_, rfl⟩
  rw [← ep_1] at hM
  have hL2 := hL2.off hcg (by omega)
  have hL7 := hL7.off hcg (by omega)
  have hL12 := hL12.off hcg (by omega)
  obtain ⟨p1, hp1⟩ : ∃ z, z = p_1 := ⟨_, rfl⟩
  rw [← hp1] at hM
  have hp1 : p1 = upd p0 5 0 := by rw [hp1, ep_1]
  refine lv_iconst (v := 0) X.x X.b d_Model_expand_26 (by decide) ?_
  refine lv_istore (lv' := [(6, .int 0), (5, .int 0), (4, .int 0), (3, .ref q12), (2, .ref q7), (1, .ref q2), (0, .ref mo)]) X.x X.b d_Model_expand_27 hl (by decide) rfl (fun ls hl => ?_)
  have lp : ∀ (n i : Nat) (s1 : Nat → Nat → Int32), n = 8 - i → i < 5000 → ((∀ j, j < i → s1 25 j = 0 ∧ s1 27 j = -1) ∧ same [25, 27] s0 s1) → ∀ (H : Heap) (locs : List Loc) (ls : Array Slot), mAt g mo tq p1 s1 H → pt g q2 (.inl (g.2 0, 6, .inl (fun _ => 0))) H → pt g q7 (.inl (g.2 0, 6, .inl (fun _ => 0))) H → pt g q12 (.inl (g.2 0, 6, .inl (fun _ => 0))) H → va_S (AA (fun q => mo ≤ q ∧ q < mo + 23) H0) H0 H locs → lv_has ls 13 [(0, .ref mo), (1, .ref q2), (2, .ref q7), (3, .ref q12), (4, .int 0), (5, .int 0), (6, .int (nI i))] → W p l e (rmK 3 3 18) s m ([.ref mo] : List Value).toArray below meth cd H locs 3 18 (MQ below (QM (none) (fun H1 => ∃ p s, mAt g mo tq p s H1 ∧ (p 0 = p0 0 ∧ p 4 = p0 4) ∧ (s 1 = s0 1 ∧ s 2 = s0 2) ∧ dxP c p s ∧ (s 11 c = 0 ∧ s 12 c = -1 ∧ s 13 c = 0) ∧ ∀ j, j < 8 → s 25 j = 0 ∧ s 27 j = -1) (fun q => mo ≤ q ∧ q < mo + 23) H0) ([.ref mo] : List Value).toArray s 3 18 (AA (fun q => mo ≤ q ∧ q < mo + 23) H0)) (F0 m 29 ls []) := by
    intro n
    induction n with
    | zero =>
      intro i s1 hin hi5 hE H locs ls hM hL2 hL7 hL12 hS hl
      refine lv_iload X.x X.b d_Model_expand_29 (lv_at hl 6 rfl) ?_
      refine lv_bipush (v := 8) X.x X.b d_Model_expand_31 (by decide) ?_
      refine lv_icmp_ge (tgt := 58) X.x X.b d_Model_expand_33 (by decide) (fun c1 => ?_) (fun c1 => ?_)
      · skip
        have c1q := Int32.not_lt.mpr c1
        have lp2 : ∀ (n2 i : Nat) (pp : Nat → Int32) (ss : Nat → Nat → Int32) (fn : Nat → Int32), n2 = c - i → i < 5000 → ((pp 5 = nI i ∧ pp 3 = 0 ∧ pp 0 = p0 0 ∧ pp 4 = p0 4) ∧ fn 0 = nI i ∧ (i ≤ c ∧ (∀ k, k < i → ss 8 k = 2 ∧ ss 9 k = -1 ∧ ss 10 k = -1)) ∧ (ss 1 = s0 1 ∧ ss 2 = s0 2) ∧ (∀ j, j < 8 → ss 25 j = 0 ∧ ss 27 j = -1)) → ∀ (H : Heap) (locs : List Loc) (ls : Array Slot), mAt g mo tq pp ss H → pt g q2 (.inl (g.2 0, 6, .inl (fun _ => 0))) H → pt g q7 (.inl (g.2 0, 6, .inl fn)) H → pt g q12 (.inl (g.2 0, 6, .inl (fun _ => 0))) H → va_S (AA (fun q => mo ≤ q ∧ q < mo + 23) H0) H0 H locs → lv_has ls 13 [(0, .ref mo), (1, .ref q2), (2, .ref q7), (3, .ref q12), (4, .int 0), (5, .int (nI i))] → W p l e (rmK 3 3 18) s m ([.ref mo] : List Value).toArray below meth cd H locs 3 18 (MQ below (QM (none) (fun H1 => ∃ p s, mAt g mo tq p s H1 ∧ (p 0 = p0 0 ∧ p 4 = p0 4) ∧ (s 1 = s0 1 ∧ s 2 = s0 2) ∧ dxP c p s ∧ (s 11 c = 0 ∧ s 12 c = -1 ∧ s 13 c = 0) ∧ ∀ j, j < 8 → s 25 j = 0 ∧ s 27 j = -1) (fun q => mo ≤ q ∧ q < mo + 23) H0) ([.ref mo] : List Value).toArray s 3 18 (AA (fun q => mo ≤ q ∧ q < mo + 23) H0)) (F0 m 58 ls []) := by
          intro n2
          induction n2 with
          | zero =>
            intro i pp ss fn hin2 hi52 hX H locs ls hM hL2 hL7 hL12 hS hl
            obtain ⟨⟨hE5, hE3, hE0, hE4⟩, hEn, ⟨hic, hEk⟩, ⟨hE1, hE2⟩, hEj⟩ := hX
            refine lv_iload X.x X.b d_Model_expand_58 (lv_at hl 4 rfl) ?_
            refine lv_if_lt (tgt := 369) X.x X.b d_Model_expand_60 (by decide) (fun c2 => ?_) (fun c2 => ?_)
            · exact absurd c2 (by decide)
            · skip
              have c2q := Int32.not_lt.mp c2
              refine lv_aload_n X.x X.b d_Model_expand_63 rfl (lv_at hl 0 rfl) ?_
              refine m_get (v := .int 0) X ok_Model hM.1 3 (by decide) k_Model_126 (congrArg (fun z => some (Value.int z)) (show pp 3 = 0 from (by rw [hE3]))) d_Model_expand_64 ?_
              refine lv_if_ne (tgt := 369) X.x X.b d_Model_expand_67 (by decide) (fun c3 => ?_) (fun c3 => ?_)
              · exact absurd c3 (by decide)
              · skip
                refine lv_aload_n X.x X.b d_Model_expand_70 rfl (lv_at hl 1 rfl) ?_
                refine lv_iload X.x X.b d_Model_expand_71 (lv_at hl 4 rfl) ?_
                refine m_ild (v := 0) X hL2 0 rfl (by omega) (by decide) (show (fun _ => 0) 0 = 0 from rfl) d_Model_expand_73 ?_
                refine lv_istore (lv' := [(6, .int 0), (0, .ref mo), (1, .ref q2), (2, .ref q7), (3, .ref q12), (4, .int 0), (5, .int (nI i))]) X.x X.b d_Model_expand_74 hl (by decide) rfl (fun ls hl => ?_)
                refine lv_aload_n X.x X.b d_Model_expand_76 rfl (lv_at hl 3 rfl) ?_
                refine lv_iload X.x X.b d_Model_expand_77 (lv_at hl 5 rfl) ?_
                refine m_ild (v := nI i) X hL7 0 rfl (by omega) (by decide) (show fn 0 = nI i from (by rw [hEn])) d_Model_expand_79 ?_
                refine lv_aload_n X.x X.b d_Model_expand_80 rfl (lv_at hl 1 rfl) ?_
                refine m_get (v := .ref (mo + 2)) X ok_Model hM.1 2 (by decide) k_Model_13 rfl d_Model_expand_81 ?_
                refine lv_iload X.x X.b d_Model_expand_84 (lv_at hl 0 rfl) ?_
                refine m_ild (v := nI c) X hM.a2 0 rfl (by omega) (by decide) (show ss 2 0 = nI c from (by rw [hE2, hD.1])) d_Model_expand_86 ?_
                refine lv_icmp_ne (tgt := 96) X.x X.b d_Model_expand_87 (by decide) (fun c4 => ?_) (fun c4 => ?_)
                · exact absurd (by rw [show i = c by omega]) c4
                · skip
                  refine lv_iinc (v := (-1)) (lv' := [(4, .int (-1)), (6, .int 0), (0, .ref mo), (1, .ref q2), (2, .ref q7), (3, .ref q12), (5, .int (nI i))]) X.x X.b d_Model_expand_90 hl (k := 5) rfl (by decide) (by decide) rfl (fun ls hl => ?_)
                  refine lv_goto (tgt := 58) X.x X.b d_Model_expand_93 (by decide) ?_
                  refine lv_iload X.x X.b d_Model_expand_58 (lv_at hl 0 rfl) ?_
                  refine lv_if_lt (tgt := 369) X.x X.b d_Model_expand_60 (by decide) (fun c5 => ?_) (fun c5 => ?_)
                  · skip
                    have c5q := Int32.not_le.mpr c5
                    refine lv_aload_n X.x X.b d_Model_expand_369 rfl (lv_at hl 2 rfl) ?_
                    refine m_get (v := .int 0) X ok_Model hM.1 3 (by decide) k_Model_126 (congrArg (fun z => some (Value.int z)) (show pp 3 = 0 from (by rw [hE3]))) d_Model_expand_370 ?_
                    refine lv_if_ne (tgt := 387) X.x X.b d_Model_expand_373 (by decide) (fun c6 => ?_) (fun c6 => ?_)
                    · exact absurd c3 c6
                    · skip
                      refine lv_aload_n X.x X.b d_Model_expand_376 rfl (lv_at hl 2 rfl) ?_
                      refine lv_bipush (v := 6) X.x X.b d_Model_expand_377 (by decide) ?_
                      refine lv_iconst (v := -1) X.x X.b d_Model_expand_379 (by decide) ?_
                      refine lv_iconst (v := -1) X.x X.b d_Model_expand_380 (by decide) ?_
                      refine lv_iconst (v := 0) X.x X.b d_Model_expand_381 (by decide) ?_
                      refine lv_iconst (v := -1) X.x X.b d_Model_expand_382 (by decide) ?_
                      refine lv_iconst (v := 0) X.x X.b d_Model_expand_383 (by decide) ?_
                      have hR := M_Model_item (c := i) l g hM (by rw [hE5]) (by omega) 6 (-1) (-1) 0 (-1) 0
                      refine m_callM X hS hR v_Model_151 hM.1 rfl rfl rfl (Nat.le_of_ble_eq_true rfl) hl.1 d_Model_expand_384 (by omega) (by decide) ⟨by omega, by omega⟩ (fun q z => by have z : mo ≤ q ∧ q < mo + 23 := z; exact ⟨by omega, by omega⟩) (fun H locs hM hfr hS => ?_)
                      have hL2 := hL2.fr hfr (fun z => by have z : mo ≤ q2 ∧ q2 < mo + 23 := z; omega)
                      have hL7 := hL7.fr hfr (fun z => by have z : mo ≤ q7 ∧ q7 < mo + 23 := z; omega)
                      have hL12 := hL12.fr hfr (fun z => by have z : mo ≤ q12 ∧ q12 < mo + 23 := z; omega)
                      obtain ⟨p_2, ep_2⟩ : ∃ z, z = upd pp 5 (nI (i + 1)) := ⟨_, rfl⟩
                      rw [← ep_2] at hM
                      obtain ⟨s_3, es_3⟩ : ∃ z, z = itR ss i 6 (-1) (-1) 0 (-1) 0 := ⟨_, rfl⟩
                      rw [← es_3] at hM
                      have hx : i = c := by omega
                      subst hx
                      exact m_vret X hS (by omega) (by omega) d_Model_expand_387 rfl ⟨_, _, hM, ⟨by rw [ep_2]; exact (upd_mi _ _ _ (by decide)).trans hE0, by rw [ep_2]; exact (upd_mi _ _ _ (by decide)).trans hE4⟩, ⟨by rw [es_3]; exact (itR_o ss i 6 (-1) (-1) 0 (-1) 0 1 (by decide)).trans hE1, by rw [es_3]; exact (itR_o ss i 6 (-1) (-1) 0 (-1) 0 2 (by decide)).trans hE2⟩, ⟨⟨by rw [ep_2]; exact (upd_mi _ _ _ (by decide)).trans hE3, by rw [ep_2]; exact upd_hit _ _ _⟩, fun k hk => by rw [es_3, itR_ne ss i 6 (-1) (-1) 0 (-1) 0 (show k ≠ i by omega) 8, itR_ne ss i 6 (-1) (-1) 0 (-1) 0 (show k ≠ i by omega) 9, itR_ne ss i 6 (-1) (-1) 0 (-1) 0 (show k ≠ i by omega) 10]; exact hEk k hk, by rw [es_3]; exact (itR_at ss i 6 (-1) (-1) 0 (-1) 0).1⟩, by rw [es_3]; exact ⟨(itR_at ss i 6 (-1) (-1) 0 (-1) 0).2.2.2.1, (itR_at ss i 6 (-1) (-1) 0 (-1) 0).2.2.2.2.1, (itR_at ss i 6 (-1) (-1) 0 (-1) 0).2.2.2.2.2⟩, fun j hj => by rw [es_3, itR_o ss i 6 (-1) (-1) 0 (-1) 0 25 (by decide), itR_o ss i 6 (-1) (-1) 0 (-1) 0 27 (by decide)]; exact hEj j hj⟩
                  · exact absurd c5 (by decide)
          | succ n2 ih2 =>
            intro i pp ss fn hin2 hi52 hX H locs ls hM hL2 hL7 hL12 hS hl
            obtain ⟨⟨hE5, hE3, hE0, hE4⟩, hEn, ⟨hic, hEk⟩, ⟨hE1, hE2⟩, hEj⟩ := hX
            refine lv_iload X.x X.b d_Model_expand_58 (lv_at hl 4 rfl) ?_
            refine lv_if_lt (tgt := 369) X.x X.b d_Model_expand_60 (by decide) (fun c7 => ?_) (fun c7 => ?_)
            · exact absurd c7 (by decide)
            · skip
              have c7q := Int32.not_lt.mp c7
              refine lv_aload_n X.x X.b d_Model_expand_63 rfl (lv_at hl 0 rfl) ?_
              refine m_get (v := .int 0) X ok_Model hM.1 3 (by decide) k_Model_126 (congrArg (fun z => some (Value.int z)) (show pp 3 = 0 from (by rw [hE3]))) d_Model_expand_64 ?_
              refine lv_if_ne (tgt := 369) X.x X.b d_Model_expand_67 (by decide) (fun c8 => ?_) (fun c8 => ?_)
              · exact absurd c8 (by decide)
              · skip
                refine lv_aload_n X.x X.b d_Model_expand_70 rfl (lv_at hl 1 rfl) ?_
                refine lv_iload X.x X.b d_Model_expand_71 (lv_at hl 4 rfl) ?_
                refine m_ild (v := 0) X hL2 0 rfl (by omega) (by decide) (show (fun _ => 0) 0 = 0 from rfl) d_Model_expand_73 ?_
                refine lv_istore (lv' := [(6, .int 0), (0, .ref mo), (1, .ref q2), (2, .ref q7), (3, .ref q12), (4, .int 0), (5, .int (nI i))]) X.x X.b d_Model_expand_74 hl (by decide) rfl (fun ls hl => ?_)
                refine lv_aload_n X.x X.b d_Model_expand_76 rfl (lv_at hl 3 rfl) ?_
                refine lv_iload X.x X.b d_Model_expand_77 (lv_at hl 5 rfl) ?_
                refine m_ild (v := nI i) X hL7 0 rfl (by omega) (by decide) (show fn 0 = nI i from (by rw [hEn])) d_Model_expand_79 ?_
                refine lv_aload_n X.x X.b d_Model_expand_80 rfl (lv_at hl 1 rfl) ?_
                refine m_get (v := .ref (mo + 2)) X ok_Model hM.1 2 (by decide) k_Model_13 rfl d_Model_expand_81 ?_
                refine lv_iload X.x X.b d_Model_expand_84 (lv_at hl 0 rfl) ?_
                refine m_ild (v := nI c) X hM.a2 0 rfl (by omega) (by decide) (show ss 2 0 = nI c from (by rw [hE2, hD.1])) d_Model_expand_86 ?_
                refine lv_icmp_ne (tgt := 96) X.x X.b d_Model_expand_87 (by decide) (fun c9 => ?_) (fun c9 => ?_)
                · skip
                  refine lv_aload_n X.x X.b d_Model_expand_96 rfl (lv_at hl 3 rfl) ?_
                  refine lv_iload X.x X.b d_Model_expand_97 (lv_at hl 5 rfl) ?_
                  refine lv_dup2_11 X.x X.b d_Model_expand_99 rfl rfl ?_
                  refine m_ild (v := nI i) X hL7 0 rfl (by omega) (by decide) (show fn 0 = nI i from (by rw [hEn])) d_Model_expand_100 ?_
                  refine lv_dup_x2 X.x X.b d_Model_expand_101 rfl rfl rfl ?_
                  refine lv_iconst (v := 1) X.x X.b d_Model_expand_102 (by decide) ?_
                  refine lv_iadd X.x X.b d_Model_expand_103 ?_
                  refine lv_topi (fun z ez => ?_)
                  rw [show ((nI i) + 1 : Int32) = nI (i + 1) from nI_ad _ _] at ez
                  subst ez
                  refine m_ist X hS (Or.inr (by omega)) hL7 0 rfl (by omega) (by decide) d_Model_expand_104 (fun H locs hp hcg hS => ?_)
                  have hL7 := hp
                  obtain ⟨r_4, er_4⟩ : ∃ z, z = upd fn 0 (nI (i + 1)) := ⟨_, rfl⟩
                  rw [← er_4] at hL7
                  have hM := hM.frame (fr.of_chg (A := fun q => q = q7) hcg rfl) (fun q z => by have z : q = q7 := z; have := hM.tq; omega)
                  have hL2 := hL2.off hcg (by omega)
                  have hL12 := hL12.off hcg (by omega)
                  refine lv_istore (lv' := [(7, .int (nI i)), (6, .int 0), (0, .ref mo), (1, .ref q2), (2, .ref q7), (3, .ref q12), (4, .int 0), (5, .int (nI i))]) X.x X.b d_Model_expand_105 hl (by decide) rfl (fun ls hl => ?_)
                  refine lv_iload X.x X.b d_Model_expand_107 (lv_at hl 1 rfl) ?_
                  refine lv_iload X.x X.b d_Model_expand_109 (lv_at hl 0 rfl) ?_
                  refine m_callSP X hS (show MP l y_Model_at c_Model_at 2 (some .int) 0 g _ [.int 0, .int (nI i)] (some (.int (nI (5 * i)))) from (by have z := M_Model_at (H0 := H) l g 0 (nI i); rw [at0 i] at z; exact z)) s_Model_96 rfl rfl (Nat.le_of_ble_eq_true rfl) hl.1 d_Model_expand_111 (by omega) (by decide) ⟨by omega, by omega⟩ (fun locs hS => ?_)
                  refine lv_istore (lv' := [(8, .int (nI (5 * i))), (7, .int (nI i)), (6, .int 0), (0, .ref mo), (1, .ref q2), (2, .ref q7), (3, .ref q12), (4, .int 0), (5, .int (nI i))]) X.x X.b d_Model_expand_114 hl (by decide) rfl (fun ls hl => ?_)
                  refine lv_aload_n X.x X.b d_Model_expand_116 rfl (lv_at hl 5 rfl) ?_
                  refine lv_iconst (v := 0) X.x X.b d_Model_expand_117 (by decide) ?_
                  refine m_ild (v := nI (i + 1)) X hL7 0 rfl (by omega) (by decide) (show r_4 0 = nI (i + 1) from (by rw [er_4, upd_hit])) d_Model_expand_118 ?_
                  refine lv_iconst (v := 1) X.x X.b d_Model_expand_119 (by decide) ?_
                  refine lv_isub X.x X.b d_Model_expand_120 ?_
                  refine lv_topi (fun z ez => ?_)
                  rw [nI_pred] at ez
                  subst ez
                  refine lv_istore (lv' := [(9, .int (nI i)), (8, .int (nI (5 * i))), (7, .int (nI i)), (6, .int 0), (0, .ref mo), (1, .ref q2), (2, .ref q7), (3, .ref q12), (4, .int 0), (5, .int (nI i))]) X.x X.b d_Model_expand_121 hl (by decide) rfl (fun ls hl => ?_)
                  refine lv_aload_n X.x X.b d_Model_expand_123 rfl (lv_at hl 4 rfl) ?_
                  refine m_get (v := .ref tq) X ok_Model hM.1 1 (by decide) k_Model_9 rfl d_Model_expand_124 ?_
                  refine lv_iload X.x X.b d_Model_expand_127 (lv_at hl 1 rfl) ?_
                  refine m_ild (v := 2) X hM.a1 (5 * i) rfl (by omega) (by decide) (show ss 1 (5 * i) = 2 from (by rw [hE1, (hD.2 i (by omega)).1])) d_Model_expand_129 ?_
                  refine lv_istore (lv' := [(10, .int 2), (9, .int (nI i)), (8, .int (nI (5 * i))), (7, .int (nI i)), (6, .int 0), (0, .ref mo), (1, .ref q2), (2, .ref q7), (3, .ref q12), (4, .int 0), (5, .int (nI i))]) X.x X.b d_Model_expand_130 hl (by decide) rfl (fun ls hl => ?_)
                  refine lv_aload_n X.x X.b d_Model_expand_132 rfl (lv_at hl 5 rfl) ?_
                  refine m_get (v := .ref tq) X ok_Model hM.1 1 (by decide) k_Model_9 rfl d_Model_expand_133 ?_
                  refine lv_iload X.x X.b d_Model_expand_136 (lv_at hl 2 rfl) ?_
                  refine lv_iconst (v := 3) X.x X.b d_Model_expand_138 (by decide) ?_
                  refine lv_iadd X.x X.b d_Model_expand_139 ?_
                  refine lv_topi (fun z ez => ?_)
                  rw [show ((nI (5 * i)) + 3 : Int32) = nI (5 * i + 3) from nI_ad _ _] at ez
                  subst ez
                  refine m_ild (v := 0) X hM.a1 (5 * i + 3) rfl (by omega) (by decide) (show ss 1 (5 * i + 3) = 0 from (by rw [hE1, (hD.2 i (by omega)).2.2.2.1])) d_Model_expand_140 ?_
                  refine lv_aload_n X.x X.b d_Model_expand_141 rfl (lv_at hl 5 rfl) ?_
                  refine m_get (v := .ref tq) X ok_Model hM.1 1 (by decide) k_Model_9 rfl d_Model_expand_142 ?_
                  refine lv_iload X.x X.b d_Model_expand_145 (lv_at hl 2 rfl) ?_
                  refine lv_iconst (v := 4) X.x X.b d_Model_expand_147 (by decide) ?_
                  refine lv_iadd X.x X.b d_Model_expand_148 ?_
                  refine lv_topi (fun z ez => ?_)
                  rw [show ((nI (5 * i)) + 4 : Int32) = nI (5 * i + 4) from nI_ad _ _] at ez
                  subst ez
                  refine m_ild (v := 0) X hM.a1 (5 * i + 4) rfl (by omega) (by decide) (show ss 1 (5 * i + 4) = 0 from (by rw [hE1, (hD.2 i (by omega)).2.2.2.2])) d_Model_expand_149 ?_
                  refine lv_iconst (v := 1) X.x X.b d_Model_expand_150 (by decide) ?_
                  refine lv_icmp_ne (tgt := 161) X.x X.b d_Model_expand_151 (by decide) (fun c10 => ?_) (fun c10 => ?_)
                  · skip
                    refine lv_iconst (v := 0) X.x X.b d_Model_expand_161 (by decide) ?_
                    refine lv_iadd X.x X.b d_Model_expand_162 ?_
                    rw [show (0 + 0 : Int32) = 0 from by decide]
                    refine lv_istore (lv' := [(11, .int 0), (10, .int 2), (9, .int (nI i)), (8, .int (nI (5 * i))), (7, .int (nI i)), (6, .int 0), (0, .ref mo), (1, .ref q2), (2, .ref q7), (3, .ref q12), (4, .int 0), (5, .int (nI i))]) X.x X.b d_Model_expand_163 hl (by decide) rfl (fun ls hl => ?_)
                    refine lv_iinc (v := nI (i + 1)) (lv' := [(5, .int (nI (i + 1))), (11, .int 0), (10, .int 2), (9, .int (nI i)), (8, .int (nI (5 * i))), (7, .int (nI i)), (6, .int 0), (0, .ref mo), (1, .ref q2), (2, .ref q7), (3, .ref q12), (4, .int 0)]) X.x X.b d_Model_expand_165 hl (k := 11) rfl (nI_1 i) (by decide) rfl (fun ls hl => ?_)
                    refine lv_iload X.x X.b d_Model_expand_168 (lv_at hl 0 rfl) ?_
                    refine lv_sipush (v := 400) X.x X.b d_Model_expand_170 (by decide) ?_
                    refine lv_icmp_gt (tgt := 193) X.x X.b d_Model_expand_173 (by decide) (fun c11 => ?_) (fun c11 => ?_)
                    · exact absurd ((nI_ltI (a := 400) (b := i + 1) (by omega) (by omega)).mp c11) (by omega)
                    · skip
                      have c11q := Int32.not_lt.mp c11
                      refine lv_iload X.x X.b d_Model_expand_176 (lv_at hl 2 rfl) ?_
                      refine m_callSP X hS (M_Model_makes l g 2) s_Model_138 rfl rfl (Nat.le_of_ble_eq_true rfl) hl.1 d_Model_expand_178 (by omega) (by decide) ⟨by omega, by omega⟩ (fun locs hS => ?_)
                      refine lv_if_eq (tgt := 203) X.x X.b d_Model_expand_181 (by decide) (fun c12 => ?_) (fun c12 => ?_)
                      · exact absurd (by decide : (2 : Int32) < 8) (b2i_0.mp c12)
                      · skip
                        have c12 := b2i_n0 c12
                        refine lv_aload_n X.x X.b d_Model_expand_184 rfl (lv_at hl 7 rfl) ?_
                        refine m_get (v := .int (nI i)) X ok_Model hM.1 5 (by decide) k_Model_132 (congrArg (fun z => some (Value.int z)) (show pp 5 = nI i from (by rw [hE5]))) d_Model_expand_185 ?_
                        refine lv_bipush (v := 120) X.x X.b d_Model_expand_188 (by decide) ?_
                        refine lv_icmp_ne (tgt := 203) X.x X.b d_Model_expand_190 (by decide) (fun c13 => ?_) (fun c13 => ?_)
                        · skip
                          refine lv_iload X.x X.b d_Model_expand_203 (lv_at hl 2 rfl) ?_
                          refine lv_bipush (v := 10) X.x X.b d_Model_expand_205 (by decide) ?_
                          refine lv_icmp_ne (tgt := 259) X.x X.b d_Model_expand_207 (by decide) (fun c14 => ?_) (fun c14 => ?_)
                          · skip
                            refine lv_iload X.x X.b d_Model_expand_259 (lv_at hl 2 rfl) ?_
                            refine lv_bipush (v := 8) X.x X.b d_Model_expand_261 (by decide) ?_
                            refine lv_icmp_ne (tgt := 329) X.x X.b d_Model_expand_263 (by decide) (fun c15 => ?_) (fun c15 => ?_)
                            · skip
                              refine lv_iload X.x X.b d_Model_expand_329 (lv_at hl 2 rfl) ?_
                              refine lv_bipush (v := 9) X.x X.b d_Model_expand_331 (by decide) ?_
                              refine lv_icmp_eq (tgt := 366) X.x X.b d_Model_expand_333 (by decide) (fun c16 => ?_) (fun c16 => ?_)
                              · exact absurd c16 (by decide)
                              · skip
                                refine lv_aload_n X.x X.b d_Model_expand_336 rfl (lv_at hl 7 rfl) ?_
                                refine lv_iload X.x X.b d_Model_expand_337 (lv_at hl 2 rfl) ?_
                                refine lv_aload_n X.x X.b d_Model_expand_339 rfl (lv_at hl 7 rfl) ?_
                                refine m_get (v := .ref tq) X ok_Model hM.1 1 (by decide) k_Model_9 rfl d_Model_expand_340 ?_
                                refine lv_iload X.x X.b d_Model_expand_343 (lv_at hl 4 rfl) ?_
                                refine lv_iconst (v := 1) X.x X.b d_Model_expand_345 (by decide) ?_
                                refine lv_iadd X.x X.b d_Model_expand_346 ?_
                                refine lv_topi (fun z ez => ?_)
                                rw [show ((nI (5 * i)) + 1 : Int32) = nI (5 * i + 1) from nI_ad _ _] at ez
                                subst ez
                                refine m_ild (v := (-1)) X hM.a1 (5 * i + 1) rfl (by omega) (by decide) (show ss 1 (5 * i + 1) = (-1) from (by rw [hE1, (hD.2 i (by omega)).2.1])) d_Model_expand_347 ?_
                                refine lv_aload_n X.x X.b d_Model_expand_348 rfl (lv_at hl 7 rfl) ?_
                                refine m_get (v := .ref tq) X ok_Model hM.1 1 (by decide) k_Model_9 rfl d_Model_expand_349 ?_
                                refine lv_iload X.x X.b d_Model_expand_352 (lv_at hl 4 rfl) ?_
                                refine lv_iconst (v := 2) X.x X.b d_Model_expand_354 (by decide) ?_
                                refine lv_iadd X.x X.b d_Model_expand_355 ?_
                                refine lv_topi (fun z ez => ?_)
                                rw [show ((nI (5 * i)) + 2 : Int32) = nI (5 * i + 2) from nI_ad _ _] at ez
                                subst ez
                                refine m_ild (v := (-1)) X hM.a1 (5 * i + 2) rfl (by omega) (by decide) (show ss 1 (5 * i + 2) = (-1) from (by rw [hE1, (hD.2 i (by omega)).2.2.1])) d_Model_expand_356 ?_
                                refine lv_iload X.x X.b d_Model_expand_357 (lv_at hl 1 rfl) ?_
                                refine lv_iload X.x X.b d_Model_expand_359 (lv_at hl 3 rfl) ?_
                                refine lv_iload X.x X.b d_Model_expand_361 (lv_at hl 11 rfl) ?_
                                have hR := M_Model_take_o (c := i) l g hM (by rw [hE5]) (by omega) 2 (-1) (-1) 0 (nI i) 0 (by decide) (by decide)
                                refine m_callM X hS hR v_Model_147 hM.1 rfl rfl rfl (Nat.le_of_ble_eq_true rfl) hl.1 d_Model_expand_363 (by omega) (by decide) ⟨by omega, by omega⟩ (fun q z => by have z : mo ≤ q ∧ q < mo + 23 := z; exact ⟨by omega, by omega⟩) (fun H locs hM hfr hS => ?_)
                                have hL2 := hL2.fr hfr (fun z => by have z : mo ≤ q2 ∧ q2 < mo + 23 := z; omega)
                                have hL7 := hL7.fr hfr (fun z => by have z : mo ≤ q7 ∧ q7 < mo + 23 := z; omega)
                                have hL12 := hL12.fr hfr (fun z => by have z : mo ≤ q12 ∧ q12 < mo + 23 := z; omega)
                                obtain ⟨p_5, ep_5⟩ : ∃ z, z = upd pp 5 (nI (i + 1)) := ⟨_, rfl⟩
                                rw [← ep_5] at hM
                                obtain ⟨s_6, es_6⟩ : ∃ z, z = itR ss i 2 (-1) (-1) 0 (nI i) 0 := ⟨_, rfl⟩
                                rw [← es_6] at hM
                                refine lv_goto (tgt := 58) X.x X.b d_Model_expand_366 (by decide) ?_
                                exact ih2 (i + 1) p_5 s_6 r_4 (by omega) (by omega) (⟨⟨by rw [ep_5]; exact upd_hit _ _ _, by rw [ep_5]; exact (upd_mi _ _ _ (by decide)).trans hE3, by rw [ep_5]; exact (upd_mi _ _ _ (by decide)).trans hE0, by rw [ep_5]; exact (upd_mi _ _ _ (by decide)).trans hE4⟩, by rw [er_4]; exact upd_hit _ _ _, ⟨by omega, fun k hk => by rw [es_6]; by_cases z : k = i <;> first | (subst z; exact ⟨(itR_at ss k 2 (-1) (-1) 0 (nI k) 0).1, (itR_at ss k 2 (-1) (-1) 0 (nI k) 0).2.1, (itR_at ss k 2 (-1) (-1) 0 (nI k) 0).2.2.1⟩) | (rw [itR_ne ss i 2 (-1) (-1) 0 (nI i) 0 z 8, itR_ne ss i 2 (-1) (-1) 0 (nI i) 0 z 9, itR_ne ss i 2 (-1) (-1) 0 (nI i) 0 z 10]; exact hEk k (by omega))⟩, ⟨by rw [es_6]; exact (itR_o ss i 2 (-1) (-1) 0 (nI i) 0 1 (by decide)).trans hE1, by rw [es_6]; exact (itR_o ss i 2 (-1) (-1) 0 (nI i) 0 2 (by decide)).trans hE2⟩, fun j hj => by rw [es_6]; rw [itR_o ss i 2 (-1) (-1) 0 (nI i) 0 25 (by decide), itR_o ss i 2 (-1) (-1) 0 (nI i) 0 27 (by decide)]; exact hEj j hj⟩) _ _ _ hM hL2 hL7 hL12 hS (lv_sub hl [7, 8, 9, 10, 11, 0] rfl)
                            · exact absurd c15 (by decide)
                          · exact absurd c14 (by decide)
                        · exact absurd (nI_inj (a := i) (b := 120) (by omega) (by omega) c13) (by omega)
                  · exact absurd c10 (by decide)
                · exact absurd (nI_inj (by omega) (by omega) c9) (by omega)
        exact lp2 c 0 p1 s1 (fun _ => 0) (by omega) (by omega) (⟨⟨by rw [hp1]; exact upd_hit _ _ _, by rw [hp1]; exact (upd_mi _ _ _ (by decide)).trans hf3, by rw [hp1]; exact upd_mi _ _ _ (by decide), by rw [hp1]; exact upd_mi _ _ _ (by decide)⟩, rfl, ⟨Nat.zero_le _, fun k hk => absurd hk (Nat.not_lt_zero k)⟩, ⟨hE.2 1 (by decide), hE.2 2 (by decide)⟩, fun j hj => hE.1 j (by omega)⟩) _ _ _ hM hL2 hL7 hL12 hS (lv_sub hl [0, 1, 2, 3, 4, 5] rfl)
      · exact absurd ((nI_ltI (a := i) (b := 8) (by omega) (by omega)).mp (Int32.not_le.mp c1)) (by omega)
    | succ n ih =>
      intro i s1 hin hi5 hE H locs ls hM hL2 hL7 hL12 hS hl
      refine lv_iload X.x X.b d_Model_expand_29 (lv_at hl 6 rfl) ?_
      refine lv_bipush (v := 8) X.x X.b d_Model_expand_31 (by decide) ?_
      refine lv_icmp_ge (tgt := 58) X.x X.b d_Model_expand_33 (by decide) (fun c17 => ?_) (fun c17 => ?_)
      · exact absurd ((nI_leI (a := 8) (b := i) (by omega) (by omega)).mp c17) (by omega)
      · skip
        have c17q := Int32.not_le.mp c17
        refine lv_aload_n X.x X.b d_Model_expand_36 rfl (lv_at hl 0 rfl) ?_
        refine m_get (v := .ref (mo + 20)) X ok_Model hM.1 25 (by decide) k_Model_68 rfl d_Model_expand_37 ?_
        refine lv_iload X.x X.b d_Model_expand_40 (lv_at hl 6 rfl) ?_
        refine lv_iconst (v := 0) X.x X.b d_Model_expand_42 (by decide) ?_
        refine m_ist X hS (Or.inl ⟨by omega, by omega⟩) hM.a25 i rfl (by omega) (by decide) d_Model_expand_43 (fun H locs hp hcg hS => ?_)
        have hM := hM.s25 hp hcg
        obtain ⟨s_7, es_7⟩ : ∃ z, z = updR s1 25 (upd (s1 25) i 0) := ⟨_, rfl⟩
        rw [← es_7] at hM
        have hL2 := hL2.off hcg (by omega)
        have hL7 := hL7.off hcg (by omega)
        have hL12 := hL12.off hcg (by omega)
        refine lv_aload_n X.x X.b d_Model_expand_44 rfl (lv_at hl 0 rfl) ?_
        refine m_get (v := .ref (mo + 22)) X ok_Model hM.1 27 (by decide) k_Model_74 rfl d_Model_expand_45 ?_
        refine lv_iload X.x X.b d_Model_expand_48 (lv_at hl 6 rfl) ?_
        refine lv_iconst (v := -1) X.x X.b d_Model_expand_50 (by decide) ?_
        refine m_ist X hS (Or.inl ⟨by omega, by omega⟩) hM.a27 i rfl (by omega) (by decide) d_Model_expand_51 (fun H locs hp hcg hS => ?_)
        have hM := hM.s27 hp hcg
        obtain ⟨s_8, es_8⟩ : ∃ z, z = updR s_7 27 (upd (s_7 27) i (-1)) := ⟨_, rfl⟩
        rw [← es_8] at hM
        have hL2 := hL2.off hcg (by omega)
        have hL7 := hL7.off hcg (by omega)
        have hL12 := hL12.off hcg (by omega)
        refine lv_iinc (v := nI (i + 1)) (lv' := [(6, .int (nI (i + 1))), (0, .ref mo), (1, .ref q2), (2, .ref q7), (3, .ref q12), (4, .int 0), (5, .int 0)]) X.x X.b d_Model_expand_52 hl (k := 6) rfl (nI_1 i) (by decide) rfl (fun ls hl => ?_)
        refine lv_goto (tgt := 29) X.x X.b d_Model_expand_55 (by decide) ?_
        exact ih (i + 1) s_8 (by omega) (by omega) (⟨fun j hj => (Nat.lt_or_ge j i).elim (fun z => ⟨by rw [es_8, updR_n2 _ _ _ _ (show j ≠ i by omega), es_7, updR_n2 _ _ _ _ (show j ≠ i by omega)]; exact (hE.1 j z).1, by rw [es_8, updR_n2 _ _ _ _ (show j ≠ i by omega), es_7, updR_n2 _ _ _ _ (show j ≠ i by omega)]; exact (hE.1 j z).2⟩) (fun z => ⟨by rw [show j = i by omega, es_8, updR_mf _ _ _ (show 25 ≠ 27 by decide), es_7, updR_hit], by rw [show j = i by omega, es_8, updR_hit]⟩), by rw [es_8, es_7]; exact (hE.2.up _ _ (by decide)).up _ _ (by decide)⟩) _ _ _ hM hL2 hL7 hL12 hS (lv_sub hl [1, 2, 3, 4, 5, 6, 0] rfl)
  exact lp 8 0 s0 (by omega) (by omega) (⟨fun j hj => absurd hj (Nat.not_lt_zero j), same.rf _ _⟩) _ _ _ hM hL2 hL7 hL12 hS (lv_sub hl [6, 5, 4, 3, 2, 1, 0] rfl)
