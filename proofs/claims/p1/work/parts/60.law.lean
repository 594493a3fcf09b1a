-- THE LAW'S CASES
theorem dc_0 : Op.cmpValue (FP.dcmp (FP.ddiv (FP.i2d 0) (FP.i2d 1)) (FP.ddiv (FP.i2d 0) (FP.i2d 1))) .l = 0 := by decide +kernel
theorem dn_0 : vf_n64 (FP.ddiv (FP.i2d 0) (FP.i2d (nI 1))) := by
  unfold vf_n64
  decide +kernel
theorem n8 {w : Int32} (h : ¬ (0 ≤ w ∧ w ≤ 7)) : ¬ w = 0 ∧ ¬ w = 1 ∧ ¬ w = 2 ∧ ¬ w = 3 ∧ ¬ w = 4 ∧ ¬ w = 5 ∧ ¬ w = 6 ∧ ¬ w = 7 := by
  refine ⟨?_, ?_, ?_, ?_, ?_, ?_, ?_, ?_⟩ <;> (intro z; subst z; exact h (by decide))
theorem n7 {w : Int32} (h : ¬ (0 ≤ w ∧ w ≤ 7)) : w < 0 ∨ ¬ w < 8 := by
  simp only [Int32.lt_iff_toInt_lt, Int32.le_iff_toInt_le, show (0 : Int32).toInt = 0 by decide, show (7 : Int32).toInt = 7 by decide, show (8 : Int32).toInt = 8 by decide] at h ⊢
  omega
theorem n11 {w : Int32} (h : ¬ (0 ≤ w ∧ w ≤ 11)) : w < 0 ∨ ¬ w ≤ 11 := by
  simp only [Int32.lt_iff_toInt_lt, Int32.le_iff_toInt_le, show (0 : Int32).toInt = 0 by decide, show (11 : Int32).toInt = 11 by decide] at h ⊢
  omega
theorem n20 {w : Int32} (h : ¬ (1 ≤ w ∧ w ≤ 20)) : w < 1 ∨ ¬ w ≤ 20 := by
  simp only [Int32.lt_iff_toInt_lt, Int32.le_iff_toInt_le, show (1 : Int32).toInt = 1 by decide, show (20 : Int32).toInt = 20 by decide] at h ⊢
  omega
theorem n0 {w : Int32} (h : ¬ w = 0) : w < 0 ∨ ¬ w ≤ 0 := by
  rcases Int32.lt_or_lt_of_ne h with z | z
  · exact Or.inl z
  · exact Or.inr (Int32.not_le.mpr z)
set_option maxRecDepth 100000 in
set_option maxHeartbeats 4000000 in
theorem law_0_IO {g : GG} {p : Program} {l : Launch} {e : Env} {s : State} {m : MethodId} {below : List Frame} {meth : Method} {c : Code} {H : Heap} {locs : List Loc} {cells slots : Nat} {Q : State → Prop} {nm : String} {ls : Array Slot} {B mo oq b : Nat} {xs : Nat → Int32} (X : CX g p s m #[.ref b] meth c c_Law_law 9 (some .boolean) R_Law nm) (hfl : l.stackTraces = false) (hx : va_X b 8 xs s s.heap) (hbl : b < s.heap.size) (kk : LawE p l e s m b below meth c Q) (h0 : LawS g s B mo oq b locs cells slots ls H) (h1 : ¬ rIn (xs 1)) : W p l e (rmK 2000 600002 7302232) s m #[.ref b] below meth c H locs cells slots Q (F0 m 132 ls []) := by
  obtain ⟨⟨hB, hmo, hoq⟩, hS, hb, ⟨p0, s0, hM, hf, hn⟩, ⟨fo, ho⟩, hZ, hl, hcs, hss⟩ := h0
  have hBz : B ≤ H.size := hB ▸ hS.1
  have hoq2 : B + 287 ≤ oq := by omega
  refine lv_aload_n X.x X.b d_Law_law_132 rfl (lv_at hl 3 rfl) ?_
  refine lv_aload_n X.x X.b d_Law_law_133 rfl (lv_at hl 4 rfl) ?_
  refine lv_iload X.x X.b d_Law_law_134 (lv_at hl 0 rfl) ?_
  refine lv_iconst (v := 1) X.x X.b d_Law_law_136 (by decide) ?_
  refine lv_iadd X.x X.b d_Law_law_137 ?_
  rw [show (0 + 1 : Int32) = 1 from by decide]
  refine m_sld X hx hbl hS 1 (by decide) rfl d_Law_law_138 ?_
  refine lv_aload_n X.x X.b d_Law_law_139 rfl (lv_at hl 4 rfl) ?_
  refine lv_iload X.x X.b d_Law_law_140 (lv_at hl 0 rfl) ?_
  refine lv_iconst (v := 2) X.x X.b d_Law_law_142 (by decide) ?_
  refine lv_iadd X.x X.b d_Law_law_143 ?_
  rw [show (0 + 2 : Int32) = 2 from by decide]
  refine m_sld X hx hbl hS 2 (by decide) rfl d_Law_law_144 ?_
  refine lv_aload_n X.x X.b d_Law_law_145 rfl (lv_at hl 4 rfl) ?_
  refine lv_iload X.x X.b d_Law_law_146 (lv_at hl 0 rfl) ?_
  refine lv_iconst (v := 3) X.x X.b d_Law_law_148 (by decide) ?_
  refine lv_iadd X.x X.b d_Law_law_149 ?_
  rw [show (0 + 3 : Int32) = 3 from by decide]
  refine m_sld X hx hbl hS 3 (by decide) rfl d_Law_law_150 ?_
  refine lv_aload_n X.x X.b d_Law_law_151 rfl (lv_at hl 4 rfl) ?_
  refine lv_iload X.x X.b d_Law_law_152 (lv_at hl 0 rfl) ?_
  refine lv_iconst (v := 4) X.x X.b d_Law_law_154 (by decide) ?_
  refine lv_iadd X.x X.b d_Law_law_155 ?_
  rw [show (0 + 4 : Int32) = 4 from by decide]
  refine m_sld X hx hbl hS 4 (by decide) rfl d_Law_law_156 ?_
  refine lv_aload_n X.x X.b d_Law_law_157 rfl (lv_at hl 4 rfl) ?_
  refine lv_iload X.x X.b d_Law_law_158 (lv_at hl 0 rfl) ?_
  refine lv_iconst (v := 5) X.x X.b d_Law_law_160 (by decide) ?_
  refine lv_iadd X.x X.b d_Law_law_161 ?_
  rw [show (0 + 5 : Int32) = 5 from by decide]
  refine m_sld X hx hbl hS 5 (by decide) rfl d_Law_law_162 ?_
  refine lv_aload_n X.x X.b d_Law_law_163 rfl (lv_at hl 4 rfl) ?_
  refine lv_iload X.x X.b d_Law_law_164 (lv_at hl 0 rfl) ?_
  refine lv_bipush (v := 6) X.x X.b d_Law_law_166 (by decide) ?_
  refine lv_iadd X.x X.b d_Law_law_168 ?_
  rw [show (0 + 6 : Int32) = 6 from by decide]
  refine m_sld X hx hbl hS 6 (by decide) rfl d_Law_law_169 ?_
  refine lv_if_eq (tgt := 177) X.x X.b d_Law_law_170 (by decide) (fun c1 => ?_) (fun c1 => ?_)
  · skip
    refine lv_iconst (v := 0) X.x X.b d_Law_law_177 (by decide) ?_
    refine lv_aload_n X.x X.b d_Law_law_178 rfl (lv_at hl 1 rfl) ?_
    refine m_callW X hS (L_add_IO l g hfl hb h1 hBz ho hoq2) hZ s_Law_67 rfl rfl (Nat.le_of_ble_eq_true rfl) hl.1 d_Law_law_179 (by omega) (by decide) ⟨by omega, by omega⟩ (fun q z => z.elim (fun z => by have z : (B ≤ q ∧ q < B + 287) ∨ q = oq := z; show s.heap.size ≤ q; omega) (fun z => Nat.le_trans hS.1 z)) (fun H1 locs1 hq hfr hS => ?_)
    have hM := hM.frame hfr (fun q z => by have z : (B ≤ q ∧ q < B + 287) ∨ q = oq := z; exact ⟨by omega, by omega⟩)
    clear hb hZ
    refine lv_istore (lv' := [(5, .int 1), (4, .int 0), (3, .ref oq), (2, .ref mo), (1, .ref B), (0, .ref b)]) X.x X.b d_Law_law_182 hl (by decide) rfl (fun ls hl => ?_)
    refine lv_aload_n X.x X.b d_Law_law_184 rfl (lv_at hl 3 rfl) ?_
    refine lv_aload_n X.x X.b d_Law_law_185 rfl (lv_at hl 5 rfl) ?_
    refine lv_iload X.x X.b d_Law_law_186 (lv_at hl 1 rfl) ?_
    refine lv_iconst (v := 1) X.x X.b d_Law_law_188 (by decide) ?_
    refine lv_iadd X.x X.b d_Law_law_189 ?_
    rw [show (0 + 1 : Int32) = 1 from by decide]
    refine m_sld X hx hbl hS 1 (by decide) rfl d_Law_law_190 ?_
    refine lv_aload_n X.x X.b d_Law_law_191 rfl (lv_at hl 5 rfl) ?_
    refine lv_iload X.x X.b d_Law_law_192 (lv_at hl 1 rfl) ?_
    refine lv_iconst (v := 2) X.x X.b d_Law_law_194 (by decide) ?_
    refine lv_iadd X.x X.b d_Law_law_195 ?_
    rw [show (0 + 2 : Int32) = 2 from by decide]
    refine m_sld X hx hbl hS 2 (by decide) rfl d_Law_law_196 ?_
    refine lv_aload_n X.x X.b d_Law_law_197 rfl (lv_at hl 5 rfl) ?_
    refine lv_iload X.x X.b d_Law_law_198 (lv_at hl 1 rfl) ?_
    refine lv_iconst (v := 3) X.x X.b d_Law_law_200 (by decide) ?_
    refine lv_iadd X.x X.b d_Law_law_201 ?_
    rw [show (0 + 3 : Int32) = 3 from by decide]
    refine m_sld X hx hbl hS 3 (by decide) rfl d_Law_law_202 ?_
    refine lv_aload_n X.x X.b d_Law_law_203 rfl (lv_at hl 5 rfl) ?_
    refine lv_iload X.x X.b d_Law_law_204 (lv_at hl 1 rfl) ?_
    refine lv_iconst (v := 4) X.x X.b d_Law_law_206 (by decide) ?_
    refine lv_iadd X.x X.b d_Law_law_207 ?_
    rw [show (0 + 4 : Int32) = 4 from by decide]
    refine m_sld X hx hbl hS 4 (by decide) rfl d_Law_law_208 ?_
    refine lv_aload_n X.x X.b d_Law_law_209 rfl (lv_at hl 5 rfl) ?_
    refine lv_iload X.x X.b d_Law_law_210 (lv_at hl 1 rfl) ?_
    refine lv_iconst (v := 5) X.x X.b d_Law_law_212 (by decide) ?_
    refine lv_iadd X.x X.b d_Law_law_213 ?_
    rw [show (0 + 5 : Int32) = 5 from by decide]
    refine m_sld X hx hbl hS 5 (by decide) rfl d_Law_law_214 ?_
    refine lv_aload_n X.x X.b d_Law_law_215 rfl (lv_at hl 5 rfl) ?_
    refine lv_iload X.x X.b d_Law_law_216 (lv_at hl 1 rfl) ?_
    refine lv_bipush (v := 6) X.x X.b d_Law_law_218 (by decide) ?_
    refine lv_iadd X.x X.b d_Law_law_220 ?_
    rw [show (0 + 6 : Int32) = 6 from by decide]
    refine m_sld X hx hbl hS 6 (by decide) rfl d_Law_law_221 ?_
    refine lv_if_eq (tgt := 229) X.x X.b d_Law_law_222 (by decide) (fun c2 => ?_) (fun c2 => ?_)
    · skip
      refine lv_iconst (v := 0) X.x X.b d_Law_law_229 (by decide) ?_
      refine m_callV X hS (M_Model_add_n1 l g hM hf hn (rI4 h1) _ _ _ _ _) v_Law_72 hM.1 rfl rfl rfl (Nat.le_of_ble_eq_true rfl) hl.1 d_Law_law_230 (by omega) (by decide) ⟨by omega, by omega⟩ (fun q z => z.elim (fun z => by have z : (mo ≤ q ∧ q < mo + 23) ∨ q = mo + 1 := z; show s.heap.size ≤ q; omega) (fun z => Nat.le_trans hS.1 z)) (fun H2 locs2 hq hfr hS => ?_)
      clear hM
      obtain ⟨p1, s1, hM, hp⟩ := hq
      refine lv_istore (lv' := [(6, .int 0), (5, .int 1), (4, .int 0), (3, .ref oq), (2, .ref mo), (1, .ref B), (0, .ref b)]) X.x X.b d_Law_law_233 hl (by decide) rfl (fun ls hl => ?_)
      refine lv_aload_n X.x X.b d_Law_law_235 rfl (lv_at hl 4 rfl) ?_
      have hR := M_Model_thrown l g hM
      rw [hp] at hR
      refine m_callV X hS hR v_Law_73 hM.1 rfl rfl rfl (Nat.le_of_ble_eq_true rfl) hl.1 d_Law_law_236 (by omega) (by decide) ⟨by omega, by omega⟩ (fun q z => z.elim (fun z => z.elim) (fun z => Nat.le_trans hS.1 z)) (fun H3 locs3 hq hfr hS3 => ?_)
      clear hS
      have hS := hS3
      clear hS3
      subst hq
      refine lv_iload X.x X.b d_Law_law_239 (lv_at hl 1 rfl) ?_
      refine lv_icmp_eq (tgt := 246) X.x X.b d_Law_law_241 (by decide) (fun c3 => ?_) (fun c3 => ?_)
      · skip
        refine lv_iload X.x X.b d_Law_law_246 (lv_at hl 1 rfl) ?_
        refine lv_if_ne (tgt := 263) X.x X.b d_Law_law_248 (by decide) (fun c4 => ?_) (fun c4 => ?_)
        · skip
          refine lv_goto (tgt := 1283) X.x X.b d_Law_law_263 (by decide) ?_
          exact kk _ _ _ _ _ hS (lv_sub hl [2, 6] rfl) (by omega) (by omega)
        · exact absurd c4 (by decide)
      · exact absurd c3 (by decide)
    · exact absurd c1 c2
  · skip
    refine lv_iconst (v := 1) X.x X.b d_Law_law_173 (by decide) ?_
    refine lv_goto (tgt := 178) X.x X.b d_Law_law_174 (by decide) ?_
    refine lv_aload_n X.x X.b d_Law_law_178 rfl (lv_at hl 1 rfl) ?_
    refine m_callW X hS (L_add_IO l g hfl hb h1 hBz ho hoq2) hZ s_Law_67 rfl rfl (Nat.le_of_ble_eq_true rfl) hl.1 d_Law_law_179 (by omega) (by decide) ⟨by omega, by omega⟩ (fun q z => z.elim (fun z => by have z : (B ≤ q ∧ q < B + 287) ∨ q = oq := z; show s.heap.size ≤ q; omega) (fun z => Nat.le_trans hS.1 z)) (fun H1 locs1 hq hfr hS => ?_)
    have hM := hM.frame hfr (fun q z => by have z : (B ≤ q ∧ q < B + 287) ∨ q = oq := z; exact ⟨by omega, by omega⟩)
    clear hb hZ
    refine lv_istore (lv' := [(5, .int 1), (4, .int 0), (3, .ref oq), (2, .ref mo), (1, .ref B), (0, .ref b)]) X.x X.b d_Law_law_182 hl (by decide) rfl (fun ls hl => ?_)
    refine lv_aload_n X.x X.b d_Law_law_184 rfl (lv_at hl 3 rfl) ?_
    refine lv_aload_n X.x X.b d_Law_law_185 rfl (lv_at hl 5 rfl) ?_
    refine lv_iload X.x X.b d_Law_law_186 (lv_at hl 1 rfl) ?_
    refine lv_iconst (v := 1) X.x X.b d_Law_law_188 (by decide) ?_
    refine lv_iadd X.x X.b d_Law_law_189 ?_
    rw [show (0 + 1 : Int32) = 1 from by decide]
    refine m_sld X hx hbl hS 1 (by decide) rfl d_Law_law_190 ?_
    refine lv_aload_n X.x X.b d_Law_law_191 rfl (lv_at hl 5 rfl) ?_
    refine lv_iload X.x X.b d_Law_law_192 (lv_at hl 1 rfl) ?_
    refine lv_iconst (v := 2) X.x X.b d_Law_law_194 (by decide) ?_
    refine lv_iadd X.x X.b d_Law_law_195 ?_
    rw [show (0 + 2 : Int32) = 2 from by decide]
    refine m_sld X hx hbl hS 2 (by decide) rfl d_Law_law_196 ?_
    refine lv_aload_n X.x X.b d_Law_law_197 rfl (lv_at hl 5 rfl) ?_
    refine lv_iload X.x X.b d_Law_law_198 (lv_at hl 1 rfl) ?_
    refine lv_iconst (v := 3) X.x X.b d_Law_law_200 (by decide) ?_
    refine lv_iadd X.x X.b d_Law_law_201 ?_
    rw [show (0 + 3 : Int32) = 3 from by decide]
    refine m_sld X hx hbl hS 3 (by decide) rfl d_Law_law_202 ?_
    refine lv_aload_n X.x X.b d_Law_law_203 rfl (lv_at hl 5 rfl) ?_
    refine lv_iload X.x X.b d_Law_law_204 (lv_at hl 1 rfl) ?_
    refine lv_iconst (v := 4) X.x X.b d_Law_law_206 (by decide) ?_
    refine lv_iadd X.x X.b d_Law_law_207 ?_
    rw [show (0 + 4 : Int32) = 4 from by decide]
    refine m_sld X hx hbl hS 4 (by decide) rfl d_Law_law_208 ?_
    refine lv_aload_n X.x X.b d_Law_law_209 rfl (lv_at hl 5 rfl) ?_
    refine lv_iload X.x X.b d_Law_law_210 (lv_at hl 1 rfl) ?_
    refine lv_iconst (v := 5) X.x X.b d_Law_law_212 (by decide) ?_
    refine lv_iadd X.x X.b d_Law_law_213 ?_
    rw [show (0 + 5 : Int32) = 5 from by decide]
    refine m_sld X hx hbl hS 5 (by decide) rfl d_Law_law_214 ?_
    refine lv_aload_n X.x X.b d_Law_law_215 rfl (lv_at hl 5 rfl) ?_
    refine lv_iload X.x X.b d_Law_law_216 (lv_at hl 1 rfl) ?_
    refine lv_bipush (v := 6) X.x X.b d_Law_law_218 (by decide) ?_
    refine lv_iadd X.x X.b d_Law_law_220 ?_
    rw [show (0 + 6 : Int32) = 6 from by decide]
    refine m_sld X hx hbl hS 6 (by decide) rfl d_Law_law_221 ?_
    refine lv_if_eq (tgt := 229) X.x X.b d_Law_law_222 (by decide) (fun c5 => ?_) (fun c5 => ?_)
    · exact absurd c5 c1
    · skip
      refine lv_iconst (v := 1) X.x X.b d_Law_law_225 (by decide) ?_
      refine lv_goto (tgt := 230) X.x X.b d_Law_law_226 (by decide) ?_
      refine m_callV X hS (M_Model_add_n1 l g hM hf hn (rI4 h1) _ _ _ _ _) v_Law_72 hM.1 rfl rfl rfl (Nat.le_of_ble_eq_true rfl) hl.1 d_Law_law_230 (by omega) (by decide) ⟨by omega, by omega⟩ (fun q z => z.elim (fun z => by have z : (mo ≤ q ∧ q < mo + 23) ∨ q = mo + 1 := z; show s.heap.size ≤ q; omega) (fun z => Nat.le_trans hS.1 z)) (fun H2 locs2 hq hfr hS => ?_)
      clear hM
      obtain ⟨p1, s1, hM, hp⟩ := hq
      refine lv_istore (lv' := [(6, .int 0), (5, .int 1), (4, .int 0), (3, .ref oq), (2, .ref mo), (1, .ref B), (0, .ref b)]) X.x X.b d_Law_law_233 hl (by decide) rfl (fun ls hl => ?_)
      refine lv_aload_n X.x X.b d_Law_law_235 rfl (lv_at hl 4 rfl) ?_
      have hR := M_Model_thrown l g hM
      rw [hp] at hR
      refine m_callV X hS hR v_Law_73 hM.1 rfl rfl rfl (Nat.le_of_ble_eq_true rfl) hl.1 d_Law_law_236 (by omega) (by decide) ⟨by omega, by omega⟩ (fun q z => z.elim (fun z => z.elim) (fun z => Nat.le_trans hS.1 z)) (fun H3 locs3 hq hfr hS3 => ?_)
      clear hS
      have hS := hS3
      clear hS3
      subst hq
      refine lv_iload X.x X.b d_Law_law_239 (lv_at hl 1 rfl) ?_
      refine lv_icmp_eq (tgt := 246) X.x X.b d_Law_law_241 (by decide) (fun c6 => ?_) (fun c6 => ?_)
      · skip
        refine lv_iload X.x X.b d_Law_law_246 (lv_at hl 1 rfl) ?_
        refine lv_if_ne (tgt := 263) X.x X.b d_Law_law_248 (by decide) (fun c7 => ?_) (fun c7 => ?_)
        · skip
          refine lv_goto (tgt := 1283) X.x X.b d_Law_law_263 (by decide) ?_
          exact kk _ _ _ _ _ hS (lv_sub hl [2, 6] rfl) (by omega) (by omega)
        · exact absurd c7 (by decide)
      · exact absurd c6 (by decide)
set_option maxRecDepth 100000 in
set_option maxHeartbeats 4000000 in
theorem law_0_IA0 {g : GG} {p : Program} {l : Launch} {e : Env} {s : State} {m : MethodId} {below : List Frame} {meth : Method} {c : Code} {H : Heap} {locs : List Loc} {cells slots : Nat} {Q : State → Prop} {nm : String} {ls : Array Slot} {B mo oq b : Nat} {xs : Nat → Int32} (X : CX g p s m #[.ref b] meth c c_Law_law 9 (some .boolean) R_Law nm) (hfl : l.stackTraces = false) (hx : va_X b 8 xs s s.heap) (hbl : b < s.heap.size) (kk : LawE p l e s m b below meth c Q) (h0 : LawS g s B mo oq b locs cells slots ls H) {r : Nat} (hr : r < 5) (h1 : xs 1 = nI r) (hln : ¬ lnOk (xs 2) (xs 3) (xs 4) (xs 5) 0) (h6 : (xs 6) = 0) : W p l e (rmK 2000 600002 7302232) s m #[.ref b] below meth c H locs cells slots Q (F0 m 132 ls []) := by
  obtain ⟨⟨hB, hmo, hoq⟩, hS, hb, ⟨p0, s0, hM, hf, hn⟩, ⟨fo, ho⟩, hZ, hl, hcs, hss⟩ := h0
  have hBz : B ≤ H.size := hB ▸ hS.1
  have hoq2 : B + 287 ≤ oq := by omega
  refine lv_aload_n X.x X.b d_Law_law_132 rfl (lv_at hl 3 rfl) ?_
  refine lv_aload_n X.x X.b d_Law_law_133 rfl (lv_at hl 4 rfl) ?_
  refine lv_iload X.x X.b d_Law_law_134 (lv_at hl 0 rfl) ?_
  refine lv_iconst (v := 1) X.x X.b d_Law_law_136 (by decide) ?_
  refine lv_iadd X.x X.b d_Law_law_137 ?_
  rw [show (0 + 1 : Int32) = 1 from by decide]
  refine m_sld X hx hbl hS 1 (by decide) rfl d_Law_law_138 ?_
  rw [h1]
  refine lv_aload_n X.x X.b d_Law_law_139 rfl (lv_at hl 4 rfl) ?_
  refine lv_iload X.x X.b d_Law_law_140 (lv_at hl 0 rfl) ?_
  refine lv_iconst (v := 2) X.x X.b d_Law_law_142 (by decide) ?_
  refine lv_iadd X.x X.b d_Law_law_143 ?_
  rw [show (0 + 2 : Int32) = 2 from by decide]
  refine m_sld X hx hbl hS 2 (by decide) rfl d_Law_law_144 ?_
  refine lv_aload_n X.x X.b d_Law_law_145 rfl (lv_at hl 4 rfl) ?_
  refine lv_iload X.x X.b d_Law_law_146 (lv_at hl 0 rfl) ?_
  refine lv_iconst (v := 3) X.x X.b d_Law_law_148 (by decide) ?_
  refine lv_iadd X.x X.b d_Law_law_149 ?_
  rw [show (0 + 3 : Int32) = 3 from by decide]
  refine m_sld X hx hbl hS 3 (by decide) rfl d_Law_law_150 ?_
  refine lv_aload_n X.x X.b d_Law_law_151 rfl (lv_at hl 4 rfl) ?_
  refine lv_iload X.x X.b d_Law_law_152 (lv_at hl 0 rfl) ?_
  refine lv_iconst (v := 4) X.x X.b d_Law_law_154 (by decide) ?_
  refine lv_iadd X.x X.b d_Law_law_155 ?_
  rw [show (0 + 4 : Int32) = 4 from by decide]
  refine m_sld X hx hbl hS 4 (by decide) rfl d_Law_law_156 ?_
  refine lv_aload_n X.x X.b d_Law_law_157 rfl (lv_at hl 4 rfl) ?_
  refine lv_iload X.x X.b d_Law_law_158 (lv_at hl 0 rfl) ?_
  refine lv_iconst (v := 5) X.x X.b d_Law_law_160 (by decide) ?_
  refine lv_iadd X.x X.b d_Law_law_161 ?_
  rw [show (0 + 5 : Int32) = 5 from by decide]
  refine m_sld X hx hbl hS 5 (by decide) rfl d_Law_law_162 ?_
  refine lv_aload_n X.x X.b d_Law_law_163 rfl (lv_at hl 4 rfl) ?_
  refine lv_iload X.x X.b d_Law_law_164 (lv_at hl 0 rfl) ?_
  refine lv_bipush (v := 6) X.x X.b d_Law_law_166 (by decide) ?_
  refine lv_iadd X.x X.b d_Law_law_168 ?_
  rw [show (0 + 6 : Int32) = 6 from by decide]
  refine m_sld X hx hbl hS 6 (by decide) rfl d_Law_law_169 ?_
  refine lv_if_eq (tgt := 177) X.x X.b d_Law_law_170 (by decide) (fun c1 => ?_) (fun c1 => ?_)
  · skip
    refine lv_iconst (v := 0) X.x X.b d_Law_law_177 (by decide) ?_
    refine lv_aload_n X.x X.b d_Law_law_178 rfl (lv_at hl 1 rfl) ?_
    refine m_callW X hS (L_add_IA l g hfl hb (rIn_nI hr) hln hBz ho hoq2) hZ s_Law_67 rfl rfl (Nat.le_of_ble_eq_true rfl) hl.1 d_Law_law_179 (by omega) (by decide) ⟨by omega, by omega⟩ (fun q z => z.elim (fun z => by have z : (B ≤ q ∧ q < B + 287) ∨ q = oq := z; show s.heap.size ≤ q; omega) (fun z => Nat.le_trans hS.1 z)) (fun H1 locs1 hq hfr hS => ?_)
    have hM := hM.frame hfr (fun q z => by have z : (B ≤ q ∧ q < B + 287) ∨ q = oq := z; exact ⟨by omega, by omega⟩)
    clear hb hZ
    refine lv_istore (lv' := [(5, .int 2), (4, .int 0), (3, .ref oq), (2, .ref mo), (1, .ref B), (0, .ref b)]) X.x X.b d_Law_law_182 hl (by decide) rfl (fun ls hl => ?_)
    refine lv_aload_n X.x X.b d_Law_law_184 rfl (lv_at hl 3 rfl) ?_
    refine lv_aload_n X.x X.b d_Law_law_185 rfl (lv_at hl 5 rfl) ?_
    refine lv_iload X.x X.b d_Law_law_186 (lv_at hl 1 rfl) ?_
    refine lv_iconst (v := 1) X.x X.b d_Law_law_188 (by decide) ?_
    refine lv_iadd X.x X.b d_Law_law_189 ?_
    rw [show (0 + 1 : Int32) = 1 from by decide]
    refine m_sld X hx hbl hS 1 (by decide) rfl d_Law_law_190 ?_
    rw [h1]
    refine lv_aload_n X.x X.b d_Law_law_191 rfl (lv_at hl 5 rfl) ?_
    refine lv_iload X.x X.b d_Law_law_192 (lv_at hl 1 rfl) ?_
    refine lv_iconst (v := 2) X.x X.b d_Law_law_194 (by decide) ?_
    refine lv_iadd X.x X.b d_Law_law_195 ?_
    rw [show (0 + 2 : Int32) = 2 from by decide]
    refine m_sld X hx hbl hS 2 (by decide) rfl d_Law_law_196 ?_
    refine lv_aload_n X.x X.b d_Law_law_197 rfl (lv_at hl 5 rfl) ?_
    refine lv_iload X.x X.b d_Law_law_198 (lv_at hl 1 rfl) ?_
    refine lv_iconst (v := 3) X.x X.b d_Law_law_200 (by decide) ?_
    refine lv_iadd X.x X.b d_Law_law_201 ?_
    rw [show (0 + 3 : Int32) = 3 from by decide]
    refine m_sld X hx hbl hS 3 (by decide) rfl d_Law_law_202 ?_
    refine lv_aload_n X.x X.b d_Law_law_203 rfl (lv_at hl 5 rfl) ?_
    refine lv_iload X.x X.b d_Law_law_204 (lv_at hl 1 rfl) ?_
    refine lv_iconst (v := 4) X.x X.b d_Law_law_206 (by decide) ?_
    refine lv_iadd X.x X.b d_Law_law_207 ?_
    rw [show (0 + 4 : Int32) = 4 from by decide]
    refine m_sld X hx hbl hS 4 (by decide) rfl d_Law_law_208 ?_
    refine lv_aload_n X.x X.b d_Law_law_209 rfl (lv_at hl 5 rfl) ?_
    refine lv_iload X.x X.b d_Law_law_210 (lv_at hl 1 rfl) ?_
    refine lv_iconst (v := 5) X.x X.b d_Law_law_212 (by decide) ?_
    refine lv_iadd X.x X.b d_Law_law_213 ?_
    rw [show (0 + 5 : Int32) = 5 from by decide]
    refine m_sld X hx hbl hS 5 (by decide) rfl d_Law_law_214 ?_
    refine lv_aload_n X.x X.b d_Law_law_215 rfl (lv_at hl 5 rfl) ?_
    refine lv_iload X.x X.b d_Law_law_216 (lv_at hl 1 rfl) ?_
    refine lv_bipush (v := 6) X.x X.b d_Law_law_218 (by decide) ?_
    refine lv_iadd X.x X.b d_Law_law_220 ?_
    rw [show (0 + 6 : Int32) = 6 from by decide]
    refine m_sld X hx hbl hS 6 (by decide) rfl d_Law_law_221 ?_
    refine lv_if_eq (tgt := 229) X.x X.b d_Law_law_222 (by decide) (fun c2 => ?_) (fun c2 => ?_)
    · skip
      refine lv_iconst (v := 0) X.x X.b d_Law_law_229 (by decide) ?_
      refine m_callV X hS (M_Model_add_n2 l g hM hf hn hr (fun z => hln ((cb_ln (xs 2) (xs 3) (xs 4) (xs 5) 0 (Or.inl rfl)).mp z))) v_Law_72 hM.1 rfl rfl rfl (Nat.le_of_ble_eq_true rfl) hl.1 d_Law_law_230 (by omega) (by decide) ⟨by omega, by omega⟩ (fun q z => z.elim (fun z => by have z : (mo ≤ q ∧ q < mo + 23) ∨ q = mo + 1 := z; show s.heap.size ≤ q; omega) (fun z => Nat.le_trans hS.1 z)) (fun H2 locs2 hq hfr hS => ?_)
      clear hM
      obtain ⟨p1, s1, hM, hp⟩ := hq
      refine lv_istore (lv' := [(6, .int 0), (5, .int 2), (4, .int 0), (3, .ref oq), (2, .ref mo), (1, .ref B), (0, .ref b)]) X.x X.b d_Law_law_233 hl (by decide) rfl (fun ls hl => ?_)
      refine lv_aload_n X.x X.b d_Law_law_235 rfl (lv_at hl 4 rfl) ?_
      have hR := M_Model_thrown l g hM
      rw [hp] at hR
      refine m_callV X hS hR v_Law_73 hM.1 rfl rfl rfl (Nat.le_of_ble_eq_true rfl) hl.1 d_Law_law_236 (by omega) (by decide) ⟨by omega, by omega⟩ (fun q z => z.elim (fun z => z.elim) (fun z => Nat.le_trans hS.1 z)) (fun H3 locs3 hq hfr hS3 => ?_)
      clear hS
      have hS := hS3
      clear hS3
      subst hq
      refine lv_iload X.x X.b d_Law_law_239 (lv_at hl 1 rfl) ?_
      refine lv_icmp_eq (tgt := 246) X.x X.b d_Law_law_241 (by decide) (fun c3 => ?_) (fun c3 => ?_)
      · skip
        refine lv_iload X.x X.b d_Law_law_246 (lv_at hl 1 rfl) ?_
        refine lv_if_ne (tgt := 263) X.x X.b d_Law_law_248 (by decide) (fun c4 => ?_) (fun c4 => ?_)
        · skip
          refine lv_goto (tgt := 1283) X.x X.b d_Law_law_263 (by decide) ?_
          exact kk _ _ _ _ _ hS (lv_sub hl [2, 6] rfl) (by omega) (by omega)
        · exact absurd c4 (by decide)
      · exact absurd c3 (by decide)
    · exact absurd c1 c2
  · exact absurd h6 c1
set_option maxRecDepth 100000 in
set_option maxHeartbeats 4000000 in
theorem law_0_z0 {g : GG} {p : Program} {l : Launch} {e : Env} {s : State} {m : MethodId} {below : List Frame} {meth : Method} {c : Code} {H : Heap} {locs : List Loc} {cells slots : Nat} {Q : State → Prop} {nm : String} {ls : Array Slot} {B mo oq b : Nat} {xs : Nat → Int32} (X : CX g p s m #[.ref b] meth c c_Law_law 9 (some .boolean) R_Law nm) (hfl : l.stackTraces = false) (hx : va_X b 8 xs s s.heap) (hbl : b < s.heap.size) (kk : LawE p l e s m b below meth c Q) (h0 : LawS g s B mo oq b locs cells slots ls H) (h1 : xs 1 = 0) (hln : lnOk (xs 2) (xs 3) (xs 4) (xs 5) 0) (h6 : (xs 6) = 0) : W p l e (rmK 2000 600002 7302232) s m #[.ref b] below meth c H locs cells slots Q (F0 m 132 ls []) := by
  obtain ⟨⟨hB, hmo, hoq⟩, hS, hb, ⟨p0, s0, hM, hf, hn⟩, ⟨fo, ho⟩, hZ, hl, hcs, hss⟩ := h0
  have hBz : B ≤ H.size := hB ▸ hS.1
  have hoq2 : B + 287 ≤ oq := by omega
  refine lv_aload_n X.x X.b d_Law_law_132 rfl (lv_at hl 3 rfl) ?_
  refine lv_aload_n X.x X.b d_Law_law_133 rfl (lv_at hl 4 rfl) ?_
  refine lv_iload X.x X.b d_Law_law_134 (lv_at hl 0 rfl) ?_
  refine lv_iconst (v := 1) X.x X.b d_Law_law_136 (by decide) ?_
  refine lv_iadd X.x X.b d_Law_law_137 ?_
  rw [show (0 + 1 : Int32) = 1 from by decide]
  refine m_sld X hx hbl hS 1 (by decide) rfl d_Law_law_138 ?_
  rw [h1]
  refine lv_aload_n X.x X.b d_Law_law_139 rfl (lv_at hl 4 rfl) ?_
  refine lv_iload X.x X.b d_Law_law_140 (lv_at hl 0 rfl) ?_
  refine lv_iconst (v := 2) X.x X.b d_Law_law_142 (by decide) ?_
  refine lv_iadd X.x X.b d_Law_law_143 ?_
  rw [show (0 + 2 : Int32) = 2 from by decide]
  refine m_sld X hx hbl hS 2 (by decide) rfl d_Law_law_144 ?_
  refine lv_aload_n X.x X.b d_Law_law_145 rfl (lv_at hl 4 rfl) ?_
  refine lv_iload X.x X.b d_Law_law_146 (lv_at hl 0 rfl) ?_
  refine lv_iconst (v := 3) X.x X.b d_Law_law_148 (by decide) ?_
  refine lv_iadd X.x X.b d_Law_law_149 ?_
  rw [show (0 + 3 : Int32) = 3 from by decide]
  refine m_sld X hx hbl hS 3 (by decide) rfl d_Law_law_150 ?_
  refine lv_aload_n X.x X.b d_Law_law_151 rfl (lv_at hl 4 rfl) ?_
  refine lv_iload X.x X.b d_Law_law_152 (lv_at hl 0 rfl) ?_
  refine lv_iconst (v := 4) X.x X.b d_Law_law_154 (by decide) ?_
  refine lv_iadd X.x X.b d_Law_law_155 ?_
  rw [show (0 + 4 : Int32) = 4 from by decide]
  refine m_sld X hx hbl hS 4 (by decide) rfl d_Law_law_156 ?_
  refine lv_aload_n X.x X.b d_Law_law_157 rfl (lv_at hl 4 rfl) ?_
  refine lv_iload X.x X.b d_Law_law_158 (lv_at hl 0 rfl) ?_
  refine lv_iconst (v := 5) X.x X.b d_Law_law_160 (by decide) ?_
  refine lv_iadd X.x X.b d_Law_law_161 ?_
  rw [show (0 + 5 : Int32) = 5 from by decide]
  refine m_sld X hx hbl hS 5 (by decide) rfl d_Law_law_162 ?_
  refine lv_aload_n X.x X.b d_Law_law_163 rfl (lv_at hl 4 rfl) ?_
  refine lv_iload X.x X.b d_Law_law_164 (lv_at hl 0 rfl) ?_
  refine lv_bipush (v := 6) X.x X.b d_Law_law_166 (by decide) ?_
  refine lv_iadd X.x X.b d_Law_law_168 ?_
  rw [show (0 + 6 : Int32) = 6 from by decide]
  refine m_sld X hx hbl hS 6 (by decide) rfl d_Law_law_169 ?_
  refine lv_if_eq (tgt := 177) X.x X.b d_Law_law_170 (by decide) (fun c1 => ?_) (fun c1 => ?_)
  · skip
    refine lv_iconst (v := 0) X.x X.b d_Law_law_177 (by decide) ?_
    refine lv_aload_n X.x X.b d_Law_law_178 rfl (lv_at hl 1 rfl) ?_
    refine m_callW X hS (L_add_ok l g hfl hb (r := 0) (by decide) (by decide) hln (Or.inl rfl) hBz ho hoq2) hZ s_Law_67 rfl rfl (Nat.le_of_ble_eq_true rfl) hl.1 d_Law_law_179 (by omega) (by decide) ⟨by omega, by omega⟩ (fun q z => z.elim (fun z => by have z : (B ≤ q ∧ q < B + 287) ∨ q = oq := z; show s.heap.size ≤ q; omega) (fun z => Nat.le_trans hS.1 z)) (fun H1 locs1 hq hfr hS => ?_)
    have hM := hM.frame hfr (fun q z => by have z : (B ≤ q ∧ q < B + 287) ∨ q = oq := z; exact ⟨by omega, by omega⟩)
    have ho : ouIs g oq ((0 : Int32).toInt64) H1 := hq
    clear hb hZ
    refine lv_istore (lv' := [(5, .int 0), (4, .int 0), (3, .ref oq), (2, .ref mo), (1, .ref B), (0, .ref b)]) X.x X.b d_Law_law_182 hl (by decide) rfl (fun ls hl => ?_)
    refine lv_aload_n X.x X.b d_Law_law_184 rfl (lv_at hl 3 rfl) ?_
    refine lv_aload_n X.x X.b d_Law_law_185 rfl (lv_at hl 5 rfl) ?_
    refine lv_iload X.x X.b d_Law_law_186 (lv_at hl 1 rfl) ?_
    refine lv_iconst (v := 1) X.x X.b d_Law_law_188 (by decide) ?_
    refine lv_iadd X.x X.b d_Law_law_189 ?_
    rw [show (0 + 1 : Int32) = 1 from by decide]
    refine m_sld X hx hbl hS 1 (by decide) rfl d_Law_law_190 ?_
    rw [h1]
    refine lv_aload_n X.x X.b d_Law_law_191 rfl (lv_at hl 5 rfl) ?_
    refine lv_iload X.x X.b d_Law_law_192 (lv_at hl 1 rfl) ?_
    refine lv_iconst (v := 2) X.x X.b d_Law_law_194 (by decide) ?_
    refine lv_iadd X.x X.b d_Law_law_195 ?_
    rw [show (0 + 2 : Int32) = 2 from by decide]
    refine m_sld X hx hbl hS 2 (by decide) rfl d_Law_law_196 ?_
    refine lv_aload_n X.x X.b d_Law_law_197 rfl (lv_at hl 5 rfl) ?_
    refine lv_iload X.x X.b d_Law_law_198 (lv_at hl 1 rfl) ?_
    refine lv_iconst (v := 3) X.x X.b d_Law_law_200 (by decide) ?_
    refine lv_iadd X.x X.b d_Law_law_201 ?_
    rw [show (0 + 3 : Int32) = 3 from by decide]
    refine m_sld X hx hbl hS 3 (by decide) rfl d_Law_law_202 ?_
    refine lv_aload_n X.x X.b d_Law_law_203 rfl (lv_at hl 5 rfl) ?_
    refine lv_iload X.x X.b d_Law_law_204 (lv_at hl 1 rfl) ?_
    refine lv_iconst (v := 4) X.x X.b d_Law_law_206 (by decide) ?_
    refine lv_iadd X.x X.b d_Law_law_207 ?_
    rw [show (0 + 4 : Int32) = 4 from by decide]
    refine m_sld X hx hbl hS 4 (by decide) rfl d_Law_law_208 ?_
    refine lv_aload_n X.x X.b d_Law_law_209 rfl (lv_at hl 5 rfl) ?_
    refine lv_iload X.x X.b d_Law_law_210 (lv_at hl 1 rfl) ?_
    refine lv_iconst (v := 5) X.x X.b d_Law_law_212 (by decide) ?_
    refine lv_iadd X.x X.b d_Law_law_213 ?_
    rw [show (0 + 5 : Int32) = 5 from by decide]
    refine m_sld X hx hbl hS 5 (by decide) rfl d_Law_law_214 ?_
    refine lv_aload_n X.x X.b d_Law_law_215 rfl (lv_at hl 5 rfl) ?_
    refine lv_iload X.x X.b d_Law_law_216 (lv_at hl 1 rfl) ?_
    refine lv_bipush (v := 6) X.x X.b d_Law_law_218 (by decide) ?_
    refine lv_iadd X.x X.b d_Law_law_220 ?_
    rw [show (0 + 6 : Int32) = 6 from by decide]
    refine m_sld X hx hbl hS 6 (by decide) rfl d_Law_law_221 ?_
    refine lv_if_eq (tgt := 229) X.x X.b d_Law_law_222 (by decide) (fun c2 => ?_) (fun c2 => ?_)
    · skip
      refine lv_iconst (v := 0) X.x X.b d_Law_law_229 (by decide) ?_
      refine m_callV X hS (M_Model_add_0 l g hM hf hn hln (Or.inl rfl)) v_Law_72 hM.1 rfl rfl rfl (Nat.le_of_ble_eq_true rfl) hl.1 d_Law_law_230 (by omega) (by decide) ⟨by omega, by omega⟩ (fun q z => z.elim (fun z => by have z : (mo ≤ q ∧ q < mo + 23) ∨ q = mo + 1 := z; show s.heap.size ≤ q; omega) (fun z => Nat.le_trans hS.1 z)) (fun H2 locs2 hq hfr hS => ?_)
      clear hM
      obtain ⟨p1, s1, hM, hp⟩ := hq
      have ho := ouIs.fr ho hfr (fun z => by have z : (mo ≤ oq ∧ oq < mo + 23) ∨ oq = mo + 1 := z; omega)
      refine lv_istore (lv' := [(6, .int 0), (5, .int 0), (4, .int 0), (3, .ref oq), (2, .ref mo), (1, .ref B), (0, .ref b)]) X.x X.b d_Law_law_233 hl (by decide) rfl (fun ls hl => ?_)
      refine lv_aload_n X.x X.b d_Law_law_235 rfl (lv_at hl 4 rfl) ?_
      have hR := M_Model_thrown l g hM
      rw [hp] at hR
      refine m_callV X hS hR v_Law_73 hM.1 rfl rfl rfl (Nat.le_of_ble_eq_true rfl) hl.1 d_Law_law_236 (by omega) (by decide) ⟨by omega, by omega⟩ (fun q z => z.elim (fun z => z.elim) (fun z => Nat.le_trans hS.1 z)) (fun H3 locs3 hq hfr hS3 => ?_)
      clear hS
      have hS := hS3
      clear hS3
      subst hq
      refine lv_iload X.x X.b d_Law_law_239 (lv_at hl 1 rfl) ?_
      refine lv_icmp_eq (tgt := 246) X.x X.b d_Law_law_241 (by decide) (fun c3 => ?_) (fun c3 => ?_)
      · skip
        refine lv_iload X.x X.b d_Law_law_246 (lv_at hl 1 rfl) ?_
        refine lv_if_ne (tgt := 263) X.x X.b d_Law_law_248 (by decide) (fun c4 => ?_) (fun c4 => ?_)
        · exact absurd c3 c4
        · skip
          refine lv_aload_n X.x X.b d_Law_law_251 rfl (lv_at hl 3 rfl) ?_
          refine lv_iconst (v := 0) X.x X.b d_Law_law_252 (by decide) ?_
          refine m_lald0 X ho d_Law_law_253 ?_
          refine lv_iload X.x X.b d_Law_law_254 (lv_at hl 0 rfl) ?_
          refine lv_i2l (v := (0 : Int32).toInt64) X.x X.b d_Law_law_256 rfl ?_
          refine m_lcmp0 X d_Law_law_257 ?_
          refine lv_if_eq (tgt := 263) X.x X.b d_Law_law_258 (by decide) (fun c5 => ?_) (fun c5 => ?_)
          · skip
            refine lv_goto (tgt := 1283) X.x X.b d_Law_law_263 (by decide) ?_
            exact kk _ _ _ _ _ hS (lv_sub hl [2, 6] rfl) (by omega) (by omega)
          · exact absurd c4 c5
      · exact absurd c3 (by decide)
    · exact absurd c1 c2
  · exact absurd h6 c1
set_option maxRecDepth 100000 in
set_option maxHeartbeats 4000000 in
theorem law_0_r0 {g : GG} {p : Program} {l : Launch} {e : Env} {s : State} {m : MethodId} {below : List Frame} {meth : Method} {c : Code} {H : Heap} {locs : List Loc} {cells slots : Nat} {Q : State → Prop} {nm : String} {ls : Array Slot} {B mo oq b : Nat} {xs : Nat → Int32} (X : CX g p s m #[.ref b] meth c c_Law_law 9 (some .boolean) R_Law nm) (hfl : l.stackTraces = false) (hx : va_X b 8 xs s s.heap) (hbl : b < s.heap.size) (kk : LawE p l e s m b below meth c Q) (h0 : LawS g s B mo oq b locs cells slots ls H) {r : Nat} (hr : r < 5) (hr0 : 0 < r) (h1 : xs 1 = nI r) (hln : lnOk (xs 2) (xs 3) (xs 4) (xs 5) 0) (h6 : (xs 6) = 0) : W p l e (rmK 2000 600002 7302232) s m #[.ref b] below meth c H locs cells slots Q (F0 m 132 ls []) := by
  obtain ⟨⟨hB, hmo, hoq⟩, hS, hb, ⟨p0, s0, hM, hf, hn⟩, ⟨fo, ho⟩, hZ, hl, hcs, hss⟩ := h0
  have hBz : B ≤ H.size := hB ▸ hS.1
  have hoq2 : B + 287 ≤ oq := by omega
  refine lv_aload_n X.x X.b d_Law_law_132 rfl (lv_at hl 3 rfl) ?_
  refine lv_aload_n X.x X.b d_Law_law_133 rfl (lv_at hl 4 rfl) ?_
  refine lv_iload X.x X.b d_Law_law_134 (lv_at hl 0 rfl) ?_
  refine lv_iconst (v := 1) X.x X.b d_Law_law_136 (by decide) ?_
  refine lv_iadd X.x X.b d_Law_law_137 ?_
  rw [show (0 + 1 : Int32) = 1 from by decide]
  refine m_sld X hx hbl hS 1 (by decide) rfl d_Law_law_138 ?_
  rw [h1]
  refine lv_aload_n X.x X.b d_Law_law_139 rfl (lv_at hl 4 rfl) ?_
  refine lv_iload X.x X.b d_Law_law_140 (lv_at hl 0 rfl) ?_
  refine lv_iconst (v := 2) X.x X.b d_Law_law_142 (by decide) ?_
  refine lv_iadd X.x X.b d_Law_law_143 ?_
  rw [show (0 + 2 : Int32) = 2 from by decide]
  refine m_sld X hx hbl hS 2 (by decide) rfl d_Law_law_144 ?_
  refine lv_aload_n X.x X.b d_Law_law_145 rfl (lv_at hl 4 rfl) ?_
  refine lv_iload X.x X.b d_Law_law_146 (lv_at hl 0 rfl) ?_
  refine lv_iconst (v := 3) X.x X.b d_Law_law_148 (by decide) ?_
  refine lv_iadd X.x X.b d_Law_law_149 ?_
  rw [show (0 + 3 : Int32) = 3 from by decide]
  refine m_sld X hx hbl hS 3 (by decide) rfl d_Law_law_150 ?_
  refine lv_aload_n X.x X.b d_Law_law_151 rfl (lv_at hl 4 rfl) ?_
  refine lv_iload X.x X.b d_Law_law_152 (lv_at hl 0 rfl) ?_
  refine lv_iconst (v := 4) X.x X.b d_Law_law_154 (by decide) ?_
  refine lv_iadd X.x X.b d_Law_law_155 ?_
  rw [show (0 + 4 : Int32) = 4 from by decide]
  refine m_sld X hx hbl hS 4 (by decide) rfl d_Law_law_156 ?_
  refine lv_aload_n X.x X.b d_Law_law_157 rfl (lv_at hl 4 rfl) ?_
  refine lv_iload X.x X.b d_Law_law_158 (lv_at hl 0 rfl) ?_
  refine lv_iconst (v := 5) X.x X.b d_Law_law_160 (by decide) ?_
  refine lv_iadd X.x X.b d_Law_law_161 ?_
  rw [show (0 + 5 : Int32) = 5 from by decide]
  refine m_sld X hx hbl hS 5 (by decide) rfl d_Law_law_162 ?_
  refine lv_aload_n X.x X.b d_Law_law_163 rfl (lv_at hl 4 rfl) ?_
  refine lv_iload X.x X.b d_Law_law_164 (lv_at hl 0 rfl) ?_
  refine lv_bipush (v := 6) X.x X.b d_Law_law_166 (by decide) ?_
  refine lv_iadd X.x X.b d_Law_law_168 ?_
  rw [show (0 + 6 : Int32) = 6 from by decide]
  refine m_sld X hx hbl hS 6 (by decide) rfl d_Law_law_169 ?_
  refine lv_if_eq (tgt := 177) X.x X.b d_Law_law_170 (by decide) (fun c1 => ?_) (fun c1 => ?_)
  · skip
    refine lv_iconst (v := 0) X.x X.b d_Law_law_177 (by decide) ?_
    refine lv_aload_n X.x X.b d_Law_law_178 rfl (lv_at hl 1 rfl) ?_
    refine m_callW X hS (L_add_ok l g hfl hb hr (show 0 < capF 40 r by unfold capF; split <;> decide) hln (Or.inl rfl) hBz ho hoq2) hZ s_Law_67 rfl rfl (Nat.le_of_ble_eq_true rfl) hl.1 d_Law_law_179 (by omega) (by decide) ⟨by omega, by omega⟩ (fun q z => z.elim (fun z => by have z : (B ≤ q ∧ q < B + 287) ∨ q = oq := z; show s.heap.size ≤ q; omega) (fun z => Nat.le_trans hS.1 z)) (fun H1 locs1 hq hfr hS => ?_)
    have hM := hM.frame hfr (fun q z => by have z : (B ≤ q ∧ q < B + 287) ∨ q = oq := z; exact ⟨by omega, by omega⟩)
    have ho : ouIs g oq ((0 : Int32).toInt64) H1 := hq
    clear hb hZ
    refine lv_istore (lv' := [(5, .int 0), (4, .int 0), (3, .ref oq), (2, .ref mo), (1, .ref B), (0, .ref b)]) X.x X.b d_Law_law_182 hl (by decide) rfl (fun ls hl => ?_)
    refine lv_aload_n X.x X.b d_Law_law_184 rfl (lv_at hl 3 rfl) ?_
    refine lv_aload_n X.x X.b d_Law_law_185 rfl (lv_at hl 5 rfl) ?_
    refine lv_iload X.x X.b d_Law_law_186 (lv_at hl 1 rfl) ?_
    refine lv_iconst (v := 1) X.x X.b d_Law_law_188 (by decide) ?_
    refine lv_iadd X.x X.b d_Law_law_189 ?_
    rw [show (0 + 1 : Int32) = 1 from by decide]
    refine m_sld X hx hbl hS 1 (by decide) rfl d_Law_law_190 ?_
    rw [h1]
    refine lv_aload_n X.x X.b d_Law_law_191 rfl (lv_at hl 5 rfl) ?_
    refine lv_iload X.x X.b d_Law_law_192 (lv_at hl 1 rfl) ?_
    refine lv_iconst (v := 2) X.x X.b d_Law_law_194 (by decide) ?_
    refine lv_iadd X.x X.b d_Law_law_195 ?_
    rw [show (0 + 2 : Int32) = 2 from by decide]
    refine m_sld X hx hbl hS 2 (by decide) rfl d_Law_law_196 ?_
    refine lv_aload_n X.x X.b d_Law_law_197 rfl (lv_at hl 5 rfl) ?_
    refine lv_iload X.x X.b d_Law_law_198 (lv_at hl 1 rfl) ?_
    refine lv_iconst (v := 3) X.x X.b d_Law_law_200 (by decide) ?_
    refine lv_iadd X.x X.b d_Law_law_201 ?_
    rw [show (0 + 3 : Int32) = 3 from by decide]
    refine m_sld X hx hbl hS 3 (by decide) rfl d_Law_law_202 ?_
    refine lv_aload_n X.x X.b d_Law_law_203 rfl (lv_at hl 5 rfl) ?_
    refine lv_iload X.x X.b d_Law_law_204 (lv_at hl 1 rfl) ?_
    refine lv_iconst (v := 4) X.x X.b d_Law_law_206 (by decide) ?_
    refine lv_iadd X.x X.b d_Law_law_207 ?_
    rw [show (0 + 4 : Int32) = 4 from by decide]
    refine m_sld X hx hbl hS 4 (by decide) rfl d_Law_law_208 ?_
    refine lv_aload_n X.x X.b d_Law_law_209 rfl (lv_at hl 5 rfl) ?_
    refine lv_iload X.x X.b d_Law_law_210 (lv_at hl 1 rfl) ?_
    refine lv_iconst (v := 5) X.x X.b d_Law_law_212 (by decide) ?_
    refine lv_iadd X.x X.b d_Law_law_213 ?_
    rw [show (0 + 5 : Int32) = 5 from by decide]
    refine m_sld X hx hbl hS 5 (by decide) rfl d_Law_law_214 ?_
    refine lv_aload_n X.x X.b d_Law_law_215 rfl (lv_at hl 5 rfl) ?_
    refine lv_iload X.x X.b d_Law_law_216 (lv_at hl 1 rfl) ?_
    refine lv_bipush (v := 6) X.x X.b d_Law_law_218 (by decide) ?_
    refine lv_iadd X.x X.b d_Law_law_220 ?_
    rw [show (0 + 6 : Int32) = 6 from by decide]
    refine m_sld X hx hbl hS 6 (by decide) rfl d_Law_law_221 ?_
    refine lv_if_eq (tgt := 229) X.x X.b d_Law_law_222 (by decide) (fun c2 => ?_) (fun c2 => ?_)
    · skip
      refine lv_iconst (v := 0) X.x X.b d_Law_law_229 (by decide) ?_
      refine m_callV X hS (M_Model_add_r l g hM hf hn hr0 hr hln (Or.inl rfl)) v_Law_72 hM.1 rfl rfl rfl (Nat.le_of_ble_eq_true rfl) hl.1 d_Law_law_230 (by omega) (by decide) ⟨by omega, by omega⟩ (fun q z => z.elim (fun z => by have z : (mo ≤ q ∧ q < mo + 23) ∨ q = mo + 1 := z; show s.heap.size ≤ q; omega) (fun z => Nat.le_trans hS.1 z)) (fun H2 locs2 hq hfr hS => ?_)
      clear hM
      obtain ⟨p1, s1, hM, hp⟩ := hq
      have ho := ouIs.fr ho hfr (fun z => by have z : (mo ≤ oq ∧ oq < mo + 23) ∨ oq = mo + 1 := z; omega)
      refine lv_istore (lv' := [(6, .int 0), (5, .int 0), (4, .int 0), (3, .ref oq), (2, .ref mo), (1, .ref B), (0, .ref b)]) X.x X.b d_Law_law_233 hl (by decide) rfl (fun ls hl => ?_)
      refine lv_aload_n X.x X.b d_Law_law_235 rfl (lv_at hl 4 rfl) ?_
      have hR := M_Model_thrown l g hM
      rw [hp] at hR
      refine m_callV X hS hR v_Law_73 hM.1 rfl rfl rfl (Nat.le_of_ble_eq_true rfl) hl.1 d_Law_law_236 (by omega) (by decide) ⟨by omega, by omega⟩ (fun q z => z.elim (fun z => z.elim) (fun z => Nat.le_trans hS.1 z)) (fun H3 locs3 hq hfr hS3 => ?_)
      clear hS
      have hS := hS3
      clear hS3
      subst hq
      refine lv_iload X.x X.b d_Law_law_239 (lv_at hl 1 rfl) ?_
      refine lv_icmp_eq (tgt := 246) X.x X.b d_Law_law_241 (by decide) (fun c3 => ?_) (fun c3 => ?_)
      · skip
        refine lv_iload X.x X.b d_Law_law_246 (lv_at hl 1 rfl) ?_
        refine lv_if_ne (tgt := 263) X.x X.b d_Law_law_248 (by decide) (fun c4 => ?_) (fun c4 => ?_)
        · exact absurd c3 c4
        · skip
          refine lv_aload_n X.x X.b d_Law_law_251 rfl (lv_at hl 3 rfl) ?_
          refine lv_iconst (v := 0) X.x X.b d_Law_law_252 (by decide) ?_
          refine m_lald0 X ho d_Law_law_253 ?_
          refine lv_iload X.x X.b d_Law_law_254 (lv_at hl 0 rfl) ?_
          refine lv_i2l (v := (0 : Int32).toInt64) X.x X.b d_Law_law_256 rfl ?_
          refine m_lcmp0 X d_Law_law_257 ?_
          refine lv_if_eq (tgt := 263) X.x X.b d_Law_law_258 (by decide) (fun c5 => ?_) (fun c5 => ?_)
          · skip
            refine lv_goto (tgt := 1283) X.x X.b d_Law_law_263 (by decide) ?_
            exact kk _ _ _ _ _ hS (lv_sub hl [2, 6] rfl) (by omega) (by omega)
          · exact absurd c4 c5
      · exact absurd c3 (by decide)
    · exact absurd c1 c2
  · exact absurd h6 c1
set_option maxRecDepth 100000 in
set_option maxHeartbeats 4000000 in
theorem law_0_IA1 {g : GG} {p : Program} {l : Launch} {e : Env} {s : State} {m : MethodId} {below : List Frame} {meth : Method} {c : Code} {H : Heap} {locs : List Loc} {cells slots : Nat} {Q : State → Prop} {nm : String} {ls : Array Slot} {B mo oq b : Nat} {xs : Nat → Int32} (X : CX g p s m #[.ref b] meth c c_Law_law 9 (some .boolean) R_Law nm) (hfl : l.stackTraces = false) (hx : va_X b 8 xs s s.heap) (hbl : b < s.heap.size) (kk : LawE p l e s m b below meth c Q) (h0 : LawS g s B mo oq b locs cells slots ls H) {r : Nat} (hr : r < 5) (h1 : xs 1 = nI r) (hln : ¬ lnOk (xs 2) (xs 3) (xs 4) (xs 5) 1) (h6 : ¬ (xs 6) = 0) : W p l e (rmK 2000 600002 7302232) s m #[.ref b] below meth c H locs cells slots Q (F0 m 132 ls []) := by
  obtain ⟨⟨hB, hmo, hoq⟩, hS, hb, ⟨p0, s0, hM, hf, hn⟩, ⟨fo, ho⟩, hZ, hl, hcs, hss⟩ := h0
  have hBz : B ≤ H.size := hB ▸ hS.1
  have hoq2 : B + 287 ≤ oq := by omega
  refine lv_aload_n X.x X.b d_Law_law_132 rfl (lv_at hl 3 rfl) ?_
  refine lv_aload_n X.x X.b d_Law_law_133 rfl (lv_at hl 4 rfl) ?_
  refine lv_iload X.x X.b d_Law_law_134 (lv_at hl 0 rfl) ?_
  refine lv_iconst (v := 1) X.x X.b d_Law_law_136 (by decide) ?_
  refine lv_iadd X.x X.b d_Law_law_137 ?_
  rw [show (0 + 1 : Int32) = 1 from by decide]
  refine m_sld X hx hbl hS 1 (by decide) rfl d_Law_law_138 ?_
  rw [h1]
  refine lv_aload_n X.x X.b d_Law_law_139 rfl (lv_at hl 4 rfl) ?_
  refine lv_iload X.x X.b d_Law_law_140 (lv_at hl 0 rfl) ?_
  refine lv_iconst (v := 2) X.x X.b d_Law_law_142 (by decide) ?_
  refine lv_iadd X.x X.b d_Law_law_143 ?_
  rw [show (0 + 2 : Int32) = 2 from by decide]
  refine m_sld X hx hbl hS 2 (by decide) rfl d_Law_law_144 ?_
  refine lv_aload_n X.x X.b d_Law_law_145 rfl (lv_at hl 4 rfl) ?_
  refine lv_iload X.x X.b d_Law_law_146 (lv_at hl 0 rfl) ?_
  refine lv_iconst (v := 3) X.x X.b d_Law_law_148 (by decide) ?_
  refine lv_iadd X.x X.b d_Law_law_149 ?_
  rw [show (0 + 3 : Int32) = 3 from by decide]
  refine m_sld X hx hbl hS 3 (by decide) rfl d_Law_law_150 ?_
  refine lv_aload_n X.x X.b d_Law_law_151 rfl (lv_at hl 4 rfl) ?_
  refine lv_iload X.x X.b d_Law_law_152 (lv_at hl 0 rfl) ?_
  refine lv_iconst (v := 4) X.x X.b d_Law_law_154 (by decide) ?_
  refine lv_iadd X.x X.b d_Law_law_155 ?_
  rw [show (0 + 4 : Int32) = 4 from by decide]
  refine m_sld X hx hbl hS 4 (by decide) rfl d_Law_law_156 ?_
  refine lv_aload_n X.x X.b d_Law_law_157 rfl (lv_at hl 4 rfl) ?_
  refine lv_iload X.x X.b d_Law_law_158 (lv_at hl 0 rfl) ?_
  refine lv_iconst (v := 5) X.x X.b d_Law_law_160 (by decide) ?_
  refine lv_iadd X.x X.b d_Law_law_161 ?_
  rw [show (0 + 5 : Int32) = 5 from by decide]
  refine m_sld X hx hbl hS 5 (by decide) rfl d_Law_law_162 ?_
  refine lv_aload_n X.x X.b d_Law_law_163 rfl (lv_at hl 4 rfl) ?_
  refine lv_iload X.x X.b d_Law_law_164 (lv_at hl 0 rfl) ?_
  refine lv_bipush (v := 6) X.x X.b d_Law_law_166 (by decide) ?_
  refine lv_iadd X.x X.b d_Law_law_168 ?_
  rw [show (0 + 6 : Int32) = 6 from by decide]
  refine m_sld X hx hbl hS 6 (by decide) rfl d_Law_law_169 ?_
  refine lv_if_eq (tgt := 177) X.x X.b d_Law_law_170 (by decide) (fun c1 => ?_) (fun c1 => ?_)
  · exact absurd c1 h6
  · skip
    refine lv_iconst (v := 1) X.x X.b d_Law_law_173 (by decide) ?_
    refine lv_goto (tgt := 178) X.x X.b d_Law_law_174 (by decide) ?_
    refine lv_aload_n X.x X.b d_Law_law_178 rfl (lv_at hl 1 rfl) ?_
    refine m_callW X hS (L_add_IA l g hfl hb (rIn_nI hr) hln hBz ho hoq2) hZ s_Law_67 rfl rfl (Nat.le_of_ble_eq_true rfl) hl.1 d_Law_law_179 (by omega) (by decide) ⟨by omega, by omega⟩ (fun q z => z.elim (fun z => by have z : (B ≤ q ∧ q < B + 287) ∨ q = oq := z; show s.heap.size ≤ q; omega) (fun z => Nat.le_trans hS.1 z)) (fun H1 locs1 hq hfr hS => ?_)
    have hM := hM.frame hfr (fun q z => by have z : (B ≤ q ∧ q < B + 287) ∨ q = oq := z; exact ⟨by omega, by omega⟩)
    clear hb hZ
    refine lv_istore (lv' := [(5, .int 2), (4, .int 0), (3, .ref oq), (2, .ref mo), (1, .ref B), (0, .ref b)]) X.x X.b d_Law_law_182 hl (by decide) rfl (fun ls hl => ?_)
    refine lv_aload_n X.x X.b d_Law_law_184 rfl (lv_at hl 3 rfl) ?_
    refine lv_aload_n X.x X.b d_Law_law_185 rfl (lv_at hl 5 rfl) ?_
    refine lv_iload X.x X.b d_Law_law_186 (lv_at hl 1 rfl) ?_
    refine lv_iconst (v := 1) X.x X.b d_Law_law_188 (by decide) ?_
    refine lv_iadd X.x X.b d_Law_law_189 ?_
    rw [show (0 + 1 : Int32) = 1 from by decide]
    refine m_sld X hx hbl hS 1 (by decide) rfl d_Law_law_190 ?_
    rw [h1]
    refine lv_aload_n X.x X.b d_Law_law_191 rfl (lv_at hl 5 rfl) ?_
    refine lv_iload X.x X.b d_Law_law_192 (lv_at hl 1 rfl) ?_
    refine lv_iconst (v := 2) X.x X.b d_Law_law_194 (by decide) ?_
    refine lv_iadd X.x X.b d_Law_law_195 ?_
    rw [show (0 + 2 : Int32) = 2 from by decide]
    refine m_sld X hx hbl hS 2 (by decide) rfl d_Law_law_196 ?_
    refine lv_aload_n X.x X.b d_Law_law_197 rfl (lv_at hl 5 rfl) ?_
    refine lv_iload X.x X.b d_Law_law_198 (lv_at hl 1 rfl) ?_
    refine lv_iconst (v := 3) X.x X.b d_Law_law_200 (by decide) ?_
    refine lv_iadd X.x X.b d_Law_law_201 ?_
    rw [show (0 + 3 : Int32) = 3 from by decide]
    refine m_sld X hx hbl hS 3 (by decide) rfl d_Law_law_202 ?_
    refine lv_aload_n X.x X.b d_Law_law_203 rfl (lv_at hl 5 rfl) ?_
    refine lv_iload X.x X.b d_Law_law_204 (lv_at hl 1 rfl) ?_
    refine lv_iconst (v := 4) X.x X.b d_Law_law_206 (by decide) ?_
    refine lv_iadd X.x X.b d_Law_law_207 ?_
    rw [show (0 + 4 : Int32) = 4 from by decide]
    refine m_sld X hx hbl hS 4 (by decide) rfl d_Law_law_208 ?_
    refine lv_aload_n X.x X.b d_Law_law_209 rfl (lv_at hl 5 rfl) ?_
    refine lv_iload X.x X.b d_Law_law_210 (lv_at hl 1 rfl) ?_
    refine lv_iconst (v := 5) X.x X.b d_Law_law_212 (by decide) ?_
    refine lv_iadd X.x X.b d_Law_law_213 ?_
    rw [show (0 + 5 : Int32) = 5 from by decide]
    refine m_sld X hx hbl hS 5 (by decide) rfl d_Law_law_214 ?_
    refine lv_aload_n X.x X.b d_Law_law_215 rfl (lv_at hl 5 rfl) ?_
    refine lv_iload X.x X.b d_Law_law_216 (lv_at hl 1 rfl) ?_
    refine lv_bipush (v := 6) X.x X.b d_Law_law_218 (by decide) ?_
    refine lv_iadd X.x X.b d_Law_law_220 ?_
    rw [show (0 + 6 : Int32) = 6 from by decide]
    refine m_sld X hx hbl hS 6 (by decide) rfl d_Law_law_221 ?_
    refine lv_if_eq (tgt := 229) X.x X.b d_Law_law_222 (by decide) (fun c2 => ?_) (fun c2 => ?_)
    · exact absurd c2 c1
    · skip
      refine lv_iconst (v := 1) X.x X.b d_Law_law_225 (by decide) ?_
      refine lv_goto (tgt := 230) X.x X.b d_Law_law_226 (by decide) ?_
      refine m_callV X hS (M_Model_add_n2 l g hM hf hn hr (fun z => hln ((cb_ln (xs 2) (xs 3) (xs 4) (xs 5) 1 (Or.inr rfl)).mp z))) v_Law_72 hM.1 rfl rfl rfl (Nat.le_of_ble_eq_true rfl) hl.1 d_Law_law_230 (by omega) (by decide) ⟨by omega, by omega⟩ (fun q z => z.elim (fun z => by have z : (mo ≤ q ∧ q < mo + 23) ∨ q = mo + 1 := z; show s.heap.size ≤ q; omega) (fun z => Nat.le_trans hS.1 z)) (fun H2 locs2 hq hfr hS => ?_)
      clear hM
      obtain ⟨p1, s1, hM, hp⟩ := hq
      refine lv_istore (lv' := [(6, .int 0), (5, .int 2), (4, .int 0), (3, .ref oq), (2, .ref mo), (1, .ref B), (0, .ref b)]) X.x X.b d_Law_law_233 hl (by decide) rfl (fun ls hl => ?_)
      refine lv_aload_n X.x X.b d_Law_law_235 rfl (lv_at hl 4 rfl) ?_
      have hR := M_Model_thrown l g hM
      rw [hp] at hR
      refine m_callV X hS hR v_Law_73 hM.1 rfl rfl rfl (Nat.le_of_ble_eq_true rfl) hl.1 d_Law_law_236 (by omega) (by decide) ⟨by omega, by omega⟩ (fun q z => z.elim (fun z => z.elim) (fun z => Nat.le_trans hS.1 z)) (fun H3 locs3 hq hfr hS3 => ?_)
      clear hS
      have hS := hS3
      clear hS3
      subst hq
      refine lv_iload X.x X.b d_Law_law_239 (lv_at hl 1 rfl) ?_
      refine lv_icmp_eq (tgt := 246) X.x X.b d_Law_law_241 (by decide) (fun c3 => ?_) (fun c3 => ?_)
      · skip
        refine lv_iload X.x X.b d_Law_law_246 (lv_at hl 1 rfl) ?_
        refine lv_if_ne (tgt := 263) X.x X.b d_Law_law_248 (by decide) (fun c4 => ?_) (fun c4 => ?_)
        · skip
          refine lv_goto (tgt := 1283) X.x X.b d_Law_law_263 (by decide) ?_
          exact kk _ _ _ _ _ hS (lv_sub hl [2, 6] rfl) (by omega) (by omega)
        · exact absurd c4 (by decide)
      · exact absurd c3 (by decide)
set_option maxRecDepth 100000 in
set_option maxHeartbeats 4000000 in
theorem law_0_z1 {g : GG} {p : Program} {l : Launch} {e : Env} {s : State} {m : MethodId} {below : List Frame} {meth : Method} {c : Code} {H : Heap} {locs : List Loc} {cells slots : Nat} {Q : State → Prop} {nm : String} {ls : Array Slot} {B mo oq b : Nat} {xs : Nat → Int32} (X : CX g p s m #[.ref b] meth c c_Law_law 9 (some .boolean) R_Law nm) (hfl : l.stackTraces = false) (hx : va_X b 8 xs s s.heap) (hbl : b < s.heap.size) (kk : LawE p l e s m b below meth c Q) (h0 : LawS g s B mo oq b locs cells slots ls H) (h1 : xs 1 = 0) (hln : lnOk (xs 2) (xs 3) (xs 4) (xs 5) 1) (h6 : ¬ (xs 6) = 0) : W p l e (rmK 2000 600002 7302232) s m #[.ref b] below meth c H locs cells slots Q (F0 m 132 ls []) := by
  obtain ⟨⟨hB, hmo, hoq⟩, hS, hb, ⟨p0, s0, hM, hf, hn⟩, ⟨fo, ho⟩, hZ, hl, hcs, hss⟩ := h0
  have hBz : B ≤ H.size := hB ▸ hS.1
  have hoq2 : B + 287 ≤ oq := by omega
  refine lv_aload_n X.x X.b d_Law_law_132 rfl (lv_at hl 3 rfl) ?_
  refine lv_aload_n X.x X.b d_Law_law_133 rfl (lv_at hl 4 rfl) ?_
  refine lv_iload X.x X.b d_Law_law_134 (lv_at hl 0 rfl) ?_
  refine lv_iconst (v := 1) X.x X.b d_Law_law_136 (by decide) ?_
  refine lv_iadd X.x X.b d_Law_law_137 ?_
  rw [show (0 + 1 : Int32) = 1 from by decide]
  refine m_sld X hx hbl hS 1 (by decide) rfl d_Law_law_138 ?_
  rw [h1]
  refine lv_aload_n X.x X.b d_Law_law_139 rfl (lv_at hl 4 rfl) ?_
  refine lv_iload X.x X.b d_Law_law_140 (lv_at hl 0 rfl) ?_
  refine lv_iconst (v := 2) X.x X.b d_Law_law_142 (by decide) ?_
  refine lv_iadd X.x X.b d_Law_law_143 ?_
  rw [show (0 + 2 : Int32) = 2 from by decide]
  refine m_sld X hx hbl hS 2 (by decide) rfl d_Law_law_144 ?_
  refine lv_aload_n X.x X.b d_Law_law_145 rfl (lv_at hl 4 rfl) ?_
  refine lv_iload X.x X.b d_Law_law_146 (lv_at hl 0 rfl) ?_
  refine lv_iconst (v := 3) X.x X.b d_Law_law_148 (by decide) ?_
  refine lv_iadd X.x X.b d_Law_law_149 ?_
  rw [show (0 + 3 : Int32) = 3 from by decide]
  refine m_sld X hx hbl hS 3 (by decide) rfl d_Law_law_150 ?_
  refine lv_aload_n X.x X.b d_Law_law_151 rfl (lv_at hl 4 rfl) ?_
  refine lv_iload X.x X.b d_Law_law_152 (lv_at hl 0 rfl) ?_
  refine lv_iconst (v := 4) X.x X.b d_Law_law_154 (by decide) ?_
  refine lv_iadd X.x X.b d_Law_law_155 ?_
  rw [show (0 + 4 : Int32) = 4 from by decide]
  refine m_sld X hx hbl hS 4 (by decide) rfl d_Law_law_156 ?_
  refine lv_aload_n X.x X.b d_Law_law_157 rfl (lv_at hl 4 rfl) ?_
  refine lv_iload X.x X.b d_Law_law_158 (lv_at hl 0 rfl) ?_
  refine lv_iconst (v := 5) X.x X.b d_Law_law_160 (by decide) ?_
  refine lv_iadd X.x X.b d_Law_law_161 ?_
  rw [show (0 + 5 : Int32) = 5 from by decide]
  refine m_sld X hx hbl hS 5 (by decide) rfl d_Law_law_162 ?_
  refine lv_aload_n X.x X.b d_Law_law_163 rfl (lv_at hl 4 rfl) ?_
  refine lv_iload X.x X.b d_Law_law_164 (lv_at hl 0 rfl) ?_
  refine lv_bipush (v := 6) X.x X.b d_Law_law_166 (by decide) ?_
  refine lv_iadd X.x X.b d_Law_law_168 ?_
  rw [show (0 + 6 : Int32) = 6 from by decide]
  refine m_sld X hx hbl hS 6 (by decide) rfl d_Law_law_169 ?_
  refine lv_if_eq (tgt := 177) X.x X.b d_Law_law_170 (by decide) (fun c1 => ?_) (fun c1 => ?_)
  · exact absurd c1 h6
  · skip
    refine lv_iconst (v := 1) X.x X.b d_Law_law_173 (by decide) ?_
    refine lv_goto (tgt := 178) X.x X.b d_Law_law_174 (by decide) ?_
    refine lv_aload_n X.x X.b d_Law_law_178 rfl (lv_at hl 1 rfl) ?_
    refine m_callW X hS (L_add_ok l g hfl hb (r := 0) (by decide) (by decide) hln (Or.inr rfl) hBz ho hoq2) hZ s_Law_67 rfl rfl (Nat.le_of_ble_eq_true rfl) hl.1 d_Law_law_179 (by omega) (by decide) ⟨by omega, by omega⟩ (fun q z => z.elim (fun z => by have z : (B ≤ q ∧ q < B + 287) ∨ q = oq := z; show s.heap.size ≤ q; omega) (fun z => Nat.le_trans hS.1 z)) (fun H1 locs1 hq hfr hS => ?_)
    have hM := hM.frame hfr (fun q z => by have z : (B ≤ q ∧ q < B + 287) ∨ q = oq := z; exact ⟨by omega, by omega⟩)
    have ho : ouIs g oq ((0 : Int32).toInt64) H1 := hq
    clear hb hZ
    refine lv_istore (lv' := [(5, .int 0), (4, .int 0), (3, .ref oq), (2, .ref mo), (1, .ref B), (0, .ref b)]) X.x X.b d_Law_law_182 hl (by decide) rfl (fun ls hl => ?_)
    refine lv_aload_n X.x X.b d_Law_law_184 rfl (lv_at hl 3 rfl) ?_
    refine lv_aload_n X.x X.b d_Law_law_185 rfl (lv_at hl 5 rfl) ?_
    refine lv_iload X.x X.b d_Law_law_186 (lv_at hl 1 rfl) ?_
    refine lv_iconst (v := 1) X.x X.b d_Law_law_188 (by decide) ?_
    refine lv_iadd X.x X.b d_Law_law_189 ?_
    rw [show (0 + 1 : Int32) = 1 from by decide]
    refine m_sld X hx hbl hS 1 (by decide) rfl d_Law_law_190 ?_
    rw [h1]
    refine lv_aload_n X.x X.b d_Law_law_191 rfl (lv_at hl 5 rfl) ?_
    refine lv_iload X.x X.b d_Law_law_192 (lv_at hl 1 rfl) ?_
    refine lv_iconst (v := 2) X.x X.b d_Law_law_194 (by decide) ?_
    refine lv_iadd X.x X.b d_Law_law_195 ?_
    rw [show (0 + 2 : Int32) = 2 from by decide]
    refine m_sld X hx hbl hS 2 (by decide) rfl d_Law_law_196 ?_
    refine lv_aload_n X.x X.b d_Law_law_197 rfl (lv_at hl 5 rfl) ?_
    refine lv_iload X.x X.b d_Law_law_198 (lv_at hl 1 rfl) ?_
    refine lv_iconst (v := 3) X.x X.b d_Law_law_200 (by decide) ?_
    refine lv_iadd X.x X.b d_Law_law_201 ?_
    rw [show (0 + 3 : Int32) = 3 from by decide]
    refine m_sld X hx hbl hS 3 (by decide) rfl d_Law_law_202 ?_
    refine lv_aload_n X.x X.b d_Law_law_203 rfl (lv_at hl 5 rfl) ?_
    refine lv_iload X.x X.b d_Law_law_204 (lv_at hl 1 rfl) ?_
    refine lv_iconst (v := 4) X.x X.b d_Law_law_206 (by decide) ?_
    refine lv_iadd X.x X.b d_Law_law_207 ?_
    rw [show (0 + 4 : Int32) = 4 from by decide]
    refine m_sld X hx hbl hS 4 (by decide) rfl d_Law_law_208 ?_
    refine lv_aload_n X.x X.b d_Law_law_209 rfl (lv_at hl 5 rfl) ?_
    refine lv_iload X.x X.b d_Law_law_210 (lv_at hl 1 rfl) ?_
    refine lv_iconst (v := 5) X.x X.b d_Law_law_212 (by decide) ?_
    refine lv_iadd X.x X.b d_Law_law_213 ?_
    rw [show (0 + 5 : Int32) = 5 from by decide]
    refine m_sld X hx hbl hS 5 (by decide) rfl d_Law_law_214 ?_
    refine lv_aload_n X.x X.b d_Law_law_215 rfl (lv_at hl 5 rfl) ?_
    refine lv_iload X.x X.b d_Law_law_216 (lv_at hl 1 rfl) ?_
    refine lv_bipush (v := 6) X.x X.b d_Law_law_218 (by decide) ?_
    refine lv_iadd X.x X.b d_Law_law_220 ?_
    rw [show (0 + 6 : Int32) = 6 from by decide]
    refine m_sld X hx hbl hS 6 (by decide) rfl d_Law_law_221 ?_
    refine lv_if_eq (tgt := 229) X.x X.b d_Law_law_222 (by decide) (fun c2 => ?_) (fun c2 => ?_)
    · exact absurd c2 c1
    · skip
      refine lv_iconst (v := 1) X.x X.b d_Law_law_225 (by decide) ?_
      refine lv_goto (tgt := 230) X.x X.b d_Law_law_226 (by decide) ?_
      refine m_callV X hS (M_Model_add_0 l g hM hf hn hln (Or.inr rfl)) v_Law_72 hM.1 rfl rfl rfl (Nat.le_of_ble_eq_true rfl) hl.1 d_Law_law_230 (by omega) (by decide) ⟨by omega, by omega⟩ (fun q z => z.elim (fun z => by have z : (mo ≤ q ∧ q < mo + 23) ∨ q = mo + 1 := z; show s.heap.size ≤ q; omega) (fun z => Nat.le_trans hS.1 z)) (fun H2 locs2 hq hfr hS => ?_)
      clear hM
      obtain ⟨p1, s1, hM, hp⟩ := hq
      have ho := ouIs.fr ho hfr (fun z => by have z : (mo ≤ oq ∧ oq < mo + 23) ∨ oq = mo + 1 := z; omega)
      refine lv_istore (lv' := [(6, .int 0), (5, .int 0), (4, .int 0), (3, .ref oq), (2, .ref mo), (1, .ref B), (0, .ref b)]) X.x X.b d_Law_law_233 hl (by decide) rfl (fun ls hl => ?_)
      refine lv_aload_n X.x X.b d_Law_law_235 rfl (lv_at hl 4 rfl) ?_
      have hR := M_Model_thrown l g hM
      rw [hp] at hR
      refine m_callV X hS hR v_Law_73 hM.1 rfl rfl rfl (Nat.le_of_ble_eq_true rfl) hl.1 d_Law_law_236 (by omega) (by decide) ⟨by omega, by omega⟩ (fun q z => z.elim (fun z => z.elim) (fun z => Nat.le_trans hS.1 z)) (fun H3 locs3 hq hfr hS3 => ?_)
      clear hS
      have hS := hS3
      clear hS3
      subst hq
      refine lv_iload X.x X.b d_Law_law_239 (lv_at hl 1 rfl) ?_
      refine lv_icmp_eq (tgt := 246) X.x X.b d_Law_law_241 (by decide) (fun c3 => ?_) (fun c3 => ?_)
      · skip
        refine lv_iload X.x X.b d_Law_law_246 (lv_at hl 1 rfl) ?_
        refine lv_if_ne (tgt := 263) X.x X.b d_Law_law_248 (by decide) (fun c4 => ?_) (fun c4 => ?_)
        · exact absurd c3 c4
        · skip
          refine lv_aload_n X.x X.b d_Law_law_251 rfl (lv_at hl 3 rfl) ?_
          refine lv_iconst (v := 0) X.x X.b d_Law_law_252 (by decide) ?_
          refine m_lald0 X ho d_Law_law_253 ?_
          refine lv_iload X.x X.b d_Law_law_254 (lv_at hl 0 rfl) ?_
          refine lv_i2l (v := (0 : Int32).toInt64) X.x X.b d_Law_law_256 rfl ?_
          refine m_lcmp0 X d_Law_law_257 ?_
          refine lv_if_eq (tgt := 263) X.x X.b d_Law_law_258 (by decide) (fun c5 => ?_) (fun c5 => ?_)
          · skip
            refine lv_goto (tgt := 1283) X.x X.b d_Law_law_263 (by decide) ?_
            exact kk _ _ _ _ _ hS (lv_sub hl [2, 6] rfl) (by omega) (by omega)
          · exact absurd c4 c5
      · exact absurd c3 (by decide)
set_option maxRecDepth 100000 in
set_option maxHeartbeats 4000000 in
theorem law_0_r1 {g : GG} {p : Program} {l : Launch} {e : Env} {s : State} {m : MethodId} {below : List Frame} {meth : Method} {c : Code} {H : Heap} {locs : List Loc} {cells slots : Nat} {Q : State → Prop} {nm : String} {ls : Array Slot} {B mo oq b : Nat} {xs : Nat → Int32} (X : CX g p s m #[.ref b] meth c c_Law_law 9 (some .boolean) R_Law nm) (hfl : l.stackTraces = false) (hx : va_X b 8 xs s s.heap) (hbl : b < s.heap.size) (kk : LawE p l e s m b below meth c Q) (h0 : LawS g s B mo oq b locs cells slots ls H) {r : Nat} (hr : r < 5) (hr0 : 0 < r) (h1 : xs 1 = nI r) (hln : lnOk (xs 2) (xs 3) (xs 4) (xs 5) 1) (h6 : ¬ (xs 6) = 0) : W p l e (rmK 2000 600002 7302232) s m #[.ref b] below meth c H locs cells slots Q (F0 m 132 ls []) := by
  obtain ⟨⟨hB, hmo, hoq⟩, hS, hb, ⟨p0, s0, hM, hf, hn⟩, ⟨fo, ho⟩, hZ, hl, hcs, hss⟩ := h0
  have hBz : B ≤ H.size := hB ▸ hS.1
  have hoq2 : B + 287 ≤ oq := by omega
  refine lv_aload_n X.x X.b d_Law_law_132 rfl (lv_at hl 3 rfl) ?_
  refine lv_aload_n X.x X.b d_Law_law_133 rfl (lv_at hl 4 rfl) ?_
  refine lv_iload X.x X.b d_Law_law_134 (lv_at hl 0 rfl) ?_
  refine lv_iconst (v := 1) X.x X.b d_Law_law_136 (by decide) ?_
  refine lv_iadd X.x X.b d_Law_law_137 ?_
  rw [show (0 + 1 : Int32) = 1 from by decide]
  refine m_sld X hx hbl hS 1 (by decide) rfl d_Law_law_138 ?_
  rw [h1]
  refine lv_aload_n X.x X.b d_Law_law_139 rfl (lv_at hl 4 rfl) ?_
  refine lv_iload X.x X.b d_Law_law_140 (lv_at hl 0 rfl) ?_
  refine lv_iconst (v := 2) X.x X.b d_Law_law_142 (by decide) ?_
  refine lv_iadd X.x X.b d_Law_law_143 ?_
  rw [show (0 + 2 : Int32) = 2 from by decide]
  refine m_sld X hx hbl hS 2 (by decide) rfl d_Law_law_144 ?_
  refine lv_aload_n X.x X.b d_Law_law_145 rfl (lv_at hl 4 rfl) ?_
  refine lv_iload X.x X.b d_Law_law_146 (lv_at hl 0 rfl) ?_
  refine lv_iconst (v := 3) X.x X.b d_Law_law_148 (by decide) ?_
  refine lv_iadd X.x X.b d_Law_law_149 ?_
  rw [show (0 + 3 : Int32) = 3 from by decide]
  refine m_sld X hx hbl hS 3 (by decide) rfl d_Law_law_150 ?_
  refine lv_aload_n X.x X.b d_Law_law_151 rfl (lv_at hl 4 rfl) ?_
  refine lv_iload X.x X.b d_Law_law_152 (lv_at hl 0 rfl) ?_
  refine lv_iconst (v := 4) X.x X.b d_Law_law_154 (by decide) ?_
  refine lv_iadd X.x X.b d_Law_law_155 ?_
  rw [show (0 + 4 : Int32) = 4 from by decide]
  refine m_sld X hx hbl hS 4 (by decide) rfl d_Law_law_156 ?_
  refine lv_aload_n X.x X.b d_Law_law_157 rfl (lv_at hl 4 rfl) ?_
  refine lv_iload X.x X.b d_Law_law_158 (lv_at hl 0 rfl) ?_
  refine lv_iconst (v := 5) X.x X.b d_Law_law_160 (by decide) ?_
  refine lv_iadd X.x X.b d_Law_law_161 ?_
  rw [show (0 + 5 : Int32) = 5 from by decide]
  refine m_sld X hx hbl hS 5 (by decide) rfl d_Law_law_162 ?_
  refine lv_aload_n X.x X.b d_Law_law_163 rfl (lv_at hl 4 rfl) ?_
  refine lv_iload X.x X.b d_Law_law_164 (lv_at hl 0 rfl) ?_
  refine lv_bipush (v := 6) X.x X.b d_Law_law_166 (by decide) ?_
  refine lv_iadd X.x X.b d_Law_law_168 ?_
  rw [show (0 + 6 : Int32) = 6 from by decide]
  refine m_sld X hx hbl hS 6 (by decide) rfl d_Law_law_169 ?_
  refine lv_if_eq (tgt := 177) X.x X.b d_Law_law_170 (by decide) (fun c1 => ?_) (fun c1 => ?_)
  · exact absurd c1 h6
  · skip
    refine lv_iconst (v := 1) X.x X.b d_Law_law_173 (by decide) ?_
    refine lv_goto (tgt := 178) X.x X.b d_Law_law_174 (by decide) ?_
    refine lv_aload_n X.x X.b d_Law_law_178 rfl (lv_at hl 1 rfl) ?_
    refine m_callW X hS (L_add_ok l g hfl hb hr (show 0 < capF 40 r by unfold capF; split <;> decide) hln (Or.inr rfl) hBz ho hoq2) hZ s_Law_67 rfl rfl (Nat.le_of_ble_eq_true rfl) hl.1 d_Law_law_179 (by omega) (by decide) ⟨by omega, by omega⟩ (fun q z => z.elim (fun z => by have z : (B ≤ q ∧ q < B + 287) ∨ q = oq := z; show s.heap.size ≤ q; omega) (fun z => Nat.le_trans hS.1 z)) (fun H1 locs1 hq hfr hS => ?_)
    have hM := hM.frame hfr (fun q z => by have z : (B ≤ q ∧ q < B + 287) ∨ q = oq := z; exact ⟨by omega, by omega⟩)
    have ho : ouIs g oq ((0 : Int32).toInt64) H1 := hq
    clear hb hZ
    refine lv_istore (lv' := [(5, .int 0), (4, .int 0), (3, .ref oq), (2, .ref mo), (1, .ref B), (0, .ref b)]) X.x X.b d_Law_law_182 hl (by decide) rfl (fun ls hl => ?_)
    refine lv_aload_n X.x X.b d_Law_law_184 rfl (lv_at hl 3 rfl) ?_
    refine lv_aload_n X.x X.b d_Law_law_185 rfl (lv_at hl 5 rfl) ?_
    refine lv_iload X.x X.b d_Law_law_186 (lv_at hl 1 rfl) ?_
    refine lv_iconst (v := 1) X.x X.b d_Law_law_188 (by decide) ?_
    refine lv_iadd X.x X.b d_Law_law_189 ?_
    rw [show (0 + 1 : Int32) = 1 from by decide]
    refine m_sld X hx hbl hS 1 (by decide) rfl d_Law_law_190 ?_
    rw [h1]
    refine lv_aload_n X.x X.b d_Law_law_191 rfl (lv_at hl 5 rfl) ?_
    refine lv_iload X.x X.b d_Law_law_192 (lv_at hl 1 rfl) ?_
    refine lv_iconst (v := 2) X.x X.b d_Law_law_194 (by decide) ?_
    refine lv_iadd X.x X.b d_Law_law_195 ?_
    rw [show (0 + 2 : Int32) = 2 from by decide]
    refine m_sld X hx hbl hS 2 (by decide) rfl d_Law_law_196 ?_
    refine lv_aload_n X.x X.b d_Law_law_197 rfl (lv_at hl 5 rfl) ?_
    refine lv_iload X.x X.b d_Law_law_198 (lv_at hl 1 rfl) ?_
    refine lv_iconst (v := 3) X.x X.b d_Law_law_200 (by decide) ?_
    refine lv_iadd X.x X.b d_Law_law_201 ?_
    rw [show (0 + 3 : Int32) = 3 from by decide]
    refine m_sld X hx hbl hS 3 (by decide) rfl d_Law_law_202 ?_
    refine lv_aload_n X.x X.b d_Law_law_203 rfl (lv_at hl 5 rfl) ?_
    refine lv_iload X.x X.b d_Law_law_204 (lv_at hl 1 rfl) ?_
    refine lv_iconst (v := 4) X.x X.b d_Law_law_206 (by decide) ?_
    refine lv_iadd X.x X.b d_Law_law_207 ?_
    rw [show (0 + 4 : Int32) = 4 from by decide]
    refine m_sld X hx hbl hS 4 (by decide) rfl d_Law_law_208 ?_
    refine lv_aload_n X.x X.b d_Law_law_209 rfl (lv_at hl 5 rfl) ?_
    refine lv_iload X.x X.b d_Law_law_210 (lv_at hl 1 rfl) ?_
    refine lv_iconst (v := 5) X.x X.b d_Law_law_212 (by decide) ?_
    refine lv_iadd X.x X.b d_Law_law_213 ?_
    rw [show (0 + 5 : Int32) = 5 from by decide]
    refine m_sld X hx hbl hS 5 (by decide) rfl d_Law_law_214 ?_
    refine lv_aload_n X.x X.b d_Law_law_215 rfl (lv_at hl 5 rfl) ?_
    refine lv_iload X.x X.b d_Law_law_216 (lv_at hl 1 rfl) ?_
    refine lv_bipush (v := 6) X.x X.b d_Law_law_218 (by decide) ?_
    refine lv_iadd X.x X.b d_Law_law_220 ?_
    rw [show (0 + 6 : Int32) = 6 from by decide]
    refine m_sld X hx hbl hS 6 (by decide) rfl d_Law_law_221 ?_
    refine lv_if_eq (tgt := 229) X.x X.b d_Law_law_222 (by decide) (fun c2 => ?_) (fun c2 => ?_)
    · exact absurd c2 c1
    · skip
      refine lv_iconst (v := 1) X.x X.b d_Law_law_225 (by decide) ?_
      refine lv_goto (tgt := 230) X.x X.b d_Law_law_226 (by decide) ?_
      refine m_callV X hS (M_Model_add_r l g hM hf hn hr0 hr hln (Or.inr rfl)) v_Law_72 hM.1 rfl rfl rfl (Nat.le_of_ble_eq_true rfl) hl.1 d_Law_law_230 (by omega) (by decide) ⟨by omega, by omega⟩ (fun q z => z.elim (fun z => by have z : (mo ≤ q ∧ q < mo + 23) ∨ q = mo + 1 := z; show s.heap.size ≤ q; omega) (fun z => Nat.le_trans hS.1 z)) (fun H2 locs2 hq hfr hS => ?_)
      clear hM
      obtain ⟨p1, s1, hM, hp⟩ := hq
      have ho := ouIs.fr ho hfr (fun z => by have z : (mo ≤ oq ∧ oq < mo + 23) ∨ oq = mo + 1 := z; omega)
      refine lv_istore (lv' := [(6, .int 0), (5, .int 0), (4, .int 0), (3, .ref oq), (2, .ref mo), (1, .ref B), (0, .ref b)]) X.x X.b d_Law_law_233 hl (by decide) rfl (fun ls hl => ?_)
      refine lv_aload_n X.x X.b d_Law_law_235 rfl (lv_at hl 4 rfl) ?_
      have hR := M_Model_thrown l g hM
      rw [hp] at hR
      refine m_callV X hS hR v_Law_73 hM.1 rfl rfl rfl (Nat.le_of_ble_eq_true rfl) hl.1 d_Law_law_236 (by omega) (by decide) ⟨by omega, by omega⟩ (fun q z => z.elim (fun z => z.elim) (fun z => Nat.le_trans hS.1 z)) (fun H3 locs3 hq hfr hS3 => ?_)
      clear hS
      have hS := hS3
      clear hS3
      subst hq
      refine lv_iload X.x X.b d_Law_law_239 (lv_at hl 1 rfl) ?_
      refine lv_icmp_eq (tgt := 246) X.x X.b d_Law_law_241 (by decide) (fun c3 => ?_) (fun c3 => ?_)
      · skip
        refine lv_iload X.x X.b d_Law_law_246 (lv_at hl 1 rfl) ?_
        refine lv_if_ne (tgt := 263) X.x X.b d_Law_law_248 (by decide) (fun c4 => ?_) (fun c4 => ?_)
        · exact absurd c3 c4
        · skip
          refine lv_aload_n X.x X.b d_Law_law_251 rfl (lv_at hl 3 rfl) ?_
          refine lv_iconst (v := 0) X.x X.b d_Law_law_252 (by decide) ?_
          refine m_lald0 X ho d_Law_law_253 ?_
          refine lv_iload X.x X.b d_Law_law_254 (lv_at hl 0 rfl) ?_
          refine lv_i2l (v := (0 : Int32).toInt64) X.x X.b d_Law_law_256 rfl ?_
          refine m_lcmp0 X d_Law_law_257 ?_
          refine lv_if_eq (tgt := 263) X.x X.b d_Law_law_258 (by decide) (fun c5 => ?_) (fun c5 => ?_)
          · skip
            refine lv_goto (tgt := 1283) X.x X.b d_Law_law_263 (by decide) ?_
            exact kk _ _ _ _ _ hS (lv_sub hl [2, 6] rfl) (by omega) (by omega)
          · exact absurd c4 c5
      · exact absurd c3 (by decide)
set_option maxRecDepth 100000 in
set_option maxHeartbeats 4000000 in
theorem law_1 {g : GG} {p : Program} {l : Launch} {e : Env} {s : State} {m : MethodId} {below : List Frame} {meth : Method} {c : Code} {H : Heap} {locs : List Loc} {cells slots : Nat} {Q : State → Prop} {nm : String} {ls : Array Slot} {B mo oq b : Nat} {xs : Nat → Int32} (X : CX g p s m #[.ref b] meth c c_Law_law 9 (some .boolean) R_Law nm) (hfl : l.stackTraces = false) (hx : va_X b 8 xs s s.heap) (hbl : b < s.heap.size) (kk : LawE p l e s m b below meth c Q) (h0 : LawS g s B mo oq b locs cells slots ls H) : W p l e (rmK 2000 600002 7302232) s m #[.ref b] below meth c H locs cells slots Q (F0 m 266 ls []) := by
  obtain ⟨⟨hB, hmo, hoq⟩, hS, hb, ⟨p0, s0, hM, hf, hn⟩, ⟨fo, ho⟩, hZ, hl, hcs, hss⟩ := h0
  have hBz : B ≤ H.size := hB ▸ hS.1
  have hoq2 : B + 287 ≤ oq := by omega
  refine lv_aload_n X.x X.b d_Law_law_266 rfl (lv_at hl 3 rfl) ?_
  refine lv_aload_n X.x X.b d_Law_law_267 rfl (lv_at hl 4 rfl) ?_
  refine lv_iload X.x X.b d_Law_law_268 (lv_at hl 0 rfl) ?_
  refine lv_iconst (v := 1) X.x X.b d_Law_law_270 (by decide) ?_
  refine lv_iadd X.x X.b d_Law_law_271 ?_
  rw [show (0 + 1 : Int32) = 1 from by decide]
  refine m_sld X hx hbl hS 1 (by decide) rfl d_Law_law_272 ?_
  refine lv_aload_n X.x X.b d_Law_law_273 rfl (lv_at hl 4 rfl) ?_
  refine lv_iload X.x X.b d_Law_law_274 (lv_at hl 0 rfl) ?_
  refine lv_iconst (v := 2) X.x X.b d_Law_law_276 (by decide) ?_
  refine lv_iadd X.x X.b d_Law_law_277 ?_
  rw [show (0 + 2 : Int32) = 2 from by decide]
  refine m_sld X hx hbl hS 2 (by decide) rfl d_Law_law_278 ?_
  refine lv_aload_n X.x X.b d_Law_law_279 rfl (lv_at hl 4 rfl) ?_
  refine lv_iload X.x X.b d_Law_law_280 (lv_at hl 0 rfl) ?_
  refine lv_iconst (v := 3) X.x X.b d_Law_law_282 (by decide) ?_
  refine lv_iadd X.x X.b d_Law_law_283 ?_
  rw [show (0 + 3 : Int32) = 3 from by decide]
  refine m_sld X hx hbl hS 3 (by decide) rfl d_Law_law_284 ?_
  refine lv_aload_n X.x X.b d_Law_law_285 rfl (lv_at hl 4 rfl) ?_
  refine lv_iload X.x X.b d_Law_law_286 (lv_at hl 0 rfl) ?_
  refine lv_iconst (v := 4) X.x X.b d_Law_law_288 (by decide) ?_
  refine lv_iadd X.x X.b d_Law_law_289 ?_
  rw [show (0 + 4 : Int32) = 4 from by decide]
  refine m_sld X hx hbl hS 4 (by decide) rfl d_Law_law_290 ?_
  refine lv_aload_n X.x X.b d_Law_law_291 rfl (lv_at hl 4 rfl) ?_
  refine lv_iload X.x X.b d_Law_law_292 (lv_at hl 0 rfl) ?_
  refine lv_iconst (v := 5) X.x X.b d_Law_law_294 (by decide) ?_
  refine lv_iadd X.x X.b d_Law_law_295 ?_
  rw [show (0 + 5 : Int32) = 5 from by decide]
  refine m_sld X hx hbl hS 5 (by decide) rfl d_Law_law_296 ?_
  refine lv_aload_n X.x X.b d_Law_law_297 rfl (lv_at hl 4 rfl) ?_
  refine lv_iload X.x X.b d_Law_law_298 (lv_at hl 0 rfl) ?_
  refine lv_bipush (v := 6) X.x X.b d_Law_law_300 (by decide) ?_
  refine lv_iadd X.x X.b d_Law_law_302 ?_
  rw [show (0 + 6 : Int32) = 6 from by decide]
  refine m_sld X hx hbl hS 6 (by decide) rfl d_Law_law_303 ?_
  refine lv_aload_n X.x X.b d_Law_law_304 rfl (lv_at hl 4 rfl) ?_
  refine lv_iload X.x X.b d_Law_law_305 (lv_at hl 0 rfl) ?_
  refine lv_bipush (v := 7) X.x X.b d_Law_law_307 (by decide) ?_
  refine lv_iadd X.x X.b d_Law_law_309 ?_
  rw [show (0 + 7 : Int32) = 7 from by decide]
  refine m_sld X hx hbl hS 7 (by decide) rfl d_Law_law_310 ?_
  refine lv_if_eq (tgt := 318) X.x X.b d_Law_law_311 (by decide) (fun c1 => ?_) (fun c1 => ?_)
  · skip
    refine lv_iconst (v := 0) X.x X.b d_Law_law_318 (by decide) ?_
    refine lv_aload_n X.x X.b d_Law_law_319 rfl (lv_at hl 1 rfl) ?_
    refine m_callW X hS (L_put l g hfl hb (lin_F _ _) hBz ho hoq2) hZ s_Law_77 rfl rfl (Nat.le_of_ble_eq_true rfl) hl.1 d_Law_law_320 (by omega) (by decide) ⟨by omega, by omega⟩ (fun q z => z.elim (fun z => by have z : (B ≤ q ∧ q < B + 287) ∨ q = oq := z; show s.heap.size ≤ q; omega) (fun z => Nat.le_trans hS.1 z)) (fun H1 locs1 hq hfr hS => ?_)
    have hM := hM.frame hfr (fun q z => by have z : (B ≤ q ∧ q < B + 287) ∨ q = oq := z; exact ⟨by omega, by omega⟩)
    clear hb hZ
    refine lv_istore (lv' := [(5, .int 1), (4, .int 0), (3, .ref oq), (2, .ref mo), (1, .ref B), (0, .ref b)]) X.x X.b d_Law_law_323 hl (by decide) rfl (fun ls hl => ?_)
    refine lv_aload_n X.x X.b d_Law_law_325 rfl (lv_at hl 3 rfl) ?_
    refine lv_aload_n X.x X.b d_Law_law_326 rfl (lv_at hl 5 rfl) ?_
    refine lv_iload X.x X.b d_Law_law_327 (lv_at hl 1 rfl) ?_
    refine lv_iconst (v := 1) X.x X.b d_Law_law_329 (by decide) ?_
    refine lv_iadd X.x X.b d_Law_law_330 ?_
    rw [show (0 + 1 : Int32) = 1 from by decide]
    refine m_sld X hx hbl hS 1 (by decide) rfl d_Law_law_331 ?_
    refine lv_aload_n X.x X.b d_Law_law_332 rfl (lv_at hl 5 rfl) ?_
    refine lv_iload X.x X.b d_Law_law_333 (lv_at hl 1 rfl) ?_
    refine lv_iconst (v := 2) X.x X.b d_Law_law_335 (by decide) ?_
    refine lv_iadd X.x X.b d_Law_law_336 ?_
    rw [show (0 + 2 : Int32) = 2 from by decide]
    refine m_sld X hx hbl hS 2 (by decide) rfl d_Law_law_337 ?_
    refine lv_aload_n X.x X.b d_Law_law_338 rfl (lv_at hl 5 rfl) ?_
    refine lv_iload X.x X.b d_Law_law_339 (lv_at hl 1 rfl) ?_
    refine lv_iconst (v := 3) X.x X.b d_Law_law_341 (by decide) ?_
    refine lv_iadd X.x X.b d_Law_law_342 ?_
    rw [show (0 + 3 : Int32) = 3 from by decide]
    refine m_sld X hx hbl hS 3 (by decide) rfl d_Law_law_343 ?_
    refine lv_aload_n X.x X.b d_Law_law_344 rfl (lv_at hl 5 rfl) ?_
    refine lv_iload X.x X.b d_Law_law_345 (lv_at hl 1 rfl) ?_
    refine lv_iconst (v := 4) X.x X.b d_Law_law_347 (by decide) ?_
    refine lv_iadd X.x X.b d_Law_law_348 ?_
    rw [show (0 + 4 : Int32) = 4 from by decide]
    refine m_sld X hx hbl hS 4 (by decide) rfl d_Law_law_349 ?_
    refine lv_aload_n X.x X.b d_Law_law_350 rfl (lv_at hl 5 rfl) ?_
    refine lv_iload X.x X.b d_Law_law_351 (lv_at hl 1 rfl) ?_
    refine lv_iconst (v := 5) X.x X.b d_Law_law_353 (by decide) ?_
    refine lv_iadd X.x X.b d_Law_law_354 ?_
    rw [show (0 + 5 : Int32) = 5 from by decide]
    refine m_sld X hx hbl hS 5 (by decide) rfl d_Law_law_355 ?_
    refine lv_aload_n X.x X.b d_Law_law_356 rfl (lv_at hl 5 rfl) ?_
    refine lv_iload X.x X.b d_Law_law_357 (lv_at hl 1 rfl) ?_
    refine lv_bipush (v := 6) X.x X.b d_Law_law_359 (by decide) ?_
    refine lv_iadd X.x X.b d_Law_law_361 ?_
    rw [show (0 + 6 : Int32) = 6 from by decide]
    refine m_sld X hx hbl hS 6 (by decide) rfl d_Law_law_362 ?_
    refine lv_aload_n X.x X.b d_Law_law_363 rfl (lv_at hl 5 rfl) ?_
    refine lv_iload X.x X.b d_Law_law_364 (lv_at hl 1 rfl) ?_
    refine lv_bipush (v := 7) X.x X.b d_Law_law_366 (by decide) ?_
    refine lv_iadd X.x X.b d_Law_law_368 ?_
    rw [show (0 + 7 : Int32) = 7 from by decide]
    refine m_sld X hx hbl hS 7 (by decide) rfl d_Law_law_369 ?_
    refine lv_if_eq (tgt := 377) X.x X.b d_Law_law_370 (by decide) (fun c2 => ?_) (fun c2 => ?_)
    · skip
      refine lv_iconst (v := 0) X.x X.b d_Law_law_377 (by decide) ?_
      refine m_callV X hS (M_Model_put l g hM hf hn _ _ _ _ _ _ _) v_Law_80 hM.1 rfl rfl rfl (Nat.le_of_ble_eq_true rfl) hl.1 d_Law_law_378 (by omega) (by decide) ⟨by omega, by omega⟩ (fun q z => z.elim (fun z => by have z : mo ≤ q ∧ q < mo + 23 := z; show s.heap.size ≤ q; omega) (fun z => Nat.le_trans hS.1 z)) (fun H2 locs2 hq hfr hS => ?_)
      clear hM
      obtain ⟨p1, hM, hp⟩ := hq
      refine lv_istore (lv' := [(6, .int 0), (5, .int 1), (4, .int 0), (3, .ref oq), (2, .ref mo), (1, .ref B), (0, .ref b)]) X.x X.b d_Law_law_381 hl (by decide) rfl (fun ls hl => ?_)
      refine lv_aload_n X.x X.b d_Law_law_383 rfl (lv_at hl 4 rfl) ?_
      have hR := M_Model_thrown l g hM
      rw [hp] at hR
      refine m_callV X hS hR v_Law_73 hM.1 rfl rfl rfl (Nat.le_of_ble_eq_true rfl) hl.1 d_Law_law_384 (by omega) (by decide) ⟨by omega, by omega⟩ (fun q z => z.elim (fun z => z.elim) (fun z => Nat.le_trans hS.1 z)) (fun H3 locs3 hq hfr hS3 => ?_)
      clear hS
      have hS := hS3
      clear hS3
      subst hq
      refine lv_iload X.x X.b d_Law_law_387 (lv_at hl 1 rfl) ?_
      refine lv_icmp_eq (tgt := 394) X.x X.b d_Law_law_389 (by decide) (fun c3 => ?_) (fun c3 => ?_)
      · skip
        refine lv_iload X.x X.b d_Law_law_394 (lv_at hl 1 rfl) ?_
        refine lv_if_ne (tgt := 411) X.x X.b d_Law_law_396 (by decide) (fun c4 => ?_) (fun c4 => ?_)
        · skip
          refine lv_goto (tgt := 1283) X.x X.b d_Law_law_411 (by decide) ?_
          exact kk _ _ _ _ _ hS (lv_sub hl [2, 6] rfl) (by omega) (by omega)
        · exact absurd c4 (by decide)
      · exact absurd c3 (by decide)
    · exact absurd c1 c2
  · skip
    refine lv_iconst (v := 1) X.x X.b d_Law_law_314 (by decide) ?_
    refine lv_goto (tgt := 319) X.x X.b d_Law_law_315 (by decide) ?_
    refine lv_aload_n X.x X.b d_Law_law_319 rfl (lv_at hl 1 rfl) ?_
    refine m_callW X hS (L_put l g hfl hb (lin_F _ _) hBz ho hoq2) hZ s_Law_77 rfl rfl (Nat.le_of_ble_eq_true rfl) hl.1 d_Law_law_320 (by omega) (by decide) ⟨by omega, by omega⟩ (fun q z => z.elim (fun z => by have z : (B ≤ q ∧ q < B + 287) ∨ q = oq := z; show s.heap.size ≤ q; omega) (fun z => Nat.le_trans hS.1 z)) (fun H1 locs1 hq hfr hS => ?_)
    have hM := hM.frame hfr (fun q z => by have z : (B ≤ q ∧ q < B + 287) ∨ q = oq := z; exact ⟨by omega, by omega⟩)
    clear hb hZ
    refine lv_istore (lv' := [(5, .int 1), (4, .int 0), (3, .ref oq), (2, .ref mo), (1, .ref B), (0, .ref b)]) X.x X.b d_Law_law_323 hl (by decide) rfl (fun ls hl => ?_)
    refine lv_aload_n X.x X.b d_Law_law_325 rfl (lv_at hl 3 rfl) ?_
    refine lv_aload_n X.x X.b d_Law_law_326 rfl (lv_at hl 5 rfl) ?_
    refine lv_iload X.x X.b d_Law_law_327 (lv_at hl 1 rfl) ?_
    refine lv_iconst (v := 1) X.x X.b d_Law_law_329 (by decide) ?_
    refine lv_iadd X.x X.b d_Law_law_330 ?_
    rw [show (0 + 1 : Int32) = 1 from by decide]
    refine m_sld X hx hbl hS 1 (by decide) rfl d_Law_law_331 ?_
    refine lv_aload_n X.x X.b d_Law_law_332 rfl (lv_at hl 5 rfl) ?_
    refine lv_iload X.x X.b d_Law_law_333 (lv_at hl 1 rfl) ?_
    refine lv_iconst (v := 2) X.x X.b d_Law_law_335 (by decide) ?_
    refine lv_iadd X.x X.b d_Law_law_336 ?_
    rw [show (0 + 2 : Int32) = 2 from by decide]
    refine m_sld X hx hbl hS 2 (by decide) rfl d_Law_law_337 ?_
    refine lv_aload_n X.x X.b d_Law_law_338 rfl (lv_at hl 5 rfl) ?_
    refine lv_iload X.x X.b d_Law_law_339 (lv_at hl 1 rfl) ?_
    refine lv_iconst (v := 3) X.x X.b d_Law_law_341 (by decide) ?_
    refine lv_iadd X.x X.b d_Law_law_342 ?_
    rw [show (0 + 3 : Int32) = 3 from by decide]
    refine m_sld X hx hbl hS 3 (by decide) rfl d_Law_law_343 ?_
    refine lv_aload_n X.x X.b d_Law_law_344 rfl (lv_at hl 5 rfl) ?_
    refine lv_iload X.x X.b d_Law_law_345 (lv_at hl 1 rfl) ?_
    refine lv_iconst (v := 4) X.x X.b d_Law_law_347 (by decide) ?_
    refine lv_iadd X.x X.b d_Law_law_348 ?_
    rw [show (0 + 4 : Int32) = 4 from by decide]
    refine m_sld X hx hbl hS 4 (by decide) rfl d_Law_law_349 ?_
    refine lv_aload_n X.x X.b d_Law_law_350 rfl (lv_at hl 5 rfl) ?_
    refine lv_iload X.x X.b d_Law_law_351 (lv_at hl 1 rfl) ?_
    refine lv_iconst (v := 5) X.x X.b d_Law_law_353 (by decide) ?_
    refine lv_iadd X.x X.b d_Law_law_354 ?_
    rw [show (0 + 5 : Int32) = 5 from by decide]
    refine m_sld X hx hbl hS 5 (by decide) rfl d_Law_law_355 ?_
    refine lv_aload_n X.x X.b d_Law_law_356 rfl (lv_at hl 5 rfl) ?_
    refine lv_iload X.x X.b d_Law_law_357 (lv_at hl 1 rfl) ?_
    refine lv_bipush (v := 6) X.x X.b d_Law_law_359 (by decide) ?_
    refine lv_iadd X.x X.b d_Law_law_361 ?_
    rw [show (0 + 6 : Int32) = 6 from by decide]
    refine m_sld X hx hbl hS 6 (by decide) rfl d_Law_law_362 ?_
    refine lv_aload_n X.x X.b d_Law_law_363 rfl (lv_at hl 5 rfl) ?_
    refine lv_iload X.x X.b d_Law_law_364 (lv_at hl 1 rfl) ?_
    refine lv_bipush (v := 7) X.x X.b d_Law_law_366 (by decide) ?_
    refine lv_iadd X.x X.b d_Law_law_368 ?_
    rw [show (0 + 7 : Int32) = 7 from by decide]
    refine m_sld X hx hbl hS 7 (by decide) rfl d_Law_law_369 ?_
    refine lv_if_eq (tgt := 377) X.x X.b d_Law_law_370 (by decide) (fun c5 => ?_) (fun c5 => ?_)
    · exact absurd c5 c1
    · skip
      refine lv_iconst (v := 1) X.x X.b d_Law_law_373 (by decide) ?_
      refine lv_goto (tgt := 378) X.x X.b d_Law_law_374 (by decide) ?_
      refine m_callV X hS (M_Model_put l g hM hf hn _ _ _ _ _ _ _) v_Law_80 hM.1 rfl rfl rfl (Nat.le_of_ble_eq_true rfl) hl.1 d_Law_law_378 (by omega) (by decide) ⟨by omega, by omega⟩ (fun q z => z.elim (fun z => by have z : mo ≤ q ∧ q < mo + 23 := z; show s.heap.size ≤ q; omega) (fun z => Nat.le_trans hS.1 z)) (fun H2 locs2 hq hfr hS => ?_)
      clear hM
      obtain ⟨p1, hM, hp⟩ := hq
      refine lv_istore (lv' := [(6, .int 0), (5, .int 1), (4, .int 0), (3, .ref oq), (2, .ref mo), (1, .ref B), (0, .ref b)]) X.x X.b d_Law_law_381 hl (by decide) rfl (fun ls hl => ?_)
      refine lv_aload_n X.x X.b d_Law_law_383 rfl (lv_at hl 4 rfl) ?_
      have hR := M_Model_thrown l g hM
      rw [hp] at hR
      refine m_callV X hS hR v_Law_73 hM.1 rfl rfl rfl (Nat.le_of_ble_eq_true rfl) hl.1 d_Law_law_384 (by omega) (by decide) ⟨by omega, by omega⟩ (fun q z => z.elim (fun z => z.elim) (fun z => Nat.le_trans hS.1 z)) (fun H3 locs3 hq hfr hS3 => ?_)
      clear hS
      have hS := hS3
      clear hS3
      subst hq
      refine lv_iload X.x X.b d_Law_law_387 (lv_at hl 1 rfl) ?_
      refine lv_icmp_eq (tgt := 394) X.x X.b d_Law_law_389 (by decide) (fun c6 => ?_) (fun c6 => ?_)
      · skip
        refine lv_iload X.x X.b d_Law_law_394 (lv_at hl 1 rfl) ?_
        refine lv_if_ne (tgt := 411) X.x X.b d_Law_law_396 (by decide) (fun c7 => ?_) (fun c7 => ?_)
        · skip
          refine lv_goto (tgt := 1283) X.x X.b d_Law_law_411 (by decide) ?_
          exact kk _ _ _ _ _ hS (lv_sub hl [2, 6] rfl) (by omega) (by omega)
        · exact absurd c7 (by decide)
      · exact absurd c6 (by decide)
set_option maxRecDepth 100000 in
set_option maxHeartbeats 4000000 in
theorem law_2 {g : GG} {p : Program} {l : Launch} {e : Env} {s : State} {m : MethodId} {below : List Frame} {meth : Method} {c : Code} {H : Heap} {locs : List Loc} {cells slots : Nat} {Q : State → Prop} {nm : String} {ls : Array Slot} {B mo oq b : Nat} {xs : Nat → Int32} (X : CX g p s m #[.ref b] meth c c_Law_law 9 (some .boolean) R_Law nm) (hfl : l.stackTraces = false) (hx : va_X b 8 xs s s.heap) (hbl : b < s.heap.size) (kk : LawE p l e s m b below meth c Q) (h0 : LawS g s B mo oq b locs cells slots ls H) : W p l e (rmK 2000 600002 7302232) s m #[.ref b] below meth c H locs cells slots Q (F0 m 414 ls []) := by
  obtain ⟨⟨hB, hmo, hoq⟩, hS, hb, ⟨p0, s0, hM, hf, hn⟩, ⟨fo, ho⟩, hZ, hl, hcs, hss⟩ := h0
  have hBz : B ≤ H.size := hB ▸ hS.1
  have hoq2 : B + 287 ≤ oq := by omega
  refine lv_aload_n X.x X.b d_Law_law_414 rfl (lv_at hl 3 rfl) ?_
  refine lv_aload_n X.x X.b d_Law_law_415 rfl (lv_at hl 4 rfl) ?_
  refine lv_iload X.x X.b d_Law_law_416 (lv_at hl 0 rfl) ?_
  refine lv_iconst (v := 1) X.x X.b d_Law_law_418 (by decide) ?_
  refine lv_iadd X.x X.b d_Law_law_419 ?_
  rw [show (0 + 1 : Int32) = 1 from by decide]
  refine m_sld X hx hbl hS 1 (by decide) rfl d_Law_law_420 ?_
  refine lv_aload_n X.x X.b d_Law_law_421 rfl (lv_at hl 4 rfl) ?_
  refine lv_iload X.x X.b d_Law_law_422 (lv_at hl 0 rfl) ?_
  refine lv_iconst (v := 2) X.x X.b d_Law_law_424 (by decide) ?_
  refine lv_iadd X.x X.b d_Law_law_425 ?_
  rw [show (0 + 2 : Int32) = 2 from by decide]
  refine m_sld X hx hbl hS 2 (by decide) rfl d_Law_law_426 ?_
  refine lv_aload_n X.x X.b d_Law_law_427 rfl (lv_at hl 1 rfl) ?_
  refine m_callW X hS (L_cut l g hfl hb (lin_F _ _) hBz ho hoq2) hZ s_Law_81 rfl rfl (Nat.le_of_ble_eq_true rfl) hl.1 d_Law_law_428 (by omega) (by decide) ⟨by omega, by omega⟩ (fun q z => z.elim (fun z => by have z : (B ≤ q ∧ q < B + 287) ∨ q = oq := z; show s.heap.size ≤ q; omega) (fun z => Nat.le_trans hS.1 z)) (fun H1 locs1 hq hfr hS => ?_)
  have hM := hM.frame hfr (fun q z => by have z : (B ≤ q ∧ q < B + 287) ∨ q = oq := z; exact ⟨by omega, by omega⟩)
  clear hb hZ
  refine lv_istore (lv' := [(5, .int 1), (4, .int 0), (3, .ref oq), (2, .ref mo), (1, .ref B), (0, .ref b)]) X.x X.b d_Law_law_431 hl (by decide) rfl (fun ls hl => ?_)
  refine lv_aload_n X.x X.b d_Law_law_433 rfl (lv_at hl 3 rfl) ?_
  refine lv_aload_n X.x X.b d_Law_law_434 rfl (lv_at hl 5 rfl) ?_
  refine lv_iload X.x X.b d_Law_law_435 (lv_at hl 1 rfl) ?_
  refine lv_iconst (v := 1) X.x X.b d_Law_law_437 (by decide) ?_
  refine lv_iadd X.x X.b d_Law_law_438 ?_
  rw [show (0 + 1 : Int32) = 1 from by decide]
  refine m_sld X hx hbl hS 1 (by decide) rfl d_Law_law_439 ?_
  refine lv_aload_n X.x X.b d_Law_law_440 rfl (lv_at hl 5 rfl) ?_
  refine lv_iload X.x X.b d_Law_law_441 (lv_at hl 1 rfl) ?_
  refine lv_iconst (v := 2) X.x X.b d_Law_law_443 (by decide) ?_
  refine lv_iadd X.x X.b d_Law_law_444 ?_
  rw [show (0 + 2 : Int32) = 2 from by decide]
  refine m_sld X hx hbl hS 2 (by decide) rfl d_Law_law_445 ?_
  refine m_callV X hS (M_Model_cut l g hM hf hn _ _) v_Law_84 hM.1 rfl rfl rfl (Nat.le_of_ble_eq_true rfl) hl.1 d_Law_law_446 (by omega) (by decide) ⟨by omega, by omega⟩ (fun q z => z.elim (fun z => by have z : mo ≤ q ∧ q < mo + 23 := z; show s.heap.size ≤ q; omega) (fun z => Nat.le_trans hS.1 z)) (fun H2 locs2 hq hfr hS => ?_)
  clear hM
  obtain ⟨p1, hM, hp⟩ := hq
  refine lv_istore (lv' := [(6, .int 0), (5, .int 1), (4, .int 0), (3, .ref oq), (2, .ref mo), (1, .ref B), (0, .ref b)]) X.x X.b d_Law_law_449 hl (by decide) rfl (fun ls hl => ?_)
  refine lv_aload_n X.x X.b d_Law_law_451 rfl (lv_at hl 4 rfl) ?_
  have hR := M_Model_thrown l g hM
  rw [hp] at hR
  refine m_callV X hS hR v_Law_73 hM.1 rfl rfl rfl (Nat.le_of_ble_eq_true rfl) hl.1 d_Law_law_452 (by omega) (by decide) ⟨by omega, by omega⟩ (fun q z => z.elim (fun z => z.elim) (fun z => Nat.le_trans hS.1 z)) (fun H3 locs3 hq hfr hS3 => ?_)
  clear hS
  have hS := hS3
  clear hS3
  subst hq
  refine lv_iload X.x X.b d_Law_law_455 (lv_at hl 1 rfl) ?_
  refine lv_icmp_eq (tgt := 462) X.x X.b d_Law_law_457 (by decide) (fun c1 => ?_) (fun c1 => ?_)
  · skip
    refine lv_iload X.x X.b d_Law_law_462 (lv_at hl 1 rfl) ?_
    refine lv_if_ne (tgt := 479) X.x X.b d_Law_law_464 (by decide) (fun c2 => ?_) (fun c2 => ?_)
    · skip
      refine lv_goto (tgt := 1283) X.x X.b d_Law_law_479 (by decide) ?_
      exact kk _ _ _ _ _ hS (lv_sub hl [2, 6] rfl) (by omega) (by omega)
    · exact absurd c2 (by decide)
  · exact absurd c1 (by decide)
set_option maxRecDepth 100000 in
set_option maxHeartbeats 4000000 in
theorem law_3 {g : GG} {p : Program} {l : Launch} {e : Env} {s : State} {m : MethodId} {below : List Frame} {meth : Method} {c : Code} {H : Heap} {locs : List Loc} {cells slots : Nat} {Q : State → Prop} {nm : String} {ls : Array Slot} {B mo oq b : Nat} {xs : Nat → Int32} (X : CX g p s m #[.ref b] meth c c_Law_law 9 (some .boolean) R_Law nm) (hfl : l.stackTraces = false) (hx : va_X b 8 xs s s.heap) (hbl : b < s.heap.size) (kk : LawE p l e s m b below meth c Q) (h0 : LawS g s B mo oq b locs cells slots ls H) : W p l e (rmK 2000 600002 7302232) s m #[.ref b] below meth c H locs cells slots Q (F0 m 482 ls []) := by
  obtain ⟨⟨hB, hmo, hoq⟩, hS, hb, ⟨p0, s0, hM, hf, hn⟩, ⟨fo, ho⟩, hZ, hl, hcs, hss⟩ := h0
  have hBz : B ≤ H.size := hB ▸ hS.1
  have hoq2 : B + 287 ≤ oq := by omega
  refine lv_aload_n X.x X.b d_Law_law_482 rfl (lv_at hl 3 rfl) ?_
  refine lv_aload_n X.x X.b d_Law_law_483 rfl (lv_at hl 4 rfl) ?_
  refine lv_iload X.x X.b d_Law_law_484 (lv_at hl 0 rfl) ?_
  refine lv_iconst (v := 1) X.x X.b d_Law_law_486 (by decide) ?_
  refine lv_iadd X.x X.b d_Law_law_487 ?_
  rw [show (0 + 1 : Int32) = 1 from by decide]
  refine m_sld X hx hbl hS 1 (by decide) rfl d_Law_law_488 ?_
  refine lv_aload_n X.x X.b d_Law_law_489 rfl (lv_at hl 4 rfl) ?_
  refine lv_iload X.x X.b d_Law_law_490 (lv_at hl 0 rfl) ?_
  refine lv_iconst (v := 2) X.x X.b d_Law_law_492 (by decide) ?_
  refine lv_iadd X.x X.b d_Law_law_493 ?_
  rw [show (0 + 2 : Int32) = 2 from by decide]
  refine m_sld X hx hbl hS 2 (by decide) rfl d_Law_law_494 ?_
  refine lv_aload_n X.x X.b d_Law_law_495 rfl (lv_at hl 4 rfl) ?_
  refine lv_iload X.x X.b d_Law_law_496 (lv_at hl 0 rfl) ?_
  refine lv_iconst (v := 3) X.x X.b d_Law_law_498 (by decide) ?_
  refine lv_iadd X.x X.b d_Law_law_499 ?_
  rw [show (0 + 3 : Int32) = 3 from by decide]
  refine m_sld X hx hbl hS 3 (by decide) rfl d_Law_law_500 ?_
  refine lv_aload_n X.x X.b d_Law_law_501 rfl (lv_at hl 1 rfl) ?_
  refine m_callW X hS (L_ofLine l g hfl hb (lin_F _ _) hBz ho hoq2) hZ s_Law_85 rfl rfl (Nat.le_of_ble_eq_true rfl) hl.1 d_Law_law_502 (by omega) (by decide) ⟨by omega, by omega⟩ (fun q z => z.elim (fun z => by have z : (B ≤ q ∧ q < B + 287) ∨ q = oq := z; show s.heap.size ≤ q; omega) (fun z => Nat.le_trans hS.1 z)) (fun H1 locs1 hq hfr hS => ?_)
  have hM := hM.frame hfr (fun q z => by have z : (B ≤ q ∧ q < B + 287) ∨ q = oq := z; exact ⟨by omega, by omega⟩)
  clear hb hZ
  refine lv_istore (lv' := [(5, .int 1), (4, .int 0), (3, .ref oq), (2, .ref mo), (1, .ref B), (0, .ref b)]) X.x X.b d_Law_law_505 hl (by decide) rfl (fun ls hl => ?_)
  refine lv_aload_n X.x X.b d_Law_law_507 rfl (lv_at hl 3 rfl) ?_
  refine lv_aload_n X.x X.b d_Law_law_508 rfl (lv_at hl 5 rfl) ?_
  refine lv_iload X.x X.b d_Law_law_509 (lv_at hl 1 rfl) ?_
  refine lv_iconst (v := 1) X.x X.b d_Law_law_511 (by decide) ?_
  refine lv_iadd X.x X.b d_Law_law_512 ?_
  rw [show (0 + 1 : Int32) = 1 from by decide]
  refine m_sld X hx hbl hS 1 (by decide) rfl d_Law_law_513 ?_
  refine lv_aload_n X.x X.b d_Law_law_514 rfl (lv_at hl 5 rfl) ?_
  refine lv_iload X.x X.b d_Law_law_515 (lv_at hl 1 rfl) ?_
  refine lv_iconst (v := 2) X.x X.b d_Law_law_517 (by decide) ?_
  refine lv_iadd X.x X.b d_Law_law_518 ?_
  rw [show (0 + 2 : Int32) = 2 from by decide]
  refine m_sld X hx hbl hS 2 (by decide) rfl d_Law_law_519 ?_
  refine lv_aload_n X.x X.b d_Law_law_520 rfl (lv_at hl 5 rfl) ?_
  refine lv_iload X.x X.b d_Law_law_521 (lv_at hl 1 rfl) ?_
  refine lv_iconst (v := 3) X.x X.b d_Law_law_523 (by decide) ?_
  refine lv_iadd X.x X.b d_Law_law_524 ?_
  rw [show (0 + 3 : Int32) = 3 from by decide]
  refine m_sld X hx hbl hS 3 (by decide) rfl d_Law_law_525 ?_
  refine m_callV X hS (M_Model_ofLine l g hM hf hn _ _ _) v_Law_88 hM.1 rfl rfl rfl (Nat.le_of_ble_eq_true rfl) hl.1 d_Law_law_526 (by omega) (by decide) ⟨by omega, by omega⟩ (fun q z => z.elim (fun z => by have z : mo ≤ q ∧ q < mo + 23 := z; show s.heap.size ≤ q; omega) (fun z => Nat.le_trans hS.1 z)) (fun H2 locs2 hq hfr hS => ?_)
  clear hM
  obtain ⟨p1, hM, hp⟩ := hq
  refine lv_istore (lv' := [(6, .int 0), (5, .int 1), (4, .int 0), (3, .ref oq), (2, .ref mo), (1, .ref B), (0, .ref b)]) X.x X.b d_Law_law_529 hl (by decide) rfl (fun ls hl => ?_)
  refine lv_aload_n X.x X.b d_Law_law_531 rfl (lv_at hl 4 rfl) ?_
  have hR := M_Model_thrown l g hM
  rw [hp] at hR
  refine m_callV X hS hR v_Law_73 hM.1 rfl rfl rfl (Nat.le_of_ble_eq_true rfl) hl.1 d_Law_law_532 (by omega) (by decide) ⟨by omega, by omega⟩ (fun q z => z.elim (fun z => z.elim) (fun z => Nat.le_trans hS.1 z)) (fun H3 locs3 hq hfr hS3 => ?_)
  clear hS
  have hS := hS3
  clear hS3
  subst hq
  refine lv_iload X.x X.b d_Law_law_535 (lv_at hl 1 rfl) ?_
  refine lv_icmp_eq (tgt := 542) X.x X.b d_Law_law_537 (by decide) (fun c1 => ?_) (fun c1 => ?_)
  · skip
    refine lv_iload X.x X.b d_Law_law_542 (lv_at hl 1 rfl) ?_
    refine lv_if_ne (tgt := 559) X.x X.b d_Law_law_544 (by decide) (fun c2 => ?_) (fun c2 => ?_)
    · skip
      refine lv_goto (tgt := 1283) X.x X.b d_Law_law_559 (by decide) ?_
      exact kk _ _ _ _ _ hS (lv_sub hl [2, 6] rfl) (by omega) (by omega)
    · exact absurd c2 (by decide)
  · exact absurd c1 (by decide)
set_option maxRecDepth 100000 in
set_option maxHeartbeats 4000000 in
theorem law_4 {g : GG} {p : Program} {l : Launch} {e : Env} {s : State} {m : MethodId} {below : List Frame} {meth : Method} {c : Code} {H : Heap} {locs : List Loc} {cells slots : Nat} {Q : State → Prop} {nm : String} {ls : Array Slot} {B mo oq b : Nat} {xs : Nat → Int32} (X : CX g p s m #[.ref b] meth c c_Law_law 9 (some .boolean) R_Law nm) (hfl : l.stackTraces = false) (hx : va_X b 8 xs s s.heap) (hbl : b < s.heap.size) (kk : LawE p l e s m b below meth c Q) (h0 : LawS g s B mo oq b locs cells slots ls H) : W p l e (rmK 2000 600002 7302232) s m #[.ref b] below meth c H locs cells slots Q (F0 m 562 ls []) := by
  obtain ⟨⟨hB, hmo, hoq⟩, hS, hb, ⟨p0, s0, hM, hf, hn⟩, ⟨fo, ho⟩, hZ, hl, hcs, hss⟩ := h0
  have hBz : B ≤ H.size := hB ▸ hS.1
  have hoq2 : B + 287 ≤ oq := by omega
  refine lv_aload_n X.x X.b d_Law_law_562 rfl (lv_at hl 3 rfl) ?_
  have hR := M_BP_fault l g hb
  rw [yF_f.1] at hR
  refine m_callV X hS hR v_Law_89 hb.1 rfl rfl rfl (Nat.le_of_ble_eq_true rfl) hl.1 d_Law_law_563 (by omega) (by decide) ⟨by omega, by omega⟩ (fun q z => z.elim (fun z => z.elim) (fun z => Nat.le_trans hS.1 z)) (fun H1 locs1 hq hfr hS3 => ?_)
  clear hS
  have hS := hS3
  clear hS3
  subst hq
  clear hR
  refine lv_aload_n X.x X.b d_Law_law_566 rfl (lv_at hl 2 rfl) ?_
  refine m_callV X hS (M_Model_fault l g hM hf hn) v_Law_92 hM.1 rfl rfl rfl (Nat.le_of_ble_eq_true rfl) hl.1 d_Law_law_567 (by omega) (by decide) ⟨by omega, by omega⟩ (fun q z => z.elim (fun z => by have z : mo ≤ q ∧ q < mo + 23 := z; show s.heap.size ≤ q; omega) (fun z => Nat.le_trans hS.1 z)) (fun H2 locs2 hq hfr hS => ?_)
  clear hM
  obtain ⟨p1, hM, hp⟩ := hq
  refine lv_icmp_eq (tgt := 1283) X.x X.b d_Law_law_570 (by decide) (fun c1 => ?_) (fun c1 => ?_)
  · skip
    exact kk _ _ _ _ _ hS (lv_sub hl [0, 4] rfl) (by omega) (by omega)
  · exact absurd c1 (by decide)
set_option maxRecDepth 100000 in
set_option maxHeartbeats 4000000 in
theorem law_5 {g : GG} {p : Program} {l : Launch} {e : Env} {s : State} {m : MethodId} {below : List Frame} {meth : Method} {c : Code} {H : Heap} {locs : List Loc} {cells slots : Nat} {Q : State → Prop} {nm : String} {ls : Array Slot} {B mo oq b : Nat} {xs : Nat → Int32} (X : CX g p s m #[.ref b] meth c c_Law_law 9 (some .boolean) R_Law nm) (hfl : l.stackTraces = false) (hx : va_X b 8 xs s s.heap) (hbl : b < s.heap.size) (kk : LawE p l e s m b below meth c Q) (h0 : LawS g s B mo oq b locs cells slots ls H) : W p l e (rmK 2000 600002 7302232) s m #[.ref b] below meth c H locs cells slots Q (F0 m 575 ls []) := by
  obtain ⟨⟨hB, hmo, hoq⟩, hS, hb, ⟨p0, s0, hM, hf, hn⟩, ⟨fo, ho⟩, hZ, hl, hcs, hss⟩ := h0
  have hBz : B ≤ H.size := hB ▸ hS.1
  have hoq2 : B + 287 ≤ oq := by omega
  refine lv_aload_n X.x X.b d_Law_law_575 rfl (lv_at hl 3 rfl) ?_
  have hR := M_BP_faultAt l g hb
  rw [yF_f.2.1] at hR
  refine m_callV X hS hR v_Law_93 hb.1 rfl rfl rfl (Nat.le_of_ble_eq_true rfl) hl.1 d_Law_law_576 (by omega) (by decide) ⟨by omega, by omega⟩ (fun q z => z.elim (fun z => z.elim) (fun z => Nat.le_trans hS.1 z)) (fun H1 locs1 hq hfr hS3 => ?_)
  clear hS
  have hS := hS3
  clear hS3
  subst hq
  clear hR
  refine lv_aload_n X.x X.b d_Law_law_579 rfl (lv_at hl 2 rfl) ?_
  refine m_callV X hS (M_Model_faultAt l g hM hf hn) v_Law_96 hM.1 rfl rfl rfl (Nat.le_of_ble_eq_true rfl) hl.1 d_Law_law_580 (by omega) (by decide) ⟨by omega, by omega⟩ (fun q z => z.elim (fun z => by have z : mo ≤ q ∧ q < mo + 23 := z; show s.heap.size ≤ q; omega) (fun z => Nat.le_trans hS.1 z)) (fun H2 locs2 hq hfr hS => ?_)
  clear hM
  obtain ⟨p1, hM, hp⟩ := hq
  refine lv_icmp_eq (tgt := 1283) X.x X.b d_Law_law_583 (by decide) (fun c1 => ?_) (fun c1 => ?_)
  · skip
    exact kk _ _ _ _ _ hS (lv_sub hl [0, 4] rfl) (by omega) (by omega)
  · exact absurd c1 (by decide)
set_option maxRecDepth 100000 in
set_option maxHeartbeats 4000000 in
theorem law_6_n {g : GG} {p : Program} {l : Launch} {e : Env} {s : State} {m : MethodId} {below : List Frame} {meth : Method} {c : Code} {H : Heap} {locs : List Loc} {cells slots : Nat} {Q : State → Prop} {nm : String} {ls : Array Slot} {B mo oq b : Nat} {xs : Nat → Int32} (X : CX g p s m #[.ref b] meth c c_Law_law 9 (some .boolean) R_Law nm) (hfl : l.stackTraces = false) (hx : va_X b 8 xs s s.heap) (hbl : b < s.heap.size) (kk : LawE p l e s m b below meth c Q) (h0 : LawS g s B mo oq b locs cells slots ls H) (h1 : ¬ xs 1 = 0) : W p l e (rmK 2000 600002 7302232) s m #[.ref b] below meth c H locs cells slots Q (F0 m 588 ls []) := by
  obtain ⟨⟨hB, hmo, hoq⟩, hS, hb, ⟨p0, s0, hM, hf, hn⟩, ⟨fo, ho⟩, hZ, hl, hcs, hss⟩ := h0
  have hBz : B ≤ H.size := hB ▸ hS.1
  have hoq2 : B + 287 ≤ oq := by omega
  refine lv_aload_n X.x X.b d_Law_law_588 rfl (lv_at hl 3 rfl) ?_
  refine lv_aload_n X.x X.b d_Law_law_589 rfl (lv_at hl 4 rfl) ?_
  refine lv_iload X.x X.b d_Law_law_590 (lv_at hl 0 rfl) ?_
  refine lv_iconst (v := 1) X.x X.b d_Law_law_592 (by decide) ?_
  refine lv_iadd X.x X.b d_Law_law_593 ?_
  rw [show (0 + 1 : Int32) = 1 from by decide]
  refine m_sld X hx hbl hS 1 (by decide) rfl d_Law_law_594 ?_
  refine lv_aload_n X.x X.b d_Law_law_595 rfl (lv_at hl 4 rfl) ?_
  refine lv_iload X.x X.b d_Law_law_596 (lv_at hl 0 rfl) ?_
  refine lv_iconst (v := 2) X.x X.b d_Law_law_598 (by decide) ?_
  refine lv_iadd X.x X.b d_Law_law_599 ?_
  rw [show (0 + 2 : Int32) = 2 from by decide]
  refine m_sld X hx hbl hS 2 (by decide) rfl d_Law_law_600 ?_
  refine lv_aload_n X.x X.b d_Law_law_601 rfl (lv_at hl 1 rfl) ?_
  refine m_callW X hS (L_ofItem_IO l g hfl hb (iaO_Fn h1) hBz ho hoq2) hZ s_Law_97 rfl rfl (Nat.le_of_ble_eq_true rfl) hl.1 d_Law_law_602 (by omega) (by decide) ⟨by omega, by omega⟩ (fun q z => z.elim (fun z => by have z : (B ≤ q ∧ q < B + 287) ∨ q = oq := z; show s.heap.size ≤ q; omega) (fun z => Nat.le_trans hS.1 z)) (fun H1 locs1 hq hfr hS => ?_)
  have hM := hM.frame hfr (fun q z => by have z : (B ≤ q ∧ q < B + 287) ∨ q = oq := z; exact ⟨by omega, by omega⟩)
  clear hb hZ
  refine lv_istore (lv' := [(5, .int 1), (4, .int 0), (3, .ref oq), (2, .ref mo), (1, .ref B), (0, .ref b)]) X.x X.b d_Law_law_605 hl (by decide) rfl (fun ls hl => ?_)
  refine lv_aload_n X.x X.b d_Law_law_607 rfl (lv_at hl 3 rfl) ?_
  refine lv_aload_n X.x X.b d_Law_law_608 rfl (lv_at hl 5 rfl) ?_
  refine lv_iload X.x X.b d_Law_law_609 (lv_at hl 1 rfl) ?_
  refine lv_iconst (v := 1) X.x X.b d_Law_law_611 (by decide) ?_
  refine lv_iadd X.x X.b d_Law_law_612 ?_
  rw [show (0 + 1 : Int32) = 1 from by decide]
  refine m_sld X hx hbl hS 1 (by decide) rfl d_Law_law_613 ?_
  refine lv_aload_n X.x X.b d_Law_law_614 rfl (lv_at hl 5 rfl) ?_
  refine lv_iload X.x X.b d_Law_law_615 (lv_at hl 1 rfl) ?_
  refine lv_iconst (v := 2) X.x X.b d_Law_law_617 (by decide) ?_
  refine lv_iadd X.x X.b d_Law_law_618 ?_
  rw [show (0 + 2 : Int32) = 2 from by decide]
  refine m_sld X hx hbl hS 2 (by decide) rfl d_Law_law_619 ?_
  refine m_callV X hS (M_Model_ofItem_n l g hM hf hn h1 _) v_Law_99 hM.1 rfl rfl rfl (Nat.le_of_ble_eq_true rfl) hl.1 d_Law_law_620 (by omega) (by decide) ⟨by omega, by omega⟩ (fun q z => z.elim (fun z => by have z : mo ≤ q ∧ q < mo + 23 := z; show s.heap.size ≤ q; omega) (fun z => Nat.le_trans hS.1 z)) (fun H2 locs2 hq hfr hS => ?_)
  clear hM
  obtain ⟨p1, hM, hp⟩ := hq
  refine lv_istore (lv' := [(6, .int 0), (5, .int 1), (4, .int 0), (3, .ref oq), (2, .ref mo), (1, .ref B), (0, .ref b)]) X.x X.b d_Law_law_623 hl (by decide) rfl (fun ls hl => ?_)
  refine lv_aload_n X.x X.b d_Law_law_625 rfl (lv_at hl 4 rfl) ?_
  have hR := M_Model_thrown l g hM
  rw [hp] at hR
  refine m_callV X hS hR v_Law_73 hM.1 rfl rfl rfl (Nat.le_of_ble_eq_true rfl) hl.1 d_Law_law_626 (by omega) (by decide) ⟨by omega, by omega⟩ (fun q z => z.elim (fun z => z.elim) (fun z => Nat.le_trans hS.1 z)) (fun H3 locs3 hq hfr hS3 => ?_)
  clear hS
  have hS := hS3
  clear hS3
  subst hq
  refine lv_iload X.x X.b d_Law_law_629 (lv_at hl 1 rfl) ?_
  refine lv_icmp_eq (tgt := 636) X.x X.b d_Law_law_631 (by decide) (fun c1 => ?_) (fun c1 => ?_)
  · skip
    refine lv_iload X.x X.b d_Law_law_636 (lv_at hl 1 rfl) ?_
    refine lv_if_ne (tgt := 653) X.x X.b d_Law_law_638 (by decide) (fun c2 => ?_) (fun c2 => ?_)
    · skip
      refine lv_goto (tgt := 1283) X.x X.b d_Law_law_653 (by decide) ?_
      exact kk _ _ _ _ _ hS (lv_sub hl [2, 6] rfl) (by omega) (by omega)
    · exact absurd c2 (by decide)
  · exact absurd c1 (by decide)
set_option maxRecDepth 100000 in
set_option maxHeartbeats 4000000 in
theorem law_6_y {g : GG} {p : Program} {l : Launch} {e : Env} {s : State} {m : MethodId} {below : List Frame} {meth : Method} {c : Code} {H : Heap} {locs : List Loc} {cells slots : Nat} {Q : State → Prop} {nm : String} {ls : Array Slot} {B mo oq b : Nat} {xs : Nat → Int32} (X : CX g p s m #[.ref b] meth c c_Law_law 9 (some .boolean) R_Law nm) (hfl : l.stackTraces = false) (hx : va_X b 8 xs s s.heap) (hbl : b < s.heap.size) (kk : LawE p l e s m b below meth c Q) (h0 : LawS g s B mo oq b locs cells slots ls H) (h1 : xs 1 = 0) {t : Nat} (ht : t < 8) (h2 : xs 2 = nI t) : W p l e (rmK 2000 600002 7302232) s m #[.ref b] below meth c H locs cells slots Q (F0 m 588 ls []) := by
  obtain ⟨⟨hB, hmo, hoq⟩, hS, hb, ⟨p0, s0, hM, hf, hn⟩, ⟨fo, ho⟩, hZ, hl, hcs, hss⟩ := h0
  have hBz : B ≤ H.size := hB ▸ hS.1
  have hoq2 : B + 287 ≤ oq := by omega
  refine lv_aload_n X.x X.b d_Law_law_588 rfl (lv_at hl 3 rfl) ?_
  refine lv_aload_n X.x X.b d_Law_law_589 rfl (lv_at hl 4 rfl) ?_
  refine lv_iload X.x X.b d_Law_law_590 (lv_at hl 0 rfl) ?_
  refine lv_iconst (v := 1) X.x X.b d_Law_law_592 (by decide) ?_
  refine lv_iadd X.x X.b d_Law_law_593 ?_
  rw [show (0 + 1 : Int32) = 1 from by decide]
  refine m_sld X hx hbl hS 1 (by decide) rfl d_Law_law_594 ?_
  rw [h1]
  refine lv_aload_n X.x X.b d_Law_law_595 rfl (lv_at hl 4 rfl) ?_
  refine lv_iload X.x X.b d_Law_law_596 (lv_at hl 0 rfl) ?_
  refine lv_iconst (v := 2) X.x X.b d_Law_law_598 (by decide) ?_
  refine lv_iadd X.x X.b d_Law_law_599 ?_
  rw [show (0 + 2 : Int32) = 2 from by decide]
  refine m_sld X hx hbl hS 2 (by decide) rfl d_Law_law_600 ?_
  rw [h2]
  refine lv_aload_n X.x X.b d_Law_law_601 rfl (lv_at hl 1 rfl) ?_
  refine m_callW X hS (L_ofItem_ok l g hfl hb iaO_F0 (w8 t ht).1 hBz ho hoq2) hZ s_Law_97 rfl rfl (Nat.le_of_ble_eq_true rfl) hl.1 d_Law_law_602 (by omega) (by decide) ⟨by omega, by omega⟩ (fun q z => z.elim (fun z => by have z : (B ≤ q ∧ q < B + 287) ∨ q = oq := z; show s.heap.size ≤ q; omega) (fun z => Nat.le_trans hS.1 z)) (fun H1 locs1 hq hfr hS => ?_)
  have hM := hM.frame hfr (fun q z => by have z : (B ≤ q ∧ q < B + 287) ∨ q = oq := z; exact ⟨by omega, by omega⟩)
  have ho : ouIs g oq ((oiM (nI t)).toInt64) H1 := by rw [← yF_ofi t ht]; exact hq
  clear hb hZ
  refine lv_istore (lv' := [(5, .int 0), (4, .int 0), (3, .ref oq), (2, .ref mo), (1, .ref B), (0, .ref b)]) X.x X.b d_Law_law_605 hl (by decide) rfl (fun ls hl => ?_)
  refine lv_aload_n X.x X.b d_Law_law_607 rfl (lv_at hl 3 rfl) ?_
  refine lv_aload_n X.x X.b d_Law_law_608 rfl (lv_at hl 5 rfl) ?_
  refine lv_iload X.x X.b d_Law_law_609 (lv_at hl 1 rfl) ?_
  refine lv_iconst (v := 1) X.x X.b d_Law_law_611 (by decide) ?_
  refine lv_iadd X.x X.b d_Law_law_612 ?_
  rw [show (0 + 1 : Int32) = 1 from by decide]
  refine m_sld X hx hbl hS 1 (by decide) rfl d_Law_law_613 ?_
  rw [h1]
  refine lv_aload_n X.x X.b d_Law_law_614 rfl (lv_at hl 5 rfl) ?_
  refine lv_iload X.x X.b d_Law_law_615 (lv_at hl 1 rfl) ?_
  refine lv_iconst (v := 2) X.x X.b d_Law_law_617 (by decide) ?_
  refine lv_iadd X.x X.b d_Law_law_618 ?_
  rw [show (0 + 2 : Int32) = 2 from by decide]
  refine m_sld X hx hbl hS 2 (by decide) rfl d_Law_law_619 ?_
  rw [h2]
  refine m_callV X hS (M_Model_ofItem_y l g hM hf hn (w8 t ht).2.1) v_Law_99 hM.1 rfl rfl rfl (Nat.le_of_ble_eq_true rfl) hl.1 d_Law_law_620 (by omega) (by decide) ⟨by omega, by omega⟩ (fun q z => z.elim (fun z => by have z : mo ≤ q ∧ q < mo + 23 := z; show s.heap.size ≤ q; omega) (fun z => Nat.le_trans hS.1 z)) (fun H2 locs2 hq hfr hS => ?_)
  clear hM
  obtain ⟨p1, hM, hp⟩ := hq
  have ho := ouIs.fr ho hfr (fun z => by have z : mo ≤ oq ∧ oq < mo + 23 := z; omega)
  refine lv_istore (lv' := [(6, .int (oiM (nI t))), (5, .int 0), (4, .int 0), (3, .ref oq), (2, .ref mo), (1, .ref B), (0, .ref b)]) X.x X.b d_Law_law_623 hl (by decide) rfl (fun ls hl => ?_)
  refine lv_aload_n X.x X.b d_Law_law_625 rfl (lv_at hl 4 rfl) ?_
  have hR := M_Model_thrown l g hM
  rw [hp] at hR
  refine m_callV X hS hR v_Law_73 hM.1 rfl rfl rfl (Nat.le_of_ble_eq_true rfl) hl.1 d_Law_law_626 (by omega) (by decide) ⟨by omega, by omega⟩ (fun q z => z.elim (fun z => z.elim) (fun z => Nat.le_trans hS.1 z)) (fun H3 locs3 hq hfr hS3 => ?_)
  clear hS
  have hS := hS3
  clear hS3
  subst hq
  refine lv_iload X.x X.b d_Law_law_629 (lv_at hl 1 rfl) ?_
  refine lv_icmp_eq (tgt := 636) X.x X.b d_Law_law_631 (by decide) (fun c1 => ?_) (fun c1 => ?_)
  · skip
    refine lv_iload X.x X.b d_Law_law_636 (lv_at hl 1 rfl) ?_
    refine lv_if_ne (tgt := 653) X.x X.b d_Law_law_638 (by decide) (fun c2 => ?_) (fun c2 => ?_)
    · exact absurd c1 c2
    · skip
      refine lv_aload_n X.x X.b d_Law_law_641 rfl (lv_at hl 3 rfl) ?_
      refine lv_iconst (v := 0) X.x X.b d_Law_law_642 (by decide) ?_
      refine m_lald0 X ho d_Law_law_643 ?_
      refine lv_iload X.x X.b d_Law_law_644 (lv_at hl 0 rfl) ?_
      refine lv_i2l (v := (oiM (nI t)).toInt64) X.x X.b d_Law_law_646 rfl ?_
      refine m_lcmp0 X d_Law_law_647 ?_
      refine lv_if_eq (tgt := 653) X.x X.b d_Law_law_648 (by decide) (fun c3 => ?_) (fun c3 => ?_)
      · skip
        refine lv_goto (tgt := 1283) X.x X.b d_Law_law_653 (by decide) ?_
        exact kk _ _ _ _ _ hS (lv_sub hl [2, 6] rfl) (by omega) (by omega)
      · exact absurd c2 c3
  · exact absurd c1 (by decide)
set_option maxRecDepth 100000 in
set_option maxHeartbeats 4000000 in
theorem law_6_o {g : GG} {p : Program} {l : Launch} {e : Env} {s : State} {m : MethodId} {below : List Frame} {meth : Method} {c : Code} {H : Heap} {locs : List Loc} {cells slots : Nat} {Q : State → Prop} {nm : String} {ls : Array Slot} {B mo oq b : Nat} {xs : Nat → Int32} (X : CX g p s m #[.ref b] meth c c_Law_law 9 (some .boolean) R_Law nm) (hfl : l.stackTraces = false) (hx : va_X b 8 xs s s.heap) (hbl : b < s.heap.size) (kk : LawE p l e s m b below meth c Q) (h0 : LawS g s B mo oq b locs cells slots ls H) (h1 : xs 1 = 0) (h2 : ¬ (0 ≤ xs 2 ∧ xs 2 ≤ 7)) : W p l e (rmK 2000 600002 7302232) s m #[.ref b] below meth c H locs cells slots Q (F0 m 588 ls []) := by
  obtain ⟨⟨hB, hmo, hoq⟩, hS, hb, ⟨p0, s0, hM, hf, hn⟩, ⟨fo, ho⟩, hZ, hl, hcs, hss⟩ := h0
  have hBz : B ≤ H.size := hB ▸ hS.1
  have hoq2 : B + 287 ≤ oq := by omega
  refine lv_aload_n X.x X.b d_Law_law_588 rfl (lv_at hl 3 rfl) ?_
  refine lv_aload_n X.x X.b d_Law_law_589 rfl (lv_at hl 4 rfl) ?_
  refine lv_iload X.x X.b d_Law_law_590 (lv_at hl 0 rfl) ?_
  refine lv_iconst (v := 1) X.x X.b d_Law_law_592 (by decide) ?_
  refine lv_iadd X.x X.b d_Law_law_593 ?_
  rw [show (0 + 1 : Int32) = 1 from by decide]
  refine m_sld X hx hbl hS 1 (by decide) rfl d_Law_law_594 ?_
  rw [h1]
  refine lv_aload_n X.x X.b d_Law_law_595 rfl (lv_at hl 4 rfl) ?_
  refine lv_iload X.x X.b d_Law_law_596 (lv_at hl 0 rfl) ?_
  refine lv_iconst (v := 2) X.x X.b d_Law_law_598 (by decide) ?_
  refine lv_iadd X.x X.b d_Law_law_599 ?_
  rw [show (0 + 2 : Int32) = 2 from by decide]
  refine m_sld X hx hbl hS 2 (by decide) rfl d_Law_law_600 ?_
  refine lv_aload_n X.x X.b d_Law_law_601 rfl (lv_at hl 1 rfl) ?_
  refine m_callW X hS (L_ofItem_IA l g hfl hb iaO_F0 (n8 h2) hBz ho hoq2) hZ s_Law_97 rfl rfl (Nat.le_of_ble_eq_true rfl) hl.1 d_Law_law_602 (by omega) (by decide) ⟨by omega, by omega⟩ (fun q z => z.elim (fun z => by have z : (B ≤ q ∧ q < B + 287) ∨ q = oq := z; show s.heap.size ≤ q; omega) (fun z => Nat.le_trans hS.1 z)) (fun H1 locs1 hq hfr hS => ?_)
  have hM := hM.frame hfr (fun q z => by have z : (B ≤ q ∧ q < B + 287) ∨ q = oq := z; exact ⟨by omega, by omega⟩)
  clear hb hZ
  refine lv_istore (lv' := [(5, .int 2), (4, .int 0), (3, .ref oq), (2, .ref mo), (1, .ref B), (0, .ref b)]) X.x X.b d_Law_law_605 hl (by decide) rfl (fun ls hl => ?_)
  refine lv_aload_n X.x X.b d_Law_law_607 rfl (lv_at hl 3 rfl) ?_
  refine lv_aload_n X.x X.b d_Law_law_608 rfl (lv_at hl 5 rfl) ?_
  refine lv_iload X.x X.b d_Law_law_609 (lv_at hl 1 rfl) ?_
  refine lv_iconst (v := 1) X.x X.b d_Law_law_611 (by decide) ?_
  refine lv_iadd X.x X.b d_Law_law_612 ?_
  rw [show (0 + 1 : Int32) = 1 from by decide]
  refine m_sld X hx hbl hS 1 (by decide) rfl d_Law_law_613 ?_
  rw [h1]
  refine lv_aload_n X.x X.b d_Law_law_614 rfl (lv_at hl 5 rfl) ?_
  refine lv_iload X.x X.b d_Law_law_615 (lv_at hl 1 rfl) ?_
  refine lv_iconst (v := 2) X.x X.b d_Law_law_617 (by decide) ?_
  refine lv_iadd X.x X.b d_Law_law_618 ?_
  rw [show (0 + 2 : Int32) = 2 from by decide]
  refine m_sld X hx hbl hS 2 (by decide) rfl d_Law_law_619 ?_
  refine m_callV X hS (M_Model_ofItem_o l g hM hf hn h2) v_Law_99 hM.1 rfl rfl rfl (Nat.le_of_ble_eq_true rfl) hl.1 d_Law_law_620 (by omega) (by decide) ⟨by omega, by omega⟩ (fun q z => z.elim (fun z => by have z : mo ≤ q ∧ q < mo + 23 := z; show s.heap.size ≤ q; omega) (fun z => Nat.le_trans hS.1 z)) (fun H2 locs2 hq hfr hS => ?_)
  clear hM
  obtain ⟨p1, hM, hp⟩ := hq
  refine lv_istore (lv' := [(6, .int 0), (5, .int 2), (4, .int 0), (3, .ref oq), (2, .ref mo), (1, .ref B), (0, .ref b)]) X.x X.b d_Law_law_623 hl (by decide) rfl (fun ls hl => ?_)
  refine lv_aload_n X.x X.b d_Law_law_625 rfl (lv_at hl 4 rfl) ?_
  have hR := M_Model_thrown l g hM
  rw [hp] at hR
  refine m_callV X hS hR v_Law_73 hM.1 rfl rfl rfl (Nat.le_of_ble_eq_true rfl) hl.1 d_Law_law_626 (by omega) (by decide) ⟨by omega, by omega⟩ (fun q z => z.elim (fun z => z.elim) (fun z => Nat.le_trans hS.1 z)) (fun H3 locs3 hq hfr hS3 => ?_)
  clear hS
  have hS := hS3
  clear hS3
  subst hq
  refine lv_iload X.x X.b d_Law_law_629 (lv_at hl 1 rfl) ?_
  refine lv_icmp_eq (tgt := 636) X.x X.b d_Law_law_631 (by decide) (fun c1 => ?_) (fun c1 => ?_)
  · skip
    refine lv_iload X.x X.b d_Law_law_636 (lv_at hl 1 rfl) ?_
    refine lv_if_ne (tgt := 653) X.x X.b d_Law_law_638 (by decide) (fun c2 => ?_) (fun c2 => ?_)
    · skip
      refine lv_goto (tgt := 1283) X.x X.b d_Law_law_653 (by decide) ?_
      exact kk _ _ _ _ _ hS (lv_sub hl [2, 6] rfl) (by omega) (by omega)
    · exact absurd c2 (by decide)
  · exact absurd c1 (by decide)
set_option maxRecDepth 100000 in
set_option maxHeartbeats 4000000 in
theorem law_7 {g : GG} {p : Program} {l : Launch} {e : Env} {s : State} {m : MethodId} {below : List Frame} {meth : Method} {c : Code} {H : Heap} {locs : List Loc} {cells slots : Nat} {Q : State → Prop} {nm : String} {ls : Array Slot} {B mo oq b : Nat} {xs : Nat → Int32} (X : CX g p s m #[.ref b] meth c c_Law_law 9 (some .boolean) R_Law nm) (hfl : l.stackTraces = false) (hx : va_X b 8 xs s s.heap) (hbl : b < s.heap.size) (kk : LawE p l e s m b below meth c Q) (h0 : LawS g s B mo oq b locs cells slots ls H) : W p l e (rmK 2000 600002 7302232) s m #[.ref b] below meth c H locs cells slots Q (F0 m 656 ls []) := by
  obtain ⟨⟨hB, hmo, hoq⟩, hS, hb, ⟨p0, s0, hM, hf, hn⟩, ⟨fo, ho⟩, hZ, hl, hcs, hss⟩ := h0
  have hBz : B ≤ H.size := hB ▸ hS.1
  have hoq2 : B + 287 ≤ oq := by omega
  refine lv_aload_n X.x X.b d_Law_law_656 rfl (lv_at hl 3 rfl) ?_
  refine lv_aload_n X.x X.b d_Law_law_657 rfl (lv_at hl 4 rfl) ?_
  refine lv_iload X.x X.b d_Law_law_658 (lv_at hl 0 rfl) ?_
  refine lv_iconst (v := 1) X.x X.b d_Law_law_660 (by decide) ?_
  refine lv_iadd X.x X.b d_Law_law_661 ?_
  rw [show (0 + 1 : Int32) = 1 from by decide]
  refine m_sld X hx hbl hS 1 (by decide) rfl d_Law_law_662 ?_
  refine lv_aload_n X.x X.b d_Law_law_663 rfl (lv_at hl 1 rfl) ?_
  refine m_callW X hS (L_word l g hfl hb (iaO_Fh _) hBz ho hoq2) hZ s_Law_100 rfl rfl (Nat.le_of_ble_eq_true rfl) hl.1 d_Law_law_664 (by omega) (by decide) ⟨by omega, by omega⟩ (fun q z => z.elim (fun z => by have z : (B ≤ q ∧ q < B + 287) ∨ q = oq := z; show s.heap.size ≤ q; omega) (fun z => Nat.le_trans hS.1 z)) (fun H1 locs1 hq hfr hS => ?_)
  have hM := hM.frame hfr (fun q z => by have z : (B ≤ q ∧ q < B + 287) ∨ q = oq := z; exact ⟨by omega, by omega⟩)
  clear hb hZ
  refine lv_istore (lv' := [(5, .int 1), (4, .int 0), (3, .ref oq), (2, .ref mo), (1, .ref B), (0, .ref b)]) X.x X.b d_Law_law_667 hl (by decide) rfl (fun ls hl => ?_)
  refine lv_aload_n X.x X.b d_Law_law_669 rfl (lv_at hl 3 rfl) ?_
  refine lv_aload_n X.x X.b d_Law_law_670 rfl (lv_at hl 5 rfl) ?_
  refine lv_iload X.x X.b d_Law_law_671 (lv_at hl 1 rfl) ?_
  refine lv_iconst (v := 1) X.x X.b d_Law_law_673 (by decide) ?_
  refine lv_iadd X.x X.b d_Law_law_674 ?_
  rw [show (0 + 1 : Int32) = 1 from by decide]
  refine m_sld X hx hbl hS 1 (by decide) rfl d_Law_law_675 ?_
  refine m_callV X hS (M_Model_word l g hM hf hn _) v_Law_103 hM.1 rfl rfl rfl (Nat.le_of_ble_eq_true rfl) hl.1 d_Law_law_676 (by omega) (by decide) ⟨by omega, by omega⟩ (fun q z => z.elim (fun z => by have z : mo ≤ q ∧ q < mo + 23 := z; show s.heap.size ≤ q; omega) (fun z => Nat.le_trans hS.1 z)) (fun H2 locs2 hq hfr hS => ?_)
  clear hM
  obtain ⟨p1, hM, hp⟩ := hq
  refine lv_istore (lv' := [(6, .int 0), (5, .int 1), (4, .int 0), (3, .ref oq), (2, .ref mo), (1, .ref B), (0, .ref b)]) X.x X.b d_Law_law_679 hl (by decide) rfl (fun ls hl => ?_)
  refine lv_aload_n X.x X.b d_Law_law_681 rfl (lv_at hl 4 rfl) ?_
  have hR := M_Model_thrown l g hM
  rw [hp] at hR
  refine m_callV X hS hR v_Law_73 hM.1 rfl rfl rfl (Nat.le_of_ble_eq_true rfl) hl.1 d_Law_law_682 (by omega) (by decide) ⟨by omega, by omega⟩ (fun q z => z.elim (fun z => z.elim) (fun z => Nat.le_trans hS.1 z)) (fun H3 locs3 hq hfr hS3 => ?_)
  clear hS
  have hS := hS3
  clear hS3
  subst hq
  refine lv_iload X.x X.b d_Law_law_685 (lv_at hl 1 rfl) ?_
  refine lv_icmp_eq (tgt := 692) X.x X.b d_Law_law_687 (by decide) (fun c1 => ?_) (fun c1 => ?_)
  · skip
    refine lv_iload X.x X.b d_Law_law_692 (lv_at hl 1 rfl) ?_
    refine lv_if_ne (tgt := 709) X.x X.b d_Law_law_694 (by decide) (fun c2 => ?_) (fun c2 => ?_)
    · skip
      refine lv_goto (tgt := 1283) X.x X.b d_Law_law_709 (by decide) ?_
      exact kk _ _ _ _ _ hS (lv_sub hl [2, 6] rfl) (by omega) (by omega)
    · exact absurd c2 (by decide)
  · exact absurd c1 (by decide)
set_option maxRecDepth 100000 in
set_option maxHeartbeats 4000000 in
theorem law_8 {g : GG} {p : Program} {l : Launch} {e : Env} {s : State} {m : MethodId} {below : List Frame} {meth : Method} {c : Code} {H : Heap} {locs : List Loc} {cells slots : Nat} {Q : State → Prop} {nm : String} {ls : Array Slot} {B mo oq b : Nat} {xs : Nat → Int32} (X : CX g p s m #[.ref b] meth c c_Law_law 9 (some .boolean) R_Law nm) (hfl : l.stackTraces = false) (hx : va_X b 8 xs s s.heap) (hbl : b < s.heap.size) (kk : LawE p l e s m b below meth c Q) (h0 : LawS g s B mo oq b locs cells slots ls H) : W p l e (rmK 2000 600002 7302232) s m #[.ref b] below meth c H locs cells slots Q (F0 m 712 ls []) := by
  obtain ⟨⟨hB, hmo, hoq⟩, hS, hb, ⟨p0, s0, hM, hf, hn⟩, ⟨fo, ho⟩, hZ, hl, hcs, hss⟩ := h0
  have hBz : B ≤ H.size := hB ▸ hS.1
  have hoq2 : B + 287 ≤ oq := by omega
  refine lv_aload_n X.x X.b d_Law_law_712 rfl (lv_at hl 3 rfl) ?_
  refine lv_aload_n X.x X.b d_Law_law_713 rfl (lv_at hl 4 rfl) ?_
  refine lv_iload X.x X.b d_Law_law_714 (lv_at hl 0 rfl) ?_
  refine lv_iconst (v := 1) X.x X.b d_Law_law_716 (by decide) ?_
  refine lv_iadd X.x X.b d_Law_law_717 ?_
  rw [show (0 + 1 : Int32) = 1 from by decide]
  refine m_sld X hx hbl hS 1 (by decide) rfl d_Law_law_718 ?_
  refine lv_aload_n X.x X.b d_Law_law_719 rfl (lv_at hl 1 rfl) ?_
  refine m_callW X hS (L_itemOf l g hfl hb (hof_F _) hBz ho hoq2) hZ s_Law_104 rfl rfl (Nat.le_of_ble_eq_true rfl) hl.1 d_Law_law_720 (by omega) (by decide) ⟨by omega, by omega⟩ (fun q z => z.elim (fun z => by have z : (B ≤ q ∧ q < B + 287) ∨ q = oq := z; show s.heap.size ≤ q; omega) (fun z => Nat.le_trans hS.1 z)) (fun H1 locs1 hq hfr hS => ?_)
  have hM := hM.frame hfr (fun q z => by have z : (B ≤ q ∧ q < B + 287) ∨ q = oq := z; exact ⟨by omega, by omega⟩)
  clear hb hZ
  refine lv_istore (lv' := [(5, .int 1), (4, .int 0), (3, .ref oq), (2, .ref mo), (1, .ref B), (0, .ref b)]) X.x X.b d_Law_law_723 hl (by decide) rfl (fun ls hl => ?_)
  refine lv_aload_n X.x X.b d_Law_law_725 rfl (lv_at hl 3 rfl) ?_
  refine lv_aload_n X.x X.b d_Law_law_726 rfl (lv_at hl 5 rfl) ?_
  refine lv_iload X.x X.b d_Law_law_727 (lv_at hl 1 rfl) ?_
  refine lv_iconst (v := 1) X.x X.b d_Law_law_729 (by decide) ?_
  refine lv_iadd X.x X.b d_Law_law_730 ?_
  rw [show (0 + 1 : Int32) = 1 from by decide]
  refine m_sld X hx hbl hS 1 (by decide) rfl d_Law_law_731 ?_
  refine m_callV X hS (M_Model_itemOf l g hM hf hn _) v_Law_106 hM.1 rfl rfl rfl (Nat.le_of_ble_eq_true rfl) hl.1 d_Law_law_732 (by omega) (by decide) ⟨by omega, by omega⟩ (fun q z => z.elim (fun z => by have z : mo ≤ q ∧ q < mo + 23 := z; show s.heap.size ≤ q; omega) (fun z => Nat.le_trans hS.1 z)) (fun H2 locs2 hq hfr hS => ?_)
  clear hM
  obtain ⟨p1, hM, hp⟩ := hq
  refine lv_istore (lv' := [(6, .int 0), (5, .int 1), (4, .int 0), (3, .ref oq), (2, .ref mo), (1, .ref B), (0, .ref b)]) X.x X.b d_Law_law_735 hl (by decide) rfl (fun ls hl => ?_)
  refine lv_aload_n X.x X.b d_Law_law_737 rfl (lv_at hl 4 rfl) ?_
  have hR := M_Model_thrown l g hM
  rw [hp] at hR
  refine m_callV X hS hR v_Law_73 hM.1 rfl rfl rfl (Nat.le_of_ble_eq_true rfl) hl.1 d_Law_law_738 (by omega) (by decide) ⟨by omega, by omega⟩ (fun q z => z.elim (fun z => z.elim) (fun z => Nat.le_trans hS.1 z)) (fun H3 locs3 hq hfr hS3 => ?_)
  clear hS
  have hS := hS3
  clear hS3
  subst hq
  refine lv_iload X.x X.b d_Law_law_741 (lv_at hl 1 rfl) ?_
  refine lv_icmp_eq (tgt := 748) X.x X.b d_Law_law_743 (by decide) (fun c1 => ?_) (fun c1 => ?_)
  · skip
    refine lv_iload X.x X.b d_Law_law_748 (lv_at hl 1 rfl) ?_
    refine lv_if_ne (tgt := 765) X.x X.b d_Law_law_750 (by decide) (fun c2 => ?_) (fun c2 => ?_)
    · skip
      refine lv_goto (tgt := 1283) X.x X.b d_Law_law_765 (by decide) ?_
      exact kk _ _ _ _ _ hS (lv_sub hl [2, 6] rfl) (by omega) (by omega)
    · exact absurd c2 (by decide)
  · exact absurd c1 (by decide)
set_option maxRecDepth 100000 in
set_option maxHeartbeats 4000000 in
theorem law_9 {g : GG} {p : Program} {l : Launch} {e : Env} {s : State} {m : MethodId} {below : List Frame} {meth : Method} {c : Code} {H : Heap} {locs : List Loc} {cells slots : Nat} {Q : State → Prop} {nm : String} {ls : Array Slot} {B mo oq b : Nat} {xs : Nat → Int32} (X : CX g p s m #[.ref b] meth c c_Law_law 9 (some .boolean) R_Law nm) (hfl : l.stackTraces = false) (hx : va_X b 8 xs s s.heap) (hbl : b < s.heap.size) (kk : LawE p l e s m b below meth c Q) (h0 : LawS g s B mo oq b locs cells slots ls H) : W p l e (rmK 2000 600002 7302232) s m #[.ref b] below meth c H locs cells slots Q (F0 m 768 ls []) := by
  obtain ⟨⟨hB, hmo, hoq⟩, hS, hb, ⟨p0, s0, hM, hf, hn⟩, ⟨fo, ho⟩, hZ, hl, hcs, hss⟩ := h0
  have hBz : B ≤ H.size := hB ▸ hS.1
  have hoq2 : B + 287 ≤ oq := by omega
  refine lv_aload_n X.x X.b d_Law_law_768 rfl (lv_at hl 3 rfl) ?_
  refine lv_aload_n X.x X.b d_Law_law_769 rfl (lv_at hl 4 rfl) ?_
  refine lv_iload X.x X.b d_Law_law_770 (lv_at hl 0 rfl) ?_
  refine lv_iconst (v := 1) X.x X.b d_Law_law_772 (by decide) ?_
  refine lv_iadd X.x X.b d_Law_law_773 ?_
  rw [show (0 + 1 : Int32) = 1 from by decide]
  refine m_sld X hx hbl hS 1 (by decide) rfl d_Law_law_774 ?_
  refine lv_aload_n X.x X.b d_Law_law_775 rfl (lv_at hl 1 rfl) ?_
  refine m_callW X hS (L_isCode l g hfl hb (iaO_Fh _) hBz ho hoq2) hZ s_Law_107 rfl rfl (Nat.le_of_ble_eq_true rfl) hl.1 d_Law_law_776 (by omega) (by decide) ⟨by omega, by omega⟩ (fun q z => z.elim (fun z => by have z : (B ≤ q ∧ q < B + 287) ∨ q = oq := z; show s.heap.size ≤ q; omega) (fun z => Nat.le_trans hS.1 z)) (fun H1 locs1 hq hfr hS => ?_)
  have hM := hM.frame hfr (fun q z => by have z : (B ≤ q ∧ q < B + 287) ∨ q = oq := z; exact ⟨by omega, by omega⟩)
  clear hb hZ
  refine lv_istore (lv' := [(5, .int 1), (4, .int 0), (3, .ref oq), (2, .ref mo), (1, .ref B), (0, .ref b)]) X.x X.b d_Law_law_779 hl (by decide) rfl (fun ls hl => ?_)
  refine lv_aload_n X.x X.b d_Law_law_781 rfl (lv_at hl 3 rfl) ?_
  refine lv_aload_n X.x X.b d_Law_law_782 rfl (lv_at hl 5 rfl) ?_
  refine lv_iload X.x X.b d_Law_law_783 (lv_at hl 1 rfl) ?_
  refine lv_iconst (v := 1) X.x X.b d_Law_law_785 (by decide) ?_
  refine lv_iadd X.x X.b d_Law_law_786 ?_
  rw [show (0 + 1 : Int32) = 1 from by decide]
  refine m_sld X hx hbl hS 1 (by decide) rfl d_Law_law_787 ?_
  refine m_callV X hS (M_Model_isCode l g hM hf hn _) v_Law_109 hM.1 rfl rfl rfl (Nat.le_of_ble_eq_true rfl) hl.1 d_Law_law_788 (by omega) (by decide) ⟨by omega, by omega⟩ (fun q z => z.elim (fun z => by have z : mo ≤ q ∧ q < mo + 23 := z; show s.heap.size ≤ q; omega) (fun z => Nat.le_trans hS.1 z)) (fun H2 locs2 hq hfr hS => ?_)
  clear hM
  obtain ⟨p1, hM, hp⟩ := hq
  refine lv_istore (lv' := [(6, .int 0), (5, .int 1), (4, .int 0), (3, .ref oq), (2, .ref mo), (1, .ref B), (0, .ref b)]) X.x X.b d_Law_law_791 hl (by decide) rfl (fun ls hl => ?_)
  refine lv_aload_n X.x X.b d_Law_law_793 rfl (lv_at hl 4 rfl) ?_
  have hR := M_Model_thrown l g hM
  rw [hp] at hR
  refine m_callV X hS hR v_Law_73 hM.1 rfl rfl rfl (Nat.le_of_ble_eq_true rfl) hl.1 d_Law_law_794 (by omega) (by decide) ⟨by omega, by omega⟩ (fun q z => z.elim (fun z => z.elim) (fun z => Nat.le_trans hS.1 z)) (fun H3 locs3 hq hfr hS3 => ?_)
  clear hS
  have hS := hS3
  clear hS3
  subst hq
  refine lv_iload X.x X.b d_Law_law_797 (lv_at hl 1 rfl) ?_
  refine lv_icmp_eq (tgt := 804) X.x X.b d_Law_law_799 (by decide) (fun c1 => ?_) (fun c1 => ?_)
  · skip
    refine lv_iload X.x X.b d_Law_law_804 (lv_at hl 1 rfl) ?_
    refine lv_if_ne (tgt := 828) X.x X.b d_Law_law_806 (by decide) (fun c2 => ?_) (fun c2 => ?_)
    · skip
      refine lv_goto (tgt := 1283) X.x X.b d_Law_law_828 (by decide) ?_
      exact kk _ _ _ _ _ hS (lv_sub hl [2, 6] rfl) (by omega) (by omega)
    · exact absurd c2 (by decide)
  · exact absurd c1 (by decide)
set_option maxRecDepth 100000 in
set_option maxHeartbeats 4000000 in
theorem law_10_n {g : GG} {p : Program} {l : Launch} {e : Env} {s : State} {m : MethodId} {below : List Frame} {meth : Method} {c : Code} {H : Heap} {locs : List Loc} {cells slots : Nat} {Q : State → Prop} {nm : String} {ls : Array Slot} {B mo oq b : Nat} {xs : Nat → Int32} (X : CX g p s m #[.ref b] meth c c_Law_law 9 (some .boolean) R_Law nm) (hfl : l.stackTraces = false) (hx : va_X b 8 xs s s.heap) (hbl : b < s.heap.size) (kk : LawE p l e s m b below meth c Q) (h0 : LawS g s B mo oq b locs cells slots ls H) (h1 : ¬ (0 ≤ xs 1 ∧ xs 1 ≤ 7)) : W p l e (rmK 2000 600002 7302232) s m #[.ref b] below meth c H locs cells slots Q (F0 m 831 ls []) := by
  obtain ⟨⟨hB, hmo, hoq⟩, hS, hb, ⟨p0, s0, hM, hf, hn⟩, ⟨fo, ho⟩, hZ, hl, hcs, hss⟩ := h0
  have hBz : B ≤ H.size := hB ▸ hS.1
  have hoq2 : B + 287 ≤ oq := by omega
  refine lv_aload_n X.x X.b d_Law_law_831 rfl (lv_at hl 3 rfl) ?_
  refine lv_aload_n X.x X.b d_Law_law_832 rfl (lv_at hl 4 rfl) ?_
  refine lv_iload X.x X.b d_Law_law_833 (lv_at hl 0 rfl) ?_
  refine lv_iconst (v := 1) X.x X.b d_Law_law_835 (by decide) ?_
  refine lv_iadd X.x X.b d_Law_law_836 ?_
  rw [show (0 + 1 : Int32) = 1 from by decide]
  refine m_sld X hx hbl hS 1 (by decide) rfl d_Law_law_837 ?_
  refine lv_aload_n X.x X.b d_Law_law_838 rfl (lv_at hl 1 rfl) ?_
  refine m_callW X hS (L_value_IO l g hfl hb yF_f.1 (n7 h1) hBz ho hoq2) hZ s_Law_110 rfl rfl (Nat.le_of_ble_eq_true rfl) hl.1 d_Law_law_839 (by omega) (by decide) ⟨by omega, by omega⟩ (fun q z => z.elim (fun z => by have z : (B ≤ q ∧ q < B + 287) ∨ q = oq := z; show s.heap.size ≤ q; omega) (fun z => Nat.le_trans hS.1 z)) (fun H1 locs1 hq hfr hS => ?_)
  have hM := hM.frame hfr (fun q z => by have z : (B ≤ q ∧ q < B + 287) ∨ q = oq := z; exact ⟨by omega, by omega⟩)
  clear hb hZ
  refine lv_istore (lv' := [(5, .int 1), (4, .int 0), (3, .ref oq), (2, .ref mo), (1, .ref B), (0, .ref b)]) X.x X.b d_Law_law_842 hl (by decide) rfl (fun ls hl => ?_)
  refine lv_aload_n X.x X.b d_Law_law_844 rfl (lv_at hl 3 rfl) ?_
  refine lv_aload_n X.x X.b d_Law_law_845 rfl (lv_at hl 5 rfl) ?_
  refine lv_iload X.x X.b d_Law_law_846 (lv_at hl 1 rfl) ?_
  refine lv_iconst (v := 1) X.x X.b d_Law_law_848 (by decide) ?_
  refine lv_iadd X.x X.b d_Law_law_849 ?_
  rw [show (0 + 1 : Int32) = 1 from by decide]
  refine m_sld X hx hbl hS 1 (by decide) rfl d_Law_law_850 ?_
  refine m_callV X hS (M_Model_value_n l g hM hf hn h1) v_Law_112 hM.1 rfl rfl rfl (Nat.le_of_ble_eq_true rfl) hl.1 d_Law_law_851 (by omega) (by decide) ⟨by omega, by omega⟩ (fun q z => z.elim (fun z => by have z : mo ≤ q ∧ q < mo + 23 := z; show s.heap.size ≤ q; omega) (fun z => Nat.le_trans hS.1 z)) (fun H2 locs2 hq hfr hS => ?_)
  clear hM
  obtain ⟨p1, hM, hp⟩ := hq
  refine lv_istore (lv' := [(6, .int 0), (5, .int 1), (4, .int 0), (3, .ref oq), (2, .ref mo), (1, .ref B), (0, .ref b)]) X.x X.b d_Law_law_854 hl (by decide) rfl (fun ls hl => ?_)
  refine lv_aload_n X.x X.b d_Law_law_856 rfl (lv_at hl 4 rfl) ?_
  have hR := M_Model_thrown l g hM
  rw [hp] at hR
  refine m_callV X hS hR v_Law_73 hM.1 rfl rfl rfl (Nat.le_of_ble_eq_true rfl) hl.1 d_Law_law_857 (by omega) (by decide) ⟨by omega, by omega⟩ (fun q z => z.elim (fun z => z.elim) (fun z => Nat.le_trans hS.1 z)) (fun H3 locs3 hq hfr hS3 => ?_)
  clear hS
  have hS := hS3
  clear hS3
  subst hq
  refine lv_iload X.x X.b d_Law_law_860 (lv_at hl 1 rfl) ?_
  refine lv_icmp_eq (tgt := 867) X.x X.b d_Law_law_862 (by decide) (fun c1 => ?_) (fun c1 => ?_)
  · skip
    refine lv_iload X.x X.b d_Law_law_867 (lv_at hl 1 rfl) ?_
    refine lv_if_ne (tgt := 884) X.x X.b d_Law_law_869 (by decide) (fun c2 => ?_) (fun c2 => ?_)
    · skip
      refine lv_goto (tgt := 1283) X.x X.b d_Law_law_884 (by decide) ?_
      exact kk _ _ _ _ _ hS (lv_sub hl [2, 6] rfl) (by omega) (by omega)
    · exact absurd c2 (by decide)
  · exact absurd c1 (by decide)
set_option maxRecDepth 100000 in
set_option maxHeartbeats 4000000 in
theorem law_10_y {g : GG} {p : Program} {l : Launch} {e : Env} {s : State} {m : MethodId} {below : List Frame} {meth : Method} {c : Code} {H : Heap} {locs : List Loc} {cells slots : Nat} {Q : State → Prop} {nm : String} {ls : Array Slot} {B mo oq b : Nat} {xs : Nat → Int32} (X : CX g p s m #[.ref b] meth c c_Law_law 9 (some .boolean) R_Law nm) (hfl : l.stackTraces = false) (hx : va_X b 8 xs s s.heap) (hbl : b < s.heap.size) (kk : LawE p l e s m b below meth c Q) (h0 : LawS g s B mo oq b locs cells slots ls H) {t : Nat} (ht : t < 8) (h1 : xs 1 = nI t) : W p l e (rmK 2000 600002 7302232) s m #[.ref b] below meth c H locs cells slots Q (F0 m 831 ls []) := by
  obtain ⟨⟨hB, hmo, hoq⟩, hS, hb, ⟨p0, s0, hM, hf, hn⟩, ⟨fo, ho⟩, hZ, hl, hcs, hss⟩ := h0
  have hBz : B ≤ H.size := hB ▸ hS.1
  have hoq2 : B + 287 ≤ oq := by omega
  refine lv_aload_n X.x X.b d_Law_law_831 rfl (lv_at hl 3 rfl) ?_
  refine lv_aload_n X.x X.b d_Law_law_832 rfl (lv_at hl 4 rfl) ?_
  refine lv_iload X.x X.b d_Law_law_833 (lv_at hl 0 rfl) ?_
  refine lv_iconst (v := 1) X.x X.b d_Law_law_835 (by decide) ?_
  refine lv_iadd X.x X.b d_Law_law_836 ?_
  rw [show (0 + 1 : Int32) = 1 from by decide]
  refine m_sld X hx hbl hS 1 (by decide) rfl d_Law_law_837 ?_
  rw [h1]
  refine lv_aload_n X.x X.b d_Law_law_838 rfl (lv_at hl 1 rfl) ?_
  refine m_callW X hS (L_value_ok l g hfl hb yF_f.1 (w8 t ht).2.2.1 (w8 t ht).2.2.2 hBz ho hoq2) hZ s_Law_110 rfl rfl (Nat.le_of_ble_eq_true rfl) hl.1 d_Law_law_839 (by omega) (by decide) ⟨by omega, by omega⟩ (fun q z => z.elim (fun z => by have z : (B ≤ q ∧ q < B + 287) ∨ q = oq := z; show s.heap.size ≤ q; omega) (fun z => Nat.le_trans hS.1 z)) (fun H1 locs1 hq hfr hS => ?_)
  have hM := hM.frame hfr (fun q z => by have z : (B ≤ q ∧ q < B + 287) ∨ q = oq := z; exact ⟨by omega, by omega⟩)
  have ho : ouIs g oq (((-1) : Int32).toInt64) H1 := by rw [← yF_val t ht]; exact hq
  clear hb hZ
  refine lv_istore (lv' := [(5, .int 0), (4, .int 0), (3, .ref oq), (2, .ref mo), (1, .ref B), (0, .ref b)]) X.x X.b d_Law_law_842 hl (by decide) rfl (fun ls hl => ?_)
  refine lv_aload_n X.x X.b d_Law_law_844 rfl (lv_at hl 3 rfl) ?_
  refine lv_aload_n X.x X.b d_Law_law_845 rfl (lv_at hl 5 rfl) ?_
  refine lv_iload X.x X.b d_Law_law_846 (lv_at hl 1 rfl) ?_
  refine lv_iconst (v := 1) X.x X.b d_Law_law_848 (by decide) ?_
  refine lv_iadd X.x X.b d_Law_law_849 ?_
  rw [show (0 + 1 : Int32) = 1 from by decide]
  refine m_sld X hx hbl hS 1 (by decide) rfl d_Law_law_850 ?_
  rw [h1]
  refine m_callV X hS (M_Model_value_y l g hM hf hn ht) v_Law_112 hM.1 rfl rfl rfl (Nat.le_of_ble_eq_true rfl) hl.1 d_Law_law_851 (by omega) (by decide) ⟨by omega, by omega⟩ (fun q z => z.elim (fun z => by have z : mo ≤ q ∧ q < mo + 23 := z; show s.heap.size ≤ q; omega) (fun z => Nat.le_trans hS.1 z)) (fun H2 locs2 hq hfr hS => ?_)
  clear hM
  obtain ⟨p1, hM, hp⟩ := hq
  have ho := ouIs.fr ho hfr (fun z => by have z : mo ≤ oq ∧ oq < mo + 23 := z; omega)
  refine lv_istore (lv' := [(6, .int (-1)), (5, .int 0), (4, .int 0), (3, .ref oq), (2, .ref mo), (1, .ref B), (0, .ref b)]) X.x X.b d_Law_law_854 hl (by decide) rfl (fun ls hl => ?_)
  refine lv_aload_n X.x X.b d_Law_law_856 rfl (lv_at hl 4 rfl) ?_
  have hR := M_Model_thrown l g hM
  rw [hp] at hR
  refine m_callV X hS hR v_Law_73 hM.1 rfl rfl rfl (Nat.le_of_ble_eq_true rfl) hl.1 d_Law_law_857 (by omega) (by decide) ⟨by omega, by omega⟩ (fun q z => z.elim (fun z => z.elim) (fun z => Nat.le_trans hS.1 z)) (fun H3 locs3 hq hfr hS3 => ?_)
  clear hS
  have hS := hS3
  clear hS3
  subst hq
  refine lv_iload X.x X.b d_Law_law_860 (lv_at hl 1 rfl) ?_
  refine lv_icmp_eq (tgt := 867) X.x X.b d_Law_law_862 (by decide) (fun c1 => ?_) (fun c1 => ?_)
  · skip
    refine lv_iload X.x X.b d_Law_law_867 (lv_at hl 1 rfl) ?_
    refine lv_if_ne (tgt := 884) X.x X.b d_Law_law_869 (by decide) (fun c2 => ?_) (fun c2 => ?_)
    · exact absurd c1 c2
    · skip
      refine lv_aload_n X.x X.b d_Law_law_872 rfl (lv_at hl 3 rfl) ?_
      refine lv_iconst (v := 0) X.x X.b d_Law_law_873 (by decide) ?_
      refine m_lald0 X ho d_Law_law_874 ?_
      refine lv_iload X.x X.b d_Law_law_875 (lv_at hl 0 rfl) ?_
      refine lv_i2l (v := ((-1) : Int32).toInt64) X.x X.b d_Law_law_877 rfl ?_
      refine m_lcmp0 X d_Law_law_878 ?_
      refine lv_if_eq (tgt := 884) X.x X.b d_Law_law_879 (by decide) (fun c3 => ?_) (fun c3 => ?_)
      · skip
        refine lv_goto (tgt := 1283) X.x X.b d_Law_law_884 (by decide) ?_
        exact kk _ _ _ _ _ hS (lv_sub hl [2, 6] rfl) (by omega) (by omega)
      · exact absurd c2 c3
  · exact absurd c1 (by decide)
set_option maxRecDepth 100000 in
set_option maxHeartbeats 4000000 in
theorem law_11_n {g : GG} {p : Program} {l : Launch} {e : Env} {s : State} {m : MethodId} {below : List Frame} {meth : Method} {c : Code} {H : Heap} {locs : List Loc} {cells slots : Nat} {Q : State → Prop} {nm : String} {ls : Array Slot} {B mo oq b : Nat} {xs : Nat → Int32} (X : CX g p s m #[.ref b] meth c c_Law_law 9 (some .boolean) R_Law nm) (hfl : l.stackTraces = false) (hx : va_X b 8 xs s s.heap) (hbl : b < s.heap.size) (kk : LawE p l e s m b below meth c Q) (h0 : LawS g s B mo oq b locs cells slots ls H) (h1 : ¬ (0 ≤ xs 1 ∧ xs 1 ≤ 11)) : W p l e (rmK 2000 600002 7302232) s m #[.ref b] below meth c H locs cells slots Q (F0 m 887 ls []) := by
  obtain ⟨⟨hB, hmo, hoq⟩, hS, hb, ⟨p0, s0, hM, hf, hn⟩, ⟨fo, ho⟩, hZ, hl, hcs, hss⟩ := h0
  have hBz : B ≤ H.size := hB ▸ hS.1
  have hoq2 : B + 287 ≤ oq := by omega
  refine lv_aload_n X.x X.b d_Law_law_887 rfl (lv_at hl 3 rfl) ?_
  refine lv_aload_n X.x X.b d_Law_law_888 rfl (lv_at hl 4 rfl) ?_
  refine lv_iload X.x X.b d_Law_law_889 (lv_at hl 0 rfl) ?_
  refine lv_iconst (v := 1) X.x X.b d_Law_law_891 (by decide) ?_
  refine lv_iadd X.x X.b d_Law_law_892 ?_
  rw [show (0 + 1 : Int32) = 1 from by decide]
  refine m_sld X hx hbl hS 1 (by decide) rfl d_Law_law_893 ?_
  refine lv_aload_n X.x X.b d_Law_law_894 rfl (lv_at hl 1 rfl) ?_
  refine m_callW X hS (L_many_IA l g hfl hb (n11 h1) hBz ho hoq2) hZ s_Law_113 rfl rfl (Nat.le_of_ble_eq_true rfl) hl.1 d_Law_law_895 (by omega) (by decide) ⟨by omega, by omega⟩ (fun q z => z.elim (fun z => by have z : (B ≤ q ∧ q < B + 287) ∨ q = oq := z; show s.heap.size ≤ q; omega) (fun z => Nat.le_trans hS.1 z)) (fun H1 locs1 hq hfr hS => ?_)
  have hM := hM.frame hfr (fun q z => by have z : (B ≤ q ∧ q < B + 287) ∨ q = oq := z; exact ⟨by omega, by omega⟩)
  clear hb hZ
  refine lv_istore (lv' := [(5, .int 1), (4, .int 0), (3, .ref oq), (2, .ref mo), (1, .ref B), (0, .ref b)]) X.x X.b d_Law_law_898 hl (by decide) rfl (fun ls hl => ?_)
  refine lv_aload_n X.x X.b d_Law_law_900 rfl (lv_at hl 3 rfl) ?_
  refine lv_aload_n X.x X.b d_Law_law_901 rfl (lv_at hl 5 rfl) ?_
  refine lv_iload X.x X.b d_Law_law_902 (lv_at hl 1 rfl) ?_
  refine lv_iconst (v := 1) X.x X.b d_Law_law_904 (by decide) ?_
  refine lv_iadd X.x X.b d_Law_law_905 ?_
  rw [show (0 + 1 : Int32) = 1 from by decide]
  refine m_sld X hx hbl hS 1 (by decide) rfl d_Law_law_906 ?_
  refine m_callV X hS (M_Model_many_n l g hM hf hn h1) v_Law_115 hM.1 rfl rfl rfl (Nat.le_of_ble_eq_true rfl) hl.1 d_Law_law_907 (by omega) (by decide) ⟨by omega, by omega⟩ (fun q z => z.elim (fun z => by have z : mo ≤ q ∧ q < mo + 23 := z; show s.heap.size ≤ q; omega) (fun z => Nat.le_trans hS.1 z)) (fun H2 locs2 hq hfr hS => ?_)
  clear hM
  obtain ⟨p1, hM, hp⟩ := hq
  refine lv_istore (lv' := [(6, .int 0), (5, .int 1), (4, .int 0), (3, .ref oq), (2, .ref mo), (1, .ref B), (0, .ref b)]) X.x X.b d_Law_law_910 hl (by decide) rfl (fun ls hl => ?_)
  refine lv_aload_n X.x X.b d_Law_law_912 rfl (lv_at hl 4 rfl) ?_
  have hR := M_Model_thrown l g hM
  rw [hp] at hR
  refine m_callV X hS hR v_Law_73 hM.1 rfl rfl rfl (Nat.le_of_ble_eq_true rfl) hl.1 d_Law_law_913 (by omega) (by decide) ⟨by omega, by omega⟩ (fun q z => z.elim (fun z => z.elim) (fun z => Nat.le_trans hS.1 z)) (fun H3 locs3 hq hfr hS3 => ?_)
  clear hS
  have hS := hS3
  clear hS3
  subst hq
  refine lv_iload X.x X.b d_Law_law_916 (lv_at hl 1 rfl) ?_
  refine lv_icmp_eq (tgt := 923) X.x X.b d_Law_law_918 (by decide) (fun c1 => ?_) (fun c1 => ?_)
  · skip
    refine lv_iload X.x X.b d_Law_law_923 (lv_at hl 1 rfl) ?_
    refine lv_if_ne (tgt := 940) X.x X.b d_Law_law_925 (by decide) (fun c2 => ?_) (fun c2 => ?_)
    · skip
      refine lv_goto (tgt := 1283) X.x X.b d_Law_law_940 (by decide) ?_
      exact kk _ _ _ _ _ hS (lv_sub hl [2, 6] rfl) (by omega) (by omega)
    · exact absurd c2 (by decide)
  · exact absurd c1 (by decide)
set_option maxRecDepth 100000 in
set_option maxHeartbeats 4000000 in
theorem law_11_y {g : GG} {p : Program} {l : Launch} {e : Env} {s : State} {m : MethodId} {below : List Frame} {meth : Method} {c : Code} {H : Heap} {locs : List Loc} {cells slots : Nat} {Q : State → Prop} {nm : String} {ls : Array Slot} {B mo oq b : Nat} {xs : Nat → Int32} (X : CX g p s m #[.ref b] meth c c_Law_law 9 (some .boolean) R_Law nm) (hfl : l.stackTraces = false) (hx : va_X b 8 xs s s.heap) (hbl : b < s.heap.size) (kk : LawE p l e s m b below meth c Q) (h0 : LawS g s B mo oq b locs cells slots ls H) {t : Nat} (ht : t < 12) (h1 : xs 1 = nI t) : W p l e (rmK 2000 600002 7302232) s m #[.ref b] below meth c H locs cells slots Q (F0 m 887 ls []) := by
  obtain ⟨⟨hB, hmo, hoq⟩, hS, hb, ⟨p0, s0, hM, hf, hn⟩, ⟨fo, ho⟩, hZ, hl, hcs, hss⟩ := h0
  have hBz : B ≤ H.size := hB ▸ hS.1
  have hoq2 : B + 287 ≤ oq := by omega
  refine lv_aload_n X.x X.b d_Law_law_887 rfl (lv_at hl 3 rfl) ?_
  refine lv_aload_n X.x X.b d_Law_law_888 rfl (lv_at hl 4 rfl) ?_
  refine lv_iload X.x X.b d_Law_law_889 (lv_at hl 0 rfl) ?_
  refine lv_iconst (v := 1) X.x X.b d_Law_law_891 (by decide) ?_
  refine lv_iadd X.x X.b d_Law_law_892 ?_
  rw [show (0 + 1 : Int32) = 1 from by decide]
  refine m_sld X hx hbl hS 1 (by decide) rfl d_Law_law_893 ?_
  rw [h1]
  refine lv_aload_n X.x X.b d_Law_law_894 rfl (lv_at hl 1 rfl) ?_
  refine m_callW X hS (L_many_ok l g hfl hb (w12 t ht).2.1 (w12 t ht).2.2 hBz ho hoq2) hZ s_Law_113 rfl rfl (Nat.le_of_ble_eq_true rfl) hl.1 d_Law_law_895 (by omega) (by decide) ⟨by omega, by omega⟩ (fun q z => z.elim (fun z => by have z : (B ≤ q ∧ q < B + 287) ∨ q = oq := z; show s.heap.size ≤ q; omega) (fun z => Nat.le_trans hS.1 z)) (fun H1 locs1 hq hfr hS => ?_)
  have hM := hM.frame hfr (fun q z => by have z : (B ≤ q ∧ q < B + 287) ∨ q = oq := z; exact ⟨by omega, by omega⟩)
  have ho : ouIs g oq ((mnM (nI t)).toInt64) H1 := by rw [← yF_man t ht]; exact hq
  clear hb hZ
  refine lv_istore (lv' := [(5, .int 0), (4, .int 0), (3, .ref oq), (2, .ref mo), (1, .ref B), (0, .ref b)]) X.x X.b d_Law_law_898 hl (by decide) rfl (fun ls hl => ?_)
  refine lv_aload_n X.x X.b d_Law_law_900 rfl (lv_at hl 3 rfl) ?_
  refine lv_aload_n X.x X.b d_Law_law_901 rfl (lv_at hl 5 rfl) ?_
  refine lv_iload X.x X.b d_Law_law_902 (lv_at hl 1 rfl) ?_
  refine lv_iconst (v := 1) X.x X.b d_Law_law_904 (by decide) ?_
  refine lv_iadd X.x X.b d_Law_law_905 ?_
  rw [show (0 + 1 : Int32) = 1 from by decide]
  refine m_sld X hx hbl hS 1 (by decide) rfl d_Law_law_906 ?_
  rw [h1]
  refine m_callV X hS (M_Model_many_y l g hM hf hn (w12 t ht).1) v_Law_115 hM.1 rfl rfl rfl (Nat.le_of_ble_eq_true rfl) hl.1 d_Law_law_907 (by omega) (by decide) ⟨by omega, by omega⟩ (fun q z => z.elim (fun z => by have z : mo ≤ q ∧ q < mo + 23 := z; show s.heap.size ≤ q; omega) (fun z => Nat.le_trans hS.1 z)) (fun H2 locs2 hq hfr hS => ?_)
  clear hM
  obtain ⟨p1, hM, hp⟩ := hq
  have ho := ouIs.fr ho hfr (fun z => by have z : mo ≤ oq ∧ oq < mo + 23 := z; omega)
  refine lv_istore (lv' := [(6, .int (mnM (nI t))), (5, .int 0), (4, .int 0), (3, .ref oq), (2, .ref mo), (1, .ref B), (0, .ref b)]) X.x X.b d_Law_law_910 hl (by decide) rfl (fun ls hl => ?_)
  refine lv_aload_n X.x X.b d_Law_law_912 rfl (lv_at hl 4 rfl) ?_
  have hR := M_Model_thrown l g hM
  rw [hp] at hR
  refine m_callV X hS hR v_Law_73 hM.1 rfl rfl rfl (Nat.le_of_ble_eq_true rfl) hl.1 d_Law_law_913 (by omega) (by decide) ⟨by omega, by omega⟩ (fun q z => z.elim (fun z => z.elim) (fun z => Nat.le_trans hS.1 z)) (fun H3 locs3 hq hfr hS3 => ?_)
  clear hS
  have hS := hS3
  clear hS3
  subst hq
  refine lv_iload X.x X.b d_Law_law_916 (lv_at hl 1 rfl) ?_
  refine lv_icmp_eq (tgt := 923) X.x X.b d_Law_law_918 (by decide) (fun c1 => ?_) (fun c1 => ?_)
  · skip
    refine lv_iload X.x X.b d_Law_law_923 (lv_at hl 1 rfl) ?_
    refine lv_if_ne (tgt := 940) X.x X.b d_Law_law_925 (by decide) (fun c2 => ?_) (fun c2 => ?_)
    · exact absurd c1 c2
    · skip
      refine lv_aload_n X.x X.b d_Law_law_928 rfl (lv_at hl 3 rfl) ?_
      refine lv_iconst (v := 0) X.x X.b d_Law_law_929 (by decide) ?_
      refine m_lald0 X ho d_Law_law_930 ?_
      refine lv_iload X.x X.b d_Law_law_931 (lv_at hl 0 rfl) ?_
      refine lv_i2l (v := (mnM (nI t)).toInt64) X.x X.b d_Law_law_933 rfl ?_
      refine m_lcmp0 X d_Law_law_934 ?_
      refine lv_if_eq (tgt := 940) X.x X.b d_Law_law_935 (by decide) (fun c3 => ?_) (fun c3 => ?_)
      · skip
        refine lv_goto (tgt := 1283) X.x X.b d_Law_law_940 (by decide) ?_
        exact kk _ _ _ _ _ hS (lv_sub hl [2, 6] rfl) (by omega) (by omega)
      · exact absurd c2 c3
  · exact absurd c1 (by decide)
set_option maxRecDepth 100000 in
set_option maxHeartbeats 4000000 in
theorem law_12 {g : GG} {p : Program} {l : Launch} {e : Env} {s : State} {m : MethodId} {below : List Frame} {meth : Method} {c : Code} {H : Heap} {locs : List Loc} {cells slots : Nat} {Q : State → Prop} {nm : String} {ls : Array Slot} {B mo oq b : Nat} {xs : Nat → Int32} (X : CX g p s m #[.ref b] meth c c_Law_law 9 (some .boolean) R_Law nm) (hfl : l.stackTraces = false) (hx : va_X b 8 xs s s.heap) (hbl : b < s.heap.size) (kk : LawE p l e s m b below meth c Q) (h0 : LawS g s B mo oq b locs cells slots ls H) : W p l e (rmK 2000 600002 7302232) s m #[.ref b] below meth c H locs cells slots Q (F0 m 943 ls []) := by
  obtain ⟨⟨hB, hmo, hoq⟩, hS, hb, ⟨p0, s0, hM, hf, hn⟩, ⟨fo, ho⟩, hZ, hl, hcs, hss⟩ := h0
  have hBz : B ≤ H.size := hB ▸ hS.1
  have hoq2 : B + 287 ≤ oq := by omega
  refine lv_aload_n X.x X.b d_Law_law_943 rfl (lv_at hl 3 rfl) ?_
  have hR := M_BP_meanSize l g hb (by rw [yF_c]; decide) (by rw [yF_tal, yF_c]; exact dn_0)
  rw [yF_tal, yF_c, show nI 1 = 1 from rfl] at hR
  refine m_callV X hS hR v_Law_116 hb.1 rfl rfl rfl (Nat.le_of_ble_eq_true rfl) hl.1 d_Law_law_944 (by omega) (by decide) ⟨by omega, by omega⟩ (fun q z => z.elim (fun z => z.elim) (fun z => Nat.le_trans hS.1 z)) (fun H1 locs1 hq hfr hS3 => ?_)
  clear hS
  have hS := hS3
  clear hS3
  subst hq
  clear hR
  refine lv_dstore (lv' := [(5, .double (FP.ddiv (FP.i2d 0) (FP.i2d 1))), (4, .int 0), (3, .ref oq), (2, .ref mo), (1, .ref B), (0, .ref b)]) X.x X.b d_Law_law_947 hl (by decide) rfl (fun ls hl => ?_)
  refine lv_aload_n X.x X.b d_Law_law_949 rfl (lv_at hl 3 rfl) ?_
  refine m_callV X hS (M_Model_meanSize l g hM hf hn) v_Law_120 hM.1 rfl rfl rfl (Nat.le_of_ble_eq_true rfl) hl.1 d_Law_law_950 (by omega) (by decide) ⟨by omega, by omega⟩ (fun q z => z.elim (fun z => by have z : mo ≤ q ∧ q < mo + 23 := z; show s.heap.size ≤ q; omega) (fun z => Nat.le_trans hS.1 z)) (fun H2 locs2 hq hfr hS => ?_)
  clear hM
  obtain ⟨p1, hM, hp⟩ := hq
  refine lv_dstore (lv' := [(7, .double (FP.ddiv (FP.i2d 0) (FP.i2d 1))), (5, .double (FP.ddiv (FP.i2d 0) (FP.i2d 1))), (4, .int 0), (3, .ref oq), (2, .ref mo), (1, .ref B), (0, .ref b)]) X.x X.b d_Law_law_953 hl (by decide) rfl (fun ls hl => ?_)
  refine lv_dload X.x X.b d_Law_law_955 (lv_at hl 1 rfl) ?_
  refine lv_dload X.x X.b d_Law_law_957 (lv_at hl 0 rfl) ?_
  refine lv_dcmp X.x X.b d_Law_law_959 ?_
  rw [dc_0]
  refine lv_if_eq (tgt := 981) X.x X.b d_Law_law_960 (by decide) (fun c1 => ?_) (fun c1 => ?_)
  · skip
    refine lv_goto (tgt := 1283) X.x X.b d_Law_law_981 (by decide) ?_
    exact kk _ _ _ _ _ hS (lv_sub hl [2, 6] rfl) (by omega) (by omega)
  · exact absurd c1 (by decide)
set_option maxRecDepth 100000 in
set_option maxHeartbeats 4000000 in
theorem law_13 {g : GG} {p : Program} {l : Launch} {e : Env} {s : State} {m : MethodId} {below : List Frame} {meth : Method} {c : Code} {H : Heap} {locs : List Loc} {cells slots : Nat} {Q : State → Prop} {nm : String} {ls : Array Slot} {B mo oq b : Nat} {xs : Nat → Int32} (X : CX g p s m #[.ref b] meth c c_Law_law 9 (some .boolean) R_Law nm) (hfl : l.stackTraces = false) (hx : va_X b 8 xs s s.heap) (hbl : b < s.heap.size) (kk : LawE p l e s m b below meth c Q) (h0 : LawS g s B mo oq b locs cells slots ls H) : W p l e (rmK 2000 600002 7302232) s m #[.ref b] below meth c H locs cells slots Q (F0 m 984 ls []) := by
  obtain ⟨⟨hB, hmo, hoq⟩, hS, hb, ⟨p0, s0, hM, hf, hn⟩, ⟨fo, ho⟩, hZ, hl, hcs, hss⟩ := h0
  have hBz : B ≤ H.size := hB ▸ hS.1
  have hoq2 : B + 287 ≤ oq := by omega
  refine lv_aload_n X.x X.b d_Law_law_984 rfl (lv_at hl 3 rfl) ?_
  refine lv_aload_n X.x X.b d_Law_law_985 rfl (lv_at hl 4 rfl) ?_
  refine lv_iload X.x X.b d_Law_law_986 (lv_at hl 0 rfl) ?_
  refine lv_iconst (v := 1) X.x X.b d_Law_law_988 (by decide) ?_
  refine lv_iadd X.x X.b d_Law_law_989 ?_
  rw [show (0 + 1 : Int32) = 1 from by decide]
  refine m_sld X hx hbl hS 1 (by decide) rfl d_Law_law_990 ?_
  refine lv_aload_n X.x X.b d_Law_law_991 rfl (lv_at hl 4 rfl) ?_
  refine lv_iload X.x X.b d_Law_law_992 (lv_at hl 0 rfl) ?_
  refine lv_iconst (v := 2) X.x X.b d_Law_law_994 (by decide) ?_
  refine lv_iadd X.x X.b d_Law_law_995 ?_
  rw [show (0 + 2 : Int32) = 2 from by decide]
  refine m_sld X hx hbl hS 2 (by decide) rfl d_Law_law_996 ?_
  refine lv_aload_n X.x X.b d_Law_law_997 rfl (lv_at hl 1 rfl) ?_
  refine m_callW X hS (L_wordsWithout l g hfl hb (lin_F _ _) hBz ho hoq2) hZ s_Law_121 rfl rfl (Nat.le_of_ble_eq_true rfl) hl.1 d_Law_law_998 (by omega) (by decide) ⟨by omega, by omega⟩ (fun q z => z.elim (fun z => by have z : (B ≤ q ∧ q < B + 287) ∨ q = oq := z; show s.heap.size ≤ q; omega) (fun z => Nat.le_trans hS.1 z)) (fun H1 locs1 hq hfr hS => ?_)
  have hM := hM.frame hfr (fun q z => by have z : (B ≤ q ∧ q < B + 287) ∨ q = oq := z; exact ⟨by omega, by omega⟩)
  clear hb hZ
  refine lv_istore (lv' := [(5, .int 1), (4, .int 0), (3, .ref oq), (2, .ref mo), (1, .ref B), (0, .ref b)]) X.x X.b d_Law_law_1001 hl (by decide) rfl (fun ls hl => ?_)
  refine lv_aload_n X.x X.b d_Law_law_1003 rfl (lv_at hl 3 rfl) ?_
  refine lv_aload_n X.x X.b d_Law_law_1004 rfl (lv_at hl 5 rfl) ?_
  refine lv_iload X.x X.b d_Law_law_1005 (lv_at hl 1 rfl) ?_
  refine lv_iconst (v := 1) X.x X.b d_Law_law_1007 (by decide) ?_
  refine lv_iadd X.x X.b d_Law_law_1008 ?_
  rw [show (0 + 1 : Int32) = 1 from by decide]
  refine m_sld X hx hbl hS 1 (by decide) rfl d_Law_law_1009 ?_
  refine lv_aload_n X.x X.b d_Law_law_1010 rfl (lv_at hl 5 rfl) ?_
  refine lv_iload X.x X.b d_Law_law_1011 (lv_at hl 1 rfl) ?_
  refine lv_iconst (v := 2) X.x X.b d_Law_law_1013 (by decide) ?_
  refine lv_iadd X.x X.b d_Law_law_1014 ?_
  rw [show (0 + 2 : Int32) = 2 from by decide]
  refine m_sld X hx hbl hS 2 (by decide) rfl d_Law_law_1015 ?_
  refine m_callV X hS (M_Model_wordsWithout l g hM hf hn _ _) v_Law_123 hM.1 rfl rfl rfl (Nat.le_of_ble_eq_true rfl) hl.1 d_Law_law_1016 (by omega) (by decide) ⟨by omega, by omega⟩ (fun q z => z.elim (fun z => by have z : mo ≤ q ∧ q < mo + 23 := z; show s.heap.size ≤ q; omega) (fun z => Nat.le_trans hS.1 z)) (fun H2 locs2 hq hfr hS => ?_)
  clear hM
  obtain ⟨p1, hM, hp⟩ := hq
  refine lv_istore (lv' := [(6, .int 0), (5, .int 1), (4, .int 0), (3, .ref oq), (2, .ref mo), (1, .ref B), (0, .ref b)]) X.x X.b d_Law_law_1019 hl (by decide) rfl (fun ls hl => ?_)
  refine lv_aload_n X.x X.b d_Law_law_1021 rfl (lv_at hl 4 rfl) ?_
  have hR := M_Model_thrown l g hM
  rw [hp] at hR
  refine m_callV X hS hR v_Law_73 hM.1 rfl rfl rfl (Nat.le_of_ble_eq_true rfl) hl.1 d_Law_law_1022 (by omega) (by decide) ⟨by omega, by omega⟩ (fun q z => z.elim (fun z => z.elim) (fun z => Nat.le_trans hS.1 z)) (fun H3 locs3 hq hfr hS3 => ?_)
  clear hS
  have hS := hS3
  clear hS3
  subst hq
  refine lv_iload X.x X.b d_Law_law_1025 (lv_at hl 1 rfl) ?_
  refine lv_icmp_eq (tgt := 1032) X.x X.b d_Law_law_1027 (by decide) (fun c1 => ?_) (fun c1 => ?_)
  · skip
    refine lv_iload X.x X.b d_Law_law_1032 (lv_at hl 1 rfl) ?_
    refine lv_if_ne (tgt := 1049) X.x X.b d_Law_law_1034 (by decide) (fun c2 => ?_) (fun c2 => ?_)
    · skip
      refine lv_goto (tgt := 1283) X.x X.b d_Law_law_1049 (by decide) ?_
      exact kk _ _ _ _ _ hS (lv_sub hl [2, 6] rfl) (by omega) (by omega)
    · exact absurd c2 (by decide)
  · exact absurd c1 (by decide)
set_option maxRecDepth 100000 in
set_option maxHeartbeats 4000000 in
theorem law_14 {g : GG} {p : Program} {l : Launch} {e : Env} {s : State} {m : MethodId} {below : List Frame} {meth : Method} {c : Code} {H : Heap} {locs : List Loc} {cells slots : Nat} {Q : State → Prop} {nm : String} {ls : Array Slot} {B mo oq b : Nat} {xs : Nat → Int32} (X : CX g p s m #[.ref b] meth c c_Law_law 9 (some .boolean) R_Law nm) (hfl : l.stackTraces = false) (hx : va_X b 8 xs s s.heap) (hbl : b < s.heap.size) (kk : LawE p l e s m b below meth c Q) (h0 : LawS g s B mo oq b locs cells slots ls H) : W p l e (rmK 2000 600002 7302232) s m #[.ref b] below meth c H locs cells slots Q (F0 m 1052 ls []) := by
  obtain ⟨⟨hB, hmo, hoq⟩, hS, hb, ⟨p0, s0, hM, hf, hn⟩, ⟨fo, ho⟩, hZ, hl, hcs, hss⟩ := h0
  have hBz : B ≤ H.size := hB ▸ hS.1
  have hoq2 : B + 287 ≤ oq := by omega
  refine lv_aload_n X.x X.b d_Law_law_1052 rfl (lv_at hl 3 rfl) ?_
  refine lv_aload_n X.x X.b d_Law_law_1053 rfl (lv_at hl 4 rfl) ?_
  refine lv_iload X.x X.b d_Law_law_1054 (lv_at hl 0 rfl) ?_
  refine lv_iconst (v := 1) X.x X.b d_Law_law_1056 (by decide) ?_
  refine lv_iadd X.x X.b d_Law_law_1057 ?_
  rw [show (0 + 1 : Int32) = 1 from by decide]
  refine m_sld X hx hbl hS 1 (by decide) rfl d_Law_law_1058 ?_
  refine lv_aload_n X.x X.b d_Law_law_1059 rfl (lv_at hl 4 rfl) ?_
  refine lv_iload X.x X.b d_Law_law_1060 (lv_at hl 0 rfl) ?_
  refine lv_iconst (v := 2) X.x X.b d_Law_law_1062 (by decide) ?_
  refine lv_iadd X.x X.b d_Law_law_1063 ?_
  rw [show (0 + 2 : Int32) = 2 from by decide]
  refine m_sld X hx hbl hS 2 (by decide) rfl d_Law_law_1064 ?_
  refine lv_aload_n X.x X.b d_Law_law_1065 rfl (lv_at hl 4 rfl) ?_
  refine lv_iload X.x X.b d_Law_law_1066 (lv_at hl 0 rfl) ?_
  refine lv_iconst (v := 3) X.x X.b d_Law_law_1068 (by decide) ?_
  refine lv_iadd X.x X.b d_Law_law_1069 ?_
  rw [show (0 + 3 : Int32) = 3 from by decide]
  refine m_sld X hx hbl hS 3 (by decide) rfl d_Law_law_1070 ?_
  refine lv_aload_n X.x X.b d_Law_law_1071 rfl (lv_at hl 1 rfl) ?_
  refine m_callW X hS (L_wordsWith l g hfl hb (lin_F _ _) hBz ho hoq2) hZ s_Law_124 rfl rfl (Nat.le_of_ble_eq_true rfl) hl.1 d_Law_law_1072 (by omega) (by decide) ⟨by omega, by omega⟩ (fun q z => z.elim (fun z => by have z : (B ≤ q ∧ q < B + 287) ∨ q = oq := z; show s.heap.size ≤ q; omega) (fun z => Nat.le_trans hS.1 z)) (fun H1 locs1 hq hfr hS => ?_)
  have hM := hM.frame hfr (fun q z => by have z : (B ≤ q ∧ q < B + 287) ∨ q = oq := z; exact ⟨by omega, by omega⟩)
  clear hb hZ
  refine lv_istore (lv' := [(5, .int 1), (4, .int 0), (3, .ref oq), (2, .ref mo), (1, .ref B), (0, .ref b)]) X.x X.b d_Law_law_1075 hl (by decide) rfl (fun ls hl => ?_)
  refine lv_aload_n X.x X.b d_Law_law_1077 rfl (lv_at hl 3 rfl) ?_
  refine lv_aload_n X.x X.b d_Law_law_1078 rfl (lv_at hl 5 rfl) ?_
  refine lv_iload X.x X.b d_Law_law_1079 (lv_at hl 1 rfl) ?_
  refine lv_iconst (v := 1) X.x X.b d_Law_law_1081 (by decide) ?_
  refine lv_iadd X.x X.b d_Law_law_1082 ?_
  rw [show (0 + 1 : Int32) = 1 from by decide]
  refine m_sld X hx hbl hS 1 (by decide) rfl d_Law_law_1083 ?_
  refine lv_aload_n X.x X.b d_Law_law_1084 rfl (lv_at hl 5 rfl) ?_
  refine lv_iload X.x X.b d_Law_law_1085 (lv_at hl 1 rfl) ?_
  refine lv_iconst (v := 2) X.x X.b d_Law_law_1087 (by decide) ?_
  refine lv_iadd X.x X.b d_Law_law_1088 ?_
  rw [show (0 + 2 : Int32) = 2 from by decide]
  refine m_sld X hx hbl hS 2 (by decide) rfl d_Law_law_1089 ?_
  refine lv_aload_n X.x X.b d_Law_law_1090 rfl (lv_at hl 5 rfl) ?_
  refine lv_iload X.x X.b d_Law_law_1091 (lv_at hl 1 rfl) ?_
  refine lv_iconst (v := 3) X.x X.b d_Law_law_1093 (by decide) ?_
  refine lv_iadd X.x X.b d_Law_law_1094 ?_
  rw [show (0 + 3 : Int32) = 3 from by decide]
  refine m_sld X hx hbl hS 3 (by decide) rfl d_Law_law_1095 ?_
  refine m_callV X hS (M_Model_wordsWith l g hM hf hn _ _ _) v_Law_126 hM.1 rfl rfl rfl (Nat.le_of_ble_eq_true rfl) hl.1 d_Law_law_1096 (by omega) (by decide) ⟨by omega, by omega⟩ (fun q z => z.elim (fun z => by have z : mo ≤ q ∧ q < mo + 23 := z; show s.heap.size ≤ q; omega) (fun z => Nat.le_trans hS.1 z)) (fun H2 locs2 hq hfr hS => ?_)
  clear hM
  obtain ⟨p1, hM, hp⟩ := hq
  refine lv_istore (lv' := [(6, .int 0), (5, .int 1), (4, .int 0), (3, .ref oq), (2, .ref mo), (1, .ref B), (0, .ref b)]) X.x X.b d_Law_law_1099 hl (by decide) rfl (fun ls hl => ?_)
  refine lv_aload_n X.x X.b d_Law_law_1101 rfl (lv_at hl 4 rfl) ?_
  have hR := M_Model_thrown l g hM
  rw [hp] at hR
  refine m_callV X hS hR v_Law_73 hM.1 rfl rfl rfl (Nat.le_of_ble_eq_true rfl) hl.1 d_Law_law_1102 (by omega) (by decide) ⟨by omega, by omega⟩ (fun q z => z.elim (fun z => z.elim) (fun z => Nat.le_trans hS.1 z)) (fun H3 locs3 hq hfr hS3 => ?_)
  clear hS
  have hS := hS3
  clear hS3
  subst hq
  refine lv_iload X.x X.b d_Law_law_1105 (lv_at hl 1 rfl) ?_
  refine lv_icmp_eq (tgt := 1112) X.x X.b d_Law_law_1107 (by decide) (fun c1 => ?_) (fun c1 => ?_)
  · skip
    refine lv_iload X.x X.b d_Law_law_1112 (lv_at hl 1 rfl) ?_
    refine lv_if_ne (tgt := 1129) X.x X.b d_Law_law_1114 (by decide) (fun c2 => ?_) (fun c2 => ?_)
    · skip
      refine lv_goto (tgt := 1283) X.x X.b d_Law_law_1129 (by decide) ?_
      exact kk _ _ _ _ _ hS (lv_sub hl [2, 6] rfl) (by omega) (by omega)
    · exact absurd c2 (by decide)
  · exact absurd c1 (by decide)
set_option maxRecDepth 100000 in
set_option maxHeartbeats 4000000 in
theorem law_15_n {g : GG} {p : Program} {l : Launch} {e : Env} {s : State} {m : MethodId} {below : List Frame} {meth : Method} {c : Code} {H : Heap} {locs : List Loc} {cells slots : Nat} {Q : State → Prop} {nm : String} {ls : Array Slot} {B mo oq b : Nat} {xs : Nat → Int32} (X : CX g p s m #[.ref b] meth c c_Law_law 9 (some .boolean) R_Law nm) (hfl : l.stackTraces = false) (hx : va_X b 8 xs s s.heap) (hbl : b < s.heap.size) (kk : LawE p l e s m b below meth c Q) (h0 : LawS g s B mo oq b locs cells slots ls H) (h1 : ¬ xs 1 = 0) : W p l e (rmK 2000 600002 7302232) s m #[.ref b] below meth c H locs cells slots Q (F0 m 1132 ls []) := by
  obtain ⟨⟨hB, hmo, hoq⟩, hS, hb, ⟨p0, s0, hM, hf, hn⟩, ⟨fo, ho⟩, hZ, hl, hcs, hss⟩ := h0
  have hBz : B ≤ H.size := hB ▸ hS.1
  have hoq2 : B + 287 ≤ oq := by omega
  refine lv_aload_n X.x X.b d_Law_law_1132 rfl (lv_at hl 3 rfl) ?_
  refine lv_aload_n X.x X.b d_Law_law_1133 rfl (lv_at hl 4 rfl) ?_
  refine lv_iload X.x X.b d_Law_law_1134 (lv_at hl 0 rfl) ?_
  refine lv_iconst (v := 1) X.x X.b d_Law_law_1136 (by decide) ?_
  refine lv_iadd X.x X.b d_Law_law_1137 ?_
  rw [show (0 + 1 : Int32) = 1 from by decide]
  refine m_sld X hx hbl hS 1 (by decide) rfl d_Law_law_1138 ?_
  refine lv_aload_n X.x X.b d_Law_law_1139 rfl (lv_at hl 1 rfl) ?_
  refine m_callW X hS (L_distance_IO l g hfl hb (iaO_Fn h1) hBz ho hoq2) hZ s_Law_127 rfl rfl (Nat.le_of_ble_eq_true rfl) hl.1 d_Law_law_1140 (by omega) (by decide) ⟨by omega, by omega⟩ (fun q z => z.elim (fun z => by have z : (B ≤ q ∧ q < B + 287) ∨ q = oq := z; show s.heap.size ≤ q; omega) (fun z => Nat.le_trans hS.1 z)) (fun H1 locs1 hq hfr hS => ?_)
  have hM := hM.frame hfr (fun q z => by have z : (B ≤ q ∧ q < B + 287) ∨ q = oq := z; exact ⟨by omega, by omega⟩)
  clear hb hZ
  refine lv_istore (lv' := [(5, .int 1), (4, .int 0), (3, .ref oq), (2, .ref mo), (1, .ref B), (0, .ref b)]) X.x X.b d_Law_law_1143 hl (by decide) rfl (fun ls hl => ?_)
  refine lv_aload_n X.x X.b d_Law_law_1145 rfl (lv_at hl 3 rfl) ?_
  refine lv_aload_n X.x X.b d_Law_law_1146 rfl (lv_at hl 5 rfl) ?_
  refine lv_iload X.x X.b d_Law_law_1147 (lv_at hl 1 rfl) ?_
  refine lv_iconst (v := 1) X.x X.b d_Law_law_1149 (by decide) ?_
  refine lv_iadd X.x X.b d_Law_law_1150 ?_
  rw [show (0 + 1 : Int32) = 1 from by decide]
  refine m_sld X hx hbl hS 1 (by decide) rfl d_Law_law_1151 ?_
  refine m_callV X hS (M_Model_distance_n l g hM hf hn h1) v_Law_129 hM.1 rfl rfl rfl (Nat.le_of_ble_eq_true rfl) hl.1 d_Law_law_1152 (by omega) (by decide) ⟨by omega, by omega⟩ (fun q z => z.elim (fun z => by have z : mo ≤ q ∧ q < mo + 23 := z; show s.heap.size ≤ q; omega) (fun z => Nat.le_trans hS.1 z)) (fun H2 locs2 hq hfr hS => ?_)
  clear hM
  obtain ⟨p1, hM, hp⟩ := hq
  refine lv_istore (lv' := [(6, .int 0), (5, .int 1), (4, .int 0), (3, .ref oq), (2, .ref mo), (1, .ref B), (0, .ref b)]) X.x X.b d_Law_law_1155 hl (by decide) rfl (fun ls hl => ?_)
  refine lv_aload_n X.x X.b d_Law_law_1157 rfl (lv_at hl 4 rfl) ?_
  have hR := M_Model_thrown l g hM
  rw [hp] at hR
  refine m_callV X hS hR v_Law_73 hM.1 rfl rfl rfl (Nat.le_of_ble_eq_true rfl) hl.1 d_Law_law_1158 (by omega) (by decide) ⟨by omega, by omega⟩ (fun q z => z.elim (fun z => z.elim) (fun z => Nat.le_trans hS.1 z)) (fun H3 locs3 hq hfr hS3 => ?_)
  clear hS
  have hS := hS3
  clear hS3
  subst hq
  refine lv_iload X.x X.b d_Law_law_1161 (lv_at hl 1 rfl) ?_
  refine lv_icmp_eq (tgt := 1168) X.x X.b d_Law_law_1163 (by decide) (fun c1 => ?_) (fun c1 => ?_)
  · skip
    refine lv_iload X.x X.b d_Law_law_1168 (lv_at hl 1 rfl) ?_
    refine lv_if_ne (tgt := 1185) X.x X.b d_Law_law_1170 (by decide) (fun c2 => ?_) (fun c2 => ?_)
    · skip
      refine lv_goto (tgt := 1283) X.x X.b d_Law_law_1185 (by decide) ?_
      exact kk _ _ _ _ _ hS (lv_sub hl [2, 6] rfl) (by omega) (by omega)
    · exact absurd c2 (by decide)
  · exact absurd c1 (by decide)
set_option maxRecDepth 100000 in
set_option maxHeartbeats 4000000 in
theorem law_15_y {g : GG} {p : Program} {l : Launch} {e : Env} {s : State} {m : MethodId} {below : List Frame} {meth : Method} {c : Code} {H : Heap} {locs : List Loc} {cells slots : Nat} {Q : State → Prop} {nm : String} {ls : Array Slot} {B mo oq b : Nat} {xs : Nat → Int32} (X : CX g p s m #[.ref b] meth c c_Law_law 9 (some .boolean) R_Law nm) (hfl : l.stackTraces = false) (hx : va_X b 8 xs s s.heap) (hbl : b < s.heap.size) (kk : LawE p l e s m b below meth c Q) (h0 : LawS g s B mo oq b locs cells slots ls H) (h1 : xs 1 = 0) : W p l e (rmK 2000 600002 7302232) s m #[.ref b] below meth c H locs cells slots Q (F0 m 1132 ls []) := by
  obtain ⟨⟨hB, hmo, hoq⟩, hS, hb, ⟨p0, s0, hM, hf, hn⟩, ⟨fo, ho⟩, hZ, hl, hcs, hss⟩ := h0
  have hBz : B ≤ H.size := hB ▸ hS.1
  have hoq2 : B + 287 ≤ oq := by omega
  refine lv_aload_n X.x X.b d_Law_law_1132 rfl (lv_at hl 3 rfl) ?_
  refine lv_aload_n X.x X.b d_Law_law_1133 rfl (lv_at hl 4 rfl) ?_
  refine lv_iload X.x X.b d_Law_law_1134 (lv_at hl 0 rfl) ?_
  refine lv_iconst (v := 1) X.x X.b d_Law_law_1136 (by decide) ?_
  refine lv_iadd X.x X.b d_Law_law_1137 ?_
  rw [show (0 + 1 : Int32) = 1 from by decide]
  refine m_sld X hx hbl hS 1 (by decide) rfl d_Law_law_1138 ?_
  rw [h1]
  refine lv_aload_n X.x X.b d_Law_law_1139 rfl (lv_at hl 1 rfl) ?_
  refine m_callW X hS (L_distance_nb l g hfl hb iaO_F0 brF_F hBz ho hoq2) hZ s_Law_127 rfl rfl (Nat.le_of_ble_eq_true rfl) hl.1 d_Law_law_1140 (by omega) (by decide) ⟨by omega, by omega⟩ (fun q z => z.elim (fun z => by have z : (B ≤ q ∧ q < B + 287) ∨ q = oq := z; show s.heap.size ≤ q; omega) (fun z => Nat.le_trans hS.1 z)) (fun H1 locs1 hq hfr hS => ?_)
  have hM := hM.frame hfr (fun q z => by have z : (B ≤ q ∧ q < B + 287) ∨ q = oq := z; exact ⟨by omega, by omega⟩)
  clear hb hZ
  refine lv_istore (lv' := [(5, .int 1), (4, .int 0), (3, .ref oq), (2, .ref mo), (1, .ref B), (0, .ref b)]) X.x X.b d_Law_law_1143 hl (by decide) rfl (fun ls hl => ?_)
  refine lv_aload_n X.x X.b d_Law_law_1145 rfl (lv_at hl 3 rfl) ?_
  refine lv_aload_n X.x X.b d_Law_law_1146 rfl (lv_at hl 5 rfl) ?_
  refine lv_iload X.x X.b d_Law_law_1147 (lv_at hl 1 rfl) ?_
  refine lv_iconst (v := 1) X.x X.b d_Law_law_1149 (by decide) ?_
  refine lv_iadd X.x X.b d_Law_law_1150 ?_
  rw [show (0 + 1 : Int32) = 1 from by decide]
  refine m_sld X hx hbl hS 1 (by decide) rfl d_Law_law_1151 ?_
  rw [h1]
  refine m_callV X hS (M_Model_distance_0 l g hM hf hn) v_Law_129 hM.1 rfl rfl rfl (Nat.le_of_ble_eq_true rfl) hl.1 d_Law_law_1152 (by omega) (by decide) ⟨by omega, by omega⟩ (fun q z => z.elim (fun z => by have z : mo ≤ q ∧ q < mo + 23 := z; show s.heap.size ≤ q; omega) (fun z => Nat.le_trans hS.1 z)) (fun H2 locs2 hq hfr hS => ?_)
  clear hM
  obtain ⟨p1, hM, hp⟩ := hq
  refine lv_istore (lv' := [(6, .int 0), (5, .int 1), (4, .int 0), (3, .ref oq), (2, .ref mo), (1, .ref B), (0, .ref b)]) X.x X.b d_Law_law_1155 hl (by decide) rfl (fun ls hl => ?_)
  refine lv_aload_n X.x X.b d_Law_law_1157 rfl (lv_at hl 4 rfl) ?_
  have hR := M_Model_thrown l g hM
  rw [hp] at hR
  refine m_callV X hS hR v_Law_73 hM.1 rfl rfl rfl (Nat.le_of_ble_eq_true rfl) hl.1 d_Law_law_1158 (by omega) (by decide) ⟨by omega, by omega⟩ (fun q z => z.elim (fun z => z.elim) (fun z => Nat.le_trans hS.1 z)) (fun H3 locs3 hq hfr hS3 => ?_)
  clear hS
  have hS := hS3
  clear hS3
  subst hq
  refine lv_iload X.x X.b d_Law_law_1161 (lv_at hl 1 rfl) ?_
  refine lv_icmp_eq (tgt := 1168) X.x X.b d_Law_law_1163 (by decide) (fun c1 => ?_) (fun c1 => ?_)
  · skip
    refine lv_iload X.x X.b d_Law_law_1168 (lv_at hl 1 rfl) ?_
    refine lv_if_ne (tgt := 1185) X.x X.b d_Law_law_1170 (by decide) (fun c2 => ?_) (fun c2 => ?_)
    · skip
      refine lv_goto (tgt := 1283) X.x X.b d_Law_law_1185 (by decide) ?_
      exact kk _ _ _ _ _ hS (lv_sub hl [2, 6] rfl) (by omega) (by omega)
    · exact absurd c2 (by decide)
  · exact absurd c1 (by decide)
set_option maxRecDepth 100000 in
set_option maxHeartbeats 4000000 in
theorem law_16 {g : GG} {p : Program} {l : Launch} {e : Env} {s : State} {m : MethodId} {below : List Frame} {meth : Method} {c : Code} {H : Heap} {locs : List Loc} {cells slots : Nat} {Q : State → Prop} {nm : String} {ls : Array Slot} {B mo oq b : Nat} {xs : Nat → Int32} (X : CX g p s m #[.ref b] meth c c_Law_law 9 (some .boolean) R_Law nm) (hfl : l.stackTraces = false) (hx : va_X b 8 xs s s.heap) (hbl : b < s.heap.size) (kk : LawE p l e s m b below meth c Q) (h0 : LawS g s B mo oq b locs cells slots ls H) : W p l e (rmK 2000 600002 7302232) s m #[.ref b] below meth c H locs cells slots Q (F0 m 1188 ls []) := by
  obtain ⟨⟨hB, hmo, hoq⟩, hS, hb, ⟨p0, s0, hM, hf, hn⟩, ⟨fo, ho⟩, hZ, hl, hcs, hss⟩ := h0
  have hBz : B ≤ H.size := hB ▸ hS.1
  have hoq2 : B + 287 ≤ oq := by omega
  refine lv_aload_n X.x X.b d_Law_law_1188 rfl (lv_at hl 3 rfl) ?_
  have hR := M_BP_wrongly l g hb
  rw [yF_cnl] at hR
  refine m_callV X hS hR v_Law_130 hb.1 rfl rfl rfl (Nat.le_of_ble_eq_true rfl) hl.1 d_Law_law_1189 (by omega) (by decide) ⟨by omega, by omega⟩ (fun q z => z.elim (fun z => by have z : B + 13 + 1 ≤ q ∧ q < B + 13 + 1 + 123 := z; show s.heap.size ≤ q; omega) (fun z => Nat.le_trans hS.1 z)) (fun H1 locs1 hq hfr hS3 => ?_)
  clear hS
  have hS := hS3
  clear hS3
  have hM := hM.frame hfr (fun q z => by have z : B + 13 + 1 ≤ q ∧ q < B + 13 + 1 + 123 := z; exact ⟨by omega, by omega⟩)
  clear hR
  refine lv_aload_n X.x X.b d_Law_law_1192 rfl (lv_at hl 2 rfl) ?_
  refine m_callV X hS (M_Model_wrongly l g hM hf hn) v_Law_133 hM.1 rfl rfl rfl (Nat.le_of_ble_eq_true rfl) hl.1 d_Law_law_1193 (by omega) (by decide) ⟨by omega, by omega⟩ (fun q z => z.elim (fun z => by have z : mo ≤ q ∧ q < mo + 23 := z; show s.heap.size ≤ q; omega) (fun z => Nat.le_trans hS.1 z)) (fun H2 locs2 hq hfr hS => ?_)
  clear hM
  obtain ⟨p1, s1, hM, hp⟩ := hq
  refine lv_icmp_eq (tgt := 1283) X.x X.b d_Law_law_1196 (by decide) (fun c1 => ?_) (fun c1 => ?_)
  · skip
    exact kk _ _ _ _ _ hS (lv_sub hl [0, 4] rfl) (by omega) (by omega)
  · exact absurd c1 (by decide)
set_option maxRecDepth 100000 in
set_option maxHeartbeats 4000000 in
theorem law_17_n {g : GG} {p : Program} {l : Launch} {e : Env} {s : State} {m : MethodId} {below : List Frame} {meth : Method} {c : Code} {H : Heap} {locs : List Loc} {cells slots : Nat} {Q : State → Prop} {nm : String} {ls : Array Slot} {B mo oq b : Nat} {xs : Nat → Int32} (X : CX g p s m #[.ref b] meth c c_Law_law 9 (some .boolean) R_Law nm) (hfl : l.stackTraces = false) (hx : va_X b 8 xs s s.heap) (hbl : b < s.heap.size) (kk : LawE p l e s m b below meth c Q) (h0 : LawS g s B mo oq b locs cells slots ls H) (h1 : ¬ xs 1 = 0) : W p l e (rmK 2000 600002 7302232) s m #[.ref b] below meth c H locs cells slots Q (F0 m 1201 ls []) := by
  obtain ⟨⟨hB, hmo, hoq⟩, hS, hb, ⟨p0, s0, hM, hf, hn⟩, ⟨fo, ho⟩, hZ, hl, hcs, hss⟩ := h0
  have hBz : B ≤ H.size := hB ▸ hS.1
  have hoq2 : B + 287 ≤ oq := by omega
  refine lv_aload_n X.x X.b d_Law_law_1201 rfl (lv_at hl 3 rfl) ?_
  refine lv_aload_n X.x X.b d_Law_law_1202 rfl (lv_at hl 4 rfl) ?_
  refine lv_iload X.x X.b d_Law_law_1203 (lv_at hl 0 rfl) ?_
  refine lv_iconst (v := 1) X.x X.b d_Law_law_1205 (by decide) ?_
  refine lv_iadd X.x X.b d_Law_law_1206 ?_
  rw [show (0 + 1 : Int32) = 1 from by decide]
  refine m_sld X hx hbl hS 1 (by decide) rfl d_Law_law_1207 ?_
  refine lv_aload_n X.x X.b d_Law_law_1208 rfl (lv_at hl 4 rfl) ?_
  refine lv_iload X.x X.b d_Law_law_1209 (lv_at hl 0 rfl) ?_
  refine lv_iconst (v := 2) X.x X.b d_Law_law_1211 (by decide) ?_
  refine lv_iadd X.x X.b d_Law_law_1212 ?_
  rw [show (0 + 2 : Int32) = 2 from by decide]
  refine m_sld X hx hbl hS 2 (by decide) rfl d_Law_law_1213 ?_
  refine lv_aload_n X.x X.b d_Law_law_1214 rfl (lv_at hl 1 rfl) ?_
  refine m_callW X hS (L_longBy_IO l g hfl hb (by rw [ct_F]; exact n0 h1) hBz ho hoq2) hZ s_Law_134 rfl rfl (Nat.le_of_ble_eq_true rfl) hl.1 d_Law_law_1215 (by omega) (by decide) ⟨by omega, by omega⟩ (fun q z => z.elim (fun z => by have z : (B ≤ q ∧ q < B + 287) ∨ q = oq := z; show s.heap.size ≤ q; omega) (fun z => Nat.le_trans hS.1 z)) (fun H1 locs1 hq hfr hS => ?_)
  have hM := hM.frame hfr (fun q z => by have z : (B ≤ q ∧ q < B + 287) ∨ q = oq := z; exact ⟨by omega, by omega⟩)
  clear hb hZ
  refine lv_istore (lv' := [(5, .int 1), (4, .int 0), (3, .ref oq), (2, .ref mo), (1, .ref B), (0, .ref b)]) X.x X.b d_Law_law_1218 hl (by decide) rfl (fun ls hl => ?_)
  refine lv_aload_n X.x X.b d_Law_law_1220 rfl (lv_at hl 3 rfl) ?_
  refine lv_aload_n X.x X.b d_Law_law_1221 rfl (lv_at hl 5 rfl) ?_
  refine lv_iload X.x X.b d_Law_law_1222 (lv_at hl 1 rfl) ?_
  refine lv_iconst (v := 1) X.x X.b d_Law_law_1224 (by decide) ?_
  refine lv_iadd X.x X.b d_Law_law_1225 ?_
  rw [show (0 + 1 : Int32) = 1 from by decide]
  refine m_sld X hx hbl hS 1 (by decide) rfl d_Law_law_1226 ?_
  refine lv_aload_n X.x X.b d_Law_law_1227 rfl (lv_at hl 5 rfl) ?_
  refine lv_iload X.x X.b d_Law_law_1228 (lv_at hl 1 rfl) ?_
  refine lv_iconst (v := 2) X.x X.b d_Law_law_1230 (by decide) ?_
  refine lv_iadd X.x X.b d_Law_law_1231 ?_
  rw [show (0 + 2 : Int32) = 2 from by decide]
  refine m_sld X hx hbl hS 2 (by decide) rfl d_Law_law_1232 ?_
  refine m_callV X hS (M_Model_longBy_n1 l g hM hf hn (fun z => h1 (Int32.le_antisymm z.2 z.1)) _) v_Law_136 hM.1 rfl rfl rfl (Nat.le_of_ble_eq_true rfl) hl.1 d_Law_law_1233 (by omega) (by decide) ⟨by omega, by omega⟩ (fun q z => z.elim (fun z => by have z : mo ≤ q ∧ q < mo + 23 := z; show s.heap.size ≤ q; omega) (fun z => Nat.le_trans hS.1 z)) (fun H2 locs2 hq hfr hS => ?_)
  clear hM
  obtain ⟨t1, p1, s1, hM, hp⟩ := hq
  refine lv_istore (lv' := [(6, .int 0), (5, .int 1), (4, .int 0), (3, .ref oq), (2, .ref mo), (1, .ref B), (0, .ref b)]) X.x X.b d_Law_law_1236 hl (by decide) rfl (fun ls hl => ?_)
  refine lv_aload_n X.x X.b d_Law_law_1238 rfl (lv_at hl 4 rfl) ?_
  have hR := M_Model_thrown l g hM
  rw [hp] at hR
  refine m_callV X hS hR v_Law_73 hM.1 rfl rfl rfl (Nat.le_of_ble_eq_true rfl) hl.1 d_Law_law_1239 (by omega) (by decide) ⟨by omega, by omega⟩ (fun q z => z.elim (fun z => z.elim) (fun z => Nat.le_trans hS.1 z)) (fun H3 locs3 hq hfr hS3 => ?_)
  clear hS
  have hS := hS3
  clear hS3
  subst hq
  refine lv_iload X.x X.b d_Law_law_1242 (lv_at hl 1 rfl) ?_
  refine lv_icmp_eq (tgt := 1249) X.x X.b d_Law_law_1244 (by decide) (fun c1 => ?_) (fun c1 => ?_)
  · skip
    refine lv_iload X.x X.b d_Law_law_1249 (lv_at hl 1 rfl) ?_
    refine lv_if_ne (tgt := 1266) X.x X.b d_Law_law_1251 (by decide) (fun c2 => ?_) (fun c2 => ?_)
    · skip
      refine lv_goto (tgt := 1283) X.x X.b d_Law_law_1266 (by decide) ?_
      exact kk _ _ _ _ _ hS (lv_sub hl [2, 6] rfl) (by omega) (by omega)
    · exact absurd c2 (by decide)
  · exact absurd c1 (by decide)
set_option maxRecDepth 100000 in
set_option maxHeartbeats 4000000 in
theorem law_17_o {g : GG} {p : Program} {l : Launch} {e : Env} {s : State} {m : MethodId} {below : List Frame} {meth : Method} {c : Code} {H : Heap} {locs : List Loc} {cells slots : Nat} {Q : State → Prop} {nm : String} {ls : Array Slot} {B mo oq b : Nat} {xs : Nat → Int32} (X : CX g p s m #[.ref b] meth c c_Law_law 9 (some .boolean) R_Law nm) (hfl : l.stackTraces = false) (hx : va_X b 8 xs s s.heap) (hbl : b < s.heap.size) (kk : LawE p l e s m b below meth c Q) (h0 : LawS g s B mo oq b locs cells slots ls H) (h1 : xs 1 = 0) (h2 : ¬ (1 ≤ xs 2 ∧ xs 2 ≤ 20)) : W p l e (rmK 2000 600002 7302232) s m #[.ref b] below meth c H locs cells slots Q (F0 m 1201 ls []) := by
  obtain ⟨⟨hB, hmo, hoq⟩, hS, hb, ⟨p0, s0, hM, hf, hn⟩, ⟨fo, ho⟩, hZ, hl, hcs, hss⟩ := h0
  have hBz : B ≤ H.size := hB ▸ hS.1
  have hoq2 : B + 287 ≤ oq := by omega
  refine lv_aload_n X.x X.b d_Law_law_1201 rfl (lv_at hl 3 rfl) ?_
  refine lv_aload_n X.x X.b d_Law_law_1202 rfl (lv_at hl 4 rfl) ?_
  refine lv_iload X.x X.b d_Law_law_1203 (lv_at hl 0 rfl) ?_
  refine lv_iconst (v := 1) X.x X.b d_Law_law_1205 (by decide) ?_
  refine lv_iadd X.x X.b d_Law_law_1206 ?_
  rw [show (0 + 1 : Int32) = 1 from by decide]
  refine m_sld X hx hbl hS 1 (by decide) rfl d_Law_law_1207 ?_
  rw [h1]
  refine lv_aload_n X.x X.b d_Law_law_1208 rfl (lv_at hl 4 rfl) ?_
  refine lv_iload X.x X.b d_Law_law_1209 (lv_at hl 0 rfl) ?_
  refine lv_iconst (v := 2) X.x X.b d_Law_law_1211 (by decide) ?_
  refine lv_iadd X.x X.b d_Law_law_1212 ?_
  rw [show (0 + 2 : Int32) = 2 from by decide]
  refine m_sld X hx hbl hS 2 (by decide) rfl d_Law_law_1213 ?_
  refine lv_aload_n X.x X.b d_Law_law_1214 rfl (lv_at hl 1 rfl) ?_
  refine m_callW X hS (L_longBy_IA l g hfl hb (by decide) (by rw [ct_F]; decide) (n20 h2) hBz ho hoq2) hZ s_Law_134 rfl rfl (Nat.le_of_ble_eq_true rfl) hl.1 d_Law_law_1215 (by omega) (by decide) ⟨by omega, by omega⟩ (fun q z => z.elim (fun z => by have z : (B ≤ q ∧ q < B + 287) ∨ q = oq := z; show s.heap.size ≤ q; omega) (fun z => Nat.le_trans hS.1 z)) (fun H1 locs1 hq hfr hS => ?_)
  have hM := hM.frame hfr (fun q z => by have z : (B ≤ q ∧ q < B + 287) ∨ q = oq := z; exact ⟨by omega, by omega⟩)
  clear hb hZ
  refine lv_istore (lv' := [(5, .int 2), (4, .int 0), (3, .ref oq), (2, .ref mo), (1, .ref B), (0, .ref b)]) X.x X.b d_Law_law_1218 hl (by decide) rfl (fun ls hl => ?_)
  refine lv_aload_n X.x X.b d_Law_law_1220 rfl (lv_at hl 3 rfl) ?_
  refine lv_aload_n X.x X.b d_Law_law_1221 rfl (lv_at hl 5 rfl) ?_
  refine lv_iload X.x X.b d_Law_law_1222 (lv_at hl 1 rfl) ?_
  refine lv_iconst (v := 1) X.x X.b d_Law_law_1224 (by decide) ?_
  refine lv_iadd X.x X.b d_Law_law_1225 ?_
  rw [show (0 + 1 : Int32) = 1 from by decide]
  refine m_sld X hx hbl hS 1 (by decide) rfl d_Law_law_1226 ?_
  rw [h1]
  refine lv_aload_n X.x X.b d_Law_law_1227 rfl (lv_at hl 5 rfl) ?_
  refine lv_iload X.x X.b d_Law_law_1228 (lv_at hl 1 rfl) ?_
  refine lv_iconst (v := 2) X.x X.b d_Law_law_1230 (by decide) ?_
  refine lv_iadd X.x X.b d_Law_law_1231 ?_
  rw [show (0 + 2 : Int32) = 2 from by decide]
  refine m_sld X hx hbl hS 2 (by decide) rfl d_Law_law_1232 ?_
  refine m_callV X hS (M_Model_longBy_n2 l g hM hf hn h2) v_Law_136 hM.1 rfl rfl rfl (Nat.le_of_ble_eq_true rfl) hl.1 d_Law_law_1233 (by omega) (by decide) ⟨by omega, by omega⟩ (fun q z => z.elim (fun z => by have z : mo ≤ q ∧ q < mo + 23 := z; show s.heap.size ≤ q; omega) (fun z => Nat.le_trans hS.1 z)) (fun H2 locs2 hq hfr hS => ?_)
  clear hM
  obtain ⟨t1, p1, s1, hM, hp⟩ := hq
  refine lv_istore (lv' := [(6, .int 0), (5, .int 2), (4, .int 0), (3, .ref oq), (2, .ref mo), (1, .ref B), (0, .ref b)]) X.x X.b d_Law_law_1236 hl (by decide) rfl (fun ls hl => ?_)
  refine lv_aload_n X.x X.b d_Law_law_1238 rfl (lv_at hl 4 rfl) ?_
  have hR := M_Model_thrown l g hM
  rw [hp] at hR
  refine m_callV X hS hR v_Law_73 hM.1 rfl rfl rfl (Nat.le_of_ble_eq_true rfl) hl.1 d_Law_law_1239 (by omega) (by decide) ⟨by omega, by omega⟩ (fun q z => z.elim (fun z => z.elim) (fun z => Nat.le_trans hS.1 z)) (fun H3 locs3 hq hfr hS3 => ?_)
  clear hS
  have hS := hS3
  clear hS3
  subst hq
  refine lv_iload X.x X.b d_Law_law_1242 (lv_at hl 1 rfl) ?_
  refine lv_icmp_eq (tgt := 1249) X.x X.b d_Law_law_1244 (by decide) (fun c1 => ?_) (fun c1 => ?_)
  · skip
    refine lv_iload X.x X.b d_Law_law_1249 (lv_at hl 1 rfl) ?_
    refine lv_if_ne (tgt := 1266) X.x X.b d_Law_law_1251 (by decide) (fun c2 => ?_) (fun c2 => ?_)
    · skip
      refine lv_goto (tgt := 1283) X.x X.b d_Law_law_1266 (by decide) ?_
      exact kk _ _ _ _ _ hS (lv_sub hl [2, 6] rfl) (by omega) (by omega)
    · exact absurd c2 (by decide)
  · exact absurd c1 (by decide)
set_option maxRecDepth 100000 in
set_option maxHeartbeats 4000000 in
theorem law_17_y {g : GG} {p : Program} {l : Launch} {e : Env} {s : State} {m : MethodId} {below : List Frame} {meth : Method} {c : Code} {H : Heap} {locs : List Loc} {cells slots : Nat} {Q : State → Prop} {nm : String} {ls : Array Slot} {B mo oq b : Nat} {xs : Nat → Int32} (X : CX g p s m #[.ref b] meth c c_Law_law 9 (some .boolean) R_Law nm) (hfl : l.stackTraces = false) (hx : va_X b 8 xs s s.heap) (hbl : b < s.heap.size) (kk : LawE p l e s m b below meth c Q) (h0 : LawS g s B mo oq b locs cells slots ls H) (h1 : xs 1 = 0) {t : Nat} (ht1 : 1 ≤ t) (ht : t ≤ 20) (h2 : xs 2 = nI t) : W p l e (rmK 2000 600002 7302232) s m #[.ref b] below meth c H locs cells slots Q (F0 m 1201 ls []) := by
  obtain ⟨⟨hB, hmo, hoq⟩, hS, hb, ⟨p0, s0, hM, hf, hn⟩, ⟨fo, ho⟩, hZ, hl, hcs, hss⟩ := h0
  have hBz : B ≤ H.size := hB ▸ hS.1
  have hoq2 : B + 287 ≤ oq := by omega
  refine lv_aload_n X.x X.b d_Law_law_1201 rfl (lv_at hl 3 rfl) ?_
  refine lv_aload_n X.x X.b d_Law_law_1202 rfl (lv_at hl 4 rfl) ?_
  refine lv_iload X.x X.b d_Law_law_1203 (lv_at hl 0 rfl) ?_
  refine lv_iconst (v := 1) X.x X.b d_Law_law_1205 (by decide) ?_
  refine lv_iadd X.x X.b d_Law_law_1206 ?_
  rw [show (0 + 1 : Int32) = 1 from by decide]
  refine m_sld X hx hbl hS 1 (by decide) rfl d_Law_law_1207 ?_
  rw [h1]
  refine lv_aload_n X.x X.b d_Law_law_1208 rfl (lv_at hl 4 rfl) ?_
  refine lv_iload X.x X.b d_Law_law_1209 (lv_at hl 0 rfl) ?_
  refine lv_iconst (v := 2) X.x X.b d_Law_law_1211 (by decide) ?_
  refine lv_iadd X.x X.b d_Law_law_1212 ?_
  rw [show (0 + 2 : Int32) = 2 from by decide]
  refine m_sld X hx hbl hS 2 (by decide) rfl d_Law_law_1213 ?_
  rw [h2]
  refine lv_aload_n X.x X.b d_Law_law_1214 rfl (lv_at hl 1 rfl) ?_
  obtain ⟨cnt2, f2, D2, y2, hQ⟩ := bAt.q.mp hb
  refine m_callW X hS (L_longBy_ok l g hfl hQ (t := 0) (k := t) (Nat.zero_le _) ht1 ht yF_f.1 hBz ho hoq2) hZ s_Law_134 rfl rfl (Nat.le_of_ble_eq_true rfl) hl.1 d_Law_law_1215 (by omega) (by decide) ⟨by omega, by omega⟩ (fun q z => z.elim (fun z => by have z : (B ≤ q ∧ q < B + 287) ∨ q = oq := z; show s.heap.size ≤ q; omega) (fun z => Nat.le_trans hS.1 z)) (fun H1 locs1 hq hfr hS => ?_)
  have hM := hM.frame hfr (fun q z => by have z : (B ≤ q ∧ q < B + 287) ∨ q = oq := z; exact ⟨by omega, by omega⟩)
  have ho : ouIs g oq ((0 : Int32).toInt64) H1 := by have e := (lbA_any yF (lbX D0 0 (dl 2 (-1) (-1) 0 0) t) (lbC c00 t) y2 y00).trans (yF_lb t (by omega)); rw [← e]; exact hq
  clear hb hZ
  refine lv_istore (lv' := [(5, .int 0), (4, .int 0), (3, .ref oq), (2, .ref mo), (1, .ref B), (0, .ref b)]) X.x X.b d_Law_law_1218 hl (by decide) rfl (fun ls hl => ?_)
  refine lv_aload_n X.x X.b d_Law_law_1220 rfl (lv_at hl 3 rfl) ?_
  refine lv_aload_n X.x X.b d_Law_law_1221 rfl (lv_at hl 5 rfl) ?_
  refine lv_iload X.x X.b d_Law_law_1222 (lv_at hl 1 rfl) ?_
  refine lv_iconst (v := 1) X.x X.b d_Law_law_1224 (by decide) ?_
  refine lv_iadd X.x X.b d_Law_law_1225 ?_
  rw [show (0 + 1 : Int32) = 1 from by decide]
  refine m_sld X hx hbl hS 1 (by decide) rfl d_Law_law_1226 ?_
  rw [h1]
  refine lv_aload_n X.x X.b d_Law_law_1227 rfl (lv_at hl 5 rfl) ?_
  refine lv_iload X.x X.b d_Law_law_1228 (lv_at hl 1 rfl) ?_
  refine lv_iconst (v := 2) X.x X.b d_Law_law_1230 (by decide) ?_
  refine lv_iadd X.x X.b d_Law_law_1231 ?_
  rw [show (0 + 2 : Int32) = 2 from by decide]
  refine m_sld X hx hbl hS 2 (by decide) rfl d_Law_law_1232 ?_
  rw [h2]
  refine m_callV X hS (M_Model_longBy_ok l g hM hf hn ht1 ht) v_Law_136 hM.1 rfl rfl rfl (Nat.le_of_ble_eq_true rfl) hl.1 d_Law_law_1233 (by omega) (by decide) ⟨by omega, by omega⟩ (fun q z => z.elim (fun z => by have z : (mo ≤ q ∧ q < mo + 23) ∨ q = mo + 1 := z; show s.heap.size ≤ q; omega) (fun z => Nat.le_trans hS.1 z)) (fun H2 locs2 hq hfr hS => ?_)
  clear hM
  obtain ⟨t1, p1, s1, hM, hp⟩ := hq
  have ho := ouIs.fr ho hfr (fun z => by have z : (mo ≤ oq ∧ oq < mo + 23) ∨ oq = mo + 1 := z; omega)
  refine lv_istore (lv' := [(6, .int 0), (5, .int 0), (4, .int 0), (3, .ref oq), (2, .ref mo), (1, .ref B), (0, .ref b)]) X.x X.b d_Law_law_1236 hl (by decide) rfl (fun ls hl => ?_)
  refine lv_aload_n X.x X.b d_Law_law_1238 rfl (lv_at hl 4 rfl) ?_
  have hR := M_Model_thrown l g hM
  rw [hp] at hR
  refine m_callV X hS hR v_Law_73 hM.1 rfl rfl rfl (Nat.le_of_ble_eq_true rfl) hl.1 d_Law_law_1239 (by omega) (by decide) ⟨by omega, by omega⟩ (fun q z => z.elim (fun z => z.elim) (fun z => Nat.le_trans hS.1 z)) (fun H3 locs3 hq hfr hS3 => ?_)
  clear hS
  have hS := hS3
  clear hS3
  subst hq
  refine lv_iload X.x X.b d_Law_law_1242 (lv_at hl 1 rfl) ?_
  refine lv_icmp_eq (tgt := 1249) X.x X.b d_Law_law_1244 (by decide) (fun c1 => ?_) (fun c1 => ?_)
  · skip
    refine lv_iload X.x X.b d_Law_law_1249 (lv_at hl 1 rfl) ?_
    refine lv_if_ne (tgt := 1266) X.x X.b d_Law_law_1251 (by decide) (fun c2 => ?_) (fun c2 => ?_)
    · exact absurd c1 c2
    · skip
      refine lv_aload_n X.x X.b d_Law_law_1254 rfl (lv_at hl 3 rfl) ?_
      refine lv_iconst (v := 0) X.x X.b d_Law_law_1255 (by decide) ?_
      refine m_lald0 X ho d_Law_law_1256 ?_
      refine lv_iload X.x X.b d_Law_law_1257 (lv_at hl 0 rfl) ?_
      refine lv_i2l (v := (0 : Int32).toInt64) X.x X.b d_Law_law_1259 rfl ?_
      refine m_lcmp0 X d_Law_law_1260 ?_
      refine lv_if_eq (tgt := 1266) X.x X.b d_Law_law_1261 (by decide) (fun c3 => ?_) (fun c3 => ?_)
      · skip
        refine lv_goto (tgt := 1283) X.x X.b d_Law_law_1266 (by decide) ?_
        exact kk _ _ _ _ _ hS (lv_sub hl [2, 6] rfl) (by omega) (by omega)
      · exact absurd c2 c3
  · exact absurd c1 (by decide)
set_option maxRecDepth 100000 in
set_option maxHeartbeats 4000000 in
theorem law_18 {g : GG} {p : Program} {l : Launch} {e : Env} {s : State} {m : MethodId} {below : List Frame} {meth : Method} {c : Code} {H : Heap} {locs : List Loc} {cells slots : Nat} {Q : State → Prop} {nm : String} {ls : Array Slot} {B mo oq b : Nat} {xs : Nat → Int32} (X : CX g p s m #[.ref b] meth c c_Law_law 9 (some .boolean) R_Law nm) (hfl : l.stackTraces = false) (hx : va_X b 8 xs s s.heap) (hbl : b < s.heap.size) (kk : LawE p l e s m b below meth c Q) (h0 : LawS g s B mo oq b locs cells slots ls H) : W p l e (rmK 2000 600002 7302232) s m #[.ref b] below meth c H locs cells slots Q (F0 m 1269 ls []) := by
  obtain ⟨⟨hB, hmo, hoq⟩, hS, hb, ⟨p0, s0, hM, hf, hn⟩, ⟨fo, ho⟩, hZ, hl, hcs, hss⟩ := h0
  have hBz : B ≤ H.size := hB ▸ hS.1
  have hoq2 : B + 287 ≤ oq := by omega
  refine lv_aload_n X.x X.b d_Law_law_1269 rfl (lv_at hl 3 rfl) ?_
  have hR := M_BP_digest l g hb (Wn := 0) (by rw [yF_tal]; rfl) (by decide) (fun _ a ha => absurd ha (Nat.not_lt_zero _))
  rw [yF_dig] at hR
  refine m_callV X hS hR v_Law_137 hb.1 rfl rfl rfl (Nat.le_of_ble_eq_true rfl) hl.1 d_Law_law_1270 (by omega) (by decide) ⟨by omega, by omega⟩ (fun q z => z.elim (fun z => by have z : B ≤ q ∧ q < B + 287 := z; show s.heap.size ≤ q; omega) (fun z => Nat.le_trans hS.1 z)) (fun H1 locs1 hq hfr hS3 => ?_)
  clear hS
  have hS := hS3
  clear hS3
  have hM := hM.frame hfr (fun q z => by have z : B ≤ q ∧ q < B + 287 := z; exact ⟨by omega, by omega⟩)
  clear hR
  refine lv_aload_n X.x X.b d_Law_law_1273 rfl (lv_at hl 2 rfl) ?_
  refine m_callV X hS (M_Model_digest l g hM hf hn) v_Law_141 hM.1 rfl rfl rfl (Nat.le_of_ble_eq_true rfl) hl.1 d_Law_law_1274 (by omega) (by decide) ⟨by omega, by omega⟩ (fun q z => z.elim (fun z => by have z : mo ≤ q ∧ q < mo + 23 := z; show s.heap.size ≤ q; omega) (fun z => Nat.le_trans hS.1 z)) (fun H2 locs2 hq hfr hS => ?_)
  clear hM
  obtain ⟨p1, s1, hM, hp⟩ := hq
  refine m_lcmp0 X d_Law_law_1277 ?_
  refine lv_if_eq (tgt := 1283) X.x X.b d_Law_law_1278 (by decide) (fun c1 => ?_) (fun c1 => ?_)
  · skip
    exact kk _ _ _ _ _ hS (lv_sub hl [0, 4] rfl) (by omega) (by omega)
  · exact absurd c1 (by decide)
