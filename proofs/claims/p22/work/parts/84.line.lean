-- A LINE AS THE LAW DRAWS IT
theorem ln_label {x : Int32} (h : 0 ≤ x ∧ x ≤ 9) : lnOk 0 x (-1) 0 0 := ⟨by decide, by simpa [xOk] using h, by decide, by decide, Or.inl rfl⟩
theorem ln_set {x y n v : Int32} (hx : 0 ≤ x ∧ x < 8) (hy : -1 ≤ y ∧ y < 8) (hn : -99 ≤ n ∧ n ≤ 99) : lnOk 1 x y n v := ⟨by decide, by simpa [xOk] using hx, by simpa [yOk] using hy, by simpa [nOk] using hn, Or.inr (by decide)⟩
theorem ln_data {x y n v : Int32} (hx : -1 ≤ x ∧ x ≤ 11) (hy : -1 ≤ y ∧ y ≤ 11) (hn : -99 ≤ n ∧ n ≤ 99) : lnOk 2 x y n v := ⟨by decide, by simpa [xOk] using hx, by simpa [yOk] using hy, by simpa [nOk] using hn, Or.inr (by decide)⟩
theorem ln_br {t : Nat} (ht : t < 2) {x n v : Int32} (hx : -1 ≤ x ∧ x ≤ 11) (hn : -99 ≤ n ∧ n ≤ 99) : lnOk (3 + nI t) x (-1) n v := by
  rcases (show t = 0 ∨ t = 1 by omega) with rfl | rfl
  · rw [show (3 : Int32) + nI 0 = 3 by decide]
    exact ⟨by decide, by simpa [xOk] using hx, by decide, by simpa [nOk] using hn, Or.inr (by decide)⟩
  · rw [show (3 : Int32) + nI 1 = 4 by decide]
    exact ⟨by decide, by simpa [xOk] using hx, by decide, by simpa [nOk] using hn, Or.inr (by decide)⟩
theorem ln_load {n v : Int32} (hn : -99 ≤ n ∧ n ≤ 99) : lnOk 5 (-1) (-1) n v := ⟨by decide, by decide, by decide, by simpa [nOk] using hn, Or.inr (by decide)⟩
theorem ln_pool : lnOk 6 (-1) (-1) 0 0 := by decide
theorem ln_end : lnOk 9 (-1) (-1) 0 0 := by decide
theorem ln_align {n : Int32} (hn : n = 2 ∨ n = 4 ∨ n = 8) : lnOk 7 (-1) (-1) n 0 := ⟨by decide, by decide, by decide, by simpa [nOk] using hn, Or.inl rfl⟩
theorem ln_when {x n v : Int32} (hx : -1 ≤ x ∧ x < 8) (hn : -99 ≤ n ∧ n ≤ 99) : lnOk 8 x (-1) n v := ⟨by decide, by simpa [xOk] using hx, by decide, by simpa [nOk] using hn, Or.inr (by decide)⟩
theorem ln_call {x n v : Int32} (hx : 0 < x ∧ x < 5) (hn : -99 ≤ n ∧ n ≤ 99) : lnOk 10 x (-1) n v := ⟨by decide, by simpa [xOk] using hx, by decide, by simpa [nOk] using hn, Or.inr (by decide)⟩
/-- a new row of five ints -/
abbrev i5 (g : GG) (q : Nat) (k x y n v : Int32) (H : Heap) : Prop := pt g q (.inl (g.2 0, 5, .inl (dl k x y n v))) H
theorem i5_n {g : GG} {q : Nat} {H : Heap} (h : pt g q (.inl (g.2 0, 5, .inl (fun _ => 0))) H) : i5 g q 0 0 0 0 0 H := h.arrI (fun i hi => by rcases (show i = 0 ∨ i = 1 ∨ i = 2 ∨ i = 3 ∨ i = 4 by omega) with rfl | rfl | rfl | rfl | rfl <;> rfl)
theorem i5_0 {g : GG} {q : Nat} {k x y n v z : Int32} {H : Heap} (h : pt g q (.inl (g.2 0, 5, .inl (upd (dl k x y n v) (0 : Int32).toNatClampNeg z))) H) : i5 g q z x y n v H := h.arrI (fun i hi => by rcases (show i = 0 ∨ i = 1 ∨ i = 2 ∨ i = 3 ∨ i = 4 by omega) with rfl | rfl | rfl | rfl | rfl <;> rfl)
theorem i5_1 {g : GG} {q : Nat} {k x y n v z : Int32} {H : Heap} (h : pt g q (.inl (g.2 0, 5, .inl (upd (dl k x y n v) (1 : Int32).toNatClampNeg z))) H) : i5 g q k z y n v H := h.arrI (fun i hi => by rcases (show i = 0 ∨ i = 1 ∨ i = 2 ∨ i = 3 ∨ i = 4 by omega) with rfl | rfl | rfl | rfl | rfl <;> rfl)
theorem i5_2 {g : GG} {q : Nat} {k x y n v z : Int32} {H : Heap} (h : pt g q (.inl (g.2 0, 5, .inl (upd (dl k x y n v) (2 : Int32).toNatClampNeg z))) H) : i5 g q k x z n v H := h.arrI (fun i hi => by rcases (show i = 0 ∨ i = 1 ∨ i = 2 ∨ i = 3 ∨ i = 4 by omega) with rfl | rfl | rfl | rfl | rfl <;> rfl)
theorem i5_3 {g : GG} {q : Nat} {k x y n v z : Int32} {H : Heap} (h : pt g q (.inl (g.2 0, 5, .inl (upd (dl k x y n v) (3 : Int32).toNatClampNeg z))) H) : i5 g q k x y z v H := h.arrI (fun i hi => by rcases (show i = 0 ∨ i = 1 ∨ i = 2 ∨ i = 3 ∨ i = 4 by omega) with rfl | rfl | rfl | rfl | rfl <;> rfl)
theorem i5_4 {g : GG} {q : Nat} {k x y n v z : Int32} {H : Heap} (h : pt g q (.inl (g.2 0, 5, .inl (upd (dl k x y n v) (4 : Int32).toNatClampNeg z))) H) : i5 g q k x y n z H := h.arrI (fun i hi => by rcases (show i = 0 ∨ i = 1 ∨ i = 2 ∨ i = 3 ∨ i = 4 by omega) with rfl | rfl | rfl | rfl | rfl <;> rfl)
/-- what comes of drawing a LINE -/
def lnPv (g : GG) (P B b RA : Nat) (V : Value × Value × Value) (d0 sz : Nat) : Option Value → Heap → Prop := fun w H1 => ∃ q d2 k x y n v, w = some (.ref q) ∧ sz ≤ q ∧ d0 ≤ d2 ∧ d2 ≤ d0 + 12 ∧ prAt g P B b RA V d2 H1 ∧ i5 g q k x y n v H1 ∧ lnOk k x y n v ∧ (v = 0 ∨ v = 1)
abbrev eqA (P : Nat) : Nat → Prop := fun q => q = P
theorem va_X.off {b L : Nat} {xs : Nat → Int32} {u : State} {a : Nat} {H H1 : Heap} (h : va_X b L xs u H) (hc : chg a H H1) (hb : b ≠ a) : va_X b L xs u H1 := h.kept (hc.2 b hb)
theorem va_X.lt {b L : Nat} {xs : Nat → Int32} {u : State} {H : Heap} (h : va_X b L xs u H) : b < H.size := by
  obtain ⟨c, h1, -⟩ := h
  exact (Array.getElem?_eq_some_iff.mp h1).1
theorem va_X.grow {b L : Nat} {xs : Nat → Int32} {u : State} {H H1 : Heap} (h : va_X b L xs u H) (hc : grow H H1) : va_X b L xs u H1 := h.kept (hc.2 b h.lt)
set_option maxRecDepth 100000 in
set_option maxHeartbeats 4000000 in
theorem ln_156 {g : GG} {p : Program} {l : Launch} {e : Env} {s : State} {m : MethodId} {below : List Frame} {meth : Method} {cd : Code} {H0 H : Heap} {locs : List Loc} {cells slots : Nat} {nm : String} {ls : Array Slot} {b L P B RA d0 d r : Nat} {xs : Nat → Int32} {V : Value × Value × Value} (X : CX g p s m ([.ref P, .int (nI r)] : List Value).toArray meth cd c_Press_line 11 (some (.array .int)) R_Press nm) (hL : L ≤ 260) (hr : r < 5) (hbP : b < P) (hx : va_X b L xs s H) (hS : va_S (AA (eqA P) H0) H0 H locs) (hP : prAt g P B b RA V d H) (hd3 : d0 < 2900) {q6 nam : Nat} {any num v : Int32} (hA6 : i5 g q6 2 (-1) (-1) num v H) (nq6 : H0.size ≤ q6) (bq6 : b < q6) (pq6 : P < q6) (hany : -1 ≤ any ∧ any ≤ 11) (hnum : -99 ≤ num ∧ num ≤ 99) (hnam : nam < 4) (hv : v = 0 ∨ v = 1) (hd : d0 ≤ d ∧ d ≤ d0 + 7) (hcs : cells ≤ 1 ∧ slots ≤ 5) (hl : lv_has ls 11 [(6, .ref q6), (5, .int any), (4, .int (nI nam)), (3, .int num), (2, .int v), (0, .ref P), (1, .int (nI r))]) : W p l e (rmK 4 2 10) s m ([.ref P, .int (nI r)] : List Value).toArray below meth cd H locs cells slots (MQ below (QX (lnPv g P B b RA V d0 H0.size) (eqA P) H0) ([.ref P, .int (nI r)] : List Value).toArray s 2 10 (AA (eqA P) H0)) (F0 m 156 ls []) := by
  refine lv_iconst (v := 5) X.x X.b d_Press_line_156 (by decide) ?_
  obtain ⟨q157, zq157⟩ : ∃ z : Nat, H.size = z := ⟨_, rfl⟩
  have nq157 : H0.size ≤ q157 := by have := hS.1; omega
  have bq157 : b < q157 := by have := hx.lt; omega
  have pq157 : P < q157 := by have := hP.lt; omega
  have lq157 : q6 < q157 := by have := hA6.lt; omega
  refine m_newI X hS zq157 5 (by decide) (by decide) (by decide) (by omega) (by omega) d_Press_line_157 (fun H hn hgr hS hz2 => ?_)
  have hA157 := i5_n hn
  have hP := hP.grow hgr
  have hx := hx.grow hgr
  have hA6 := hA6.grow hgr
  clear hn hgr hz2
  refine lv_dup X.x X.b d_Press_line_159 rfl ?_
  refine lv_iconst (v := 0) X.x X.b d_Press_line_160 (by decide) ?_
  refine lv_iconst (v := 0) X.x X.b d_Press_line_161 (by decide) ?_
  refine m_iast X hS (Or.inr nq157) hA157 (by unfold vp_in; decide) d_Press_line_162 (fun H locs hp hcg hS => ?_)
  have hA6 := hA6.off hcg (by omega)
  have hA157 := i5_0 hp
  have hP := hP.off hcg (by omega)
  have hx := hx.off hcg (by omega)
  refine lv_dup X.x X.b d_Press_line_163 rfl ?_
  refine lv_iconst (v := 1) X.x X.b d_Press_line_164 (by decide) ?_
  refine lv_aload_n X.x X.b d_Press_line_165 rfl (lv_at hl 5 rfl) ?_
  refine lv_iconst (v := 3) X.x X.b d_Press_line_166 (by decide) ?_
  refine m_callVX X hS hx (N_Press_draw (n := 3) l g hL hP (by omega) (by omega) (by omega)) v_Press_57 hP rfl rfl rfl (Nat.le_of_ble_eq_true rfl) hl.1 d_Press_line_167 (by omega) (by decide) ⟨by omega, by omega⟩ (fun q z => z.elim (fun z => Or.inl z) (fun z => Or.inr (Nat.le_trans hS.1 z))) (fun w H locs hq hfr hS => ?_)
  have hA6 := hA6.fr hfr (fun z => by have z : q6 = P := z; omega)
  have hA157 := hA157.fr hfr (fun z => by have z : q157 = P := z; omega)
  have hx := hx.fr (g := g) hfr (fun z => by have z : b = P := z; omega)
  clear hP
  obtain ⟨x1, hx1, rfl, hP⟩ := hq
  refine lv_if_ne (tgt := 184) X.x X.b d_Press_line_170 (by decide) (fun c2 => ?_) (fun c2 => ?_)
  · skip
    refine lv_iload X.x X.b d_Press_line_184 (lv_at hl 2 rfl) ?_
    refine m_iast X hS (Or.inr nq157) hA157 (by unfold vp_in; decide) d_Press_line_186 (fun H locs hp hcg hS => ?_)
    have hA6 := hA6.off hcg (by omega)
    have hA157 := i5_1 hp
    have hP := hP.off hcg (by omega)
    have hx := hx.off hcg (by omega)
    refine lv_dup X.x X.b d_Press_line_187 rfl ?_
    refine lv_iconst (v := 2) X.x X.b d_Press_line_188 (by decide) ?_
    refine lv_iconst (v := -1) X.x X.b d_Press_line_189 (by decide) ?_
    refine m_iast X hS (Or.inr nq157) hA157 (by unfold vp_in; decide) d_Press_line_190 (fun H locs hp hcg hS => ?_)
    have hA6 := hA6.off hcg (by omega)
    have hA157 := i5_2 hp
    have hP := hP.off hcg (by omega)
    have hx := hx.off hcg (by omega)
    refine lv_dup X.x X.b d_Press_line_191 rfl ?_
    refine lv_iconst (v := 3) X.x X.b d_Press_line_192 (by decide) ?_
    refine lv_iconst (v := 0) X.x X.b d_Press_line_193 (by decide) ?_
    refine m_iast X hS (Or.inr nq157) hA157 (by unfold vp_in; decide) d_Press_line_194 (fun H locs hp hcg hS => ?_)
    have hA6 := hA6.off hcg (by omega)
    have hA157 := i5_3 hp
    have hP := hP.off hcg (by omega)
    have hx := hx.off hcg (by omega)
    refine lv_dup X.x X.b d_Press_line_195 rfl ?_
    refine lv_iconst (v := 4) X.x X.b d_Press_line_196 (by decide) ?_
    refine lv_iconst (v := 0) X.x X.b d_Press_line_197 (by decide) ?_
    refine m_iast X hS (Or.inr nq157) hA157 (by unfold vp_in; decide) d_Press_line_198 (fun H locs hp hcg hS => ?_)
    have hA6 := hA6.off hcg (by omega)
    have hA157 := i5_4 hp
    have hP := hP.off hcg (by omega)
    have hx := hx.off hcg (by omega)
    refine lv_astore (lv' := [(7, .ref q157), (6, .ref q6), (5, .int any), (4, .int (nI nam)), (3, .int num), (2, .int v), (0, .ref P), (1, .int (nI r))]) X.x X.b d_Press_line_199 hl (by decide) rfl (fun ls hl => ?_)
    refine lv_aload X.x X.b d_Press_line_201 (lv_at hl 0 rfl) ?_
    exact m_aretX X hS (by omega) (by omega) d_Press_line_203 ⟨_, _, _, _, _, _, _, rfl, nq157, by omega, by omega, hP, hA157, (ln_label ((by decide : ∀ z : Nat, z < 4 → 0 ≤ nI z ∧ nI z ≤ 9) nam hnam)), (Or.inl rfl)⟩
  · skip
    refine lv_bipush (v := 8) X.x X.b d_Press_line_173 (by decide) ?_
    refine lv_aload_n X.x X.b d_Press_line_175 rfl (lv_at hl 5 rfl) ?_
    refine lv_iconst (v := 2) X.x X.b d_Press_line_176 (by decide) ?_
    refine m_callVX X hS hx (N_Press_draw (n := 2) l g hL hP (by omega) (by omega) (by omega)) v_Press_57 hP rfl rfl rfl (Nat.le_of_ble_eq_true rfl) hl.1 d_Press_line_177 (by omega) (by decide) ⟨by omega, by omega⟩ (fun q z => z.elim (fun z => Or.inl z) (fun z => Or.inr (Nat.le_trans hS.1 z))) (fun w H locs hq hfr hS => ?_)
    have hA6 := hA6.fr hfr (fun z => by have z : q6 = P := z; omega)
    have hA157 := hA157.fr hfr (fun z => by have z : q157 = P := z; omega)
    have hx := hx.fr (g := g) hfr (fun z => by have z : b = P := z; omega)
    clear hP
    obtain ⟨x3, hx3, rfl, hP⟩ := hq
    refine lv_iadd X.x X.b d_Press_line_180 ?_
    refine lv_goto (tgt := 186) X.x X.b d_Press_line_181 (by decide) ?_
    refine m_iast X hS (Or.inr nq157) hA157 (by unfold vp_in; decide) d_Press_line_186 (fun H locs hp hcg hS => ?_)
    have hA6 := hA6.off hcg (by omega)
    have hA157 := i5_1 hp
    have hP := hP.off hcg (by omega)
    have hx := hx.off hcg (by omega)
    refine lv_dup X.x X.b d_Press_line_187 rfl ?_
    refine lv_iconst (v := 2) X.x X.b d_Press_line_188 (by decide) ?_
    refine lv_iconst (v := -1) X.x X.b d_Press_line_189 (by decide) ?_
    refine m_iast X hS (Or.inr nq157) hA157 (by unfold vp_in; decide) d_Press_line_190 (fun H locs hp hcg hS => ?_)
    have hA6 := hA6.off hcg (by omega)
    have hA157 := i5_2 hp
    have hP := hP.off hcg (by omega)
    have hx := hx.off hcg (by omega)
    refine lv_dup X.x X.b d_Press_line_191 rfl ?_
    refine lv_iconst (v := 3) X.x X.b d_Press_line_192 (by decide) ?_
    refine lv_iconst (v := 0) X.x X.b d_Press_line_193 (by decide) ?_
    refine m_iast X hS (Or.inr nq157) hA157 (by unfold vp_in; decide) d_Press_line_194 (fun H locs hp hcg hS => ?_)
    have hA6 := hA6.off hcg (by omega)
    have hA157 := i5_3 hp
    have hP := hP.off hcg (by omega)
    have hx := hx.off hcg (by omega)
    refine lv_dup X.x X.b d_Press_line_195 rfl ?_
    refine lv_iconst (v := 4) X.x X.b d_Press_line_196 (by decide) ?_
    refine lv_iconst (v := 0) X.x X.b d_Press_line_197 (by decide) ?_
    refine m_iast X hS (Or.inr nq157) hA157 (by unfold vp_in; decide) d_Press_line_198 (fun H locs hp hcg hS => ?_)
    have hA6 := hA6.off hcg (by omega)
    have hA157 := i5_4 hp
    have hP := hP.off hcg (by omega)
    have hx := hx.off hcg (by omega)
    refine lv_astore (lv' := [(7, .ref q157), (6, .ref q6), (5, .int any), (4, .int (nI nam)), (3, .int num), (2, .int v), (0, .ref P), (1, .int (nI r))]) X.x X.b d_Press_line_199 hl (by decide) rfl (fun ls hl => ?_)
    refine lv_aload X.x X.b d_Press_line_201 (lv_at hl 0 rfl) ?_
    exact m_aretX X hS (by omega) (by omega) d_Press_line_203 ⟨_, _, _, _, _, _, _, rfl, nq157, by omega, by omega, hP, hA157, (ln_label ((by decide : ∀ z : Nat, z < 2 → 0 ≤ 8 + (nI z) ∧ 8 + (nI z) ≤ 9) x3 hx3)), (Or.inl rfl)⟩
set_option maxRecDepth 100000 in
set_option maxHeartbeats 4000000 in
theorem ln_204 {g : GG} {p : Program} {l : Launch} {e : Env} {s : State} {m : MethodId} {below : List Frame} {meth : Method} {cd : Code} {H0 H : Heap} {locs : List Loc} {cells slots : Nat} {nm : String} {ls : Array Slot} {b L P B RA d0 d r : Nat} {xs : Nat → Int32} {V : Value × Value × Value} (X : CX g p s m ([.ref P, .int (nI r)] : List Value).toArray meth cd c_Press_line 11 (some (.array .int)) R_Press nm) (hL : L ≤ 260) (hr : r < 5) (hbP : b < P) (hx : va_X b L xs s H) (hS : va_S (AA (eqA P) H0) H0 H locs) (hP : prAt g P B b RA V d H) (hd3 : d0 < 2900) {q6 nam : Nat} {any num v : Int32} (hA6 : i5 g q6 2 (-1) (-1) num v H) (nq6 : H0.size ≤ q6) (bq6 : b < q6) (pq6 : P < q6) (hany : -1 ≤ any ∧ any ≤ 11) (hnum : -99 ≤ num ∧ num ≤ 99) (hnam : nam < 4) (hv : v = 0 ∨ v = 1) (hd : d0 ≤ d ∧ d ≤ d0 + 7) (hcs : cells ≤ 1 ∧ slots ≤ 5) (hl : lv_has ls 11 [(6, .ref q6), (5, .int any), (4, .int (nI nam)), (3, .int num), (2, .int v), (0, .ref P), (1, .int (nI r))]) : W p l e (rmK 4 2 10) s m ([.ref P, .int (nI r)] : List Value).toArray below meth cd H locs cells slots (MQ below (QX (lnPv g P B b RA V d0 H0.size) (eqA P) H0) ([.ref P, .int (nI r)] : List Value).toArray s 2 10 (AA (eqA P) H0)) (F0 m 204 ls []) := by
  refine lv_iconst (v := 5) X.x X.b d_Press_line_204 (by decide) ?_
  obtain ⟨q205, zq205⟩ : ∃ z : Nat, H.size = z := ⟨_, rfl⟩
  have nq205 : H0.size ≤ q205 := by have := hS.1; omega
  have bq205 : b < q205 := by have := hx.lt; omega
  have pq205 : P < q205 := by have := hP.lt; omega
  have lq205 : q6 < q205 := by have := hA6.lt; omega
  refine m_newI X hS zq205 5 (by decide) (by decide) (by decide) (by omega) (by omega) d_Press_line_205 (fun H hn hgr hS hz2 => ?_)
  have hA205 := i5_n hn
  have hP := hP.grow hgr
  have hx := hx.grow hgr
  have hA6 := hA6.grow hgr
  clear hn hgr hz2
  refine lv_dup X.x X.b d_Press_line_207 rfl ?_
  refine lv_iconst (v := 0) X.x X.b d_Press_line_208 (by decide) ?_
  refine lv_iconst (v := 1) X.x X.b d_Press_line_209 (by decide) ?_
  refine m_iast X hS (Or.inr nq205) hA205 (by unfold vp_in; decide) d_Press_line_210 (fun H locs hp hcg hS => ?_)
  have hA6 := hA6.off hcg (by omega)
  have hA205 := i5_0 hp
  have hP := hP.off hcg (by omega)
  have hx := hx.off hcg (by omega)
  refine lv_dup X.x X.b d_Press_line_211 rfl ?_
  refine lv_iconst (v := 1) X.x X.b d_Press_line_212 (by decide) ?_
  refine lv_iconst (v := 5) X.x X.b d_Press_line_213 (by decide) ?_
  refine lv_aload_n X.x X.b d_Press_line_214 rfl (lv_at hl 5 rfl) ?_
  refine lv_iconst (v := 2) X.x X.b d_Press_line_215 (by decide) ?_
  refine m_callVX X hS hx (N_Press_draw (n := 2) l g hL hP (by omega) (by omega) (by omega)) v_Press_57 hP rfl rfl rfl (Nat.le_of_ble_eq_true rfl) hl.1 d_Press_line_216 (by omega) (by decide) ⟨by omega, by omega⟩ (fun q z => z.elim (fun z => Or.inl z) (fun z => Or.inr (Nat.le_trans hS.1 z))) (fun w H locs hq hfr hS => ?_)
  have hA6 := hA6.fr hfr (fun z => by have z : q6 = P := z; omega)
  have hA205 := hA205.fr hfr (fun z => by have z : q205 = P := z; omega)
  have hx := hx.fr (g := g) hfr (fun z => by have z : b = P := z; omega)
  clear hP
  obtain ⟨x1, hx1, rfl, hP⟩ := hq
  refine lv_iadd X.x X.b d_Press_line_219 ?_
  refine m_iast X hS (Or.inr nq205) hA205 (by unfold vp_in; decide) d_Press_line_220 (fun H locs hp hcg hS => ?_)
  have hA6 := hA6.off hcg (by omega)
  have hA205 := i5_1 hp
  have hP := hP.off hcg (by omega)
  have hx := hx.off hcg (by omega)
  refine lv_dup X.x X.b d_Press_line_221 rfl ?_
  refine lv_iconst (v := 2) X.x X.b d_Press_line_222 (by decide) ?_
  refine lv_aload_n X.x X.b d_Press_line_223 rfl (lv_at hl 5 rfl) ?_
  refine lv_iconst (v := 3) X.x X.b d_Press_line_224 (by decide) ?_
  refine m_callVX X hS hx (N_Press_draw (n := 3) l g hL hP (by omega) (by omega) (by omega)) v_Press_57 hP rfl rfl rfl (Nat.le_of_ble_eq_true rfl) hl.1 d_Press_line_225 (by omega) (by decide) ⟨by omega, by omega⟩ (fun q z => z.elim (fun z => Or.inl z) (fun z => Or.inr (Nat.le_trans hS.1 z))) (fun w H locs hq hfr hS => ?_)
  have hA6 := hA6.fr hfr (fun z => by have z : q6 = P := z; omega)
  have hA205 := hA205.fr hfr (fun z => by have z : q205 = P := z; omega)
  have hx := hx.fr (g := g) hfr (fun z => by have z : b = P := z; omega)
  clear hP
  obtain ⟨x2, hx2, rfl, hP⟩ := hq
  refine lv_iconst (v := 1) X.x X.b d_Press_line_228 (by decide) ?_
  refine lv_isub X.x X.b d_Press_line_229 ?_
  refine lv_iconst (v := 1) X.x X.b d_Press_line_230 (by decide) ?_
  refine lv_icmp_ge (tgt := 238) X.x X.b d_Press_line_231 (by decide) (fun c3 => ?_) (fun c3 => ?_)
  · skip
    have c3q := Int32.not_lt.mpr c3
    refine lv_iconst (v := 5) X.x X.b d_Press_line_238 (by decide) ?_
    refine m_iast X hS (Or.inr nq205) hA205 (by unfold vp_in; decide) d_Press_line_239 (fun H locs hp hcg hS => ?_)
    have hA6 := hA6.off hcg (by omega)
    have hA205 := i5_2 hp
    have hP := hP.off hcg (by omega)
    have hx := hx.off hcg (by omega)
    refine lv_dup X.x X.b d_Press_line_240 rfl ?_
    refine lv_iconst (v := 3) X.x X.b d_Press_line_241 (by decide) ?_
    refine lv_iload_n X.x X.b d_Press_line_242 rfl (lv_at hl 3 rfl) ?_
    refine m_iast X hS (Or.inr nq205) hA205 (by unfold vp_in; decide) d_Press_line_243 (fun H locs hp hcg hS => ?_)
    have hA6 := hA6.off hcg (by omega)
    have hA205 := i5_3 hp
    have hP := hP.off hcg (by omega)
    have hx := hx.off hcg (by omega)
    refine lv_dup X.x X.b d_Press_line_244 rfl ?_
    refine lv_iconst (v := 4) X.x X.b d_Press_line_245 (by decide) ?_
    refine lv_iload_n X.x X.b d_Press_line_246 rfl (lv_at hl 4 rfl) ?_
    refine m_iast X hS (Or.inr nq205) hA205 (by unfold vp_in; decide) d_Press_line_247 (fun H locs hp hcg hS => ?_)
    have hA6 := hA6.off hcg (by omega)
    have hA205 := i5_4 hp
    have hP := hP.off hcg (by omega)
    have hx := hx.off hcg (by omega)
    refine lv_astore (lv' := [(8, .ref q205), (6, .ref q6), (5, .int any), (4, .int (nI nam)), (3, .int num), (2, .int v), (0, .ref P), (1, .int (nI r))]) X.x X.b d_Press_line_248 hl (by decide) rfl (fun ls hl => ?_)
    refine lv_aload X.x X.b d_Press_line_250 (lv_at hl 0 rfl) ?_
    exact m_aretX X hS (by omega) (by omega) d_Press_line_252 ⟨_, _, _, _, _, _, _, rfl, nq205, by omega, by omega, hP, hA205, (ln_set ((by decide : ∀ z : Nat, z < 2 → 0 ≤ 5 + (nI z) ∧ 5 + (nI z) < 8) x1 hx1) (by decide) hnum), hv⟩
  · skip
    have c3q := Int32.not_le.mp c3
    refine lv_iconst (v := -1) X.x X.b d_Press_line_234 (by decide) ?_
    refine lv_goto (tgt := 239) X.x X.b d_Press_line_235 (by decide) ?_
    refine m_iast X hS (Or.inr nq205) hA205 (by unfold vp_in; decide) d_Press_line_239 (fun H locs hp hcg hS => ?_)
    have hA6 := hA6.off hcg (by omega)
    have hA205 := i5_2 hp
    have hP := hP.off hcg (by omega)
    have hx := hx.off hcg (by omega)
    refine lv_dup X.x X.b d_Press_line_240 rfl ?_
    refine lv_iconst (v := 3) X.x X.b d_Press_line_241 (by decide) ?_
    refine lv_iload_n X.x X.b d_Press_line_242 rfl (lv_at hl 3 rfl) ?_
    refine m_iast X hS (Or.inr nq205) hA205 (by unfold vp_in; decide) d_Press_line_243 (fun H locs hp hcg hS => ?_)
    have hA6 := hA6.off hcg (by omega)
    have hA205 := i5_3 hp
    have hP := hP.off hcg (by omega)
    have hx := hx.off hcg (by omega)
    refine lv_dup X.x X.b d_Press_line_244 rfl ?_
    refine lv_iconst (v := 4) X.x X.b d_Press_line_245 (by decide) ?_
    refine lv_iload_n X.x X.b d_Press_line_246 rfl (lv_at hl 4 rfl) ?_
    refine m_iast X hS (Or.inr nq205) hA205 (by unfold vp_in; decide) d_Press_line_247 (fun H locs hp hcg hS => ?_)
    have hA6 := hA6.off hcg (by omega)
    have hA205 := i5_4 hp
    have hP := hP.off hcg (by omega)
    have hx := hx.off hcg (by omega)
    refine lv_astore (lv' := [(8, .ref q205), (6, .ref q6), (5, .int any), (4, .int (nI nam)), (3, .int num), (2, .int v), (0, .ref P), (1, .int (nI r))]) X.x X.b d_Press_line_248 hl (by decide) rfl (fun ls hl => ?_)
    refine lv_aload X.x X.b d_Press_line_250 (lv_at hl 0 rfl) ?_
    exact m_aretX X hS (by omega) (by omega) d_Press_line_252 ⟨_, _, _, _, _, _, _, rfl, nq205, by omega, by omega, hP, hA205, (ln_set ((by decide : ∀ z : Nat, z < 2 → 0 ≤ 5 + (nI z) ∧ 5 + (nI z) < 8) x1 hx1) (by decide) hnum), hv⟩
set_option maxRecDepth 100000 in
set_option maxHeartbeats 4000000 in
theorem ln_253 {g : GG} {p : Program} {l : Launch} {e : Env} {s : State} {m : MethodId} {below : List Frame} {meth : Method} {cd : Code} {H0 H : Heap} {locs : List Loc} {cells slots : Nat} {nm : String} {ls : Array Slot} {b L P B RA d0 d r : Nat} {xs : Nat → Int32} {V : Value × Value × Value} (X : CX g p s m ([.ref P, .int (nI r)] : List Value).toArray meth cd c_Press_line 11 (some (.array .int)) R_Press nm) (hL : L ≤ 260) (hr : r < 5) (hbP : b < P) (hx : va_X b L xs s H) (hS : va_S (AA (eqA P) H0) H0 H locs) (hP : prAt g P B b RA V d H) (hd3 : d0 < 2900) {q6 nam : Nat} {any num v : Int32} (hA6 : i5 g q6 2 (-1) (-1) num v H) (nq6 : H0.size ≤ q6) (bq6 : b < q6) (pq6 : P < q6) (hany : -1 ≤ any ∧ any ≤ 11) (hnum : -99 ≤ num ∧ num ≤ 99) (hnam : nam < 4) (hv : v = 0 ∨ v = 1) (hd : d0 ≤ d ∧ d ≤ d0 + 7) (hcs : cells ≤ 1 ∧ slots ≤ 5) (hl : lv_has ls 11 [(6, .ref q6), (5, .int any), (4, .int (nI nam)), (3, .int num), (2, .int v), (0, .ref P), (1, .int (nI r))]) : W p l e (rmK 4 2 10) s m ([.ref P, .int (nI r)] : List Value).toArray below meth cd H locs cells slots (MQ below (QX (lnPv g P B b RA V d0 H0.size) (eqA P) H0) ([.ref P, .int (nI r)] : List Value).toArray s 2 10 (AA (eqA P) H0)) (F0 m 253 ls []) := by
  refine lv_aload X.x X.b d_Press_line_253 (lv_at hl 0 rfl) ?_
  refine lv_iconst (v := 0) X.x X.b d_Press_line_255 (by decide) ?_
  refine lv_iconst (v := 3) X.x X.b d_Press_line_256 (by decide) ?_
  refine lv_aload_n X.x X.b d_Press_line_257 rfl (lv_at hl 5 rfl) ?_
  refine lv_iconst (v := 2) X.x X.b d_Press_line_258 (by decide) ?_
  refine m_callVX X hS hx (N_Press_draw (n := 2) l g hL hP (by omega) (by omega) (by omega)) v_Press_57 hP rfl rfl rfl (Nat.le_of_ble_eq_true rfl) hl.1 d_Press_line_259 (by omega) (by decide) ⟨by omega, by omega⟩ (fun q z => z.elim (fun z => Or.inl z) (fun z => Or.inr (Nat.le_trans hS.1 z))) (fun w H locs hq hfr hS => ?_)
  have hA6 := hA6.fr hfr (fun z => by have z : q6 = P := z; omega)
  have hx := hx.fr (g := g) hfr (fun z => by have z : b = P := z; omega)
  clear hP
  obtain ⟨x1, hx1, rfl, hP⟩ := hq
  refine lv_iadd X.x X.b d_Press_line_262 ?_
  refine m_iast X hS (Or.inr nq6) hA6 (by unfold vp_in; decide) d_Press_line_263 (fun H locs hp hcg hS => ?_)
  have hA6 := i5_0 hp
  have hP := hP.off hcg (by omega)
  have hx := hx.off hcg (by omega)
  refine lv_aload X.x X.b d_Press_line_264 (lv_at hl 0 rfl) ?_
  refine lv_iconst (v := 1) X.x X.b d_Press_line_266 (by decide) ?_
  refine lv_iload X.x X.b d_Press_line_267 (lv_at hl 1 rfl) ?_
  refine m_iast X hS (Or.inr nq6) hA6 (by unfold vp_in; decide) d_Press_line_269 (fun H locs hp hcg hS => ?_)
  have hA6 := i5_1 hp
  have hP := hP.off hcg (by omega)
  have hx := hx.off hcg (by omega)
  refine lv_aload X.x X.b d_Press_line_270 (lv_at hl 0 rfl) ?_
  refine lv_iconst (v := 3) X.x X.b d_Press_line_272 (by decide) ?_
  refine lv_aload_n X.x X.b d_Press_line_273 rfl (lv_at hl 5 rfl) ?_
  refine lv_iconst (v := 3) X.x X.b d_Press_line_274 (by decide) ?_
  refine m_callVX X hS hx (N_Press_draw (n := 3) l g hL hP (by omega) (by omega) (by omega)) v_Press_57 hP rfl rfl rfl (Nat.le_of_ble_eq_true rfl) hl.1 d_Press_line_275 (by omega) (by decide) ⟨by omega, by omega⟩ (fun q z => z.elim (fun z => Or.inl z) (fun z => Or.inr (Nat.le_trans hS.1 z))) (fun w H locs hq hfr hS => ?_)
  have hA6 := hA6.fr hfr (fun z => by have z : q6 = P := z; omega)
  have hx := hx.fr (g := g) hfr (fun z => by have z : b = P := z; omega)
  clear hP
  obtain ⟨x2, hx2, rfl, hP⟩ := hq
  refine lv_if_ne (tgt := 285) X.x X.b d_Press_line_278 (by decide) (fun c3 => ?_) (fun c3 => ?_)
  · skip
    refine lv_iconst (v := 0) X.x X.b d_Press_line_285 (by decide) ?_
    refine m_iast X hS (Or.inr nq6) hA6 (by unfold vp_in; decide) d_Press_line_286 (fun H locs hp hcg hS => ?_)
    have hA6 := i5_3 hp
    have hP := hP.off hcg (by omega)
    have hx := hx.off hcg (by omega)
    refine lv_aload X.x X.b d_Press_line_287 (lv_at hl 0 rfl) ?_
    exact m_aretX X hS (by omega) (by omega) d_Press_line_289 ⟨_, _, _, _, _, _, _, rfl, nq6, by omega, by omega, hP, hA6, (ln_br hx1 hany (by decide)), hv⟩
  · skip
    refine lv_iload_n X.x X.b d_Press_line_281 rfl (lv_at hl 3 rfl) ?_
    refine lv_goto (tgt := 286) X.x X.b d_Press_line_282 (by decide) ?_
    refine m_iast X hS (Or.inr nq6) hA6 (by unfold vp_in; decide) d_Press_line_286 (fun H locs hp hcg hS => ?_)
    have hA6 := i5_3 hp
    have hP := hP.off hcg (by omega)
    have hx := hx.off hcg (by omega)
    refine lv_aload X.x X.b d_Press_line_287 (lv_at hl 0 rfl) ?_
    exact m_aretX X hS (by omega) (by omega) d_Press_line_289 ⟨_, _, _, _, _, _, _, rfl, nq6, by omega, by omega, hP, hA6, (ln_br hx1 hany hnum), hv⟩
set_option maxRecDepth 100000 in
set_option maxHeartbeats 4000000 in
theorem ln_290 {g : GG} {p : Program} {l : Launch} {e : Env} {s : State} {m : MethodId} {below : List Frame} {meth : Method} {cd : Code} {H0 H : Heap} {locs : List Loc} {cells slots : Nat} {nm : String} {ls : Array Slot} {b L P B RA d0 d r : Nat} {xs : Nat → Int32} {V : Value × Value × Value} (X : CX g p s m ([.ref P, .int (nI r)] : List Value).toArray meth cd c_Press_line 11 (some (.array .int)) R_Press nm) (hL : L ≤ 260) (hr : r < 5) (hbP : b < P) (hx : va_X b L xs s H) (hS : va_S (AA (eqA P) H0) H0 H locs) (hP : prAt g P B b RA V d H) (hd3 : d0 < 2900) {q6 nam : Nat} {any num v : Int32} (hA6 : i5 g q6 2 (-1) (-1) num v H) (nq6 : H0.size ≤ q6) (bq6 : b < q6) (pq6 : P < q6) (hany : -1 ≤ any ∧ any ≤ 11) (hnum : -99 ≤ num ∧ num ≤ 99) (hnam : nam < 4) (hv : v = 0 ∨ v = 1) (hd : d0 ≤ d ∧ d ≤ d0 + 7) (hcs : cells ≤ 1 ∧ slots ≤ 5) (hl : lv_has ls 11 [(6, .ref q6), (5, .int any), (4, .int (nI nam)), (3, .int num), (2, .int v), (0, .ref P), (1, .int (nI r))]) : W p l e (rmK 4 2 10) s m ([.ref P, .int (nI r)] : List Value).toArray below meth cd H locs cells slots (MQ below (QX (lnPv g P B b RA V d0 H0.size) (eqA P) H0) ([.ref P, .int (nI r)] : List Value).toArray s 2 10 (AA (eqA P) H0)) (F0 m 290 ls []) := by
  refine lv_aload X.x X.b d_Press_line_290 (lv_at hl 0 rfl) ?_
  refine lv_iconst (v := 0) X.x X.b d_Press_line_292 (by decide) ?_
  refine lv_iconst (v := 5) X.x X.b d_Press_line_293 (by decide) ?_
  refine m_iast X hS (Or.inr nq6) hA6 (by unfold vp_in; decide) d_Press_line_294 (fun H locs hp hcg hS => ?_)
  have hA6 := i5_0 hp
  have hP := hP.off hcg (by omega)
  have hx := hx.off hcg (by omega)
  refine lv_aload X.x X.b d_Press_line_295 (lv_at hl 0 rfl) ?_
  refine lv_iconst (v := 3) X.x X.b d_Press_line_297 (by decide) ?_
  refine lv_aload_n X.x X.b d_Press_line_298 rfl (lv_at hl 5 rfl) ?_
  refine lv_iconst (v := 4) X.x X.b d_Press_line_299 (by decide) ?_
  refine m_callVX X hS hx (N_Press_draw (n := 4) l g hL hP (by omega) (by omega) (by omega)) v_Press_57 hP rfl rfl rfl (Nat.le_of_ble_eq_true rfl) hl.1 d_Press_line_300 (by omega) (by decide) ⟨by omega, by omega⟩ (fun q z => z.elim (fun z => Or.inl z) (fun z => Or.inr (Nat.le_trans hS.1 z))) (fun w H locs hq hfr hS => ?_)
  have hA6 := hA6.fr hfr (fun z => by have z : q6 = P := z; omega)
  have hx := hx.fr (g := g) hfr (fun z => by have z : b = P := z; omega)
  clear hP
  obtain ⟨x1, hx1, rfl, hP⟩ := hq
  refine m_iast X hS (Or.inr nq6) hA6 (by unfold vp_in; decide) d_Press_line_303 (fun H locs hp hcg hS => ?_)
  have hA6 := i5_3 hp
  have hP := hP.off hcg (by omega)
  have hx := hx.off hcg (by omega)
  refine lv_aload X.x X.b d_Press_line_304 (lv_at hl 0 rfl) ?_
  exact m_aretX X hS (by omega) (by omega) d_Press_line_306 ⟨_, _, _, _, _, _, _, rfl, nq6, by omega, by omega, hP, hA6, (ln_load ((by decide : ∀ z : Nat, z < 4 → -99 ≤ nI z ∧ nI z ≤ 99) x1 hx1)), hv⟩
set_option maxRecDepth 100000 in
set_option maxHeartbeats 4000000 in
theorem ln_307 {g : GG} {p : Program} {l : Launch} {e : Env} {s : State} {m : MethodId} {below : List Frame} {meth : Method} {cd : Code} {H0 H : Heap} {locs : List Loc} {cells slots : Nat} {nm : String} {ls : Array Slot} {b L P B RA d0 d r : Nat} {xs : Nat → Int32} {V : Value × Value × Value} (X : CX g p s m ([.ref P, .int (nI r)] : List Value).toArray meth cd c_Press_line 11 (some (.array .int)) R_Press nm) (hL : L ≤ 260) (hr : r < 5) (hbP : b < P) (hx : va_X b L xs s H) (hS : va_S (AA (eqA P) H0) H0 H locs) (hP : prAt g P B b RA V d H) (hd3 : d0 < 2900) {q6 nam : Nat} {any num v : Int32} (hA6 : i5 g q6 2 (-1) (-1) num v H) (nq6 : H0.size ≤ q6) (bq6 : b < q6) (pq6 : P < q6) (hany : -1 ≤ any ∧ any ≤ 11) (hnum : -99 ≤ num ∧ num ≤ 99) (hnam : nam < 4) (hv : v = 0 ∨ v = 1) (hd : d0 ≤ d ∧ d ≤ d0 + 7) (hcs : cells ≤ 1 ∧ slots ≤ 5) (hl : lv_has ls 11 [(6, .ref q6), (5, .int any), (4, .int (nI nam)), (3, .int num), (2, .int v), (0, .ref P), (1, .int (nI r))]) : W p l e (rmK 4 2 10) s m ([.ref P, .int (nI r)] : List Value).toArray below meth cd H locs cells slots (MQ below (QX (lnPv g P B b RA V d0 H0.size) (eqA P) H0) ([.ref P, .int (nI r)] : List Value).toArray s 2 10 (AA (eqA P) H0)) (F0 m 307 ls []) := by
  refine lv_iconst (v := 5) X.x X.b d_Press_line_307 (by decide) ?_
  obtain ⟨q308, zq308⟩ : ∃ z : Nat, H.size = z := ⟨_, rfl⟩
  have nq308 : H0.size ≤ q308 := by have := hS.1; omega
  have bq308 : b < q308 := by have := hx.lt; omega
  have pq308 : P < q308 := by have := hP.lt; omega
  have lq308 : q6 < q308 := by have := hA6.lt; omega
  refine m_newI X hS zq308 5 (by decide) (by decide) (by decide) (by omega) (by omega) d_Press_line_308 (fun H hn hgr hS hz2 => ?_)
  have hA308 := i5_n hn
  have hP := hP.grow hgr
  have hx := hx.grow hgr
  have hA6 := hA6.grow hgr
  clear hn hgr hz2
  refine lv_dup X.x X.b d_Press_line_310 rfl ?_
  refine lv_iconst (v := 0) X.x X.b d_Press_line_311 (by decide) ?_
  refine lv_aload_n X.x X.b d_Press_line_312 rfl (lv_at hl 5 rfl) ?_
  refine lv_iconst (v := 3) X.x X.b d_Press_line_313 (by decide) ?_
  refine m_callVX X hS hx (N_Press_draw (n := 3) l g hL hP (by omega) (by omega) (by omega)) v_Press_57 hP rfl rfl rfl (Nat.le_of_ble_eq_true rfl) hl.1 d_Press_line_314 (by omega) (by decide) ⟨by omega, by omega⟩ (fun q z => z.elim (fun z => Or.inl z) (fun z => Or.inr (Nat.le_trans hS.1 z))) (fun w H locs hq hfr hS => ?_)
  have hA6 := hA6.fr hfr (fun z => by have z : q6 = P := z; omega)
  have hA308 := hA308.fr hfr (fun z => by have z : q308 = P := z; omega)
  have hx := hx.fr (g := g) hfr (fun z => by have z : b = P := z; omega)
  clear hP
  obtain ⟨x1, hx1, rfl, hP⟩ := hq
  refine lv_if_ne (tgt := 325) X.x X.b d_Press_line_317 (by decide) (fun c2 => ?_) (fun c2 => ?_)
  · skip
    refine lv_bipush (v := 6) X.x X.b d_Press_line_325 (by decide) ?_
    refine m_iast X hS (Or.inr nq308) hA308 (by unfold vp_in; decide) d_Press_line_327 (fun H locs hp hcg hS => ?_)
    have hA6 := hA6.off hcg (by omega)
    have hA308 := i5_0 hp
    have hP := hP.off hcg (by omega)
    have hx := hx.off hcg (by omega)
    refine lv_dup X.x X.b d_Press_line_328 rfl ?_
    refine lv_iconst (v := 1) X.x X.b d_Press_line_329 (by decide) ?_
    refine lv_iconst (v := -1) X.x X.b d_Press_line_330 (by decide) ?_
    refine m_iast X hS (Or.inr nq308) hA308 (by unfold vp_in; decide) d_Press_line_331 (fun H locs hp hcg hS => ?_)
    have hA6 := hA6.off hcg (by omega)
    have hA308 := i5_1 hp
    have hP := hP.off hcg (by omega)
    have hx := hx.off hcg (by omega)
    refine lv_dup X.x X.b d_Press_line_332 rfl ?_
    refine lv_iconst (v := 2) X.x X.b d_Press_line_333 (by decide) ?_
    refine lv_iconst (v := -1) X.x X.b d_Press_line_334 (by decide) ?_
    refine m_iast X hS (Or.inr nq308) hA308 (by unfold vp_in; decide) d_Press_line_335 (fun H locs hp hcg hS => ?_)
    have hA6 := hA6.off hcg (by omega)
    have hA308 := i5_2 hp
    have hP := hP.off hcg (by omega)
    have hx := hx.off hcg (by omega)
    refine lv_dup X.x X.b d_Press_line_336 rfl ?_
    refine lv_iconst (v := 3) X.x X.b d_Press_line_337 (by decide) ?_
    refine lv_iconst (v := 0) X.x X.b d_Press_line_338 (by decide) ?_
    refine m_iast X hS (Or.inr nq308) hA308 (by unfold vp_in; decide) d_Press_line_339 (fun H locs hp hcg hS => ?_)
    have hA6 := hA6.off hcg (by omega)
    have hA308 := i5_3 hp
    have hP := hP.off hcg (by omega)
    have hx := hx.off hcg (by omega)
    refine lv_dup X.x X.b d_Press_line_340 rfl ?_
    refine lv_iconst (v := 4) X.x X.b d_Press_line_341 (by decide) ?_
    refine lv_iconst (v := 0) X.x X.b d_Press_line_342 (by decide) ?_
    refine m_iast X hS (Or.inr nq308) hA308 (by unfold vp_in; decide) d_Press_line_343 (fun H locs hp hcg hS => ?_)
    have hA6 := hA6.off hcg (by omega)
    have hA308 := i5_4 hp
    have hP := hP.off hcg (by omega)
    have hx := hx.off hcg (by omega)
    refine lv_astore (lv' := [(9, .ref q308), (6, .ref q6), (5, .int any), (4, .int (nI nam)), (3, .int num), (2, .int v), (0, .ref P), (1, .int (nI r))]) X.x X.b d_Press_line_344 hl (by decide) rfl (fun ls hl => ?_)
    refine lv_aload X.x X.b d_Press_line_346 (lv_at hl 0 rfl) ?_
    exact m_aretX X hS (by omega) (by omega) d_Press_line_348 ⟨_, _, _, _, _, _, _, rfl, nq308, by omega, by omega, hP, hA308, ln_pool, (Or.inl rfl)⟩
  · skip
    refine lv_bipush (v := 9) X.x X.b d_Press_line_320 (by decide) ?_
    refine lv_goto (tgt := 327) X.x X.b d_Press_line_322 (by decide) ?_
    refine m_iast X hS (Or.inr nq308) hA308 (by unfold vp_in; decide) d_Press_line_327 (fun H locs hp hcg hS => ?_)
    have hA6 := hA6.off hcg (by omega)
    have hA308 := i5_0 hp
    have hP := hP.off hcg (by omega)
    have hx := hx.off hcg (by omega)
    refine lv_dup X.x X.b d_Press_line_328 rfl ?_
    refine lv_iconst (v := 1) X.x X.b d_Press_line_329 (by decide) ?_
    refine lv_iconst (v := -1) X.x X.b d_Press_line_330 (by decide) ?_
    refine m_iast X hS (Or.inr nq308) hA308 (by unfold vp_in; decide) d_Press_line_331 (fun H locs hp hcg hS => ?_)
    have hA6 := hA6.off hcg (by omega)
    have hA308 := i5_1 hp
    have hP := hP.off hcg (by omega)
    have hx := hx.off hcg (by omega)
    refine lv_dup X.x X.b d_Press_line_332 rfl ?_
    refine lv_iconst (v := 2) X.x X.b d_Press_line_333 (by decide) ?_
    refine lv_iconst (v := -1) X.x X.b d_Press_line_334 (by decide) ?_
    refine m_iast X hS (Or.inr nq308) hA308 (by unfold vp_in; decide) d_Press_line_335 (fun H locs hp hcg hS => ?_)
    have hA6 := hA6.off hcg (by omega)
    have hA308 := i5_2 hp
    have hP := hP.off hcg (by omega)
    have hx := hx.off hcg (by omega)
    refine lv_dup X.x X.b d_Press_line_336 rfl ?_
    refine lv_iconst (v := 3) X.x X.b d_Press_line_337 (by decide) ?_
    refine lv_iconst (v := 0) X.x X.b d_Press_line_338 (by decide) ?_
    refine m_iast X hS (Or.inr nq308) hA308 (by unfold vp_in; decide) d_Press_line_339 (fun H locs hp hcg hS => ?_)
    have hA6 := hA6.off hcg (by omega)
    have hA308 := i5_3 hp
    have hP := hP.off hcg (by omega)
    have hx := hx.off hcg (by omega)
    refine lv_dup X.x X.b d_Press_line_340 rfl ?_
    refine lv_iconst (v := 4) X.x X.b d_Press_line_341 (by decide) ?_
    refine lv_iconst (v := 0) X.x X.b d_Press_line_342 (by decide) ?_
    refine m_iast X hS (Or.inr nq308) hA308 (by unfold vp_in; decide) d_Press_line_343 (fun H locs hp hcg hS => ?_)
    have hA6 := hA6.off hcg (by omega)
    have hA308 := i5_4 hp
    have hP := hP.off hcg (by omega)
    have hx := hx.off hcg (by omega)
    refine lv_astore (lv' := [(9, .ref q308), (6, .ref q6), (5, .int any), (4, .int (nI nam)), (3, .int num), (2, .int v), (0, .ref P), (1, .int (nI r))]) X.x X.b d_Press_line_344 hl (by decide) rfl (fun ls hl => ?_)
    refine lv_aload X.x X.b d_Press_line_346 (lv_at hl 0 rfl) ?_
    exact m_aretX X hS (by omega) (by omega) d_Press_line_348 ⟨_, _, _, _, _, _, _, rfl, nq308, by omega, by omega, hP, hA308, ln_end, (Or.inl rfl)⟩
set_option maxRecDepth 100000 in
set_option maxHeartbeats 4000000 in
theorem ln_349 {g : GG} {p : Program} {l : Launch} {e : Env} {s : State} {m : MethodId} {below : List Frame} {meth : Method} {cd : Code} {H0 H : Heap} {locs : List Loc} {cells slots : Nat} {nm : String} {ls : Array Slot} {b L P B RA d0 d r : Nat} {xs : Nat → Int32} {V : Value × Value × Value} (X : CX g p s m ([.ref P, .int (nI r)] : List Value).toArray meth cd c_Press_line 11 (some (.array .int)) R_Press nm) (hL : L ≤ 260) (hr : r < 5) (hbP : b < P) (hx : va_X b L xs s H) (hS : va_S (AA (eqA P) H0) H0 H locs) (hP : prAt g P B b RA V d H) (hd3 : d0 < 2900) {q6 nam : Nat} {any num v : Int32} (hA6 : i5 g q6 2 (-1) (-1) num v H) (nq6 : H0.size ≤ q6) (bq6 : b < q6) (pq6 : P < q6) (hany : -1 ≤ any ∧ any ≤ 11) (hnum : -99 ≤ num ∧ num ≤ 99) (hnam : nam < 4) (hv : v = 0 ∨ v = 1) (hd : d0 ≤ d ∧ d ≤ d0 + 7) (hcs : cells ≤ 1 ∧ slots ≤ 5) (hl : lv_has ls 11 [(6, .ref q6), (5, .int any), (4, .int (nI nam)), (3, .int num), (2, .int v), (0, .ref P), (1, .int (nI r))]) : W p l e (rmK 4 2 10) s m ([.ref P, .int (nI r)] : List Value).toArray below meth cd H locs cells slots (MQ below (QX (lnPv g P B b RA V d0 H0.size) (eqA P) H0) ([.ref P, .int (nI r)] : List Value).toArray s 2 10 (AA (eqA P) H0)) (F0 m 349 ls []) := by
  refine lv_iconst (v := 5) X.x X.b d_Press_line_349 (by decide) ?_
  obtain ⟨q350, zq350⟩ : ∃ z : Nat, H.size = z := ⟨_, rfl⟩
  have nq350 : H0.size ≤ q350 := by have := hS.1; omega
  have bq350 : b < q350 := by have := hx.lt; omega
  have pq350 : P < q350 := by have := hP.lt; omega
  have lq350 : q6 < q350 := by have := hA6.lt; omega
  refine m_newI X hS zq350 5 (by decide) (by decide) (by decide) (by omega) (by omega) d_Press_line_350 (fun H hn hgr hS hz2 => ?_)
  have hA350 := i5_n hn
  have hP := hP.grow hgr
  have hx := hx.grow hgr
  have hA6 := hA6.grow hgr
  clear hn hgr hz2
  refine lv_dup X.x X.b d_Press_line_352 rfl ?_
  refine lv_iconst (v := 0) X.x X.b d_Press_line_353 (by decide) ?_
  refine lv_bipush (v := 7) X.x X.b d_Press_line_354 (by decide) ?_
  refine m_iast X hS (Or.inr nq350) hA350 (by unfold vp_in; decide) d_Press_line_356 (fun H locs hp hcg hS => ?_)
  have hA6 := hA6.off hcg (by omega)
  have hA350 := i5_0 hp
  have hP := hP.off hcg (by omega)
  have hx := hx.off hcg (by omega)
  refine lv_dup X.x X.b d_Press_line_357 rfl ?_
  refine lv_iconst (v := 1) X.x X.b d_Press_line_358 (by decide) ?_
  refine lv_iconst (v := -1) X.x X.b d_Press_line_359 (by decide) ?_
  refine m_iast X hS (Or.inr nq350) hA350 (by unfold vp_in; decide) d_Press_line_360 (fun H locs hp hcg hS => ?_)
  have hA6 := hA6.off hcg (by omega)
  have hA350 := i5_1 hp
  have hP := hP.off hcg (by omega)
  have hx := hx.off hcg (by omega)
  refine lv_dup X.x X.b d_Press_line_361 rfl ?_
  refine lv_iconst (v := 2) X.x X.b d_Press_line_362 (by decide) ?_
  refine lv_iconst (v := -1) X.x X.b d_Press_line_363 (by decide) ?_
  refine m_iast X hS (Or.inr nq350) hA350 (by unfold vp_in; decide) d_Press_line_364 (fun H locs hp hcg hS => ?_)
  have hA6 := hA6.off hcg (by omega)
  have hA350 := i5_2 hp
  have hP := hP.off hcg (by omega)
  have hx := hx.off hcg (by omega)
  refine lv_dup X.x X.b d_Press_line_365 rfl ?_
  refine lv_iconst (v := 3) X.x X.b d_Press_line_366 (by decide) ?_
  refine lv_iconst (v := 2) X.x X.b d_Press_line_367 (by decide) ?_
  refine lv_aload_n X.x X.b d_Press_line_368 rfl (lv_at hl 5 rfl) ?_
  refine lv_iconst (v := 3) X.x X.b d_Press_line_369 (by decide) ?_
  refine m_callVX X hS hx (N_Press_draw (n := 3) l g hL hP (by omega) (by omega) (by omega)) v_Press_57 hP rfl rfl rfl (Nat.le_of_ble_eq_true rfl) hl.1 d_Press_line_370 (by omega) (by decide) ⟨by omega, by omega⟩ (fun q z => z.elim (fun z => Or.inl z) (fun z => Or.inr (Nat.le_trans hS.1 z))) (fun w H locs hq hfr hS => ?_)
  have hA6 := hA6.fr hfr (fun z => by have z : q6 = P := z; omega)
  have hA350 := hA350.fr hfr (fun z => by have z : q350 = P := z; omega)
  have hx := hx.fr (g := g) hfr (fun z => by have z : b = P := z; omega)
  clear hP
  obtain ⟨x1, hx1, rfl, hP⟩ := hq
  refine lv_ishl X.x X.b d_Press_line_373 ?_
  refine m_iast X hS (Or.inr nq350) hA350 (by unfold vp_in; decide) d_Press_line_374 (fun H locs hp hcg hS => ?_)
  have hA6 := hA6.off hcg (by omega)
  have hA350 := i5_3 hp
  have hP := hP.off hcg (by omega)
  have hx := hx.off hcg (by omega)
  refine lv_dup X.x X.b d_Press_line_375 rfl ?_
  refine lv_iconst (v := 4) X.x X.b d_Press_line_376 (by decide) ?_
  refine lv_iconst (v := 0) X.x X.b d_Press_line_377 (by decide) ?_
  refine m_iast X hS (Or.inr nq350) hA350 (by unfold vp_in; decide) d_Press_line_378 (fun H locs hp hcg hS => ?_)
  have hA6 := hA6.off hcg (by omega)
  have hA350 := i5_4 hp
  have hP := hP.off hcg (by omega)
  have hx := hx.off hcg (by omega)
  refine lv_astore (lv' := [(10, .ref q350), (6, .ref q6), (5, .int any), (4, .int (nI nam)), (3, .int num), (2, .int v), (0, .ref P), (1, .int (nI r))]) X.x X.b d_Press_line_379 hl (by decide) rfl (fun ls hl => ?_)
  refine lv_aload X.x X.b d_Press_line_381 (lv_at hl 0 rfl) ?_
  exact m_aretX X hS (by omega) (by omega) d_Press_line_383 ⟨_, _, _, _, _, _, _, rfl, nq350, by omega, by omega, hP, hA350, (ln_align ((by decide : ∀ z : Nat, z < 3 → 2 <<< ((nI z) &&& 31) = 2 ∨ 2 <<< ((nI z) &&& 31) = 4 ∨ 2 <<< ((nI z) &&& 31) = 8) x1 hx1)), (Or.inl rfl)⟩
set_option maxRecDepth 100000 in
set_option maxHeartbeats 4000000 in
theorem ln_384 {g : GG} {p : Program} {l : Launch} {e : Env} {s : State} {m : MethodId} {below : List Frame} {meth : Method} {cd : Code} {H0 H : Heap} {locs : List Loc} {cells slots : Nat} {nm : String} {ls : Array Slot} {b L P B RA d0 d r : Nat} {xs : Nat → Int32} {V : Value × Value × Value} (X : CX g p s m ([.ref P, .int (nI r)] : List Value).toArray meth cd c_Press_line 11 (some (.array .int)) R_Press nm) (hL : L ≤ 260) (hr : r < 5) (hbP : b < P) (hx : va_X b L xs s H) (hS : va_S (AA (eqA P) H0) H0 H locs) (hP : prAt g P B b RA V d H) (hd3 : d0 < 2900) {q6 nam : Nat} {any num v : Int32} (hA6 : i5 g q6 2 (-1) (-1) num v H) (nq6 : H0.size ≤ q6) (bq6 : b < q6) (pq6 : P < q6) (hany : -1 ≤ any ∧ any ≤ 11) (hnum : -99 ≤ num ∧ num ≤ 99) (hnam : nam < 4) (hv : v = 0 ∨ v = 1) (hd : d0 ≤ d ∧ d ≤ d0 + 7) (hcs : cells ≤ 1 ∧ slots ≤ 5) (hl : lv_has ls 11 [(6, .ref q6), (5, .int any), (4, .int (nI nam)), (3, .int num), (2, .int v), (0, .ref P), (1, .int (nI r))]) : W p l e (rmK 4 2 10) s m ([.ref P, .int (nI r)] : List Value).toArray below meth cd H locs cells slots (MQ below (QX (lnPv g P B b RA V d0 H0.size) (eqA P) H0) ([.ref P, .int (nI r)] : List Value).toArray s 2 10 (AA (eqA P) H0)) (F0 m 384 ls []) := by
  refine lv_aload X.x X.b d_Press_line_384 (lv_at hl 0 rfl) ?_
  refine lv_iconst (v := 0) X.x X.b d_Press_line_386 (by decide) ?_
  refine lv_bipush (v := 8) X.x X.b d_Press_line_387 (by decide) ?_
  refine m_iast X hS (Or.inr nq6) hA6 (by unfold vp_in; decide) d_Press_line_389 (fun H locs hp hcg hS => ?_)
  have hA6 := i5_0 hp
  have hP := hP.off hcg (by omega)
  have hx := hx.off hcg (by omega)
  refine lv_aload X.x X.b d_Press_line_390 (lv_at hl 0 rfl) ?_
  refine lv_iconst (v := 1) X.x X.b d_Press_line_392 (by decide) ?_
  refine lv_aload_n X.x X.b d_Press_line_393 rfl (lv_at hl 5 rfl) ?_
  refine lv_iconst (v := 3) X.x X.b d_Press_line_394 (by decide) ?_
  refine m_callVX X hS hx (N_Press_draw (n := 3) l g hL hP (by omega) (by omega) (by omega)) v_Press_57 hP rfl rfl rfl (Nat.le_of_ble_eq_true rfl) hl.1 d_Press_line_395 (by omega) (by decide) ⟨by omega, by omega⟩ (fun q z => z.elim (fun z => Or.inl z) (fun z => Or.inr (Nat.le_trans hS.1 z))) (fun w H locs hq hfr hS => ?_)
  have hA6 := hA6.fr hfr (fun z => by have z : q6 = P := z; omega)
  have hx := hx.fr (g := g) hfr (fun z => by have z : b = P := z; omega)
  clear hP
  obtain ⟨x1, hx1, rfl, hP⟩ := hq
  refine lv_if_ne (tgt := 405) X.x X.b d_Press_line_398 (by decide) (fun c2 => ?_) (fun c2 => ?_)
  · skip
    refine lv_iconst (v := -1) X.x X.b d_Press_line_405 (by decide) ?_
    refine m_iast X hS (Or.inr nq6) hA6 (by unfold vp_in; decide) d_Press_line_406 (fun H locs hp hcg hS => ?_)
    have hA6 := i5_1 hp
    have hP := hP.off hcg (by omega)
    have hx := hx.off hcg (by omega)
    refine lv_aload X.x X.b d_Press_line_407 (lv_at hl 0 rfl) ?_
    refine lv_iconst (v := 3) X.x X.b d_Press_line_409 (by decide) ?_
    refine lv_aload_n X.x X.b d_Press_line_410 rfl (lv_at hl 5 rfl) ?_
    refine lv_iconst (v := 4) X.x X.b d_Press_line_411 (by decide) ?_
    refine m_callVX X hS hx (N_Press_draw (n := 4) l g hL hP (by omega) (by omega) (by omega)) v_Press_57 hP rfl rfl rfl (Nat.le_of_ble_eq_true rfl) hl.1 d_Press_line_412 (by omega) (by decide) ⟨by omega, by omega⟩ (fun q z => z.elim (fun z => Or.inl z) (fun z => Or.inr (Nat.le_trans hS.1 z))) (fun w H locs hq hfr hS => ?_)
    have hA6 := hA6.fr hfr (fun z => by have z : q6 = P := z; omega)
    have hx := hx.fr (g := g) hfr (fun z => by have z : b = P := z; omega)
    clear hP
    obtain ⟨x3, hx3, rfl, hP⟩ := hq
    refine lv_iconst (v := 1) X.x X.b d_Press_line_415 (by decide) ?_
    refine lv_isub X.x X.b d_Press_line_416 ?_
    refine m_iast X hS (Or.inr nq6) hA6 (by unfold vp_in; decide) d_Press_line_417 (fun H locs hp hcg hS => ?_)
    have hA6 := i5_3 hp
    have hP := hP.off hcg (by omega)
    have hx := hx.off hcg (by omega)
    refine lv_aload X.x X.b d_Press_line_418 (lv_at hl 0 rfl) ?_
    exact m_aretX X hS (by omega) (by omega) d_Press_line_420 ⟨_, _, _, _, _, _, _, rfl, nq6, by omega, by omega, hP, hA6, (ln_when (by decide) ((by decide : ∀ z : Nat, z < 4 → -99 ≤ (nI z) - 1 ∧ (nI z) - 1 ≤ 99) x3 hx3)), hv⟩
  · skip
    refine lv_iconst (v := 5) X.x X.b d_Press_line_401 (by decide) ?_
    refine lv_goto (tgt := 406) X.x X.b d_Press_line_402 (by decide) ?_
    refine m_iast X hS (Or.inr nq6) hA6 (by unfold vp_in; decide) d_Press_line_406 (fun H locs hp hcg hS => ?_)
    have hA6 := i5_1 hp
    have hP := hP.off hcg (by omega)
    have hx := hx.off hcg (by omega)
    refine lv_aload X.x X.b d_Press_line_407 (lv_at hl 0 rfl) ?_
    refine lv_iconst (v := 3) X.x X.b d_Press_line_409 (by decide) ?_
    refine lv_aload_n X.x X.b d_Press_line_410 rfl (lv_at hl 5 rfl) ?_
    refine lv_iconst (v := 4) X.x X.b d_Press_line_411 (by decide) ?_
    refine m_callVX X hS hx (N_Press_draw (n := 4) l g hL hP (by omega) (by omega) (by omega)) v_Press_57 hP rfl rfl rfl (Nat.le_of_ble_eq_true rfl) hl.1 d_Press_line_412 (by omega) (by decide) ⟨by omega, by omega⟩ (fun q z => z.elim (fun z => Or.inl z) (fun z => Or.inr (Nat.le_trans hS.1 z))) (fun w H locs hq hfr hS => ?_)
    have hA6 := hA6.fr hfr (fun z => by have z : q6 = P := z; omega)
    have hx := hx.fr (g := g) hfr (fun z => by have z : b = P := z; omega)
    clear hP
    obtain ⟨x4, hx4, rfl, hP⟩ := hq
    refine lv_iconst (v := 1) X.x X.b d_Press_line_415 (by decide) ?_
    refine lv_isub X.x X.b d_Press_line_416 ?_
    refine m_iast X hS (Or.inr nq6) hA6 (by unfold vp_in; decide) d_Press_line_417 (fun H locs hp hcg hS => ?_)
    have hA6 := i5_3 hp
    have hP := hP.off hcg (by omega)
    have hx := hx.off hcg (by omega)
    refine lv_aload X.x X.b d_Press_line_418 (lv_at hl 0 rfl) ?_
    exact m_aretX X hS (by omega) (by omega) d_Press_line_420 ⟨_, _, _, _, _, _, _, rfl, nq6, by omega, by omega, hP, hA6, (ln_when (by decide) ((by decide : ∀ z : Nat, z < 4 → -99 ≤ (nI z) - 1 ∧ (nI z) - 1 ≤ 99) x4 hx4)), hv⟩
set_option maxRecDepth 100000 in
set_option maxHeartbeats 4000000 in
theorem ln_421 {g : GG} {p : Program} {l : Launch} {e : Env} {s : State} {m : MethodId} {below : List Frame} {meth : Method} {cd : Code} {H0 H : Heap} {locs : List Loc} {cells slots : Nat} {nm : String} {ls : Array Slot} {b L P B RA d0 d r : Nat} {xs : Nat → Int32} {V : Value × Value × Value} (X : CX g p s m ([.ref P, .int (nI r)] : List Value).toArray meth cd c_Press_line 11 (some (.array .int)) R_Press nm) (hL : L ≤ 260) (hr : r < 5) (hbP : b < P) (hx : va_X b L xs s H) (hS : va_S (AA (eqA P) H0) H0 H locs) (hP : prAt g P B b RA V d H) (hd3 : d0 < 2900) {q6 nam : Nat} {any num v : Int32} (hA6 : i5 g q6 2 (-1) (-1) num v H) (nq6 : H0.size ≤ q6) (bq6 : b < q6) (pq6 : P < q6) (hany : -1 ≤ any ∧ any ≤ 11) (hnum : -99 ≤ num ∧ num ≤ 99) (hnam : nam < 4) (hv : v = 0 ∨ v = 1) (hd : d0 ≤ d ∧ d ≤ d0 + 7) (hcs : cells ≤ 1 ∧ slots ≤ 5) (hl : lv_has ls 11 [(6, .ref q6), (5, .int any), (4, .int (nI nam)), (3, .int num), (2, .int v), (0, .ref P), (1, .int (nI r))]) : W p l e (rmK 4 2 10) s m ([.ref P, .int (nI r)] : List Value).toArray below meth cd H locs cells slots (MQ below (QX (lnPv g P B b RA V d0 H0.size) (eqA P) H0) ([.ref P, .int (nI r)] : List Value).toArray s 2 10 (AA (eqA P) H0)) (F0 m 421 ls []) := by
  refine lv_aload X.x X.b d_Press_line_421 (lv_at hl 0 rfl) ?_
  refine lv_iconst (v := 0) X.x X.b d_Press_line_423 (by decide) ?_
  refine lv_bipush (v := 10) X.x X.b d_Press_line_424 (by decide) ?_
  refine m_iast X hS (Or.inr nq6) hA6 (by unfold vp_in; decide) d_Press_line_426 (fun H locs hp hcg hS => ?_)
  have hA6 := i5_0 hp
  have hP := hP.off hcg (by omega)
  have hx := hx.off hcg (by omega)
  refine lv_aload X.x X.b d_Press_line_427 (lv_at hl 0 rfl) ?_
  refine lv_iconst (v := 1) X.x X.b d_Press_line_429 (by decide) ?_
  refine lv_iconst (v := 1) X.x X.b d_Press_line_430 (by decide) ?_
  refine lv_aload_n X.x X.b d_Press_line_431 rfl (lv_at hl 5 rfl) ?_
  refine lv_iconst (v := 3) X.x X.b d_Press_line_432 (by decide) ?_
  refine m_callVX X hS hx (N_Press_draw (n := 3) l g hL hP (by omega) (by omega) (by omega)) v_Press_57 hP rfl rfl rfl (Nat.le_of_ble_eq_true rfl) hl.1 d_Press_line_433 (by omega) (by decide) ⟨by omega, by omega⟩ (fun q z => z.elim (fun z => Or.inl z) (fun z => Or.inr (Nat.le_trans hS.1 z))) (fun w H locs hq hfr hS => ?_)
  have hA6 := hA6.fr hfr (fun z => by have z : q6 = P := z; omega)
  have hx := hx.fr (g := g) hfr (fun z => by have z : b = P := z; omega)
  clear hP
  obtain ⟨x1, hx1, rfl, hP⟩ := hq
  refine lv_iadd X.x X.b d_Press_line_436 ?_
  refine m_iast X hS (Or.inr nq6) hA6 (by unfold vp_in; decide) d_Press_line_437 (fun H locs hp hcg hS => ?_)
  have hA6 := i5_1 hp
  have hP := hP.off hcg (by omega)
  have hx := hx.off hcg (by omega)
  refine lv_aload X.x X.b d_Press_line_438 (lv_at hl 0 rfl) ?_
  refine lv_iconst (v := 3) X.x X.b d_Press_line_440 (by decide) ?_
  refine lv_iload_n X.x X.b d_Press_line_441 rfl (lv_at hl 6 rfl) ?_
  refine lv_if_le (tgt := 449) X.x X.b d_Press_line_442 (by decide) (fun c2 => ?_) (fun c2 => ?_)
  · skip
    have c2q := Int32.not_lt.mpr c2
    refine lv_aload_n X.x X.b d_Press_line_449 rfl (lv_at hl 5 rfl) ?_
    refine lv_iconst (v := 3) X.x X.b d_Press_line_450 (by decide) ?_
    refine m_callVX X hS hx (N_Press_draw (n := 3) l g hL hP (by omega) (by omega) (by omega)) v_Press_57 hP rfl rfl rfl (Nat.le_of_ble_eq_true rfl) hl.1 d_Press_line_451 (by omega) (by decide) ⟨by omega, by omega⟩ (fun q z => z.elim (fun z => Or.inl z) (fun z => Or.inr (Nat.le_trans hS.1 z))) (fun w H locs hq hfr hS => ?_)
    have hA6 := hA6.fr hfr (fun z => by have z : q6 = P := z; omega)
    have hx := hx.fr (g := g) hfr (fun z => by have z : b = P := z; omega)
    clear hP
    obtain ⟨x3, hx3, rfl, hP⟩ := hq
    refine m_iast X hS (Or.inr nq6) hA6 (by unfold vp_in; decide) d_Press_line_454 (fun H locs hp hcg hS => ?_)
    have hA6 := i5_3 hp
    have hP := hP.off hcg (by omega)
    have hx := hx.off hcg (by omega)
    refine lv_aload X.x X.b d_Press_line_455 (lv_at hl 0 rfl) ?_
    exact m_aretX X hS (by omega) (by omega) d_Press_line_457 ⟨_, _, _, _, _, _, _, rfl, nq6, by omega, by omega, hP, hA6, (ln_call ((by decide : ∀ z : Nat, z < 3 → 0 < 1 + (nI z) ∧ 1 + (nI z) < 5) x1 hx1) ((by decide : ∀ z : Nat, z < 3 → -99 ≤ nI z ∧ nI z ≤ 99) x3 hx3)), hv⟩
  · skip
    have c2q := Int32.not_le.mp c2
    refine lv_iconst (v := -1) X.x X.b d_Press_line_445 (by decide) ?_
    refine lv_goto (tgt := 454) X.x X.b d_Press_line_446 (by decide) ?_
    refine m_iast X hS (Or.inr nq6) hA6 (by unfold vp_in; decide) d_Press_line_454 (fun H locs hp hcg hS => ?_)
    have hA6 := i5_3 hp
    have hP := hP.off hcg (by omega)
    have hx := hx.off hcg (by omega)
    refine lv_aload X.x X.b d_Press_line_455 (lv_at hl 0 rfl) ?_
    exact m_aretX X hS (by omega) (by omega) d_Press_line_457 ⟨_, _, _, _, _, _, _, rfl, nq6, by omega, by omega, hP, hA6, (ln_call ((by decide : ∀ z : Nat, z < 3 → 0 < 1 + (nI z) ∧ 1 + (nI z) < 5) x1 hx1) (by decide)), hv⟩
set_option maxRecDepth 100000 in
set_option maxHeartbeats 4000000 in
theorem ln_458 {g : GG} {p : Program} {l : Launch} {e : Env} {s : State} {m : MethodId} {below : List Frame} {meth : Method} {cd : Code} {H0 H : Heap} {locs : List Loc} {cells slots : Nat} {nm : String} {ls : Array Slot} {b L P B RA d0 d r : Nat} {xs : Nat → Int32} {V : Value × Value × Value} (X : CX g p s m ([.ref P, .int (nI r)] : List Value).toArray meth cd c_Press_line 11 (some (.array .int)) R_Press nm) (hL : L ≤ 260) (hr : r < 5) (hbP : b < P) (hx : va_X b L xs s H) (hS : va_S (AA (eqA P) H0) H0 H locs) (hP : prAt g P B b RA V d H) (hd3 : d0 < 2900) {q6 nam : Nat} {any num v : Int32} (hA6 : i5 g q6 2 (-1) (-1) num v H) (nq6 : H0.size ≤ q6) (bq6 : b < q6) (pq6 : P < q6) (hany : -1 ≤ any ∧ any ≤ 11) (hnum : -99 ≤ num ∧ num ≤ 99) (hnam : nam < 4) (hv : v = 0 ∨ v = 1) (hd : d0 ≤ d ∧ d ≤ d0 + 7) (hcs : cells ≤ 1 ∧ slots ≤ 5) (hl : lv_has ls 11 [(6, .ref q6), (5, .int any), (4, .int (nI nam)), (3, .int num), (2, .int v), (0, .ref P), (1, .int (nI r))]) : W p l e (rmK 4 2 10) s m ([.ref P, .int (nI r)] : List Value).toArray below meth cd H locs cells slots (MQ below (QX (lnPv g P B b RA V d0 H0.size) (eqA P) H0) ([.ref P, .int (nI r)] : List Value).toArray s 2 10 (AA (eqA P) H0)) (F0 m 458 ls []) := by
  refine lv_aload X.x X.b d_Press_line_458 (lv_at hl 0 rfl) ?_
  refine lv_iconst (v := 1) X.x X.b d_Press_line_460 (by decide) ?_
  refine lv_aload_n X.x X.b d_Press_line_461 rfl (lv_at hl 5 rfl) ?_
  refine lv_iconst (v := 3) X.x X.b d_Press_line_462 (by decide) ?_
  refine m_callVX X hS hx (N_Press_draw (n := 3) l g hL hP (by omega) (by omega) (by omega)) v_Press_57 hP rfl rfl rfl (Nat.le_of_ble_eq_true rfl) hl.1 d_Press_line_463 (by omega) (by decide) ⟨by omega, by omega⟩ (fun q z => z.elim (fun z => Or.inl z) (fun z => Or.inr (Nat.le_trans hS.1 z))) (fun w H locs hq hfr hS => ?_)
  have hA6 := hA6.fr hfr (fun z => by have z : q6 = P := z; omega)
  have hx := hx.fr (g := g) hfr (fun z => by have z : b = P := z; omega)
  clear hP
  obtain ⟨x1, hx1, rfl, hP⟩ := hq
  refine lv_if_ne (tgt := 474) X.x X.b d_Press_line_466 (by decide) (fun c2 => ?_) (fun c2 => ?_)
  · skip
    refine lv_iconst (v := -1) X.x X.b d_Press_line_474 (by decide) ?_
    refine m_iast X hS (Or.inr nq6) hA6 (by unfold vp_in; decide) d_Press_line_475 (fun H locs hp hcg hS => ?_)
    have hA6 := i5_1 hp
    have hP := hP.off hcg (by omega)
    have hx := hx.off hcg (by omega)
    refine lv_aload X.x X.b d_Press_line_476 (lv_at hl 0 rfl) ?_
    refine lv_iconst (v := 2) X.x X.b d_Press_line_478 (by decide) ?_
    refine lv_aload_n X.x X.b d_Press_line_479 rfl (lv_at hl 5 rfl) ?_
    refine lv_iconst (v := 4) X.x X.b d_Press_line_480 (by decide) ?_
    refine m_callVX X hS hx (N_Press_draw (n := 4) l g hL hP (by omega) (by omega) (by omega)) v_Press_57 hP rfl rfl rfl (Nat.le_of_ble_eq_true rfl) hl.1 d_Press_line_481 (by omega) (by decide) ⟨by omega, by omega⟩ (fun q z => z.elim (fun z => Or.inl z) (fun z => Or.inr (Nat.le_trans hS.1 z))) (fun w H locs hq hfr hS => ?_)
    have hA6 := hA6.fr hfr (fun z => by have z : q6 = P := z; omega)
    have hx := hx.fr (g := g) hfr (fun z => by have z : b = P := z; omega)
    clear hP
    obtain ⟨x3, hx3, rfl, hP⟩ := hq
    refine lv_if_ne (tgt := 492) X.x X.b d_Press_line_484 (by decide) (fun c4 => ?_) (fun c4 => ?_)
    · skip
      refine lv_iconst (v := -1) X.x X.b d_Press_line_492 (by decide) ?_
      refine m_iast X hS (Or.inr nq6) hA6 (by unfold vp_in; decide) d_Press_line_493 (fun H locs hp hcg hS => ?_)
      have hA6 := i5_2 hp
      have hP := hP.off hcg (by omega)
      have hx := hx.off hcg (by omega)
      refine lv_aload X.x X.b d_Press_line_494 (lv_at hl 0 rfl) ?_
      exact m_aretX X hS (by omega) (by omega) d_Press_line_496 ⟨_, _, _, _, _, _, _, rfl, nq6, by omega, by omega, hP, hA6, (ln_data (by decide) (by decide) hnum), hv⟩
    · skip
      refine lv_iload X.x X.b d_Press_line_487 (lv_at hl 1 rfl) ?_
      refine lv_goto (tgt := 493) X.x X.b d_Press_line_489 (by decide) ?_
      refine m_iast X hS (Or.inr nq6) hA6 (by unfold vp_in; decide) d_Press_line_493 (fun H locs hp hcg hS => ?_)
      have hA6 := i5_2 hp
      have hP := hP.off hcg (by omega)
      have hx := hx.off hcg (by omega)
      refine lv_aload X.x X.b d_Press_line_494 (lv_at hl 0 rfl) ?_
      exact m_aretX X hS (by omega) (by omega) d_Press_line_496 ⟨_, _, _, _, _, _, _, rfl, nq6, by omega, by omega, hP, hA6, (ln_data (by decide) hany hnum), hv⟩
  · skip
    refine lv_iload X.x X.b d_Press_line_469 (lv_at hl 1 rfl) ?_
    refine lv_goto (tgt := 475) X.x X.b d_Press_line_471 (by decide) ?_
    refine m_iast X hS (Or.inr nq6) hA6 (by unfold vp_in; decide) d_Press_line_475 (fun H locs hp hcg hS => ?_)
    have hA6 := i5_1 hp
    have hP := hP.off hcg (by omega)
    have hx := hx.off hcg (by omega)
    refine lv_aload X.x X.b d_Press_line_476 (lv_at hl 0 rfl) ?_
    refine lv_iconst (v := 2) X.x X.b d_Press_line_478 (by decide) ?_
    refine lv_aload_n X.x X.b d_Press_line_479 rfl (lv_at hl 5 rfl) ?_
    refine lv_iconst (v := 4) X.x X.b d_Press_line_480 (by decide) ?_
    refine m_callVX X hS hx (N_Press_draw (n := 4) l g hL hP (by omega) (by omega) (by omega)) v_Press_57 hP rfl rfl rfl (Nat.le_of_ble_eq_true rfl) hl.1 d_Press_line_481 (by omega) (by decide) ⟨by omega, by omega⟩ (fun q z => z.elim (fun z => Or.inl z) (fun z => Or.inr (Nat.le_trans hS.1 z))) (fun w H locs hq hfr hS => ?_)
    have hA6 := hA6.fr hfr (fun z => by have z : q6 = P := z; omega)
    have hx := hx.fr (g := g) hfr (fun z => by have z : b = P := z; omega)
    clear hP
    obtain ⟨x5, hx5, rfl, hP⟩ := hq
    refine lv_if_ne (tgt := 492) X.x X.b d_Press_line_484 (by decide) (fun c6 => ?_) (fun c6 => ?_)
    · skip
      refine lv_iconst (v := -1) X.x X.b d_Press_line_492 (by decide) ?_
      refine m_iast X hS (Or.inr nq6) hA6 (by unfold vp_in; decide) d_Press_line_493 (fun H locs hp hcg hS => ?_)
      have hA6 := i5_2 hp
      have hP := hP.off hcg (by omega)
      have hx := hx.off hcg (by omega)
      refine lv_aload X.x X.b d_Press_line_494 (lv_at hl 0 rfl) ?_
      exact m_aretX X hS (by omega) (by omega) d_Press_line_496 ⟨_, _, _, _, _, _, _, rfl, nq6, by omega, by omega, hP, hA6, (ln_data hany (by decide) hnum), hv⟩
    · skip
      refine lv_iload X.x X.b d_Press_line_487 (lv_at hl 1 rfl) ?_
      refine lv_goto (tgt := 493) X.x X.b d_Press_line_489 (by decide) ?_
      refine m_iast X hS (Or.inr nq6) hA6 (by unfold vp_in; decide) d_Press_line_493 (fun H locs hp hcg hS => ?_)
      have hA6 := i5_2 hp
      have hP := hP.off hcg (by omega)
      have hx := hx.off hcg (by omega)
      refine lv_aload X.x X.b d_Press_line_494 (lv_at hl 0 rfl) ?_
      exact m_aretX X hS (by omega) (by omega) d_Press_line_496 ⟨_, _, _, _, _, _, _, rfl, nq6, by omega, by omega, hP, hA6, (ln_data hany hany hnum), hv⟩
set_option maxRecDepth 100000 in
set_option maxHeartbeats 4000000 in
theorem ln_84 {g : GG} {p : Program} {l : Launch} {e : Env} {s : State} {m : MethodId} {below : List Frame} {meth : Method} {cd : Code} {H0 H : Heap} {locs : List Loc} {cells slots : Nat} {nm : String} {ls : Array Slot} {b L P B RA d0 d r : Nat} {xs : Nat → Int32} {V : Value × Value × Value} (X : CX g p s m ([.ref P, .int (nI r)] : List Value).toArray meth cd c_Press_line 11 (some (.array .int)) R_Press nm) (hL : L ≤ 260) (hr : r < 5) (hbP : b < P) (hx : va_X b L xs s H) (hS : va_S (AA (eqA P) H0) H0 H locs) (hP : prAt g P B b RA V d H) (hd3 : d0 < 2900) {q6 nam : Nat} {any num v : Int32} (hA6 : i5 g q6 2 (-1) (-1) num v H) (nq6 : H0.size ≤ q6) (bq6 : b < q6) (pq6 : P < q6) (hany : -1 ≤ any ∧ any ≤ 11) (hnum : -99 ≤ num ∧ num ≤ 99) (hnam : nam < 4) (hv : v = 0 ∨ v = 1) (hd : d0 ≤ d ∧ d ≤ d0 + 6) (hcs : cells ≤ 1 ∧ slots ≤ 5) (hl : lv_has ls 11 [(6, .ref q6), (5, .int any), (4, .int (nI nam)), (3, .int num), (2, .int v), (0, .ref P), (1, .int (nI r))]) : W p l e (rmK 4 2 10) s m ([.ref P, .int (nI r)] : List Value).toArray below meth cd H locs cells slots (MQ below (QX (lnPv g P B b RA V d0 H0.size) (eqA P) H0) ([.ref P, .int (nI r)] : List Value).toArray s 2 10 (AA (eqA P) H0)) (F0 m 84 ls []) := by
  refine lv_aload_n X.x X.b d_Press_line_84 rfl (lv_at hl 5 rfl) ?_
  refine lv_bipush (v := 16) X.x X.b d_Press_line_85 (by decide) ?_
  refine m_callVX X hS hx (N_Press_draw (n := 16) l g hL hP (by omega) (by omega) (by omega)) v_Press_57 hP rfl rfl rfl (Nat.le_of_ble_eq_true rfl) hl.1 d_Press_line_87 (by omega) (by decide) ⟨by omega, by omega⟩ (fun q z => z.elim (fun z => Or.inl z) (fun z => Or.inr (Nat.le_trans hS.1 z))) (fun w H locs hq hfr hS => ?_)
  have hA6 := hA6.fr hfr (fun z => by have z : q6 = P := z; omega)
  have hx := hx.fr (g := g) hfr (fun z => by have z : b = P := z; omega)
  clear hP
  obtain ⟨x1, hx1, rfl, hP⟩ := hq
  by_cases k2 : nI x1 = 0
  · skip
    refine lv_tableIn (off := 66) (tgt := 156) X.x X.b d_Press_line_90 (by rw [k2]; decide) (by rw [k2]; decide) (by rw [k2]; decide) (by decide) ?_
    exact ln_156 X hL hr hbP hx hS hP hd3 hA6 nq6 bq6 pq6 hany hnum hnam hv (by omega) (by omega) hl
  by_cases k3 : nI x1 = 1
  · skip
    refine lv_tableIn (off := 66) (tgt := 156) X.x X.b d_Press_line_90 (by rw [k3]; decide) (by rw [k3]; decide) (by rw [k3]; decide) (by decide) ?_
    exact ln_156 X hL hr hbP hx hS hP hd3 hA6 nq6 bq6 pq6 hany hnum hnam hv (by omega) (by omega) hl
  by_cases k4 : nI x1 = 2
  · skip
    refine lv_tableIn (off := 114) (tgt := 204) X.x X.b d_Press_line_90 (by rw [k4]; decide) (by rw [k4]; decide) (by rw [k4]; decide) (by decide) ?_
    exact ln_204 X hL hr hbP hx hS hP hd3 hA6 nq6 bq6 pq6 hany hnum hnam hv (by omega) (by omega) hl
  by_cases k5 : nI x1 = 3
  · skip
    refine lv_tableIn (off := 163) (tgt := 253) X.x X.b d_Press_line_90 (by rw [k5]; decide) (by rw [k5]; decide) (by rw [k5]; decide) (by decide) ?_
    exact ln_253 X hL hr hbP hx hS hP hd3 hA6 nq6 bq6 pq6 hany hnum hnam hv (by omega) (by omega) hl
  by_cases k6 : nI x1 = 4
  · skip
    refine lv_tableIn (off := 163) (tgt := 253) X.x X.b d_Press_line_90 (by rw [k6]; decide) (by rw [k6]; decide) (by rw [k6]; decide) (by decide) ?_
    exact ln_253 X hL hr hbP hx hS hP hd3 hA6 nq6 bq6 pq6 hany hnum hnam hv (by omega) (by omega) hl
  by_cases k7 : nI x1 = 5
  · skip
    refine lv_tableIn (off := 163) (tgt := 253) X.x X.b d_Press_line_90 (by rw [k7]; decide) (by rw [k7]; decide) (by rw [k7]; decide) (by decide) ?_
    exact ln_253 X hL hr hbP hx hS hP hd3 hA6 nq6 bq6 pq6 hany hnum hnam hv (by omega) (by omega) hl
  by_cases k8 : nI x1 = 6
  · skip
    refine lv_tableIn (off := 163) (tgt := 253) X.x X.b d_Press_line_90 (by rw [k8]; decide) (by rw [k8]; decide) (by rw [k8]; decide) (by decide) ?_
    exact ln_253 X hL hr hbP hx hS hP hd3 hA6 nq6 bq6 pq6 hany hnum hnam hv (by omega) (by omega) hl
  by_cases k9 : nI x1 = 7
  · skip
    refine lv_tableIn (off := 200) (tgt := 290) X.x X.b d_Press_line_90 (by rw [k9]; decide) (by rw [k9]; decide) (by rw [k9]; decide) (by decide) ?_
    exact ln_290 X hL hr hbP hx hS hP hd3 hA6 nq6 bq6 pq6 hany hnum hnam hv (by omega) (by omega) hl
  by_cases k10 : nI x1 = 8
  · skip
    refine lv_tableIn (off := 200) (tgt := 290) X.x X.b d_Press_line_90 (by rw [k10]; decide) (by rw [k10]; decide) (by rw [k10]; decide) (by decide) ?_
    exact ln_290 X hL hr hbP hx hS hP hd3 hA6 nq6 bq6 pq6 hany hnum hnam hv (by omega) (by omega) hl
  by_cases k11 : nI x1 = 9
  · skip
    refine lv_tableIn (off := 217) (tgt := 307) X.x X.b d_Press_line_90 (by rw [k11]; decide) (by rw [k11]; decide) (by rw [k11]; decide) (by decide) ?_
    exact ln_307 X hL hr hbP hx hS hP hd3 hA6 nq6 bq6 pq6 hany hnum hnam hv (by omega) (by omega) hl
  by_cases k12 : nI x1 = 10
  · skip
    refine lv_tableIn (off := 259) (tgt := 349) X.x X.b d_Press_line_90 (by rw [k12]; decide) (by rw [k12]; decide) (by rw [k12]; decide) (by decide) ?_
    exact ln_349 X hL hr hbP hx hS hP hd3 hA6 nq6 bq6 pq6 hany hnum hnam hv (by omega) (by omega) hl
  by_cases k13 : nI x1 = 11
  · skip
    refine lv_tableIn (off := 294) (tgt := 384) X.x X.b d_Press_line_90 (by rw [k13]; decide) (by rw [k13]; decide) (by rw [k13]; decide) (by decide) ?_
    exact ln_384 X hL hr hbP hx hS hP hd3 hA6 nq6 bq6 pq6 hany hnum hnam hv (by omega) (by omega) hl
  by_cases k14 : nI x1 = 12
  · skip
    refine lv_tableIn (off := 331) (tgt := 421) X.x X.b d_Press_line_90 (by rw [k14]; decide) (by rw [k14]; decide) (by rw [k14]; decide) (by decide) ?_
    exact ln_421 X hL hr hbP hx hS hP hd3 hA6 nq6 bq6 pq6 hany hnum hnam hv (by omega) (by omega) hl
  refine lv_tableOut (tgt := 458) X.x X.b d_Press_line_90 (by have := ne_toInt (k := 0) 0 (by decide) k2; have := ne_toInt (k := 1) 1 (by decide) k3; have := ne_toInt (k := 2) 2 (by decide) k4; have := ne_toInt (k := 3) 3 (by decide) k5; have := ne_toInt (k := 4) 4 (by decide) k6; have := ne_toInt (k := 5) 5 (by decide) k7; have := ne_toInt (k := 6) 6 (by decide) k8; have := ne_toInt (k := 7) 7 (by decide) k9; have := ne_toInt (k := 8) 8 (by decide) k10; have := ne_toInt (k := 9) 9 (by decide) k11; have := ne_toInt (k := 10) 10 (by decide) k12; have := ne_toInt (k := 11) 11 (by decide) k13; have := ne_toInt (k := 12) 12 (by decide) k14; omega) (by decide) ?_
  exact ln_458 X hL hr hbP hx hS hP hd3 hA6 nq6 bq6 pq6 hany hnum hnam hv (by omega) (by omega) hl
set_option maxRecDepth 100000 in
set_option maxHeartbeats 4000000 in
theorem ln_59 {g : GG} {p : Program} {l : Launch} {e : Env} {s : State} {m : MethodId} {below : List Frame} {meth : Method} {cd : Code} {H0 H : Heap} {locs : List Loc} {cells slots : Nat} {nm : String} {ls : Array Slot} {b L P B RA d0 d r : Nat} {xs : Nat → Int32} {V : Value × Value × Value} (X : CX g p s m ([.ref P, .int (nI r)] : List Value).toArray meth cd c_Press_line 11 (some (.array .int)) R_Press nm) (hL : L ≤ 260) (hr : r < 5) (hbP : b < P) (hx : va_X b L xs s H) (hS : va_S (AA (eqA P) H0) H0 H locs) (hP : prAt g P B b RA V d H) (hd3 : d0 < 2900) {nam : Nat} {any num v : Int32} (hany : -1 ≤ any ∧ any ≤ 11) (hnum : -99 ≤ num ∧ num ≤ 99) (hnam : nam < 4) (hv : v = 0 ∨ v = 1) (hd : d0 ≤ d ∧ d ≤ d0 + 5) (hcs : cells = 0 ∧ slots = 0) (hl : lv_has ls 11 [(5, .int any), (4, .int (nI nam)), (3, .int num), (2, .int v), (0, .ref P), (1, .int (nI r))]) : W p l e (rmK 4 2 10) s m ([.ref P, .int (nI r)] : List Value).toArray below meth cd H locs cells slots (MQ below (QX (lnPv g P B b RA V d0 H0.size) (eqA P) H0) ([.ref P, .int (nI r)] : List Value).toArray s 2 10 (AA (eqA P) H0)) (F0 m 59 ls []) := by
  refine lv_iconst (v := 5) X.x X.b d_Press_line_59 (by decide) ?_
  obtain ⟨q60, zq60⟩ : ∃ z : Nat, H.size = z := ⟨_, rfl⟩
  have nq60 : H0.size ≤ q60 := by have := hS.1; omega
  have bq60 : b < q60 := by have := hx.lt; omega
  have pq60 : P < q60 := by have := hP.lt; omega
  refine m_newI X hS zq60 5 (by decide) (by decide) (by decide) (by omega) (by omega) d_Press_line_60 (fun H hn hgr hS hz2 => ?_)
  have hA60 := i5_n hn
  have hP := hP.grow hgr
  have hx := hx.grow hgr
  clear hn hgr hz2
  refine lv_dup X.x X.b d_Press_line_62 rfl ?_
  refine lv_iconst (v := 0) X.x X.b d_Press_line_63 (by decide) ?_
  refine lv_iconst (v := 2) X.x X.b d_Press_line_64 (by decide) ?_
  refine m_iast X hS (Or.inr nq60) hA60 (by unfold vp_in; decide) d_Press_line_65 (fun H locs hp hcg hS => ?_)
  have hA60 := i5_0 hp
  have hP := hP.off hcg (by omega)
  have hx := hx.off hcg (by omega)
  refine lv_dup X.x X.b d_Press_line_66 rfl ?_
  refine lv_iconst (v := 1) X.x X.b d_Press_line_67 (by decide) ?_
  refine lv_iconst (v := -1) X.x X.b d_Press_line_68 (by decide) ?_
  refine m_iast X hS (Or.inr nq60) hA60 (by unfold vp_in; decide) d_Press_line_69 (fun H locs hp hcg hS => ?_)
  have hA60 := i5_1 hp
  have hP := hP.off hcg (by omega)
  have hx := hx.off hcg (by omega)
  refine lv_dup X.x X.b d_Press_line_70 rfl ?_
  refine lv_iconst (v := 2) X.x X.b d_Press_line_71 (by decide) ?_
  refine lv_iconst (v := -1) X.x X.b d_Press_line_72 (by decide) ?_
  refine m_iast X hS (Or.inr nq60) hA60 (by unfold vp_in; decide) d_Press_line_73 (fun H locs hp hcg hS => ?_)
  have hA60 := i5_2 hp
  have hP := hP.off hcg (by omega)
  have hx := hx.off hcg (by omega)
  refine lv_dup X.x X.b d_Press_line_74 rfl ?_
  refine lv_iconst (v := 3) X.x X.b d_Press_line_75 (by decide) ?_
  refine lv_iload_n X.x X.b d_Press_line_76 rfl (lv_at hl 2 rfl) ?_
  refine m_iast X hS (Or.inr nq60) hA60 (by unfold vp_in; decide) d_Press_line_77 (fun H locs hp hcg hS => ?_)
  have hA60 := i5_3 hp
  have hP := hP.off hcg (by omega)
  have hx := hx.off hcg (by omega)
  refine lv_dup X.x X.b d_Press_line_78 rfl ?_
  refine lv_iconst (v := 4) X.x X.b d_Press_line_79 (by decide) ?_
  refine lv_iload_n X.x X.b d_Press_line_80 rfl (lv_at hl 3 rfl) ?_
  refine m_iast X hS (Or.inr nq60) hA60 (by unfold vp_in; decide) d_Press_line_81 (fun H locs hp hcg hS => ?_)
  have hA60 := i5_4 hp
  have hP := hP.off hcg (by omega)
  have hx := hx.off hcg (by omega)
  refine lv_astore (lv' := [(6, .ref q60), (5, .int any), (4, .int (nI nam)), (3, .int num), (2, .int v), (0, .ref P), (1, .int (nI r))]) X.x X.b d_Press_line_82 hl (by decide) rfl (fun ls hl => ?_)
  exact ln_84 X hL hr hbP hx hS hP hd3 hA60 nq60 bq60 pq60 hany hnum hnam hv (by omega) (by omega) hl
set_option maxRecDepth 100000 in
set_option maxHeartbeats 4000000 in
theorem ln_14 {g : GG} {p : Program} {l : Launch} {e : Env} {s : State} {m : MethodId} {below : List Frame} {meth : Method} {cd : Code} {H0 H : Heap} {locs : List Loc} {cells slots : Nat} {nm : String} {ls : Array Slot} {b L P B RA d0 d r : Nat} {xs : Nat → Int32} {V : Value × Value × Value} (X : CX g p s m ([.ref P, .int (nI r)] : List Value).toArray meth cd c_Press_line 11 (some (.array .int)) R_Press nm) (hL : L ≤ 260) (hr : r < 5) (hbP : b < P) (hx : va_X b L xs s H) (hS : va_S (AA (eqA P) H0) H0 H locs) (hP : prAt g P B b RA V d H) (hd3 : d0 < 2900) {v : Int32} (hv : v = 0 ∨ v = 1) (hd : d0 ≤ d ∧ d ≤ d0 + 1) (hcs : cells = 0 ∧ slots = 0) (hl : lv_has ls 11 [(2, .int v), (0, .ref P), (1, .int (nI r))]) : W p l e (rmK 4 2 10) s m ([.ref P, .int (nI r)] : List Value).toArray below meth cd H locs cells slots (MQ below (QX (lnPv g P B b RA V d0 H0.size) (eqA P) H0) ([.ref P, .int (nI r)] : List Value).toArray s 2 10 (AA (eqA P) H0)) (F0 m 14 ls []) := by
  refine lv_aload_n X.x X.b d_Press_line_14 rfl (lv_at hl 1 rfl) ?_
  refine lv_bipush (v := 12) X.x X.b d_Press_line_15 (by decide) ?_
  refine m_callVX X hS hx (N_Press_draw (n := 12) l g hL hP (by omega) (by omega) (by omega)) v_Press_57 hP rfl rfl rfl (Nat.le_of_ble_eq_true rfl) hl.1 d_Press_line_17 (by omega) (by decide) ⟨by omega, by omega⟩ (fun q z => z.elim (fun z => Or.inl z) (fun z => Or.inr (Nat.le_trans hS.1 z))) (fun w H locs hq hfr hS => ?_)
  have hx := hx.fr (g := g) hfr (fun z => by have z : b = P := z; omega)
  clear hP
  obtain ⟨x1, hx1, rfl, hP⟩ := hq
  refine lv_iconst (v := 3) X.x X.b d_Press_line_20 (by decide) ?_
  refine lv_isub X.x X.b d_Press_line_21 ?_
  refine lv_istore_n (lv' := [(3, .int ((nI x1) - 3)), (2, .int v), (0, .ref P), (1, .int (nI r))]) X.x X.b d_Press_line_22 rfl hl (by decide) rfl (fun ls hl => ?_)
  refine lv_aload_n X.x X.b d_Press_line_23 rfl (lv_at hl 2 rfl) ?_
  refine lv_iconst (v := 4) X.x X.b d_Press_line_24 (by decide) ?_
  refine m_callVX X hS hx (N_Press_draw (n := 4) l g hL hP (by omega) (by omega) (by omega)) v_Press_57 hP rfl rfl rfl (Nat.le_of_ble_eq_true rfl) hl.1 d_Press_line_25 (by omega) (by decide) ⟨by omega, by omega⟩ (fun q z => z.elim (fun z => Or.inl z) (fun z => Or.inr (Nat.le_trans hS.1 z))) (fun w H locs hq hfr hS => ?_)
  have hx := hx.fr (g := g) hfr (fun z => by have z : b = P := z; omega)
  clear hP
  obtain ⟨x2, hx2, rfl, hP⟩ := hq
  refine lv_istore (lv' := [(4, .int (nI x2)), (3, .int ((nI x1) - 3)), (2, .int v), (0, .ref P), (1, .int (nI r))]) X.x X.b d_Press_line_28 hl (by decide) rfl (fun ls hl => ?_)
  refine lv_aload_n X.x X.b d_Press_line_30 rfl (lv_at hl 3 rfl) ?_
  refine lv_bipush (v := 8) X.x X.b d_Press_line_31 (by decide) ?_
  refine m_callVX X hS hx (N_Press_draw (n := 8) l g hL hP (by omega) (by omega) (by omega)) v_Press_57 hP rfl rfl rfl (Nat.le_of_ble_eq_true rfl) hl.1 d_Press_line_33 (by omega) (by decide) ⟨by omega, by omega⟩ (fun q z => z.elim (fun z => Or.inl z) (fun z => Or.inr (Nat.le_trans hS.1 z))) (fun w H locs hq hfr hS => ?_)
  have hx := hx.fr (g := g) hfr (fun z => by have z : b = P := z; omega)
  clear hP
  obtain ⟨x3, hx3, rfl, hP⟩ := hq
  refine lv_if_ne (tgt := 50) X.x X.b d_Press_line_36 (by decide) (fun c4 => ?_) (fun c4 => ?_)
  · skip
    refine lv_aload_n X.x X.b d_Press_line_50 rfl (lv_at hl 3 rfl) ?_
    refine lv_iconst (v := 5) X.x X.b d_Press_line_51 (by decide) ?_
    refine m_callVX X hS hx (N_Press_draw (n := 5) l g hL hP (by omega) (by omega) (by omega)) v_Press_57 hP rfl rfl rfl (Nat.le_of_ble_eq_true rfl) hl.1 d_Press_line_52 (by omega) (by decide) ⟨by omega, by omega⟩ (fun q z => z.elim (fun z => Or.inl z) (fun z => Or.inr (Nat.le_trans hS.1 z))) (fun w H locs hq hfr hS => ?_)
    have hx := hx.fr (g := g) hfr (fun z => by have z : b = P := z; omega)
    clear hP
    obtain ⟨x5, hx5, rfl, hP⟩ := hq
    refine lv_iconst (v := 1) X.x X.b d_Press_line_55 (by decide) ?_
    refine lv_isub X.x X.b d_Press_line_56 ?_
    refine lv_istore (lv' := [(5, .int ((nI x5) - 1)), (4, .int (nI x2)), (3, .int ((nI x1) - 3)), (2, .int v), (0, .ref P), (1, .int (nI r))]) X.x X.b d_Press_line_57 hl (by decide) rfl (fun ls hl => ?_)
    exact ln_59 X hL hr hbP hx hS hP hd3 ((by decide : ∀ z : Nat, z < 5 → -1 ≤ (nI z) - 1 ∧ (nI z) - 1 ≤ 11) x5 hx5) ((by decide : ∀ z : Nat, z < 12 → -99 ≤ (nI z) - 3 ∧ (nI z) - 3 ≤ 99) x1 hx1) hx2 hv (by omega) (by omega) hl
  · skip
    refine lv_bipush (v := 8) X.x X.b d_Press_line_39 (by decide) ?_
    refine lv_aload_n X.x X.b d_Press_line_41 rfl (lv_at hl 3 rfl) ?_
    refine lv_iconst (v := 4) X.x X.b d_Press_line_42 (by decide) ?_
    refine m_callVX X hS hx (N_Press_draw (n := 4) l g hL hP (by omega) (by omega) (by omega)) v_Press_57 hP rfl rfl rfl (Nat.le_of_ble_eq_true rfl) hl.1 d_Press_line_43 (by omega) (by decide) ⟨by omega, by omega⟩ (fun q z => z.elim (fun z => Or.inl z) (fun z => Or.inr (Nat.le_trans hS.1 z))) (fun w H locs hq hfr hS => ?_)
    have hx := hx.fr (g := g) hfr (fun z => by have z : b = P := z; omega)
    clear hP
    obtain ⟨x6, hx6, rfl, hP⟩ := hq
    refine lv_iadd X.x X.b d_Press_line_46 ?_
    refine lv_goto (tgt := 57) X.x X.b d_Press_line_47 (by decide) ?_
    refine lv_istore (lv' := [(5, .int (8 + (nI x6))), (4, .int (nI x2)), (3, .int ((nI x1) - 3)), (2, .int v), (0, .ref P), (1, .int (nI r))]) X.x X.b d_Press_line_57 hl (by decide) rfl (fun ls hl => ?_)
    exact ln_59 X hL hr hbP hx hS hP hd3 ((by decide : ∀ z : Nat, z < 4 → -1 ≤ 8 + (nI z) ∧ 8 + (nI z) ≤ 11) x6 hx6) ((by decide : ∀ z : Nat, z < 12 → -99 ≤ (nI z) - 3 ∧ (nI z) - 3 ≤ 99) x1 hx1) hx2 hv (by omega) (by omega) hl
set_option maxRecDepth 100000 in
set_option maxHeartbeats 4000000 in
theorem ln_0 {g : GG} {p : Program} {l : Launch} {e : Env} {s : State} {m : MethodId} {below : List Frame} {meth : Method} {cd : Code} {H0 H : Heap} {locs : List Loc} {cells slots : Nat} {nm : String} {ls : Array Slot} {b L P B RA d0 d r : Nat} {xs : Nat → Int32} {V : Value × Value × Value} (X : CX g p s m ([.ref P, .int (nI r)] : List Value).toArray meth cd c_Press_line 11 (some (.array .int)) R_Press nm) (hL : L ≤ 260) (hr : r < 5) (hbP : b < P) (hx : va_X b L xs s H) (hS : va_S (AA (eqA P) H0) H0 H locs) (hP : prAt g P B b RA V d H) (hd3 : d0 < 2900) (hd : d0 ≤ d ∧ d ≤ d0 + 0) (hcs : cells = 0 ∧ slots = 0) (hl : lv_has ls 11 [(0, .ref P), (1, .int (nI r))]) : W p l e (rmK 4 2 10) s m ([.ref P, .int (nI r)] : List Value).toArray below meth cd H locs cells slots (MQ below (QX (lnPv g P B b RA V d0 H0.size) (eqA P) H0) ([.ref P, .int (nI r)] : List Value).toArray s 2 10 (AA (eqA P) H0)) (F0 m 0 ls []) := by
  refine lv_iload_n X.x X.b d_Press_line_0 rfl (lv_at hl 1 rfl) ?_
  refine lv_if_le (tgt := 12) X.x X.b d_Press_line_1 (by decide) (fun c1 => ?_) (fun c1 => ?_)
  · skip
    have c1q := Int32.not_lt.mpr c1
    refine lv_iconst (v := 0) X.x X.b d_Press_line_12 (by decide) ?_
    refine lv_istore_n (lv' := [(2, .int 0), (0, .ref P), (1, .int (nI r))]) X.x X.b d_Press_line_13 rfl hl (by decide) rfl (fun ls hl => ?_)
    exact ln_14 X hL hr hbP hx hS hP hd3 (Or.inl rfl) (by omega) (by omega) hl
  · skip
    have c1q := Int32.not_le.mp c1
    refine lv_aload_n X.x X.b d_Press_line_4 rfl (lv_at hl 0 rfl) ?_
    refine lv_iconst (v := 2) X.x X.b d_Press_line_5 (by decide) ?_
    refine m_callVX X hS hx (N_Press_draw (n := 2) l g hL hP (by omega) (by omega) (by omega)) v_Press_57 hP rfl rfl rfl (Nat.le_of_ble_eq_true rfl) hl.1 d_Press_line_6 (by omega) (by decide) ⟨by omega, by omega⟩ (fun q z => z.elim (fun z => Or.inl z) (fun z => Or.inr (Nat.le_trans hS.1 z))) (fun w H locs hq hfr hS => ?_)
    have hx := hx.fr (g := g) hfr (fun z => by have z : b = P := z; omega)
    clear hP
    obtain ⟨x2, hx2, rfl, hP⟩ := hq
    refine lv_goto (tgt := 13) X.x X.b d_Press_line_9 (by decide) ?_
    refine lv_istore_n (lv' := [(2, .int (nI x2)), (0, .ref P), (1, .int (nI r))]) X.x X.b d_Press_line_13 rfl hl (by decide) rfl (fun ls hl => ?_)
    exact ln_14 X hL hr hbP hx hS hP hd3 ((by decide : ∀ z : Nat, z < 2 → nI z = 0 ∨ nI z = 1) x2 hx2) (by omega) (by omega) hl
theorem N_Press_line (l : Launch) (g : GG) {b L : Nat} {xs : Nat → Int32} {P B RA d r : Nat} {V : Value × Value × Value} {H0 : Heap} (hL : L ≤ 260) (hr : r < 5) (hbP : b < P) (hP : prAt g P B b RA V d H0) (hd : d < 2900) : MX l y_Press_line c_Press_line 11 (some (.array .int)) 4 2 10 g b L xs H0 [.ref P, .int (nI r)] (eqA P) (lnPv g P B b RA V d H0.size) := by
  refine MX.of (by decide +kernel) (Nat.le_of_ble_eq_true rfl) ?_
  intro p e s m below meth cd X hH hx ls hl
  exact ln_0 X hL hr hbP hx va_S.rf hP hd ⟨Nat.le_refl _, Nat.le_refl _⟩ ⟨rfl, rfl⟩ hl
