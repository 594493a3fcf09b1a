-- ADD, CHANGE, FOUND OF THE LAW'S PRESS
theorem ins2 {α β : Type} {p : α → β → Prop} {F : Nat → α} {G : Nat → β} {n t : Nat} {v : α} {u : β} (h : ∀ i, i < n → p (F i) (G i)) (hv : p v u) (ht : t ≤ n) : ∀ i, i < n + 1 → p (insF F t v i) (insF G t u i) := fun i hi => by
  unfold insF
  by_cases a : i < t
  · rw [if_pos a, if_pos a]; exact h i (by omega)
  · rw [if_neg a, if_neg a]
    by_cases e : i = t
    · rw [if_pos e, if_pos e]; exact hv
    · rw [if_neg e, if_neg e]; exact h (i - 1) (by omega)
theorem rem2 {α β : Type} {p : α → β → Prop} {F : Nat → α} {G : Nat → β} {n t : Nat} (h : ∀ i, i < n + 1 → p (F i) (G i)) : ∀ i, i < n → p (remF F t i) (remF G t i) := fun i hi => by
  unfold remF
  by_cases a : i < t
  · rw [if_pos a, if_pos a]; exact h i (by omega)
  · rw [if_neg a, if_neg a]; exact h (i + 1) (by omega)
theorem noLnP {g : GG} {s : State} {P B b RA d : Nat} {V : Value × Value × Value} {H : Heap} (K : KK g s) (hP : prAt g P B b RA V d H) : ∀ q, eqA P q → ¬ isLn g q H := fun q z ⟨vs, h⟩ => by
  have z : q = P := z
  rw [z] at h
  exact ln_obj K h hP
theorem noLnA {g : GG} {s : State} {a n : Nat} {F : Nat → Option Nat} {cA : ClassId} {ty : FieldType} {H : Heap} (K : KK g s) (t0 : Nat) (ht : (vtys g)[t0]? = some (cA, ty)) (h2 : pt g a (qarr cA n F) H) : ∀ q, eqA a q → ¬ isLn g q H := fun q z ⟨vs, h⟩ => by
  have z : q = a := z
  rw [z] at h
  exact ln_arr K t0 ht (vp_cell_q cA n F) h h2
section I5
variable {g : GG} {p : Program} {l : Launch} {e : Env} {R : Room} {s : State} {m : MethodId} {args : Array Value} {below : List Frame} {meth : Method} {c : Code} {H : Heap} {locs : List Loc} {cells slots : Nat} {Q : State → Prop}
variable {cc : ByteArray} {nL : Nat} {ret : Option FieldType} {own nm : String} {pc : Nat} {ls : Array Slot} {rest : List Value} {a : Nat}
theorem m_i5 (X : CX g p s m args meth c cc nL ret own nm) {n : Nat} {f : Nat → Int32} (h : pt g a (.inl (g.2 0, n, .inl f)) H) (j : Nat) (hj : j < n) (hn : n < 2 ^ 31) {i : Int32} (hi : i = nI j) {u : Int32} (hu : f j = u) (hdg : decode cc pc = .ok (.iaload, 1))
    (kk : W p l e R s m args below meth c H locs cells slots Q (F0 m (pc + 1) ls (.int u :: rest))) : W p l e R s m args below meth c H locs cells slots Q (F0 m pc ls (.int i :: .ref a :: rest)) := by
  subst hi
  refine m_iald X h (vp_in_nI hj hn) hdg ?_
  rw [nI_clamp (by omega), hu]
  exact kk
/-- a row of the law's rows -/
theorem m_row (X : CX g p s m args meth c cc nL ret own nm) {RA : Nat} {cnt : Nat → Nat} {fR : Nat → Nat} {fL : Nat → Nat → Nat} {D : DT} (h : rwAt g RA cnt fR fL D H) {r : Nat} (hr : r < 5) {i : Int32} (hi : i = nI r) (hdg : decode cc pc = .ok (.aaload, 1))
    (kk : W p l e R s m args below meth c H locs cells slots Q (F0 m (pc + 1) ls (.ref (fR r) :: rest))) : W p l e R s m args below meth c H locs cells slots Q (F0 m pc ls (.int i :: .ref RA :: rest)) := by
  subst hi
  exact m_qald2 (v := .ref (fR r)) X 6 rfl h.1 (vp_in_nI hr (by decide)) (by rw [nI_clamp (by omega)]; rfl) hdg kk
theorem m_rowlen (X : CX g p s m args meth c cc nL ret own nm) {RA : Nat} {cnt : Nat → Nat} {fR : Nat → Nat} {fL : Nat → Nat → Nat} {D : DT} (h : rwAt g RA cnt fR fL D H) {r : Nat} (hr : r < 5) (hdg : decode cc pc = .ok (.arraylength, 1))
    (kk : W p l e R s m args below meth c H locs cells slots Q (F0 m (pc + 1) ls (.int (nI (cnt r)) :: rest))) : W p l e R s m args below meth c H locs cells slots Q (F0 m pc ls (.ref (fR r) :: rest)) :=
  m_alen (v := nI (cnt r)) X 5 rfl (h.2 r hr).1 rfl hdg kk
theorem m_rowld (X : CX g p s m args meth c cc nL ret own nm) {RA : Nat} {cnt : Nat → Nat} {fR : Nat → Nat} {fL : Nat → Nat → Nat} {D : DT} (h : rwAt g RA cnt fR fL D H) {r t : Nat} (hr : r < 5) (ht : t < cnt r) (hc : cnt r < 2 ^ 31) {i : Int32} (hi : i = nI t) (hdg : decode cc pc = .ok (.aaload, 1))
    (kk : W p l e R s m args below meth c H locs cells slots Q (F0 m (pc + 1) ls (.ref (fL r t) :: rest))) : W p l e R s m args below meth c H locs cells slots Q (F0 m pc ls (.int i :: .ref (fR r) :: rest)) := by
  subst hi
  exact m_qald2 (v := .ref (fL r t)) X 5 rfl (h.2 r hr).1 (vp_in_nI ht hc) (by rw [nI_clamp (by omega)]; rfl) hdg kk
end I5
theorem cap_0 {cnt : Nat → Nat} {r : Nat} (hr : r < 5) (h : cnt r ≤ capF 40 r) (h0 : nI r = 0) (hn : ¬ nI (cnt r) = 40) : cnt r < capF 40 r := by
  have e : r = 0 := (nI_eq (a := r) (b := 0) (by omega) (by omega)).mp h0
  subst e
  have h : cnt 0 ≤ 40 := h
  show cnt 0 < 40
  rcases Nat.lt_or_ge (cnt 0) 40 with z | z
  · exact z
  · exact absurd (show nI (cnt 0) = 40 by rw [show cnt 0 = 40 by omega]; rfl) hn
theorem cap_1 {cnt : Nat → Nat} {r : Nat} (hr : r < 5) (h : cnt r ≤ capF 40 r) (h0 : ¬ nI r = 0) (hn : ¬ nI (cnt r) = 10) : cnt r < capF 40 r := by
  have e : ¬ r = 0 := fun z => h0 (by rw [z]; rfl)
  unfold capF at h ⊢
  rw [if_neg e] at h ⊢
  rcases Nat.lt_or_ge (cnt r) 10 with z | z
  · exact z
  · exact absurd (show nI (cnt r) = 10 by rw [show cnt r = 10 by omega]; rfl) hn
set_option maxRecDepth 100000 in
set_option maxHeartbeats 4000000 in
theorem add_66 {g : GG} {p : Program} {l : Launch} {e : Env} {s : State} {m : MethodId} {below : List Frame} {meth : Method} {cd : Code} {H0 H : Heap} {locs : List Loc} {cells slots : Nat} {nm : String} {ls : Array Slot} {b L P B RA d0 d : Nat} {xs : Nat → Int32} {V : Value × Value × Value} {cnt : Nat → Nat} {f : Nat → Nat → Nat} {fR : Nat → Nat} {fL : Nat → Nat → Nat} {D : DT} {Y : YS} (X : CX g p s m ([.ref P] : List Value).toArray meth cd c_Press_add 3 (some .boolean) R_Press nm) (hL : L ≤ 260) (hbP : b < P) (hx : va_X b L xs s H) (hS : va_S (AA (geA P) H0) H0 H locs) (hP : prAt g P B b RA V d H) (hR : rwAt g RA cnt fR fL D H) (hB : bAt g B cnt f D Y H) (hs : spG P B RA cnt fR fL) (hli : liG cnt D) (hok : OKY D cnt Y) (hPH : P < H0.size) (hd3 : d0 < 2800) {r : Nat} (hr : r < 5) (hcap : cnt r < capF 40 r) (hd : d0 ≤ d ∧ d ≤ d0 + 2) (hcs : cells = 0 ∧ slots = 0) (hl : lv_has ls 3 [(1, .int (nI r)), (0, .ref P)]) : W p l e (rmK 23 4 56) s m ([.ref P] : List Value).toArray below meth cd H locs cells slots (MQ below (QX (opPv g P B b RA V d0 20) (geA P) H0) ([.ref P] : List Value).toArray s 4 56 (AA (geA P) H0)) (F0 m 66 ls []) := by
  refine lv_aload_n X.x X.b d_Press_add_66 rfl (lv_at hl 1 rfl) ?_
  refine lv_iload_n X.x X.b d_Press_add_67 rfl (lv_at hl 0 rfl) ?_
  refine m_callVX X hS hx (N_Press_line (r := r) l g hL hr hbP hP (by omega)) v_Press_61 hP rfl rfl rfl (Nat.le_of_ble_eq_true rfl) hl.1 d_Press_add_68 (by omega) (by decide) ⟨by omega, by omega⟩ (fun q z => z.elim (fun z => by have z : q = P := z; exact Or.inl (Nat.le_of_eq z.symm)) (fun z => Or.inr (Nat.le_trans hS.1 z))) (fun w H2 locs hq hfr hS => ?_)
  have hfl : ∀ r i, r < 5 → i < cnt r → fL r i < H.size := fun r i hr hi => ((hR.2 r hr).2 i hi).lt
  have hfR : ∀ r, r < 5 → fR r < H.size := fun r hr => (hR.2 r hr).1.lt
  have hRl : RA < H.size := hR.1.lt
  have hB := hB.frK hfr (fun q z y => by have z : q = P := z; have := hs.1; omega) (noLnP X.kx hP)
  have hR := hR.lo hs hfr (fun q z => by have z : q = P := z; have := hs.1; omega)
  have hx := hx.fr (g := g) hfr (fun z => by have z : b = P := z; omega)
  clear hP
  obtain ⟨w, d2, k, x, y, n, v, rfl, hw, hd2, hd4, hP, hA, hln, hv⟩ := hq
  rcases hv with rfl | rfl
  · skip
    have hv : (0 : Int32) = 0 ∨ (0 : Int32) = 1 := by decide
    refine lv_astore_n (lv' := [(2, .ref w), (1, .int (nI r)), (0, .ref P)]) X.x X.b d_Press_add_71 rfl hl (by decide) rfl (fun ls hl => ?_)
    refine lv_aload_n X.x X.b d_Press_add_72 rfl (lv_at hl 2 rfl) ?_
    refine m_get (v := .ref RA) X ok_Press hP 3 (by decide) k_Press_18 rfl d_Press_add_73 ?_
    refine lv_iload_n X.x X.b d_Press_add_76 rfl (lv_at hl 1 rfl) ?_
    refine lv_aload_n X.x X.b d_Press_add_77 rfl (lv_at hl 2 rfl) ?_
    refine m_get (v := .ref RA) X ok_Press hP 3 (by decide) k_Press_18 rfl d_Press_add_78 ?_
    refine lv_iload_n X.x X.b d_Press_add_81 rfl (lv_at hl 1 rfl) ?_
    refine m_row (r := r) X hR hr rfl d_Press_add_82 ?_
    refine lv_aload_n X.x X.b d_Press_add_83 rfl (lv_at hl 0 rfl) ?_
    refine lv_aload_n X.x X.b d_Press_add_84 rfl (lv_at hl 2 rfl) ?_
    refine m_get (v := .ref RA) X ok_Press hP 3 (by decide) k_Press_18 rfl d_Press_add_85 ?_
    refine lv_iload_n X.x X.b d_Press_add_88 rfl (lv_at hl 1 rfl) ?_
    refine m_row (r := r) X hR hr rfl d_Press_add_89 ?_
    refine m_alen (v := nI (cnt r)) X 5 rfl (hR.2 r hr).1 rfl d_Press_add_90 ?_
    have hqs := hR
    refine m_callSX X hS hx (N_Press_with (n := cnt r) (t := cnt r) (fl := fL r) (fw := dl k x y n 0) l g (hB.cap40 hr) (Nat.le_refl _) (hR.2 r hr).1 (fun i hi => ⟨_, _, (hR.2 r hr).2 i hi⟩) hA) s_Press_65 rfl rfl (Nat.le_of_ble_eq_true rfl) hl.1 d_Press_add_91 (by omega) (by decide) ⟨by omega, by omega⟩ (fun q z => z.elim (fun z => z.elim) (fun z => Or.inr (Nat.le_trans hS.1 z))) (fun w1 H3 locs hq hfr hS => ?_)
    have hwl := hA.lt
    have hH2 : H.size ≤ H2.size := Nat.le_trans (Nat.le_of_lt_succ (Nat.lt_succ_of_le hw)) (Nat.le_of_lt hwl)
    have hB := hB.frK hfr (fun q z => z.elim) (fun q z => z.elim)
    have hR := hR.lo hs hfr (fun q z => z.elim)
    have hx := hx.fr (g := g) hfr (fun z => z)
    have hP := pt.fr hP hfr (fun z => z)
    have hA := pt.fr hA hfr (fun z => z)
    clear hqs
    obtain ⟨q, rfl, hq0, hQ⟩ := hq
    obtain ⟨k6, y1, y2⟩ := XA.six X.kx
    obtain ⟨k5, k0, x3, x4, x0, -⟩ := XA.five X.kx
    have hsB := hs.1
    refine m_qast2 X hS (Or.inl (show P ≤ RA by omega)) y1 y2 x3 hR.1 hQ (fun q h => by cases h) rfl (vp_in_nI hr (by decide)) d_Press_add_94 (fun H4 locs hp hcg hS => ?_)
    rw [nI_clamp (show r < 2 ^ 31 by omega)] at hp
    have hB := hB.frK (fr.of_chg (A := eqA RA) hcg rfl) (fun q z y => by have z : q = RA := z; omega) (noLnA X.kx 6 rfl hR.1)
    have hP := hP.off hcg (by omega)
    have hx := hx.off hcg (by omega)
    have hR := hR.row (n := cnt r + 1) (fl := insF (fL r) (cnt r) w) (d' := insF (D r) (cnt r) (dl k x y n 0)) hs hcg hp hQ (by omega) (ins2 (p := fun z (u : Nat → Int32) => pt g z (.inl (g.2 0, 5, .inl u)) H3 ∧ z ≠ RA) (fun i hi => ⟨(hR.2 r hr).2 i hi, by have := (hs.2.2 r i hr hi).1; omega⟩) ⟨hA, by omega⟩ (Nat.le_refl _))
    have hs := hs.row (n := cnt r + 1) (fl := insF (fL r) (cnt r) w) hr (show RA < q by omega) (fun r2 hr2 z => by have := hfR r2 hr2; omega) (fun r2 i hr2 hi z => by have := hfl r2 i hr2 hi; omega) (ins_all (p := fun z => RA < z ∧ z ≠ q ∧ ∀ r2, r2 < 5 → z ≠ fR r2) (fun i hi => ⟨(hs.2.2 r i hr hi).1, (fun z => by have := hfl r i hr hi; omega), (hs.2.2 r i hr hi).2⟩) ⟨by omega, by omega, fun r2 hr2 z => by have := hfR r2 hr2; omega⟩ (Nat.le_refl _))
    have hli := hli.row (r := r) (n := cnt r + 1) (d' := insF (D r) (cnt r) (dl k x y n 0)) (ins_all (fun i hi => hli r i hr hi) (ln1_dl hln hv) (Nat.le_refl _))
    have hA := hA.off hcg (by omega)
    have hQ := hQ.off hcg (by omega)
    refine lv_aload_n X.x X.b d_Press_add_95 rfl (lv_at hl 2 rfl) ?_
    refine m_get (v := .ref B) X ok_Press hP 0 (by decide) k_Press_10 rfl d_Press_add_96 ?_
    refine lv_iload_n X.x X.b d_Press_add_99 rfl (lv_at hl 1 rfl) ?_
    refine lv_aload_n X.x X.b d_Press_add_100 rfl (lv_at hl 0 rfl) ?_
    refine lv_iconst (v := 0) X.x X.b d_Press_add_101 (by decide) ?_
    refine m_i5 (u := k) X hA 0 (by decide) (by decide) rfl rfl d_Press_add_102 ?_
    refine lv_aload_n X.x X.b d_Press_add_103 rfl (lv_at hl 0 rfl) ?_
    refine lv_iconst (v := 1) X.x X.b d_Press_add_104 (by decide) ?_
    refine m_i5 (u := x) X hA 1 (by decide) (by decide) rfl rfl d_Press_add_105 ?_
    refine lv_aload_n X.x X.b d_Press_add_106 rfl (lv_at hl 0 rfl) ?_
    refine lv_iconst (v := 2) X.x X.b d_Press_add_107 (by decide) ?_
    refine m_i5 (u := y) X hA 2 (by decide) (by decide) rfl rfl d_Press_add_108 ?_
    refine lv_aload_n X.x X.b d_Press_add_109 rfl (lv_at hl 0 rfl) ?_
    refine lv_iconst (v := 3) X.x X.b d_Press_add_110 (by decide) ?_
    refine m_i5 (u := n) X hA 3 (by decide) (by decide) rfl rfl d_Press_add_111 ?_
    refine lv_aload_n X.x X.b d_Press_add_112 rfl (lv_at hl 0 rfl) ?_
    refine lv_iconst (v := 4) X.x X.b d_Press_add_113 (by decide) ?_
    refine m_i5 (u := 0) X hA 4 (by decide) (by decide) rfl rfl d_Press_add_114 ?_
    refine lv_iconst (v := 1) X.x X.b d_Press_add_115 (by decide) ?_
    refine lv_icmp_ne (tgt := 123) X.x X.b d_Press_add_116 (by decide) (fun c1 => ?_) (fun c1 => ?_)
    · skip
      refine lv_iconst (v := 0) X.x X.b d_Press_add_123 (by decide) ?_
      refine m_callV X hS (M_BP_add l g hB hr hcap hln hv rfl) v_Press_69 hB.1 rfl rfl rfl (Nat.le_of_ble_eq_true rfl) hl.1 d_Press_add_124 (by omega) (by decide) ⟨by omega, by omega⟩ (fun q z => z.elim (fun z => by have z : B ≤ q ∧ q < B + 287 := z; exact Or.inl (show P ≤ q by omega)) (fun z => Or.inr (Nat.le_trans hS.1 z))) (fun H5 locs hB hfr hS => ?_)
      have hR := hR.lo hs hfr (fun q z => by have z : B ≤ q ∧ q < B + 287 := z; omega)
      have hP := pt.fr hP hfr (fun z => by have z : B ≤ P ∧ P < B + 287 := z; omega)
      have hQ := pt.fr hQ hfr (fun z => by have z : B ≤ q ∧ q < B + 287 := z; omega)
      refine lv_aload_n X.x X.b d_Press_add_127 rfl (lv_at hl 2 rfl) ?_
      refine m_get (v := .ref RA) X ok_Press hP 3 (by decide) k_Press_18 rfl d_Press_add_128 ?_
      refine lv_iload_n X.x X.b d_Press_add_131 rfl (lv_at hl 1 rfl) ?_
      refine m_row (r := r) X hR hr rfl d_Press_add_132 ?_
      refine m_alen (v := nI (cnt r + 1)) X 5 rfl (hR.2 r hr).1 (by show nI (va_up cnt r (cnt r + 1) r) = nI (cnt r + 1); rw [va_up_self]) d_Press_add_133 ?_
      refine lv_iconst (v := 1) X.x X.b d_Press_add_134 (by decide) ?_
      refine lv_isub X.x X.b d_Press_add_135 ?_
      rw [nI_pred]
      refine lv_icmp_ne (tgt := 143) X.x X.b d_Press_add_136 (by decide) (fun c2 => ?_) (fun c2 => ?_)
      · exact absurd rfl c2
      · skip
        refine lv_iconst (v := 1) X.x X.b d_Press_add_139 (by decide) ?_
        refine lv_goto (tgt := 144) X.x X.b d_Press_add_140 (by decide) ?_
        exact m_zretX X hS (by omega) (by omega) d_Press_add_144 rfl ⟨rfl, _, _, _, _, _, _, _, ⟨hP, hR, hB, hs, hli, OKY.now _ _ _⟩, by omega, by omega⟩
    · exact absurd c1 (by decide)
  · skip
    have hv : (1 : Int32) = 0 ∨ (1 : Int32) = 1 := by decide
    refine lv_astore_n (lv' := [(2, .ref w), (1, .int (nI r)), (0, .ref P)]) X.x X.b d_Press_add_71 rfl hl (by decide) rfl (fun ls hl => ?_)
    refine lv_aload_n X.x X.b d_Press_add_72 rfl (lv_at hl 2 rfl) ?_
    refine m_get (v := .ref RA) X ok_Press hP 3 (by decide) k_Press_18 rfl d_Press_add_73 ?_
    refine lv_iload_n X.x X.b d_Press_add_76 rfl (lv_at hl 1 rfl) ?_
    refine lv_aload_n X.x X.b d_Press_add_77 rfl (lv_at hl 2 rfl) ?_
    refine m_get (v := .ref RA) X ok_Press hP 3 (by decide) k_Press_18 rfl d_Press_add_78 ?_
    refine lv_iload_n X.x X.b d_Press_add_81 rfl (lv_at hl 1 rfl) ?_
    refine m_row (r := r) X hR hr rfl d_Press_add_82 ?_
    refine lv_aload_n X.x X.b d_Press_add_83 rfl (lv_at hl 0 rfl) ?_
    refine lv_aload_n X.x X.b d_Press_add_84 rfl (lv_at hl 2 rfl) ?_
    refine m_get (v := .ref RA) X ok_Press hP 3 (by decide) k_Press_18 rfl d_Press_add_85 ?_
    refine lv_iload_n X.x X.b d_Press_add_88 rfl (lv_at hl 1 rfl) ?_
    refine m_row (r := r) X hR hr rfl d_Press_add_89 ?_
    refine m_alen (v := nI (cnt r)) X 5 rfl (hR.2 r hr).1 rfl d_Press_add_90 ?_
    have hqs := hR
    refine m_callSX X hS hx (N_Press_with (n := cnt r) (t := cnt r) (fl := fL r) (fw := dl k x y n 1) l g (hB.cap40 hr) (Nat.le_refl _) (hR.2 r hr).1 (fun i hi => ⟨_, _, (hR.2 r hr).2 i hi⟩) hA) s_Press_65 rfl rfl (Nat.le_of_ble_eq_true rfl) hl.1 d_Press_add_91 (by omega) (by decide) ⟨by omega, by omega⟩ (fun q z => z.elim (fun z => z.elim) (fun z => Or.inr (Nat.le_trans hS.1 z))) (fun w1 H3 locs hq hfr hS => ?_)
    have hwl := hA.lt
    have hH2 : H.size ≤ H2.size := Nat.le_trans (Nat.le_of_lt_succ (Nat.lt_succ_of_le hw)) (Nat.le_of_lt hwl)
    have hB := hB.frK hfr (fun q z => z.elim) (fun q z => z.elim)
    have hR := hR.lo hs hfr (fun q z => z.elim)
    have hx := hx.fr (g := g) hfr (fun z => z)
    have hP := pt.fr hP hfr (fun z => z)
    have hA := pt.fr hA hfr (fun z => z)
    clear hqs
    obtain ⟨q, rfl, hq0, hQ⟩ := hq
    obtain ⟨k6, y1, y2⟩ := XA.six X.kx
    obtain ⟨k5, k0, x3, x4, x0, -⟩ := XA.five X.kx
    have hsB := hs.1
    refine m_qast2 X hS (Or.inl (show P ≤ RA by omega)) y1 y2 x3 hR.1 hQ (fun q h => by cases h) rfl (vp_in_nI hr (by decide)) d_Press_add_94 (fun H4 locs hp hcg hS => ?_)
    rw [nI_clamp (show r < 2 ^ 31 by omega)] at hp
    have hB := hB.frK (fr.of_chg (A := eqA RA) hcg rfl) (fun q z y => by have z : q = RA := z; omega) (noLnA X.kx 6 rfl hR.1)
    have hP := hP.off hcg (by omega)
    have hx := hx.off hcg (by omega)
    have hR := hR.row (n := cnt r + 1) (fl := insF (fL r) (cnt r) w) (d' := insF (D r) (cnt r) (dl k x y n 1)) hs hcg hp hQ (by omega) (ins2 (p := fun z (u : Nat → Int32) => pt g z (.inl (g.2 0, 5, .inl u)) H3 ∧ z ≠ RA) (fun i hi => ⟨(hR.2 r hr).2 i hi, by have := (hs.2.2 r i hr hi).1; omega⟩) ⟨hA, by omega⟩ (Nat.le_refl _))
    have hs := hs.row (n := cnt r + 1) (fl := insF (fL r) (cnt r) w) hr (show RA < q by omega) (fun r2 hr2 z => by have := hfR r2 hr2; omega) (fun r2 i hr2 hi z => by have := hfl r2 i hr2 hi; omega) (ins_all (p := fun z => RA < z ∧ z ≠ q ∧ ∀ r2, r2 < 5 → z ≠ fR r2) (fun i hi => ⟨(hs.2.2 r i hr hi).1, (fun z => by have := hfl r i hr hi; omega), (hs.2.2 r i hr hi).2⟩) ⟨by omega, by omega, fun r2 hr2 z => by have := hfR r2 hr2; omega⟩ (Nat.le_refl _))
    have hli := hli.row (r := r) (n := cnt r + 1) (d' := insF (D r) (cnt r) (dl k x y n 1)) (ins_all (fun i hi => hli r i hr hi) (ln1_dl hln hv) (Nat.le_refl _))
    have hA := hA.off hcg (by omega)
    have hQ := hQ.off hcg (by omega)
    refine lv_aload_n X.x X.b d_Press_add_95 rfl (lv_at hl 2 rfl) ?_
    refine m_get (v := .ref B) X ok_Press hP 0 (by decide) k_Press_10 rfl d_Press_add_96 ?_
    refine lv_iload_n X.x X.b d_Press_add_99 rfl (lv_at hl 1 rfl) ?_
    refine lv_aload_n X.x X.b d_Press_add_100 rfl (lv_at hl 0 rfl) ?_
    refine lv_iconst (v := 0) X.x X.b d_Press_add_101 (by decide) ?_
    refine m_i5 (u := k) X hA 0 (by decide) (by decide) rfl rfl d_Press_add_102 ?_
    refine lv_aload_n X.x X.b d_Press_add_103 rfl (lv_at hl 0 rfl) ?_
    refine lv_iconst (v := 1) X.x X.b d_Press_add_104 (by decide) ?_
    refine m_i5 (u := x) X hA 1 (by decide) (by decide) rfl rfl d_Press_add_105 ?_
    refine lv_aload_n X.x X.b d_Press_add_106 rfl (lv_at hl 0 rfl) ?_
    refine lv_iconst (v := 2) X.x X.b d_Press_add_107 (by decide) ?_
    refine m_i5 (u := y) X hA 2 (by decide) (by decide) rfl rfl d_Press_add_108 ?_
    refine lv_aload_n X.x X.b d_Press_add_109 rfl (lv_at hl 0 rfl) ?_
    refine lv_iconst (v := 3) X.x X.b d_Press_add_110 (by decide) ?_
    refine m_i5 (u := n) X hA 3 (by decide) (by decide) rfl rfl d_Press_add_111 ?_
    refine lv_aload_n X.x X.b d_Press_add_112 rfl (lv_at hl 0 rfl) ?_
    refine lv_iconst (v := 4) X.x X.b d_Press_add_113 (by decide) ?_
    refine m_i5 (u := 1) X hA 4 (by decide) (by decide) rfl rfl d_Press_add_114 ?_
    refine lv_iconst (v := 1) X.x X.b d_Press_add_115 (by decide) ?_
    refine lv_icmp_ne (tgt := 123) X.x X.b d_Press_add_116 (by decide) (fun c3 => ?_) (fun c3 => ?_)
    · exact absurd c3 (by decide)
    · skip
      refine lv_iconst (v := 1) X.x X.b d_Press_add_119 (by decide) ?_
      refine lv_goto (tgt := 124) X.x X.b d_Press_add_120 (by decide) ?_
      refine m_callV X hS (M_BP_add l g hB hr hcap hln hv rfl) v_Press_69 hB.1 rfl rfl rfl (Nat.le_of_ble_eq_true rfl) hl.1 d_Press_add_124 (by omega) (by decide) ⟨by omega, by omega⟩ (fun q z => z.elim (fun z => by have z : B ≤ q ∧ q < B + 287 := z; exact Or.inl (show P ≤ q by omega)) (fun z => Or.inr (Nat.le_trans hS.1 z))) (fun H5 locs hB hfr hS => ?_)
      have hR := hR.lo hs hfr (fun q z => by have z : B ≤ q ∧ q < B + 287 := z; omega)
      have hP := pt.fr hP hfr (fun z => by have z : B ≤ P ∧ P < B + 287 := z; omega)
      have hQ := pt.fr hQ hfr (fun z => by have z : B ≤ q ∧ q < B + 287 := z; omega)
      refine lv_aload_n X.x X.b d_Press_add_127 rfl (lv_at hl 2 rfl) ?_
      refine m_get (v := .ref RA) X ok_Press hP 3 (by decide) k_Press_18 rfl d_Press_add_128 ?_
      refine lv_iload_n X.x X.b d_Press_add_131 rfl (lv_at hl 1 rfl) ?_
      refine m_row (r := r) X hR hr rfl d_Press_add_132 ?_
      refine m_alen (v := nI (cnt r + 1)) X 5 rfl (hR.2 r hr).1 (by show nI (va_up cnt r (cnt r + 1) r) = nI (cnt r + 1); rw [va_up_self]) d_Press_add_133 ?_
      refine lv_iconst (v := 1) X.x X.b d_Press_add_134 (by decide) ?_
      refine lv_isub X.x X.b d_Press_add_135 ?_
      rw [nI_pred]
      refine lv_icmp_ne (tgt := 143) X.x X.b d_Press_add_136 (by decide) (fun c4 => ?_) (fun c4 => ?_)
      · exact absurd rfl c4
      · skip
        refine lv_iconst (v := 1) X.x X.b d_Press_add_139 (by decide) ?_
        refine lv_goto (tgt := 144) X.x X.b d_Press_add_140 (by decide) ?_
        exact m_zretX X hS (by omega) (by omega) d_Press_add_144 rfl ⟨rfl, _, _, _, _, _, _, _, ⟨hP, hR, hB, hs, hli, OKY.now _ _ _⟩, by omega, by omega⟩
set_option maxRecDepth 100000 in
set_option maxHeartbeats 4000000 in
theorem add_43 {g : GG} {p : Program} {l : Launch} {e : Env} {s : State} {m : MethodId} {below : List Frame} {meth : Method} {cd : Code} {H0 H : Heap} {locs : List Loc} {cells slots : Nat} {nm : String} {ls : Array Slot} {b L P B RA d0 d : Nat} {xs : Nat → Int32} {V : Value × Value × Value} {cnt : Nat → Nat} {f : Nat → Nat → Nat} {fR : Nat → Nat} {fL : Nat → Nat → Nat} {D : DT} {Y : YS} (X : CX g p s m ([.ref P] : List Value).toArray meth cd c_Press_add 3 (some .boolean) R_Press nm) (hL : L ≤ 260) (hbP : b < P) (hx : va_X b L xs s H) (hS : va_S (AA (geA P) H0) H0 H locs) (hP : prAt g P B b RA V d H) (hR : rwAt g RA cnt fR fL D H) (hB : bAt g B cnt f D Y H) (hs : spG P B RA cnt fR fL) (hli : liG cnt D) (hok : OKY D cnt Y) (hPH : P < H0.size) (hd3 : d0 < 2800) {r : Nat} (hr : r < 5) (hd : d0 ≤ d ∧ d ≤ d0 + 2) (hcs : cells = 0 ∧ slots = 0) (hl : lv_has ls 3 [(1, .int (nI r)), (0, .ref P)]) : W p l e (rmK 23 4 56) s m ([.ref P] : List Value).toArray below meth cd H locs cells slots (MQ below (QX (opPv g P B b RA V d0 20) (geA P) H0) ([.ref P] : List Value).toArray s 4 56 (AA (geA P) H0)) (F0 m 43 ls []) := by
  refine lv_aload_n X.x X.b d_Press_add_43 rfl (lv_at hl 1 rfl) ?_
  refine m_get (v := .ref RA) X ok_Press hP 3 (by decide) k_Press_18 rfl d_Press_add_44 ?_
  refine lv_iload_n X.x X.b d_Press_add_47 rfl (lv_at hl 0 rfl) ?_
  refine m_row (r := r) X hR hr rfl d_Press_add_48 ?_
  refine m_alen (v := nI (cnt r)) X 5 rfl (hR.2 r hr).1 rfl d_Press_add_49 ?_
  refine lv_iload_n X.x X.b d_Press_add_50 rfl (lv_at hl 0 rfl) ?_
  refine lv_if_ne (tgt := 59) X.x X.b d_Press_add_51 (by decide) (fun c1 => ?_) (fun c1 => ?_)
  · skip
    refine lv_bipush (v := 10) X.x X.b d_Press_add_59 (by decide) ?_
    refine lv_icmp_ne (tgt := 66) X.x X.b d_Press_add_61 (by decide) (fun c2 => ?_) (fun c2 => ?_)
    · skip
      exact add_66 X hL hbP hx hS hP hR hB hs hli hok hPH hd3 hr (cap_1 hr (hB.cap hr) c1 c2) (by omega) (by omega) (lv_sub hl [0, 1] rfl)
    · skip
      refine lv_iconst (v := 1) X.x X.b d_Press_add_64 (by decide) ?_
      exact m_zretX X hS (by omega) (by omega) d_Press_add_65 rfl ⟨rfl, _, _, _, _, _, _, _, ⟨hP, hR, hB, hs, hli, hok⟩, by omega, by omega⟩
  · skip
    refine lv_bipush (v := 40) X.x X.b d_Press_add_54 (by decide) ?_
    refine lv_goto (tgt := 61) X.x X.b d_Press_add_56 (by decide) ?_
    refine lv_icmp_ne (tgt := 66) X.x X.b d_Press_add_61 (by decide) (fun c3 => ?_) (fun c3 => ?_)
    · skip
      exact add_66 X hL hbP hx hS hP hR hB hs hli hok hPH hd3 hr (cap_0 hr (hB.cap hr) c1 c3) (by omega) (by omega) (lv_sub hl [0, 1] rfl)
    · skip
      refine lv_iconst (v := 1) X.x X.b d_Press_add_64 (by decide) ?_
      exact m_zretX X hS (by omega) (by omega) d_Press_add_65 rfl ⟨rfl, _, _, _, _, _, _, _, ⟨hP, hR, hB, hs, hli, hok⟩, by omega, by omega⟩
set_option maxRecDepth 100000 in
set_option maxHeartbeats 4000000 in
theorem add_20 {g : GG} {p : Program} {l : Launch} {e : Env} {s : State} {m : MethodId} {below : List Frame} {meth : Method} {cd : Code} {H0 H : Heap} {locs : List Loc} {cells slots : Nat} {nm : String} {ls : Array Slot} {b L P B RA d0 d : Nat} {xs : Nat → Int32} {V : Value × Value × Value} {cnt : Nat → Nat} {f : Nat → Nat → Nat} {fR : Nat → Nat} {fL : Nat → Nat → Nat} {D : DT} {Y : YS} (X : CX g p s m ([.ref P] : List Value).toArray meth cd c_Press_add 3 (some .boolean) R_Press nm) (hL : L ≤ 260) (hbP : b < P) (hx : va_X b L xs s H) (hS : va_S (AA (geA P) H0) H0 H locs) (hP : prAt g P B b RA V d H) (hR : rwAt g RA cnt fR fL D H) (hB : bAt g B cnt f D Y H) (hs : spG P B RA cnt fR fL) (hli : liG cnt D) (hok : OKY D cnt Y) (hPH : P < H0.size) (hd3 : d0 < 2800) {r : Nat} (hr : r < 5) (hd : d0 ≤ d ∧ d ≤ d0 + 2) (hcs : cells = 0 ∧ slots = 0) (hl : lv_has ls 3 [(1, .int (nI r)), (0, .ref P)]) : W p l e (rmK 23 4 56) s m ([.ref P] : List Value).toArray below meth cd H locs cells slots (MQ below (QX (opPv g P B b RA V d0 20) (geA P) H0) ([.ref P] : List Value).toArray s 4 56 (AA (geA P) H0)) (F0 m 20 ls []) := by
  refine lv_aload_n X.x X.b d_Press_add_20 rfl (lv_at hl 1 rfl) ?_
  refine m_get (v := .ref RA) X ok_Press hP 3 (by decide) k_Press_18 rfl d_Press_add_21 ?_
  refine lv_iload_n X.x X.b d_Press_add_24 rfl (lv_at hl 0 rfl) ?_
  refine m_row (r := r) X hR hr rfl d_Press_add_25 ?_
  refine m_alen (v := nI (cnt r)) X 5 rfl (hR.2 r hr).1 rfl d_Press_add_26 ?_
  refine lv_iload_n X.x X.b d_Press_add_27 rfl (lv_at hl 0 rfl) ?_
  refine lv_if_ne (tgt := 36) X.x X.b d_Press_add_28 (by decide) (fun c1 => ?_) (fun c1 => ?_)
  · skip
    refine lv_bipush (v := 10) X.x X.b d_Press_add_36 (by decide) ?_
    refine lv_icmp_ne (tgt := 43) X.x X.b d_Press_add_38 (by decide) (fun c2 => ?_) (fun c2 => ?_)
    · skip
      exact add_43 (r := r) X hL hbP hx hS hP hR hB hs hli hok hPH hd3 hr (by omega) (by omega) (lv_sub hl [0, 1] rfl)
    · skip
      refine lv_iconst (v := 4) X.x X.b d_Press_add_41 (by decide) ?_
      refine lv_istore_n (lv' := [(1, .int 4), (0, .ref P)]) X.x X.b d_Press_add_42 rfl hl (by decide) rfl (fun ls hl => ?_)
      exact add_43 (r := 4) X hL hbP hx hS hP hR hB hs hli hok hPH hd3 (by omega) (by omega) (by omega) (lv_sub hl [0, 1] rfl)
  · skip
    refine lv_bipush (v := 40) X.x X.b d_Press_add_31 (by decide) ?_
    refine lv_goto (tgt := 38) X.x X.b d_Press_add_33 (by decide) ?_
    refine lv_icmp_ne (tgt := 43) X.x X.b d_Press_add_38 (by decide) (fun c3 => ?_) (fun c3 => ?_)
    · skip
      exact add_43 (r := r) X hL hbP hx hS hP hR hB hs hli hok hPH hd3 hr (by omega) (by omega) (lv_sub hl [0, 1] rfl)
    · skip
      refine lv_iconst (v := 4) X.x X.b d_Press_add_41 (by decide) ?_
      refine lv_istore_n (lv' := [(1, .int 4), (0, .ref P)]) X.x X.b d_Press_add_42 rfl hl (by decide) rfl (fun ls hl => ?_)
      exact add_43 (r := 4) X hL hbP hx hS hP hR hB hs hli hok hPH hd3 (by omega) (by omega) (by omega) (lv_sub hl [0, 1] rfl)
set_option maxRecDepth 100000 in
set_option maxHeartbeats 4000000 in
theorem add_0 {g : GG} {p : Program} {l : Launch} {e : Env} {s : State} {m : MethodId} {below : List Frame} {meth : Method} {cd : Code} {H0 H : Heap} {locs : List Loc} {cells slots : Nat} {nm : String} {ls : Array Slot} {b L P B RA d0 d : Nat} {xs : Nat → Int32} {V : Value × Value × Value} {cnt : Nat → Nat} {f : Nat → Nat → Nat} {fR : Nat → Nat} {fL : Nat → Nat → Nat} {D : DT} {Y : YS} (X : CX g p s m ([.ref P] : List Value).toArray meth cd c_Press_add 3 (some .boolean) R_Press nm) (hL : L ≤ 260) (hbP : b < P) (hx : va_X b L xs s H) (hS : va_S (AA (geA P) H0) H0 H locs) (hP : prAt g P B b RA V d H) (hR : rwAt g RA cnt fR fL D H) (hB : bAt g B cnt f D Y H) (hs : spG P B RA cnt fR fL) (hli : liG cnt D) (hok : OKY D cnt Y) (hPH : P < H0.size) (hd3 : d0 < 2800) (hd : d0 ≤ d ∧ d ≤ d0) (hcs : cells = 0 ∧ slots = 0) (hl : lv_has ls 3 [(0, .ref P)]) : W p l e (rmK 23 4 56) s m ([.ref P] : List Value).toArray below meth cd H locs cells slots (MQ below (QX (opPv g P B b RA V d0 20) (geA P) H0) ([.ref P] : List Value).toArray s 4 56 (AA (geA P) H0)) (F0 m 0 ls []) := by
  refine lv_aload_n X.x X.b d_Press_add_0 rfl (lv_at hl 0 rfl) ?_
  refine lv_iconst (v := 3) X.x X.b d_Press_add_1 (by decide) ?_
  refine m_callVX X hS hx (N_Press_draw (n := 3) l g hL hP (by omega) (by omega) (by omega)) v_Press_57 hP rfl rfl rfl (Nat.le_of_ble_eq_true rfl) hl.1 d_Press_add_2 (by omega) (by decide) ⟨by omega, by omega⟩ (fun q z => z.elim (fun z => by have z : q = P := z; exact Or.inl (Nat.le_of_eq z.symm)) (fun z => Or.inr (Nat.le_trans hS.1 z))) (fun w H locs hq hfr hS => ?_)
  have hB := hB.frK hfr (fun q z y => by have z : q = P := z; have := hs.1; omega) (noLnP X.kx hP)
  have hR := hR.lo hs hfr (fun q z => by have z : q = P := z; have := hs.1; omega)
  have hx := hx.fr (g := g) hfr (fun z => by have z : b = P := z; omega)
  clear hP
  obtain ⟨x1, hx1, rfl, hP⟩ := hq
  refine lv_if_ne (tgt := 18) X.x X.b d_Press_add_5 (by decide) (fun c2 => ?_) (fun c2 => ?_)
  · skip
    refine lv_iconst (v := 0) X.x X.b d_Press_add_18 (by decide) ?_
    refine lv_istore_n (lv' := [(1, .int 0), (0, .ref P)]) X.x X.b d_Press_add_19 rfl hl (by decide) rfl (fun ls hl => ?_)
    exact add_20 (r := 0) X hL hbP hx hS hP hR hB hs hli hok hPH hd3 (by omega) (by omega) (by omega) (lv_sub hl [0, 1] rfl)
  · skip
    refine lv_iconst (v := 1) X.x X.b d_Press_add_8 (by decide) ?_
    refine lv_aload_n X.x X.b d_Press_add_9 rfl (lv_at hl 0 rfl) ?_
    refine lv_iconst (v := 3) X.x X.b d_Press_add_10 (by decide) ?_
    refine m_callVX X hS hx (N_Press_draw (n := 3) l g hL hP (by omega) (by omega) (by omega)) v_Press_57 hP rfl rfl rfl (Nat.le_of_ble_eq_true rfl) hl.1 d_Press_add_11 (by omega) (by decide) ⟨by omega, by omega⟩ (fun q z => z.elim (fun z => by have z : q = P := z; exact Or.inl (Nat.le_of_eq z.symm)) (fun z => Or.inr (Nat.le_trans hS.1 z))) (fun w H locs hq hfr hS => ?_)
    have hB := hB.frK hfr (fun q z y => by have z : q = P := z; have := hs.1; omega) (noLnP X.kx hP)
    have hR := hR.lo hs hfr (fun q z => by have z : q = P := z; have := hs.1; omega)
    have hx := hx.fr (g := g) hfr (fun z => by have z : b = P := z; omega)
    clear hP
    obtain ⟨x3, hx3, rfl, hP⟩ := hq
    refine lv_iadd X.x X.b d_Press_add_14 ?_
    rw [show (1 : Int32) + nI x3 = nI (1 + x3) from nI_add 1 x3]
    refine lv_goto (tgt := 19) X.x X.b d_Press_add_15 (by decide) ?_
    refine lv_istore_n (lv' := [(1, .int (nI (1 + x3))), (0, .ref P)]) X.x X.b d_Press_add_19 rfl hl (by decide) rfl (fun ls hl => ?_)
    exact add_20 (r := 1 + x3) X hL hbP hx hS hP hR hB hs hli hok hPH hd3 (by omega) (by omega) (by omega) (lv_sub hl [0, 1] rfl)
theorem N_Press_add (l : Launch) (g : GG) {b L : Nat} {xs : Nat → Int32} {P B RA d : Nat} {V : Value × Value × Value} {cnt : Nat → Nat} {f : Nat → Nat → Nat} {fR : Nat → Nat} {fL : Nat → Nat → Nat} {D : DT} {Y : YS} {H0 : Heap} (hL : L ≤ 260) (hbP : b < P) (hP : lawP g P B b RA V d cnt f fR fL D Y H0) (hd : d < 2800) : MX l y_Press_add c_Press_add 3 (some .boolean) 23 4 56 g b L xs H0 [.ref P] (geA P) (opPv g P B b RA V d 20) := by
  refine MX.of (by decide +kernel) (Nat.le_of_ble_eq_true rfl) ?_
  intro p e s m below meth cd X hH hx ls hl
  obtain ⟨hP, hR, hB, hs, hli, hok⟩ := hP
  exact add_0 X hL hbP hx va_S.rf hP hR hB hs hli hok hP.lt hd ⟨Nat.le_refl _, Nat.le_refl _⟩ ⟨rfl, rfl⟩ hl
set_option maxRecDepth 100000 in
set_option maxHeartbeats 4000000 in
theorem change_44 {g : GG} {p : Program} {l : Launch} {e : Env} {s : State} {m : MethodId} {below : List Frame} {meth : Method} {cd : Code} {H0 H : Heap} {locs : List Loc} {cells slots : Nat} {nm : String} {ls : Array Slot} {b L P B RA d0 d : Nat} {xs : Nat → Int32} {V : Value × Value × Value} {cnt : Nat → Nat} {f : Nat → Nat → Nat} {fR : Nat → Nat} {fL : Nat → Nat → Nat} {D : DT} {Y : YS} (X : CX g p s m ([.ref P] : List Value).toArray meth cd c_Press_change 5 (some .boolean) R_Press nm) (hL : L ≤ 260) (hbP : b < P) (hx : va_X b L xs s H) (hS : va_S (AA (geA P) H0) H0 H locs) (hP : prAt g P B b RA V d H) (hR : rwAt g RA cnt fR fL D H) (hB : bAt g B cnt f D Y H) (hs : spG P B RA cnt fR fL) (hli : liG cnt D) (hok : OKY D cnt Y) (hPH : P < H0.size) (hd3 : d0 < 2800) {r : Nat} (hr : r < 5) {t : Nat} (ht : t < cnt r) (hd : d0 ≤ d ∧ d ≤ d0 + 6) (hcs : cells = 0 ∧ slots = 0) (hl : lv_has ls 5 [(2, .int (nI t)), (1, .int (nI r)), (0, .ref P)]) : W p l e (rmK 23 4 56) s m ([.ref P] : List Value).toArray below meth cd H locs cells slots (MQ below (QX (opPv g P B b RA V d0 20) (geA P) H0) ([.ref P] : List Value).toArray s 4 56 (AA (geA P) H0)) (F0 m 44 ls []) := by
  refine lv_aload_n X.x X.b d_Press_change_44 rfl (lv_at hl 2 rfl) ?_
  refine m_get (v := .ref RA) X ok_Press hP 3 (by decide) k_Press_18 rfl d_Press_change_45 ?_
  refine lv_iload_n X.x X.b d_Press_change_48 rfl (lv_at hl 1 rfl) ?_
  refine lv_aload_n X.x X.b d_Press_change_49 rfl (lv_at hl 2 rfl) ?_
  refine m_get (v := .ref RA) X ok_Press hP 3 (by decide) k_Press_18 rfl d_Press_change_50 ?_
  refine lv_iload_n X.x X.b d_Press_change_53 rfl (lv_at hl 1 rfl) ?_
  refine m_row (r := r) X hR hr rfl d_Press_change_54 ?_
  refine lv_iload_n X.x X.b d_Press_change_55 rfl (lv_at hl 0 rfl) ?_
  have hfl : ∀ r i, r < 5 → i < cnt r → fL r i < H.size := fun r i hr hi => ((hR.2 r hr).2 i hi).lt
  have hfR : ∀ r, r < 5 → fR r < H.size := fun r hr => (hR.2 r hr).1.lt
  have hRl : RA < H.size := hR.1.lt
  have e1 : cnt r - 1 + 1 = cnt r := by omega
  refine m_callSX X hS hx (N_Press_without (n := cnt r - 1) (t := t) (fl := fL r) l g (by have := hB.cap40 hr; omega) (by omega) (by rw [e1]; exact (hR.2 r hr).1) (fun i hi => ⟨_, _, (hR.2 r hr).2 i (by omega)⟩)) s_Press_73 rfl rfl (Nat.le_of_ble_eq_true rfl) hl.1 d_Press_change_56 (by omega) (by decide) ⟨by omega, by omega⟩ (fun q z => z.elim (fun z => z.elim) (fun z => Or.inr (Nat.le_trans hS.1 z))) (fun w1 H3 locs hq hfr hS => ?_)
  have hB := hB.frK hfr (fun q z => z.elim) (fun q z => z.elim)
  have hR := hR.lo hs hfr (fun q z => z.elim)
  have hx := hx.fr (g := g) hfr (fun z => z)
  have hP := pt.fr hP hfr (fun z => z)
  obtain ⟨q, rfl, hq0, hQ⟩ := hq
  obtain ⟨k6, y1, y2⟩ := XA.six X.kx
  obtain ⟨k5, k0, x3, x4, x0, -⟩ := XA.five X.kx
  have hsB := hs.1
  refine m_qast2 X hS (Or.inl (show P ≤ RA by omega)) y1 y2 x3 hR.1 hQ (fun q h => by cases h) rfl (vp_in_nI hr (by decide)) d_Press_change_59 (fun H4 locs hp hcg hS => ?_)
  rw [nI_clamp (show r < 2 ^ 31 by omega)] at hp
  have hB := hB.frK (fr.of_chg (A := eqA RA) hcg rfl) (fun q z y => by have z : q = RA := z; omega) (noLnA X.kx 6 rfl hR.1)
  have hP := hP.off hcg (by omega)
  have hx := hx.off hcg (by omega)
  have hR := hR.row (n := cnt r - 1) (fl := remF (fL r) t) (d' := remF (D r) t) hs hcg hp hQ (by omega) (rem2 (p := fun z (u : Nat → Int32) => pt g z (.inl (g.2 0, 5, .inl u)) H3 ∧ z ≠ RA) (fun i hi => ⟨(hR.2 r hr).2 i (by omega), by have := (hs.2.2 r i hr (by omega)).1; omega⟩))
  have hs := hs.row (n := cnt r - 1) (fl := remF (fL r) t) hr (show RA < q by omega) (fun r2 hr2 z => by have := hfR r2 hr2; omega) (fun r2 i hr2 hi z => by have := hfl r2 i hr2 hi; omega) (rem_all (p := fun z => RA < z ∧ z ≠ q ∧ ∀ r2, r2 < 5 → z ≠ fR r2) (fun i hi => ⟨(hs.2.2 r i hr (by omega)).1, (fun z => by have := hfl r i hr (by omega); omega), (hs.2.2 r i hr (by omega)).2⟩))
  have hli := hli.row (r := r) (n := cnt r - 1) (d' := remF (D r) t) (rem_all (fun i hi => hli r i hr (by omega)))
  have hQ := hQ.off hcg (by omega)
  refine lv_aload_n X.x X.b d_Press_change_60 rfl (lv_at hl 2 rfl) ?_
  refine m_get (v := .ref B) X ok_Press hP 0 (by decide) k_Press_10 rfl d_Press_change_61 ?_
  refine lv_iload_n X.x X.b d_Press_change_64 rfl (lv_at hl 1 rfl) ?_
  refine lv_iload_n X.x X.b d_Press_change_65 rfl (lv_at hl 0 rfl) ?_
  refine m_callV X hS (M_BP_cut l g hB hr ht) v_Press_77 hB.1 rfl rfl rfl (Nat.le_of_ble_eq_true rfl) hl.1 d_Press_change_66 (by omega) (by decide) ⟨by omega, by omega⟩ (fun q z => z.elim (fun z => by have z : B ≤ q ∧ q < B + 287 := z; exact Or.inl (show P ≤ q by omega)) (fun z => Or.inr (Nat.le_trans hS.1 z))) (fun H5 locs hB hfr hS => ?_)
  have hR := hR.lo hs hfr (fun q z => by have z : B ≤ q ∧ q < B + 287 := z; omega)
  have hP := pt.fr hP hfr (fun z => by have z : B ≤ P ∧ P < B + 287 := z; omega)
  refine lv_aload_n X.x X.b d_Press_change_69 rfl (lv_at hl 2 rfl) ?_
  refine m_get (v := .ref RA) X ok_Press hP 3 (by decide) k_Press_18 rfl d_Press_change_70 ?_
  refine lv_iload_n X.x X.b d_Press_change_73 rfl (lv_at hl 1 rfl) ?_
  refine m_row (r := r) X hR hr rfl d_Press_change_74 ?_
  refine m_alen (v := nI (cnt r - 1)) X 5 rfl (hR.2 r hr).1 (by show nI (va_up cnt r (cnt r - 1) r) = nI (cnt r - 1); rw [va_up_self]) d_Press_change_75 ?_
  refine lv_icmp_ne (tgt := 83) X.x X.b d_Press_change_76 (by decide) (fun c1 => ?_) (fun c1 => ?_)
  · exact absurd rfl c1
  · skip
    refine lv_iconst (v := 1) X.x X.b d_Press_change_79 (by decide) ?_
    refine lv_goto (tgt := 84) X.x X.b d_Press_change_80 (by decide) ?_
    exact m_zretX X hS (by omega) (by omega) d_Press_change_84 rfl ⟨rfl, _, _, _, _, _, _, _, ⟨hP, hR, hB, hs, hli, OKY.now _ _ _⟩, by omega, by omega⟩
set_option maxRecDepth 100000 in
set_option maxHeartbeats 4000000 in
theorem change_85 {g : GG} {p : Program} {l : Launch} {e : Env} {s : State} {m : MethodId} {below : List Frame} {meth : Method} {cd : Code} {H0 H : Heap} {locs : List Loc} {cells slots : Nat} {nm : String} {ls : Array Slot} {b L P B RA d0 d : Nat} {xs : Nat → Int32} {V : Value × Value × Value} {cnt : Nat → Nat} {f : Nat → Nat → Nat} {fR : Nat → Nat} {fL : Nat → Nat → Nat} {D : DT} {Y : YS} (X : CX g p s m ([.ref P] : List Value).toArray meth cd c_Press_change 5 (some .boolean) R_Press nm) (hL : L ≤ 260) (hbP : b < P) (hx : va_X b L xs s H) (hS : va_S (AA (geA P) H0) H0 H locs) (hP : prAt g P B b RA V d H) (hR : rwAt g RA cnt fR fL D H) (hB : bAt g B cnt f D Y H) (hs : spG P B RA cnt fR fL) (hli : liG cnt D) (hok : OKY D cnt Y) (hPH : P < H0.size) (hd3 : d0 < 2800) {r : Nat} (hr : r < 5) {t : Nat} (ht : t < cnt r) (hd : d0 ≤ d ∧ d ≤ d0 + 6) (hcs : cells = 0 ∧ slots = 0) (hl : lv_has ls 5 [(2, .int (nI t)), (1, .int (nI r)), (0, .ref P)]) : W p l e (rmK 23 4 56) s m ([.ref P] : List Value).toArray below meth cd H locs cells slots (MQ below (QX (opPv g P B b RA V d0 20) (geA P) H0) ([.ref P] : List Value).toArray s 4 56 (AA (geA P) H0)) (F0 m 85 ls []) := by
  refine lv_aload_n X.x X.b d_Press_change_85 rfl (lv_at hl 2 rfl) ?_
  refine m_get (v := .ref RA) X ok_Press hP 3 (by decide) k_Press_18 rfl d_Press_change_86 ?_
  refine lv_iload_n X.x X.b d_Press_change_89 rfl (lv_at hl 1 rfl) ?_
  refine m_row (r := r) X hR hr rfl d_Press_change_90 ?_
  refine lv_iload_n X.x X.b d_Press_change_91 rfl (lv_at hl 0 rfl) ?_
  refine m_rowld (r := r) (t := t) X hR hr ht (by have := hB.cap40 hr; omega) rfl d_Press_change_92 ?_
  refine lv_iconst (v := 0) X.x X.b d_Press_change_93 (by decide) ?_
  refine m_i5 (u := D r t 0) X ((hR.2 r hr).2 t ht) 0 (by decide) (by decide) rfl rfl d_Press_change_94 ?_
  refine lv_istore_n (lv' := [(3, .int (D r t 0)), (2, .int (nI t)), (1, .int (nI r)), (0, .ref P)]) X.x X.b d_Press_change_95 rfl hl (by decide) rfl (fun ls hl => ?_)
  refine lv_aload_n X.x X.b d_Press_change_96 rfl (lv_at hl 3 rfl) ?_
  refine lv_iload_n X.x X.b d_Press_change_97 rfl (lv_at hl 2 rfl) ?_
  refine m_callVX X hS hx (N_Press_line (r := r) l g hL hr hbP hP (by omega)) v_Press_61 hP rfl rfl rfl (Nat.le_of_ble_eq_true rfl) hl.1 d_Press_change_98 (by omega) (by decide) ⟨by omega, by omega⟩ (fun q z => z.elim (fun z => by have z : q = P := z; exact Or.inl (Nat.le_of_eq z.symm)) (fun z => Or.inr (Nat.le_trans hS.1 z))) (fun w H2 locs hq hfr hS => ?_)
  have hfl : ∀ r i, r < 5 → i < cnt r → fL r i < H.size := fun r i hr hi => ((hR.2 r hr).2 i hi).lt
  have hfR : ∀ r, r < 5 → fR r < H.size := fun r hr => (hR.2 r hr).1.lt
  have hRl : RA < H.size := hR.1.lt
  have hB := hB.frK hfr (fun q z y => by have z : q = P := z; have := hs.1; omega) (noLnP X.kx hP)
  have hR := hR.lo hs hfr (fun q z => by have z : q = P := z; have := hs.1; omega)
  have hx := hx.fr (g := g) hfr (fun z => by have z : b = P := z; omega)
  clear hP
  obtain ⟨w, d2, k, x, y, n, v, rfl, hw, hd2, hd4, hP, hA, hln, hv⟩ := hq
  rcases hv with rfl | rfl
  · skip
    have hv : (0 : Int32) = 0 ∨ (0 : Int32) = 1 := by decide
    refine lv_astore (lv' := [(4, .ref w), (3, .int (D r t 0)), (2, .int (nI t)), (1, .int (nI r)), (0, .ref P)]) X.x X.b d_Press_change_101 hl (by decide) rfl (fun ls hl => ?_)
    refine lv_aload_n X.x X.b d_Press_change_103 rfl (lv_at hl 4 rfl) ?_
    refine m_get (v := .ref RA) X ok_Press hP 3 (by decide) k_Press_18 rfl d_Press_change_104 ?_
    refine lv_iload_n X.x X.b d_Press_change_107 rfl (lv_at hl 3 rfl) ?_
    refine m_row (r := r) X hR hr rfl d_Press_change_108 ?_
    refine lv_iload_n X.x X.b d_Press_change_109 rfl (lv_at hl 2 rfl) ?_
    refine lv_aload X.x X.b d_Press_change_110 (lv_at hl 0 rfl) ?_
    obtain ⟨k5, k0, x3, x4, x0, -⟩ := XA.five X.kx
    have hsB := hs.1
    have hsR := (hs.2.1 r hr).1
    have hfr5 := hfR r hr
    refine m_qast2 X hS (Or.inl (show P ≤ fR r by omega)) x3 x4 x0 (hR.2 r hr).1 hA (fun q h => by cases h) rfl (vp_in_nI ht (by have := hB.cap40 hr; omega)) d_Press_change_112 (fun H4 locs hp hcg hS => ?_)
    rw [nI_clamp (show t < 2 ^ 31 by have := hB.cap40 hr; omega)] at hp
    have hB := hB.frK (fr.of_chg (A := eqA (fR r)) hcg rfl) (fun q z y => by have z : q = fR r := z; omega) (noLnA X.kx 5 rfl (hR.2 r hr).1)
    have hP := hP.off hcg (by omega)
    have hx := hx.off hcg (by omega)
    have hR := hR.one hs hr hcg hp hA (by omega)
    have hs := hs.one (r := r) (t := t) (show RA < w by omega) (fun r2 hr2 z => by have := hfR r2 hr2; omega)
    have hli := hli.one (r := r) (t := t) (ln1_dl hln hv)
    have hA := hA.off hcg (by omega)
    refine lv_aload_n X.x X.b d_Press_change_113 rfl (lv_at hl 4 rfl) ?_
    refine m_get (v := .ref B) X ok_Press hP 0 (by decide) k_Press_10 rfl d_Press_change_114 ?_
    refine lv_iload_n X.x X.b d_Press_change_117 rfl (lv_at hl 3 rfl) ?_
    refine lv_iload_n X.x X.b d_Press_change_118 rfl (lv_at hl 2 rfl) ?_
    refine lv_aload X.x X.b d_Press_change_119 (lv_at hl 0 rfl) ?_
    refine lv_iconst (v := 0) X.x X.b d_Press_change_121 (by decide) ?_
    refine m_i5 (u := k) X hA 0 (by decide) (by decide) rfl rfl d_Press_change_122 ?_
    refine lv_aload X.x X.b d_Press_change_123 (lv_at hl 0 rfl) ?_
    refine lv_iconst (v := 1) X.x X.b d_Press_change_125 (by decide) ?_
    refine m_i5 (u := x) X hA 1 (by decide) (by decide) rfl rfl d_Press_change_126 ?_
    refine lv_aload X.x X.b d_Press_change_127 (lv_at hl 0 rfl) ?_
    refine lv_iconst (v := 2) X.x X.b d_Press_change_129 (by decide) ?_
    refine m_i5 (u := y) X hA 2 (by decide) (by decide) rfl rfl d_Press_change_130 ?_
    refine lv_aload X.x X.b d_Press_change_131 (lv_at hl 0 rfl) ?_
    refine lv_iconst (v := 3) X.x X.b d_Press_change_133 (by decide) ?_
    refine m_i5 (u := n) X hA 3 (by decide) (by decide) rfl rfl d_Press_change_134 ?_
    refine lv_aload X.x X.b d_Press_change_135 (lv_at hl 0 rfl) ?_
    refine lv_iconst (v := 4) X.x X.b d_Press_change_137 (by decide) ?_
    refine m_i5 (u := 0) X hA 4 (by decide) (by decide) rfl rfl d_Press_change_138 ?_
    refine lv_iconst (v := 1) X.x X.b d_Press_change_139 (by decide) ?_
    refine lv_icmp_ne (tgt := 147) X.x X.b d_Press_change_140 (by decide) (fun c1 => ?_) (fun c1 => ?_)
    · skip
      refine lv_iconst (v := 0) X.x X.b d_Press_change_147 (by decide) ?_
      refine m_callV X hS (M_BP_put l g hB hr ht hln hv rfl) v_Press_80 hB.1 rfl rfl rfl (Nat.le_of_ble_eq_true rfl) hl.1 d_Press_change_148 (by omega) (by decide) ⟨by omega, by omega⟩ (fun q z => z.elim (fun z => by have z : B ≤ q ∧ q < B + 287 := z; exact Or.inl (show P ≤ q by omega)) (fun z => Or.inr (Nat.le_trans hS.1 z))) (fun H5 locs hB hfr hS => ?_)
      have hR := hR.lo hs hfr (fun q z => by have z : B ≤ q ∧ q < B + 287 := z; omega)
      have hP := pt.fr hP hfr (fun z => by have z : B ≤ P ∧ P < B + 287 := z; omega)
      refine lv_iload_n X.x X.b d_Press_change_151 rfl (lv_at hl 1 rfl) ?_
      refine lv_icmp_ne (tgt := 159) X.x X.b d_Press_change_152 (by decide) (fun c2 => ?_) (fun c2 => ?_)
      · exact absurd rfl c2
      · skip
        refine lv_iconst (v := 1) X.x X.b d_Press_change_155 (by decide) ?_
        refine lv_goto (tgt := 160) X.x X.b d_Press_change_156 (by decide) ?_
        exact m_zretX X hS (by omega) (by omega) d_Press_change_160 rfl ⟨rfl, _, _, _, _, _, _, _, ⟨hP, hR, hB, hs, hli, OKY.now _ _ _⟩, by omega, by omega⟩
    · exact absurd c1 (by decide)
  · skip
    have hv : (1 : Int32) = 0 ∨ (1 : Int32) = 1 := by decide
    refine lv_astore (lv' := [(4, .ref w), (3, .int (D r t 0)), (2, .int (nI t)), (1, .int (nI r)), (0, .ref P)]) X.x X.b d_Press_change_101 hl (by decide) rfl (fun ls hl => ?_)
    refine lv_aload_n X.x X.b d_Press_change_103 rfl (lv_at hl 4 rfl) ?_
    refine m_get (v := .ref RA) X ok_Press hP 3 (by decide) k_Press_18 rfl d_Press_change_104 ?_
    refine lv_iload_n X.x X.b d_Press_change_107 rfl (lv_at hl 3 rfl) ?_
    refine m_row (r := r) X hR hr rfl d_Press_change_108 ?_
    refine lv_iload_n X.x X.b d_Press_change_109 rfl (lv_at hl 2 rfl) ?_
    refine lv_aload X.x X.b d_Press_change_110 (lv_at hl 0 rfl) ?_
    obtain ⟨k5, k0, x3, x4, x0, -⟩ := XA.five X.kx
    have hsB := hs.1
    have hsR := (hs.2.1 r hr).1
    have hfr5 := hfR r hr
    refine m_qast2 X hS (Or.inl (show P ≤ fR r by omega)) x3 x4 x0 (hR.2 r hr).1 hA (fun q h => by cases h) rfl (vp_in_nI ht (by have := hB.cap40 hr; omega)) d_Press_change_112 (fun H4 locs hp hcg hS => ?_)
    rw [nI_clamp (show t < 2 ^ 31 by have := hB.cap40 hr; omega)] at hp
    have hB := hB.frK (fr.of_chg (A := eqA (fR r)) hcg rfl) (fun q z y => by have z : q = fR r := z; omega) (noLnA X.kx 5 rfl (hR.2 r hr).1)
    have hP := hP.off hcg (by omega)
    have hx := hx.off hcg (by omega)
    have hR := hR.one hs hr hcg hp hA (by omega)
    have hs := hs.one (r := r) (t := t) (show RA < w by omega) (fun r2 hr2 z => by have := hfR r2 hr2; omega)
    have hli := hli.one (r := r) (t := t) (ln1_dl hln hv)
    have hA := hA.off hcg (by omega)
    refine lv_aload_n X.x X.b d_Press_change_113 rfl (lv_at hl 4 rfl) ?_
    refine m_get (v := .ref B) X ok_Press hP 0 (by decide) k_Press_10 rfl d_Press_change_114 ?_
    refine lv_iload_n X.x X.b d_Press_change_117 rfl (lv_at hl 3 rfl) ?_
    refine lv_iload_n X.x X.b d_Press_change_118 rfl (lv_at hl 2 rfl) ?_
    refine lv_aload X.x X.b d_Press_change_119 (lv_at hl 0 rfl) ?_
    refine lv_iconst (v := 0) X.x X.b d_Press_change_121 (by decide) ?_
    refine m_i5 (u := k) X hA 0 (by decide) (by decide) rfl rfl d_Press_change_122 ?_
    refine lv_aload X.x X.b d_Press_change_123 (lv_at hl 0 rfl) ?_
    refine lv_iconst (v := 1) X.x X.b d_Press_change_125 (by decide) ?_
    refine m_i5 (u := x) X hA 1 (by decide) (by decide) rfl rfl d_Press_change_126 ?_
    refine lv_aload X.x X.b d_Press_change_127 (lv_at hl 0 rfl) ?_
    refine lv_iconst (v := 2) X.x X.b d_Press_change_129 (by decide) ?_
    refine m_i5 (u := y) X hA 2 (by decide) (by decide) rfl rfl d_Press_change_130 ?_
    refine lv_aload X.x X.b d_Press_change_131 (lv_at hl 0 rfl) ?_
    refine lv_iconst (v := 3) X.x X.b d_Press_change_133 (by decide) ?_
    refine m_i5 (u := n) X hA 3 (by decide) (by decide) rfl rfl d_Press_change_134 ?_
    refine lv_aload X.x X.b d_Press_change_135 (lv_at hl 0 rfl) ?_
    refine lv_iconst (v := 4) X.x X.b d_Press_change_137 (by decide) ?_
    refine m_i5 (u := 1) X hA 4 (by decide) (by decide) rfl rfl d_Press_change_138 ?_
    refine lv_iconst (v := 1) X.x X.b d_Press_change_139 (by decide) ?_
    refine lv_icmp_ne (tgt := 147) X.x X.b d_Press_change_140 (by decide) (fun c3 => ?_) (fun c3 => ?_)
    · exact absurd c3 (by decide)
    · skip
      refine lv_iconst (v := 1) X.x X.b d_Press_change_143 (by decide) ?_
      refine lv_goto (tgt := 148) X.x X.b d_Press_change_144 (by decide) ?_
      refine m_callV X hS (M_BP_put l g hB hr ht hln hv rfl) v_Press_80 hB.1 rfl rfl rfl (Nat.le_of_ble_eq_true rfl) hl.1 d_Press_change_148 (by omega) (by decide) ⟨by omega, by omega⟩ (fun q z => z.elim (fun z => by have z : B ≤ q ∧ q < B + 287 := z; exact Or.inl (show P ≤ q by omega)) (fun z => Or.inr (Nat.le_trans hS.1 z))) (fun H5 locs hB hfr hS => ?_)
      have hR := hR.lo hs hfr (fun q z => by have z : B ≤ q ∧ q < B + 287 := z; omega)
      have hP := pt.fr hP hfr (fun z => by have z : B ≤ P ∧ P < B + 287 := z; omega)
      refine lv_iload_n X.x X.b d_Press_change_151 rfl (lv_at hl 1 rfl) ?_
      refine lv_icmp_ne (tgt := 159) X.x X.b d_Press_change_152 (by decide) (fun c4 => ?_) (fun c4 => ?_)
      · exact absurd rfl c4
      · skip
        refine lv_iconst (v := 1) X.x X.b d_Press_change_155 (by decide) ?_
        refine lv_goto (tgt := 160) X.x X.b d_Press_change_156 (by decide) ?_
        exact m_zretX X hS (by omega) (by omega) d_Press_change_160 rfl ⟨rfl, _, _, _, _, _, _, _, ⟨hP, hR, hB, hs, hli, OKY.now _ _ _⟩, by omega, by omega⟩
set_option maxRecDepth 100000 in
set_option maxHeartbeats 4000000 in
theorem change_24 {g : GG} {p : Program} {l : Launch} {e : Env} {s : State} {m : MethodId} {below : List Frame} {meth : Method} {cd : Code} {H0 H : Heap} {locs : List Loc} {cells slots : Nat} {nm : String} {ls : Array Slot} {b L P B RA d0 d : Nat} {xs : Nat → Int32} {V : Value × Value × Value} {cnt : Nat → Nat} {f : Nat → Nat → Nat} {fR : Nat → Nat} {fL : Nat → Nat → Nat} {D : DT} {Y : YS} (X : CX g p s m ([.ref P] : List Value).toArray meth cd c_Press_change 5 (some .boolean) R_Press nm) (hL : L ≤ 260) (hbP : b < P) (hx : va_X b L xs s H) (hS : va_S (AA (geA P) H0) H0 H locs) (hP : prAt g P B b RA V d H) (hR : rwAt g RA cnt fR fL D H) (hB : bAt g B cnt f D Y H) (hs : spG P B RA cnt fR fL) (hli : liG cnt D) (hok : OKY D cnt Y) (hPH : P < H0.size) (hd3 : d0 < 2800) {r : Nat} (hr : r < 5) (hpos : 0 < cnt r) (hd : d0 ≤ d ∧ d ≤ d0 + 4) (hcs : cells = 0 ∧ slots = 0) (hl : lv_has ls 5 [(1, .int (nI r)), (0, .ref P)]) : W p l e (rmK 23 4 56) s m ([.ref P] : List Value).toArray below meth cd H locs cells slots (MQ below (QX (opPv g P B b RA V d0 20) (geA P) H0) ([.ref P] : List Value).toArray s 4 56 (AA (geA P) H0)) (F0 m 24 ls []) := by
  have hc40 := hB.cap40 hr
  refine lv_aload_n X.x X.b d_Press_change_24 rfl (lv_at hl 1 rfl) ?_
  refine lv_aload_n X.x X.b d_Press_change_25 rfl (lv_at hl 1 rfl) ?_
  refine m_get (v := .ref RA) X ok_Press hP 3 (by decide) k_Press_18 rfl d_Press_change_26 ?_
  refine lv_iload_n X.x X.b d_Press_change_29 rfl (lv_at hl 0 rfl) ?_
  refine m_row (r := r) X hR hr rfl d_Press_change_30 ?_
  refine m_alen (v := nI (cnt r)) X 5 rfl (hR.2 r hr).1 rfl d_Press_change_31 ?_
  refine m_callVX X hS hx (N_Press_draw (n := cnt r) l g hL hP (by omega) (by omega) (by omega)) v_Press_57 hP rfl rfl rfl (Nat.le_of_ble_eq_true rfl) hl.1 d_Press_change_32 (by omega) (by decide) ⟨by omega, by omega⟩ (fun q z => z.elim (fun z => by have z : q = P := z; exact Or.inl (Nat.le_of_eq z.symm)) (fun z => Or.inr (Nat.le_trans hS.1 z))) (fun w H locs hq hfr hS => ?_)
  have hB := hB.frK hfr (fun q z y => by have z : q = P := z; have := hs.1; omega) (noLnP X.kx hP)
  have hR := hR.lo hs hfr (fun q z => by have z : q = P := z; have := hs.1; omega)
  have hx := hx.fr (g := g) hfr (fun z => by have z : b = P := z; omega)
  clear hP
  obtain ⟨x1, hx1, rfl, hP⟩ := hq
  refine lv_istore_n (lv' := [(2, .int (nI x1)), (1, .int (nI r)), (0, .ref P)]) X.x X.b d_Press_change_35 rfl hl (by decide) rfl (fun ls hl => ?_)
  refine lv_aload_n X.x X.b d_Press_change_36 rfl (lv_at hl 2 rfl) ?_
  refine lv_iconst (v := 3) X.x X.b d_Press_change_37 (by decide) ?_
  refine m_callVX X hS hx (N_Press_draw (n := 3) l g hL hP (by omega) (by omega) (by omega)) v_Press_57 hP rfl rfl rfl (Nat.le_of_ble_eq_true rfl) hl.1 d_Press_change_38 (by omega) (by decide) ⟨by omega, by omega⟩ (fun q z => z.elim (fun z => by have z : q = P := z; exact Or.inl (Nat.le_of_eq z.symm)) (fun z => Or.inr (Nat.le_trans hS.1 z))) (fun w H locs hq hfr hS => ?_)
  have hB := hB.frK hfr (fun q z y => by have z : q = P := z; have := hs.1; omega) (noLnP X.kx hP)
  have hR := hR.lo hs hfr (fun q z => by have z : q = P := z; have := hs.1; omega)
  have hx := hx.fr (g := g) hfr (fun z => by have z : b = P := z; omega)
  clear hP
  obtain ⟨x2, hx2, rfl, hP⟩ := hq
  refine lv_if_ne (tgt := 85) X.x X.b d_Press_change_41 (by decide) (fun c3 => ?_) (fun c3 => ?_)
  · skip
    exact change_85 (t := x1) X hL hbP hx hS hP hR hB hs hli hok hPH hd3 hr hx1 (by omega) (by omega) (lv_sub hl [0, 1, 2] rfl)
  · skip
    exact change_44 (t := x1) X hL hbP hx hS hP hR hB hs hli hok hPH hd3 hr hx1 (by omega) (by omega) (lv_sub hl [0, 1, 2] rfl)
set_option maxRecDepth 100000 in
set_option maxHeartbeats 4000000 in
theorem change_12 {g : GG} {p : Program} {l : Launch} {e : Env} {s : State} {m : MethodId} {below : List Frame} {meth : Method} {cd : Code} {H0 H : Heap} {locs : List Loc} {cells slots : Nat} {nm : String} {ls : Array Slot} {b L P B RA d0 d : Nat} {xs : Nat → Int32} {V : Value × Value × Value} {cnt : Nat → Nat} {f : Nat → Nat → Nat} {fR : Nat → Nat} {fL : Nat → Nat → Nat} {D : DT} {Y : YS} (X : CX g p s m ([.ref P] : List Value).toArray meth cd c_Press_change 5 (some .boolean) R_Press nm) (hL : L ≤ 260) (hbP : b < P) (hx : va_X b L xs s H) (hS : va_S (AA (geA P) H0) H0 H locs) (hP : prAt g P B b RA V d H) (hR : rwAt g RA cnt fR fL D H) (hB : bAt g B cnt f D Y H) (hs : spG P B RA cnt fR fL) (hli : liG cnt D) (hok : OKY D cnt Y) (hPH : P < H0.size) (hd3 : d0 < 2800) {r : Nat} (hr : r < 5) (hd : d0 ≤ d ∧ d ≤ d0 + 4) (hcs : cells = 0 ∧ slots = 0) (hl : lv_has ls 5 [(1, .int (nI r)), (0, .ref P)]) : W p l e (rmK 23 4 56) s m ([.ref P] : List Value).toArray below meth cd H locs cells slots (MQ below (QX (opPv g P B b RA V d0 20) (geA P) H0) ([.ref P] : List Value).toArray s 4 56 (AA (geA P) H0)) (F0 m 12 ls []) := by
  refine lv_aload_n X.x X.b d_Press_change_12 rfl (lv_at hl 1 rfl) ?_
  refine m_get (v := .ref RA) X ok_Press hP 3 (by decide) k_Press_18 rfl d_Press_change_13 ?_
  refine lv_iload_n X.x X.b d_Press_change_16 rfl (lv_at hl 0 rfl) ?_
  refine m_row (r := r) X hR hr rfl d_Press_change_17 ?_
  refine m_alen (v := nI (cnt r)) X 5 rfl (hR.2 r hr).1 rfl d_Press_change_18 ?_
  refine lv_if_ne (tgt := 24) X.x X.b d_Press_change_19 (by decide) (fun c1 => ?_) (fun c1 => ?_)
  · skip
    exact change_24 X hL hbP hx hS hP hR hB hs hli hok hPH hd3 hr (Nat.pos_of_ne_zero (fun z => c1 (by rw [z]; rfl))) (by omega) (by omega) (lv_sub hl [0, 1] rfl)
  · skip
    refine lv_iconst (v := 1) X.x X.b d_Press_change_22 (by decide) ?_
    exact m_zretX X hS (by omega) (by omega) d_Press_change_23 rfl ⟨rfl, _, _, _, _, _, _, _, ⟨hP, hR, hB, hs, hli, hok⟩, by omega, by omega⟩
set_option maxRecDepth 100000 in
set_option maxHeartbeats 4000000 in
theorem change_0 {g : GG} {p : Program} {l : Launch} {e : Env} {s : State} {m : MethodId} {below : List Frame} {meth : Method} {cd : Code} {H0 H : Heap} {locs : List Loc} {cells slots : Nat} {nm : String} {ls : Array Slot} {b L P B RA d0 d : Nat} {xs : Nat → Int32} {V : Value × Value × Value} {cnt : Nat → Nat} {f : Nat → Nat → Nat} {fR : Nat → Nat} {fL : Nat → Nat → Nat} {D : DT} {Y : YS} (X : CX g p s m ([.ref P] : List Value).toArray meth cd c_Press_change 5 (some .boolean) R_Press nm) (hL : L ≤ 260) (hbP : b < P) (hx : va_X b L xs s H) (hS : va_S (AA (geA P) H0) H0 H locs) (hP : prAt g P B b RA V d H) (hR : rwAt g RA cnt fR fL D H) (hB : bAt g B cnt f D Y H) (hs : spG P B RA cnt fR fL) (hli : liG cnt D) (hok : OKY D cnt Y) (hPH : P < H0.size) (hd3 : d0 < 2800) (hd : d0 ≤ d ∧ d ≤ d0) (hcs : cells = 0 ∧ slots = 0) (hl : lv_has ls 5 [(0, .ref P)]) : W p l e (rmK 23 4 56) s m ([.ref P] : List Value).toArray below meth cd H locs cells slots (MQ below (QX (opPv g P B b RA V d0 20) (geA P) H0) ([.ref P] : List Value).toArray s 4 56 (AA (geA P) H0)) (F0 m 0 ls []) := by
  refine lv_aload_n X.x X.b d_Press_change_0 rfl (lv_at hl 0 rfl) ?_
  refine lv_iconst (v := 2) X.x X.b d_Press_change_1 (by decide) ?_
  refine m_callVX X hS hx (N_Press_draw (n := 2) l g hL hP (by omega) (by omega) (by omega)) v_Press_57 hP rfl rfl rfl (Nat.le_of_ble_eq_true rfl) hl.1 d_Press_change_2 (by omega) (by decide) ⟨by omega, by omega⟩ (fun q z => z.elim (fun z => by have z : q = P := z; exact Or.inl (Nat.le_of_eq z.symm)) (fun z => Or.inr (Nat.le_trans hS.1 z))) (fun w H locs hq hfr hS => ?_)
  have hB := hB.frK hfr (fun q z y => by have z : q = P := z; have := hs.1; omega) (noLnP X.kx hP)
  have hR := hR.lo hs hfr (fun q z => by have z : q = P := z; have := hs.1; omega)
  have hx := hx.fr (g := g) hfr (fun z => by have z : b = P := z; omega)
  clear hP
  obtain ⟨x1, hx1, rfl, hP⟩ := hq
  refine lv_aload_n X.x X.b d_Press_change_5 rfl (lv_at hl 0 rfl) ?_
  refine lv_iconst (v := 4) X.x X.b d_Press_change_6 (by decide) ?_
  refine m_callVX X hS hx (N_Press_draw (n := 4) l g hL hP (by omega) (by omega) (by omega)) v_Press_57 hP rfl rfl rfl (Nat.le_of_ble_eq_true rfl) hl.1 d_Press_change_7 (by omega) (by decide) ⟨by omega, by omega⟩ (fun q z => z.elim (fun z => by have z : q = P := z; exact Or.inl (Nat.le_of_eq z.symm)) (fun z => Or.inr (Nat.le_trans hS.1 z))) (fun w H locs hq hfr hS => ?_)
  have hB := hB.frK hfr (fun q z y => by have z : q = P := z; have := hs.1; omega) (noLnP X.kx hP)
  have hR := hR.lo hs hfr (fun q z => by have z : q = P := z; have := hs.1; omega)
  have hx := hx.fr (g := g) hfr (fun z => by have z : b = P := z; omega)
  clear hP
  obtain ⟨x2, hx2, rfl, hP⟩ := hq
  refine lv_imul X.x X.b d_Press_change_10 ?_
  rw [nI_mul]
  refine lv_istore_n (lv' := [(1, .int (nI (x1 * x2))), (0, .ref P)]) X.x X.b d_Press_change_11 rfl hl (by decide) rfl (fun ls hl => ?_)
  exact change_12 (r := x1 * x2) X hL hbP hx hS hP hR hB hs hli hok hPH hd3 (by rcases (show x1 = 0 ∨ x1 = 1 by omega) with h | h <;> rw [h] <;> omega) (by omega) (by omega) (lv_sub hl [0, 1] rfl)
theorem N_Press_change (l : Launch) (g : GG) {b L : Nat} {xs : Nat → Int32} {P B RA d : Nat} {V : Value × Value × Value} {cnt : Nat → Nat} {f : Nat → Nat → Nat} {fR : Nat → Nat} {fL : Nat → Nat → Nat} {D : DT} {Y : YS} {H0 : Heap} (hL : L ≤ 260) (hbP : b < P) (hP : lawP g P B b RA V d cnt f fR fL D Y H0) (hd : d < 2800) : MX l y_Press_change c_Press_change 5 (some .boolean) 23 4 56 g b L xs H0 [.ref P] (geA P) (opPv g P B b RA V d 20) := by
  refine MX.of (by decide +kernel) (Nat.le_of_ble_eq_true rfl) ?_
  intro p e s m below meth cd X hH hx ls hl
  obtain ⟨hP, hR, hB, hs, hli, hok⟩ := hP
  exact change_0 X hL hbP hx va_S.rf hP hR hB hs hli hok hP.lt hd ⟨Nat.le_refl _, Nat.le_refl _⟩ ⟨rfl, rfl⟩ hl
set_option maxRecDepth 100000 in
set_option maxHeartbeats 4000000 in
theorem N_Press_found (l : Launch) (g : GG) {b L : Nat} {xs : Nat → Int32} {P B RA d0 : Nat} {V : Value × Value × Value} {cnt : Nat → Nat} {f : Nat → Nat → Nat} {fR : Nat → Nat} {fL : Nat → Nat → Nat} {D : DT} {Y : YS} {H0 : Heap} (hL : L ≤ 260) (hbP : b < P) (hP : lawP g P B b RA V d0 cnt f fR fL D Y H0) (hd : d0 < 2000) : MX l y_Press_found c_Press_found 2 (some .boolean) 24 64 896 g b L xs H0 [.ref P] (geA P) (opPv g P B b RA V d0 320) := by
  refine MX.of (by decide +kernel) (Nat.le_of_ble_eq_true rfl) ?_
  intro p e s m below meth cd X hH hx ls hl
  have X : CX g p s m _ meth cd c_Press_found 2 (some .boolean) R_Press _ := X
  have hl : lv_has ls 2 [(0, .ref P)] := hl
  have hS : va_S (AA (geA P) H0) H0 H0 [] := va_S.rf
  have lp : ∀ (n i : Nat) (d : Nat) (cnt : Nat → Nat) (f : Nat → Nat → Nat) (fR : Nat → Nat) (fL : Nat → Nat → Nat) (D : DT) (Y : YS) (H : Heap) (locs : List Loc) (ls : Array Slot) (cells slots : Nat), n = 16 - i → i ≤ 16 → d0 ≤ d ∧ d ≤ d0 + 20 * i → cells ≤ 4 * i ∧ slots ≤ 56 * i → lawP g P B b RA V d cnt f fR fL D Y H → va_X b L xs s H → va_S (AA (geA P) H0) H0 H locs → lv_has ls 2 [(1, .int (nI i)), (0, .ref P)] → W p l e (rmK 24 64 896) s m ([.ref P] : List Value).toArray below meth cd H locs cells slots (MQ below (QX (opPv g P B b RA V d0 320) (geA P) H0) ([.ref P] : List Value).toArray s 64 896 (AA (geA P) H0)) (F0 m 2 ls []) := by
    intro n
    induction n with
    | zero =>
      intro i d cnt f fR fL D Y H locs ls cells slots hn hi hd hcs hP hx hS hl
      refine lv_iload_n X.x X.b d_Press_found_2 rfl (lv_at hl 0 rfl) ?_
      refine lv_bipush (v := 16) X.x X.b d_Press_found_3 (by decide) ?_
      refine lv_icmp_ge (tgt := 23) X.x X.b d_Press_found_5 (by decide) (fun c1 => ?_) (fun c1 => ?_)
      · refine lv_iconst (v := 1) X.x X.b d_Press_found_23 (by decide) ?_
        exact m_zretX X hS (by omega) (by omega) d_Press_found_24 rfl ⟨rfl, _, _, _, _, _, _, _, hP, by omega, by omega⟩
      · exact absurd (nI_le (a := 16) (by omega) (by omega)) c1
    | succ n ih =>
      intro i d cnt f fR fL D Y H locs ls cells slots hn hi hd hcs hP hx hS hl
      refine lv_iload_n X.x X.b d_Press_found_2 rfl (lv_at hl 0 rfl) ?_
      refine lv_bipush (v := 16) X.x X.b d_Press_found_3 (by decide) ?_
      refine lv_icmp_ge (tgt := 23) X.x X.b d_Press_found_5 (by decide) (fun c1 => ?_) (fun c1 => ?_)
      · exact absurd ((nI_leI (a := 16) (b := i) (by omega) (by omega)).mp c1) (by omega)
      · refine lv_aload_n X.x X.b d_Press_found_8 rfl (lv_at hl 1 rfl) ?_
        refine m_callVX X hS hx (N_Press_add l g hL hbP hP (by omega)) v_Press_145 hP.1 rfl rfl rfl (Nat.le_of_ble_eq_true rfl) hl.1 d_Press_found_9 (by omega) (by decide) ⟨by omega, by omega⟩ (fun q z => z.elim Or.inl (fun z => Or.inr (Nat.le_trans hS.1 z))) (fun w H1 locs hq hfr hS => ?_)
        have hx := hx.fr (g := g) hfr (fun z => by have z : P ≤ b := z; omega)
        obtain ⟨rfl, d2, cnt2, f2, fR2, fL2, D2, Y2, hP2, h1, h2⟩ := hq
        refine lv_if_ne (tgt := 17) X.x X.b d_Press_found_12 (by decide) (fun c2 => ?_) (fun c2 => ?_)
        · refine lv_iinc (v := nI (i + 1)) (lv' := [(1, .int (nI (i + 1))), (0, .ref P)]) X.x X.b d_Press_found_17 hl (k := 0) rfl (nI_1 i) (by decide) rfl (fun ls hl => ?_)
          refine lv_goto (tgt := 2) X.x X.b d_Press_found_20 (by decide) ?_
          exact ih (i + 1) d2 _ _ _ _ _ _ H1 locs ls _ _ (by omega) (by omega) (by omega) (by omega) hP2 hx hS hl
        · exact absurd c2 (by decide)
  refine lv_iconst (v := 0) X.x X.b d_Press_found_0 (by decide) ?_
  refine lv_istore_n (lv' := [(1, .int 0), (0, .ref P)]) X.x X.b d_Press_found_1 rfl hl (by decide) rfl (fun ls hl => ?_)
  exact lp 16 0 d0 cnt f fR fL D Y H0 [] ls 0 0 rfl (by omega) (by omega) (by omega) hP hx hS hl
