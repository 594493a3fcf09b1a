-- ADD, CHANGE, FOUND OF THE LAW'S PRESS
theorem ins2 {α β : Type} {p : α → β → Prop} {F : Nat → α} {G : Nat → β} {n t : Nat} {v : α} {u : β} (h : ∀ i, i < n → p (F i) (G i)) (hv : p v u) (ht : t ≤ n) : ∀ i, i < n + 1 → p (insF F t v i) (insF G t u i) := fun i hi => by
  unfold insF
  by_cases a : i < t
  · rw [if_pos a, if_pos a]; exact h i (by omega)
  · rw [if_neg a, if_neg a]
    by_cases e : i = t
    · rw [if_pos e, if_pos e]; exact hv
    · rw [if_neg e, if_neg e]; exact h (i - 1) (by omega)
theorem rem2 {α β : Type} {p : α → β → Prop} {F : Nat → α} {G : Nat → β} {n t : Nat} (h : ∀ i, i < n + 1 → p (F i) (G i)) : ∀ i, i < n → p (remF F t i) (remF G t i) := fun i hi => by
  unfold remF
  by_cases a : i < t
  · rw [if_pos a, if_pos a]; exact h i (by omega)
  · rw [if_neg a, if_neg a]; exact h (i + 1) (by omega)
theorem noLnP {g : GG} {s : State} {P B b RA d : Nat} {V : Value × Value × Value} {H : Heap} (K : KK g s) (hP : prAt g P B b RA V d H) : ∀ q, eqA P q → ¬ isLn g q H := fun q z ⟨vs, h⟩ => by
  have z : q = P := z
  rw [z] at h
  exact ln_obj K h hP
theorem noLnA {g : GG} {s : State} {a n : Nat} {F : Nat → Option Nat} {cA : ClassId} {ty : FieldType} {H : Heap} (K : KK g s) (t0 : Nat) (ht : (vtys g)[t0]? = some (cA, ty)) (h2 : pt g a (qarr cA n F) H) : ∀ q, eqA a q → ¬ isLn g q H := fun q z ⟨vs, h⟩ => by
  have z : q = a := z
  rw [z] at h
  exact ln_arr K t0 ht (vp_cell_q cA n F) h h2
section I5
variable {g : GG} {p : Program} {l : Launch} {e : Env} {R : Room} {s : State} {m : MethodId} {args : Array Value} {below : List Frame} {meth : Method} {c : Code} {H : Heap} {locs : List Loc} {cells slots : Nat} {Q : State → Prop}
variable {cc : ByteArray} {nL : Nat} {ret : Option FieldType} {own nm : String} {pc : Nat} {ls : Array Slot} {rest : List Value} {a : Nat}
theorem m_i5 (X : CX g p s m args meth c cc nL ret own nm) {n : Nat} {f : Nat → Int32} (h : pt g a (.inl (g.2 0, n, .inl f)) H) (j : Nat) (hj : j < n) (hn : n < 2 ^ 31) {i : Int32} (hi : i = nI j) {u : Int32} (hu : f j = u) (hdg : decode cc pc = .ok (.iaload, 1))
    (kk : W p l e R s m args below meth c H locs cells slots Q (F0 m (pc + 1) ls (.int u :: rest))) : W p l e R s m args below meth c H locs cells slots Q (F0 m pc ls (.int i :: .ref a :: rest)) := by
  subst hi
  refine m_iald X h (vp_in_nI hj hn) hdg ?_
  rw [nI_clamp (by omega), hu]
  exact kk
/-- a row of the law's rows -/
theorem m_row (X : CX g p s m args meth c cc nL ret own nm) {RA : Nat} {cnt : Nat → Nat} {fR : Nat → Nat} {fL : Nat → Nat → Nat} {D : DT} (h : rwAt g RA cnt fR fL D H) {r : Nat} (hr : r < 5) {i : Int32} (hi : i = nI r) (hdg : decode cc pc = .ok (.aaload, 1))
    (kk : W p l e R s m args below meth c H locs cells slots Q (F0 m (pc + 1) ls (.ref (fR r) :: rest))) : W p l e R s m args below meth c H locs cells slots Q (F0 m pc ls (.int i :: .ref RA :: rest)) := by
  subst hi
  exact m_qald2 (v := .ref (fR r)) X 6 rfl h.1 (vp_in_nI hr (by decide)) (by rw [nI_clamp (by omega)]; rfl) hdg kk
theorem m_rowlen (X : CX g p s m args meth c cc nL ret own nm) {RA : Nat} {cnt : Nat → Nat} {fR : Nat → Nat} {fL : Nat → Nat → Nat} {D : DT} (h : rwAt g RA cnt fR fL D H) {r : Nat} (hr : r < 5) (hdg : decode cc pc = .ok (.arraylength, 1))
    (kk : W p l e R s m args below meth c H locs cells slots Q (F0 m (pc + 1) ls (.int (nI (cnt r)) :: rest))) : W p l e R s m args below meth c H locs cells slots Q (F0 m pc ls (.ref (fR r) :: rest)) :=
  m_alen (v := nI (cnt r)) X 5 rfl (h.2 r hr).1 rfl hdg kk
theorem m_rowld (X : CX g p s m args meth c cc nL ret own nm) {RA : Nat} {cnt : Nat → Nat} {fR : Nat → Nat} {fL : Nat → Nat → Nat} {D : DT} (h : rwAt g RA cnt fR fL D H) {r t : Nat} (hr : r < 5) (ht : t < cnt r) (hc : cnt r < 2 ^ 31) {i : Int32} (hi : i = nI t) (hdg : decode cc pc = .ok (.aaload, 1))
    (kk : W p l e R s m args below meth c H locs cells slots Q (F0 m (pc + 1) ls (.ref (fL r t) :: rest))) : W p l e R s m args below meth c H locs cells slots Q (F0 m pc ls (.int i :: .ref (fR r) :: rest)) := by
  subst hi
  exact m_qald2 (v := .ref (fL r t)) X 5 rfl (h.2 r hr).1 (vp_in_nI ht hc) (by rw [nI_clamp (by omega)]; rfl) hdg kk
end I5
theorem cap_0 {cnt : Nat → Nat} {r : Nat} (hr : r < 5) (h : cnt r ≤ capF 40 r) (h0 : nI r = 0) (hn : ¬ nI (cnt r) = 40) : cnt r < capF 40 r := by
  have e : r = 0 := (nI_eq (a := r) (b := 0) (by omega) (by omega)).mp h0
  subst e
  have h : cnt 0 ≤ 40 := h
  show cnt 0 < 40
  rcases Nat.lt_or_ge (cnt 0) 40 with z | z
  · exact z
  · exact absurd (show nI (cnt 0) = 40 by rw [show cnt 0 = 40 by omega]; rfl) hn
theorem cap_1 {cnt : Nat → Nat} {r : Nat} (hr : r < 5) (h : cnt r ≤ capF 40 r) (h0 : ¬ nI r = 0) (hn : ¬ nI (cnt r) = 10) : cnt r < capF 40 r := by
  have e : ¬ r = 0 := fun z => h0 (by rw [z]; rfl)
  unfold capF at h ⊢
  rw [if_neg e] at h ⊢
  rcases Nat.lt_or_ge (cnt r) 10 with z | z
  · exact z
  · exact absurd (show nI (cnt r) = 10 by rw [show cnt r = 10 by omega]; rfl) hn
set_option maxRecDepth 100000 in
set_option maxHeartbeats 4000000 in
theorem add_66 {g : GG} {p : Program} {l : Launch} {e : Env} {s : State} {m : MethodId} {below : List Frame} {meth : Method} {cd : Code} {H0 H : Heap} {locs : List Loc} {cells slots : Nat} {nm : String} {ls : Array Slot} {b L P B RA d0 d : Nat} {xs : Nat → Int32} {V : Value × Value × Value} {cnt : Nat → Nat} {f : Nat → Nat → Nat} {fR : Nat → Nat} {fL : Nat → Nat → Nat} {D : DT} {Y : YS} (X : CX g p s m ([.ref P] : List Value).toArray meth cd c_Press_add 3 (some .boolean) R_Press nm) (hL : L ≤ 260) (hbP : b < P) (hx : va_X b L xs s H) (hS : va_S (AA (geA P) H0) H0 H locs) (hP : prAt g P B b RA V d H) (hR : rwAt g RA cnt fR fL D H) (hB : bAt g B cnt f D Y H) (hs : spG P B RA cnt fR fL) (hli : liG cnt D) (hok : OKY D cnt Y) (hPH : P < H0.size) (hd3 : d0 < 2800) {r : Nat} (hr : r < 5) (hcap : cnt r < capF 40 r) (hd : d0 ≤ d ∧ d ≤ d0 + 2) (hcs : cells = 0 ∧ slots = 0) (hl : lv_has ls 3 [(1, .int (nI r)), (0, .ref P)]) : W p l e (rmK 23 4 56) s m ([.ref P] : List Value).toArray below meth cd H locs cells slots (MQ below (QX (opPv g P B b RA V d0 20) (geA P) H0) ([.ref P] : List Value).toArray s 4 56 (AA (geA P) H0)) (F0 m 66 ls []) := by
  refine lv_aload_n X.x X.b d_Press_add_66 rfl (lv_at hl 1 rfl) ?_
  refine lv_iload_n X.x X.b d_Press_add_67 rfl (lv_at hl 0 rfl) ?_
  refine m_callVX X hS hx (N_Press_line (r := r) l g hL hr hbP hP (by omega)) v_Press_61 hP rfl rfl rfl (Nat.le_of_ble_eq_true rfl) hl.1 d_Press_add_68 (by omega) (by decide) ⟨by omega, by omega⟩ (fun q z => z.elim (fun z => by have z : q = P := z; exact Or.inl (Nat.le_of_eq z.symm)) (fun z => Or.inr (Nat.le_trans hS.1 z))) (fun w H2 locs hq hfr hS => ?_)
  have hfl : ∀ r i, r < 5 → i < cnt r → fL r i < H.size := fun r i hr hi => ((hR.2 r hr).2 i hi).lt
  have hfR : ∀ r, r < 5 → fR r < H.size := fun r hr => (hR.2 r hr).1.lt
  have hRl : RA < H.size := hR.1.lt
  have hB := hB.frK hfr (fun q z y => by have z : q = P := z; have := hs.1; omega) (noLnP X.kx hP)
  have hR := hR.lo hs hfr (fun q z => by have z : q = P := z; have := hs.1; omega)
  have hx := hx.fr (g := g) hfr (fun z => by have z : b = P := z; omega)
  clear hP
  obtain ⟨w, d2, k, x, y, n, v, rfl, hw, hd2, hd4, hP, hA, hln, hv⟩ := hq
  rcases hv with rfl | rfl
  · skip
    have hv : (0 : Int32) = 0 ∨ (0 : Int32) = 1 := by decide
    refine lv_astore_n (lv' := [(2, .ref w), (1, .int (nI r)), (0, .ref P)]) X.x X.b d_Press_add_71 rfl hl (by decide) rfl (fun ls hl => ?_)
    refine lv_aload_n X.x X.b d_Press_add_72 rfl (lv_at hl 2 rfl) ?_
    refine m_get (v := .ref RA) X ok_Press hP 3 (by decide) k_Press_18 rfl d_Press_add_73 ?_
    refine lv_iload_n X.x X.b d_Press_add_76 rfl (lv_at hl 1 rfl) ?_
    refine lv_aload_n X.x X.b d_Press_add_77 rfl (lv_at hl 2 rfl) ?_
    refine m_get (v := .ref RA) X ok_Press hP 3 (by decide) k_Press_18 rfl d_Press_add_78 ?_
    refine lv_iload_n X.x X.b d_Press_add_81 rfl (lv_at hl 1 rfl) ?_
    refine m_row (r := r) X hR hr rfl d_Press_add_82 ?_
    refine lv_aload_n X.x X.b d_Press_add_83 rfl (lv_at hl 0 rfl) ?_
    refine lv_aload_n X.x X.b d_Press_add_84 rfl (lv_at hl 2 rfl) ?_
    refine m_get (v := .ref RA) X ok_Press hP 3 (by decide) k_Press_18 rfl d_Press_add_85 ?_
    refine lv_iload_n X.x X.b d_Press_add_88 rfl (lv_at hl 1 rfl) ?_
    refine m_row (r := r) X hR hr rfl d_Press_add_89 ?_
    refine m_alen (v := nI (cnt r)) X 5 rfl (hR.2 r hr).1 rfl d_Press_add_90 ?_
    have hqs := hR
    refine m_callSX X hS hx (N_Press_with (n := cnt r) (t := cnt r) (fl := fL r) (fw := dl k x y n 0) l g (hB.cap40 hr) (Nat.le_refl _) (hR.2 r hr).1 (fun i hi => ⟨_, _, (hR.2 r hr).2 i hi⟩) hA) s_Press_65 rfl rfl (Nat.le_of_ble_eq_true rfl) hl.1 d_Press_add_91 (by omega) (by decide) ⟨by omega, by omega⟩ (fun q z => z.elim (fun z => z.elim) (fun z => Or.inr (Nat.le_trans hS.1 z))) (fun w1 H3 locs hq hfr hS => ?_)
    have hwl := hA.lt
    have hH2 : H.size ≤ H2.size := Nat.le_trans (Nat.le_of_lt_succ (Nat.lt_succ_of_le hw)) (Nat.le_of_lt hwl)
    have hB := hB.frK hfr (fun q z => z.elim) (fun q z => z.elim)
    have hR := hR.lo hs hfr (fun q z => z.elim)
    have hx := hx.fr (g := g) hfr (fun z => z)
    have hP := pt.fr hP hfr (fun z => z)
    have hA := pt.fr hA hfr (fun z => z)
    clear hqs
    obtain ⟨q, rfl, hq0, hQ⟩ := hq
    obtain ⟨k6, y1, y2⟩ := XA.six X.kx
    obtain ⟨k5, k0, x3, x4, x0, -⟩ := XA.five X.kx
    have hsB := hs.1
    refine m_qast2 X hS (Or.inl (show P ≤ RA by omega)) y1 y2 x3 hR.1 hQ (fun q h => by cases h) rfl (vp_in_nI hr (by decide)) d_Press_add_94 (fun H4 locs hp hcg hS => ?_)
    rw [nI_clamp (show r < 2 ^ 31 by omega)] at hp
    have hB := hB.frK (fr.of_chg (A := eqA RA) hcg rfl) (fun q z y => by have z : q = RA := z; omega) (noLnA X.kx 6 rfl hR.1)
    have hP := hP.off hcg (by omega)
    have hx := hx.off hcg (by omega)
    have hR := hR.row (n := cnt r + 1) (fl := insF (fL r) (cnt r) w) (d' := insF (D r) (cnt r) (dl k x y n 0)) hs hcg hp hQ (by omega) (ins2 (p := fun z (u : Nat → Int32) => pt g z (.inl (g.2 0, 5, .inl u)) H3 ∧ z ≠ RA) (fun i hi => ⟨(hR.2 r hr).2 i hi, by have := (hs.2.2 r i hr hi).1; omega⟩) ⟨hA, by omega⟩ (Nat.le_refl _))
    have hs := hs.row (n := cnt r + 1) (fl := insF (fL r) (cnt r) w) hr (show RA < q by omega) (fun r2 hr2 z => by have := hfR r2 hr2; omega) (fun r2 i hr2 hi z => by have := hfl r2 i hr2 hi; omega) (ins_all (p := fun z => RA < z ∧ z ≠ q ∧ ∀ r2, r2 < 5 → z ≠ fR r2) (fun i hi => ⟨(hs.2.2 r i hr hi).1, (fun z => by have := hfl r i hr hi; omega), (hs.2.2 r i hr hi).2⟩) ⟨by omega, by omega, fun r2 hr2 z => by have := hfR r2 hr2; omega⟩ (Nat.le_refl _))
    have hli := hli.row (r := r) (n := cnt r + 1) (d' := insF (D r) (cnt r) (dl k x y n 0)) (ins_all (fun i hi => hli r i hr hi) (ln1_dl hln hv) (Nat.le_refl _))
    have hA := hA.off hcg (by omega)
    have hQ := hQ.off hcg (by omega)
    refine lv_aload_n X.x X.b d_Press_add_95 rfl (lv_at hl 2 rfl) ?_
    refine m_get (v := .ref B) X ok_Press hP 0 (by decide) k_Press_10 rfl d_Press_add_96 ?_
    refine lv_iload_n X.x X.b d_Press_add_99 rfl (lv_at hl 1 rfl) ?_
    refine lv_aload_n X.x X.b d_Press_add_100 rfl (lv_at hl 0 rfl) ?_
    refine lv_iconst (v := 0) X.x X.b d_Press_add_101 (by decide) ?_
    refine m_i5 (u := k) X hA 0 (by decide) (by decide) rfl rfl d_Press_add_102 ?_
    refine lv_aload_n X.x X.b d_Press_add_103 rfl (lv_at hl 0 rfl) ?_
    refine lv_iconst (v := 1) X.x X.b d_Press_add_104 (by decide) ?_
    refine m_i5 (u := x) X hA 1 (by decide) (by decide) rfl rfl d_Press_add_105 ?_
    refine lv_aload_n X.x X.b d_Press_add_106 rfl (lv_at hl 0 rfl) ?_
    refine lv_iconst (v := 2) X.x X.b d_Press_add_107 (by decide) ?_
    refine m_i5 (u := y) X hA 2 (by decide) (by decide) rfl rfl d_Press_add_108 ?_
    refine lv_aload_n X.x X.b d_Press_add_109 rfl (lv_at hl 0 rfl) ?_
    refine lv_iconst (v := 3) X.x X.b d_Press_add_110 (by decide) ?_
    refine m_i5 (u := n) X hA 3 (by decide) (by decide) rfl rfl d_Press_add_111 ?_
    refine lv_aload_n X.x X.b d_Press_add_112 rfl (lv_at hl 0 rfl) ?_
    refine lv_iconst (v := 4) X.x X.b d_Press_add_113 (by decide) ?_
    refine m_i5 (u := 0) X hA 4 (by decide) (by decide) rfl rfl d_Press_add_114 ?_
    refine lv_iconst (v := 1) X.x X.b d_Press_add_115 (by decide) ?_
    refine lv_icmp_ne (tgt := 123) X.x X.b d_Press_add_116 (by decide) (fun c1 => ?_) (fun c1 => ?_)
    · skip
      refine lv_iconst (v := 0) X.x X.b d_Press_add_123 (by decide) ?_
      refine m_callV X hS (M_BP_add l g hB hr hcap hln hv rfl) v_Press_69 hB.1 rfl rfl rfl (Nat.le_of_ble_eq_true rfl) hl.1 d_Press_add_124 (by omega) (by decide) ⟨by omega, by omega⟩ (fun q z => z.elim (fun z => by have z : B ≤ q ∧ q < B + 287 := z; exact Or.inl (show P ≤ q by omega)) (fun z => Or.inr (Nat.le_trans hS.1 z))) (fun H5 locs hB hfr hS => ?_)
      have hR := hR.lo hs hfr (fun q z => by have z : B ≤ q ∧ q < B + 287 := z; omega)
      have hP := pt.fr hP hfr (fun z => by have z : B ≤ P ∧ P < B + 287 := z; omega)
      have hQ := pt.fr hQ hfr (fun z => by have z : B ≤ q ∧ q < B + 287 := z; omega)
      refine lv_aload_n X.x X.b d_Press_add_127 rfl (lv_at hl 2 rfl) ?_
      refine m_get (v := .ref RA) X ok_Press hP 3 (by decide) k_Press_18 rfl d_Press_add_128 ?_
      refine lv_iload_n X.x X.b d_Press_add_131 rfl (lv_at hl 1 rfl) ?_
      refine m_row (r := r) X hR hr rfl d_Press_add_132 ?_
      refine m_alen (v := nI (cnt r + 1)) X 5 rfl (hR.2 r hr).1 (by show nI (va_up cnt r (cnt r + 1) r) = nI (cnt r + 1); rw [va_up_self]) d_Press_add_133 ?_
      refine lv_iconst (v := 1) X.x X.b d_Press_add_134 (by decide) ?_
      refine lv_isub X.x X.b d_Press_add_135 ?_
      rw [nI_pred]
      refine lv_icmp_ne (tgt := 143) X.x X.b d_Press_add_136 (by decide) (fun c2 => ?_) (fun c2 => ?_)
      · exact absurd rfl c2
      · skip
        refine lv_iconst (v := 1) X.x X.b d_Press_add_139 (by decide) ?_
        refine lv_goto (tgt := 144) X.x X.b d_Press_add_140 (by decide) ?_
        exact m_zretX X hS (by omega) (by omega) d_Press_add_144 rfl ⟨rfl, _, _, _, _, _, _, _, ⟨hP, hR, hB, hs, hli, OKY.now _ _ _⟩, by omega, by omega⟩
    · exact absurd c1 (by decide)
  · skip
    have hv : (1 : Int32) = 0 ∨ (1 : Int32) = 1 := by decide
    refine lv_astore_n (lv' := [(2, .ref w), (1, .int (nI r)), (0, .ref P)]) X.x X.b d_Press_add_71 rfl hl (by decide) rfl (fun ls hl => ?_)
    refine lv_aload_n X.x X.b d_Press_add_72 rfl (lv_at hl 2 rfl) ?_
    refine m_get (v := .ref RA) X ok_Press hP 3 (by decide) k_Press_18 rfl d_Press_add_73 ?_
    refine lv_iload_n X.x X.b d_Press_add_76 rfl (lv_at hl 1 rfl) ?_
    refine lv_aload_n X.x X.b d_Press_add_77 rfl (lv_at hl 2 rfl) ?_
    refine m_get (v := .ref RA) X ok_Press hP 3 (by decide) k_Press_18 rfl d_Press_add_78 ?_
    refine lv_iload_n X.x X.b d_Press_add_81 rfl (lv_at hl 1 rfl) ?_
    refine m_row (r := r) X hR hr rfl d_Press_add_82 ?_
    refine lv_aload_n X.x X.b d_Press_add_83 rfl (lv_at hl 0 rfl) ?_
    refine lv_aload_n X.x X.b d_Press_add_84 rfl (lv_at hl 2 rfl) ?_
    refine m_get (v := .ref RA) X ok_Press hP 3 (by decide) k_Press_18 rfl d_Press_add_85 ?_
    refine lv_iload_n X.x X.b d_Press_add_88 rfl (lv_at hl 1 rfl) ?_
    refine m_row (r := r) X hR hr rfl d_Press_add_89 ?_
    refine m_alen (v := nI (cnt r)) X 5 rfl (hR.2 r hr).1 rfl d_Press_add_90 ?_
    have hqs := hR
    refine m_callSX X hS hx (N_Press_with (n := cnt r) (t := cnt r) (fl := fL r) (fw := dl k x y n 1) l g (hB.cap40 hr) (Nat.le_refl _) (hR.2 r hr).1 (fun i hi => ⟨_, _, (hR.2 r hr).2 i hi⟩) hA) s_Press_65 rfl rfl (Nat.le_of_ble_eq_true rfl) hl.1 d_Press_add_91 (by omega) (by decide) ⟨by omega, by omega⟩ (fun q z => z.elim (fun z => z.elim) (fun z => Or.inr (Nat.le_trans hS.1 z))) (fun w1 H3 locs hq hfr hS => ?_)
    have hwl := hA.lt
    have hH2 : H.size ≤ H2.size := Nat.le_trans (Nat.le_of_lt_succ (Nat.lt_succ_of_le hw)) (Nat.le_of_lt hwl)
    have hB := hB.frK hfr (fun q z => z.elim) (fun q z => z.elim)
    have hR := hR.lo hs hfr (fun q z => z.elim)
    have hx := hx.fr (g := g) hfr (fun z => z)
    have hP := pt.fr hP hfr (fun z => z)
    have hA := pt.fr hA hfr (fun z => z)
    clear hqs
    obtain ⟨q, rfl, hq0, hQ⟩ := hq
    obtain ⟨k6, y1, y2⟩ := XA.six X.kx
    obtain ⟨k5, k0, x3, x4, x0, -⟩ := XA.five X.kx
    have hsB := hs.1
    refine m_qast2 X hS (Or.inl (show P ≤ RA by omega)) y1 y2 x3 hR.1 hQ (fun q h => by cases h) rfl (vp_in_nI hr (by decide)) d_Press_add_94 (fun H4 locs hp hcg hS => ?_)
    rw [nI_clamp (show r < 2 ^ 31 by omega)] at hp
    have hB := hB.frK (fr.of_chg (A := eqA RA) hcg rfl) (fun q z y => by have z : q = RA := z; omega) (noLnA X.kx 6 rfl hR.1)
    have hP := hP.off hcg (by omega)
    have hx := hx.off hcg (by omega)
    have hR := hR.row (n := cnt r + 1) (fl := insF (fL r) (cnt r) w) (d' := insF (D r) (cnt r) (dl k x y n 1)) hs hcg hp hQ (by omega) (ins2 (p := fun z (u : Nat → Int32) => pt g z (.inl (g.2 0, 5, .inl u)) H3 ∧ z ≠ RA) (fun i hi => ⟨(hR.2 r hr).2 i hi, by have := (hs.2.2 r i hr hi).1; omega⟩) ⟨hA, by omega⟩ (Nat.le_refl _))
    have hs := hs.row (n := cnt r + 1) (fl := insF (fL r) (cnt r) w) hr (show RA < q by omega) (fun r2 hr2 z => by have := hfR r2 hr2; omega) (fun r2 i hr2 hi z => by have := hfl r2 i hr2 hi; omega) (ins_all (p := fun z => RA < z ∧ z ≠ q ∧ ∀ r2, r2 < 5 → z ≠ fR r2) (fun i hi => ⟨(hs.2.2 r i hr hi).1, (fun z => by have := hfl r i hr hi; omega), (hs.2.2 r i hr hi).2⟩) ⟨by omega, by omega, fun r2 hr2 z => by have := hfR r2 hr2; omega⟩ (Nat.le_refl _))
    have hli := hli.row (r := r) (n := cnt r + 1) (d' := insF (D r) (cnt r) (dl k x y n 1)) (ins_all (fun i hi => hli r i hr hi) (ln1_dl hln hv) (Nat.le_refl _))
    have hA := hA.off hcg (by omega)
    have hQ := hQ.off hcg (by omega)
    refine lv_aload_n X.x X.b d_Press_add_95 rfl (lv_at hl 2 rfl) ?_
    refine m_get (v := .ref B) X ok_Press hP 0 (by decide) k_Press_10 rfl d_Press_add_96 ?_
    refine lv_iload_n X.x X.b d_Press_add_99 rfl (lv_at hl 1 rfl) ?_
    refine lv_aload_n X.x X.b d_Press_add_100 rfl (lv_at hl 0 rfl) ?_
    refine lv_iconst (v := 0) X.x X.b d_Press_add_101 (by decide) ?_
    refine m_i5 (u := k) X hA 0 (by decide) (by decide) rfl rfl d_Press_add_102 ?_
    refine lv_aload_n X.x X.b d_Press_add_103 rfl (lv_at hl 0 rfl) ?_
    refine lv_iconst (v := 1) X.x X.b d_Press_add_104 (by decide) ?_
    refine m_i5 (u := x) X hA 1 (by decide) (by decide) rfl rfl d_Press_add_105 ?_
    refine lv_aload_n X.x X.b d_Press_add_106 rfl (lv_at hl 0 rfl) ?_
    refine lv_iconst (v := 2) X.x X.b d_Press_add_107 (by decide) ?_
    refine m_i5 (u := y) X hA 2 (by decide) (by decide) rfl rfl d_Press_add_108 ?_
    refine lv_aload_n X.x X.b d_Press_add_109 rfl (lv_at hl 0 rfl) ?_
    refine lv_iconst (v := 3) X.x X.b d_Press_add_110 (by decide) ?_
    refine m_i5 (u := n) X hA 3 (by decide) (by decide) rfl rfl d_Press_add_111 ?_
    refine lv_aload_n X.x X.b d_Press_add_112 rfl (lv_at hl 0 rfl) ?_
    refine lv_iconst (v := 4) X.x X.b d_Press_add_113 (by decide) ?_
    refine m_i5 (u := 1) X hA 4 (by decide) (by decide) rfl rfl d_Press_add_114 ?_
    refine lv_iconst (v := 1) X.x X.b d_Press_add_115 (by decide) ?_
    refine lv_icmp_ne (tgt := 123) X.x X.b d_Press_add_116 (by decide) (fun c3 => ?_) (fun c3 => ?_)
    · exact absurd c3 (by decide)
    · skip
      refine lv_iconst (v := 1) X.x X.b d_Press_add_119 (by decide) ?_
      refine lv_goto (tgt := 124) X.x X.b d_Press_add_120 (by decide) ?_
      refine m_callV X hS (M_BP_add l g hB hr hcap hln hv rfl) v_Press_69 hB.1 rfl rfl rfl (Nat.le_of_ble_eq_true rfl) hl.1 d_Press_add_124 (by omega) (by decide) ⟨by omega, by omega⟩ (fun q z => z.elim (fun z => by have z : B ≤ q ∧ q < B + 287 := z; exact Or.inl (show P ≤ q by omega)) (fun z => Or.inr (Nat.le_trans hS.1 z))) (fun H5 locs hB hfr hS => ?_)
      have hR := hR.lo hs hfr (fun q z => by have z : B ≤ q ∧ q < B + 287 := z; omega)
      have hP := pt.fr hP hfr (fun z => by have z : B ≤ P ∧ P < B + 287 := z; omega)
      have hQ := pt.fr hQ hfr (fun z => by have z : B ≤ q ∧ q < B + 287 := z; omega)
      refine lv_aload_n X.x X.b d_Press_add_127 rfl (lv_at hl 2 rfl) ?_
      refine m_get (v := .ref RA) X ok_Press hP 3 (by decide) k_Press_18 rfl d_Press_add_128 ?_
      refine lv_iload_n X.x X.b d_Press_add_131 rfl (lv_at hl 1 rfl) ?_
      refine m_row (r := r) X hR hr rfl d_Press_add_132 ?_
      refine m_alen (v := nI (cnt r + 1)) X 5 rfl (hR.2 r hr).1 (by show nI (va_up cnt r (cnt r + 1) r) = nI (cnt r + 1); rw [va_up_self]) d_Press_add_133 ?_
      refine lv_iconst (v := 1) X.x X.b d_Press_add_134 (by decide) ?_
      refine lv_isub X.x X.b d_Press_add_135 ?_
      rw [nI_pred]
      refine lv_icmp_ne (tgt := 143) X.x X.b d_Press_add_136 (by decide) (fun c4 => ?_) (fun c4 => ?_)
      · exact absurd rfl c4
      · skip
        refine lv_iconst (v := 1) X.x X.b d_Press_add_139 (by decide) ?_
        refine lv_goto (tgt := 144) X.x X.b d_Press_add_140 (by decide) ?_
        exact m_zretX X hS (by omega) (by omega) d_Press_add_144 rfl ⟨rfl, _, _, _, _, _, _, _, ⟨hP, hR, hB, hs, hli, OKY.now _ _ _⟩, by omega, by omega⟩
set_option maxRecDepth 100000 in
set_option maxHeartbeats 4000000 in
theorem add_43 {g : GG} {p : Program} {l : Launch} {e : Env} {s : State} {m : MethodId} {below : List Frame} {meth : Method} {cd : Code} {H0 H : Heap} {locs : List Loc} {cells slots : Nat} {nm : String} {ls : Array Slot} {b L P B RA d0 d : Nat} {xs : Nat → Int32} {V : Value × Value × Value} {cnt : Nat → Nat} {f : Nat → Nat → Nat} {fR : Nat → Nat} {fL : Nat → Nat → Nat} {D : DT} {Y : YS} (X : CX g p s m ([.ref P] : List Value).toArray meth cd c_Press_add 3 (some .boolean) R_Press nm) (hL : L ≤ 260) (hbP : b < P) (hx : va_X b L xs s H) (hS : va_S (AA (geA P) H0) H0 H locs) (hP : prAt g P B b RA V d H) (hR : rwAt g RA cnt fR fL D H) (hB : bAt g B cnt f D Y H) (hs : spG P B RA cnt fR fL) (hli : liG cnt D) (hok : OKY D cnt Y) (hPH : P < H0.size) (hd3 : d0 < 2800) {r : Nat} (hr : r < 5) (hd : d0 ≤ d ∧ d ≤ d0 + 2) (hcs : cells = 0 ∧ slots = 0) (hl : lv_has ls 3 [(1, .int (nI r)), (0, .ref P)]) : W p l e (rmK 23 4 56) s m ([.ref P] : List Value).toArray below meth cd H locs cells slots (MQ below (QX (opPv g P B b RA V d0 20) (geA P) H0) ([.ref P] : List Value).toArray s 4 56 (AA (geA P) H0)) (F0 m 43 ls []) := by
  refine lv_aload_n X.x X.b d_Press_add_43 rfl (lv_at hl 1 rfl) ?_
  refine m_get (v := .ref RA) X ok_Press hP 3 (by decide) k_Press_18 rfl d_Press_add_44 ?_
  refine lv_iload_n X.x X.b d_Press_add_47 rfl (lv_at hl 0 rfl) ?_
  refine m_row (r := r) X hR hr rfl d_Press_add_48 ?_
  refine m_alen (v := nI (cnt r)) X 5 rfl (hR.2 r hr).1 rfl d_Press_add_49 ?_
  refine lv_iload_n X.x X.b d_Press_add_50 rfl (lv_at hl 0 rfl) ?_
  refine lv_if_ne (tgt := 59) X.x X.b d_Press_add_51 (by decide) (fun c1 => ?_) (fun c1 => ?_)
  · skip
    refine lv_bipush (v := 10) X.x X.b d_Press_add_59 (by decide) ?_
    refine lv_icmp_ne (tgt := 66) X.x X.b d_Press_add_61 (by decide) (fun c2 => ?_) (fun c2 => ?_)
    · skip
      exact add_66 X hL hbP hx hS hP hR hB hs hli hok hPH hd3 hr (cap_1 hr (hB.cap hr) c1 c2) (by omega) (by omega) (lv_sub hl [0, 1] rfl)
    · skip
      refine lv_iconst (v := 1) X.x X.b d_Press_add_64 (by decide) ?_
      exact m_zretX X hS (by omega) (by omega) d_Press_add_65 rfl ⟨rfl, _, _, _, _, _, _, _, ⟨hP, hR, hB, hs, hli, hok⟩, by omega, by omega⟩
  · skip
    refine lv_bipush (v := 40) X.x X.b d_Press_add_54 (by decide) ?_
    refine lv_goto (tgt := 61) X.x X.b d_Press_add_56 (by decide) ?_
    refine lv_icmp_ne (tgt := 66) X.x X.b d_Press_add_61 (by decide) (fun c3 => ?_) (fun c3 => ?_)
    · skip
      exact add_66 X hL hbP hx hS hP hR hB hs hli hok hPH hd3 hr (cap_0 hr (hB.cap hr) c1 c3) (by omega) (by omega) (lv_sub hl [0, 1] rfl)
    · skip
      refine lv_iconst (v := 1) X.x X.b d_Press_add_64 (by decide) ?_
      exact m_zretX X hS (by omega) (by omega) d_Press_add_65 rfl ⟨rfl, _, _, _, _, _, _, _, ⟨hP, hR, hB, hs, hli, hok⟩, by omega, by omega⟩
set_option maxRecDepth 100000 in
set_option maxHeartbeats 4000000 in
theorem add_20 {g : GG} {p : Program} {l : Launch} {e : Env} {s : State} {m : MethodId} {below : List Frame} {meth : Method} {cd : Code} {H0 H : Heap} {locs : List Loc} {cells slots : Nat} {nm : String} {ls : Array Slot} {b L P B RA d0 d : Nat} {xs : Nat → Int32} {V : Value × Value × Value} {cnt : Nat → Nat} {f : Nat → Nat → Nat} {fR : Nat → Nat} {fL : Nat → Nat → Nat} {D : DT} {Y : YS} (X : CX g p s m ([.ref P] : List Value).toArray meth cd c_Press_add 3 (some .boolean) R_Press nm) (hL : L ≤ 260) (hbP : b < P) (hx : va_X b L xs s H) (hS : va_S (AA (geA P) H0) H0 H locs) (hP : prAt g P B b RA V d H) (hR : rwAt g RA cnt fR fL D H) (hB : bAt g B cnt f D Y H) (hs : spG P B RA cnt fR fL) (hli : liG cnt D) (hok : OKY D cnt Y) (hPH : P < H0.size) (hd3 : d0 < 2800) {r : Nat} (hr : r < 5) (hd : d0 ≤ d ∧ d ≤ d0 + 2) (hcs : cells = 0 ∧ slots = 0) (hl : lv_has ls 3 [(1, .int (nI r)), (0, .ref P)]) : W p l e (rmK 23 4 56) s m ([.ref P] : List Value).toArray below meth cd H locs cells slots (MQ below (QX (opPv g P B b RA V d0 20) (geA P) H0) ([.ref P] : List Value).toArray s 4 56 (AA (geA P) H0)) (F0 m 20 ls []) := by
  refine lv_aload_n X.x X.b d_Press_add_20 rfl (lv_at hl 1 rfl) ?_
  refine m_get (v := .ref RA) X ok_Press hP 3 (by decide) k_Press_18 rfl d_Press_add_21 ?_
  refine lv_iload_n X.x X.b d_Press_add_24 rfl (lv_at hl 0 rfl) ?_
  refine m_row (r := r) X hR hr rfl d_Press_add_25 ?_
  refine m_alen (v := nI (cnt r)) X 5 rfl (hR.2 r hr).1 rfl d_Press_add_26 ?_
  refine lv_iload_n X.x X.b d_Press_add_27 rfl (lv_at hl 0 rfl) ?_
  refine lv_if_ne (tgt := 36) X.x X.b d_Press_add_28 (by decide) (fun c1 => ?_) (fun c1 => ?_)
  · skip
    refine lv_bipush (v := 10) X.x X.b d_Press_add_36 (by decide) ?_
    refine lv_icmp_ne (tgt := 43) X.x X.b d_Press_add_38 (by decide) (fun c2 => ?_) (fun c2 => ?_)
    · skip
      exact add_43 (r := r) X hL hbP hx hS hP hR hB hs hli hok hPH hd3 hr (by omega) (by omega) (lv_sub hl [0, 1] rfl)
    · skip
      refine lv_iconst (v := 4) X.x X.b d_Press_add_41 (by decide) ?_
      refine lv_istore_n (lv' := [(1, .int 4), (0, .ref P)]) X.x X.b d_Press_add_42 rfl hl (by decide) rfl (fun ls hl => ?_)
      exact add_43 (r := 4) X hL hbP hx hS hP hR hB hs hli hok hPH hd3 (by omega) (by omega) (by omega) (lv_sub hl [0, 1] rfl)
  · skip
    refine lv_bipush (v := 40) X.x X.b d_Press_add_31 (by decide) ?_
    refine lv_goto (tgt := 38) X.x X.b d_Press_add_33 (by decide) ?_
    refine lv_icmp_ne (tgt := 43) X.x X.b d_Press_add_38 (by decide) (fun c3 => ?_) (fun c3 => ?_)
    · skip
      exact add_43 (r := r) X hL hbP hx hS hP hR hB hs hli hok hPH hd3 hr (by omega) (by omega) (lv_sub hl [0, 1] rfl)
    · skip
      refine lv_iconst (v := 4) X.x X.b d_Press_add_41 (by decide) ?_
      refine lv_istore_n (lv' := [(1, .int 4), (0, .ref P)]) X.x X.b d_Press_add_42 rfl hl (by decide) rfl (fun ls hl => ?_)
      exact add_43 (r := 4) X hL hbP hx hS hP hR hB hs hli hok hPH hd3 (by omega) (by omega) (by omega) (lv_sub hl [0, 1] rfl)
set_option maxRecDepth 100000 in
set_option maxHeartbeats 4000000 in
theorem add_0 {g : GG} {p : Program} {l : Launch} {e : Env} {s : State} {m : MethodId} {below : List Frame} {meth : Method} {cd : Code} {H0 H : Heap} {locs : List Loc} {cells slots : Nat} {nm : String} {ls : Array Slot} {b L P B RA d0 d : Nat} {xs : Nat → Int32} {V : Value × Value × Value} {cnt : Nat → Nat} {f : Nat → Nat → Nat} {fR : Nat → Nat} {fL : Nat → Nat → Nat} {D : DT} {Y : YS} (X : CX g p s m ([.ref P] : List Value).toArray meth cd c_Press_add 3 (some .boolean) R_Press nm) (hL : L ≤ 260) (hbP : b < P) (hx : va_X b L xs s H) (hS : va_S (AA (geA P) H0) H0 H locs) (hP : prAt g P B b RA V d H) (hR : rwAt g RA cnt fR fL D H) (hB : bAt g B cnt f D Y H) (hs : spG P B RA cnt fR fL) (hli : liG cnt D) (hok : OKY D cnt Y) (hPH : P < H0.size) (hd3 : d0 < 2800) (hd : d0 ≤ d ∧ d ≤ d0) (hcs : cells = 0 ∧ slots = 0) (hl : lv_has ls 3 [(0, .ref P)]) : W p l e (rmK 23 4 56) s m ([.ref P] : List Value).toArray below meth cd H locs cells slots (MQ below (QX (opPv g P B b RA V d0 20) (geA P) H0) ([.ref P] : List Value).toArray s 4 56 (AA (geA P) H0)) (F0 m 0 ls []) := by
  refine lv_aload_n X.x X.b d_Press_add_0 rfl (lv_at hl 0 rfl) ?_
  refine lv_iconst (v := 3) X.x X.b d_Press_add_1 (by decide) ?_
  refine m_callVX X hS hx (N_Press_draw (n := 3) l g hL hP (by omega) (by omega) (by omega)) v_Press_57 hP rfl rfl rfl (Nat.le_of_ble_eq_true rfl) hl.1 d_Press_add_2 (by omega) (by decide) ⟨by omega, by omega⟩ (fun q z => z.elim (fun z => by have z : q = P := z; exact Or.inl (Nat.le_of_eq z.symm)) (fun z => Or.inr (Nat.le_trans hS.1 z))) (fun w H locs hq hfr hS => ?_)
  have hB := hB.frK hfr (fun q z y => by have z : q = P := z; have := hs.1; omega) (noLnP X.kx hP)
  have hR := hR.lo hs hfr (fun q z => by have z : q = P := z; have := hs.1; omega)
  have hx := hx.fr (g := g) hfr (fun z => by have z : b = P := z; omega)
  clear hP
  obtain ⟨x1, hx1, rfl, hP⟩ := hq
  refine lv_if_ne (tgt := 18) X.x X.b d_Press_add_5 (by decide) (fun c2 => ?_) (fun c2 => ?_)
  · skip
    refine lv_iconst (v := 0) X.x X.b d_Press_add_18 (by decide) ?_
    refine lv_istore_n (lv' := [(1, .int 0), (0, .ref P)]) X.x X.b d_Press_add_19 rfl hl (by decide) rfl (fun ls hl => ?_)
    exact add_20 (r := 0) X hL hbP hx hS hP hR hB hs hli hok hPH hd3 (by omega) (by omega) (by omega) (lv_sub hl [0, 1] rfl)
  · skip
    refine lv_iconst (v := 1) X.x X.b d_Press_add_8 (by decide) ?_
    refine lv_aload_n X.x X.b d_Press_add_9 rfl (lv_at hl 0 rfl) ?_
    refine lv_iconst (v := 3) X.x X.b d_Press_add_10 (by decide) ?_
    refine m_callVX X hS hx (N_Press_draw (n := 3) l g hL hP (by omega) (by omega) (by omega)) v_Press_57 hP rfl rfl rfl (Nat.le_of_ble_eq_true rfl) hl.1 d_Press_add_11 (by omega) (by decide) ⟨by omega, by omega⟩ (fun q z => z.elim (fun z => by have z : q = P := z; exact Or.inl (Nat.le_of_eq z.symm)) (fun z => Or.inr (Nat.le_trans hS.1 z))) (fun w H locs hq hfr hS => ?_)
    have hB := hB.frK hfr (fun q z y => by have z : q = P := z; have := hs.1; omega) (noLnP X.kx hP)
    have hR := hR.lo hs hfr (fun q z => by have z : q = P := z; have := hs.1; omega)
    have hx := hx.fr (g := g) hfr (fun z => by have z : b = P := z; omega)
    clear hP
    obtain ⟨x3, hx3, rfl, hP⟩ := hq
    refine lv_iadd X.x X.b d_Press_add_14 ?_
    rw [show (1 : Int32) + nI x3 = nI (1 + x3) from nI_add 1 x3]
    refine lv_goto (tgt := 19) X.x X.b d_Press_add_15 (by decide) ?_
    refine lv_istore_n (lv' := [(1, .int (nI (1 + x3))), (0, .ref P)]) X.x X.b d_Press_add_19 rfl hl (by decide) rfl (fun ls hl => ?_)
    exact add_20 (r := 1 + x3) X hL hbP hx hS hP hR hB hs hli hok hPH hd3 (by omega) (by omega) (by omega) (lv_sub hl [0, 1] rfl)
theorem N_Press_add (l : Launch) (g : GG) {b L : Nat} {xs : Nat → Int32} {P B RA d : Nat} {V : Value × Value × Value} {cnt : Nat → Nat} {f : Nat → Nat → Nat} {fR : Nat → Nat} {fL : Nat → Nat → Nat} {D : DT} {Y : YS} {H0 : Heap} (hL : L ≤ 260) (hbP : b < P) (hP : lawP g P B b RA V d cnt f fR fL D Y H0) (hd : d < 2800) : MX l y_Press_add c_Press_add 3 (some .boolean) 23 4 56 g b L xs H0 [.ref P] (geA P) (opPv g P B b RA V d 20) := by
  refine MX.of (by decide +kernel) (Nat.le_of_ble_eq_true rfl) ?_
  intro p e s m below meth cd X hH hx ls hl
  obtain ⟨hP, hR, hB, hs, hli, hok⟩ := hP
  exact add_0 X hL hbP hx va_S.rf hP hR hB hs hli hok hP.lt hd ⟨Nat.le_refl _, Nat.le_refl _⟩ ⟨rfl, rfl⟩ hl
