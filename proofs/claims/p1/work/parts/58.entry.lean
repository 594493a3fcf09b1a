-- THE LAW'S ENTRY: what the tables say, for all that is behind it
theorem tbl_t {w : Cond} (i : Nat) (h : tables_1[i]? = some w) : w ∈ lw_tbl := List.mem_append_right _ (List.mem_of_getElem? h)
section ENTRY
variable {s : State} {args : Array Value}
theorem in_classes (hts : ∀ w ∈ lw_tbl, w.before args s = true) : ∃ G : va_G, ∀ (c : Nat) (q : vw_C), vwCl[c]? = some q → u_Kn s q.1 q.2.1 q.2.2 (G.1 c) (G.2 c) := by
  have hlw : ∀ w ∈ LW, w.before args s = true := fun w h => hts w (LW_tbl w h)
  have h : ∀ q ∈ vwCl, ∃ (cC : ClassId) (iS : Nat → Nat), u_Kn s q.1 q.2.1 q.2.2 cC iS := by
    intro q hq
    simp only [List.mem_cons, List.not_mem_nil, or_false] at hq
    rcases hq with rfl | rfl | rfl | rfl | rfl | rfl | rfl | rfl | rfl | rfl
    · exact u_known (n := 8) hlw ok_Assembly.2.1 (hts (.instantiable R_Assembly 8) (tbl_t 59 (by decide +kernel)))
    · exact u_known (n := 6) hlw ok_Expander.2.1 (hts (.instantiable R_Expander 6) (tbl_t 161 (by decide +kernel)))
    · exact u_known (n := 16) hlw ok_Item.2.1 (hts (.instantiable R_Item 16) (tbl_t 72 (by decide +kernel)))
    · exact u_known (n := 2) hlw ok_Items.2.1 (hts (.instantiable R_Items 2) (tbl_t 65 (by decide +kernel)))
    · exact u_known (n := 5) hlw ok_Line.2.1 (hts (.instantiable R_Line 5) (tbl_t 206 (by decide +kernel)))
    · exact u_known (n := 3) hlw ok_Names.2.1 (hts (.instantiable R_Names 3) (tbl_t 167 (by decide +kernel)))
    · exact u_known (n := 2) hlw ok_Row.2.1 (hts (.instantiable R_Row 2) (tbl_t 35 (by decide +kernel)))
    · exact u_known (n := 1) hlw ok_Source.2.1 (hts (.instantiable R_Source 1) (tbl_t 28 (by decide +kernel)))
    · exact u_known (n := 4) hlw ok_BP.2.1 (hts (.instantiable R_BP 4) (tbl_t 20 (by decide +kernel)))
    · exact u_known (n := 28) hlw ok_Model.2.1 (hts (.instantiable R_Model 28) (tbl_t 835 (by decide +kernel)))
  have h2 : ∀ c : Nat, ∃ x : ClassId × (Nat → Nat), ∀ q : vw_C, vwCl[c]? = some q → u_Kn s q.1 q.2.1 q.2.2 x.1 x.2 := by
    intro c
    cases hc : vwCl[c]? with
    | none => exact ⟨(0, fun _ => 0), fun q h => by cases h⟩
    | some q =>
      obtain ⟨a, b, h3⟩ := h q (List.mem_of_getElem? hc)
      exact ⟨(a, b), fun q' h' => by cases h'; exact h3⟩
  exact ⟨(fun c => (Classical.choose (h2 c)).1, fun c => (Classical.choose (h2 c)).2), fun c q hq => Classical.choose_spec (h2 c) q hq⟩
theorem in_prim {t : FieldType} (ht : (Cond.arrayClass t).before args s = true) (hR : ∀ c : ClassId, s.vm.findClass ("[" ++ t.toString) = some c → va_RA s c t) : ∃ c : ClassId, ArrOfT s c t ∧ va_RA s c t := by
  obtain ⟨c, k, comp, h1, h2, h3⟩ := Cond.arrayClass_spec ht
  exact ⟨c, fun n z => ⟨fun k h => (by cases h), k, h2, comp, h3⟩, hR c h1⟩
theorem in_objs {C : String} (ht : (Cond.arrayOver (.object C)).before args s = true) : ∃ c : ClassId, ArrOfT s c (.object C) ∧ va_RA s c (.object C) := by
  obtain ⟨comp, c, k, h1, -, h2, h3, h4⟩ := Cond.arrayOver_spec ht
  exact ⟨c, fun n z => ⟨fun k h => (by cases h), k, h2, comp, h3⟩, k, comp, h2, h3, h1, h4⟩
theorem in_KK (hts : ∀ w ∈ lw_tbl, w.before args s = true) : ∃ g : GG, KK g s := by
  obtain ⟨G, hG⟩ := in_classes hts
  obtain ⟨cI, hI⟩ := in_prim (hts (.arrayClass .int) (tbl_t 183 (by decide +kernel))) (fun c h => h)
  obtain ⟨cZ, hZ⟩ := in_prim (hts (.arrayClass .boolean) (tbl_t 182 (by decide +kernel))) (fun c h => h)
  obtain ⟨cJ, hJ⟩ := in_prim (hts (.arrayClass .long) (tbl_t 1177 (by decide +kernel))) (fun c h => h)
  have a1 := hts (.arrayOver (.object "BranchPress$Line")) (tbl_t 44 (by decide +kernel))
  have a2 := hts (.arrayOver (.object "BranchPress$Row")) (tbl_t 34 (by decide +kernel))
  have a3 := hts (.arrayOver (.object "BranchPress$Item")) (tbl_t 71 (by decide +kernel))
  obtain ⟨cL, hL⟩ := in_objs a1
  obtain ⟨cR, hR⟩ := in_objs a2
  obtain ⟨cT, hT⟩ := in_objs a3
  refine ⟨(G, fun i => match i with | 0 => cI | 1 => cZ | 2 => cL | 3 => cR | 4 => cT | _ => cJ), ⟨hG, ?_⟩, va_AO.of (A := args) a2, va_AO.of (A := args) a1, va_AO.of (A := args) a3, va_Nw.of rfl (hts _ (tbl_t 73 (by decide +kernel))), va_Nw.of rfl (hts _ (tbl_t 289 (by decide +kernel)))⟩
  intro k q hq
  match k, hq with
  | 0, hq => cases hq; exact hI
  | 1, hq => cases hq; exact hZ
  | 2, hq => cases hq; exact hL
  | 3, hq => cases hq; exact hR
  | 4, hq => cases hq; exact hT
  | 5, hq => cases hq; exact hJ
  | k + 6, hq => simp at hq
theorem in_ZZ (hts : ∀ w ∈ lw_tbl, w.before args s = true) (hgv : (Jvm.Cond.and given_1 narrow_1).before args s = true) {g : GG} (hK : KK g s) : ZZ s.heap.size s s.heap := by
  have hs := flat_of_before _ hgv
  have hini : (Cond.initialized Bundle.tN).before args s = true := hts _ (tbl_t 12 (by decide +kernel))
  have hcur := ((hK.1.1 8 _ rfl).2).1
  refine ⟨⟨vx_Zqof (hts _ (tbl_t 554 (by decide +kernel))) hini (hs _ (by decide +kernel)) (fun a h1 h2 => Nat.not_lt.mpr h2 h1), vx_Zqof (hts _ (tbl_t 556 (by decide +kernel))) hini (hs _ (by decide +kernel)) (fun a h1 h2 => Nat.not_lt.mpr h2 h1)⟩, ⟨⟨va_Nw.of rfl (hts (.castable R_IO R_IO) (tbl_t 607 (by decide +kernel))), va_Nw.of rfl (hts (.castable R_IA R_IA) (tbl_t 529 (by decide +kernel))), va_Nw.of rfl (hts (.castable R_IS R_IS) (tbl_t 718 (by decide +kernel)))⟩, ⟨va_Nw.of rfl (hts (.declares (Bundle.initS "java/lang/RuntimeException")) ?_), va_Nw.of rfl (hts (.declares (Bundle.initS "java/lang/Exception")) ?_), va_Nw.of rfl (hts (.declares (Bundle.initS Bundle.tN)) ?_)⟩, ⟨va_Nc.of (hs (.not (.castable R_IA R_IO)) (by decide +kernel)), va_Nc.of (hs (.not (.castable R_IS R_IO)) (by decide +kernel)), va_Nc.of (hs (.not (.castable R_IS R_IA)) (by decide +kernel))⟩⟩, ?_⟩
  · decide +kernel
  · decide +kernel
  · decide +kernel
  · intro q hq
    have hall : (texts.all fun q => decide (Cond.stringRef R_BP q.1 q.2 ∈ lw_tbl)) = true := by decide +kernel
    have h := hts _ (of_decide_eq_true (List.all_eq_true.mp hall q hq))
    obtain ⟨k, cf, i, a, -, -, -, -, -, he⟩ := Cond.stringRef_spec hcur h
    exact ⟨a, vk_R.of h he⟩
end ENTRY
