-- THE LAW'S ENTRY: what the tables say, for all that is behind it
theorem tbl_t {w : Cond} (i : Nat) (h : tables_1[i]? = some w) : w ∈ lw_tbl := List.mem_append_right _ (List.mem_of_getElem? h)
section ENTRY
variable {s : State} {args : Array Value}
theorem in_classes (hts : ∀ w ∈ lw_tbl, w.before args s = true) : ∃ G : va_G, ∀ (c : Nat) (q : vw_C), vwCl[c]? = some q → u_Kn s q.1 q.2.1 q.2.2 (G.1 c) (G.2 c) := by
  have hlw : ∀ w ∈ LW, w.before args s = true := fun w h => hts w (LW_tbl w h)
  have h : ∀ q ∈ vwCl, ∃ (cC : ClassId) (iS : Nat → Nat), u_Kn s q.1 q.2.1 q.2.2 cC iS := by
    intro q hq
    simp only [List.mem_cons, List.not_mem_nil, or_false] at hq
    rcases hq with rfl | rfl | rfl | rfl | rfl | rfl | rfl | rfl | rfl | rfl
    · exact u_known (n := 8) hlw ok_Assembly.2.1 (hts (.instantiable R_Assembly 8) (tbl_t 287 (by decide +kernel)))
    · exact u_known (n := 6) hlw ok_Expander.2.1 (hts (.instantiable R_Expander 6) (tbl_t 216 (by decide +kernel)))
    · exact u_known (n := 16) hlw ok_Item.2.1 (hts (.instantiable R_Item 16) (tbl_t 583 (by decide +kernel)))
    · exact u_known (n := 2) hlw ok_Items.2.1 (hts (.instantiable R_Items 2) (tbl_t 336 (by decide +kernel)))
    · exact u_known (n := 5) hlw ok_Line.2.1 (hts (.instantiable R_Line 5) (tbl_t 154 (by decide +kernel)))
    · exact u_known (n := 3) hlw ok_Names.2.1 (hts (.instantiable R_Names 3) (tbl_t 677 (by decide +kernel)))
    · exact u_known (n := 2) hlw ok_Row.2.1 (hts (.instantiable R_Row 2) (tbl_t 550 (by decide +kernel)))
    · exact u_known (n := 1) hlw ok_Source.2.1 (hts (.instantiable R_Source 1) (tbl_t 543 (by decide +kernel)))
    · exact u_known (n := 4) hlw ok_BP.2.1 (hts (.instantiable R_BP 4) (tbl_t 195 (by decide +kernel)))
    · exact u_known (n := 12) hlw ok_Press.2.1 (hts (.instantiable R_Press 12) (tbl_t 532 (by decide +kernel)))
  have h2 : ∀ c : Nat, ∃ x : ClassId × (Nat → Nat), ∀ q : vw_C, vwCl[c]? = some q → u_Kn s q.1 q.2.1 q.2.2 x.1 x.2 := by
    intro c
    cases hc : vwCl[c]? with
    | none => exact ⟨(0, fun _ => 0), fun q h => by cases h⟩
    | some q =>
      obtain ⟨a, b, h3⟩ := h q (List.mem_of_getElem? hc)
      exact ⟨(a, b), fun q' h' => by cases h'; exact h3⟩
  exact ⟨(fun c => (Classical.choose (h2 c)).1, fun c => (Classical.choose (h2 c)).2), fun c q hq => Classical.choose_spec (h2 c) q hq⟩
theorem in_prim {t : FieldType} (ht : (Cond.arrayClass t).before args s = true) (hR : ∀ c : ClassId, s.vm.findClass ("[" ++ t.toString) = some c → va_RA s c t) : ∃ c : ClassId, ArrOfT s c t ∧ va_RA s c t := by
  obtain ⟨c, k, comp, h1, h2, h3⟩ := Cond.arrayClass_spec ht
  exact ⟨c, fun n z => ⟨fun k h => (by cases h), k, h2, comp, h3⟩, hR c h1⟩
theorem in_objs {C : String} (ht : (Cond.arrayOver (.object C)).before args s = true) : ∃ c : ClassId, ArrOfT s c (.object C) ∧ va_RA s c (.object C) := by
  obtain ⟨comp, c, k, h1, -, h2, h3, h4⟩ := Cond.arrayOver_spec ht
  exact ⟨c, fun n z => ⟨fun k h => (by cases h), k, h2, comp, h3⟩, k, comp, h2, h3, h1, h4⟩
theorem in_arrs {t : FieldType} (ht : (Cond.arrayOver (.array t)).before args s = true) : ∃ c : ClassId, ArrOfT s c (.array t) ∧ va_RA s c (.array t) := by
  obtain ⟨comp, c, k, h1, -, h2, h3, h4⟩ := arrayOverA_spec ht
  exact ⟨c, fun n z => ⟨fun k h => (by cases h), k, h2, comp, h3⟩, h4⟩
theorem in_KK (hts : ∀ w ∈ lw_tbl, w.before args s = true) : ∃ g : GG, KK g s := by
  obtain ⟨G, hG⟩ := in_classes hts
  obtain ⟨cI, hI⟩ := in_prim (hts (.arrayClass .int) (tbl_t 693 (by decide +kernel))) (fun c h => h)
  obtain ⟨cZ, hZ⟩ := in_prim (hts (.arrayClass .boolean) (tbl_t 692 (by decide +kernel))) (fun c h => h)
  have a1 := hts (.arrayOver (.object "BranchPress$Line")) (tbl_t 557 (by decide +kernel))
  have a2 := hts (.arrayOver (.object "BranchPress$Row")) (tbl_t 549 (by decide +kernel))
  have a3 := hts (.arrayOver (.object "BranchPress$Item")) (tbl_t 582 (by decide +kernel))
  have a5 := hts (.arrayOver (.array .int)) (tbl_t 761 (by decide +kernel))
  have a6 := hts (.arrayOver (.array (.array .int))) (tbl_t 760 (by decide +kernel))
  obtain ⟨cL, hL⟩ := in_objs a1
  obtain ⟨cR, hR⟩ := in_objs a2
  obtain ⟨cT, hT⟩ := in_objs a3
  obtain ⟨c5, h5⟩ := in_arrs a5
  obtain ⟨c6, h6⟩ := in_arrs a6
  refine ⟨(G, fun i => match i with | 0 => cI | 1 => cZ | 2 => cL | 3 => cR | 4 => cT | 5 => c5 | _ => c6), ⟨hG, ?_⟩, va_AO.of (A := args) a2, va_AO.of (A := args) a1, va_AO.of (A := args) a3, va_Nw.of rfl (hts _ (tbl_t 584 (by decide +kernel))), va_Nw.of rfl (hts _ (tbl_t 213 (by decide +kernel))), va_Nw.of rfl (hts _ (tbl_t 805 (by decide +kernel))), va_Nw.of rfl (hts _ (tbl_t 809 (by decide +kernel))), a5, a6⟩
  intro k q hq
  match k, hq with
  | 0, hq => cases hq; exact hI
  | 1, hq => cases hq; exact hZ
  | 2, hq => cases hq; exact hL
  | 3, hq => cases hq; exact hR
  | 4, hq => cases hq; exact hT
  | 5, hq => cases hq; exact h5
  | 6, hq => cases hq; exact h6
  | k + 7, hq => simp at hq
end ENTRY
/-- less room is asked for on the way; at its end all is as it was -/
theorem W.lessK {p : Program} {l : Launch} {e : Env} {R R' : Room} {s : State} {m : MethodId} {args : Array Value} {below : List Frame} {meth : Method} {c : Code} {H : Heap} {locs : List Loc} {cells slots : Nat} {Q : State → Prop} {fr' : JFrame} (hf : R'.frames ≤ R.frames) (hl : R'.locals ≤ R.locals) (hc : R'.cells ≤ R.cells) (hs : R'.slots ≤ R.slots)
    (k : (∀ {H2 : Heap} {locs2 : List Loc} {cells2 slots2 : Nat} {fr2 : JFrame}, W p l e R s m args below meth c H2 locs2 cells2 slots2 Q fr2 → W p l e R' s m args below meth c H2 locs2 cells2 slots2 Q fr2) → W p l e R' s m args below meth c H locs cells slots Q fr') : W p l e R s m args below meth c H locs cells slots Q fr' := by
  intro T hT X
  have hr := X.room
  exact W.less hf hl hc hs (k (fun w T' hT' X' => w T' hT' ⟨X'.admits, X'.cas, X'.clock, X'.frames, hr, X'.hears, X'.method, X'.code, X'.here, X'.tail, X'.warmed, X'.limits, X'.bytes, X'.same⟩)) T hT X
theorem va_S.lo {s : State} {H : Heap} {locs : List Loc} (h : va_S (AA noA s.heap) s.heap H locs) : ∀ q ∈ locs, s.heap.size ≤ q.base := fun q hq => (h.2.2 q hq).elim (fun z => z.elim) id
