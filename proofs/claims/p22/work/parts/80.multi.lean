-- NEW INT[5][0][]: SIX CELLS
section MULTI
variable {E : CtlPost} {e : Env} {d : Bool} {acts : List Action} {s : State}
abbrev mz (c : ClassId) : Cell := { cls := c, slots := #[], vm := .none }
theorem all0 (a : Nat) : allocActs #[] a acts = acts := by
  unfold allocActs
  simp
theorem wp_make0 {Q : Addr → Pre} {c comp : ClassId} {t : FieldType} {k : Class} (hk : s.vm.classes[c]? = some k) (hkind : k.kind = .array comp t) (hc : s.heap.size < e.platform.maxCells) (hs : s.slotsUsed ≤ e.platform.maxSlots) : wp (Op.multianewarray.make c [0]) Q E e d acts s ↔ Q s.heap.size d acts (s.pushCell (mz c)) := by
  simp [Op.multianewarray.make, Jvm.newArray, Jvm.arrayFits, hk, hkind]
  rw [all0]
  exact ⟨fun h => h.2.2, fun h => ⟨hc, hs, h⟩⟩
theorem wp_turn {α : Type} {Q : α → Pre} {G : Unit → Sem α} {comp cc : ClassId} {b i : Nat} {t t2 : FieldType} {k k2 : Class} {x : Cell} (hk2 : s.vm.classes[comp]? = some k2) (hkind2 : k2.kind = .array cc t2) (hb : s.heap[b]? = some x) (hx : x.vm = .none) (hi : i < x.slots.size) (hkx : s.vm.classes[x.cls]? = some k) (hkind : k.kind = .array comp (.array t)) (hc : s.heap.size < e.platform.maxCells) (hs : s.slotsUsed ≤ e.platform.maxSlots) :
    wp (Op.multianewarray.make comp [0] >>= fun a => Jvm.writeLoc b i (.ref a) >>= G) Q E e d acts s ↔ wp (G ()) Q E e true (writeActs ⟨b, i⟩ .plain (.ref s.heap.size) acts) ((s.pushCell (mz comp)).setCell b (x.setSlot i (.ref s.heap.size))) := by
  rw [wp_bind', wp_make0 hk2 hkind2 hc hs, wp_bind', W.writeLoc]
  have hlt : b < s.heap.size := (Array.getElem?_eq_some_iff.mp hb).1
  have h1 : (s.pushCell (mz comp)).heap[b]? = some x := by
    rw [State.heap_pushCell, Array.getElem?_push, if_neg (Nat.ne_of_lt hlt)]
    exact hb
  have hf : (s.pushCell (mz comp)).fitsSlot x.cls x.vm i (.ref s.heap.size) = true := by
    rw [hx]
    simp [State.fitsSlot, State.slotType?, hkx, hkind]
    rfl
  constructor
  · rintro ⟨c, a1, a2, a3, a4, a5⟩
    cases h1.symm.trans a1
    exact a5
  · intro h
    exact ⟨x, h1, (by rw [hx]; exact fun z => nomatch z), hi, hf, h⟩
abbrev m5x (c : ClassId) : Cell := { cls := c, slots := Array.replicate 5 .null, vm := .none }
theorem wp_make5 {Q : Addr → Pre} {c comp : ClassId} {t : FieldType} {k : Class} (hk : s.vm.classes[c]? = some k) (hkind : k.kind = .array comp (.array t)) (hc : s.heap.size < e.platform.maxCells) (hs : s.slotsUsed + 5 ≤ e.platform.maxSlots) (hlimit : ¬ 5 > e.platform.arrayLengthLimit) (hheap : ¬ 5 * componentBytes (.array t) > e.platform.maxHeapBytes) :
    wp (Op.multianewarray.make c [5, 0]) Q E e d acts s ↔ wp (Op.multianewarray.make comp [0] >>= fun a => Jvm.writeLoc s.heap.size 0 (.ref a) >>= fun _ => Op.multianewarray.make comp [0] >>= fun a => Jvm.writeLoc s.heap.size 1 (.ref a) >>= fun _ => Op.multianewarray.make comp [0] >>= fun a => Jvm.writeLoc s.heap.size 2 (.ref a) >>= fun _ => Op.multianewarray.make comp [0] >>= fun a => Jvm.writeLoc s.heap.size 3 (.ref a) >>= fun _ => Op.multianewarray.make comp [0] >>= fun a => Jvm.writeLoc s.heap.size 4 (.ref a) >>= fun _ => Pure.pure s.heap.size) Q E e d acts (s.pushCell (m5x c)) := by
  have h5 : Int32.toNatClampNeg 5 = 5 := by decide
  have hl : ¬ e.platform.arrayLengthLimit < 5 := hlimit
  have hh : ¬ e.platform.maxHeapBytes < 5 * componentBytes (.array t) := hheap
  have hm : ¬ e.platform.maxSlots < 5 := by omega
  have hdef : allocActs (Array.replicate 5 Value.null) s.heap.size acts = acts := by
    unfold allocActs
    rw [if_pos (by rw [Array.all_replicate]; split <;> simp [Value.isDefault])]
  have hfit : ∀ (i : Nat) (v : Value), (Array.replicate 5 Value.null)[i]? = some v → s.fitsSlot c VmData.none i v = true := by
    intro i v hv
    simp only [Array.getElem?_replicate] at hv
    split at hv
    · cases hv
      simp [State.fitsSlot, State.slotType?, hk, hkind]
      rfl
    · cases hv
  conv => lhs; unfold Op.multianewarray.make
  simp [hk, hkind, Jvm.newArray, Jvm.arrayFits, h5, hl, hh, hm, Std.Legacy.Range.forIn_eq_forIn_range', Std.Legacy.Range.size, List.range', -bind_pure_comp]
  rw [hdef]
  exact ⟨fun h => h.2.2.2, fun h => ⟨hc, hs, hfit, h⟩⟩
end MULTI
section MULTI2
variable {p : Program} {l : Launch} {e : Env} {R : Room} {s : State} {m : MethodId} {args : Array Value} {below : List Frame} {meth : Method} {c : Code} {locs : List Loc} {cells slots : Nat}
/-- one of the rows: made, and put in its place -/
theorem turnS {T : State} (X : Stand p l e R s m args below meth c T locs cells slots) {comp cc : ClassId} {b i : Nat} {t t2 : FieldType} {k k2 : Class} {x : Cell} (hk2 : T.vm.classes[comp]? = some k2) (hkind2 : k2.kind = .array cc t2) (hb : T.heap[b]? = some x) (hx : x.vm = .none) (hi : i < x.slots.size) (hkx : T.vm.classes[x.cls]? = some k) (hkind : k.kind = .array comp (.array t)) (hcells : cells + 1 ≤ R.cells) (hslots : slots ≤ R.slots) :
    ∃ T' : State, Stand p l e R s m args below meth c T' (locs ++ [⟨b, i⟩]) (cells + 1) slots ∧ T'.vm = T.vm ∧ T'.heap[b]? = some (x.setSlot i (.ref T.heap.size)) ∧ T'.heap.size = T.heap.size + 1 ∧ T'.heap[T.heap.size]? = some (mz comp) ∧ (∀ q, q ≠ b → q < T.heap.size → T'.heap[q]? = T.heap[q]?) ∧
      ∀ {α : Type} {Q : α → Pre} {G : Unit → Sem α} {E : CtlPost} {d : Bool} {acts : List Action} {f : JFrame}, (wp (Op.multianewarray.make comp [0] >>= fun a => Jvm.writeLoc b i (.ref a) >>= G) Q E e d acts (T.setTop f) ↔ wp (G ()) Q E e true (writeActs ⟨b, i⟩ .plain (.ref T.heap.size) acts) (T'.setTop f)) := by
  have hlt : b < T.heap.size := (Array.getElem?_eq_some_iff.mp hb).1
  have h1 : (T.pushCell (mz comp)).heap[b]? = some x := by
    rw [State.heap_pushCell, Array.getElem?_push, if_neg (Nat.ne_of_lt hlt)]
    exact hb
  obtain ⟨hr1, hr2⟩ := X.roomAbove hcells (show slots + 0 ≤ R.slots from hslots)
  have X2 := (X.pushed (mz comp)).stored h1 i (.ref T.heap.size)
  have hsz : (T.pushCell (mz comp)).heap.size = T.heap.size + 1 := by rw [State.heap_pushCell, Array.size_push]
  refine ⟨(T.pushCell (mz comp)).setCell b (x.setSlot i (.ref T.heap.size)), X2, rfl, heapAt_setCell_self _ (show b < (T.pushCell (mz comp)).heap.size by rw [hsz]; exact Nat.lt_succ_of_lt hlt), by rw [size_setCell, hsz], ?_, fun q hq hl => ?_, fun {α Q G E d acts f} => ?_⟩
  · rw [heapAt_setCell_ne _ (Nat.ne_of_lt hlt), State.heap_pushCell, Array.getElem?_push, if_pos rfl]
  · rw [heapAt_setCell_ne _ (Ne.symm hq), State.heap_pushCell, Array.getElem?_push, if_neg (Nat.ne_of_lt hl)]
  · exact wp_turn (s := T.setTop f) hk2 hkind2 hb hx hi hkx hkind (show T.heap.size < _ by omega) (show T.slotsUsed ≤ _ by omega)
/-- what is left when the rows are in their places -/
theorem W.multi5 {H : Heap} {Q : State → Prop} {cc : ByteArray} (hexec : p.tables.exec = Jvm.exec) (hb : c.code = cc) {own : String} {index : Nat} {t : FieldType} {cA comp c0 : ClassId} {k k2 : Class} {t2 : FieldType} (hown : s.vm.findClass own = some m.cls) (hclink : (Cond.classLink own index (FieldType.array (.array t)).toString).before args s = true) (hfc : s.vm.findClass (FieldType.array (.array t)).toString = some cA) (hk : s.vm.classes[cA]? = some k) (hkind : k.kind = .array comp (.array t)) (hk2 : s.vm.classes[comp]? = some k2) (hkind2 : k2.kind = .array c0 t2)
    {g : JFrame} (hg : g.method = m) (hdg : decode cc g.pc = .ok (.multianewarray index 2, 4)) {rest : List Value} (hstack : g.stack = .int 0 :: .int 5 :: rest) (hcells : cells + 6 ≤ R.cells) (hslots : slots + 5 ≤ R.slots)
    (kk : ∀ H1 : Heap, H1.size = H.size + 6 → H1[H.size]? = some (arrV cA 5 (fun i => .ref (H.size + 1 + i))) → (∀ i, i < 5 → H1[H.size + 1 + i]? = some (arrV comp 0 (fun _ => .null))) → (∀ q, q < H.size → H1[q]? = H[q]?) → W p l e R s m args below meth c H1 (locs ++ [⟨H.size, 0⟩] ++ [⟨H.size, 1⟩] ++ [⟨H.size, 2⟩] ++ [⟨H.size, 3⟩] ++ [⟨H.size, 4⟩]) (cells + 6) (slots + 5) Q { g with pc := g.pc + 4, stack := .ref H.size :: rest }) : W p l e R s m args below meth c H locs cells slots Q g := by
  intro T hT X
  subst hT; subst hb; subst hg
  have hpl : e.platform.magicAccessors = ({} : Platform).magicAccessors := by rw [X.admits.platform]
  obtain ⟨cc', hfcc, hcl⟩ := Cond.classLink_spec hown hclink e.platform hpl
  cases hfc.symm.trans hfcc
  obtain ⟨hg₁, hwarm₁, hready₁⟩ := State.classEntry (e := e) X.warmed hcl
  generalize T.vm.noted g.method.cls index (.cls cA) = vm₁ at hg₁ hwarm₁ hready₁
  have hal : s.vm.Alike vm₁ := hwarm₁.alike
  obtain ⟨k₁, hk₁, ek⟩ := hal.2.2 _ _ hk
  obtain ⟨k₂, hk₂, ek2⟩ := hal.2.2 _ _ hk2
  have hkind₁ : k₁.kind = .array comp (.array t) := by rw [ek]; exact hkind
  have hkind₂ : k₂.kind = .array c0 t2 := by rw [ek2]; exact hkind2
  have hlimit : ¬ 5 > e.platform.arrayLengthLimit := by rw [Launch.admits_arrayLengthLimit X.admits]; omega
  have hheap : ¬ 5 * componentBytes (.array t) > e.platform.maxHeapBytes := by
    rw [Launch.admits_maxHeapBytes X.admits]; show ¬ 5 * 4 > 536870912; omega
  obtain ⟨x0, hx0⟩ : ∃ x0 : Cell, x0 = { cls := cA, slots := Array.replicate 5 .null, vm := .none } := ⟨_, rfl⟩
  have X₁ := X.noted hwarm₁
  obtain ⟨hr1, hr2⟩ := X.roomAbove hcells hslots
  have X₂ := X₁.pushed x0
  have b0 : ((T.setVm vm₁).pushCell x0).heap[T.heap.size]? = some x0 := by
    show (T.heap.push x0)[T.heap.size]? = some x0
    rw [Array.getElem?_push, if_pos rfl]
  have z0 : ((T.setVm vm₁).pushCell x0).heap.size = T.heap.size + 1 := by
    show (T.heap.push x0).size = _
    rw [Array.size_push]
  have s0 : x0.slots.size = 5 := by rw [hx0]; exact Array.size_replicate
  have q0 : ∀ q, q < T.heap.size → ((T.setVm vm₁).pushCell x0).heap[q]? = T.heap[q]? := fun q hq => by
    show (T.heap.push x0)[q]? = _
    rw [Array.getElem?_push, if_neg (Nat.ne_of_lt hq)]
  rw [s0] at X₂
  obtain ⟨T0, hT0⟩ : ∃ T0, T0 = (T.setVm vm₁).pushCell x0 := ⟨_, rfl⟩
  have v0 : T0.vm = vm₁ := by rw [hT0]; rfl
  rw [← hT0] at X₂ b0 z0 q0
  have hx0v : x0.vm = .none := by rw [hx0]
  have hx0c : x0.cls = cA := by rw [hx0]
  obtain ⟨T1, Y1, v1, b1, z1, m1, o1, w1⟩ := turnS X₂ (i := 0) (by rw [v0]; exact hk₂) hkind₂ b0 hx0v (by rw [s0]; omega) (by rw [v0, hx0c]; exact hk₁) hkind₁ (by omega) (by omega)
  obtain ⟨T2, Y2, v2, b2, z2, m2, o2, w2⟩ := turnS Y1 (i := 1) (by rw [v1, v0]; exact hk₂) hkind₂ b1 hx0v (by show 1 < (x0.slots.setIfInBounds _ _).size; rw [Array.size_setIfInBounds, s0]; omega) (by rw [v1, v0]; show vm₁.classes[x0.cls]? = _; rw [hx0c]; exact hk₁) hkind₁ (by omega) (by omega)
  obtain ⟨T3, Y3, v3, b3, z3, m3, o3, w3⟩ := turnS Y2 (i := 2) (by rw [v2, v1, v0]; exact hk₂) hkind₂ b2 hx0v (by show 2 < ((x0.slots.setIfInBounds _ _).setIfInBounds _ _).size; rw [Array.size_setIfInBounds, Array.size_setIfInBounds, s0]; omega) (by rw [v2, v1, v0]; show vm₁.classes[x0.cls]? = _; rw [hx0c]; exact hk₁) hkind₁ (by omega) (by omega)
  obtain ⟨T4, Y4, v4, b4, z4, m4, o4, w4⟩ := turnS Y3 (i := 3) (by rw [v3, v2, v1, v0]; exact hk₂) hkind₂ b3 hx0v (by show 3 < (((x0.slots.setIfInBounds _ _).setIfInBounds _ _).setIfInBounds _ _).size; rw [Array.size_setIfInBounds, Array.size_setIfInBounds, Array.size_setIfInBounds, s0]; omega) (by rw [v3, v2, v1, v0]; show vm₁.classes[x0.cls]? = _; rw [hx0c]; exact hk₁) hkind₁ (by omega) (by omega)
  obtain ⟨T5, Y5, v5, b5, z5, m5, o5, w5⟩ := turnS Y4 (i := 4) (by rw [v4, v3, v2, v1, v0]; exact hk₂) hkind₂ b4 hx0v (by show 4 < ((((x0.slots.setIfInBounds _ _).setIfInBounds _ _).setIfInBounds _ _).setIfInBounds _ _).size; rw [Array.size_setIfInBounds, Array.size_setIfInBounds, Array.size_setIfInBounds, Array.size_setIfInBounds, s0]; omega) (by rw [v4, v3, v2, v1, v0]; show vm₁.classes[x0.cls]? = _; rw [hx0c]; exact hk₁) hkind₁ (by omega) (by omega)
  rw [z4, z3, z2, z1, z0] at b5
  rw [z4, z3, z2, z1, z0] at m5
  rw [z3, z2, z1, z0] at m4
  rw [z2, z1, z0] at m3
  rw [z1, z0] at m2
  rw [z0] at m1
  have hcell : T5.heap[T.heap.size]? = some (arrV cA 5 (fun i => .ref (T.heap.size + 1 + i))) := by
    rw [b5, hx0]
    rfl
  have hrows : ∀ i, i < 5 → T5.heap[T.heap.size + 1 + i]? = some (arrV comp 0 (fun _ => .null)) := fun i hi => by
    have e0 : mz comp = arrV comp 0 (fun _ => .null) := rfl
    rw [← e0]
    rcases (show i = 0 ∨ i = 1 ∨ i = 2 ∨ i = 3 ∨ i = 4 by omega) with rfl | rfl | rfl | rfl | rfl
    · rw [o5 _ (by omega) (by omega), o4 _ (by omega) (by omega), o3 _ (by omega) (by omega), o2 _ (by omega) (by omega)]
      exact m1
    · rw [o5 _ (by omega) (by omega), o4 _ (by omega) (by omega), o3 _ (by omega) (by omega)]
      exact m2
    · rw [o5 _ (by omega) (by omega), o4 _ (by omega) (by omega)]
      exact m3
    · rw [o5 _ (by omega) (by omega)]
      exact m4
    · exact m5
  have hold : ∀ q, q < T.heap.size → T5.heap[q]? = T.heap[q]? := fun q hq => by
    rw [o5 _ (by omega) (by omega), o4 _ (by omega) (by omega), o3 _ (by omega) (by omega), o2 _ (by omega) (by omega), o1 _ (by omega) (by omega)]
    exact q0 q hq
  obtain ⟨t', a1, b1'⟩ := kk T5.heap (by omega) hcell hrows hold T5 rfl Y5
  refine ⟨t', ?_, b1'⟩
  have hcold : ∀ {Q : Unit → Pre} {E : CtlPost} {d : Bool} {acts : List Action}, (wp (Op.multianewarray.sem index 2) Q E e d acts (T.setTop g) ↔ wp (Op.multianewarray.sem index 2) Q E e d acts ((T.setVm vm₁).setTop g)) := fun {Q E d acts} => by
    simp only [Op.multianewarray.sem, wp_bind']
    exact W.resolveClassAt_transfer (s := T.setTop g) (State.method?_setTop g X.here.top) hg₁ hready₁
  have hready : ∀ {Q : Unit → Pre} {E : CtlPost} {d : Bool} {acts : List Action}, (wp (Op.multianewarray.sem index 2) Q E e d acts ((T.setVm vm₁).setTop g) ↔ Q () true (writeActs ⟨T.heap.size, 4⟩ .plain (.ref T4.heap.size) (writeActs ⟨T.heap.size, 3⟩ .plain (.ref T3.heap.size) (writeActs ⟨T.heap.size, 2⟩ .plain (.ref T2.heap.size) (writeActs ⟨T.heap.size, 1⟩ .plain (.ref T1.heap.size) (writeActs ⟨T.heap.size, 0⟩ .plain (.ref T0.heap.size) acts))))) (T5.setTop { g with stack := .ref T.heap.size :: rest })) := fun {Q E d acts} => by
    simp only [Op.multianewarray.sem, wp_bind', W.resolveClassAt_ready (State.method?_setTop g (show (T.setVm vm₁).topJava?.isSome from X.here.top)) hready₁]
    rw [show Jvm.popN 2 = Jvm.popN ([Value.int 5, Value.int 0] : List Value).length from rfl, popN_top (s := T.setVm vm₁) (f := g) (show (T.setVm vm₁).topJava?.isSome from X.here.top) (args := [.int 5, .int 0]) (rest := rest) hstack]
    rw [if_neg (show ¬ ([Value.int 5, Value.int 0] : List Value).length = 0 by decide)]
    simp only [List.mapM_cons, List.mapM_nil, wp_bind', wp_pure', pure_bind]
    have hst : ∀ f : JFrame, ((T.setVm vm₁).setTop f).pushCell (m5x cA) = T0.setTop f := fun f => by
      rw [hT0, hx0]
      rfl
    refine Iff.trans (wp_make5 (s := (T.setVm vm₁).setTop { g with stack := rest }) hk₁ hkind₁ (show T.heap.size < _ by omega) (show T.slotsUsed + 5 ≤ _ from hr2) hlimit hheap) ?_
    rw [hst]
    refine Iff.trans w1 ?_
    refine Iff.trans w2 ?_
    refine Iff.trans w3 ?_
    refine Iff.trans w4 ?_
    refine Iff.trans w5 ?_
    simp only [wp_pure', wp_bind', W.mark, W.pushRef, State.topJava?_setTop' _ Y5.here.top, Option.some.injEq, exists_eq_left', State.setTop_setTop]
    exact Iff.rfl
  jvm_step X.here [hexec, hdg, hcold, hready]
  exact a1
end MULTI2
