-- THE REFERENCE: its picture in the heap
theorem ok_Model : clsOK R_Model T_Model 28 ci_Model ty_Model := ⟨rfl, in_Model, tyok_Model, nm_Model, by decide +kernel⟩
abbrev MS : Type := (Nat → Int32) × (Nat → Nat → Int32)
/-- one row of numbers changed -/
def updR (s : Nat → Nat → Int32) (f : Nat) (r : Nat → Int32) : Nat → Nat → Int32 := fun j => if j = f then r else s j
theorem updR_hit (s : Nat → Nat → Int32) (f i : Nat) (x : Int32) : updR s f (upd (s f) i x) f i = x := by simp [updR, upd]
theorem updR_mi (s : Nat → Nat → Int32) (f i : Nat) (x : Int32) {j : Nat} (h : j ≠ i) : updR s f (upd (s f) i x) f j = s f j := by simp [updR, upd, h]
theorem updR_mf (s : Nat → Nat → Int32) (f : Nat) (r : Nat → Int32) {j : Nat} (h : j ≠ f) : updR s f r j = s j := by simp [updR, h]
theorem upd_hit (f : Nat → Int32) (i : Nat) (x : Int32) : upd f i x i = x := by simp [upd]
theorem upd_mi (f : Nat → Int32) (i : Nat) (x : Int32) {j : Nat} (h : j ≠ i) : upd f i x j = f j := by simp [upd, h]
def mv (m tq : Nat) (p : Nat → Int32) : List Value := [.int (p 0), .ref tq, .ref (m + 2), .int (p 3), .int (p 4), .int (p 5), .int (p 6), .int (p 7), .ref (m + 3), .ref (m + 4), .ref (m + 5), .ref (m + 6), .ref (m + 7), .ref (m + 8), .ref (m + 9), .ref (m + 10), .ref (m + 11), .ref (m + 12), .ref (m + 13), .ref (m + 14), .ref (m + 15), .ref (m + 16), .ref (m + 17), .ref (m + 18), .ref (m + 19), .ref (m + 20), .ref (m + 21), .ref (m + 22)]
def arM (g : GG) (m f n t : Nat) (s : Nat → Nat → Int32) (d : Nat) (H : Heap) : Prop := pt g (m + d) (.inl (g.2 t, n, .inl (s f))) H
/-- the reference at m, its table of lines at tq: the numbers p of its fields, the rows s of its arrays -/
def mAt (g : GG) (m tq : Nat) (p : Nat → Int32) (s : Nat → Nat → Int32) (H : Heap) : Prop :=
  pt g m (.inr (ci_Model, mv m tq p)) H ∧ (pt g tq (.inl (g.2 0, 1600, .inl (s 1))) H ∧ (tq = m + 1 ∨ m + 23 ≤ tq)) ∧
  pt g (m + 2) (.inl (g.2 0, 5, .inl (s 2))) H ∧ pt g (m + 3) (.inl (g.2 0, 121, .inl (s 8))) H ∧ pt g (m + 4) (.inl (g.2 0, 121, .inl (s 9))) H ∧ pt g (m + 5) (.inl (g.2 0, 121, .inl (s 10))) H ∧ pt g (m + 6) (.inl (g.2 0, 121, .inl (s 11))) H ∧ pt g (m + 7) (.inl (g.2 0, 121, .inl (s 12))) H ∧ pt g (m + 8) (.inl (g.2 0, 121, .inl (s 13))) H ∧ pt g (m + 9) (.inl (g.2 0, 122, .inl (s 14))) H ∧ pt g (m + 10) (.inl (g.2 0, 121, .inl (s 15))) H ∧ pt g (m + 11) (.inl (g.2 0, 121, .inl (s 16))) H ∧ pt g (m + 12) (.inl (g.2 0, 121, .inl (s 17))) H ∧ pt g (m + 13) (.inl (g.2 0, 121, .inl (s 18))) H ∧ pt g (m + 14) (.inl (g.2 0, 121, .inl (s 19))) H ∧ pt g (m + 15) (.inl (g.2 0, 121, .inl (s 20))) H ∧ pt g (m + 16) (.inl (g.2 0, 121, .inl (s 21))) H ∧ pt g (m + 17) (.inl (g.2 0, 121, .inl (s 22))) H ∧ pt g (m + 18) (.inl (g.2 1, 121, .inl (s 23))) H ∧ pt g (m + 19) (.inl (g.2 1, 121, .inl (s 24))) H ∧ pt g (m + 20) (.inl (g.2 0, 8, .inl (s 25))) H ∧ pt g (m + 21) (.inl (g.2 0, 8, .inl (s 26))) H ∧ pt g (m + 22) (.inl (g.2 0, 8, .inl (s 27))) H
theorem mAt.a2 {g : GG} {m tq : Nat} {p : Nat → Int32} {s : Nat → Nat → Int32} {H : Heap} (h : mAt g m tq p s H) : pt g (m + 2) (.inl (g.2 0, 5, .inl (s 2))) H := h.2.2.1
theorem mAt.a8 {g : GG} {m tq : Nat} {p : Nat → Int32} {s : Nat → Nat → Int32} {H : Heap} (h : mAt g m tq p s H) : pt g (m + 3) (.inl (g.2 0, 121, .inl (s 8))) H := h.2.2.2.1
theorem mAt.a9 {g : GG} {m tq : Nat} {p : Nat → Int32} {s : Nat → Nat → Int32} {H : Heap} (h : mAt g m tq p s H) : pt g (m + 4) (.inl (g.2 0, 121, .inl (s 9))) H := h.2.2.2.2.1
theorem mAt.a10 {g : GG} {m tq : Nat} {p : Nat → Int32} {s : Nat → Nat → Int32} {H : Heap} (h : mAt g m tq p s H) : pt g (m + 5) (.inl (g.2 0, 121, .inl (s 10))) H := h.2.2.2.2.2.1
theorem mAt.a11 {g : GG} {m tq : Nat} {p : Nat → Int32} {s : Nat → Nat → Int32} {H : Heap} (h : mAt g m tq p s H) : pt g (m + 6) (.inl (g.2 0, 121, .inl (s 11))) H := h.2.2.2.2.2.2.1
theorem mAt.a12 {g : GG} {m tq : Nat} {p : Nat → Int32} {s : Nat → Nat → Int32} {H : Heap} (h : mAt g m tq p s H) : pt g (m + 7) (.inl (g.2 0, 121, .inl (s 12))) H := h.2.2.2.2.2.2.2.1
theorem mAt.a13 {g : GG} {m tq : Nat} {p : Nat → Int32} {s : Nat → Nat → Int32} {H : Heap} (h : mAt g m tq p s H) : pt g (m + 8) (.inl (g.2 0, 121, .inl (s 13))) H := h.2.2.2.2.2.2.2.2.1
theorem mAt.a14 {g : GG} {m tq : Nat} {p : Nat → Int32} {s : Nat → Nat → Int32} {H : Heap} (h : mAt g m tq p s H) : pt g (m + 9) (.inl (g.2 0, 122, .inl (s 14))) H := h.2.2.2.2.2.2.2.2.2.1
theorem mAt.a15 {g : GG} {m tq : Nat} {p : Nat → Int32} {s : Nat → Nat → Int32} {H : Heap} (h : mAt g m tq p s H) : pt g (m + 10) (.inl (g.2 0, 121, .inl (s 15))) H := h.2.2.2.2.2.2.2.2.2.2.1
theorem mAt.a16 {g : GG} {m tq : Nat} {p : Nat → Int32} {s : Nat → Nat → Int32} {H : Heap} (h : mAt g m tq p s H) : pt g (m + 11) (.inl (g.2 0, 121, .inl (s 16))) H := h.2.2.2.2.2.2.2.2.2.2.2.1
theorem mAt.a17 {g : GG} {m tq : Nat} {p : Nat → Int32} {s : Nat → Nat → Int32} {H : Heap} (h : mAt g m tq p s H) : pt g (m + 12) (.inl (g.2 0, 121, .inl (s 17))) H := h.2.2.2.2.2.2.2.2.2.2.2.2.1
theorem mAt.a18 {g : GG} {m tq : Nat} {p : Nat → Int32} {s : Nat → Nat → Int32} {H : Heap} (h : mAt g m tq p s H) : pt g (m + 13) (.inl (g.2 0, 121, .inl (s 18))) H := h.2.2.2.2.2.2.2.2.2.2.2.2.2.1
theorem mAt.a19 {g : GG} {m tq : Nat} {p : Nat → Int32} {s : Nat → Nat → Int32} {H : Heap} (h : mAt g m tq p s H) : pt g (m + 14) (.inl (g.2 0, 121, .inl (s 19))) H := h.2.2.2.2.2.2.2.2.2.2.2.2.2.2.1
theorem mAt.a20 {g : GG} {m tq : Nat} {p : Nat → Int32} {s : Nat → Nat → Int32} {H : Heap} (h : mAt g m tq p s H) : pt g (m + 15) (.inl (g.2 0, 121, .inl (s 20))) H := h.2.2.2.2.2.2.2.2.2.2.2.2.2.2.2.1
theorem mAt.a21 {g : GG} {m tq : Nat} {p : Nat → Int32} {s : Nat → Nat → Int32} {H : Heap} (h : mAt g m tq p s H) : pt g (m + 16) (.inl (g.2 0, 121, .inl (s 21))) H := h.2.2.2.2.2.2.2.2.2.2.2.2.2.2.2.2.1
theorem mAt.a22 {g : GG} {m tq : Nat} {p : Nat → Int32} {s : Nat → Nat → Int32} {H : Heap} (h : mAt g m tq p s H) : pt g (m + 17) (.inl (g.2 0, 121, .inl (s 22))) H := h.2.2.2.2.2.2.2.2.2.2.2.2.2.2.2.2.2.1
theorem mAt.a23 {g : GG} {m tq : Nat} {p : Nat → Int32} {s : Nat → Nat → Int32} {H : Heap} (h : mAt g m tq p s H) : pt g (m + 18) (.inl (g.2 1, 121, .inl (s 23))) H := h.2.2.2.2.2.2.2.2.2.2.2.2.2.2.2.2.2.2.1
theorem mAt.a24 {g : GG} {m tq : Nat} {p : Nat → Int32} {s : Nat → Nat → Int32} {H : Heap} (h : mAt g m tq p s H) : pt g (m + 19) (.inl (g.2 1, 121, .inl (s 24))) H := h.2.2.2.2.2.2.2.2.2.2.2.2.2.2.2.2.2.2.2.1
theorem mAt.a25 {g : GG} {m tq : Nat} {p : Nat → Int32} {s : Nat → Nat → Int32} {H : Heap} (h : mAt g m tq p s H) : pt g (m + 20) (.inl (g.2 0, 8, .inl (s 25))) H := h.2.2.2.2.2.2.2.2.2.2.2.2.2.2.2.2.2.2.2.2.1
theorem mAt.a26 {g : GG} {m tq : Nat} {p : Nat → Int32} {s : Nat → Nat → Int32} {H : Heap} (h : mAt g m tq p s H) : pt g (m + 21) (.inl (g.2 0, 8, .inl (s 26))) H := h.2.2.2.2.2.2.2.2.2.2.2.2.2.2.2.2.2.2.2.2.2.1
theorem mAt.a27 {g : GG} {m tq : Nat} {p : Nat → Int32} {s : Nat → Nat → Int32} {H : Heap} (h : mAt g m tq p s H) : pt g (m + 22) (.inl (g.2 0, 8, .inl (s 27))) H := h.2.2.2.2.2.2.2.2.2.2.2.2.2.2.2.2.2.2.2.2.2.2
theorem mAt.a1 {g : GG} {m tq : Nat} {p : Nat → Int32} {s : Nat → Nat → Int32} {H : Heap} (h : mAt g m tq p s H) : pt g tq (.inl (g.2 0, 1600, .inl (s 1))) H := h.2.1.1
theorem mAt.tq {g : GG} {m tq : Nat} {p : Nat → Int32} {s : Nat → Nat → Int32} {H : Heap} (h : mAt g m tq p s H) : tq = m + 1 ∨ m + 23 ≤ tq := h.2.1.2
theorem mAt.frame {A : Nat → Prop} {H1 : Heap} {g : GG} {m tq : Nat} {p : Nat → Int32} {s : Nat → Nat → Int32} {H : Heap} (h : mAt g m tq p s H) (hf : fr A H H1) (hA : ∀ q, A q → ¬ (m ≤ q ∧ q < m + 23) ∧ q ≠ tq) : mAt g m tq p s H1 := by
  obtain ⟨h0, ⟨h1, ht⟩, k2, k8, k9, k10, k11, k12, k13, k14, k15, k16, k17, k18, k19, k20, k21, k22, k23, k24, k25, k26, k27⟩ := h
  have z : ∀ d, d < 23 → ¬ A (m + d) := fun d hd q => (hA _ q).1 ⟨by omega, by omega⟩
  exact ⟨h0.fr hf (z 0 (by omega)), ⟨h1.fr hf (fun q => (hA _ q).2 rfl), ht⟩, k2.fr hf (z 2 (by omega)), k8.fr hf (z 3 (by omega)), k9.fr hf (z 4 (by omega)), k10.fr hf (z 5 (by omega)), k11.fr hf (z 6 (by omega)), k12.fr hf (z 7 (by omega)), k13.fr hf (z 8 (by omega)), k14.fr hf (z 9 (by omega)), k15.fr hf (z 10 (by omega)), k16.fr hf (z 11 (by omega)), k17.fr hf (z 12 (by omega)), k18.fr hf (z 13 (by omega)), k19.fr hf (z 14 (by omega)), k20.fr hf (z 15 (by omega)), k21.fr hf (z 16 (by omega)), k22.fr hf (z 17 (by omega)), k23.fr hf (z 18 (by omega)), k24.fr hf (z 19 (by omega)), k25.fr hf (z 20 (by omega)), k26.fr hf (z 21 (by omega)), k27.fr hf (z 22 (by omega))⟩
theorem mAt.f0 {H1 : Heap} {v : Int32} {g : GG} {m tq : Nat} {p : Nat → Int32} {s : Nat → Nat → Int32} {H : Heap} (h : mAt g m tq p s H) (hp : pt g m (.inr (ci_Model, (mv m tq p).set 0 (.int v))) H1) (hc : chg m H H1) : mAt g m tq (upd p 0 v) s H1 := by
  obtain ⟨h0, ⟨h1, ht⟩, k2, k8, k9, k10, k11, k12, k13, k14, k15, k16, k17, k18, k19, k20, k21, k22, k23, k24, k25, k26, k27⟩ := h
  refine ⟨?_, ⟨h1.off hc (by omega), ht⟩, k2.off hc (by omega), k8.off hc (by omega), k9.off hc (by omega), k10.off hc (by omega), k11.off hc (by omega), k12.off hc (by omega), k13.off hc (by omega), k14.off hc (by omega), k15.off hc (by omega), k16.off hc (by omega), k17.off hc (by omega), k18.off hc (by omega), k19.off hc (by omega), k20.off hc (by omega), k21.off hc (by omega), k22.off hc (by omega), k23.off hc (by omega), k24.off hc (by omega), k25.off hc (by omega), k26.off hc (by omega), k27.off hc (by omega)⟩
  rw [show mv m tq (upd p 0 v) = (mv m tq p).set 0 (.int v) from by simp [mv, upd]]
  exact hp
theorem mAt.f3 {H1 : Heap} {v : Int32} {g : GG} {m tq : Nat} {p : Nat → Int32} {s : Nat → Nat → Int32} {H : Heap} (h : mAt g m tq p s H) (hp : pt g m (.inr (ci_Model, (mv m tq p).set 3 (.int v))) H1) (hc : chg m H H1) : mAt g m tq (upd p 3 v) s H1 := by
  obtain ⟨h0, ⟨h1, ht⟩, k2, k8, k9, k10, k11, k12, k13, k14, k15, k16, k17, k18, k19, k20, k21, k22, k23, k24, k25, k26, k27⟩ := h
  refine ⟨?_, ⟨h1.off hc (by omega), ht⟩, k2.off hc (by omega), k8.off hc (by omega), k9.off hc (by omega), k10.off hc (by omega), k11.off hc (by omega), k12.off hc (by omega), k13.off hc (by omega), k14.off hc (by omega), k15.off hc (by omega), k16.off hc (by omega), k17.off hc (by omega), k18.off hc (by omega), k19.off hc (by omega), k20.off hc (by omega), k21.off hc (by omega), k22.off hc (by omega), k23.off hc (by omega), k24.off hc (by omega), k25.off hc (by omega), k26.off hc (by omega), k27.off hc (by omega)⟩
  rw [show mv m tq (upd p 3 v) = (mv m tq p).set 3 (.int v) from by simp [mv, upd]]
  exact hp
theorem mAt.f4 {H1 : Heap} {v : Int32} {g : GG} {m tq : Nat} {p : Nat → Int32} {s : Nat → Nat → Int32} {H : Heap} (h : mAt g m tq p s H) (hp : pt g m (.inr (ci_Model, (mv m tq p).set 4 (.int v))) H1) (hc : chg m H H1) : mAt g m tq (upd p 4 v) s H1 := by
  obtain ⟨h0, ⟨h1, ht⟩, k2, k8, k9, k10, k11, k12, k13, k14, k15, k16, k17, k18, k19, k20, k21, k22, k23, k24, k25, k26, k27⟩ := h
  refine ⟨?_, ⟨h1.off hc (by omega), ht⟩, k2.off hc (by omega), k8.off hc (by omega), k9.off hc (by omega), k10.off hc (by omega), k11.off hc (by omega), k12.off hc (by omega), k13.off hc (by omega), k14.off hc (by omega), k15.off hc (by omega), k16.off hc (by omega), k17.off hc (by omega), k18.off hc (by omega), k19.off hc (by omega), k20.off hc (by omega), k21.off hc (by omega), k22.off hc (by omega), k23.off hc (by omega), k24.off hc (by omega), k25.off hc (by omega), k26.off hc (by omega), k27.off hc (by omega)⟩
  rw [show mv m tq (upd p 4 v) = (mv m tq p).set 4 (.int v) from by simp [mv, upd]]
  exact hp
theorem mAt.f5 {H1 : Heap} {v : Int32} {g : GG} {m tq : Nat} {p : Nat → Int32} {s : Nat → Nat → Int32} {H : Heap} (h : mAt g m tq p s H) (hp : pt g m (.inr (ci_Model, (mv m tq p).set 5 (.int v))) H1) (hc : chg m H H1) : mAt g m tq (upd p 5 v) s H1 := by
  obtain ⟨h0, ⟨h1, ht⟩, k2, k8, k9, k10, k11, k12, k13, k14, k15, k16, k17, k18, k19, k20, k21, k22, k23, k24, k25, k26, k27⟩ := h
  refine ⟨?_, ⟨h1.off hc (by omega), ht⟩, k2.off hc (by omega), k8.off hc (by omega), k9.off hc (by omega), k10.off hc (by omega), k11.off hc (by omega), k12.off hc (by omega), k13.off hc (by omega), k14.off hc (by omega), k15.off hc (by omega), k16.off hc (by omega), k17.off hc (by omega), k18.off hc (by omega), k19.off hc (by omega), k20.off hc (by omega), k21.off hc (by omega), k22.off hc (by omega), k23.off hc (by omega), k24.off hc (by omega), k25.off hc (by omega), k26.off hc (by omega), k27.off hc (by omega)⟩
  rw [show mv m tq (upd p 5 v) = (mv m tq p).set 5 (.int v) from by simp [mv, upd]]
  exact hp
theorem mAt.f6 {H1 : Heap} {v : Int32} {g : GG} {m tq : Nat} {p : Nat → Int32} {s : Nat → Nat → Int32} {H : Heap} (h : mAt g m tq p s H) (hp : pt g m (.inr (ci_Model, (mv m tq p).set 6 (.int v))) H1) (hc : chg m H H1) : mAt g m tq (upd p 6 v) s H1 := by
  obtain ⟨h0, ⟨h1, ht⟩, k2, k8, k9, k10, k11, k12, k13, k14, k15, k16, k17, k18, k19, k20, k21, k22, k23, k24, k25, k26, k27⟩ := h
  refine ⟨?_, ⟨h1.off hc (by omega), ht⟩, k2.off hc (by omega), k8.off hc (by omega), k9.off hc (by omega), k10.off hc (by omega), k11.off hc (by omega), k12.off hc (by omega), k13.off hc (by omega), k14.off hc (by omega), k15.off hc (by omega), k16.off hc (by omega), k17.off hc (by omega), k18.off hc (by omega), k19.off hc (by omega), k20.off hc (by omega), k21.off hc (by omega), k22.off hc (by omega), k23.off hc (by omega), k24.off hc (by omega), k25.off hc (by omega), k26.off hc (by omega), k27.off hc (by omega)⟩
  rw [show mv m tq (upd p 6 v) = (mv m tq p).set 6 (.int v) from by simp [mv, upd]]
  exact hp
theorem mAt.f7 {H1 : Heap} {v : Int32} {g : GG} {m tq : Nat} {p : Nat → Int32} {s : Nat → Nat → Int32} {H : Heap} (h : mAt g m tq p s H) (hp : pt g m (.inr (ci_Model, (mv m tq p).set 7 (.int v))) H1) (hc : chg m H H1) : mAt g m tq (upd p 7 v) s H1 := by
  obtain ⟨h0, ⟨h1, ht⟩, k2, k8, k9, k10, k11, k12, k13, k14, k15, k16, k17, k18, k19, k20, k21, k22, k23, k24, k25, k26, k27⟩ := h
  refine ⟨?_, ⟨h1.off hc (by omega), ht⟩, k2.off hc (by omega), k8.off hc (by omega), k9.off hc (by omega), k10.off hc (by omega), k11.off hc (by omega), k12.off hc (by omega), k13.off hc (by omega), k14.off hc (by omega), k15.off hc (by omega), k16.off hc (by omega), k17.off hc (by omega), k18.off hc (by omega), k19.off hc (by omega), k20.off hc (by omega), k21.off hc (by omega), k22.off hc (by omega), k23.off hc (by omega), k24.off hc (by omega), k25.off hc (by omega), k26.off hc (by omega), k27.off hc (by omega)⟩
  rw [show mv m tq (upd p 7 v) = (mv m tq p).set 7 (.int v) from by simp [mv, upd]]
  exact hp
theorem mAt.q {H1 : Heap} {t2 : Nat} {r : Nat → Int32} {g : GG} {m tq : Nat} {p : Nat → Int32} {s : Nat → Nat → Int32} {H : Heap} (h : mAt g m tq p s H) (hp : pt g m (.inr (ci_Model, (mv m tq p).set 1 (.ref t2))) H1) (hc : chg m H H1) (h2 : pt g t2 (.inl (g.2 0, 1600, .inl r)) H) (ht2 : m + 23 ≤ t2) : mAt g m t2 p (updR s 1 r) H1 := by
  obtain ⟨h0, ⟨h1, ht⟩, k2, k8, k9, k10, k11, k12, k13, k14, k15, k16, k17, k18, k19, k20, k21, k22, k23, k24, k25, k26, k27⟩ := h
  refine ⟨?_, ⟨?_, Or.inr ht2⟩, ?_, ?_, ?_, ?_, ?_, ?_, ?_, ?_, ?_, ?_, ?_, ?_, ?_, ?_, ?_, ?_, ?_, ?_, ?_, ?_, ?_⟩
  · rw [show mv m t2 p = (mv m tq p).set 1 (.ref t2) from by simp [mv]]
    exact hp
  · rw [show updR s 1 r 1 = r from by simp [updR]]
    exact h2.off hc (by omega)
  · rw [updR_mf s 1 r (by decide : 2 ≠ 1)]; exact k2.off hc (by omega)
  · rw [updR_mf s 1 r (by decide : 8 ≠ 1)]; exact k8.off hc (by omega)
  · rw [updR_mf s 1 r (by decide : 9 ≠ 1)]; exact k9.off hc (by omega)
  · rw [updR_mf s 1 r (by decide : 10 ≠ 1)]; exact k10.off hc (by omega)
  · rw [updR_mf s 1 r (by decide : 11 ≠ 1)]; exact k11.off hc (by omega)
  · rw [updR_mf s 1 r (by decide : 12 ≠ 1)]; exact k12.off hc (by omega)
  · rw [updR_mf s 1 r (by decide : 13 ≠ 1)]; exact k13.off hc (by omega)
  · rw [updR_mf s 1 r (by decide : 14 ≠ 1)]; exact k14.off hc (by omega)
  · rw [updR_mf s 1 r (by decide : 15 ≠ 1)]; exact k15.off hc (by omega)
  · rw [updR_mf s 1 r (by decide : 16 ≠ 1)]; exact k16.off hc (by omega)
  · rw [updR_mf s 1 r (by decide : 17 ≠ 1)]; exact k17.off hc (by omega)
  · rw [updR_mf s 1 r (by decide : 18 ≠ 1)]; exact k18.off hc (by omega)
  · rw [updR_mf s 1 r (by decide : 19 ≠ 1)]; exact k19.off hc (by omega)
  · rw [updR_mf s 1 r (by decide : 20 ≠ 1)]; exact k20.off hc (by omega)
  · rw [updR_mf s 1 r (by decide : 21 ≠ 1)]; exact k21.off hc (by omega)
  · rw [updR_mf s 1 r (by decide : 22 ≠ 1)]; exact k22.off hc (by omega)
  · rw [updR_mf s 1 r (by decide : 23 ≠ 1)]; exact k23.off hc (by omega)
  · rw [updR_mf s 1 r (by decide : 24 ≠ 1)]; exact k24.off hc (by omega)
  · rw [updR_mf s 1 r (by decide : 25 ≠ 1)]; exact k25.off hc (by omega)
  · rw [updR_mf s 1 r (by decide : 26 ≠ 1)]; exact k26.off hc (by omega)
  · rw [updR_mf s 1 r (by decide : 27 ≠ 1)]; exact k27.off hc (by omega)
theorem mAt.s2 {H1 : Heap} {r : Nat → Int32} {g : GG} {m tq : Nat} {p : Nat → Int32} {s : Nat → Nat → Int32} {H : Heap} (h : mAt g m tq p s H) (hp : pt g (m + 2) (.inl (g.2 0, 5, .inl r)) H1) (hc : chg (m + 2) H H1) : mAt g m tq p (updR s 2 r) H1 := by
  obtain ⟨h0, ⟨h1, ht⟩, k2, k8, k9, k10, k11, k12, k13, k14, k15, k16, k17, k18, k19, k20, k21, k22, k23, k24, k25, k26, k27⟩ := h
  refine ⟨h0.off hc (by omega), ⟨by rw [updR_mf s 2 r (by decide : 1 ≠ 2)]; exact h1.off hc (by omega), ht⟩, ?_, ?_, ?_, ?_, ?_, ?_, ?_, ?_, ?_, ?_, ?_, ?_, ?_, ?_, ?_, ?_, ?_, ?_, ?_, ?_, ?_⟩
  · rw [show updR s 2 r 2 = r from by simp [updR]]; exact hp
  · rw [updR_mf s 2 r (by decide : 8 ≠ 2)]; exact k8.off hc (by omega)
  · rw [updR_mf s 2 r (by decide : 9 ≠ 2)]; exact k9.off hc (by omega)
  · rw [updR_mf s 2 r (by decide : 10 ≠ 2)]; exact k10.off hc (by omega)
  · rw [updR_mf s 2 r (by decide : 11 ≠ 2)]; exact k11.off hc (by omega)
  · rw [updR_mf s 2 r (by decide : 12 ≠ 2)]; exact k12.off hc (by omega)
  · rw [updR_mf s 2 r (by decide : 13 ≠ 2)]; exact k13.off hc (by omega)
  · rw [updR_mf s 2 r (by decide : 14 ≠ 2)]; exact k14.off hc (by omega)
  · rw [updR_mf s 2 r (by decide : 15 ≠ 2)]; exact k15.off hc (by omega)
  · rw [updR_mf s 2 r (by decide : 16 ≠ 2)]; exact k16.off hc (by omega)
  · rw [updR_mf s 2 r (by decide : 17 ≠ 2)]; exact k17.off hc (by omega)
  · rw [updR_mf s 2 r (by decide : 18 ≠ 2)]; exact k18.off hc (by omega)
  · rw [updR_mf s 2 r (by decide : 19 ≠ 2)]; exact k19.off hc (by omega)
  · rw [updR_mf s 2 r (by decide : 20 ≠ 2)]; exact k20.off hc (by omega)
  · rw [updR_mf s 2 r (by decide : 21 ≠ 2)]; exact k21.off hc (by omega)
  · rw [updR_mf s 2 r (by decide : 22 ≠ 2)]; exact k22.off hc (by omega)
  · rw [updR_mf s 2 r (by decide : 23 ≠ 2)]; exact k23.off hc (by omega)
  · rw [updR_mf s 2 r (by decide : 24 ≠ 2)]; exact k24.off hc (by omega)
  · rw [updR_mf s 2 r (by decide : 25 ≠ 2)]; exact k25.off hc (by omega)
  · rw [updR_mf s 2 r (by decide : 26 ≠ 2)]; exact k26.off hc (by omega)
  · rw [updR_mf s 2 r (by decide : 27 ≠ 2)]; exact k27.off hc (by omega)
theorem mAt.s8 {H1 : Heap} {r : Nat → Int32} {g : GG} {m tq : Nat} {p : Nat → Int32} {s : Nat → Nat → Int32} {H : Heap} (h : mAt g m tq p s H) (hp : pt g (m + 3) (.inl (g.2 0, 121, .inl r)) H1) (hc : chg (m + 3) H H1) : mAt g m tq p (updR s 8 r) H1 := by
  obtain ⟨h0, ⟨h1, ht⟩, k2, k8, k9, k10, k11, k12, k13, k14, k15, k16, k17, k18, k19, k20, k21, k22, k23, k24, k25, k26, k27⟩ := h
  refine ⟨h0.off hc (by omega), ⟨by rw [updR_mf s 8 r (by decide : 1 ≠ 8)]; exact h1.off hc (by omega), ht⟩, ?_, ?_, ?_, ?_, ?_, ?_, ?_, ?_, ?_, ?_, ?_, ?_, ?_, ?_, ?_, ?_, ?_, ?_, ?_, ?_, ?_⟩
  · rw [updR_mf s 8 r (by decide : 2 ≠ 8)]; exact k2.off hc (by omega)
  · rw [show updR s 8 r 8 = r from by simp [updR]]; exact hp
  · rw [updR_mf s 8 r (by decide : 9 ≠ 8)]; exact k9.off hc (by omega)
  · rw [updR_mf s 8 r (by decide : 10 ≠ 8)]; exact k10.off hc (by omega)
  · rw [updR_mf s 8 r (by decide : 11 ≠ 8)]; exact k11.off hc (by omega)
  · rw [updR_mf s 8 r (by decide : 12 ≠ 8)]; exact k12.off hc (by omega)
  · rw [updR_mf s 8 r (by decide : 13 ≠ 8)]; exact k13.off hc (by omega)
  · rw [updR_mf s 8 r (by decide : 14 ≠ 8)]; exact k14.off hc (by omega)
  · rw [updR_mf s 8 r (by decide : 15 ≠ 8)]; exact k15.off hc (by omega)
  · rw [updR_mf s 8 r (by decide : 16 ≠ 8)]; exact k16.off hc (by omega)
  · rw [updR_mf s 8 r (by decide : 17 ≠ 8)]; exact k17.off hc (by omega)
  · rw [updR_mf s 8 r (by decide : 18 ≠ 8)]; exact k18.off hc (by omega)
  · rw [updR_mf s 8 r (by decide : 19 ≠ 8)]; exact k19.off hc (by omega)
  · rw [updR_mf s 8 r (by decide : 20 ≠ 8)]; exact k20.off hc (by omega)
  · rw [updR_mf s 8 r (by decide : 21 ≠ 8)]; exact k21.off hc (by omega)
  · rw [updR_mf s 8 r (by decide : 22 ≠ 8)]; exact k22.off hc (by omega)
  · rw [updR_mf s 8 r (by decide : 23 ≠ 8)]; exact k23.off hc (by omega)
  · rw [updR_mf s 8 r (by decide : 24 ≠ 8)]; exact k24.off hc (by omega)
  · rw [updR_mf s 8 r (by decide : 25 ≠ 8)]; exact k25.off hc (by omega)
  · rw [updR_mf s 8 r (by decide : 26 ≠ 8)]; exact k26.off hc (by omega)
  · rw [updR_mf s 8 r (by decide : 27 ≠ 8)]; exact k27.off hc (by omega)
theorem mAt.s9 {H1 : Heap} {r : Nat → Int32} {g : GG} {m tq : Nat} {p : Nat → Int32} {s : Nat → Nat → Int32} {H : Heap} (h : mAt g m tq p s H) (hp : pt g (m + 4) (.inl (g.2 0, 121, .inl r)) H1) (hc : chg (m + 4) H H1) : mAt g m tq p (updR s 9 r) H1 := by
  obtain ⟨h0, ⟨h1, ht⟩, k2, k8, k9, k10, k11, k12, k13, k14, k15, k16, k17, k18, k19, k20, k21, k22, k23, k24, k25, k26, k27⟩ := h
  refine ⟨h0.off hc (by omega), ⟨by rw [updR_mf s 9 r (by decide : 1 ≠ 9)]; exact h1.off hc (by omega), ht⟩, ?_, ?_, ?_, ?_, ?_, ?_, ?_, ?_, ?_, ?_, ?_, ?_, ?_, ?_, ?_, ?_, ?_, ?_, ?_, ?_, ?_⟩
  · rw [updR_mf s 9 r (by decide : 2 ≠ 9)]; exact k2.off hc (by omega)
  · rw [updR_mf s 9 r (by decide : 8 ≠ 9)]; exact k8.off hc (by omega)
  · rw [show updR s 9 r 9 = r from by simp [updR]]; exact hp
  · rw [updR_mf s 9 r (by decide : 10 ≠ 9)]; exact k10.off hc (by omega)
  · rw [updR_mf s 9 r (by decide : 11 ≠ 9)]; exact k11.off hc (by omega)
  · rw [updR_mf s 9 r (by decide : 12 ≠ 9)]; exact k12.off hc (by omega)
  · rw [updR_mf s 9 r (by decide : 13 ≠ 9)]; exact k13.off hc (by omega)
  · rw [updR_mf s 9 r (by decide : 14 ≠ 9)]; exact k14.off hc (by omega)
  · rw [updR_mf s 9 r (by decide : 15 ≠ 9)]; exact k15.off hc (by omega)
  · rw [updR_mf s 9 r (by decide : 16 ≠ 9)]; exact k16.off hc (by omega)
  · rw [updR_mf s 9 r (by decide : 17 ≠ 9)]; exact k17.off hc (by omega)
  · rw [updR_mf s 9 r (by decide : 18 ≠ 9)]; exact k18.off hc (by omega)
  · rw [updR_mf s 9 r (by decide : 19 ≠ 9)]; exact k19.off hc (by omega)
  · rw [updR_mf s 9 r (by decide : 20 ≠ 9)]; exact k20.off hc (by omega)
  · rw [updR_mf s 9 r (by decide : 21 ≠ 9)]; exact k21.off hc (by omega)
  · rw [updR_mf s 9 r (by decide : 22 ≠ 9)]; exact k22.off hc (by omega)
  · rw [updR_mf s 9 r (by decide : 23 ≠ 9)]; exact k23.off hc (by omega)
  · rw [updR_mf s 9 r (by decide : 24 ≠ 9)]; exact k24.off hc (by omega)
  · rw [updR_mf s 9 r (by decide : 25 ≠ 9)]; exact k25.off hc (by omega)
  · rw [updR_mf s 9 r (by decide : 26 ≠ 9)]; exact k26.off hc (by omega)
  · rw [updR_mf s 9 r (by decide : 27 ≠ 9)]; exact k27.off hc (by omega)
theorem mAt.s10 {H1 : Heap} {r : Nat → Int32} {g : GG} {m tq : Nat} {p : Nat → Int32} {s : Nat → Nat → Int32} {H : Heap} (h : mAt g m tq p s H) (hp : pt g (m + 5) (.inl (g.2 0, 121, .inl r)) H1) (hc : chg (m + 5) H H1) : mAt g m tq p (updR s 10 r) H1 := by
  obtain ⟨h0, ⟨h1, ht⟩, k2, k8, k9, k10, k11, k12, k13, k14, k15, k16, k17, k18, k19, k20, k21, k22, k23, k24, k25, k26, k27⟩ := h
  refine ⟨h0.off hc (by omega), ⟨by rw [updR_mf s 10 r (by decide : 1 ≠ 10)]; exact h1.off hc (by omega), ht⟩, ?_, ?_, ?_, ?_, ?_, ?_, ?_, ?_, ?_, ?_, ?_, ?_, ?_, ?_, ?_, ?_, ?_, ?_, ?_, ?_, ?_⟩
  · rw [updR_mf s 10 r (by decide : 2 ≠ 10)]; exact k2.off hc (by omega)
  · rw [updR_mf s 10 r (by decide : 8 ≠ 10)]; exact k8.off hc (by omega)
  · rw [updR_mf s 10 r (by decide : 9 ≠ 10)]; exact k9.off hc (by omega)
  · rw [show updR s 10 r 10 = r from by simp [updR]]; exact hp
  · rw [updR_mf s 10 r (by decide : 11 ≠ 10)]; exact k11.off hc (by omega)
  · rw [updR_mf s 10 r (by decide : 12 ≠ 10)]; exact k12.off hc (by omega)
  · rw [updR_mf s 10 r (by decide : 13 ≠ 10)]; exact k13.off hc (by omega)
  · rw [updR_mf s 10 r (by decide : 14 ≠ 10)]; exact k14.off hc (by omega)
  · rw [updR_mf s 10 r (by decide : 15 ≠ 10)]; exact k15.off hc (by omega)
  · rw [updR_mf s 10 r (by decide : 16 ≠ 10)]; exact k16.off hc (by omega)
  · rw [updR_mf s 10 r (by decide : 17 ≠ 10)]; exact k17.off hc (by omega)
  · rw [updR_mf s 10 r (by decide : 18 ≠ 10)]; exact k18.off hc (by omega)
  · rw [updR_mf s 10 r (by decide : 19 ≠ 10)]; exact k19.off hc (by omega)
  · rw [updR_mf s 10 r (by decide : 20 ≠ 10)]; exact k20.off hc (by omega)
  · rw [updR_mf s 10 r (by decide : 21 ≠ 10)]; exact k21.off hc (by omega)
  · rw [updR_mf s 10 r (by decide : 22 ≠ 10)]; exact k22.off hc (by omega)
  · rw [updR_mf s 10 r (by decide : 23 ≠ 10)]; exact k23.off hc (by omega)
  · rw [updR_mf s 10 r (by decide : 24 ≠ 10)]; exact k24.off hc (by omega)
  · rw [updR_mf s 10 r (by decide : 25 ≠ 10)]; exact k25.off hc (by omega)
  · rw [updR_mf s 10 r (by decide : 26 ≠ 10)]; exact k26.off hc (by omega)
  · rw [updR_mf s 10 r (by decide : 27 ≠ 10)]; exact k27.off hc (by omega)
theorem mAt.s11 {H1 : Heap} {r : Nat → Int32} {g : GG} {m tq : Nat} {p : Nat → Int32} {s : Nat → Nat → Int32} {H : Heap} (h : mAt g m tq p s H) (hp : pt g (m + 6) (.inl (g.2 0, 121, .inl r)) H1) (hc : chg (m + 6) H H1) : mAt g m tq p (updR s 11 r) H1 := by
  obtain ⟨h0, ⟨h1, ht⟩, k2, k8, k9, k10, k11, k12, k13, k14, k15, k16, k17, k18, k19, k20, k21, k22, k23, k24, k25, k26, k27⟩ := h
  refine ⟨h0.off hc (by omega), ⟨by rw [updR_mf s 11 r (by decide : 1 ≠ 11)]; exact h1.off hc (by omega), ht⟩, ?_, ?_, ?_, ?_, ?_, ?_, ?_, ?_, ?_, ?_, ?_, ?_, ?_, ?_, ?_, ?_, ?_, ?_, ?_, ?_, ?_⟩
  · rw [updR_mf s 11 r (by decide : 2 ≠ 11)]; exact k2.off hc (by omega)
  · rw [updR_mf s 11 r (by decide : 8 ≠ 11)]; exact k8.off hc (by omega)
  · rw [updR_mf s 11 r (by decide : 9 ≠ 11)]; exact k9.off hc (by omega)
  · rw [updR_mf s 11 r (by decide : 10 ≠ 11)]; exact k10.off hc (by omega)
  · rw [show updR s 11 r 11 = r from by simp [updR]]; exact hp
  · rw [updR_mf s 11 r (by decide : 12 ≠ 11)]; exact k12.off hc (by omega)
  · rw [updR_mf s 11 r (by decide : 13 ≠ 11)]; exact k13.off hc (by omega)
  · rw [updR_mf s 11 r (by decide : 14 ≠ 11)]; exact k14.off hc (by omega)
  · rw [updR_mf s 11 r (by decide : 15 ≠ 11)]; exact k15.off hc (by omega)
  · rw [updR_mf s 11 r (by decide : 16 ≠ 11)]; exact k16.off hc (by omega)
  · rw [updR_mf s 11 r (by decide : 17 ≠ 11)]; exact k17.off hc (by omega)
  · rw [updR_mf s 11 r (by decide : 18 ≠ 11)]; exact k18.off hc (by omega)
  · rw [updR_mf s 11 r (by decide : 19 ≠ 11)]; exact k19.off hc (by omega)
  · rw [updR_mf s 11 r (by decide : 20 ≠ 11)]; exact k20.off hc (by omega)
  · rw [updR_mf s 11 r (by decide : 21 ≠ 11)]; exact k21.off hc (by omega)
  · rw [updR_mf s 11 r (by decide : 22 ≠ 11)]; exact k22.off hc (by omega)
  · rw [updR_mf s 11 r (by decide : 23 ≠ 11)]; exact k23.off hc (by omega)
  · rw [updR_mf s 11 r (by decide : 24 ≠ 11)]; exact k24.off hc (by omega)
  · rw [updR_mf s 11 r (by decide : 25 ≠ 11)]; exact k25.off hc (by omega)
  · rw [updR_mf s 11 r (by decide : 26 ≠ 11)]; exact k26.off hc (by omega)
  · rw [updR_mf s 11 r (by decide : 27 ≠ 11)]; exact k27.off hc (by omega)
theorem mAt.s12 {H1 : Heap} {r : Nat → Int32} {g : GG} {m tq : Nat} {p : Nat → Int32} {s : Nat → Nat → Int32} {H : Heap} (h : mAt g m tq p s H) (hp : pt g (m + 7) (.inl (g.2 0, 121, .inl r)) H1) (hc : chg (m + 7) H H1) : mAt g m tq p (updR s 12 r) H1 := by
  obtain ⟨h0, ⟨h1, ht⟩, k2, k8, k9, k10, k11, k12, k13, k14, k15, k16, k17, k18, k19, k20, k21, k22, k23, k24, k25, k26, k27⟩ := h
  refine ⟨h0.off hc (by omega), ⟨by rw [updR_mf s 12 r (by decide : 1 ≠ 12)]; exact h1.off hc (by omega), ht⟩, ?_, ?_, ?_, ?_, ?_, ?_, ?_, ?_, ?_, ?_, ?_, ?_, ?_, ?_, ?_, ?_, ?_, ?_, ?_, ?_, ?_⟩
  · rw [updR_mf s 12 r (by decide : 2 ≠ 12)]; exact k2.off hc (by omega)
  · rw [updR_mf s 12 r (by decide : 8 ≠ 12)]; exact k8.off hc (by omega)
  · rw [updR_mf s 12 r (by decide : 9 ≠ 12)]; exact k9.off hc (by omega)
  · rw [updR_mf s 12 r (by decide : 10 ≠ 12)]; exact k10.off hc (by omega)
  · rw [updR_mf s 12 r (by decide : 11 ≠ 12)]; exact k11.off hc (by omega)
  · rw [show updR s 12 r 12 = r from by simp [updR]]; exact hp
  · rw [updR_mf s 12 r (by decide : 13 ≠ 12)]; exact k13.off hc (by omega)
  · rw [updR_mf s 12 r (by decide : 14 ≠ 12)]; exact k14.off hc (by omega)
  · rw [updR_mf s 12 r (by decide : 15 ≠ 12)]; exact k15.off hc (by omega)
  · rw [updR_mf s 12 r (by decide : 16 ≠ 12)]; exact k16.off hc (by omega)
  · rw [updR_mf s 12 r (by decide : 17 ≠ 12)]; exact k17.off hc (by omega)
  · rw [updR_mf s 12 r (by decide : 18 ≠ 12)]; exact k18.off hc (by omega)
  · rw [updR_mf s 12 r (by decide : 19 ≠ 12)]; exact k19.off hc (by omega)
  · rw [updR_mf s 12 r (by decide : 20 ≠ 12)]; exact k20.off hc (by omega)
  · rw [updR_mf s 12 r (by decide : 21 ≠ 12)]; exact k21.off hc (by omega)
  · rw [updR_mf s 12 r (by decide : 22 ≠ 12)]; exact k22.off hc (by omega)
  · rw [updR_mf s 12 r (by decide : 23 ≠ 12)]; exact k23.off hc (by omega)
  · rw [updR_mf s 12 r (by decide : 24 ≠ 12)]; exact k24.off hc (by omega)
  · rw [updR_mf s 12 r (by decide : 25 ≠ 12)]; exact k25.off hc (by omega)
  · rw [updR_mf s 12 r (by decide : 26 ≠ 12)]; exact k26.off hc (by omega)
  · rw [updR_mf s 12 r (by decide : 27 ≠ 12)]; exact k27.off hc (by omega)
theorem mAt.s13 {H1 : Heap} {r : Nat → Int32} {g : GG} {m tq : Nat} {p : Nat → Int32} {s : Nat → Nat → Int32} {H : Heap} (h : mAt g m tq p s H) (hp : pt g (m + 8) (.inl (g.2 0, 121, .inl r)) H1) (hc : chg (m + 8) H H1) : mAt g m tq p (updR s 13 r) H1 := by
  obtain ⟨h0, ⟨h1, ht⟩, k2, k8, k9, k10, k11, k12, k13, k14, k15, k16, k17, k18, k19, k20, k21, k22, k23, k24, k25, k26, k27⟩ := h
  refine ⟨h0.off hc (by omega), ⟨by rw [updR_mf s 13 r (by decide : 1 ≠ 13)]; exact h1.off hc (by omega), ht⟩, ?_, ?_, ?_, ?_, ?_, ?_, ?_, ?_, ?_, ?_, ?_, ?_, ?_, ?_, ?_, ?_, ?_, ?_, ?_, ?_, ?_⟩
  · rw [updR_mf s 13 r (by decide : 2 ≠ 13)]; exact k2.off hc (by omega)
  · rw [updR_mf s 13 r (by decide : 8 ≠ 13)]; exact k8.off hc (by omega)
  · rw [updR_mf s 13 r (by decide : 9 ≠ 13)]; exact k9.off hc (by omega)
  · rw [updR_mf s 13 r (by decide : 10 ≠ 13)]; exact k10.off hc (by omega)
  · rw [updR_mf s 13 r (by decide : 11 ≠ 13)]; exact k11.off hc (by omega)
  · rw [updR_mf s 13 r (by decide : 12 ≠ 13)]; exact k12.off hc (by omega)
  · rw [show updR s 13 r 13 = r from by simp [updR]]; exact hp
  · rw [updR_mf s 13 r (by decide : 14 ≠ 13)]; exact k14.off hc (by omega)
  · rw [updR_mf s 13 r (by decide : 15 ≠ 13)]; exact k15.off hc (by omega)
  · rw [updR_mf s 13 r (by decide : 16 ≠ 13)]; exact k16.off hc (by omega)
  · rw [updR_mf s 13 r (by decide : 17 ≠ 13)]; exact k17.off hc (by omega)
  · rw [updR_mf s 13 r (by decide : 18 ≠ 13)]; exact k18.off hc (by omega)
  · rw [updR_mf s 13 r (by decide : 19 ≠ 13)]; exact k19.off hc (by omega)
  · rw [updR_mf s 13 r (by decide : 20 ≠ 13)]; exact k20.off hc (by omega)
  · rw [updR_mf s 13 r (by decide : 21 ≠ 13)]; exact k21.off hc (by omega)
  · rw [updR_mf s 13 r (by decide : 22 ≠ 13)]; exact k22.off hc (by omega)
  · rw [updR_mf s 13 r (by decide : 23 ≠ 13)]; exact k23.off hc (by omega)
  · rw [updR_mf s 13 r (by decide : 24 ≠ 13)]; exact k24.off hc (by omega)
  · rw [updR_mf s 13 r (by decide : 25 ≠ 13)]; exact k25.off hc (by omega)
  · rw [updR_mf s 13 r (by decide : 26 ≠ 13)]; exact k26.off hc (by omega)
  · rw [updR_mf s 13 r (by decide : 27 ≠ 13)]; exact k27.off hc (by omega)
theorem mAt.s14 {H1 : Heap} {r : Nat → Int32} {g : GG} {m tq : Nat} {p : Nat → Int32} {s : Nat → Nat → Int32} {H : Heap} (h : mAt g m tq p s H) (hp : pt g (m + 9) (.inl (g.2 0, 122, .inl r)) H1) (hc : chg (m + 9) H H1) : mAt g m tq p (updR s 14 r) H1 := by
  obtain ⟨h0, ⟨h1, ht⟩, k2, k8, k9, k10, k11, k12, k13, k14, k15, k16, k17, k18, k19, k20, k21, k22, k23, k24, k25, k26, k27⟩ := h
  refine ⟨h0.off hc (by omega), ⟨by rw [updR_mf s 14 r (by decide : 1 ≠ 14)]; exact h1.off hc (by omega), ht⟩, ?_, ?_, ?_, ?_, ?_, ?_, ?_, ?_, ?_, ?_, ?_, ?_, ?_, ?_, ?_, ?_, ?_, ?_, ?_, ?_, ?_⟩
  · rw [updR_mf s 14 r (by decide : 2 ≠ 14)]; exact k2.off hc (by omega)
  · rw [updR_mf s 14 r (by decide : 8 ≠ 14)]; exact k8.off hc (by omega)
  · rw [updR_mf s 14 r (by decide : 9 ≠ 14)]; exact k9.off hc (by omega)
  · rw [updR_mf s 14 r (by decide : 10 ≠ 14)]; exact k10.off hc (by omega)
  · rw [updR_mf s 14 r (by decide : 11 ≠ 14)]; exact k11.off hc (by omega)
  · rw [updR_mf s 14 r (by decide : 12 ≠ 14)]; exact k12.off hc (by omega)
  · rw [updR_mf s 14 r (by decide : 13 ≠ 14)]; exact k13.off hc (by omega)
  · rw [show updR s 14 r 14 = r from by simp [updR]]; exact hp
  · rw [updR_mf s 14 r (by decide : 15 ≠ 14)]; exact k15.off hc (by omega)
  · rw [updR_mf s 14 r (by decide : 16 ≠ 14)]; exact k16.off hc (by omega)
  · rw [updR_mf s 14 r (by decide : 17 ≠ 14)]; exact k17.off hc (by omega)
  · rw [updR_mf s 14 r (by decide : 18 ≠ 14)]; exact k18.off hc (by omega)
  · rw [updR_mf s 14 r (by decide : 19 ≠ 14)]; exact k19.off hc (by omega)
  · rw [updR_mf s 14 r (by decide : 20 ≠ 14)]; exact k20.off hc (by omega)
  · rw [updR_mf s 14 r (by decide : 21 ≠ 14)]; exact k21.off hc (by omega)
  · rw [updR_mf s 14 r (by decide : 22 ≠ 14)]; exact k22.off hc (by omega)
  · rw [updR_mf s 14 r (by decide : 23 ≠ 14)]; exact k23.off hc (by omega)
  · rw [updR_mf s 14 r (by decide : 24 ≠ 14)]; exact k24.off hc (by omega)
  · rw [updR_mf s 14 r (by decide : 25 ≠ 14)]; exact k25.off hc (by omega)
  · rw [updR_mf s 14 r (by decide : 26 ≠ 14)]; exact k26.off hc (by omega)
  · rw [updR_mf s 14 r (by decide : 27 ≠ 14)]; exact k27.off hc (by omega)
theorem mAt.s15 {H1 : Heap} {r : Nat → Int32} {g : GG} {m tq : Nat} {p : Nat → Int32} {s : Nat → Nat → Int32} {H : Heap} (h : mAt g m tq p s H) (hp : pt g (m + 10) (.inl (g.2 0, 121, .inl r)) H1) (hc : chg (m + 10) H H1) : mAt g m tq p (updR s 15 r) H1 := by
  obtain ⟨h0, ⟨h1, ht⟩, k2, k8, k9, k10, k11, k12, k13, k14, k15, k16, k17, k18, k19, k20, k21, k22, k23, k24, k25, k26, k27⟩ := h
  refine ⟨h0.off hc (by omega), ⟨by rw [updR_mf s 15 r (by decide : 1 ≠ 15)]; exact h1.off hc (by omega), ht⟩, ?_, ?_, ?_, ?_, ?_, ?_, ?_, ?_, ?_, ?_, ?_, ?_, ?_, ?_, ?_, ?_, ?_, ?_, ?_, ?_, ?_⟩
  · rw [updR_mf s 15 r (by decide : 2 ≠ 15)]; exact k2.off hc (by omega)
  · rw [updR_mf s 15 r (by decide : 8 ≠ 15)]; exact k8.off hc (by omega)
  · rw [updR_mf s 15 r (by decide : 9 ≠ 15)]; exact k9.off hc (by omega)
  · rw [updR_mf s 15 r (by decide : 10 ≠ 15)]; exact k10.off hc (by omega)
  · rw [updR_mf s 15 r (by decide : 11 ≠ 15)]; exact k11.off hc (by omega)
  · rw [updR_mf s 15 r (by decide : 12 ≠ 15)]; exact k12.off hc (by omega)
  · rw [updR_mf s 15 r (by decide : 13 ≠ 15)]; exact k13.off hc (by omega)
  · rw [updR_mf s 15 r (by decide : 14 ≠ 15)]; exact k14.off hc (by omega)
  · rw [show updR s 15 r 15 = r from by simp [updR]]; exact hp
  · rw [updR_mf s 15 r (by decide : 16 ≠ 15)]; exact k16.off hc (by omega)
  · rw [updR_mf s 15 r (by decide : 17 ≠ 15)]; exact k17.off hc (by omega)
  · rw [updR_mf s 15 r (by decide : 18 ≠ 15)]; exact k18.off hc (by omega)
  · rw [updR_mf s 15 r (by decide : 19 ≠ 15)]; exact k19.off hc (by omega)
  · rw [updR_mf s 15 r (by decide : 20 ≠ 15)]; exact k20.off hc (by omega)
  · rw [updR_mf s 15 r (by decide : 21 ≠ 15)]; exact k21.off hc (by omega)
  · rw [updR_mf s 15 r (by decide : 22 ≠ 15)]; exact k22.off hc (by omega)
  · rw [updR_mf s 15 r (by decide : 23 ≠ 15)]; exact k23.off hc (by omega)
  · rw [updR_mf s 15 r (by decide : 24 ≠ 15)]; exact k24.off hc (by omega)
  · rw [updR_mf s 15 r (by decide : 25 ≠ 15)]; exact k25.off hc (by omega)
  · rw [updR_mf s 15 r (by decide : 26 ≠ 15)]; exact k26.off hc (by omega)
  · rw [updR_mf s 15 r (by decide : 27 ≠ 15)]; exact k27.off hc (by omega)
theorem mAt.s16 {H1 : Heap} {r : Nat → Int32} {g : GG} {m tq : Nat} {p : Nat → Int32} {s : Nat → Nat → Int32} {H : Heap} (h : mAt g m tq p s H) (hp : pt g (m + 11) (.inl (g.2 0, 121, .inl r)) H1) (hc : chg (m + 11) H H1) : mAt g m tq p (updR s 16 r) H1 := by
  obtain ⟨h0, ⟨h1, ht⟩, k2, k8, k9, k10, k11, k12, k13, k14, k15, k16, k17, k18, k19, k20, k21, k22, k23, k24, k25, k26, k27⟩ := h
  refine ⟨h0.off hc (by omega), ⟨by rw [updR_mf s 16 r (by decide : 1 ≠ 16)]; exact h1.off hc (by omega), ht⟩, ?_, ?_, ?_, ?_, ?_, ?_, ?_, ?_, ?_, ?_, ?_, ?_, ?_, ?_, ?_, ?_, ?_, ?_, ?_, ?_, ?_⟩
  · rw [updR_mf s 16 r (by decide : 2 ≠ 16)]; exact k2.off hc (by omega)
  · rw [updR_mf s 16 r (by decide : 8 ≠ 16)]; exact k8.off hc (by omega)
  · rw [updR_mf s 16 r (by decide : 9 ≠ 16)]; exact k9.off hc (by omega)
  · rw [updR_mf s 16 r (by decide : 10 ≠ 16)]; exact k10.off hc (by omega)
  · rw [updR_mf s 16 r (by decide : 11 ≠ 16)]; exact k11.off hc (by omega)
  · rw [updR_mf s 16 r (by decide : 12 ≠ 16)]; exact k12.off hc (by omega)
  · rw [updR_mf s 16 r (by decide : 13 ≠ 16)]; exact k13.off hc (by omega)
  · rw [updR_mf s 16 r (by decide : 14 ≠ 16)]; exact k14.off hc (by omega)
  · rw [updR_mf s 16 r (by decide : 15 ≠ 16)]; exact k15.off hc (by omega)
  · rw [show updR s 16 r 16 = r from by simp [updR]]; exact hp
  · rw [updR_mf s 16 r (by decide : 17 ≠ 16)]; exact k17.off hc (by omega)
  · rw [updR_mf s 16 r (by decide : 18 ≠ 16)]; exact k18.off hc (by omega)
  · rw [updR_mf s 16 r (by decide : 19 ≠ 16)]; exact k19.off hc (by omega)
  · rw [updR_mf s 16 r (by decide : 20 ≠ 16)]; exact k20.off hc (by omega)
  · rw [updR_mf s 16 r (by decide : 21 ≠ 16)]; exact k21.off hc (by omega)
  · rw [updR_mf s 16 r (by decide : 22 ≠ 16)]; exact k22.off hc (by omega)
  · rw [updR_mf s 16 r (by decide : 23 ≠ 16)]; exact k23.off hc (by omega)
  · rw [updR_mf s 16 r (by decide : 24 ≠ 16)]; exact k24.off hc (by omega)
  · rw [updR_mf s 16 r (by decide : 25 ≠ 16)]; exact k25.off hc (by omega)
  · rw [updR_mf s 16 r (by decide : 26 ≠ 16)]; exact k26.off hc (by omega)
  · rw [updR_mf s 16 r (by decide : 27 ≠ 16)]; exact k27.off hc (by omega)
theorem mAt.s17 {H1 : Heap} {r : Nat → Int32} {g : GG} {m tq : Nat} {p : Nat → Int32} {s : Nat → Nat → Int32} {H : Heap} (h : mAt g m tq p s H) (hp : pt g (m + 12) (.inl (g.2 0, 121, .inl r)) H1) (hc : chg (m + 12) H H1) : mAt g m tq p (updR s 17 r) H1 := by
  obtain ⟨h0, ⟨h1, ht⟩, k2, k8, k9, k10, k11, k12, k13, k14, k15, k16, k17, k18, k19, k20, k21, k22, k23, k24, k25, k26, k27⟩ := h
  refine ⟨h0.off hc (by omega), ⟨by rw [updR_mf s 17 r (by decide : 1 ≠ 17)]; exact h1.off hc (by omega), ht⟩, ?_, ?_, ?_, ?_, ?_, ?_, ?_, ?_, ?_, ?_, ?_, ?_, ?_, ?_, ?_, ?_, ?_, ?_, ?_, ?_, ?_⟩
  · rw [updR_mf s 17 r (by decide : 2 ≠ 17)]; exact k2.off hc (by omega)
  · rw [updR_mf s 17 r (by decide : 8 ≠ 17)]; exact k8.off hc (by omega)
  · rw [updR_mf s 17 r (by decide : 9 ≠ 17)]; exact k9.off hc (by omega)
  · rw [updR_mf s 17 r (by decide : 10 ≠ 17)]; exact k10.off hc (by omega)
  · rw [updR_mf s 17 r (by decide : 11 ≠ 17)]; exact k11.off hc (by omega)
  · rw [updR_mf s 17 r (by decide : 12 ≠ 17)]; exact k12.off hc (by omega)
  · rw [updR_mf s 17 r (by decide : 13 ≠ 17)]; exact k13.off hc (by omega)
  · rw [updR_mf s 17 r (by decide : 14 ≠ 17)]; exact k14.off hc (by omega)
  · rw [updR_mf s 17 r (by decide : 15 ≠ 17)]; exact k15.off hc (by omega)
  · rw [updR_mf s 17 r (by decide : 16 ≠ 17)]; exact k16.off hc (by omega)
  · rw [show updR s 17 r 17 = r from by simp [updR]]; exact hp
  · rw [updR_mf s 17 r (by decide : 18 ≠ 17)]; exact k18.off hc (by omega)
  · rw [updR_mf s 17 r (by decide : 19 ≠ 17)]; exact k19.off hc (by omega)
  · rw [updR_mf s 17 r (by decide : 20 ≠ 17)]; exact k20.off hc (by omega)
  · rw [updR_mf s 17 r (by decide : 21 ≠ 17)]; exact k21.off hc (by omega)
  · rw [updR_mf s 17 r (by decide : 22 ≠ 17)]; exact k22.off hc (by omega)
  · rw [updR_mf s 17 r (by decide : 23 ≠ 17)]; exact k23.off hc (by omega)
  · rw [updR_mf s 17 r (by decide : 24 ≠ 17)]; exact k24.off hc (by omega)
  · rw [updR_mf s 17 r (by decide : 25 ≠ 17)]; exact k25.off hc (by omega)
  · rw [updR_mf s 17 r (by decide : 26 ≠ 17)]; exact k26.off hc (by omega)
  · rw [updR_mf s 17 r (by decide : 27 ≠ 17)]; exact k27.off hc (by omega)
theorem mAt.s18 {H1 : Heap} {r : Nat → Int32} {g : GG} {m tq : Nat} {p : Nat → Int32} {s : Nat → Nat → Int32} {H : Heap} (h : mAt g m tq p s H) (hp : pt g (m + 13) (.inl (g.2 0, 121, .inl r)) H1) (hc : chg (m + 13) H H1) : mAt g m tq p (updR s 18 r) H1 := by
  obtain ⟨h0, ⟨h1, ht⟩, k2, k8, k9, k10, k11, k12, k13, k14, k15, k16, k17, k18, k19, k20, k21, k22, k23, k24, k25, k26, k27⟩ := h
  refine ⟨h0.off hc (by omega), ⟨by rw [updR_mf s 18 r (by decide : 1 ≠ 18)]; exact h1.off hc (by omega), ht⟩, ?_, ?_, ?_, ?_, ?_, ?_, ?_, ?_, ?_, ?_, ?_, ?_, ?_, ?_, ?_, ?_, ?_, ?_, ?_, ?_, ?_⟩
  · rw [updR_mf s 18 r (by decide : 2 ≠ 18)]; exact k2.off hc (by omega)
  · rw [updR_mf s 18 r (by decide : 8 ≠ 18)]; exact k8.off hc (by omega)
  · rw [updR_mf s 18 r (by decide : 9 ≠ 18)]; exact k9.off hc (by omega)
  · rw [updR_mf s 18 r (by decide : 10 ≠ 18)]; exact k10.off hc (by omega)
  · rw [updR_mf s 18 r (by decide : 11 ≠ 18)]; exact k11.off hc (by omega)
  · rw [updR_mf s 18 r (by decide : 12 ≠ 18)]; exact k12.off hc (by omega)
  · rw [updR_mf s 18 r (by decide : 13 ≠ 18)]; exact k13.off hc (by omega)
  · rw [updR_mf s 18 r (by decide : 14 ≠ 18)]; exact k14.off hc (by omega)
  · rw [updR_mf s 18 r (by decide : 15 ≠ 18)]; exact k15.off hc (by omega)
  · rw [updR_mf s 18 r (by decide : 16 ≠ 18)]; exact k16.off hc (by omega)
  · rw [updR_mf s 18 r (by decide : 17 ≠ 18)]; exact k17.off hc (by omega)
  · rw [show updR s 18 r 18 = r from by simp [updR]]; exact hp
  · rw [updR_mf s 18 r (by decide : 19 ≠ 18)]; exact k19.off hc (by omega)
  · rw [updR_mf s 18 r (by decide : 20 ≠ 18)]; exact k20.off hc (by omega)
  · rw [updR_mf s 18 r (by decide : 21 ≠ 18)]; exact k21.off hc (by omega)
  · rw [updR_mf s 18 r (by decide : 22 ≠ 18)]; exact k22.off hc (by omega)
  · rw [updR_mf s 18 r (by decide : 23 ≠ 18)]; exact k23.off hc (by omega)
  · rw [updR_mf s 18 r (by decide : 24 ≠ 18)]; exact k24.off hc (by omega)
  · rw [updR_mf s 18 r (by decide : 25 ≠ 18)]; exact k25.off hc (by omega)
  · rw [updR_mf s 18 r (by decide : 26 ≠ 18)]; exact k26.off hc (by omega)
  · rw [updR_mf s 18 r (by decide : 27 ≠ 18)]; exact k27.off hc (by omega)
theorem mAt.s19 {H1 : Heap} {r : Nat → Int32} {g : GG} {m tq : Nat} {p : Nat → Int32} {s : Nat → Nat → Int32} {H : Heap} (h : mAt g m tq p s H) (hp : pt g (m + 14) (.inl (g.2 0, 121, .inl r)) H1) (hc : chg (m + 14) H H1) : mAt g m tq p (updR s 19 r) H1 := by
  obtain ⟨h0, ⟨h1, ht⟩, k2, k8, k9, k10, k11, k12, k13, k14, k15, k16, k17, k18, k19, k20, k21, k22, k23, k24, k25, k26, k27⟩ := h
  refine ⟨h0.off hc (by omega), ⟨by rw [updR_mf s 19 r (by decide : 1 ≠ 19)]; exact h1.off hc (by omega), ht⟩, ?_, ?_, ?_, ?_, ?_, ?_, ?_, ?_, ?_, ?_, ?_, ?_, ?_, ?_, ?_, ?_, ?_, ?_, ?_, ?_, ?_⟩
  · rw [updR_mf s 19 r (by decide : 2 ≠ 19)]; exact k2.off hc (by omega)
  · rw [updR_mf s 19 r (by decide : 8 ≠ 19)]; exact k8.off hc (by omega)
  · rw [updR_mf s 19 r (by decide : 9 ≠ 19)]; exact k9.off hc (by omega)
  · rw [updR_mf s 19 r (by decide : 10 ≠ 19)]; exact k10.off hc (by omega)
  · rw [updR_mf s 19 r (by decide : 11 ≠ 19)]; exact k11.off hc (by omega)
  · rw [updR_mf s 19 r (by decide : 12 ≠ 19)]; exact k12.off hc (by omega)
  · rw [updR_mf s 19 r (by decide : 13 ≠ 19)]; exact k13.off hc (by omega)
  · rw [updR_mf s 19 r (by decide : 14 ≠ 19)]; exact k14.off hc (by omega)
  · rw [updR_mf s 19 r (by decide : 15 ≠ 19)]; exact k15.off hc (by omega)
  · rw [updR_mf s 19 r (by decide : 16 ≠ 19)]; exact k16.off hc (by omega)
  · rw [updR_mf s 19 r (by decide : 17 ≠ 19)]; exact k17.off hc (by omega)
  · rw [updR_mf s 19 r (by decide : 18 ≠ 19)]; exact k18.off hc (by omega)
  · rw [show updR s 19 r 19 = r from by simp [updR]]; exact hp
  · rw [updR_mf s 19 r (by decide : 20 ≠ 19)]; exact k20.off hc (by omega)
  · rw [updR_mf s 19 r (by decide : 21 ≠ 19)]; exact k21.off hc (by omega)
  · rw [updR_mf s 19 r (by decide : 22 ≠ 19)]; exact k22.off hc (by omega)
  · rw [updR_mf s 19 r (by decide : 23 ≠ 19)]; exact k23.off hc (by omega)
  · rw [updR_mf s 19 r (by decide : 24 ≠ 19)]; exact k24.off hc (by omega)
  · rw [updR_mf s 19 r (by decide : 25 ≠ 19)]; exact k25.off hc (by omega)
  · rw [updR_mf s 19 r (by decide : 26 ≠ 19)]; exact k26.off hc (by omega)
  · rw [updR_mf s 19 r (by decide : 27 ≠ 19)]; exact k27.off hc (by omega)
theorem mAt.s20 {H1 : Heap} {r : Nat → Int32} {g : GG} {m tq : Nat} {p : Nat → Int32} {s : Nat → Nat → Int32} {H : Heap} (h : mAt g m tq p s H) (hp : pt g (m + 15) (.inl (g.2 0, 121, .inl r)) H1) (hc : chg (m + 15) H H1) : mAt g m tq p (updR s 20 r) H1 := by
  obtain ⟨h0, ⟨h1, ht⟩, k2, k8, k9, k10, k11, k12, k13, k14, k15, k16, k17, k18, k19, k20, k21, k22, k23, k24, k25, k26, k27⟩ := h
  refine ⟨h0.off hc (by omega), ⟨by rw [updR_mf s 20 r (by decide : 1 ≠ 20)]; exact h1.off hc (by omega), ht⟩, ?_, ?_, ?_, ?_, ?_, ?_, ?_, ?_, ?_, ?_, ?_, ?_, ?_, ?_, ?_, ?_, ?_, ?_, ?_, ?_, ?_⟩
  · rw [updR_mf s 20 r (by decide : 2 ≠ 20)]; exact k2.off hc (by omega)
  · rw [updR_mf s 20 r (by decide : 8 ≠ 20)]; exact k8.off hc (by omega)
  · rw [updR_mf s 20 r (by decide : 9 ≠ 20)]; exact k9.off hc (by omega)
  · rw [updR_mf s 20 r (by decide : 10 ≠ 20)]; exact k10.off hc (by omega)
  · rw [updR_mf s 20 r (by decide : 11 ≠ 20)]; exact k11.off hc (by omega)
  · rw [updR_mf s 20 r (by decide : 12 ≠ 20)]; exact k12.off hc (by omega)
  · rw [updR_mf s 20 r (by decide : 13 ≠ 20)]; exact k13.off hc (by omega)
  · rw [updR_mf s 20 r (by decide : 14 ≠ 20)]; exact k14.off hc (by omega)
  · rw [updR_mf s 20 r (by decide : 15 ≠ 20)]; exact k15.off hc (by omega)
  · rw [updR_mf s 20 r (by decide : 16 ≠ 20)]; exact k16.off hc (by omega)
  · rw [updR_mf s 20 r (by decide : 17 ≠ 20)]; exact k17.off hc (by omega)
  · rw [updR_mf s 20 r (by decide : 18 ≠ 20)]; exact k18.off hc (by omega)
  · rw [updR_mf s 20 r (by decide : 19 ≠ 20)]; exact k19.off hc (by omega)
  · rw [show updR s 20 r 20 = r from by simp [updR]]; exact hp
  · rw [updR_mf s 20 r (by decide : 21 ≠ 20)]; exact k21.off hc (by omega)
  · rw [updR_mf s 20 r (by decide : 22 ≠ 20)]; exact k22.off hc (by omega)
  · rw [updR_mf s 20 r (by decide : 23 ≠ 20)]; exact k23.off hc (by omega)
  · rw [updR_mf s 20 r (by decide : 24 ≠ 20)]; exact k24.off hc (by omega)
  · rw [updR_mf s 20 r (by decide : 25 ≠ 20)]; exact k25.off hc (by omega)
  · rw [updR_mf s 20 r (by decide : 26 ≠ 20)]; exact k26.off hc (by omega)
  · rw [updR_mf s 20 r (by decide : 27 ≠ 20)]; exact k27.off hc (by omega)
theorem mAt.s21 {H1 : Heap} {r : Nat → Int32} {g : GG} {m tq : Nat} {p : Nat → Int32} {s : Nat → Nat → Int32} {H : Heap} (h : mAt g m tq p s H) (hp : pt g (m + 16) (.inl (g.2 0, 121, .inl r)) H1) (hc : chg (m + 16) H H1) : mAt g m tq p (updR s 21 r) H1 := by
  obtain ⟨h0, ⟨h1, ht⟩, k2, k8, k9, k10, k11, k12, k13, k14, k15, k16, k17, k18, k19, k20, k21, k22, k23, k24, k25, k26, k27⟩ := h
  refine ⟨h0.off hc (by omega), ⟨by rw [updR_mf s 21 r (by decide : 1 ≠ 21)]; exact h1.off hc (by omega), ht⟩, ?_, ?_, ?_, ?_, ?_, ?_, ?_, ?_, ?_, ?_, ?_, ?_, ?_, ?_, ?_, ?_, ?_, ?_, ?_, ?_, ?_⟩
  · rw [updR_mf s 21 r (by decide : 2 ≠ 21)]; exact k2.off hc (by omega)
  · rw [updR_mf s 21 r (by decide : 8 ≠ 21)]; exact k8.off hc (by omega)
  · rw [updR_mf s 21 r (by decide : 9 ≠ 21)]; exact k9.off hc (by omega)
  · rw [updR_mf s 21 r (by decide : 10 ≠ 21)]; exact k10.off hc (by omega)
  · rw [updR_mf s 21 r (by decide : 11 ≠ 21)]; exact k11.off hc (by omega)
  · rw [updR_mf s 21 r (by decide : 12 ≠ 21)]; exact k12.off hc (by omega)
  · rw [updR_mf s 21 r (by decide : 13 ≠ 21)]; exact k13.off hc (by omega)
  · rw [updR_mf s 21 r (by decide : 14 ≠ 21)]; exact k14.off hc (by omega)
  · rw [updR_mf s 21 r (by decide : 15 ≠ 21)]; exact k15.off hc (by omega)
  · rw [updR_mf s 21 r (by decide : 16 ≠ 21)]; exact k16.off hc (by omega)
  · rw [updR_mf s 21 r (by decide : 17 ≠ 21)]; exact k17.off hc (by omega)
  · rw [updR_mf s 21 r (by decide : 18 ≠ 21)]; exact k18.off hc (by omega)
  · rw [updR_mf s 21 r (by decide : 19 ≠ 21)]; exact k19.off hc (by omega)
  · rw [updR_mf s 21 r (by decide : 20 ≠ 21)]; exact k20.off hc (by omega)
  · rw [show updR s 21 r 21 = r from by simp [updR]]; exact hp
  · rw [updR_mf s 21 r (by decide : 22 ≠ 21)]; exact k22.off hc (by omega)
  · rw [updR_mf s 21 r (by decide : 23 ≠ 21)]; exact k23.off hc (by omega)
  · rw [updR_mf s 21 r (by decide : 24 ≠ 21)]; exact k24.off hc (by omega)
  · rw [updR_mf s 21 r (by decide : 25 ≠ 21)]; exact k25.off hc (by omega)
  · rw [updR_mf s 21 r (by decide : 26 ≠ 21)]; exact k26.off hc (by omega)
  · rw [updR_mf s 21 r (by decide : 27 ≠ 21)]; exact k27.off hc (by omega)
theorem mAt.s22 {H1 : Heap} {r : Nat → Int32} {g : GG} {m tq : Nat} {p : Nat → Int32} {s : Nat → Nat → Int32} {H : Heap} (h : mAt g m tq p s H) (hp : pt g (m + 17) (.inl (g.2 0, 121, .inl r)) H1) (hc : chg (m + 17) H H1) : mAt g m tq p (updR s 22 r) H1 := by
  obtain ⟨h0, ⟨h1, ht⟩, k2, k8, k9, k10, k11, k12, k13, k14, k15, k16, k17, k18, k19, k20, k21, k22, k23, k24, k25, k26, k27⟩ := h
  refine ⟨h0.off hc (by omega), ⟨by rw [updR_mf s 22 r (by decide : 1 ≠ 22)]; exact h1.off hc (by omega), ht⟩, ?_, ?_, ?_, ?_, ?_, ?_, ?_, ?_, ?_, ?_, ?_, ?_, ?_, ?_, ?_, ?_, ?_, ?_, ?_, ?_, ?_⟩
  · rw [updR_mf s 22 r (by decide : 2 ≠ 22)]; exact k2.off hc (by omega)
  · rw [updR_mf s 22 r (by decide : 8 ≠ 22)]; exact k8.off hc (by omega)
  · rw [updR_mf s 22 r (by decide : 9 ≠ 22)]; exact k9.off hc (by omega)
  · rw [updR_mf s 22 r (by decide : 10 ≠ 22)]; exact k10.off hc (by omega)
  · rw [updR_mf s 22 r (by decide : 11 ≠ 22)]; exact k11.off hc (by omega)
  · rw [updR_mf s 22 r (by decide : 12 ≠ 22)]; exact k12.off hc (by omega)
  · rw [updR_mf s 22 r (by decide : 13 ≠ 22)]; exact k13.off hc (by omega)
  · rw [updR_mf s 22 r (by decide : 14 ≠ 22)]; exact k14.off hc (by omega)
  · rw [updR_mf s 22 r (by decide : 15 ≠ 22)]; exact k15.off hc (by omega)
  · rw [updR_mf s 22 r (by decide : 16 ≠ 22)]; exact k16.off hc (by omega)
  · rw [updR_mf s 22 r (by decide : 17 ≠ 22)]; exact k17.off hc (by omega)
  · rw [updR_mf s 22 r (by decide : 18 ≠ 22)]; exact k18.off hc (by omega)
  · rw [updR_mf s 22 r (by decide : 19 ≠ 22)]; exact k19.off hc (by omega)
  · rw [updR_mf s 22 r (by decide : 20 ≠ 22)]; exact k20.off hc (by omega)
  · rw [updR_mf s 22 r (by decide : 21 ≠ 22)]; exact k21.off hc (by omega)
  · rw [show updR s 22 r 22 = r from by simp [updR]]; exact hp
  · rw [updR_mf s 22 r (by decide : 23 ≠ 22)]; exact k23.off hc (by omega)
  · rw [updR_mf s 22 r (by decide : 24 ≠ 22)]; exact k24.off hc (by omega)
  · rw [updR_mf s 22 r (by decide : 25 ≠ 22)]; exact k25.off hc (by omega)
  · rw [updR_mf s 22 r (by decide : 26 ≠ 22)]; exact k26.off hc (by omega)
  · rw [updR_mf s 22 r (by decide : 27 ≠ 22)]; exact k27.off hc (by omega)
theorem mAt.s23 {H1 : Heap} {r : Nat → Int32} {g : GG} {m tq : Nat} {p : Nat → Int32} {s : Nat → Nat → Int32} {H : Heap} (h : mAt g m tq p s H) (hp : pt g (m + 18) (.inl (g.2 1, 121, .inl r)) H1) (hc : chg (m + 18) H H1) : mAt g m tq p (updR s 23 r) H1 := by
  obtain ⟨h0, ⟨h1, ht⟩, k2, k8, k9, k10, k11, k12, k13, k14, k15, k16, k17, k18, k19, k20, k21, k22, k23, k24, k25, k26, k27⟩ := h
  refine ⟨h0.off hc (by omega), ⟨by rw [updR_mf s 23 r (by decide : 1 ≠ 23)]; exact h1.off hc (by omega), ht⟩, ?_, ?_, ?_, ?_, ?_, ?_, ?_, ?_, ?_, ?_, ?_, ?_, ?_, ?_, ?_, ?_, ?_, ?_, ?_, ?_, ?_⟩
  · rw [updR_mf s 23 r (by decide : 2 ≠ 23)]; exact k2.off hc (by omega)
  · rw [updR_mf s 23 r (by decide : 8 ≠ 23)]; exact k8.off hc (by omega)
  · rw [updR_mf s 23 r (by decide : 9 ≠ 23)]; exact k9.off hc (by omega)
  · rw [updR_mf s 23 r (by decide : 10 ≠ 23)]; exact k10.off hc (by omega)
  · rw [updR_mf s 23 r (by decide : 11 ≠ 23)]; exact k11.off hc (by omega)
  · rw [updR_mf s 23 r (by decide : 12 ≠ 23)]; exact k12.off hc (by omega)
  · rw [updR_mf s 23 r (by decide : 13 ≠ 23)]; exact k13.off hc (by omega)
  · rw [updR_mf s 23 r (by decide : 14 ≠ 23)]; exact k14.off hc (by omega)
  · rw [updR_mf s 23 r (by decide : 15 ≠ 23)]; exact k15.off hc (by omega)
  · rw [updR_mf s 23 r (by decide : 16 ≠ 23)]; exact k16.off hc (by omega)
  · rw [updR_mf s 23 r (by decide : 17 ≠ 23)]; exact k17.off hc (by omega)
  · rw [updR_mf s 23 r (by decide : 18 ≠ 23)]; exact k18.off hc (by omega)
  · rw [updR_mf s 23 r (by decide : 19 ≠ 23)]; exact k19.off hc (by omega)
  · rw [updR_mf s 23 r (by decide : 20 ≠ 23)]; exact k20.off hc (by omega)
  · rw [updR_mf s 23 r (by decide : 21 ≠ 23)]; exact k21.off hc (by omega)
  · rw [updR_mf s 23 r (by decide : 22 ≠ 23)]; exact k22.off hc (by omega)
  · rw [show updR s 23 r 23 = r from by simp [updR]]; exact hp
  · rw [updR_mf s 23 r (by decide : 24 ≠ 23)]; exact k24.off hc (by omega)
  · rw [updR_mf s 23 r (by decide : 25 ≠ 23)]; exact k25.off hc (by omega)
  · rw [updR_mf s 23 r (by decide : 26 ≠ 23)]; exact k26.off hc (by omega)
  · rw [updR_mf s 23 r (by decide : 27 ≠ 23)]; exact k27.off hc (by omega)
theorem mAt.s24 {H1 : Heap} {r : Nat → Int32} {g : GG} {m tq : Nat} {p : Nat → Int32} {s : Nat → Nat → Int32} {H : Heap} (h : mAt g m tq p s H) (hp : pt g (m + 19) (.inl (g.2 1, 121, .inl r)) H1) (hc : chg (m + 19) H H1) : mAt g m tq p (updR s 24 r) H1 := by
  obtain ⟨h0, ⟨h1, ht⟩, k2, k8, k9, k10, k11, k12, k13, k14, k15, k16, k17, k18, k19, k20, k21, k22, k23, k24, k25, k26, k27⟩ := h
  refine ⟨h0.off hc (by omega), ⟨by rw [updR_mf s 24 r (by decide : 1 ≠ 24)]; exact h1.off hc (by omega), ht⟩, ?_, ?_, ?_, ?_, ?_, ?_, ?_, ?_, ?_, ?_, ?_, ?_, ?_, ?_, ?_, ?_, ?_, ?_, ?_, ?_, ?_⟩
  · rw [updR_mf s 24 r (by decide : 2 ≠ 24)]; exact k2.off hc (by omega)
  · rw [updR_mf s 24 r (by decide : 8 ≠ 24)]; exact k8.off hc (by omega)
  · rw [updR_mf s 24 r (by decide : 9 ≠ 24)]; exact k9.off hc (by omega)
  · rw [updR_mf s 24 r (by decide : 10 ≠ 24)]; exact k10.off hc (by omega)
  · rw [updR_mf s 24 r (by decide : 11 ≠ 24)]; exact k11.off hc (by omega)
  · rw [updR_mf s 24 r (by decide : 12 ≠ 24)]; exact k12.off hc (by omega)
  · rw [updR_mf s 24 r (by decide : 13 ≠ 24)]; exact k13.off hc (by omega)
  · rw [updR_mf s 24 r (by decide : 14 ≠ 24)]; exact k14.off hc (by omega)
  · rw [updR_mf s 24 r (by decide : 15 ≠ 24)]; exact k15.off hc (by omega)
  · rw [updR_mf s 24 r (by decide : 16 ≠ 24)]; exact k16.off hc (by omega)
  · rw [updR_mf s 24 r (by decide : 17 ≠ 24)]; exact k17.off hc (by omega)
  · rw [updR_mf s 24 r (by decide : 18 ≠ 24)]; exact k18.off hc (by omega)
  · rw [updR_mf s 24 r (by decide : 19 ≠ 24)]; exact k19.off hc (by omega)
  · rw [updR_mf s 24 r (by decide : 20 ≠ 24)]; exact k20.off hc (by omega)
  · rw [updR_mf s 24 r (by decide : 21 ≠ 24)]; exact k21.off hc (by omega)
  · rw [updR_mf s 24 r (by decide : 22 ≠ 24)]; exact k22.off hc (by omega)
  · rw [updR_mf s 24 r (by decide : 23 ≠ 24)]; exact k23.off hc (by omega)
  · rw [show updR s 24 r 24 = r from by simp [updR]]; exact hp
  · rw [updR_mf s 24 r (by decide : 25 ≠ 24)]; exact k25.off hc (by omega)
  · rw [updR_mf s 24 r (by decide : 26 ≠ 24)]; exact k26.off hc (by omega)
  · rw [updR_mf s 24 r (by decide : 27 ≠ 24)]; exact k27.off hc (by omega)
theorem mAt.s25 {H1 : Heap} {r : Nat → Int32} {g : GG} {m tq : Nat} {p : Nat → Int32} {s : Nat → Nat → Int32} {H : Heap} (h : mAt g m tq p s H) (hp : pt g (m + 20) (.inl (g.2 0, 8, .inl r)) H1) (hc : chg (m + 20) H H1) : mAt g m tq p (updR s 25 r) H1 := by
  obtain ⟨h0, ⟨h1, ht⟩, k2, k8, k9, k10, k11, k12, k13, k14, k15, k16, k17, k18, k19, k20, k21, k22, k23, k24, k25, k26, k27⟩ := h
  refine ⟨h0.off hc (by omega), ⟨by rw [updR_mf s 25 r (by decide : 1 ≠ 25)]; exact h1.off hc (by omega), ht⟩, ?_, ?_, ?_, ?_, ?_, ?_, ?_, ?_, ?_, ?_, ?_, ?_, ?_, ?_, ?_, ?_, ?_, ?_, ?_, ?_, ?_⟩
  · rw [updR_mf s 25 r (by decide : 2 ≠ 25)]; exact k2.off hc (by omega)
  · rw [updR_mf s 25 r (by decide : 8 ≠ 25)]; exact k8.off hc (by omega)
  · rw [updR_mf s 25 r (by decide : 9 ≠ 25)]; exact k9.off hc (by omega)
  · rw [updR_mf s 25 r (by decide : 10 ≠ 25)]; exact k10.off hc (by omega)
  · rw [updR_mf s 25 r (by decide : 11 ≠ 25)]; exact k11.off hc (by omega)
  · rw [updR_mf s 25 r (by decide : 12 ≠ 25)]; exact k12.off hc (by omega)
  · rw [updR_mf s 25 r (by decide : 13 ≠ 25)]; exact k13.off hc (by omega)
  · rw [updR_mf s 25 r (by decide : 14 ≠ 25)]; exact k14.off hc (by omega)
  · rw [updR_mf s 25 r (by decide : 15 ≠ 25)]; exact k15.off hc (by omega)
  · rw [updR_mf s 25 r (by decide : 16 ≠ 25)]; exact k16.off hc (by omega)
  · rw [updR_mf s 25 r (by decide : 17 ≠ 25)]; exact k17.off hc (by omega)
  · rw [updR_mf s 25 r (by decide : 18 ≠ 25)]; exact k18.off hc (by omega)
  · rw [updR_mf s 25 r (by decide : 19 ≠ 25)]; exact k19.off hc (by omega)
  · rw [updR_mf s 25 r (by decide : 20 ≠ 25)]; exact k20.off hc (by omega)
  · rw [updR_mf s 25 r (by decide : 21 ≠ 25)]; exact k21.off hc (by omega)
  · rw [updR_mf s 25 r (by decide : 22 ≠ 25)]; exact k22.off hc (by omega)
  · rw [updR_mf s 25 r (by decide : 23 ≠ 25)]; exact k23.off hc (by omega)
  · rw [updR_mf s 25 r (by decide : 24 ≠ 25)]; exact k24.off hc (by omega)
  · rw [show updR s 25 r 25 = r from by simp [updR]]; exact hp
  · rw [updR_mf s 25 r (by decide : 26 ≠ 25)]; exact k26.off hc (by omega)
  · rw [updR_mf s 25 r (by decide : 27 ≠ 25)]; exact k27.off hc (by omega)
theorem mAt.s26 {H1 : Heap} {r : Nat → Int32} {g : GG} {m tq : Nat} {p : Nat → Int32} {s : Nat → Nat → Int32} {H : Heap} (h : mAt g m tq p s H) (hp : pt g (m + 21) (.inl (g.2 0, 8, .inl r)) H1) (hc : chg (m + 21) H H1) : mAt g m tq p (updR s 26 r) H1 := by
  obtain ⟨h0, ⟨h1, ht⟩, k2, k8, k9, k10, k11, k12, k13, k14, k15, k16, k17, k18, k19, k20, k21, k22, k23, k24, k25, k26, k27⟩ := h
  refine ⟨h0.off hc (by omega), ⟨by rw [updR_mf s 26 r (by decide : 1 ≠ 26)]; exact h1.off hc (by omega), ht⟩, ?_, ?_, ?_, ?_, ?_, ?_, ?_, ?_, ?_, ?_, ?_, ?_, ?_, ?_, ?_, ?_, ?_, ?_, ?_, ?_, ?_⟩
  · rw [updR_mf s 26 r (by decide : 2 ≠ 26)]; exact k2.off hc (by omega)
  · rw [updR_mf s 26 r (by decide : 8 ≠ 26)]; exact k8.off hc (by omega)
  · rw [updR_mf s 26 r (by decide : 9 ≠ 26)]; exact k9.off hc (by omega)
  · rw [updR_mf s 26 r (by decide : 10 ≠ 26)]; exact k10.off hc (by omega)
  · rw [updR_mf s 26 r (by decide : 11 ≠ 26)]; exact k11.off hc (by omega)
  · rw [updR_mf s 26 r (by decide : 12 ≠ 26)]; exact k12.off hc (by omega)
  · rw [updR_mf s 26 r (by decide : 13 ≠ 26)]; exact k13.off hc (by omega)
  · rw [updR_mf s 26 r (by decide : 14 ≠ 26)]; exact k14.off hc (by omega)
  · rw [updR_mf s 26 r (by decide : 15 ≠ 26)]; exact k15.off hc (by omega)
  · rw [updR_mf s 26 r (by decide : 16 ≠ 26)]; exact k16.off hc (by omega)
  · rw [updR_mf s 26 r (by decide : 17 ≠ 26)]; exact k17.off hc (by omega)
  · rw [updR_mf s 26 r (by decide : 18 ≠ 26)]; exact k18.off hc (by omega)
  · rw [updR_mf s 26 r (by decide : 19 ≠ 26)]; exact k19.off hc (by omega)
  · rw [updR_mf s 26 r (by decide : 20 ≠ 26)]; exact k20.off hc (by omega)
  · rw [updR_mf s 26 r (by decide : 21 ≠ 26)]; exact k21.off hc (by omega)
  · rw [updR_mf s 26 r (by decide : 22 ≠ 26)]; exact k22.off hc (by omega)
  · rw [updR_mf s 26 r (by decide : 23 ≠ 26)]; exact k23.off hc (by omega)
  · rw [updR_mf s 26 r (by decide : 24 ≠ 26)]; exact k24.off hc (by omega)
  · rw [updR_mf s 26 r (by decide : 25 ≠ 26)]; exact k25.off hc (by omega)
  · rw [show updR s 26 r 26 = r from by simp [updR]]; exact hp
  · rw [updR_mf s 26 r (by decide : 27 ≠ 26)]; exact k27.off hc (by omega)
theorem mAt.s27 {H1 : Heap} {r : Nat → Int32} {g : GG} {m tq : Nat} {p : Nat → Int32} {s : Nat → Nat → Int32} {H : Heap} (h : mAt g m tq p s H) (hp : pt g (m + 22) (.inl (g.2 0, 8, .inl r)) H1) (hc : chg (m + 22) H H1) : mAt g m tq p (updR s 27 r) H1 := by
  obtain ⟨h0, ⟨h1, ht⟩, k2, k8, k9, k10, k11, k12, k13, k14, k15, k16, k17, k18, k19, k20, k21, k22, k23, k24, k25, k26, k27⟩ := h
  refine ⟨h0.off hc (by omega), ⟨by rw [updR_mf s 27 r (by decide : 1 ≠ 27)]; exact h1.off hc (by omega), ht⟩, ?_, ?_, ?_, ?_, ?_, ?_, ?_, ?_, ?_, ?_, ?_, ?_, ?_, ?_, ?_, ?_, ?_, ?_, ?_, ?_, ?_⟩
  · rw [updR_mf s 27 r (by decide : 2 ≠ 27)]; exact k2.off hc (by omega)
  · rw [updR_mf s 27 r (by decide : 8 ≠ 27)]; exact k8.off hc (by omega)
  · rw [updR_mf s 27 r (by decide : 9 ≠ 27)]; exact k9.off hc (by omega)
  · rw [updR_mf s 27 r (by decide : 10 ≠ 27)]; exact k10.off hc (by omega)
  · rw [updR_mf s 27 r (by decide : 11 ≠ 27)]; exact k11.off hc (by omega)
  · rw [updR_mf s 27 r (by decide : 12 ≠ 27)]; exact k12.off hc (by omega)
  · rw [updR_mf s 27 r (by decide : 13 ≠ 27)]; exact k13.off hc (by omega)
  · rw [updR_mf s 27 r (by decide : 14 ≠ 27)]; exact k14.off hc (by omega)
  · rw [updR_mf s 27 r (by decide : 15 ≠ 27)]; exact k15.off hc (by omega)
  · rw [updR_mf s 27 r (by decide : 16 ≠ 27)]; exact k16.off hc (by omega)
  · rw [updR_mf s 27 r (by decide : 17 ≠ 27)]; exact k17.off hc (by omega)
  · rw [updR_mf s 27 r (by decide : 18 ≠ 27)]; exact k18.off hc (by omega)
  · rw [updR_mf s 27 r (by decide : 19 ≠ 27)]; exact k19.off hc (by omega)
  · rw [updR_mf s 27 r (by decide : 20 ≠ 27)]; exact k20.off hc (by omega)
  · rw [updR_mf s 27 r (by decide : 21 ≠ 27)]; exact k21.off hc (by omega)
  · rw [updR_mf s 27 r (by decide : 22 ≠ 27)]; exact k22.off hc (by omega)
  · rw [updR_mf s 27 r (by decide : 23 ≠ 27)]; exact k23.off hc (by omega)
  · rw [updR_mf s 27 r (by decide : 24 ≠ 27)]; exact k24.off hc (by omega)
  · rw [updR_mf s 27 r (by decide : 25 ≠ 27)]; exact k25.off hc (by omega)
  · rw [updR_mf s 27 r (by decide : 26 ≠ 27)]; exact k26.off hc (by omega)
  · rw [show updR s 27 r 27 = r from by simp [updR]]; exact hp
theorem mAt.s1 {H1 : Heap} {r : Nat → Int32} {g : GG} {m tq : Nat} {p : Nat → Int32} {s : Nat → Nat → Int32} {H : Heap} (h : mAt g m tq p s H) (hp : pt g tq (.inl (g.2 0, 1600, .inl r)) H1) (hc : chg tq H H1) : mAt g m tq p (updR s 1 r) H1 := by
  obtain ⟨h0, ⟨h1, ht⟩, k2, k8, k9, k10, k11, k12, k13, k14, k15, k16, k17, k18, k19, k20, k21, k22, k23, k24, k25, k26, k27⟩ := h
  refine ⟨h0.off hc (by omega), ⟨by rw [show updR s 1 r 1 = r from by simp [updR]]; exact hp, ht⟩, ?_, ?_, ?_, ?_, ?_, ?_, ?_, ?_, ?_, ?_, ?_, ?_, ?_, ?_, ?_, ?_, ?_, ?_, ?_, ?_, ?_⟩
  · rw [updR_mf s 1 r (by decide : 2 ≠ 1)]; exact k2.off hc (by omega)
  · rw [updR_mf s 1 r (by decide : 8 ≠ 1)]; exact k8.off hc (by omega)
  · rw [updR_mf s 1 r (by decide : 9 ≠ 1)]; exact k9.off hc (by omega)
  · rw [updR_mf s 1 r (by decide : 10 ≠ 1)]; exact k10.off hc (by omega)
  · rw [updR_mf s 1 r (by decide : 11 ≠ 1)]; exact k11.off hc (by omega)
  · rw [updR_mf s 1 r (by decide : 12 ≠ 1)]; exact k12.off hc (by omega)
  · rw [updR_mf s 1 r (by decide : 13 ≠ 1)]; exact k13.off hc (by omega)
  · rw [updR_mf s 1 r (by decide : 14 ≠ 1)]; exact k14.off hc (by omega)
  · rw [updR_mf s 1 r (by decide : 15 ≠ 1)]; exact k15.off hc (by omega)
  · rw [updR_mf s 1 r (by decide : 16 ≠ 1)]; exact k16.off hc (by omega)
  · rw [updR_mf s 1 r (by decide : 17 ≠ 1)]; exact k17.off hc (by omega)
  · rw [updR_mf s 1 r (by decide : 18 ≠ 1)]; exact k18.off hc (by omega)
  · rw [updR_mf s 1 r (by decide : 19 ≠ 1)]; exact k19.off hc (by omega)
  · rw [updR_mf s 1 r (by decide : 20 ≠ 1)]; exact k20.off hc (by omega)
  · rw [updR_mf s 1 r (by decide : 21 ≠ 1)]; exact k21.off hc (by omega)
  · rw [updR_mf s 1 r (by decide : 22 ≠ 1)]; exact k22.off hc (by omega)
  · rw [updR_mf s 1 r (by decide : 23 ≠ 1)]; exact k23.off hc (by omega)
  · rw [updR_mf s 1 r (by decide : 24 ≠ 1)]; exact k24.off hc (by omega)
  · rw [updR_mf s 1 r (by decide : 25 ≠ 1)]; exact k25.off hc (by omega)
  · rw [updR_mf s 1 r (by decide : 26 ≠ 1)]; exact k26.off hc (by omega)
  · rw [updR_mf s 1 r (by decide : 27 ≠ 1)]; exact k27.off hc (by omega)
theorem mAt.lt {g : GG} {m tq : Nat} {p : Nat → Int32} {s : Nat → Nat → Int32} {H : Heap} (h : mAt g m tq p s H) : m + 22 < H.size ∧ tq < H.size := ⟨h.a27.lt, h.a1.lt⟩
section MROWS
variable {g : GG} {p : Program} {l : Launch} {e : Env} {R : Room} {s : State} {m : MethodId} {args : Array Value} {below : List Frame} {meth : Method} {c : Code} {H : Heap} {locs : List Loc} {cells slots : Nat} {Q : State → Prop}
variable {cc : ByteArray} {nL : Nat} {ret : Option FieldType} {own nm : String} {pc : Nat} {ls : Array Slot} {rest : List Value} {a : Nat}
theorem sz_of {A : Nat → Prop} {H0 H : Heap} {locs : List Loc} (_ : va_S A H0 H locs) : ∃ z, H.size = z := ⟨_, rfl⟩
theorem vpN {k n : Nat} {i : Int32} (hi : i = nI k) (hk : k < n) (hn : n < 2 ^ 31) : vp_in i n := by rw [hi]; exact vp_in_nI hk hn
theorem m_ild (X : CX g p s m args meth c cc nL ret own nm) {n : Nat} {f : Nat → Int32} (q : pt g a (.inl (g.2 0, n, .inl f)) H) (k : Nat) {i : Int32} (hi : i = nI k) (hk : k < n) (hn : n < 2 ^ 31) {v : Int32} (hv : f k = v) (hdg : decode cc pc = .ok (.iaload, 1))
    (kk : W p l e R s m args below meth c H locs cells slots Q (F0 m (pc + 1) ls (.int v :: rest))) : W p l e R s m args below meth c H locs cells slots Q (F0 m pc ls (.int i :: .ref a :: rest)) := by
  subst hv
  refine m_iald X q (vpN hi hk hn) hdg ?_
  rw [hi, nI_clamp (by omega)]
  exact kk
theorem m_zld (X : CX g p s m args meth c cc nL ret own nm) {n : Nat} {f : Nat → Int32} (q : pt g a (.inl (g.2 1, n, .inl f)) H) (k : Nat) {i : Int32} (hi : i = nI k) (hk : k < n) (hn : n < 2 ^ 31) {v : Int32} (hv : f k = v) (hdg : decode cc pc = .ok (.baload, 1))
    (kk : W p l e R s m args below meth c H locs cells slots Q (F0 m (pc + 1) ls (.int v :: rest))) : W p l e R s m args below meth c H locs cells slots Q (F0 m pc ls (.int i :: .ref a :: rest)) := by
  subst hv
  refine m_zald X q (vpN hi hk hn) hdg ?_
  rw [hi, nI_clamp (by omega)]
  exact kk
theorem m_ist (X : CX g p s m args meth c cc nL ret own nm) {A : Nat → Prop} {H0 : Heap} (hS : va_S A H0 H locs) (hA : A a) {n : Nat} {f : Nat → Int32} (q : pt g a (.inl (g.2 0, n, .inl f)) H) (k : Nat) {i x : Int32} (hi : i = nI k) (hk : k < n) (hn : n < 2 ^ 31) (hdg : decode cc pc = .ok (.iastore, 1))
    (kk : ∀ (H1 : Heap) (locs1 : List Loc), pt g a (.inl (g.2 0, n, .inl (upd f k x))) H1 → chg a H H1 → va_S A H0 H1 locs1 → W p l e R s m args below meth c H1 locs1 cells slots Q (F0 m (pc + 1) ls rest)) : W p l e R s m args below meth c H locs cells slots Q (F0 m pc ls (.int x :: .int i :: .ref a :: rest)) := by
  refine m_iast X hS hA q (vpN hi hk hn) hdg (fun H1 locs1 h1 h2 h3 => kk H1 locs1 ?_ h2 h3)
  rw [hi, nI_clamp (by omega)] at h1
  exact h1
theorem m_zst (X : CX g p s m args meth c cc nL ret own nm) {A : Nat → Prop} {H0 : Heap} (hS : va_S A H0 H locs) (hA : A a) {n : Nat} {f : Nat → Int32} (q : pt g a (.inl (g.2 1, n, .inl f)) H) (k : Nat) {i x : Int32} (hi : i = nI k) (hk : k < n) (hn : n < 2 ^ 31) (hnar : vp_nar .boolean x = x) (hdg : decode cc pc = .ok (.bastore, 1))
    (kk : ∀ (H1 : Heap) (locs1 : List Loc), pt g a (.inl (g.2 1, n, .inl (upd f k x))) H1 → chg a H H1 → va_S A H0 H1 locs1 → W p l e R s m args below meth c H1 locs1 cells slots Q (F0 m (pc + 1) ls rest)) : W p l e R s m args below meth c H locs cells slots Q (F0 m pc ls (.int x :: .int i :: .ref a :: rest)) := by
  refine m_zast X hS hA q hnar (vpN hi hk hn) hdg (fun H1 locs1 h1 h2 h3 => kk H1 locs1 ?_ h2 h3)
  rw [hi, nI_clamp (by omega)] at h1
  exact h1
end MROWS
