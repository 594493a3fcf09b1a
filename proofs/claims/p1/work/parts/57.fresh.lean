-- THE PRESS WHEN NOTHING HAS BEEN TOLD
abbrev D0 : DT := fun _ _ _ => 0
abbrev c00 : Nat → Nat := fun _ => 0
def yF : YS := nowF D0 c00 y00
theorem yF_c : yF.2.1 = 1 := by decide +kernel
theorem yF_f : yF.2.2.2.1 = 0 ∧ yF.2.2.2.2.1 = -1 ∧ yF.2.2.2.2.2 = 1 := by decide +kernel
theorem yF_ofi : ∀ t, t < 8 → ofiF yF.1 0 (nI t) = oiM (nI t) := by decide +kernel
theorem yF_man : ∀ t, t < 12 → manF c00 yF (nI t) = mnM (nI t) := by decide +kernel
theorem yF_val : ∀ t, t < 8 → valN yF (nI t) = -1 := by decide +kernel
theorem yF_it : yF.1.1 12 0 = 0 ∧ yF.1.1 13 0 = 0 ∧ yF.1.1 0 0 = 6 := by decide +kernel
theorem yF_tal : tal yF.1 3 yF.2.1 0 0 = 0 := by decide +kernel
theorem yF_cnl : (cnl yF.2.1 yF.2.1 0 yF.1 0).2 = 0 := by decide +kernel
theorem yF_dig : dgF c00 D0 yF 0 = -2364142139903650490 := by decide +kernel
theorem yF_lb : ∀ k, k < 21 → lbA yF (asmF (lbX D0 0 (dl 2 (-1) (-1) 0 0) k) (lbC c00 k) y00) = 0 := by decide +kernel
