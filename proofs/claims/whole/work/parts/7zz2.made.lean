/-! THE TWO MODELS WHEN THEY ARE MADE: the run of both constructors, by the kernel -/
def zi_two : Bool := match zi_ex none false 6000 (zm_rk 0 [zm_A 4]) 0 0 (zm_ini 0 [zm_A 4]) [] (5, zm_zr (fun _ _ => 0) 4) with
  | some (v, nx, h) => match zi_ex none false 6000 (zm_rk 153 [zm_A 146]) 153 0 (zm_ini 153 [zm_A 146]) [] (nx + 1, zm_zr h nx) with
    | some (w, nx2, h2) => decide (v = zm_U) && decide (nx = 146) && decide (w = zm_U) && decide (nx2 = 194) && @decide (zi_P h2) (zi_dP h2)
    | none => false
  | none => false
theorem zi_two_t : zi_two = true := by decide +kernel
theorem zi_made : ∃ h1 h2, zm_ex none false 6000 (zm_rk 0 [zm_A 4]) 0 0 (zm_ini 0 [zm_A 4]) [] (5, zm_zr (fun _ _ => 0) 4) = some (zm_U, 146, h1) ∧ zm_ex none false 6000 (zm_rk 153 [zm_A 146]) 153 0 (zm_ini 153 [zm_A 146]) [] (147, zm_zr h1 146) = some (zm_U, 194, h2) ∧ zx_R h2 0 := by
  have e := zi_two_t
  unfold zi_two at e
  split at e
  · next v nx h e1 =>
    split at e
    · next w nx2 h2 e2 =>
      simp only [Bool.and_eq_true, decide_eq_true_eq] at e
      obtain ⟨⟨⟨⟨rfl, rfl⟩, rfl⟩, rfl⟩, p⟩ := e
      exact ⟨h, h2, zi_ex_ok _ _ _ _ _ _ _ _ _ _ e1, zi_ex_ok _ _ _ _ _ _ _ _ _ _ e2, zi_R p⟩
    · cases e
  · cases e
