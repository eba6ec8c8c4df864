/-! THE LAW: each call, and the script as a whole -/
section
variable {h : zm_H} {m n : Nat} {xs : Int → Int} {x3 : Int} {Q : Int → zm_H → Prop}
theorem zx_1 {x : Option (zm_V × zm_H)} {z : Int} {g : zm_H} (e : x = some (zm_I z, g)) : zi x (fun z' g' => z' = z ∧ g' = g) := ⟨_, g, e, z, rfl, rfl, rfl⟩
/-- what follows a call -/
def zx_nx (n : Nat) (xs : Int → Int) (x3 : Int) (m : Nat) (Q : Int → zm_H → Prop) : Prop := ∀ g, zx_R g (m + 1) → zi (zr (some (n, xs)) 95 275 18 [zm_A 3, zm_A 4, zm_A 146, zm_I (x3 + 6)] [] g) Q
theorem zx_c0 (R : zx_R h m) (hm : m < 512) (hn : 6 * m + 6 ≤ n) (hn2 : n ≤ 3072) (hx : ∀ i : Nat, i < n → zm_i32 (xs i)) (h3 : x3 = ((6 * m : Nat) : Int)) (hI : zx_nx n xs x3 m Q) : zi (zr (some (n, xs)) 95 275 176 [zm_A 3, zm_A 4, zm_A 146, zm_I x3] [] h) Q := by
  have i32 : ∀ j : Nat, j < 6 → zm_i32 (xs (x3 + (j : Int))) := fun j hj => by
    rw [show x3 + (j : Int) = ((6 * m + j : Nat) : Int) by omega]
    exact hx _ (by omega)
  obtain ⟨z, g1, e1, g2, e2, R2⟩ := zx_o0 R hm (show zm_i32 (xs (x3 + 1)) from i32 1 (by decide)) (show zm_i32 (xs (x3 + 2)) from i32 2 (by decide)) (show zm_i32 (xs (x3 + 3)) from i32 3 (by decide)) (show zm_i32 (xs (x3 + 4)) from i32 4 (by decide)) (show zm_i32 (xs (x3 + 5)) from i32 5 (by decide))
  refine zt_l e_275_176 (zt_c (by omega) (zt_c (by omega) (zt_c (by omega) (zt_c (by omega) (zt_c (by omega) (zt_c (by omega) (zt_c (by omega) (zt_c (by omega) (zt_c (by omega) (zt_c (by omega) (zt_I (zx_1 e1) ?_)))))))))))
  rintro z1 g3 ⟨rfl, rfl⟩
  refine zt_c (by omega) (zt_c (by omega) (zt_c (by omega) (zt_c (by omega) (zt_c (by omega) (zt_c (by omega) (zt_c (by omega) (zt_c (by omega) (zt_c (by omega) (zt_c (by omega) (zt_I (zx_1 e2) ?_))))))))))
  rintro z3 g4 ⟨e3, rfl⟩
  exact zt_t e3.symm (zt_c (by omega) (hI _ R2))
theorem zx_c1 (R : zx_R h m) (hm : m < 512) (hn : 6 * m + 6 ≤ n) (hn2 : n ≤ 3072) (hx : ∀ i : Nat, i < n → zm_i32 (xs i)) (h3 : x3 = ((6 * m : Nat) : Int)) (hI : zx_nx n xs x3 m Q) : zi (zr (some (n, xs)) 95 275 239 [zm_A 3, zm_A 4, zm_A 146, zm_I x3] [] h) Q := by
  obtain ⟨z, g1, e1, g2, e2, R2⟩ := zx_o1 R hm (xs (x3 + 1))
  refine zt_l e_275_239 (zt_c (by omega) (zt_c (by omega) (zt_I (zx_1 e1) ?_)))
  rintro z1 g3 ⟨rfl, rfl⟩
  refine zt_c (by omega) (zt_c (by omega) (zt_I (zx_1 e2) ?_))
  rintro z3 g4 ⟨e3, rfl⟩
  exact zt_t e3.symm (zt_c (by omega) (hI _ R2))
theorem zx_c2 (R : zx_R h m) (hm : m < 512) (hn : 6 * m + 6 ≤ n) (hn2 : n ≤ 3072) (hx : ∀ i : Nat, i < n → zm_i32 (xs i)) (h3 : x3 = ((6 * m : Nat) : Int)) (hI : zx_nx n xs x3 m Q) : zi (zr (some (n, xs)) 95 275 262 [zm_A 3, zm_A 4, zm_A 146, zm_I x3] [] h) Q := by
  obtain ⟨z, g1, e1, g2, e2, R2⟩ := zx_o2 R hm
  refine zt_l e_275_262 (zt_I (zx_1 e1) ?_)
  rintro z1 g3 ⟨rfl, rfl⟩
  refine zt_I (zx_1 e2) ?_
  rintro z3 g4 ⟨e3, rfl⟩
  exact zt_t e3.symm (zt_c (by omega) (hI _ R2))
theorem zx_c3 (R : zx_R h m) (hm : m < 512) (hn : 6 * m + 6 ≤ n) (hn2 : n ≤ 3072) (hx : ∀ i : Nat, i < n → zm_i32 (xs i)) (h3 : x3 = ((6 * m : Nat) : Int)) (hI : zx_nx n xs x3 m Q) : zi (zr (some (n, xs)) 95 275 275 [zm_A 3, zm_A 4, zm_A 146, zm_I x3] [] h) Q := by
  obtain ⟨z, g1, e1, g2, e2, R2⟩ := zx_o3 R (xs (x3 + 1))
  refine zt_l e_275_275 (zt_c (by omega) (zt_c (by omega) (zt_I (zx_1 e1) ?_)))
  rintro z1 g3 ⟨rfl, rfl⟩
  refine zt_c (by omega) (zt_c (by omega) (zt_I (zx_1 e2) ?_))
  rintro z3 g4 ⟨e3, rfl⟩
  exact zt_t e3.symm (zt_c (by omega) (hI _ R2))
theorem zx_c4 (R : zx_R h m) (hm : m < 512) (hn : 6 * m + 6 ≤ n) (hn2 : n ≤ 3072) (hx : ∀ i : Nat, i < n → zm_i32 (xs i)) (h3 : x3 = ((6 * m : Nat) : Int)) (hI : zx_nx n xs x3 m Q) : zi (zr (some (n, xs)) 95 275 298 [zm_A 3, zm_A 4, zm_A 146, zm_I x3] [] h) Q := by
  obtain ⟨z, g1, e1, g2, e2, R2⟩ := zx_o4 R (xs (x3 + 1))
  refine zt_l e_275_298 (zt_c (by omega) (zt_c (by omega) (zt_I (zx_1 e1) ?_)))
  rintro z1 g3 ⟨rfl, rfl⟩
  refine zt_c (by omega) (zt_c (by omega) (zt_I (zx_1 e2) ?_))
  rintro z3 g4 ⟨e3, rfl⟩
  exact zt_t e3.symm (zt_c (by omega) (hI _ R2))
theorem zx_c5 (R : zx_R h m) (hm : m < 512) (hn : 6 * m + 6 ≤ n) (hn2 : n ≤ 3072) (hx : ∀ i : Nat, i < n → zm_i32 (xs i)) (h3 : x3 = ((6 * m : Nat) : Int)) (hI : zx_nx n xs x3 m Q) : zi (zr (some (n, xs)) 95 275 321 [zm_A 3, zm_A 4, zm_A 146, zm_I x3] [] h) Q := by
  obtain ⟨z, g1, e1, g2, e2, R2⟩ := zx_o5 R (xs (x3 + 1)) (xs (x3 + 2)) (xs (x3 + 3))
  refine zt_l e_275_321 (zt_c (by omega) (zt_c (by omega) (zt_c (by omega) (zt_c (by omega) (zt_c (by omega) (zt_c (by omega) (zt_I (zx_1 e1) ?_)))))))
  rintro z1 g3 ⟨rfl, rfl⟩
  refine zt_c (by omega) (zt_c (by omega) (zt_c (by omega) (zt_c (by omega) (zt_c (by omega) (zt_c (by omega) (zt_I (zx_1 e2) ?_))))))
  rintro z3 g4 ⟨e3, rfl⟩
  exact zt_t e3.symm (zt_c (by omega) (hI _ R2))
theorem zx_c6 (R : zx_R h m) (hm : m < 512) (hn : 6 * m + 6 ≤ n) (hn2 : n ≤ 3072) (hx : ∀ i : Nat, i < n → zm_i32 (xs i)) (h3 : x3 = ((6 * m : Nat) : Int)) (hI : zx_nx n xs x3 m Q) : zi (zr (some (n, xs)) 95 275 364 [zm_A 3, zm_A 4, zm_A 146, zm_I x3] [] h) Q := by
  obtain ⟨z, g1, e1, g2, e2, R2⟩ := zx_o6 R (xs (x3 + 1)) (xs (x3 + 2))
  refine zt_l e_275_364 (zt_c (by omega) (zt_c (by omega) (zt_c (by omega) (zt_c (by omega) (zt_I (zx_1 e1) ?_)))))
  rintro z1 g3 ⟨rfl, rfl⟩
  refine zt_c (by omega) (zt_c (by omega) (zt_c (by omega) (zt_c (by omega) (zt_I (zx_1 e2) ?_))))
  rintro z3 g4 ⟨e3, rfl⟩
  exact zt_t e3.symm (zt_c (by omega) (hI _ R2))
theorem zx_c7 (R : zx_R h m) (hm : m < 512) (hn : 6 * m + 6 ≤ n) (hn2 : n ≤ 3072) (hx : ∀ i : Nat, i < n → zm_i32 (xs i)) (h3 : x3 = ((6 * m : Nat) : Int)) (hI : zx_nx n xs x3 m Q) : zi (zr (some (n, xs)) 95 275 397 [zm_A 3, zm_A 4, zm_A 146, zm_I x3] [] h) Q := by
  obtain ⟨z, g1, e1, g2, e2, R2⟩ := zx_o7 R (xs (x3 + 1)) (xs (x3 + 2))
  refine zt_l e_275_397 (zt_c (by omega) (zt_c (by omega) (zt_c (by omega) (zt_c (by omega) (zt_I (zx_1 e1) ?_)))))
  rintro z1 g3 ⟨rfl, rfl⟩
  refine zt_c (by omega) (zt_c (by omega) (zt_c (by omega) (zt_c (by omega) (zt_I (zx_1 e2) ?_))))
  rintro z3 g4 ⟨e3, rfl⟩
  exact zt_t e3.symm (zt_c (by omega) (hI _ R2))
theorem zx_c8 (R : zx_R h m) (hm : m < 512) (hn : 6 * m + 6 ≤ n) (hn2 : n ≤ 3072) (hx : ∀ i : Nat, i < n → zm_i32 (xs i)) (h3 : x3 = ((6 * m : Nat) : Int)) (hI : zx_nx n xs x3 m Q) : zi (zr (some (n, xs)) 95 275 430 [zm_A 3, zm_A 4, zm_A 146, zm_I x3] [] h) Q := by
  obtain ⟨z, g1, e1, g2, e2, R2⟩ := zx_o8 R (xs (x3 + 1)) (xs (x3 + 2))
  refine zt_l e_275_430 (zt_c (by omega) (zt_c (by omega) (zt_c (by omega) (zt_c (by omega) (zt_I (zx_1 e1) ?_)))))
  rintro z1 g3 ⟨rfl, rfl⟩
  refine zt_c (by omega) (zt_c (by omega) (zt_c (by omega) (zt_c (by omega) (zt_I (zx_1 e2) ?_))))
  rintro z3 g4 ⟨e3, rfl⟩
  exact zt_t e3.symm (zt_c (by omega) (hI _ R2))
theorem zx_c9 (R : zx_R h m) (hm : m < 512) (hn : 6 * m + 6 ≤ n) (hn2 : n ≤ 3072) (hx : ∀ i : Nat, i < n → zm_i32 (xs i)) (h3 : x3 = ((6 * m : Nat) : Int)) (hI : zx_nx n xs x3 m Q) : zi (zr (some (n, xs)) 95 275 463 [zm_A 3, zm_A 4, zm_A 146, zm_I x3] [] h) Q := by
  obtain ⟨z, g1, e1, g2, e2, R2⟩ := zx_o9 R (xs (x3 + 1)) (xs (x3 + 2)) (xs (x3 + 3))
  refine zt_l e_275_463 (zt_c (by omega) (zt_c (by omega) (zt_c (by omega) (zt_c (by omega) (zt_c (by omega) (zt_c (by omega) (zt_I (zx_1 e1) ?_)))))))
  rintro z1 g3 ⟨rfl, rfl⟩
  refine zt_c (by omega) (zt_c (by omega) (zt_c (by omega) (zt_c (by omega) (zt_c (by omega) (zt_c (by omega) (zt_I (zx_1 e2) ?_))))))
  rintro z3 g4 ⟨e3, rfl⟩
  exact zt_t e3.symm (zt_c (by omega) (hI _ R2))
theorem zx_c10 (R : zx_R h m) (hm : m < 512) (hn : 6 * m + 6 ≤ n) (hn2 : n ≤ 3072) (hx : ∀ i : Nat, i < n → zm_i32 (xs i)) (h3 : x3 = ((6 * m : Nat) : Int)) (hI : zx_nx n xs x3 m Q) : zi (zr (some (n, xs)) 95 275 506 [zm_A 3, zm_A 4, zm_A 146, zm_I x3] [] h) Q := by
  obtain ⟨z, g1, e1, g2, e2, R2⟩ := zx_o10 R (xs (x3 + 1)) (xs (x3 + 2))
  refine zt_l e_275_506 (zt_c (by omega) (zt_c (by omega) (zt_c (by omega) (zt_c (by omega) (zt_I (zx_1 e1) ?_)))))
  rintro z1 g3 ⟨rfl, rfl⟩
  refine zt_c (by omega) (zt_c (by omega) (zt_c (by omega) (zt_c (by omega) (zt_I (zx_1 e2) ?_))))
  rintro z3 g4 ⟨e3, rfl⟩
  exact zt_t e3.symm (zt_c (by omega) (hI _ R2))
theorem zx_c11 (R : zx_R h m) (hm : m < 512) (hn : 6 * m + 6 ≤ n) (hn2 : n ≤ 3072) (hx : ∀ i : Nat, i < n → zm_i32 (xs i)) (h3 : x3 = ((6 * m : Nat) : Int)) (hI : zx_nx n xs x3 m Q) : zi (zr (some (n, xs)) 95 275 539 [zm_A 3, zm_A 4, zm_A 146, zm_I x3] [] h) Q := by
  obtain ⟨z, g1, e1, g2, e2, R2⟩ := zx_o11 R (xs (x3 + 1)) (xs (x3 + 2))
  refine zt_l e_275_539 (zt_c (by omega) (zt_c (by omega) (zt_c (by omega) (zt_c (by omega) (zt_I (zx_1 e1) ?_)))))
  rintro z1 g3 ⟨rfl, rfl⟩
  refine zt_c (by omega) (zt_c (by omega) (zt_c (by omega) (zt_c (by omega) (zt_I (zx_1 e2) ?_))))
  rintro z3 g4 ⟨e3, rfl⟩
  exact zt_t e3.symm (zt_c (by omega) (hI _ R2))
theorem zx_c12 (R : zx_R h m) (hm : m < 512) (hn : 6 * m + 6 ≤ n) (hn2 : n ≤ 3072) (hx : ∀ i : Nat, i < n → zm_i32 (xs i)) (h3 : x3 = ((6 * m : Nat) : Int)) (hI : zx_nx n xs x3 m Q) : zi (zr (some (n, xs)) 95 275 572 [zm_A 3, zm_A 4, zm_A 146, zm_I x3] [] h) Q := by
  obtain ⟨z, g1, e1, g2, e2, R2⟩ := zx_o12 R (xs (x3 + 1))
  refine zt_l e_275_572 (zt_c (by omega) (zt_c (by omega) (zt_I (zx_1 e1) ?_)))
  rintro z1 g3 ⟨rfl, rfl⟩
  refine zt_c (by omega) (zt_c (by omega) (zt_I (zx_1 e2) ?_))
  rintro z3 g4 ⟨e3, rfl⟩
  exact zt_t e3.symm (zt_c (by omega) (hI _ R2))
theorem zx_c13 (R : zx_R h m) (hm : m < 512) (hn : 6 * m + 6 ≤ n) (hn2 : n ≤ 3072) (hx : ∀ i : Nat, i < n → zm_i32 (xs i)) (h3 : x3 = ((6 * m : Nat) : Int)) (hI : zx_nx n xs x3 m Q) : zi (zr (some (n, xs)) 95 275 595 [zm_A 3, zm_A 4, zm_A 146, zm_I x3] [] h) Q := by
  obtain ⟨z, g1, e1, g2, e2, R2⟩ := zx_o13 R (xs (x3 + 1)) (xs (x3 + 2))
  refine zt_l e_275_595 (zt_c (by omega) (zt_c (by omega) (zt_c (by omega) (zt_c (by omega) (zt_I (zx_1 e1) ?_)))))
  rintro z1 g3 ⟨rfl, rfl⟩
  refine zt_c (by omega) (zt_c (by omega) (zt_c (by omega) (zt_c (by omega) (zt_I (zx_1 e2) ?_))))
  rintro z3 g4 ⟨e3, rfl⟩
  exact zt_t e3.symm (zt_c (by omega) (hI _ R2))
theorem zx_c14 (R : zx_R h m) (hm : m < 512) (hn : 6 * m + 6 ≤ n) (hn2 : n ≤ 3072) (hx : ∀ i : Nat, i < n → zm_i32 (xs i)) (h3 : x3 = ((6 * m : Nat) : Int)) (hI : zx_nx n xs x3 m Q) : zi (zr (some (n, xs)) 95 275 628 [zm_A 3, zm_A 4, zm_A 146, zm_I x3] [] h) Q := by
  obtain ⟨z, g1, e1, g2, e2, R2⟩ := zx_o14 R (xs (x3 + 1))
  refine zt_l e_275_628 (zt_c (by omega) (zt_c (by omega) (zt_I (zx_1 e1) ?_)))
  rintro z1 g3 ⟨rfl, rfl⟩
  refine zt_c (by omega) (zt_c (by omega) (zt_I (zx_1 e2) ?_))
  rintro z3 g4 ⟨e3, rfl⟩
  exact zt_t e3.symm (zt_c (by omega) (hI _ R2))
theorem zx_c15 (R : zx_R h m) (hm : m < 512) (hn : 6 * m + 6 ≤ n) (hn2 : n ≤ 3072) (hx : ∀ i : Nat, i < n → zm_i32 (xs i)) (h3 : x3 = ((6 * m : Nat) : Int)) (hI : zx_nx n xs x3 m Q) : zi (zr (some (n, xs)) 95 275 651 [zm_A 3, zm_A 4, zm_A 146, zm_I x3] [] h) Q := by
  obtain ⟨z, g1, e1, g2, e2, R2⟩ := zx_o15 R (xs (x3 + 1)) (xs (x3 + 2))
  refine zt_l e_275_651 (zt_c (by omega) (zt_c (by omega) (zt_c (by omega) (zt_c (by omega) (zt_I (zx_1 e1) ?_)))))
  rintro z1 g3 ⟨rfl, rfl⟩
  refine zt_c (by omega) (zt_c (by omega) (zt_c (by omega) (zt_c (by omega) (zt_I (zx_1 e2) ?_))))
  rintro z3 g4 ⟨e3, rfl⟩
  exact zt_t e3.symm (zt_c (by omega) (hI _ R2))
theorem zx_c16 (R : zx_R h m) (hm : m < 512) (hn : 6 * m + 6 ≤ n) (hn2 : n ≤ 3072) (hx : ∀ i : Nat, i < n → zm_i32 (xs i)) (h3 : x3 = ((6 * m : Nat) : Int)) (hI : zx_nx n xs x3 m Q) : zi (zr (some (n, xs)) 95 275 684 [zm_A 3, zm_A 4, zm_A 146, zm_I x3] [] h) Q := by
  obtain ⟨z, g1, e1, g2, e2, R2⟩ := zx_o16 R hm (xs (x3 + 1))
  refine zt_l e_275_684 (zt_c (by omega) (zt_c (by omega) (zt_I (zx_1 e1) ?_)))
  rintro z1 g3 ⟨rfl, rfl⟩
  refine zt_c (by omega) (zt_c (by omega) (zt_I (zx_1 e2) ?_))
  rintro z3 g4 ⟨e3, rfl⟩
  exact zt_t e3.symm (zt_c (by omega) (hI _ R2))
theorem zx_c17 (R : zx_R h m) (hm : m < 512) (hn : 6 * m + 6 ≤ n) (hn2 : n ≤ 3072) (hx : ∀ i : Nat, i < n → zm_i32 (xs i)) (h3 : x3 = ((6 * m : Nat) : Int)) (hI : zx_nx n xs x3 m Q) : zi (zr (some (n, xs)) 95 275 707 [zm_A 3, zm_A 4, zm_A 146, zm_I x3] [] h) Q := by
  obtain ⟨z, g1, e1, g2, e2, R2⟩ := zx_o17 R hm
  refine zt_l e_275_707 (zt_I (zx_1 e1) ?_)
  rintro z1 g3 ⟨rfl, rfl⟩
  refine zt_I (zx_1 e2) ?_
  rintro z3 g4 ⟨e3, rfl⟩
  exact zt_t e3.symm (zt_c (by omega) (hI _ R2))
theorem zx_c18 (R : zx_R h m) (hm : m < 512) (hn : 6 * m + 6 ≤ n) (hn2 : n ≤ 3072) (hx : ∀ i : Nat, i < n → zm_i32 (xs i)) (h3 : x3 = ((6 * m : Nat) : Int)) (hI : zx_nx n xs x3 m Q) : zi (zr (some (n, xs)) 95 275 720 [zm_A 3, zm_A 4, zm_A 146, zm_I x3] [] h) Q := by
  obtain ⟨z, g1, e1, g2, e2, R2⟩ := zx_o18 R hm (xs (x3 + 1)) (xs (x3 + 2)) (xs (x3 + 3))
  refine zt_l e_275_720 (zt_c (by omega) (zt_c (by omega) (zt_c (by omega) (zt_c (by omega) (zt_c (by omega) (zt_c (by omega) (zt_I (zx_1 e1) ?_)))))))
  rintro z1 g3 ⟨rfl, rfl⟩
  refine zt_c (by omega) (zt_c (by omega) (zt_c (by omega) (zt_c (by omega) (zt_c (by omega) (zt_c (by omega) (zt_I (zx_1 e2) ?_))))))
  rintro z3 g4 ⟨e3, rfl⟩
  exact zt_t e3.symm (zt_c (by omega) (hI _ R2))
theorem zx_c19 (R : zx_R h m) (hm : m < 512) (hn : 6 * m + 6 ≤ n) (hn2 : n ≤ 3072) (hx : ∀ i : Nat, i < n → zm_i32 (xs i)) (h3 : x3 = ((6 * m : Nat) : Int)) (hI : zx_nx n xs x3 m Q) : zi (zr (some (n, xs)) 95 275 763 [zm_A 3, zm_A 4, zm_A 146, zm_I x3] [] h) Q := by
  obtain ⟨z, g1, e1, g2, e2, R2⟩ := zx_o19 R hm (xs (x3 + 1)) (xs (x3 + 2))
  refine zt_l e_275_763 (zt_c (by omega) (zt_c (by omega) (zt_c (by omega) (zt_c (by omega) (zt_I (zx_1 e1) ?_)))))
  rintro z1 g3 ⟨rfl, rfl⟩
  refine zt_c (by omega) (zt_c (by omega) (zt_c (by omega) (zt_c (by omega) (zt_I (zx_1 e2) ?_))))
  rintro z3 g4 ⟨e3, rfl⟩
  exact zt_t e3.symm (zt_c (by omega) (hI _ R2))
theorem zx_c20 (R : zx_R h m) (hm : m < 512) (hn : 6 * m + 6 ≤ n) (hn2 : n ≤ 3072) (hx : ∀ i : Nat, i < n → zm_i32 (xs i)) (h3 : x3 = ((6 * m : Nat) : Int)) (hI : zx_nx n xs x3 m Q) : zi (zr (some (n, xs)) 95 275 796 [zm_A 3, zm_A 4, zm_A 146, zm_I x3] [] h) Q := by
  obtain ⟨z, g1, e1, g2, e2, R2⟩ := zx_o20 R hm (xs (x3 + 1)) (xs (x3 + 2)) (xs (x3 + 3)) (xs (x3 + 4))
  refine zt_l e_275_796 (zt_c (by omega) (zt_c (by omega) (zt_c (by omega) (zt_c (by omega) (zt_c (by omega) (zt_c (by omega) (zt_c (by omega) (zt_c (by omega) (zt_I (zx_1 e1) ?_)))))))))
  rintro z1 g3 ⟨rfl, rfl⟩
  refine zt_c (by omega) (zt_c (by omega) (zt_c (by omega) (zt_c (by omega) (zt_c (by omega) (zt_c (by omega) (zt_c (by omega) (zt_c (by omega) (zt_I (zx_1 e2) ?_))))))))
  rintro z3 g4 ⟨e3, rfl⟩
  exact zt_t e3.symm (zt_c (by omega) (hI _ R2))
theorem zx_c21 (R : zx_R h m) (hm : m < 512) (hn : 6 * m + 6 ≤ n) (hn2 : n ≤ 3072) (hx : ∀ i : Nat, i < n → zm_i32 (xs i)) (h3 : x3 = ((6 * m : Nat) : Int)) (hI : zx_nx n xs x3 m Q) : zi (zr (some (n, xs)) 95 275 849 [zm_A 3, zm_A 4, zm_A 146, zm_I x3] [] h) Q := by
  obtain ⟨z, g1, e1, g2, e2, R2⟩ := zx_o21 R hm (xs (x3 + 1))
  refine zt_l e_275_849 (zt_c (by omega) (zt_c (by omega) (zt_I (zx_1 e1) ?_)))
  rintro z1 g3 ⟨rfl, rfl⟩
  refine zt_c (by omega) (zt_c (by omega) (zt_I (zx_1 e2) ?_))
  rintro z3 g4 ⟨e3, rfl⟩
  exact zt_t e3.symm (zt_c (by omega) (hI _ R2))
theorem zx_c22 (R : zx_R h m) (hm : m < 512) (hn : 6 * m + 6 ≤ n) (hn2 : n ≤ 3072) (hx : ∀ i : Nat, i < n → zm_i32 (xs i)) (h3 : x3 = ((6 * m : Nat) : Int)) (hI : zx_nx n xs x3 m Q) : zi (zr (some (n, xs)) 95 275 872 [zm_A 3, zm_A 4, zm_A 146, zm_I x3] [] h) Q := by
  obtain ⟨z, g1, e1, g2, e2, R2⟩ := zx_o22 R hm
  refine zt_l e_275_872 (zt_I (zx_1 e1) ?_)
  rintro z1 g3 ⟨rfl, rfl⟩
  refine zt_I (zx_1 e2) ?_
  rintro z3 g4 ⟨e3, rfl⟩
  exact zt_t e3.symm (zt_c (by omega) (hI _ R2))
theorem zx_c23 (R : zx_R h m) (hm : m < 512) (hn : 6 * m + 6 ≤ n) (hn2 : n ≤ 3072) (hx : ∀ i : Nat, i < n → zm_i32 (xs i)) (h3 : x3 = ((6 * m : Nat) : Int)) (hI : zx_nx n xs x3 m Q) : zi (zr (some (n, xs)) 95 275 885 [zm_A 3, zm_A 4, zm_A 146, zm_I x3] [] h) Q := by
  have i32 : ∀ j : Nat, j < 6 → zm_i32 (xs (x3 + (j : Int))) := fun j hj => by
    rw [show x3 + (j : Int) = ((6 * m + j : Nat) : Int) by omega]
    exact hx _ (by omega)
  obtain ⟨z, g1, e1, g2, e2, R2⟩ := zx_o23 R hm (xs (x3 + 1)) (show zm_i32 (xs (x3 + 1)) from i32 1 (by decide)).2
  refine zt_l e_275_885 (zt_c (by omega) (zt_c (by omega) (zt_I (zx_1 e1) ?_)))
  rintro z1 g3 ⟨rfl, rfl⟩
  refine zt_c (by omega) (zt_c (by omega) (zt_I (zx_1 e2) ?_))
  rintro z3 g4 ⟨e3, rfl⟩
  exact zt_t e3.symm (zt_c (by omega) (hI _ R2))
theorem zx_c24 (R : zx_R h m) (hm : m < 512) (hn : 6 * m + 6 ≤ n) (hn2 : n ≤ 3072) (hx : ∀ i : Nat, i < n → zm_i32 (xs i)) (h3 : x3 = ((6 * m : Nat) : Int)) (hI : zx_nx n xs x3 m Q) : zi (zr (some (n, xs)) 95 275 908 [zm_A 3, zm_A 4, zm_A 146, zm_I x3] [] h) Q := by
  obtain ⟨z, g1, e1, g2, e2, R2⟩ := zx_o24 R (xs (x3 + 1)) (xs (x3 + 2))
  refine zt_l e_275_908 (zt_c (by omega) (zt_c (by omega) (zt_c (by omega) (zt_c (by omega) (zt_I (zx_1 e1) ?_)))))
  rintro z1 g3 ⟨rfl, rfl⟩
  refine zt_c (by omega) (zt_c (by omega) (zt_c (by omega) (zt_c (by omega) (zt_I (zx_1 e2) ?_))))
  rintro z3 g4 ⟨e3, rfl⟩
  exact zt_t e3.symm (zt_c (by omega) (hI _ R2))
theorem zx_c25 (R : zx_R h m) (hm : m < 512) (hn : 6 * m + 6 ≤ n) (hn2 : n ≤ 3072) (hx : ∀ i : Nat, i < n → zm_i32 (xs i)) (h3 : x3 = ((6 * m : Nat) : Int)) (hI : zx_nx n xs x3 m Q) : zi (zr (some (n, xs)) 95 275 941 [zm_A 3, zm_A 4, zm_A 146, zm_I x3] [] h) Q := by
  obtain ⟨z, g1, e1, g2, e2, R2⟩ := zx_o25 R hm
  refine zt_l e_275_941 (zt_I (zx_1 e1) ?_)
  rintro z1 g3 ⟨rfl, rfl⟩
  refine zt_I (zx_1 e2) ?_
  rintro z3 g4 ⟨e3, rfl⟩
  exact zt_t e3.symm (zt_c (by omega) (hI _ R2))
theorem zx_c26 (R : zx_R h m) (hm : m < 512) (hn : 6 * m + 6 ≤ n) (hn2 : n ≤ 3072) (hx : ∀ i : Nat, i < n → zm_i32 (xs i)) (h3 : x3 = ((6 * m : Nat) : Int)) (hI : zx_nx n xs x3 m Q) : zi (zr (some (n, xs)) 95 275 954 [zm_A 3, zm_A 4, zm_A 146, zm_I x3] [] h) Q := by
  obtain ⟨z, g1, e1, g2, e2, R2⟩ := zx_o26 R (xs (x3 + 1)) (xs (x3 + 2))
  refine zt_l e_275_954 (zt_c (by omega) (zt_c (by omega) (zt_c (by omega) (zt_c (by omega) (zt_I (zx_1 e1) ?_)))))
  rintro z1 g3 ⟨rfl, rfl⟩
  refine zt_c (by omega) (zt_c (by omega) (zt_c (by omega) (zt_c (by omega) (zt_I (zx_1 e2) ?_))))
  rintro z3 g4 ⟨e3, rfl⟩
  exact zt_t e3.symm (zt_c (by omega) (hI _ R2))
theorem zx_c27 (R : zx_R h m) (hm : m < 512) (hn : 6 * m + 6 ≤ n) (hn2 : n ≤ 3072) (hx : ∀ i : Nat, i < n → zm_i32 (xs i)) (h3 : x3 = ((6 * m : Nat) : Int)) (hI : zx_nx n xs x3 m Q) : zi (zr (some (n, xs)) 95 275 987 [zm_A 3, zm_A 4, zm_A 146, zm_I x3] [] h) Q := by
  obtain ⟨z, g1, e1, g2, e2, R2⟩ := zx_o27 R (xs (x3 + 1)) (xs (x3 + 2))
  refine zt_l e_275_987 (zt_c (by omega) (zt_c (by omega) (zt_c (by omega) (zt_c (by omega) (zt_I (zx_1 e1) ?_)))))
  rintro z1 g3 ⟨rfl, rfl⟩
  refine zt_c (by omega) (zt_c (by omega) (zt_c (by omega) (zt_c (by omega) (zt_I (zx_1 e2) ?_))))
  rintro z3 g4 ⟨e3, rfl⟩
  exact zt_t e3.symm (zt_c (by omega) (hI _ R2))
theorem zx_c28 (R : zx_R h m) (hm : m < 512) (hn : 6 * m + 6 ≤ n) (hn2 : n ≤ 3072) (hx : ∀ i : Nat, i < n → zm_i32 (xs i)) (h3 : x3 = ((6 * m : Nat) : Int)) (hI : zx_nx n xs x3 m Q) : zi (zr (some (n, xs)) 95 275 1020 [zm_A 3, zm_A 4, zm_A 146, zm_I x3] [] h) Q := by
  obtain ⟨z, g1, e1, g2, e2, R2⟩ := zx_o28 R
  refine zt_l e_275_1020 (zt_I (zx_1 e1) ?_)
  rintro z1 g3 ⟨rfl, rfl⟩
  refine zt_I (zx_1 e2) ?_
  rintro z3 g4 ⟨e3, rfl⟩
  exact zt_t e3.symm (zt_c (by omega) (hI _ R2))
theorem zx_c29 (R : zx_R h m) (hm : m < 512) (hn : 6 * m + 6 ≤ n) (hn2 : n ≤ 3072) (hx : ∀ i : Nat, i < n → zm_i32 (xs i)) (h3 : x3 = ((6 * m : Nat) : Int)) (hI : zx_nx n xs x3 m Q) : zi (zr (some (n, xs)) 95 275 1033 [zm_A 3, zm_A 4, zm_A 146, zm_I x3] [] h) Q := by
  obtain ⟨z, g1, e1, g2, e2, R2⟩ := zx_o29 R (xs (x3 + 1))
  refine zt_l e_275_1033 (zt_c (by omega) (zt_c (by omega) (zt_I (zx_1 e1) ?_)))
  rintro z1 g3 ⟨rfl, rfl⟩
  refine zt_c (by omega) (zt_c (by omega) (zt_I (zx_1 e2) ?_))
  rintro z3 g4 ⟨e3, rfl⟩
  exact zt_t e3.symm (zt_c (by omega) (hI _ R2))
theorem zx_c30 (R : zx_R h m) (hm : m < 512) (hn : 6 * m + 6 ≤ n) (hn2 : n ≤ 3072) (hx : ∀ i : Nat, i < n → zm_i32 (xs i)) (h3 : x3 = ((6 * m : Nat) : Int)) (hI : zx_nx n xs x3 m Q) : zi (zr (some (n, xs)) 95 275 1056 [zm_A 3, zm_A 4, zm_A 146, zm_I x3] [] h) Q := by
  obtain ⟨z, g1, e1, g2, e2, R2⟩ := zx_o30 R hm
  refine zt_l e_275_1056 (zt_I (zx_1 e1) ?_)
  rintro z1 g3 ⟨rfl, rfl⟩
  refine zt_I (zx_1 e2) ?_
  rintro z3 g4 ⟨e3, rfl⟩
  exact zt_t e3.symm (zt_c (by omega) (hI _ R2))
theorem zx_c31 (R : zx_R h m) (hm : m < 512) (hn : 6 * m + 6 ≤ n) (hn2 : n ≤ 3072) (hx : ∀ i : Nat, i < n → zm_i32 (xs i)) (h3 : x3 = ((6 * m : Nat) : Int)) (hI : zx_nx n xs x3 m Q) : zi (zr (some (n, xs)) 95 275 1069 [zm_A 3, zm_A 4, zm_A 146, zm_I x3] [] h) Q := by
  obtain ⟨z, g1, e1, g2, e2, R2⟩ := zx_o31 R (xs (x3 + 1))
  refine zt_l e_275_1069 (zt_c (by omega) (zt_c (by omega) (zt_I (zx_1 e1) ?_)))
  rintro z1 g3 ⟨rfl, rfl⟩
  refine zt_c (by omega) (zt_c (by omega) (zt_I (zx_1 e2) ?_))
  rintro z3 g4 ⟨e3, rfl⟩
  exact zt_t e3.symm (zt_c (by omega) (hI _ R2))
/-- the law's loop over the script -/
theorem zx_loop (hn2 : n ≤ 3072) (hx : ∀ i : Nat, i < n → zm_i32 (xs i)) : ∀ (k m : Nat) (h : zm_H) (x3 : Int), m + k = 512 → x3 = ((6 * m : Nat) : Int) → zx_R h m → zi (zr (some (n, xs)) 95 275 18 [zm_A 3, zm_A 4, zm_A 146, zm_I x3] [] h) (fun z _ => z = 1) := by
  intro k
  induction k with
  | zero =>
    intro m h x3 hk h3 R
    exact zt_l e_275_18 (zt_c (by omega) (zt_t (by omega) (zt_c (Or.inr rfl) (zi_e rfl))))
  | succ k ih =>
    intro m h x3 hk h3 R
    refine zt_l e_275_18 (zt_c (by omega) (zt_p (fun _ => zt_c (Or.inr rfl) (zi_e rfl)) (fun q => ?_)))
    have hm : m < 512 := by omega
    have hn : 6 * m + 6 ≤ n := by omega
    have hI : zx_nx n xs x3 m (fun z _ => z = 1) := fun g R2 => ih (m + 1) g (x3 + 6) (by omega) (by omega) R2
    refine zt_c (by omega) ?_
    refine zt_p (fun _ => zx_c0 R hm hn hn2 hx h3 hI) (fun _ => ?_)
    refine zt_p (fun _ => zx_c1 R hm hn hn2 hx h3 hI) (fun _ => ?_)
    refine zt_p (fun _ => zx_c2 R hm hn hn2 hx h3 hI) (fun _ => ?_)
    refine zt_p (fun _ => zx_c3 R hm hn hn2 hx h3 hI) (fun _ => ?_)
    refine zt_p (fun _ => zx_c4 R hm hn hn2 hx h3 hI) (fun _ => ?_)
    refine zt_p (fun _ => zx_c5 R hm hn hn2 hx h3 hI) (fun _ => ?_)
    refine zt_p (fun _ => zx_c6 R hm hn hn2 hx h3 hI) (fun _ => ?_)
    refine zt_p (fun _ => zx_c7 R hm hn hn2 hx h3 hI) (fun _ => ?_)
    refine zt_p (fun _ => zx_c8 R hm hn hn2 hx h3 hI) (fun _ => ?_)
    refine zt_p (fun _ => zx_c9 R hm hn hn2 hx h3 hI) (fun _ => ?_)
    refine zt_p (fun _ => zx_c10 R hm hn hn2 hx h3 hI) (fun _ => ?_)
    refine zt_p (fun _ => zx_c11 R hm hn hn2 hx h3 hI) (fun _ => ?_)
    refine zt_p (fun _ => zx_c12 R hm hn hn2 hx h3 hI) (fun _ => ?_)
    refine zt_p (fun _ => zx_c13 R hm hn hn2 hx h3 hI) (fun _ => ?_)
    refine zt_p (fun _ => zx_c14 R hm hn hn2 hx h3 hI) (fun _ => ?_)
    refine zt_p (fun _ => zx_c15 R hm hn hn2 hx h3 hI) (fun _ => ?_)
    refine zt_p (fun _ => zx_c16 R hm hn hn2 hx h3 hI) (fun _ => ?_)
    refine zt_p (fun _ => zx_c17 R hm hn hn2 hx h3 hI) (fun _ => ?_)
    refine zt_p (fun _ => zx_c18 R hm hn hn2 hx h3 hI) (fun _ => ?_)
    refine zt_p (fun _ => zx_c19 R hm hn hn2 hx h3 hI) (fun _ => ?_)
    refine zt_p (fun _ => zx_c20 R hm hn hn2 hx h3 hI) (fun _ => ?_)
    refine zt_p (fun _ => zx_c21 R hm hn hn2 hx h3 hI) (fun _ => ?_)
    refine zt_p (fun _ => zx_c22 R hm hn hn2 hx h3 hI) (fun _ => ?_)
    refine zt_p (fun _ => zx_c23 R hm hn hn2 hx h3 hI) (fun _ => ?_)
    refine zt_p (fun _ => zx_c24 R hm hn hn2 hx h3 hI) (fun _ => ?_)
    refine zt_p (fun _ => zx_c25 R hm hn hn2 hx h3 hI) (fun _ => ?_)
    refine zt_p (fun _ => zx_c26 R hm hn hn2 hx h3 hI) (fun _ => ?_)
    refine zt_p (fun _ => zx_c27 R hm hn hn2 hx h3 hI) (fun _ => ?_)
    refine zt_p (fun _ => zx_c28 R hm hn hn2 hx h3 hI) (fun _ => ?_)
    refine zt_p (fun _ => zx_c29 R hm hn hn2 hx h3 hI) (fun _ => ?_)
    refine zt_p (fun _ => zx_c30 R hm hn hn2 hx h3 hI) (fun _ => ?_)
    refine zt_p (fun _ => zx_c31 R hm hn hn2 hx h3 hI) (fun _ => ?_)
    exact zt_c (by omega) (hI _ ⟨R.1.kx (Nat.le_succ _) zq_F_rf, R.2.x0 (Nat.le_succ _) zq_F_rf⟩)
end
