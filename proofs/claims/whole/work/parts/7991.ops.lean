/-! SUMS AND TESTS: the reference's codes and what it holds back -/
/-- the reference at (p, g), with the codes l in bank b, no fault -/
def zy_L (h : zm_H) (T : Nat → Int) (n p : Nat) (g : Bool) (b : Nat) (l : List Int) : Prop := zy_RT h T n ∧ zy_R h T n p g ∧ h 146 8 = 0 ∧ b < 2 ∧ h 146 34 = b ∧ h 146 33 = l.length ∧ ∀ i : Nat, i < l.length → ∀ j : Int, j = 1600 * b + i → zp_cr (l.getD i 0) (h 163 j) (h 164 j)
def zy_rk (s : Int) : Int := if s = 21 then 1 else if s = 20 then 2 else if s = 22 then 3 else if s = 17 ∨ s = 18 ∨ s = 19 then 4 else if s = 10 ∨ s = 11 then 5 else 6
def zy_cc (s : Int) : Int := if s = 22 then -21 else if s = 20 then -22 else if s = 21 then -23 else -s - 1
theorem zy_cc_cr {s : Int} (h : 10 ≤ s ∧ s ≤ 22) : zp_cr (zy_cc s) s 0 := by
  unfold zp_cr zy_cc
  omega
section
variable {h : zm_H} {T : Nat → Int} {n p b : Nat} {gl : Bool} {l : List Int}
theorem zy_L.kp {g : zm_H} (hL : zy_L h T n p gl b l) (h1 : ∀ i : Int, (2 ≤ i ∧ i ≤ 8) ∨ i = 12 ∨ i = 33 ∨ i = 34 → g 146 i = h 146 i) (h2 : ∀ a : Nat, a = 147 ∨ a = 163 ∨ a = 164 → g a = h a) : zy_L g T n p gl b l := by
  obtain ⟨⟨t1, t2, t3, t4⟩, c, f8, hb, f34, f33, cd⟩ := hL
  refine ⟨⟨t1, t2, by rw [h1 2 (by omega)]; exact t3, fun i hi => by rw [h2 147 (by omega)]; exact t4 i hi⟩, ?_, by rw [h1 8 (by omega)]; exact f8, hb, by rw [h1 34 (by omega)]; exact f34, by rw [h1 33 (by omega)]; exact f33, fun i hi j hj => by rw [h2 163 (by omega), h2 164 (by omega)]; exact cd i hi j hj⟩
  unfold zy_R at c ⊢
  rw [h1 4 (by omega), h1 12 (by omega), h1 3 (by omega), h1 5 (by omega), h1 7 (by omega), h1 6 (by omega)]
  exact c
def zf_Cd (b : Nat) (a : Nat) (i : Int) : Prop := (a = 146 ∧ i = 33) ∨ ((a = 163 ∨ a = 164) ∧ 1600 * (b : Int) ≤ i ∧ i < 1600 * (b : Int) + 1600)
theorem s_189 {s v c : Int} (hL : zy_L h T n p gl b l) (hl : l.length < 1600) (hc : zp_cr c s v) : zu (zc 189 [zm_A 146, zm_I s, zm_I v] h) (fun g => zq_F (zf_Cd b) h g ∧ zy_L g T n p gl b (l ++ [c])) := by
  obtain ⟨⟨t1, t2, t3, t4⟩, cc, f8, hb, f34, f33, cd⟩ := hL
  have ej : 1600 * (b : Int) + (l.length : Int) = ((1600 * b + l.length : Nat) : Int) := by omega
  refine zt_l e_189 ?_
  have e1 : ∀ (x : Int) (i : Int), zm_wr h 163 x s 146 i = h 146 i := fun x i => zq_wr_n (by decide)
  have e2 : ∀ (x y : Int) (i : Int), zm_wr (zm_wr h 163 x s) 164 y v 146 i = h 146 i := fun x y i => by rw [zq_wr_n (by decide), zq_wr_n (by decide)]
  simp only [e1, e2]
  rw [f34, f33, ej]
  refine zt_c (by omega) (zt_c (by omega) (zt_c (by omega) (zt_c (by omega) (zt_c (by omega) (zt_c (by omega) (zt_c (by omega) (zu_e ⟨zq_F_tr (zq_F_wr (Or.inr ⟨Or.inl rfl, by omega, by omega⟩)) (zq_F_tr (zq_F_wr (Or.inr ⟨Or.inr rfl, by omega, by omega⟩)) (zq_F_wr (Or.inl ⟨rfl, rfl⟩))), ?_⟩)))))))
  have k : ∀ i : Int, i ≠ 33 → ∀ x y : Int, zm_wr (zm_wr (zm_wr h 163 x s) 164 y v) 146 33 ((l.length : Int) + 1) 146 i = h 146 i := fun i hi x y => by rw [zq_wr_i hi, e2]
  refine ⟨⟨t1, t2, by rw [k 2 (by decide)]; exact t3, fun i hi => by rw [zq_wr_n (by decide), zq_wr_n (by decide), zq_wr_n (by decide)]; exact t4 i hi⟩, ?_, by rw [k 8 (by decide)]; exact f8, hb, by rw [k 34 (by decide)]; exact f34, by rw [zq_wr_e, List.length_append]; rfl, ?_⟩
  · unfold zy_R at cc ⊢
    rw [k 4 (by decide), k 12 (by decide), k 3 (by decide), k 5 (by decide), k 7 (by decide), k 6 (by decide)]
    exact cc
  · intro i hi j hj
    rw [List.length_append] at hi
    have hi' : i < l.length + 1 := hi
    have k163 : ∀ j : Int, zm_wr (zm_wr (zm_wr h 163 ((1600 * b + l.length : Nat) : Int) s) 164 ((1600 * b + l.length : Nat) : Int) v) 146 33 ((l.length : Int) + 1) 163 j = zm_wr h 163 ((1600 * b + l.length : Nat) : Int) s 163 j := fun j => by
      rw [zq_wr_n (show (163 : Nat) ≠ 146 by decide), zq_wr_n (show (163 : Nat) ≠ 164 by decide)]
    have k164 : ∀ j : Int, zm_wr (zm_wr (zm_wr h 163 ((1600 * b + l.length : Nat) : Int) s) 164 ((1600 * b + l.length : Nat) : Int) v) 146 33 ((l.length : Int) + 1) 164 j = zm_wr (zm_wr h 163 ((1600 * b + l.length : Nat) : Int) s) 164 ((1600 * b + l.length : Nat) : Int) v 164 j := fun j => by
      rw [zq_wr_n (show (164 : Nat) ≠ 146 by decide)]
    rw [k163, k164]
    by_cases e : i = l.length
    · subst e
      have ejj : j = ((1600 * b + l.length : Nat) : Int) := by omega
      rw [ejj, zq_wr_e, zq_wr_e]
      have eg : (l ++ [c]).getD l.length 0 = c := by simp
      rw [eg]
      exact hc
    · rw [zq_wr_i (show j ≠ ((1600 * b + l.length : Nat) : Int) by omega), zq_wr_i (show j ≠ ((1600 * b + l.length : Nat) : Int) by omega), zq_wr_n (show (164 : Nat) ≠ 163 by decide)]
      have := cd i (by omega) j hj
      rw [List.getD_eq_getElem?_getD] at this ⊢
      rw [List.getElem?_append_left (by omega)]
      exact this
theorem s_192 (s : Int) (hs : 10 ≤ s ∧ s ≤ 22) : zi (zc 192 [zm_I s] h) (fun z g => z = zy_rk s ∧ g = h) := by
  unfold zy_rk
  refine zt_l e_192 (zt_p (fun q => zi_e ⟨by rw [if_pos q], rfl⟩) (fun q1 => zt_p (fun q => zi_e ⟨by rw [if_neg q1, if_pos q], rfl⟩) (fun q2 => zt_p (fun q => zi_e ⟨by rw [if_neg q1, if_neg q2, if_pos q], rfl⟩) (fun q3 => zt_p (fun q => zi_e ⟨by rw [if_neg q1, if_neg q2, if_neg q3, if_pos (Or.inl q)], rfl⟩) (fun q4 => zt_p (fun q => zi_e ⟨by rw [if_neg q1, if_neg q2, if_neg q3, if_pos (Or.inr (Or.inl q))], rfl⟩) (fun q5 => zt_p (fun q => zi_e ⟨by rw [if_neg q1, if_neg q2, if_neg q3, if_pos (Or.inr (Or.inr q))], rfl⟩) (fun q6 => ?_)))))))
  have q456 : ¬ (s = 17 ∨ s = 18 ∨ s = 19) := by omega
  refine zt_p (fun q => zi_e ⟨by rw [if_neg q1, if_neg q2, if_neg q3, if_neg q456, if_pos (Or.inl q)], rfl⟩) (fun q7 => zt_p (fun q => zi_e ⟨by rw [if_neg q1, if_neg q2, if_neg q3, if_neg q456, if_pos (Or.inr q)], rfl⟩) (fun q8 => zi_e ⟨by rw [if_neg q1, if_neg q2, if_neg q3, if_neg q456, if_neg (by omega)], rfl⟩))
/-- hold back -/
theorem s_186 {m : Nat} (s : Int) (hm : h 146 43 = m) (h5 : m < 500) : zu (zc 186 [zm_A 146, zm_I s] h) (fun g => g = zm_wr (zm_wr h 172 m s) 146 43 ((m : Int) + 1)) := by
  refine zt_l e_186 ?_
  have e1 : zm_wr h 172 (h 146 43) s 146 43 = h 146 43 := zq_wr_n (by decide)
  rw [e1, hm]
  exact zt_c (by omega) (zt_c (by omega) (zu_e rfl))
end
