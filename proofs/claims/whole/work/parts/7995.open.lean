/-! SUMS AND TESTS: ( in the reference -/
section
variable {h : zm_H} {T : Nat → Int} {n p b : Nat} {gl : Bool} {l : List Int}
theorem s_187s (hR : zy_R h T n p gl) (ht : zy_ty T n p gl ≠ 4) (c : Int) : zi (zc 187 [zm_A 146, zm_I c] h) (fun z g => z = (if zy_sg T n p gl c = true then 1 else 0) ∧ g = h) := by
  refine zi_m (s_187 hR ht c) (fun z g q => ⟨?_, q.2⟩)
  rw [q.1]
  unfold zy_sg
  by_cases r : zy_ty T n p gl = 3 ∧ T (zy_at T n p) = c
  · rw [if_pos r, decide_eq_true r, if_pos rfl]
  · rw [if_neg r, decide_eq_false r, if_neg (by decide)]
theorem s_184_171p {k o : Nat} {M : Int} {w1 w2 w3 : zm_V} (hw2 : zm_cat w2 ≠ 2) (hL : zy_L h T n p gl b l) (hp : p ≤ n) (q40 : zy_sg T n p gl 40 = true) (h40 : h 146 40 = k) (hk : k < 20) (h43 : h 146 43 = M) (h41 : h 146 41 = o) (ho : o ≤ 7) : zi (zr none 4 184 171 [zm_A 146, w1, w2, w3] [] h) (fun z g => z = 0 ∧ ((o = 7 ∧ g = zm_wr (zm_wr h 146 8 5) 146 9 (zy_at T n p)) ∨ (o < 7 ∧ zq_F (fun a i => zf_Sr a i ∨ zf_Pu k a i ∨ (a = 146 ∧ i = 41)) h g ∧ zy_L g T n (zy_en T n p) (zy_ng T n p gl) b l ∧ g 146 41 = ((o + 1 : Nat) : Int) ∧ g 167 k = 2 ∧ g 168 k = 0 ∧ g 169 k = 1 ∧ g 171 k = M ∧ g 146 40 = ((k + 1 : Nat) : Int)))) := by
  have t3 := (zy_sg_ty q40).1
  refine zt_l (e_184_171 hw2) (zt_I (s_187s hL.2.1 (by omega) 40) ?_)
  rintro z g ⟨rfl, rfl⟩
  rw [if_pos q40]
  refine zt_f (by decide) (zt_V (s_188 2 hL hp (by omega) h40 hk h43 h41 ho) ?_)
  intro g2 r
  exact zt_c (Or.inl rfl) (zi_e ⟨rfl, r⟩)
end
