/-! SUMS AND TESTS: min and max in the reference, as a whole -/
section
variable {h : zm_H} {T : Nat → Int} {n p b : Nat} {gl : Bool} {l : List Int}
theorem zy_bd_at (ht : zy_ty T n p gl ≠ 4) : zy_bd T n p gl = zy_at T n p := by
  unfold zy_ty at ht
  unfold zy_bd
  split
  · rfl
  · next h1 =>
    rw [if_neg h1] at ht
    split
    · next h2 =>
      rw [if_pos h2] at ht
      split
      · rfl
      · next h3 =>
        split
        · next h4 => exact absurd (if_pos (Or.inr h4)) ht
        · rfl
    · next h2 =>
      rw [if_neg h2] at ht
      split
      · next h3 =>
        rw [if_pos h3] at ht
        split
        · rfl
        · split
          · next h4 => exact absurd (if_pos (Or.inr h4)) ht
          · rfl
      · rfl
theorem s_184_251f {w1 w2 : zm_V} (x : Int) (f8 : 0 < h 146 8) : zi (zr none 4 184 251 [zm_A 146, w1, w2, zm_I x] [] h) (fun z g => z = 0 ∧ g = h) := by
  refine zt_l e_184_251 (zt_V (s_188f f8) ?_)
  rintro g rfl
  exact zt_f (by omega) (zt_c (Or.inl rfl) (zi_e ⟨rfl, rfl⟩))
theorem s_184_207 {k o : Nat} {M x : Int} {w1 w2 w3 : zm_V} (hw2 : zm_cat w2 ≠ 2) (hL : zy_L h T n p gl b l) (hp : p ≤ n) (hx : (zy_ow T n p gl = 23 ∧ x = 15) ∨ (zy_ow T n p gl = 24 ∧ x = 16)) (h40 : h 146 40 = k) (hk : k < 20) (h43 : h 146 43 = M) (h41 : h 146 41 = o) (ho : o ≤ 7) : zi (zr none 4 184 207 [zm_A 146, w1, w2, w3] [] h) (fun z g => z = 0 ∧ zq_F (zf_Pz b) h g ∧ ((zy_sg T n (zy_en T n p) (zy_ng T n p gl) 40 = false ∧ g 146 8 = 1 ∧ g 146 9 = zy_bd T n (zy_en T n p) (zy_ng T n p gl)) ∨ (zy_sg T n (zy_en T n p) (zy_ng T n p gl) 40 = true ∧ ((o = 7 ∧ g 146 8 = 5 ∧ g 146 9 = zy_at T n (zy_en T n p)) ∨ (o < 7 ∧ zy_L g T n (zy_en T n (zy_en T n p)) (zy_ng T n (zy_en T n p) (zy_ng T n p gl)) b l ∧ g 146 41 = ((o + 1 : Nat) : Int) ∧ g 167 k = 3 ∧ g 168 k = 0 ∧ g 169 k = 1 ∧ g 170 k = x ∧ g 171 k = M ∧ g 146 40 = ((k + 1 : Nat) : Int) ∧ zq_F (fun a i => zf_Sr a i ∨ zf_Pu k a i ∨ (a = 146 ∧ i = 41) ∨ (a = 170 ∧ i = k)) h g))))) := by
  have t1 : zy_ty T n p gl = 1 := zy_ow_ty (by omega)
  have og := zy_en_gt (T := T) (g := gl) hp (by omega)
  have cont : ∀ h3 : zm_H, zq_F zf_Sr h h3 → zy_L h3 T n (zy_en T n p) (zy_ng T n p gl) b l → zt (zk_V (zc 163 [zm_A 146] h3) (fun h4 => zk_I (zc 187 [zm_A 146, zm_I 40] h4) (fun v5 h6 => if v5 = 0 then (zk_V (zc 164 [zm_A 146, zm_I 1, zm_I (h6 146 4)] h6) (fun h7 => zr none 4 184 251 [zm_A 146, w1, w2, zm_I x] [] h7)) else (zr none 4 184 251 [zm_A 146, w1, w2, zm_I x] [] h6)))) (fun v g => ∃ z, v = zm_I z ∧ (fun z g => z = 0 ∧ zq_F (zf_Pz b) h g ∧ ((zy_sg T n (zy_en T n p) (zy_ng T n p gl) 40 = false ∧ g 146 8 = 1 ∧ g 146 9 = zy_bd T n (zy_en T n p) (zy_ng T n p gl)) ∨ (zy_sg T n (zy_en T n p) (zy_ng T n p gl) 40 = true ∧ ((o = 7 ∧ g 146 8 = 5 ∧ g 146 9 = zy_at T n (zy_en T n p)) ∨ (o < 7 ∧ zy_L g T n (zy_en T n (zy_en T n p)) (zy_ng T n (zy_en T n p) (zy_ng T n p gl)) b l ∧ g 146 41 = ((o + 1 : Nat) : Int) ∧ g 167 k = 3 ∧ g 168 k = 0 ∧ g 169 k = 1 ∧ g 170 k = x ∧ g 171 k = M ∧ g 146 40 = ((k + 1 : Nat) : Int) ∧ zq_F (fun a i => zf_Sr a i ∨ zf_Pu k a i ∨ (a = 146 ∧ i = 41) ∨ (a = 170 ∧ i = k)) h g))))) z g) := by
    intro h3 f3 L3
    have f3p : zq_F (zf_Pz b) h h3 := zq_F_wk f3 (fun a i q => by unfold zf_Sr at q; unfold zf_Pz; omega)
    have fw : ∀ (g : zm_H) (u v : Int), zq_F (zf_Pz b) g (zm_wr (zm_wr g 146 8 u) 146 9 v) := fun g u v => zq_F_tr (zq_F_wr (Or.inl ⟨rfl, by omega⟩)) (zq_F_wr (Or.inl ⟨rfl, by omega⟩))
    have e8 : ∀ (g : zm_H) (u v : Int), zm_wr (zm_wr g 146 8 u) 146 9 v 146 8 = u := fun g u v => by rw [zq_wr_i (by decide), zq_wr_e]
    by_cases t4 : zy_ty T n (zy_en T n p) (zy_ng T n p gl) = 4
    · have ns : zy_sg T n (zy_en T n p) (zy_ng T n p gl) 40 = false := decide_eq_false (fun r => by have := r.1; omega)
      refine zt_V (s_163x L3.2.1 t4 L3.2.2.1) ?_
      rintro g rfl
      refine zt_I (s_187f 40) ?_
      rintro z g rfl
      refine zt_p (fun q => ?_) (fun q => ?_)
      · refine zt_V (s_164n 1 _ (by rw [e8]; decide)) ?_
        rintro g rfl
        exact zi_m (s_184_251f x (by rw [e8]; decide)) (fun z g q => by rw [q.2]; exact ⟨q.1, zq_F_tr f3p (fw _ _ _), Or.inl ⟨ns, e8 _ _ _, zq_wr_e⟩⟩)
      · exact zi_m (s_184_251f x (by rw [e8]; decide)) (fun z g q => by rw [q.2]; exact ⟨q.1, zq_F_tr f3p (fw _ _ _), Or.inl ⟨ns, e8 _ _ _, zq_wr_e⟩⟩)
    · refine zt_V (s_163 L3.2.1 t4) ?_
      rintro g rfl
      refine zt_I (s_187s L3.2.1 t4 40) ?_
      rintro z g ⟨rfl, rfl⟩
      by_cases q : zy_sg T n (zy_en T n p) (zy_ng T n p gl) 40 = true
      · rw [if_pos q]
        refine zt_f (by decide) (zi_m (s_184_251 (M := M) x L3 og.2 q (by rw [f3 146 40 (by unfold zf_Sr; omega)]; exact h40) hk (by rw [f3 146 43 (by unfold zf_Sr; omega)]; exact h43) (by rw [f3 146 41 (by unfold zf_Sr; omega)]; exact h41) ho) (fun z g r => ⟨r.1, zq_F_tr f3p r.2.1, Or.inr ⟨q, ?_⟩⟩))
        rcases r.2.2 with r | ⟨r1, r2, r3, r4, r5, r6, r7, r8, r9, r10⟩
        · exact Or.inl r
        · exact Or.inr ⟨r1, r2, r3, r4, r5, r6, r7, r8, r9, zq_F_tr (zq_F_wk f3 (fun a i q => Or.inl q)) r10⟩
      · have ns : zy_sg T n (zy_en T n p) (zy_ng T n p gl) 40 = false := by
          cases hs : zy_sg T n (zy_en T n p) (zy_ng T n p gl) 40 with
          | false => rfl
          | true => exact absurd hs q
        rw [if_neg q, L3.2.1.1]
        refine zt_t rfl (zt_V (s_164y 1 _ L3.2.2.1) ?_)
        rintro g rfl
        exact zi_m (s_184_251f x (by rw [e8]; decide)) (fun z g q => by rw [q.2]; exact ⟨q.1, zq_F_tr f3p (fw _ _ _), Or.inl ⟨ns, e8 _ _ _, by rw [zy_bd_at t4]; exact zq_wr_e⟩⟩)
  refine zt_l (e_184_207 hw2) (zt_I (s_165 (w := 23) hL.2.1 (by omega) (by decide) (by decide)) ?_)
  rintro z g ⟨rfl, rfl⟩
  rcases hx with ⟨e, rfl⟩ | ⟨e, rfl⟩
  · rw [if_pos (show zy_ow T n p gl = ((23 : Nat) : Int) from e)]
    refine zt_f (by decide) (zt_V (s_159L hL hp (by omega)) ?_)
    rintro g3 ⟨f3, L3⟩
    exact cont g3 f3 L3
  · rw [if_neg (show ¬ zy_ow T n p gl = ((23 : Nat) : Int) by omega)]
    refine zt_t rfl (zt_V (s_159L hL hp (by omega)) ?_)
    rintro g3 ⟨f3, L3⟩
    exact cont g3 f3 L3
end
