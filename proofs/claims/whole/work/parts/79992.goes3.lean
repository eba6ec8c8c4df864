/-! SUMS AND TESTS: the reference goes on: and, or, and the end of a frame -/
section
variable {h : zm_H} {T : Nat → Int} {n p b : Nat} {gl : Bool} {l : List Int} {k B o : Nat} {ts : List Int}
theorem zy_w_am (h1 : zy_ty T n p gl ≠ 3) : zy_am T n p gl = 0 := by
  refine Classical.byContradiction (fun hs => ?_)
  unfold zy_am at hs
  split at hs
  · exact h1 (zy_mu_ty hs)
  · next q => exact h1 (zy_ad_ty q)
theorem zy_w_cm (h1 : zy_ty T n p gl ≠ 3) : zy_cm T n p gl = 0 := Classical.byContradiction (fun hs => h1 (zy_cm_ty hs))
/-- past the signs of a comparison -/
theorem s_190_188n {x : Int} {w : zm_V} {R : Int → zm_H → Prop} (hL : zy_L h T n p gl b l) (ht4 : zy_ty T n p gl ≠ 4) (kk : k < 20) (hn : ¬ (x ≠ 0 ∧ h 168 k = 0 ∧ zy_cm T n p gl ≠ 0)) (c : zi (zr none 3 190 285 [zm_A 146, zm_I k, zm_I (h 167 k), zm_I x, w] [] h) R) : zi (zr none 3 190 188 [zm_A 146, zm_I k, zm_I (h 167 k), zm_I x, w] [] h) R := by
  refine zt_l e_190_188 (zt_p (fun _ => c) (fun q => zt_c (by omega) (zt_p (fun q2 => ?_) (fun _ => c))))
  have cm : ∀ d : Int, zy_sg T n p gl d = true → (d = 60 ∨ d = 62 ∨ d = 61) → False := by
    intro d hd e
    refine hn ⟨q, q2, ?_⟩
    have hd' := zy_sg_ty hd
    have nd : ∀ c : Int, c ≠ d → ¬ zy_sg T n p gl c = true := fun c hc r => hc ((zy_sg_ty r).2.symm.trans hd'.2)
    unfold zy_cm
    rcases e with rfl | rfl | rfl
    · rw [if_pos hd]; decide
    · rw [if_neg (nd 60 (by decide)), if_pos hd]; decide
    · rw [if_neg (nd 60 (by decide)), if_neg (nd 62 (by decide)), if_pos hd]; decide
  refine zt_I (s_187s hL.2.1 ht4 60) ?_
  rintro z g ⟨rfl, rfl⟩
  rw [if_neg (fun r => cm 60 r (by omega))]
  refine zt_t rfl (zt_I (s_187s hL.2.1 ht4 62) ?_)
  rintro z g ⟨rfl, rfl⟩
  rw [if_neg (fun r => cm 62 r (by omega))]
  refine zt_t rfl (zt_I (s_187s hL.2.1 ht4 61) ?_)
  rintro z g ⟨rfl, rfl⟩
  rw [if_neg (fun r => cm 61 r (by omega))]
  exact zt_t rfl c
/-- and, or -/
theorem s_190a (hG : zy_Go h T n p gl b l k B ts o) (hp : p ≤ n) (hph : h 168 k ≠ 0) (hk : zy_tk h k) (hw : zy_ow T n p gl = 19 ∨ zy_ow T n p gl = 20) (ho : zy_nots (if zy_ow T n p gl = 20 then 2 else 1) ts ≤ o) : zi (zc 190 [zm_A 146] h) (fun z g => z = 1 ∧ zy_Lg T n p gl b (l ++ zy_popd (if zy_ow T n p gl = 20 then 2 else 1) ts) k B (zy_rest (if zy_ow T n p gl = 20 then 2 else 1) ts) (if zy_ow T n p gl = 20 then 20 else 21) 0 1 (o - zy_nots (if zy_ow T n p gl = 20 then 2 else 1) ts) h g) := by
  have t1 := zy_ow_ty (T := T) (n := n) (p := p) (g := gl) (by omega)
  have ht4 : zy_ty T n p gl ≠ 4 := by omega
  have hL := hG.1
  have f8 := hL.2.2.1
  have kk := hG.2.2.2.2.2.1
  have hB := hG.2.2.2.2.2.2.2.2.1
  refine s_190h hG ht4 (fun _ q => absurd (zy_w_am (by omega)) q) (fun _ x hx => ?_)
  rw [if_pos hk] at hx
  subst hx
  refine s_190_188n hL ht4 kk (fun r => hph r.2.1) ?_
  have leaf : ∀ (m s : Int) (g1 : zm_H), (zq_F (zf_Jo b) h g1 ∧ zy_L g1 T n p gl b (l ++ zy_popd m ts) ∧ zy_ts g1 B (zy_rest m ts) ∧ g1 146 41 = ((o - zy_nots m ts : Nat) : Int)) → zi (zk_V (zc 186 [zm_A 146, zm_I s] g1) (fun h4 => zm_ck (0 ≤ (k : Int) ∧ (k : Int) < ((20 : Nat) : Int)) (zm_ck ((0 ≤ (k : Int) ∧ (k : Int) < ((20 : Nat) : Int)) ∧ zm_bit 1) (zk_V (zc 159 [zm_A 146] (zm_wr (zm_wr h4 168 k 0) 169 k 1)) (fun h5 => zm_ck (zm_bit 0) (zm_ck (zm_bit 1) (some (zm_I 1, (zm_wr h5 146 44 0))))))))) (fun z g => z = 1 ∧ zy_Lg T n p gl b (l ++ zy_popd m ts) k B (zy_rest m ts) s 0 1 (o - zy_nots m ts) h g) := by
    rintro m s g1 ⟨fJ, L1, ts1, e41⟩
    refine zt_V (s_186 (m := B + (zy_rest m ts).length) s ts1.1 (by have := zy_rest_le (m := m) ts; omega)) ?_
    intro g2 hg2
    exact zt_c (by omega) (zt_c ⟨by omega, Or.inr rfl⟩ (zi_m (s_190_l (ph := 0) (bg := 1) L1 hp (by omega) ts1 hg2 (zq_F_tr (zq_F_wr ⟨Or.inl rfl, rfl⟩) (zq_F_wr ⟨Or.inr rfl, rfl⟩)) (by rw [zq_wr_n (by decide), zq_wr_e]) zq_wr_e) (fun z g r => ⟨r.1, zy_Lg_of (p1 := 0) (gl1 := false) fJ e41 r.2⟩)))
  have run : zi (zr none 3 190 309 [zm_A 146, zm_I k, zm_I (h 167 k), zm_I 1, zm_U] [] h) (fun z g => z = 1 ∧ zy_Lg T n p gl b (l ++ zy_popd (if zy_ow T n p gl = 20 then 2 else 1) ts) k B (zy_rest (if zy_ow T n p gl = 20 then 2 else 1) ts) (if zy_ow T n p gl = 20 then 20 else 21) 0 1 (o - zy_nots (if zy_ow T n p gl = 20 then 2 else 1) ts) h g) := by
    refine zt_l e_190_309 (zt_c (by omega) (zt_f hph (zt_l (e_190_327 (by decide)) (zt_t (by omega) (zt_I (s_165 (w := 20) hL.2.1 ht4 (by decide) (by decide)) ?_)))))
    rintro z g ⟨rfl, rfl⟩
    by_cases w : zy_ow T n p gl = ((20 : Nat) : Int)
    · have w' : zy_ow T n p gl = 20 := w
      rw [if_pos w]
      rw [if_pos w'] at ho
      rw [if_pos w', if_pos w']
      refine zt_f (by decide) (zt_V (hG.jo 2 ho) ?_)
      intro g1 r
      exact zt_f (by decide) (leaf 2 20 g1 r)
    · have w' : ¬ zy_ow T n p gl = 20 := w
      rw [if_neg w]
      rw [if_neg w'] at ho
      rw [if_neg w', if_neg w']
      refine zt_t rfl (zt_V (hG.jo 1 ho) ?_)
      intro g1 r
      exact zt_t rfl (leaf 1 21 g1 r)
  refine zt_l e_190_285 (zt_f (by decide) (zt_I (s_165 (w := 20) hL.2.1 ht4 (by decide) (by decide)) ?_))
  rintro z g ⟨rfl, rfl⟩
  by_cases w : zy_ow T n p gl = ((20 : Nat) : Int)
  · rw [if_pos w]; exact zt_f (by decide) run
  rw [if_neg w]
  refine zt_t rfl (zt_I (s_165 (w := 19) hL.2.1 ht4 (by decide) (by decide)) ?_)
  rintro z g ⟨rfl, rfl⟩
  rw [if_pos (show zy_ow T n p gl = ((19 : Nat) : Int) by omega)]
  exact zt_f (by decide) run
/-- a fault told: the rest tells nothing -/
theorem s_190_422f {x : Int} {w3 : zm_V} {w4 : zm_V} (f8 : 0 < h 146 8) : zi (zr none 3 190 422 [zm_A 146, zm_I k, zm_I x, w3, w4] [] h) (fun z g => z = 0 ∧ g = h) := by
  have f524 : zi (zr none 3 190 524 [zm_A 146, zm_I k, zm_I x, w3, w4] [] h) (fun z g => z = 0 ∧ g = h) := zt_l e_190_524 (zt_f (by omega) (zt_c (Or.inl rfl) (zi_e ⟨rfl, rfl⟩)))
  have f464 : zi (zr none 3 190 464 [zm_A 146, zm_I k, zm_I x, w3, w4] [] h) (fun z g => z = 0 ∧ g = h) := zt_l e_190_464 (zt_f (by omega) (zt_c (Or.inl rfl) (zi_e ⟨rfl, rfl⟩)))
  have bl : ∀ (y : Nat) (a : Int), zi (zr none 3 190 y [zm_A 146, zm_I k, zm_I x, w3, w4] [] h) (fun z g => z = 0 ∧ g = h) → zi (zk_V (zc 164 [zm_A 146, zm_I 1, zm_I a] h) (fun h4 => zr none 3 190 y [zm_A 146, zm_I k, zm_I x, w3, w4] [] h4)) (fun z g => z = 0 ∧ g = h) := by
    intro y a c
    refine zt_V (s_164n 1 a f8) ?_
    rintro g rfl
    exact c
  refine zt_l e_190_422 (zt_p (fun _ => zt_f (by omega) (zt_c (Or.inl rfl) (zi_e ⟨rfl, rfl⟩))) (fun _ => zt_p (fun _ => ?_) (fun _ => zt_p (fun _ => ?_) (fun _ => ?_))))
  · refine zt_I (s_187f 44) ?_
    rintro z g rfl
    exact zt_p (fun _ => bl 464 _ f464) (fun _ => f464)
  · refine zt_I (s_187f 93) ?_
    rintro z g rfl
    exact zt_p (fun _ => bl 524 _ f524) (fun _ => f524)
  · refine zt_I (s_187f 41) ?_
    rintro z g rfl
    exact zt_p (fun _ => bl 524 _ f524) (fun _ => f524)
/-- a test without a comparison: FAULT 1 -/
theorem s_190f (hG : zy_Go h T n p gl b l k B ts o) (ht4 : zy_ty T n p gl ≠ 4) (hph : h 168 k = 0) (hk : zy_tk h k) (ham : zy_am T n p gl = 0) (hcm : zy_cm T n p gl = 0) : zi (zc 190 [zm_A 146] h) (fun z g => z = 0 ∧ g = zm_wr (zm_wr h 146 8 1) 146 9 (zy_at T n p)) := by
  have hL := hG.1
  have f8 := hL.2.2.1
  have kk := hG.2.2.2.2.2.1
  have e8 : zm_wr (zm_wr h 146 8 1) 146 9 (zy_at T n p) 146 8 = 1 := by rw [zq_wr_i (by decide), zq_wr_e]
  have e4 := hL.2.1.1
  refine s_190h hG ht4 (fun _ q => absurd ham q) (fun _ x hx => ?_)
  rw [if_pos hk] at hx
  subst hx
  refine s_190_188n hL ht4 kk (fun r => r.2.2 hcm) ?_
  have r309 : zi (zr none 3 190 309 [zm_A 146, zm_I k, zm_I (h 167 k), zm_I 1, zm_U] [] h) (fun z g => z = 0 ∧ g = zm_wr (zm_wr h 146 8 1) 146 9 (zy_at T n p)) := by
    refine zt_l e_190_309 (zt_c (by omega) (zt_t hph ?_))
    rw [e4]
    refine zt_V (s_164y 1 _ f8) ?_
    rintro g rfl
    exact zt_l (e_190_327 (by decide)) (zt_f (by rw [e8]; decide) (zt_c (Or.inl rfl) (zi_e ⟨rfl, rfl⟩)))
  have r400 : zi (zr none 3 190 400 [zm_A 146, zm_I k, zm_I (h 167 k), zm_I 1, zm_U] [] h) (fun z g => z = 0 ∧ g = zm_wr (zm_wr h 146 8 1) 146 9 (zy_at T n p)) := by
    refine zt_l e_190_400 (zt_f (by decide) (zt_c (by omega) (zt_t hph ?_)))
    rw [e4]
    refine zt_V (s_164y 1 _ f8) ?_
    rintro g rfl
    exact s_190_422f (by rw [e8]; decide)
  refine zt_l e_190_285 (zt_f (by decide) (zt_I (s_165 (w := 20) hL.2.1 ht4 (by decide) (by decide)) ?_))
  rintro z g ⟨rfl, rfl⟩
  refine zt_p (fun _ => ?_) (fun _ => r309)
  refine zt_I (s_165 (w := 19) hL.2.1 ht4 (by decide) (by decide)) ?_
  rintro z g ⟨rfl, rfl⟩
  exact zt_p (fun _ => r400) (fun _ => r309)
/-- to the end of a frame -/
theorem s_190t {R : Int → zm_H → Prop} (hG : zy_Go h T n p gl b l k B ts o) (ht4 : zy_ty T n p gl ≠ 4) (ham : ¬ h 168 k < 2 ∨ zy_am T n p gl = 0) (hk : zy_tk h k → h 168 k ≠ 0 ∧ zy_ow T n p gl ≠ 19 ∧ zy_ow T n p gl ≠ 20) (c : ∀ x : Int, zi (zr none 3 190 422 [zm_A 146, zm_I k, zm_I (h 167 k), zm_I x, zm_U] [] h) R) : zi (zc 190 [zm_A 146] h) R := by
  have hL := hG.1
  have kk := hG.2.2.2.2.2.1
  refine s_190h hG ht4 (fun q1 q2 => ham.elim (fun r => absurd q1 r) (fun r => absurd r q2)) (fun _ x hx => ?_)
  by_cases q : zy_tk h k
  · rw [if_pos q] at hx
    subst hx
    have hq := hk q
    refine s_190_188n hL ht4 kk (fun r => hq.1 r.2.1) ?_
    refine zt_l e_190_285 (zt_f (by decide) (zt_I (s_165 (w := 20) hL.2.1 ht4 (by decide) (by decide)) ?_))
    rintro z g ⟨rfl, rfl⟩
    rw [if_neg (show ¬ zy_ow T n p gl = ((20 : Nat) : Int) from hq.2.2)]
    refine zt_t rfl (zt_I (s_165 (w := 19) hL.2.1 ht4 (by decide) (by decide)) ?_)
    rintro z g ⟨rfl, rfl⟩
    rw [if_neg (show ¬ zy_ow T n p gl = ((19 : Nat) : Int) from hq.2.1)]
    exact zt_t rfl (zt_l e_190_400 (zt_f (by decide) (zt_c (by omega) (zt_f hq.1 (c 1)))))
  · rw [if_neg q] at hx
    subst hx
    refine s_190_188n hL ht4 kk (fun r => r.1 rfl) (zt_l e_190_285 (zt_t rfl (zt_l e_190_400 (zt_t rfl (c 0)))))
end
