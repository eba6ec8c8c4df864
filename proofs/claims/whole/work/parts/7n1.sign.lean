/-! the reference's sign is END at the end alone -/
section
variable {h : zm_H} {T : Nat → Int} {n b : Nat}
theorem zu_and {x : Option (zm_V × zm_H)} {Q1 Q2 : zm_H → Prop} (h1 : zu x Q1) (h2 : zu x Q2) : zu x (fun g => Q1 g ∧ Q2 g) := by
  obtain ⟨v, g, e, rfl, q⟩ := h1
  obtain ⟨v', g', e', rfl, q'⟩ := h2
  rw [e] at e'
  cases e'
  exact ⟨_, g, e, rfl, q, q'⟩
theorem s_159_3 {q : Nat} (hT : zy_RT h T n) (hq : q ≤ n) (h5 : h 146 5 = q) : zu (zc 159 [zm_A 146] h) (fun g => g 146 3 = 0 → n ≤ zy_at T n q) := by
  have hn16 := hT.1
  obtain ⟨a, ha⟩ : ∃ a, a = zy_at T n q := ⟨_, rfl⟩
  have han : a ≤ n := by rw [ha]; exact (zy_sk_le T n (n - q) q).2 hq
  rw [← ha]
  have wl : ∀ (k : zm_H) (w4 w5 : zm_V), a < n → zq_F zf_Sr h k → (k 146 12 = -1 ∨ k 146 12 = a) → k 146 7 = 0 → zu (zr none 2 159 176 [zm_A 146, zm_I a, zm_I 1, zm_I 0, w4, w5] [] k) (fun g => g 146 3 = 0 → n ≤ a) := by
    intro k w4 w5 hna fk k12 k7
    have hTk := hT.kp fk
    have f3 : zq_F zf_Sr k (zm_wr k 146 3 1) := zq_F_wr ⟨rfl, by omega⟩
    refine zt_l e_159_176 (zt_f (by decide) (zt_f (by decide) (zu_m (s_159_L (lx := k 146 12) (hTk.kp f3) hna k12 (by rw [zq_wr_i (by decide)]; exact k7) (by rw [zq_wr_i (by decide)])) (fun g r => ?_))))
    intro e
    rw [r.1 146 3 (by omega), zq_wr_e] at e
    exact absurd e (by decide)
  have wd : ∀ (k : zm_H) (w4 w5 : zm_V), a < n → zq_F zf_Sr h k → (k 146 12 = -1 ∨ k 146 12 = a) → k 146 6 = 0 → zu (zr none 2 159 176 [zm_A 146, zm_I a, zm_I 0, zm_I 1, w4, w5] [] k) (fun g => g 146 3 = 0 → n ≤ a) := by
    intro k w4 w5 hna fk k12 k6
    have hTk := hT.kp fk
    have f3 : zq_F zf_Sr k (zm_wr k 146 3 2) := zq_F_wr ⟨rfl, by omega⟩
    refine zt_l e_159_176 (zt_t rfl (zt_t rfl (zu_m (s_159_D (lx := k 146 12) (hTk.kp f3) hna k12 (by rw [zq_wr_i (by decide)]; exact k6) (by rw [zq_wr_i (by decide)])) (fun g r => ?_))))
    intro e
    rw [r.1 146 3 (by omega), zq_wr_e] at e
    exact absurd e (by decide)
  have c135 : ∀ (k : zm_H) (w4 w5 : zm_V), a < n → zq_F zf_Sr h k → (k 146 12 = -1 ∨ k 146 12 = a) → zu (zr none 2 159 135 [zm_A 146, zm_I a, zm_I (if 97 ≤ T a ∧ T a ≤ 122 then 1 else 0), zm_I (if 48 ≤ T a ∧ T a ≤ 57 then 1 else 0), w4, w5] [] k) (fun g => g 146 3 = 0 → n ≤ a) := by
    intro k w4 w5 hna fk k12
    refine zt_l e_159_135 (zt_c (by omega) ?_)
    generalize hk1 : zm_wr (zm_wr (zm_wr (zm_wr k 146 6 0) 146 7 0) 146 3 3) 146 5 ((a : Int) + 1) = k1
    have f1 : zq_F zf_Sr h k1 := by
      rw [← hk1]
      exact zq_F_tr fk (zq_F_tr (zq_F_wr ⟨rfl, by omega⟩) (zq_F_tr (zq_F_wr ⟨rfl, by omega⟩) (zq_F_tr (zq_F_wr ⟨rfl, by omega⟩) (zq_F_wr ⟨rfl, by omega⟩))))
    have g12 : k1 146 12 = k 146 12 := by rw [← hk1, zq_wr_i (by decide), zq_wr_i (by decide), zq_wr_i (by decide), zq_wr_i (by decide)]
    have g6 : k1 146 6 = 0 := by rw [← hk1, zq_wr_i (by decide), zq_wr_i (by decide), zq_wr_i (by decide), zq_wr_e]
    have g7 : k1 146 7 = 0 := by rw [← hk1, zq_wr_i (by decide), zq_wr_i (by decide), zq_wr_e]
    have g3 : k1 146 3 = 3 := by rw [← hk1, zq_wr_i (by decide), zq_wr_e]
    clear hk1
    rw [← g12] at k12
    by_cases hl : 97 ≤ T a ∧ T a ≤ 122
    · have hd : ¬ (48 ≤ T a ∧ T a ≤ 57) := by omega
      rw [if_pos hl, if_neg hd]
      exact zt_f (by decide) (wl k1 w4 w5 hna f1 k12 g7)
    · rw [if_neg hl]
      refine zt_t rfl ?_
      by_cases hd : 48 ≤ T a ∧ T a ≤ 57
      · rw [if_pos hd]
        exact zt_f (by decide) (wd k1 w4 w5 hna f1 k12 g6)
      · rw [if_neg hd]
        refine zt_t rfl (zt_c (by omega) (zu_e (fun e => ?_)))
        rw [zq_wr_i (by decide), g3] at e
        exact absurd e (by decide)
  have c98 : ∀ (k : zm_H) (w4 w5 : zm_V), a < n → zq_F zf_Sr h k → k 146 12 = -1 → zu (zr none 2 159 98 [zm_A 146, zm_I a, zm_I (if 97 ≤ T a ∧ T a ≤ 122 then 1 else 0), zm_I (if 48 ≤ T a ∧ T a ≤ 57 then 1 else 0), w4, w5] [] k) (fun g => g 146 3 = 0 → n ≤ a) := by
    intro k w4 w5 hna fk k12
    have hTk := hT.kp fk
    have no := c135 k w4 w5 hna fk (Or.inl k12)
    have yes : zu (zr none 2 159 130 [zm_A 146, zm_I a, zm_I (if 97 ≤ T a ∧ T a ≤ 122 then 1 else 0), zm_I (if 48 ≤ T a ∧ T a ≤ 57 then 1 else 0), w4, w5] [] k) (fun g => g 146 3 = 0 → n ≤ a) :=
      zt_l e_159_130 (c135 _ w4 w5 hna (zq_F_tr fk (zq_F_wr ⟨rfl, by omega⟩)) (Or.inr zq_wr_e))
    refine zt_l e_159_98 (zt_p (fun c0 => no) (fun c0 => ?_))
    have p1 : (a : Int) - 1 = ((a - 1 : Nat) : Int) := by omega
    rw [p1, hTk.2.2.2 (a - 1) (by omega)]
    refine zt_c (by omega) (zt_c (by omega) (zt_I (s_160 _) ?_))
    rintro z g ⟨rfl, rfl⟩
    refine zt_p (fun _ => zt_c (by omega) (zt_c (by omega) ?_)) (fun _ => yes)
    rw [hTk.2.2.2 (a - 1) (by omega)]
    refine zt_I (s_161 _) ?_
    rintro z g ⟨rfl, rfl⟩
    exact zt_p (fun _ => no) (fun _ => yes)
  have c41 : ∀ (w2 w3 w4 w5 : zm_V), zu (zr none 2 159 41 [zm_A 146, zm_I a, w2, w3, w4, w5] [] h) (fun g => g 146 3 = 0 → n ≤ a) := by
    intro w2 w3 w4 w5
    refine zt_l e_159_41 ?_
    generalize hk1 : zm_wr (zm_wr (zm_wr (zm_wr h 146 4 (a : Int)) 146 5 (a : Int)) 146 3 0) 146 12 (-1) = k1
    have f1 : zq_F zf_Sr h k1 := by
      rw [← hk1]
      exact zq_F_tr (zq_F_wr ⟨rfl, by omega⟩) (zq_F_tr (zq_F_wr ⟨rfl, by omega⟩) (zq_F_tr (zq_F_wr ⟨rfl, by omega⟩) (zq_F_wr ⟨rfl, by omega⟩)))
    have g12 : k1 146 12 = -1 := by rw [← hk1, zq_wr_e]
    clear hk1
    have hT1 := hT.kp f1
    rw [hT1.2.2.1]
    refine zt_p (fun c0 => ?_) (fun c0 => zu_e (fun _ => by omega))
    have hna : a < n := by omega
    rw [hT1.2.2.2 a hna]
    refine zt_c (by omega) (zt_I (s_160 _) ?_)
    rintro z g ⟨rfl, rfl⟩
    rw [hT1.2.2.2 a hna]
    refine zt_c (by omega) (zt_I (s_161 _) ?_)
    rintro z g ⟨rfl, rfl⟩
    exact zt_p (fun c1 => zt_p (fun c2 => c135 _ w4 w5 hna f1 (Or.inl g12)) (fun c2 => c98 _ w4 w5 hna f1 g12)) (fun c1 => c98 _ w4 w5 hna f1 g12)
  have skip : ∀ (m p : Nat) (w2 w3 w4 w5 : zm_V), p + m = n → zy_sk T n m p = a → zu (zr none 2 159 5 [zm_A 146, zm_I p, w2, w3, w4, w5] [] h) (fun g => g 146 3 = 0 → n ≤ a) := by
    intro m
    induction m with
    | zero =>
      intro p w2 w3 w4 w5 hp hs
      obtain rfl : p = a := hs
      refine zt_l e_159_5 ?_
      rw [hT.2.2.1]
      exact zt_f (by omega) (c41 w2 w3 w4 w5)
    | succ m ih =>
      intro p w2 w3 w4 w5 hp hs
      unfold zy_sk at hs
      refine zt_l e_159_5 ?_
      rw [hT.2.2.1, hT.2.2.2 p (by omega), show (p : Int) + 1 = ((p + 1 : Nat) : Int) by omega]
      refine zt_t (by omega) (zt_c (by omega) (zt_p (fun c1 => ?_) (fun c1 => zt_c (by omega) (zt_p (fun c2 => ?_) (fun c2 => ?_)))))
      · rw [if_pos ⟨by omega, Or.inr c1⟩] at hs
        exact zt_c (by omega) (ih (p + 1) w2 w3 w4 w5 (by omega) hs)
      · rw [if_pos ⟨by omega, Or.inl c2⟩] at hs
        exact zt_c (by omega) (ih (p + 1) w2 w3 w4 w5 (by omega) hs)
      · rw [if_neg (fun s => s.2.elim c2 c1)] at hs
        subst hs
        exact c41 w2 w3 w4 w5
  refine zt_l e_159 ?_
  rw [h5]
  exact skip (n - q) q _ _ _ _ (by omega) ha.symm
/-- a sign passed, and what the sign behind it is -/
theorem s_196x {p : Nat} {g : Bool} (hv : zw_lv h T n b (.inr (p, g))) (c : Int) : zu (zc 196 [zm_A 146, zm_I c] h) (fun g2 => zw_P h T n b (zw_sgn T n c p g) g2 ∧ ∀ p2 g3, zw_sgn T n c p g = .inr (p2, g3) → g2 146 3 = 0 → n ≤ zy_at T n p2) := by
  have base : zu (zc 196 [zm_A 146, zm_I c] h) (fun g2 => zw_P h T n b (zw_sgn T n c p g) g2) := s_196 hv c
  by_cases q : zy_sg T n p g c = true
  · have L := hv.live
    have t3 := (zy_sg_ty q).1
    have e : zw_sgn T n c p g = zw_go T n p g := by unfold zw_sgn; rw [if_pos q]
    have on := zy_gl_n (T := T) (g := g) L.2.1 (by omega)
    refine zu_and base ?_
    refine zt_l e_196 (zt_V (s_163 L.2.2 (by omega)) ?_)
    rintro g2 rfl
    refine zt_I (s_187s L.2.2 (by omega) c) ?_
    rintro z g3 ⟨rfl, rfl⟩
    rw [if_pos q]
    refine zt_f (by decide) (zt_t L.1 (zt_V (s_159_3 hv.1 on.2 (L.2.2.2.2.1 (by omega)).2.2) (fun g4 r => zu_e (fun p2 g5 e2 => ?_))))
    rw [e] at e2
    cases e2
    exact r
  · refine zu_m base (fun g2 r => ⟨r, fun p2 g3 e => ?_⟩)
    unfold zw_sgn at e
    rw [if_neg q] at e
    cases e
end
