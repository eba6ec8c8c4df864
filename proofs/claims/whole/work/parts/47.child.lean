/-! CHILD of both sides -/
def zp_hw (K : Nat) (lk : Nat → Nat → Int) (Hd : Nat → Int) (c : Nat) : Int := zq_S K (fun k => Hd (8 * c + k) * lk c k)
def zp_child (K L : Nat) (re fe ru : Nat → Int) (lk : Nat → Nat → Int) (P Pu Hd : Nat → Int) (y : Int) (c : Nat) : Int := if y = 0 then re c else if y = 1 then fe c else if y = 2 then ru c else if y = 3 then Pu c else if y = 4 then zp_hb Hd c else if y = 5 then zp_hw K lk Hd c else if y = 6 then zq_S 8 (zp_cn L re P zp_id c) else -1
section
variable {h : zm_H} {t b K L C : Nat} {wo sz re fe ru : Nat → Int} {lk : Nat → Nat → Int} {P Pu Qu Hd : Nat → Int} {hr dp : Int}
theorem zp_hw_b (hB : zv_B K L C wo sz re fe ru lk) (hH : zv_H K C Hd) {c : Nat} (hc : c < C) {n : Nat} (hn : n ≤ K) : 0 ≤ zq_S n (fun k => Hd (8 * c + k) * lk c k) ∧ zq_S n (fun k => Hd (8 * c + k) * lk c k) ≤ 79200000 := by
  have hK8 := hB.1
  have hC8 := hB.2.2.1
  have := zq_S_le (n := n) (f := fun k => Hd (8 * c + k) * lk c k) (m := 9900000) (fun k hk => by
    have h1 := hH.1 (8 * c + k) (by omega)
    have h2 := hB.2.2.2.2.2 c k hc (by omega)
    refine ⟨Int.mul_nonneg h1.1 h2.1, ?_⟩
    have := Int.mul_le_mul h1.2 h2.2 h2.1 (by decide : (0 : Int) ≤ 100000)
    omega)
  have h8 : (n : Int) ≤ 8 := by omega
  omega
theorem s_151 {o c : Nat} (hT : zv_T h o P Pu Hd) (hH : ∀ i, i < 64 → 0 ≤ Hd i ∧ Hd i ≤ 100000) (hc : c < 8) : zi (zc 151 [zm_A o, zm_I c] h) (fun z g => z = zp_hb Hd c ∧ g = h) := by
  obtain ⟨ho, p1, p2, p3⟩ := hT
  refine zt_l (e_151 ho) (zt_c (by omega) (zt_c (by omega) (zt_c (by omega) ?_)))
  refine zt_I (s_145 (f := 8 * c) (n := 8) (zt_a3 ho) (by omega) (by omega) (by omega) (fun i hi => ?_) (by omega) (by omega)) ?_
  · rw [p3 _ (by omega)]; have := hH (8 * c + i) (by omega); omega
  · rintro z g ⟨rfl, rfl⟩
    refine zi_e ⟨zq_S_congr (fun i hi => p3 _ (by omega)), rfl⟩
theorem s_17 (hC : zv_C h t K L C wo sz re fe ru lk P Pu Hd hr dp) (hB : zv_B K L C wo sz re fe ru lk) (hH : zv_H K C Hd) {c : Nat} (hc : c < C) : zi (zc 17 [zm_A 4, zm_I c] h) (fun z g => z = zp_hw K lk Hd c ∧ g = h) := by
  have hK8 := hB.1
  have hC8 := hB.2.2.1
  have key : ∀ (n i : Nat), i + n = K → zi (zr none 2 17 4 [zm_A 4, zm_I c, zm_I (zq_S i (fun k => Hd (8 * c + k) * lk c k)), zm_I i] [] h) (fun z g => z = zp_hw K lk Hd c ∧ g = h) := by
    intro n
    induction n with
    | zero =>
      intro i hi
      refine zt_l (e_17_4 hC.2.1.1) (zt_c hC.1 ?_)
      rw [hC.2.1.2.1]
      exact zt_f (by omega) (zi_e ⟨by rw [show i = K by omega]; rfl, rfl⟩)
    | succ n ih =>
      intro i hi
      have b1 := zp_hw_b hB hH hc (n := i) (by omega)
      have b2 := zp_hw_b hB hH hc (n := i + 1) (by omega)
      simp only [zq_S] at b2
      have h1 := hH.1 (8 * c + i) (by omega)
      have h2 := hB.2.2.2.2.2 c i hc (by omega)
      have h3 := Int.mul_nonneg h1.1 h2.1
      have e := hC.2.2.1.2.2.2 (8 * c + i) (by omega)
      have e2 : (c : Int) * 8 + i = ((8 * c + i : Nat) : Int) := by omega
      refine zt_l (e_17_4 hC.2.1.1) (zt_c hC.1 ?_)
      rw [hC.2.1.2.1, e2]
      refine zt_t (by omega) (zt_c (by omega) (zt_c (by omega) (zt_c (by omega) (zt_c hC.1 (zt_I (s_64 hC.2.1 hB hc (by omega)) ?_)))))
      rintro z g ⟨rfl, rfl⟩
      rw [show g 35 ((8 * c + i : Nat) : Int) = Hd (8 * c + i) from e]
      exact zt_c (by omega) (zt_c (by omega) (zt_c (by omega) (ih (i + 1) (by omega))))
  exact zt_l e_17 (key K 0 (by omega))
theorem s_16 (hC : zv_C h t K L C wo sz re fe ru lk P Pu Hd hr dp) (hB : zv_B K L C wo sz re fe ru lk) (hX : zv_X K L C P Pu Hd hr dp) (x y : Int) : zi (zc 16 [zm_A 4, zm_I x, zm_I y] h) (fun z g => z = zp_q1 C x (zp_child K L re fe ru lk P Pu Hd y) ∧ zq_F zf_Cs h g) := by
  have hC8 := hB.2.2.1
  refine zt_l (e_16 hC.2.1.1) (zt_I (s_12 hC x) ?_)
  rintro z g ⟨rfl, rfl⟩
  by_cases hx : 0 ≤ x ∧ x < C
  · rw [if_pos hx]
    obtain ⟨c, rfl⟩ := Int.eq_ofNat_of_zero_le hx.1
    have hc : c < C := by omega
    have e := hC.2.1.2.2.2.2.2.1 c hc
    rw [zp_q1_y hc]
    unfold zp_child
    refine zt_f (by decide) (zt_p (fun q => ?_) (fun q => ?_))
    · rw [if_pos q]
      exact zt_c hC.1 (zt_c (by omega) (zi_e ⟨e.1, zq_F_rf⟩))
    rw [if_neg q]
    refine zt_p (fun q1 => ?_) (fun q1 => ?_)
    · rw [if_pos q1]
      exact zt_c hC.1 (zt_c (by omega) (zi_e ⟨e.2.1, zq_F_rf⟩))
    rw [if_neg q1]
    refine zt_p (fun q2 => ?_) (fun q2 => ?_)
    · rw [if_pos q2]
      exact zt_c hC.1 (zt_c (by omega) (zi_e ⟨e.2.2, zq_F_rf⟩))
    rw [if_neg q2]
    refine zt_p (fun q3 => ?_) (fun q3 => ?_)
    · rw [if_pos q3]
      exact zt_c (by omega) (zi_e ⟨hC.2.2.1.2.2.1 c (by omega), zq_F_rf⟩)
    rw [if_neg q3]
    refine zt_p (fun q4 => ?_) (fun q4 => ?_)
    · rw [if_pos q4]
      refine zt_I (s_151 hC.2.2.1 hX.2.1.1 (by omega)) ?_
      rintro z g2 ⟨rfl, rfl⟩
      exact zi_e ⟨rfl, zq_F_rf⟩
    rw [if_neg q4]
    refine zt_p (fun q5 => ?_) (fun q5 => ?_)
    · rw [if_pos q5]
      refine zt_I (s_17 hC hB hX.2.1 hc) ?_
      rintro z g2 ⟨rfl, rfl⟩
      exact zi_e ⟨rfl, zq_F_rf⟩
    rw [if_neg q5]
    refine zt_p (fun q6 => ?_) (fun q6 => ?_)
    · rw [if_pos q6]
      refine zt_V (s_18 hC hB hX hc) ?_
      rintro g2 ⟨f2, r2⟩
      exact zi_e ⟨r2.2.2.2.1, zf_Rs_Cs f2⟩
    rw [if_neg q6]
    exact zi_e ⟨rfl, zq_F_rf⟩
  · rw [if_neg hx]
    exact zt_t rfl (zi_e ⟨(zp_q1_n hx).symm, zq_F_rf⟩)
theorem s_222_117 {c : Nat} {w : zm_V} (hw : zm_cat w ≠ 2) (hD : zv_D h b K L C wo sz re fe ru lk P Pu Hd hr dp) (hB : zv_B K L C wo sz re fe ru lk) (hH : zv_H K C Hd) (hc : c < C) : zi (zr none 6 222 117 [zm_A 146, zm_I c, w, zm_I 0, zm_I 0] [] h) (fun z g => z = zp_hw K lk Hd c ∧ g = h) := by
  have hK8 := hB.1
  have hC8 := hB.2.2.1
  have hb := hD.1.1
  have key : ∀ (n i : Nat), i + n = K → zi (zr none 6 222 117 [zm_A 146, zm_I c, w, zm_I (zq_S i (fun k => Hd (8 * c + k) * lk c k)), zm_I i] [] h) (fun z g => z = zp_hw K lk Hd c ∧ g = h) := by
    intro n
    induction n with
    | zero =>
      intro i hi
      refine zt_l (e_222_117 hw) ?_
      rw [hD.1.2.1, hD.1.2.2.1]
      exact zt_c (by omega) (zt_f (by omega) (zi_e ⟨by rw [show i = K by omega]; rfl, rfl⟩))
    | succ n ih =>
      intro i hi
      have b1 := zp_hw_b hB hH hc (n := i) (by omega)
      have b2 := zp_hw_b hB hH hc (n := i + 1) (by omega)
      simp only [zq_S] at b2
      have h1 := hH.1 (8 * c + i) (by omega)
      have h2 := hB.2.2.2.2.2 c i hc (by omega)
      have h3 := Int.mul_nonneg h1.1 h2.1
      refine zt_l (e_222_117 hw) ?_
      rw [hD.1.2.1, hD.1.2.2.1]
      refine zt_c (by omega) (zt_t (by omega) (zt_I (s_215 (v := 0) (c := c) (k := i) hD.2.1 (by omega) (by omega)) ?_))
      rintro z g ⟨rfl, rfl⟩
      refine zt_I (s_224 hD.1 hB hc (by omega)) ?_
      rintro z g ⟨rfl, rfl⟩
      exact zt_c (by omega) (zt_c (by omega) (zt_c (by omega) (ih (i + 1) (by omega))))
  exact key K 0 (by omega)
theorem s_222 (hD : zv_D h b K L C wo sz re fe ru lk P Pu Hd hr dp) (hB : zv_B K L C wo sz re fe ru lk) (hX : zv_X K L C P Pu Hd hr dp) (x y : Int) : zi (zc 222 [zm_A 146, zm_I x, zm_I y] h) (fun z g => z = zp_q1 C x (zp_child K L re fe ru lk P Pu Hd y) ∧ zq_F zf_Ds h g) := by
  have hC8 := hB.2.2.1
  have hb := hD.1.1
  refine zt_l e_222 (zt_I (s_223 hD.1 x) ?_)
  rintro z g ⟨rfl, rfl⟩
  by_cases hx : 0 ≤ x ∧ x < C
  · rw [if_pos hx]
    obtain ⟨c, rfl⟩ := Int.eq_ofNat_of_zero_le hx.1
    have hc : c < C := by omega
    have e := hD.1.2.2.2.2.2.2.1 c hc (8 * (b : Int) + c) rfl
    rw [zp_q1_y hc]
    unfold zp_child
    refine zt_f (by decide) (zt_p (fun q => ?_) (fun q => ?_))
    · rw [if_pos q, hD.1.2.1]
      exact zt_c (by omega) (zt_c (by omega) (zt_c (by omega) (zi_e ⟨e.1, zq_F_rf⟩)))
    rw [if_neg q]
    refine zt_p (fun q1 => ?_) (fun q1 => ?_)
    · rw [if_pos q1, hD.1.2.1]
      exact zt_c (by omega) (zt_c (by omega) (zt_c (by omega) (zi_e ⟨e.2.1, zq_F_rf⟩)))
    rw [if_neg q1]
    refine zt_p (fun q2 => ?_) (fun q2 => ?_)
    · rw [if_pos q2, hD.1.2.1]
      exact zt_c (by omega) (zt_c (by omega) (zt_c (by omega) (zi_e ⟨e.2.2, zq_F_rf⟩)))
    rw [if_neg q2]
    refine zt_p (fun q3 => ?_) (fun q3 => ?_)
    · rw [if_pos q3]
      exact zt_c (by omega) (zi_e ⟨hD.2.1.2.2.1 c (by omega) c (by omega), zq_F_rf⟩)
    rw [if_neg q3]
    refine zt_p (fun q4 => ?_) (fun q4 => ?_)
    · rw [if_pos q4]
      refine zt_I (s_214 hD.1 hB hD.2.1 hX.2.1 hc) ?_
      rintro z g2 ⟨rfl, rfl⟩
      exact zi_e ⟨rfl, zq_F_rf⟩
    rw [if_neg q4]
    refine zt_p (fun q5 => ?_) (fun q5 => ?_)
    · rw [if_pos q5]
      exact zi_m (s_222_117 (zm_cat_I _) hD hB hX.2.1 hc) (fun z g q => ⟨q.1, by rw [q.2]; exact zq_F_rf⟩)
    rw [if_neg q5]
    refine zt_p (fun q6 => ?_) (fun q6 => ?_)
    · rw [if_pos q6]
      refine zt_V s_225 ?_
      rintro g1 ⟨f1, o1⟩
      have f1' : zq_F zf_Ds g g1 := zq_F_wk f1 (fun a i q => by unfold zf_Ds; omega)
      have hD1 := hD.kp f1'
      refine zt_V (s_226 (v := 0) zp_id_b (fun p hp => o1 p (by have := hB.2.1; omega)) hD1.1 hB hD1.2.1 hX.1 hc) ?_
      rintro g2 ⟨f2, s2⟩
      exact zi_e ⟨s2.1, zq_F_tr f1' (zf_Gs_Ds f2)⟩
    rw [if_neg q6]
    exact zi_e ⟨rfl, zq_F_rf⟩
  · rw [if_neg hx]
    exact zt_t rfl (zi_e ⟨(zp_q1_n hx).symm, zq_F_rf⟩)
end
