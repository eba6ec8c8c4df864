/-! STATEMENTS: one as a whole, the class -/
def zw_lS : zw_T → zw_S
  | .inl e => .inl e
  | .inr (p, g, _) => .inr (p, g)
def zw_tF : zw_T → Nat → Int
  | .inl _ => fun _ => 0
  | .inr (_, _, F) => F
section
variable {h g : zm_H} {T : Nat → Int} {n p p' b pf K L C cf ct qf qt : Nat} {gl g' : Bool} {wo sz re fe ru : Nat → Int} {lk : Nat → Nat → Int} {nk nc : Nat → List Nat} {F F0 : Nat → Int} {pu : Int} {l : List Int} {q : Nat × Bool} {o : zw_S}
theorem zw_kd_v (e : zw_kd T n K C nk nc p gl = .inr q) : (0 ≤ zy_nu T n (zy_en T n (zy_en T n p)) ∧ zy_nu T n (zy_en T n (zy_en T n p)) ≤ 99) ∧ (1 ≤ zy_nu T n (zy_en T n (zy_en T n (zy_en T n (zy_en T n p)))) ∧ zy_nu T n (zy_en T n (zy_en T n (zy_en T n (zy_en T n p)))) ≤ 9) ∧ zp_nm (zy_ls T n p) := by
  unfold zw_kd at e
  obtain ⟨p5, g5', E5, X5⟩ := zw_th_r e
  obtain ⟨p4, g4', E4, X4⟩ := zw_th_r E5
  obtain ⟨p3, g3', E3, X3⟩ := zw_th_r E4
  obtain ⟨p2, g2', E2, X2⟩ := zw_th_r E3
  have Y2 := (zw_new_r E2)
  have Y3 := (zw_own_r X2).2
  have Y4 := (zw_num_r X3)
  have Y5 := (zw_own_r X4).2
  have Y6 := (zw_num_r X5)
  obtain ⟨n2, c2⟩ := Y2
  obtain ⟨_, v4, c4⟩ := Y4
  obtain ⟨_, v6, c6⟩ := Y6
  cases c2
  cases Y3
  cases c4
  cases Y5
  exact ⟨v4, v6, zy_ls_nm n2.1⟩
theorem zw_ch_v (e : zw_ch T n K C nk nc p gl = .inr q) : (1 ≤ zy_nu T n (zy_en T n (zy_en T n p)) ∧ zy_nu T n (zy_en T n (zy_en T n p)) ≤ 5) ∧ (0 ≤ zy_nu T n (zy_en T n (zy_en T n (zy_en T n (zy_en T n p)))) ∧ zy_nu T n (zy_en T n (zy_en T n (zy_en T n (zy_en T n p)))) ≤ 3) ∧ (0 ≤ zw_rv T n (zy_en T n (zy_en T n (zy_en T n (zy_en T n (zy_en T n p))))) ∧ zw_rv T n (zy_en T n (zy_en T n (zy_en T n (zy_en T n (zy_en T n p))))) ≤ 3) ∧ zp_nm (zy_ls T n p) := by
  unfold zw_ch at e
  obtain ⟨p6, g6', E6, X6⟩ := zw_th_r e
  obtain ⟨p5, g5', E5, X5⟩ := zw_th_r E6
  obtain ⟨p4, g4', E4, X4⟩ := zw_th_r E5
  obtain ⟨p3, g3', E3, X3⟩ := zw_th_r E4
  obtain ⟨p2, g2', E2, X2⟩ := zw_th_r E3
  have Y2 := (zw_new_r E2)
  have Y3 := (zw_own_r X2).2
  have Y4 := (zw_num_r X3)
  have Y5 := (zw_own_r X4).2
  have Y6 := (zw_num_r X5)
  have Y7 := (zw_rul_r X6)
  obtain ⟨n2, c2⟩ := Y2
  obtain ⟨_, v4, c4⟩ := Y4
  obtain ⟨_, v6, c6⟩ := Y6
  obtain ⟨v7, c7⟩ := Y7
  cases c2
  cases Y3
  cases c4
  cases Y5
  cases c6
  refine ⟨v4, v6, ?_, zy_ls_nm n2.1⟩
  rw [zw_rv_ow (show zy_ow T n _ _ ≠ -1 from fun e => by rw [e] at v7; omega)]
  omega
theorem zw_li_v (e : zw_li T n K C nk nc p gl = .inr q) : 0 ≤ zy_nu T n (zy_en T n (zy_en T n p)) ∧ zy_nu T n (zy_en T n (zy_en T n p)) ≤ 99 := by
  unfold zw_li at e
  obtain ⟨p5, g5', E5, X5⟩ := zw_th_r e
  obtain ⟨p4, g4', E4, X4⟩ := zw_th_r E5
  obtain ⟨p3, g3', E3, X3⟩ := zw_th_r E4
  obtain ⟨p2, g2', E2, X2⟩ := zw_th_r E3
  obtain ⟨_, _, c2⟩ := zw_lk_r E2
  cases c2
  cases X2
  obtain ⟨_, _, c4⟩ := zw_lk_r X3
  cases c4
  cases X4
  exact (zw_num_r X5).2.1
/-- one too many -/
def zw_ma (K L C ct qt : Nat) (w : Int) : Prop := (w = 0 ∧ K = 8) ∨ (w = 3 ∧ L = 5) ∨ (w = 4 ∧ C = 8) ∨ (w = 12 ∧ 0 < ct) ∨ (w = 13 ∧ 0 < qt)
abbrev zw_sw (w : Int) : Prop := w = 0 ∨ w = 3 ∨ w = 4 ∨ w = 11 ∨ w = 12 ∨ w = 13 ∨ w = 14
theorem s_77 (hpf : zf_F pf) (hK : h 29 1 = pf) (hD : zw_CD h pf K L C wo sz re fe ru lk nk nc F pu l cf ct qf qt) (w : Int) : zi (zc 77 [zm_A 29, zm_I w] h) (fun z g => ((zw_ma K L C ct qt w ∧ z = 1) ∨ (¬ zw_ma K L C ct qt w ∧ z = 0)) ∧ g = h) := by
  have d1 := hD.1.2.1
  have d2 := hD.1.2.2.1
  have d3 := hD.1.2.2.2.1
  have d4 := hD.2.2.2.2.2.1.2.1
  have d5 := hD.2.2.2.2.2.1.2.2.2
  unfold zw_ma
  refine zt_l (e_77 hpf) ?_
  rw [d1, d2, d3, d4, d5]
  refine zt_p (fun q0 => zt_c hK (zt_p (fun r => zt_c (Or.inr rfl) (zi_e ⟨Or.inl ⟨by omega, rfl⟩, rfl⟩)) (fun r => zt_c (Or.inl rfl) (zi_e ⟨Or.inr ⟨by omega, rfl⟩, rfl⟩)))) (fun q0 => ?_)
  refine zt_p (fun q1 => zt_c (Or.inl rfl) (zi_e ⟨Or.inr ⟨by omega, rfl⟩, rfl⟩)) (fun q1 => ?_)
  refine zt_p (fun q2 => zt_c (Or.inl rfl) (zi_e ⟨Or.inr ⟨by omega, rfl⟩, rfl⟩)) (fun q2 => ?_)
  refine zt_p (fun q3 => zt_c hK (zt_p (fun r => zt_c (Or.inr rfl) (zi_e ⟨Or.inl ⟨by omega, rfl⟩, rfl⟩)) (fun r => zt_c (Or.inl rfl) (zi_e ⟨Or.inr ⟨by omega, rfl⟩, rfl⟩)))) (fun q3 => ?_)
  refine zt_p (fun q4 => zt_c hK (zt_p (fun r => zt_c (Or.inr rfl) (zi_e ⟨Or.inl ⟨by omega, rfl⟩, rfl⟩)) (fun r => zt_c (Or.inl rfl) (zi_e ⟨Or.inr ⟨by omega, rfl⟩, rfl⟩)))) (fun q4 => ?_)
  refine zt_p (fun q5 => zt_c (Or.inl rfl) (zi_e ⟨Or.inr ⟨by omega, rfl⟩, rfl⟩)) (fun q5 => ?_)
  refine zt_p (fun q6 => zt_c (Or.inl rfl) (zi_e ⟨Or.inr ⟨by omega, rfl⟩, rfl⟩)) (fun q6 => ?_)
  refine zt_p (fun q7 => zt_c (Or.inl rfl) (zi_e ⟨Or.inr ⟨by omega, rfl⟩, rfl⟩)) (fun q7 => ?_)
  refine zt_p (fun q8 => zt_c (Or.inl rfl) (zi_e ⟨Or.inr ⟨by omega, rfl⟩, rfl⟩)) (fun q8 => ?_)
  refine zt_p (fun q9 => zt_c (Or.inl rfl) (zi_e ⟨Or.inr ⟨by omega, rfl⟩, rfl⟩)) (fun q9 => ?_)
  refine zt_p (fun q10 => zt_c (Or.inl rfl) (zi_e ⟨Or.inr ⟨by omega, rfl⟩, rfl⟩)) (fun q10 => ?_)
  refine zt_p (fun q11 => zt_c (Or.inl rfl) (zi_e ⟨Or.inr ⟨by omega, rfl⟩, rfl⟩)) (fun q11 => ?_)
  refine zt_p (fun q12 => zt_c hK (zt_p (fun r => zt_c (Or.inl rfl) (zi_e ⟨Or.inr ⟨by omega, rfl⟩, rfl⟩)) (fun r => zt_c (Or.inr rfl) (zi_e ⟨Or.inl ⟨by omega, rfl⟩, rfl⟩)))) (fun q12 => ?_)
  refine zt_p (fun q13 => zt_c hK (zt_p (fun r => zt_c (Or.inl rfl) (zi_e ⟨Or.inr ⟨by omega, rfl⟩, rfl⟩)) (fun r => zt_c (Or.inr rfl) (zi_e ⟨Or.inl ⟨by omega, rfl⟩, rfl⟩)))) (fun q13 => ?_)
  exact zt_c (Or.inl rfl) (zi_e ⟨Or.inr ⟨by omega, rfl⟩, rfl⟩)
theorem s_78 (w : Int) : zi (zc 78 [zm_I w] h) (fun z g => ((zw_sw w ∧ z = 1) ∨ (¬ zw_sw w ∧ z = 0)) ∧ g = h) := by
  refine zt_l e_78 ?_
  refine zt_p (fun q0 => zt_c (Or.inr rfl) (zi_e ⟨Or.inl ⟨by omega, rfl⟩, rfl⟩)) (fun q0 => ?_)
  refine zt_p (fun q1 => zt_c (Or.inl rfl) (zi_e ⟨Or.inr ⟨by omega, rfl⟩, rfl⟩)) (fun q1 => ?_)
  refine zt_p (fun q2 => zt_c (Or.inl rfl) (zi_e ⟨Or.inr ⟨by omega, rfl⟩, rfl⟩)) (fun q2 => ?_)
  refine zt_p (fun q3 => zt_c (Or.inr rfl) (zi_e ⟨Or.inl ⟨by omega, rfl⟩, rfl⟩)) (fun q3 => ?_)
  refine zt_p (fun q4 => zt_c (Or.inr rfl) (zi_e ⟨Or.inl ⟨by omega, rfl⟩, rfl⟩)) (fun q4 => ?_)
  refine zt_p (fun q5 => zt_c (Or.inl rfl) (zi_e ⟨Or.inr ⟨by omega, rfl⟩, rfl⟩)) (fun q5 => ?_)
  refine zt_p (fun q6 => zt_c (Or.inl rfl) (zi_e ⟨Or.inr ⟨by omega, rfl⟩, rfl⟩)) (fun q6 => ?_)
  refine zt_p (fun q7 => zt_c (Or.inl rfl) (zi_e ⟨Or.inr ⟨by omega, rfl⟩, rfl⟩)) (fun q7 => ?_)
  refine zt_p (fun q8 => zt_c (Or.inl rfl) (zi_e ⟨Or.inr ⟨by omega, rfl⟩, rfl⟩)) (fun q8 => ?_)
  refine zt_p (fun q9 => zt_c (Or.inl rfl) (zi_e ⟨Or.inr ⟨by omega, rfl⟩, rfl⟩)) (fun q9 => ?_)
  refine zt_p (fun q10 => zt_c (Or.inl rfl) (zi_e ⟨Or.inr ⟨by omega, rfl⟩, rfl⟩)) (fun q10 => ?_)
  refine zt_p (fun q11 => zt_c (Or.inr rfl) (zi_e ⟨Or.inl ⟨by omega, rfl⟩, rfl⟩)) (fun q11 => ?_)
  refine zt_p (fun q12 => zt_c (Or.inr rfl) (zi_e ⟨Or.inl ⟨by omega, rfl⟩, rfl⟩)) (fun q12 => ?_)
  refine zt_p (fun q13 => zt_c (Or.inr rfl) (zi_e ⟨Or.inl ⟨by omega, rfl⟩, rfl⟩)) (fun q13 => ?_)
  refine zt_p (fun q14 => zt_c (Or.inr rfl) (zi_e ⟨Or.inl ⟨by omega, rfl⟩, rfl⟩)) (fun q14 => ?_)
  exact zt_c (Or.inl rfl) (zi_e ⟨Or.inr ⟨by omega, rfl⟩, rfl⟩)
theorem zw_cO.tr {h0 : zm_H} {D : zm_H → Prop} {z : Int} (f : zq_F (zf_Pc pf) h0 h) (r : zw_cO h pf T n o D z g) : zw_cO h0 pf T n o D z g := ⟨zq_F_tr f r.1, r.2⟩
/-- behind a statement: its ; -/
theorem zw_tail0 {D : zm_H → Prop} {z : Int} (hD : ∀ g g2, zq_F zf_Sc g g2 → D g → D g2) (r : zw_cO h pf T n o D z g) : zi (if z = 0 then (zm_ck (zm_bit 0) (some (zm_I 0, g))) else (zk_I (zc 94 [zm_A 29, zm_I 59] g) (fun v12 h13 => if v12 = 0 then (zm_ck (zm_bit 0) (some (zm_I 0, h13))) else (zm_ck (zm_bit 1) (some (zm_I 1, h13)))))) (zw_cO h pf T n (zw_th o (zw_sgn T n 59)) D) := by
  obtain ⟨f, r⟩ := r
  rcases r with ⟨k, a, e, rfl, r2, r3⟩ | ⟨p', g', e, rfl, k1, d1⟩
  · rw [e]
    exact zt_t rfl (zt_c (Or.inl rfl) (zi_e ⟨f, Or.inl ⟨k, a, rfl, rfl, r2, r3⟩⟩))
  · rw [e]
    refine zt_f (by decide) (zt_I (s_94w k1 59) ?_)
    rintro z2 g2 ⟨Q2, r⟩
    rcases r with ⟨rfl, k, a, e2⟩ | ⟨rfl, e2⟩
    · exact zt_t rfl (zt_c (Or.inl rfl) (zi_e (zw_cO_f f e2 (Q2.1 k a e2))))
    · obtain ⟨F2, K2⟩ := Q2.2 _ _ e2
      exact zt_f (by decide) (zt_c (Or.inr rfl) (zi_e ⟨zq_F_tr f (zf_Sc_Pc F2), Or.inr ⟨_, _, e2, rfl, K2, hD _ _ F2 d1⟩⟩))
theorem zw_tail {X : Option (zm_V × zm_H)} {D : zm_H → Prop} (hD : ∀ g g2, zq_F zf_Sc g g2 → D g → D g2) (c : zi X (zw_cO h pf T n o D)) : zi (zk_I X (fun v10 h11 => if v10 = 0 then (zm_ck (zm_bit 0) (some (zm_I 0, h11))) else (zk_I (zc 94 [zm_A 29, zm_I 59] h11) (fun v12 h13 => if v12 = 0 then (zm_ck (zm_bit 0) (some (zm_I 0, h13))) else (zm_ck (zm_bit 1) (some (zm_I 1, h13))))))) (zw_cO h pf T n (zw_th o (zw_sgn T n 59)) D) := zt_I c (fun z g r => zw_tail0 hD r)
theorem zw_pf29 (hpf : zf_F pf) (i v : Int) : zm_wr h pf i v 29 1 = h 29 1 := zq_wr_n (by have := zf_F_ne hpf; omega)
theorem zw_cT_O {o : zw_T} {D : (Nat → Int) → zm_H → Prop} {z : Int} (r : zw_cT h pf T n o D z g) : zw_cO h pf T n (zw_lS o) (fun g => D (zw_tF o) g) z g := by
  obtain ⟨f, r⟩ := r
  rcases r with ⟨k, a, e, r1, r2, r3⟩ | ⟨p', g', F', e, r1, r2, r3⟩
  · exact ⟨f, Or.inl ⟨k, a, by rw [e]; rfl, r1, r2, r3⟩⟩
  · refine ⟨f, Or.inr ⟨p', g', by rw [e]; rfl, r1, r2, ?_⟩⟩
    show D (zw_tF o) g
    rw [e]; exact r3
theorem zw_cd_sc (hpf : zf_F pf) : ∀ g g2, zq_F zf_Sc g g2 → zw_CD g pf K L C wo sz re fe ru lk nk nc F pu l cf ct qf qt → zw_CD g2 pf K L C wo sz re fe ru lk nk nc F pu l cf ct qf qt := fun _ _ f d => d.sc hpf f
theorem s_75_0 (hpf : zf_F pf) (hK : zw_K h pf T n p gl) (hD : zw_CD h pf K L C wo sz re fe ru lk nk nc F pu l cf ct qf qt) (hP : zw_PD K L C wo sz re fe ru lk nk nc F pu l cf ct qf qt p) (h80 : h pf 0 ≠ 80) (hK8 : K < 8) (hw : zy_ow T n p gl = 0) : zi (zc 75 [zm_A 29] h) (zw_cO h pf T n (zw_th (zw_kd T n K C nk nc (zy_en T n p) (zy_ng T n p gl)) (zw_sgn T n 59)) (fun g => zw_CD g pf (K + 1) L C (zp_set wo K (zy_nu T n (zy_en T n (zy_en T n (zy_en T n p))))) (zp_set sz K (zy_nu T n (zy_en T n (zy_en T n (zy_en T n (zy_en T n (zy_en T n p))))))) re fe ru (zw_lkK lk K (zy_nu T n (zy_en T n (zy_en T n (zy_en T n p))))) (zw_upd nk K (zy_ls T n (zy_en T n p))) nc F pu l cf ct qf qt)) := by
  have ow := hK.2.2.2.2.2.2.1
  have t1 := zy_ow_ty (T := T) (n := n) (p := p) (g := gl) (by rw [hw]; decide)
  have on := zy_en_gt (T := T) (g := gl) hK.2.2.1 (by omega)
  refine zt_l (e_75 hpf) (zt_c hK.1 (zt_f h80 ?_))
  rw [ow, hw]
  refine zt_I (s_77 hpf hK.1 hD 0) ?_
  rintro z g ⟨⟨m, rfl⟩ | ⟨_, rfl⟩, rfl⟩
  · exact absurd m (by unfold zw_ma; omega)
  refine zt_t rfl (zt_I (s_78 0) ?_)
  rintro z g1 ⟨⟨_, rfl⟩ | ⟨m, rfl⟩, rfl⟩
  rotate_left
  · exact absurd (by decide) m
  refine zt_f (by decide) (zt_V (s_133w hK (by omega)) ?_)
  rintro g2 ⟨F2, K2⟩
  have D2 := hD.sc hpf F2
  refine zt_c K2.1 (zt_t rfl ?_)
  exact zi_m (zw_tail (zw_cd_sc hpf) (s_80w hpf K2 D2 hP.1 hP.2.1 hK8)) (fun z g r => r.tr (zf_Sc_Pc F2))
theorem s_75_4 (hpf : zf_F pf) (hK : zw_K h pf T n p gl) (hD : zw_CD h pf K L C wo sz re fe ru lk nk nc F pu l cf ct qf qt) (hP : zw_PD K L C wo sz re fe ru lk nk nc F pu l cf ct qf qt p) (h80 : h pf 0 ≠ 80) (hC8 : C < 8) (hw : zy_ow T n p gl = 4) : zi (zc 75 [zm_A 29] h) (zw_cO h pf T n (zw_th (zw_ch T n K C nk nc (zy_en T n p) (zy_ng T n p gl)) (zw_sgn T n 59)) (fun g => zw_CD g pf K L (C + 1) wo sz (zp_set re C (zy_nu T n (zy_en T n (zy_en T n (zy_en T n p))))) (zp_set fe C (zy_nu T n (zy_en T n (zy_en T n (zy_en T n (zy_en T n (zy_en T n p))))))) (zp_set ru C (zw_rv T n (zy_en T n (zy_en T n (zy_en T n (zy_en T n (zy_en T n (zy_en T n p)))))))) (zw_lkC lk C wo) nk (zw_upd nc C (zy_ls T n (zy_en T n p))) F pu l cf ct qf qt)) := by
  have ow := hK.2.2.2.2.2.2.1
  have t1 := zy_ow_ty (T := T) (n := n) (p := p) (g := gl) (by rw [hw]; decide)
  have on := zy_en_gt (T := T) (g := gl) hK.2.2.1 (by omega)
  refine zt_l (e_75 hpf) (zt_c hK.1 (zt_f h80 ?_))
  rw [ow, hw]
  refine zt_I (s_77 hpf hK.1 hD 4) ?_
  rintro z g ⟨⟨m, rfl⟩ | ⟨_, rfl⟩, rfl⟩
  · exact absurd m (by unfold zw_ma; omega)
  refine zt_t rfl (zt_I (s_78 4) ?_)
  rintro z g1 ⟨⟨_, rfl⟩ | ⟨m, rfl⟩, rfl⟩
  rotate_left
  · exact absurd (by decide) m
  refine zt_f (by decide) (zt_V (s_133w hK (by omega)) ?_)
  rintro g2 ⟨F2, K2⟩
  have D2 := hD.sc hpf F2
  refine zt_c K2.1 (zt_f (by decide) (zt_f (by decide) (zt_f (by decide) (zt_f (by decide) (zt_t rfl ?_)))))
  exact zi_m (zw_tail (zw_cd_sc hpf) (s_87w hpf K2 D2 hP.1 hP.2.1 hC8)) (fun z g r => r.tr (zf_Sc_Pc F2))
theorem s_75_11 (hpf : zf_F pf) (hK : zw_K h pf T n p gl) (hD : zw_CD h pf K L C wo sz re fe ru lk nk nc F pu l cf ct qf qt) (hP : zw_PD K L C wo sz re fe ru lk nk nc F pu l cf ct qf qt p) (h80 : h pf 0 ≠ 80)  (hw : zy_ow T n p gl = 11) : zi (zc 75 [zm_A 29] h) (zw_cO h pf T n (zw_th (zw_li T n K C nk nc (zy_en T n p) (zy_ng T n p gl)) (zw_sgn T n 59)) (fun g => zw_CD g pf K L C wo sz re fe ru (zw_lk1 lk (zw_kk T n C nc (zy_en T n p)) (zw_kk T n K nk (zy_en T n (zy_en T n p))) (zy_nu T n (zy_en T n (zy_en T n (zy_en T n p))))) nk nc F pu l cf ct qf qt)) := by
  have ow := hK.2.2.2.2.2.2.1
  have t1 := zy_ow_ty (T := T) (n := n) (p := p) (g := gl) (by rw [hw]; decide)
  have on := zy_en_gt (T := T) (g := gl) hK.2.2.1 (by omega)
  refine zt_l (e_75 hpf) (zt_c hK.1 (zt_f h80 ?_))
  rw [ow, hw]
  refine zt_I (s_77 hpf hK.1 hD 11) ?_
  rintro z g ⟨⟨m, rfl⟩ | ⟨_, rfl⟩, rfl⟩
  · exact absurd m (by unfold zw_ma; omega)
  refine zt_t rfl (zt_I (s_78 11) ?_)
  rintro z g1 ⟨⟨_, rfl⟩ | ⟨m, rfl⟩, rfl⟩
  rotate_left
  · exact absurd (by decide) m
  refine zt_f (by decide) (zt_V (s_133w hK (by omega)) ?_)
  rintro g2 ⟨F2, K2⟩
  have D2 := hD.sc hpf F2
  refine zt_c K2.1 (zt_f (by decide) (zt_f (by decide) (zt_f (by decide) (zt_f (by decide) (zt_f (by decide) (zt_f (by decide) (zt_f (by decide) (zt_f (by decide) (zt_f (by decide) (zt_f (by decide) (zt_f (by decide) (zt_t rfl ?_))))))))))))
  exact zi_m (zw_tail (zw_cd_sc hpf) (s_88w hpf K2 D2 hP.1 hP.2.1)) (fun z g r => r.tr (zf_Sc_Pc F2))
theorem s_75_14 (hpf : zf_F pf) (hK : zw_K h pf T n p gl) (hD : zw_CD h pf K L C wo sz re fe ru lk nk nc F pu l cf ct qf qt) (hP : zw_PD K L C wo sz re fe ru lk nk nc F pu l cf ct qf qt p) (h80 : h pf 0 ≠ 80)  (hw : zy_ow T n p gl = 14) : zi (zc 75 [zm_A 29] h) (zw_cO h pf T n (zw_th (zw_num T n 0 999 (zy_en T n p) (zy_ng T n p gl)) (zw_sgn T n 59)) (fun g => zw_CD g pf K L C wo sz re fe ru lk nk nc F (zy_nu T n (zy_en T n p)) l cf ct qf qt)) := by
  have ow := hK.2.2.2.2.2.2.1
  have t1 := zy_ow_ty (T := T) (n := n) (p := p) (g := gl) (by rw [hw]; decide)
  have on := zy_en_gt (T := T) (g := gl) hK.2.2.1 (by omega)
  refine zt_l (e_75 hpf) (zt_c hK.1 (zt_f h80 ?_))
  rw [ow, hw]
  refine zt_I (s_77 hpf hK.1 hD 14) ?_
  rintro z g ⟨⟨m, rfl⟩ | ⟨_, rfl⟩, rfl⟩
  · exact absurd m (by unfold zw_ma; omega)
  refine zt_t rfl (zt_I (s_78 14) ?_)
  rintro z g1 ⟨⟨_, rfl⟩ | ⟨m, rfl⟩, rfl⟩
  rotate_left
  · exact absurd (by decide) m
  refine zt_f (by decide) (zt_V (s_133w hK (by omega)) ?_)
  rintro g2 ⟨F2, K2⟩
  have D2 := hD.sc hpf F2
  refine zt_c K2.1 (zt_f (by decide) (zt_f (by decide) (zt_f (by decide) (zt_f (by decide) (zt_f (by decide) (zt_f (by decide) (zt_f (by decide) (zt_f (by decide) (zt_f (by decide) (zt_f (by decide) (zt_f (by decide) (zt_f (by decide) (zt_f (by decide) (zt_f (by decide) (zt_t rfl ?_)))))))))))))))
  exact zi_m (zw_tail (zw_cd_sc hpf) (s_89w hpf K2 D2)) (fun z g r => r.tr (zf_Sc_Pc F2))
theorem s_75_3 (hpf : zf_F pf) (hK : zw_K h pf T n p gl) (hD : zw_CD h pf K L C wo sz re fe ru lk nk nc F pu l cf ct qf qt) (hP : zw_PD K L C wo sz re fe ru lk nk nc F pu l cf ct qf qt p) (h80 : h pf 0 ≠ 80) (hL5 : L < 5) (hw : zy_ow T n p gl = 3) : zi (zc 75 [zm_A 29] h) (zw_cO h pf T n (zw_th (zw_lS (zw_ly T n K L nk 9 (zy_en T n p) (zy_ng T n p gl) F)) (zw_sgn T n 59)) (fun g => zw_CD g pf K (L + 1) C wo sz re fe ru lk nk nc (zw_tF (zw_ly T n K L nk 9 (zy_en T n p) (zy_ng T n p gl) F)) pu l cf ct qf qt)) := by
  have ow := hK.2.2.2.2.2.2.1
  have t1 := zy_ow_ty (T := T) (n := n) (p := p) (g := gl) (by rw [hw]; decide)
  have on := zy_en_gt (T := T) (g := gl) hK.2.2.1 (by omega)
  refine zt_l (e_75 hpf) (zt_c hK.1 (zt_f h80 ?_))
  rw [ow, hw]
  refine zt_I (s_77 hpf hK.1 hD 3) ?_
  rintro z g ⟨⟨m, rfl⟩ | ⟨_, rfl⟩, rfl⟩
  · exact absurd m (by unfold zw_ma; omega)
  refine zt_t rfl (zt_I (s_78 3) ?_)
  rintro z g1 ⟨⟨_, rfl⟩ | ⟨m, rfl⟩, rfl⟩
  rotate_left
  · exact absurd (by decide) m
  refine zt_f (by decide) (zt_V (s_133w hK (by omega)) ?_)
  rintro g2 ⟨F2, K2⟩
  have D2 := hD.sc hpf F2
  refine zt_c K2.1 (zt_f (by decide) (zt_f (by decide) (zt_f (by decide) (zt_t rfl ?_))))
  have c0 : zi (zc 85 [zm_A 29] g2) (zw_cO g2 pf T n (zw_lS (zw_ly T n K L nk 9 (zy_en T n p) (zy_ng T n p gl) F)) (fun g => zw_CD g pf K (L + 1) C wo sz re fe ru lk nk nc (zw_tF (zw_ly T n K L nk 9 (zy_en T n p) (zy_ng T n p gl) F)) pu l cf ct qf qt)) := by
    refine zt_l e_85 (zi_m (s_85w hpf hP.1 hP.2.1 hL5 9 0 _ _ F g2 (by decide) (zw_ct_le L F).1 K2 D2) (fun z g r => zw_cT_O r))
  exact zi_m (zw_tail (zw_cd_sc hpf) c0) (fun z g r => r.tr (zf_Sc_Pc F2))
theorem s_75_12 (hpf : zf_F pf) (hK : zw_K h pf T n p gl) (hD : zw_CD h pf K L C wo sz re fe ru lk nk nc F pu l cf ct qf qt) (hP : zw_PD K L C wo sz re fe ru lk nk nc F pu l cf ct qf qt p) (h80 : h pf 0 ≠ 80) (hct : ct = 0) (hw : zy_ow T n p gl = 12) : zi (zc 75 [zm_A 29] h) (zw_cO h pf T n (zw_th (zw_oX (zw_oc T n (zy_en T n p) (zy_ng T n p gl) l)) (zw_sgn T n 59)) (fun g => zw_CD g pf K L C wo sz re fe ru lk nk nc F pu (zw_ol (zw_oc T n (zy_en T n p) (zy_ng T n p gl) l)) l.length (zw_ol (zw_oc T n (zy_en T n p) (zy_ng T n p gl) l)).length qf qt)) := by
  have ow := hK.2.2.2.2.2.2.1
  have t1 := zy_ow_ty (T := T) (n := n) (p := p) (g := gl) (by rw [hw]; decide)
  have on := zy_en_gt (T := T) (g := gl) hK.2.2.1 (by omega)
  refine zt_l (e_75 hpf) (zt_c hK.1 (zt_f h80 ?_))
  rw [ow, hw]
  refine zt_I (s_77 hpf hK.1 hD 12) ?_
  rintro z g ⟨⟨m, rfl⟩ | ⟨_, rfl⟩, rfl⟩
  · exact absurd m (by unfold zw_ma; omega)
  refine zt_t rfl (zt_I (s_78 12) ?_)
  rintro z g1 ⟨⟨_, rfl⟩ | ⟨m, rfl⟩, rfl⟩
  rotate_left
  · exact absurd (by decide) m
  refine zt_f (by decide) (zt_V (s_133w hK (by omega)) ?_)
  rintro g2 ⟨F2, K2⟩
  have D2 := hD.sc hpf F2
  have hk := (zy_class (T := T) (n := n) hpf (zw_F n)).2.2.2.2.2.1 0 _ _ l g2 ⟨by unfold zw_F; omega, K2.2.2.1, by decide, by have := hP.2.2.2.2.2.1; omega⟩ (K2.zyK D2)
  refine zt_c K2.1 (zt_f (by decide) (zt_f (by decide) (zt_f (by decide) (zt_f (by decide) (zt_f (by decide) (zt_f (by decide) (zt_f (by decide) (zt_f (by decide) (zt_f (by decide) (zt_f (by decide) (zt_f (by decide) (zt_f (by decide) (zt_t rfl (zt_c (by decide) (zt_I hk ?_)))))))))))))))
  intro z g3 r
  have e15 : z = 1 → g3 pf 15 = (zw_ol (zw_oc T n (zy_en T n p) (zy_ng T n p gl) l)).length := by
    intro hz
    rcases r.2 with ⟨k, a, e, r1, _⟩ | ⟨p', g', l', e, r1, k1, k2, k3, k4, k5⟩
    · omega
    · rw [show zw_oc T n (zy_en T n p) (zy_ng T n p gl) l = .inr (p', g', l') from e]; exact k4
  have h29 : g3 29 1 = pf := by rw [zf_Eo_n r.1 (by have := zf_F_ne hpf; unfold zf_Ex; omega) (by omega)]; exact K2.1
  have fx : ∀ i : Int, 16 ≤ i → g3 pf i = g2 pf i := fun i hi => zf_Eo_n r.1 (by have := zf_F_ne hpf; unfold zf_Ex; omega) (by have := zf_F_ne hpf; omega)
  have cn := zw_cnote (i1 := 16) (i2 := 17) (v1 := g2 pf 15) (v2 := (zm_wr g3 pf 16 (g2 pf 15)) pf 15) hpf D2 K2 r (fun p' g' l' e => (zw_le (lv := 5) (by decide) K2.2.2.1 e).1) (by decide) (fun hz => ⟨by rw [zq_wr_i (by decide), zq_wr_e]; exact D2.2.2.2.2.1.1, by rw [zq_wr_e, zq_wr_i (by decide)]; exact e15 hz, by rw [zq_wr_i (by decide), zq_wr_i (by decide), fx 18 (by decide)]; exact D2.2.2.2.2.2.1.2.2.1, by rw [zq_wr_i (by decide), zq_wr_i (by decide), fx 19 (by decide)]; exact D2.2.2.2.2.2.1.2.2.2⟩)
  have w29 : zm_wr g3 pf 16 (g2 pf 15) 29 1 = pf := by rw [zw_pf29 hpf]; exact h29
  refine zt_c h29 (zt_c w29 (zt_c w29 ?_))
  exact zi_m (zw_tail0 (zw_cd_sc hpf) cn) (fun z g r => r.tr (zf_Sc_Pc F2))
theorem s_75_13 (hpf : zf_F pf) (hK : zw_K h pf T n p gl) (hD : zw_CD h pf K L C wo sz re fe ru lk nk nc F pu l cf ct qf qt) (hP : zw_PD K L C wo sz re fe ru lk nk nc F pu l cf ct qf qt p) (h80 : h pf 0 ≠ 80) (hqt : qt = 0) (hw : zy_ow T n p gl = 13) : zi (zc 75 [zm_A 29] h) (zw_cO h pf T n (zw_th (zw_oX (zw_op T n (zy_en T n p) (zy_ng T n p gl) l)) (zw_sgn T n 59)) (fun g => zw_CD g pf K L C wo sz re fe ru lk nk nc F pu (zw_ol (zw_op T n (zy_en T n p) (zy_ng T n p gl) l)) cf ct l.length (zw_ol (zw_op T n (zy_en T n p) (zy_ng T n p gl) l)).length)) := by
  have ow := hK.2.2.2.2.2.2.1
  have t1 := zy_ow_ty (T := T) (n := n) (p := p) (g := gl) (by rw [hw]; decide)
  have on := zy_en_gt (T := T) (g := gl) hK.2.2.1 (by omega)
  refine zt_l (e_75 hpf) (zt_c hK.1 (zt_f h80 ?_))
  rw [ow, hw]
  refine zt_I (s_77 hpf hK.1 hD 13) ?_
  rintro z g ⟨⟨m, rfl⟩ | ⟨_, rfl⟩, rfl⟩
  · exact absurd m (by unfold zw_ma; omega)
  refine zt_t rfl (zt_I (s_78 13) ?_)
  rintro z g1 ⟨⟨_, rfl⟩ | ⟨m, rfl⟩, rfl⟩
  rotate_left
  · exact absurd (by decide) m
  refine zt_f (by decide) (zt_V (s_133w hK (by omega)) ?_)
  rintro g2 ⟨F2, K2⟩
  have D2 := hD.sc hpf F2
  have hk := (zy_class (T := T) (n := n) hpf (zw_F n)).1 0 _ _ l g2 ⟨by unfold zw_F; omega, K2.2.2.1, by decide, by have := hP.2.2.2.2.2.1; omega⟩ (K2.zyK D2)
  refine zt_c K2.1 (zt_f (by decide) (zt_f (by decide) (zt_f (by decide) (zt_f (by decide) (zt_f (by decide) (zt_f (by decide) (zt_f (by decide) (zt_f (by decide) (zt_f (by decide) (zt_f (by decide) (zt_f (by decide) (zt_f (by decide) (zt_f (by decide) (zt_t rfl (zt_c (by decide) (zt_I hk ?_))))))))))))))))
  intro z g3 r
  have e15 : z = 1 → g3 pf 15 = (zw_ol (zw_op T n (zy_en T n p) (zy_ng T n p gl) l)).length := by
    intro hz
    rcases r.2 with ⟨k, a, e, r1, _⟩ | ⟨p', g', l', e, r1, k1, k2, k3, k4, k5⟩
    · omega
    · rw [show zw_op T n (zy_en T n p) (zy_ng T n p gl) l = .inr (p', g', l') from e]; exact k4
  have h29 : g3 29 1 = pf := by rw [zf_Eo_n r.1 (by have := zf_F_ne hpf; unfold zf_Ex; omega) (by omega)]; exact K2.1
  have fx : ∀ i : Int, 16 ≤ i → g3 pf i = g2 pf i := fun i hi => zf_Eo_n r.1 (by have := zf_F_ne hpf; unfold zf_Ex; omega) (by have := zf_F_ne hpf; omega)
  have cn := zw_cnote (i1 := 18) (i2 := 19) (v1 := g2 pf 15) (v2 := (zm_wr g3 pf 18 (g2 pf 15)) pf 15) hpf D2 K2 r (fun p' g' l' e => (zw_le (lv := 0) (by decide) K2.2.2.1 e).1) (by decide) (fun hz => ⟨by rw [zq_wr_i (by decide), zq_wr_i (by decide), fx 16 (by decide)]; exact D2.2.2.2.2.2.1.1, by rw [zq_wr_i (by decide), zq_wr_i (by decide), fx 17 (by decide)]; exact D2.2.2.2.2.2.1.2.1, by rw [zq_wr_i (by decide), zq_wr_e]; exact D2.2.2.2.2.1.1, by rw [zq_wr_e, zq_wr_i (by decide)]; exact e15 hz⟩)
  have w29 : zm_wr g3 pf 18 (g2 pf 15) 29 1 = pf := by rw [zw_pf29 hpf]; exact h29
  refine zt_c h29 (zt_c w29 (zt_c w29 ?_))
  exact zi_m (zw_tail0 (zw_cd_sc hpf) cn) (fun z g r => r.tr (zf_Sc_Pc F2))
theorem s_75_m (hpf : zf_F pf) (hK : zw_K h pf T n p gl) (hD : zw_CD h pf K L C wo sz re fe ru lk nk nc F pu l cf ct qf qt) (hP : zw_PD K L C wo sz re fe ru lk nk nc F pu l cf ct qf qt p) (h80 : h pf 0 ≠ 80) (hm : zw_ma K L C ct qt (zy_ow T n p gl)) : zi (zc 75 [zm_A 29] h) (fun z g => z = 0 ∧ zy_ft 6 (zy_at T n p) h g) := by
  have ow := hK.2.2.2.2.2.2.1
  refine zt_l (e_75 hpf) (zt_c hK.1 (zt_f h80 ?_))
  rw [ow]
  refine zt_I (s_77 hpf hK.1 hD _) ?_
  rintro z g ⟨⟨m, rfl⟩ | ⟨m, rfl⟩, rfl⟩
  · refine zt_f (by decide) ?_
    rw [hK.2.2.2.2.1]
    refine zt_I (s_76 6 _) ?_
    rintro z g2 ⟨rfl, hg⟩
    exact zt_c (Or.inl rfl) (zi_e ⟨rfl, hg⟩)
  · exact absurd hm m
theorem s_75_x (hpf : zf_F pf) (hK : zw_K h pf T n p gl) (hD : zw_CD h pf K L C wo sz re fe ru lk nk nc F pu l cf ct qf qt) (hP : zw_PD K L C wo sz re fe ru lk nk nc F pu l cf ct qf qt p) (h80 : h pf 0 ≠ 80) (hm : ¬ zw_ma K L C ct qt (zy_ow T n p gl)) (hs : ¬ zw_sw (zy_ow T n p gl)) : zi (zc 75 [zm_A 29] h) (fun z g => z = 0 ∧ zy_ft 1 (zy_bd T n p gl) h g) := by
  have ow := hK.2.2.2.2.2.2.1
  refine zt_l (e_75 hpf) (zt_c hK.1 (zt_f h80 ?_))
  rw [ow]
  refine zt_I (s_77 hpf hK.1 hD _) ?_
  rintro z g ⟨⟨m, rfl⟩ | ⟨m, rfl⟩, rfl⟩
  · exact absurd m hm
  · refine zt_t rfl (zt_I (s_78 _) ?_)
    rintro z g1 ⟨⟨m2, rfl⟩ | ⟨m2, rfl⟩, rfl⟩
    · exact absurd m2 hs
    · refine zt_t rfl (zt_I (s_79 hK.2.2.2) ?_)
      rintro z g2 ⟨rfl, hg⟩
      exact zt_c (Or.inl rfl) (zi_e ⟨rfl, hg⟩)
/-- the eighty-first -/
theorem s_75_80 (hpf : zf_F pf) (hK : zw_K h pf T n p gl) (h80 : h pf 0 = 80) : zi (zc 75 [zm_A 29] h) (fun z g => z = 0 ∧ zy_ft 6 (zy_at T n p) h g) := by
  refine zt_l (e_75 hpf) (zt_c hK.1 (zt_t h80 ?_))
  rw [hK.2.2.2.2.1]
  refine zt_I (s_76 6 _) ?_
  rintro z g2 ⟨rfl, hg⟩
  exact zt_c (Or.inl rfl) (zi_e ⟨rfl, hg⟩)
end
