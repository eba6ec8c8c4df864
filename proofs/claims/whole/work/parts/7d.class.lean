/-! STATEMENTS: the class's readers of words, numbers and names -/
def zw_K (h : zm_H) (pf : Nat) (T : Nat → Int) (n p : Nat) (g : Bool) : Prop := h 29 1 = pf ∧ (zy_CT h T n ∧ h 29 2 = 0 ∧ h 29 3 = -1) ∧ p ≤ n ∧ zy_C h T n p g
/-- the class's reader has gone on, or told a fault -/
def zw_Q (h : zm_H) (pf : Nat) (T : Nat → Int) (n : Nat) (o : zw_S) (g : zm_H) : Prop := (∀ k a : Nat, o = .inl (k, a) → zy_ft k a h g) ∧ ∀ (p : Nat) (g' : Bool), o = .inr (p, g') → zq_F zf_Sc h g ∧ zw_K g pf T n p g'
def zw_rt (o : zw_S) : Prop := ∃ q, o = .inr q
section
variable {h : zm_H} {T : Nat → Int} {n p pf : Nat} {gl : Bool}
theorem zw_Q_i {k a : Nat} {g : zm_H} (q : zy_ft k a h g) : zw_Q h pf T n (.inl (k, a)) g := ⟨fun k' a' e => by cases e; exact q, fun p g' e => by cases e⟩
theorem zw_Q_r {p' : Nat} {g' : Bool} {g : zm_H} (f : zq_F zf_Sc h g) (k : zw_K g pf T n p' g') : zw_Q h pf T n (.inr (p', g')) g := ⟨fun k a e => (by cases e), fun p' g' e => (by cases e; exact ⟨f, k⟩)⟩
theorem zw_K.adv {g : zm_H} {p' : Nat} {g' : Bool} (hK : zw_K h pf T n p gl) (f : zq_F zf_Sc h g) (hp : p' ≤ n) (hC : zy_C g T n p' g') : zw_K g pf T n p' g' := ⟨by rw [f 29 1 (by unfold zf_Sc; omega)]; exact hK.1, ⟨hK.2.1.1.kp f, by rw [f 29 2 (by unfold zf_Sc; omega)]; exact hK.2.1.2.1, by rw [f 29 3 (by unfold zf_Sc; omega)]; exact hK.2.1.2.2⟩, hp, hC⟩
theorem zw_K.kp {g : zm_H} (hK : zw_K h pf T n p gl) (h1 : g 29 = h 29) (h5 : g 5 1 = h 5 1) (h6 : g 6 = h 6) (h30 : g 30 = h 30) (h31 : g 31 = h 31) : zw_K g pf T n p gl := by
  obtain ⟨k1, ⟨⟨t1, t2, t3, t4, t5⟩, u2, u3⟩, hp, c⟩ := hK
  refine ⟨by rw [h1]; exact k1, ⟨⟨t1, t2, h5.trans t3, fun i hi => by rw [h6]; exact t4 i hi, fun w hw => by rw [h31]; exact t5 w hw⟩, by rw [h1]; exact u2, by rw [h1]; exact u3⟩, hp, ?_⟩
  unfold zy_C at c ⊢
  rw [h30]; exact c
theorem s_133w (hK : zw_K h pf T n p gl) (ht : zy_ty T n p gl ≠ 4 ∧ zy_ty T n p gl ≠ 0) : zu (zc 133 [zm_A 30] h) (fun g => zq_F zf_Sc h g ∧ zw_K g pf T n (zy_en T n p) (zy_ng T n p gl)) := zu_m (s_133a hK.2.1.1 hK.2.2.2 hK.2.2.1 ht) (fun g r => ⟨r.1, hK.adv r.1 (zy_gl_n hK.2.2.1 ht).2 r.2⟩)
theorem s_61 {K : Nat} {nm : Nat → List Nat} {s : List Nat} (hpf : zf_F pf) (hK8 : K ≤ 8) (h1 : h pf 1 = K) (hn : ∀ k : Nat, k < K → h (pf + 1) k = zp_p5 (nm k)) (hnm : ∀ k, k < K → zp_nm (nm k)) (hs : zp_nm s) : zi (zc 61 [zm_A pf, zm_I (zp_p5 s : Nat)] h) (fun z g => z = zw_fd K nm s ∧ g = h) := by
  have key : ∀ (m i : Nat), i + m = K → zi (zr none 1 61 2 [zm_A pf, zm_I (zp_p5 s : Nat), zm_I i] [] h) (fun z g => z = zw_fdf nm s m i ∧ g = h) := by
    intro m
    induction m with
    | zero => intro i hi; exact zt_l (e_61_2 hpf) (zt_f (by omega) (zi_e ⟨rfl, rfl⟩))
    | succ m ih =>
      intro i hi
      refine zt_l (e_61_2 hpf) (zt_t (by omega) (zt_c (by omega) ?_))
      rw [hn i (by omega)]
      unfold zw_fdf
      refine zt_p (fun q => zi_e ⟨?_, rfl⟩) (fun q => zt_c (by omega) ?_)
      · rw [if_pos (zp_p5_inj _ _ (hnm i (by omega)).2 hs.2 (by omega))]
      · rw [if_neg (fun e => q (by rw [e]))]
        exact ih (i + 1) (by omega)
  exact zt_l (e_61 hpf) (key K 0 (by omega))
theorem s_62 {C : Nat} {nm : Nat → List Nat} {s : List Nat} (hpf : zf_F pf) (hK8 : C ≤ 8) (h1 : h pf 3 = C) (hn : ∀ k : Nat, k < C → h (pf + 5) k = zp_p5 (nm k)) (hnm : ∀ k, k < C → zp_nm (nm k)) (hs : zp_nm s) : zi (zc 62 [zm_A pf, zm_I (zp_p5 s : Nat)] h) (fun z g => z = zw_fd C nm s ∧ g = h) := by
  have key : ∀ (m i : Nat), i + m = C → zi (zr none 1 62 2 [zm_A pf, zm_I (zp_p5 s : Nat), zm_I i] [] h) (fun z g => z = zw_fdf nm s m i ∧ g = h) := by
    intro m
    induction m with
    | zero => intro i hi; exact zt_l (e_62_2 hpf) (zt_f (by omega) (zi_e ⟨rfl, rfl⟩))
    | succ m ih =>
      intro i hi
      refine zt_l (e_62_2 hpf) (zt_t (by omega) (zt_c (by omega) ?_))
      rw [hn i (by omega)]
      unfold zw_fdf
      refine zt_p (fun q => zi_e ⟨?_, rfl⟩) (fun q => zt_c (by omega) ?_)
      · rw [if_pos (zp_p5_inj _ _ (hnm i (by omega)).2 hs.2 (by omega))]
      · rw [if_neg (fun e => q (by rw [e]))]
        exact ih (i + 1) (by omega)
  exact zt_l (e_62 hpf) (key C 0 (by omega))
/-- a word of the language's own -/
theorem s_83w (hK : zw_K h pf T n p gl) {w : Nat} (hw : w < 25) : zi (zc 83 [zm_A 29, zm_I w] h) (fun z g => zw_Q h pf T n (zw_own T n w p gl) g ∧ ((z = 0 ∧ ∃ k a, zw_own T n w p gl = .inl (k, a)) ∨ (z = 1 ∧ zw_own T n w p gl = zw_go T n p gl))) := by
  unfold zw_own
  refine zi_m (s_83 hK.2.1.1 hK.2.2.2 hK.2.2.1 hw) (fun z g r => ?_)
  rcases r with ⟨rfl, q, f, c⟩ | ⟨rfl, q, f⟩
  · rw [if_pos q]
    have t1 := ((zy_ow_iff hw).mp q).1
    exact ⟨zw_Q_r f (hK.adv f (zy_gl_n (T := T) (g := gl) hK.2.2.1 (by omega)).2 c), Or.inr ⟨rfl, rfl⟩⟩
  · rw [if_neg q]
    exact ⟨zw_Q_i f, Or.inl ⟨rfl, _, _, rfl⟩⟩
theorem zy_sg_iff {c : Int} : zy_sg T n p gl c = true ↔ (zy_ty T n p gl = 3 ∧ T (zy_at T n p) = c) := decide_eq_true_iff
theorem s_94w (hK : zw_K h pf T n p gl) (c : Int) : zi (zc 94 [zm_A 29, zm_I c] h) (fun z g => zw_Q h pf T n (zw_sgn T n c p gl) g ∧ ((z = 0 ∧ ∃ k a, zw_sgn T n c p gl = .inl (k, a)) ∨ (z = 1 ∧ zw_sgn T n c p gl = zw_go T n p gl))) := by
  unfold zw_sgn
  refine zi_m (s_94 hK.2.1.1 hK.2.2.2 hK.2.2.1 c) (fun z g r => ?_)
  rcases r with ⟨rfl, q, f, k⟩ | ⟨rfl, q, f⟩
  · rw [if_pos (zy_sg_iff.mpr q)]
    exact ⟨zw_Q_r f (hK.adv f (zy_gl_n (T := T) (g := gl) hK.2.2.1 (by omega)).2 k), Or.inr ⟨rfl, rfl⟩⟩
  · rw [if_neg (fun e => q (zy_sg_iff.mp e))]
    exact ⟨zw_Q_i f, Or.inl ⟨rfl, _, _, rfl⟩⟩
/-- a number -/
theorem s_84w (hK : zw_K h pf T n p gl) (lo hi : Int) (hlo : 0 ≤ lo) : zi (zc 84 [zm_A 29, zm_I lo, zm_I hi] h) (fun z g => zw_Q h pf T n (zw_num T n lo hi p gl) g ∧ ((z = -1 ∧ ∃ k a, zw_num T n lo hi p gl = .inl (k, a)) ∨ (z = zy_nu T n p ∧ lo ≤ z ∧ z ≤ hi ∧ zw_num T n lo hi p gl = zw_go T n p gl))) := by
  have c := hK.2.2.2
  unfold zw_num
  refine zt_l e_84 ?_
  rw [c.1]
  by_cases t2 : zy_ty T n p gl = 2
  · rw [c.2.2.2.2.2.2.1 t2, if_pos t2, c.2.1]
    refine zt_t (by omega) (zt_p (fun q => ?_) (fun q => zt_p (fun q2 => ?_) (fun q2 => ?_)))
    · rw [if_neg (by omega)]
      refine zt_I (s_76 4 _) ?_
      rintro z g ⟨rfl, rfl⟩
      exact zi_e ⟨zw_Q_i rfl, Or.inl ⟨rfl, _, _, rfl⟩⟩
    · rw [if_pos (by omega)]
      refine zt_V (s_133w hK (by omega)) ?_
      rintro g ⟨f, k⟩
      exact zi_e ⟨zw_Q_r f k, Or.inr ⟨rfl, by omega, by omega, rfl⟩⟩
    · rw [if_neg (by omega)]
      refine zt_I (s_76 4 _) ?_
      rintro z g ⟨rfl, rfl⟩
      exact zi_e ⟨zw_Q_i rfl, Or.inl ⟨rfl, _, _, rfl⟩⟩
  · rw [if_neg t2]
    refine zt_f (by omega) (zt_I (s_79 c) ?_)
    rintro z g ⟨rfl, rfl⟩
    exact zi_e ⟨zw_Q_i rfl, Or.inl ⟨rfl, _, _, rfl⟩⟩
/-- what the class has of names -/
def zw_Cn (h : zm_H) (pf K C : Nat) (nk nc : Nat → List Nat) : Prop := K ≤ 8 ∧ C ≤ 8 ∧ h pf 1 = K ∧ h pf 3 = C ∧ zv_Nc h pf K C nk nc ∧ zv_Nn K C nk nc
theorem s_82w (hK : zw_K h pf T n p gl) : zi (zc 82 [zm_A 29] h) (fun z g => z = (if zw_nam T n p gl then 1 else 0) ∧ g = h) := s_82 hK.2.2.2
theorem zw_p5_nn (s : List Nat) : ¬ ((zp_p5 s : Nat) : Int) = -1 := by omega
/-- a name that is given -/
theorem s_81w {K C : Nat} {nk nc : Nat → List Nat} (hpf : zf_F pf) (hK : zw_K h pf T n p gl) (hN : zw_Cn h pf K C nk nc) : zi (zc 81 [zm_A 29] h) (fun z g => zw_Q h pf T n (zw_new T n K C nk nc p gl) g ∧ ((z = -1 ∧ ∃ k a, zw_new T n K C nk nc p gl = .inl (k, a)) ∨ (z = (zp_p5 (zy_ls T n p) : Nat) ∧ zw_nam T n p gl ∧ zw_new T n K C nk nc p gl = zw_go T n p gl))) := by
  have c := hK.2.2.2
  obtain ⟨n1, n2, n3, n4, n5, n6⟩ := hN
  unfold zw_new
  refine zt_l (e_81 hpf) (zt_I (s_82w hK) ?_)
  rintro z g ⟨rfl, rfl⟩
  by_cases q : zw_nam T n p gl
  · have nmls := zy_ls_nm q.1
    rw [if_pos q, if_pos q, c.2.2.2.2.2.1 q.1]
    refine zt_f (by decide) (zt_c hK.1 (zt_I (s_61 hpf n1 n3 n5.1 n6.1 nmls) ?_))
    rintro z g2 ⟨rfl, rfl⟩
    by_cases q1 : zw_fd K nk (zy_ls T n p) = -1
    · refine zt_t q1 (zt_c hK.1 (zt_I (s_62 hpf n2 n4 n5.2 n6.2 nmls) ?_))
      rintro z g3 ⟨rfl, rfl⟩
      by_cases q2 : zw_fd C nc (zy_ls T n p) = -1
      · refine zt_t q2 ?_
        rw [if_pos (show zw_fd K nk (zy_ls T n p) = -1 ∧ zw_fd C nc (zy_ls T n p) = -1 from ⟨q1, q2⟩)]
        refine zt_V (s_133w hK (by have := q.1; omega)) ?_
        rintro g4 ⟨f, k⟩
        exact zi_e ⟨zw_Q_r f k, Or.inr ⟨rfl, q, rfl⟩⟩
      · refine zt_f q2 ?_
        rw [if_neg (show ¬ (zw_fd K nk (zy_ls T n p) = -1 ∧ zw_fd C nc (zy_ls T n p) = -1) from fun e => q2 e.2), c.2.1]
        refine zt_I (s_76 2 _) ?_
        rintro z g4 ⟨rfl, rfl⟩
        exact zi_e ⟨zw_Q_i rfl, Or.inl ⟨rfl, _, _, rfl⟩⟩
    · refine zt_f q1 ?_
      rw [if_neg (show ¬ (zw_fd K nk (zy_ls T n p) = -1 ∧ zw_fd C nc (zy_ls T n p) = -1) from fun e => q1 e.1), c.2.1]
      refine zt_I (s_76 2 _) ?_
      rintro z g4 ⟨rfl, rfl⟩
      exact zi_e ⟨zw_Q_i rfl, Or.inl ⟨rfl, _, _, rfl⟩⟩
  · rw [if_neg q, if_neg q]
    refine zt_t rfl (zt_I (s_79 c) ?_)
    rintro z g2 ⟨rfl, rfl⟩
    exact zi_e ⟨zw_Q_i rfl, Or.inl ⟨rfl, _, _, rfl⟩⟩
end
