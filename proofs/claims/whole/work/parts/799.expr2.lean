/-! SUMS AND TESTS: the class's recursive descent -/
def zy_ok (T : Nat → Int) (n f r d p : Nat) (l : List Int) : Prop := 8 * (n - p) + r < f ∧ p ≤ n ∧ d ≤ 7 ∧ l.length ≤ p
section
variable {T : Nat → Int} {n pf : Nat}
theorem zy_end {p : Nat} {g : Bool} (hp : p = n) : zy_ty T n p g = 0 := by
  have : p ≤ zy_at T n p := (zy_sk_le T n (n - p) p).1
  unfold zy_ty; rw [if_pos (by omega)]
theorem zy_th_l {k a : Nat} {f : Nat → Bool → List Int → zy_O} : zy_th (.inl (k, a)) f = .inl (k, a) := rfl
theorem zy_th_s {p : Nat} {g : Bool} {l : List Int} {f : Nat → Bool → List Int → zy_O} : zy_th (.inr (p, g, l)) f = f p g l := rfl
/-- behind a call that told a level: a fault goes on up, else the rest -/
theorem zy_bind {h : zm_H} {x : Option (zm_V × zm_H)} {o : zy_O} {k : Int → zm_H → Option (zm_V × zm_H)} {kk : Nat → Bool → List Int → zy_O} (hx : zi x (zy_Q pf T n h o)) (hl : ∀ g, zi (k 0 g) (fun z g' => z = 0 ∧ g' = g)) (hr : ∀ p g l h2, o = .inr (p, g, l) → zq_F (zf_Ex pf) h h2 → zy_K h2 pf T n p g l → zi (k 1 h2) (zy_Q pf T n h2 (kk p g l))) : zi (zk_I x k) (zy_Q pf T n h (zy_th o kk)) := by
  refine zt_I hx ?_
  rintro z g ⟨f, ⟨a1, a2, rfl, rfl, q1, q2⟩ | ⟨p, g', l, e, rfl, K⟩⟩
  · rw [zy_th_l]
    refine zi_m (hl g) (fun z g2 q => ?_)
    rw [q.1, q.2]
    exact ⟨f, Or.inl ⟨a1, a2, rfl, rfl, q1, q2⟩⟩
  · rw [e, zy_th_s]
    exact zi_m (hr p g' l g e (zf_Eo_r f e) K) (fun z g2 q => zy_Q_tr (zf_Eo_r f e) q)
theorem zy_class (hpf : zf_F pf) : ∀ f : Nat, (∀ (d p : Nat) (gl : Bool) (l : List Int) (h : zm_H), zy_ok T n f 6 d p l → zy_K h pf T n p gl l → zi (zc 99 [zm_A 29, zm_I d] h) (zy_Q pf T n h (zy_X T n f 0 d p gl l))) ∧ (∀ (d p : Nat) (gl : Bool) (l : List Int) (h : zm_H) (x2 : Nat), zy_ok T n f 7 d p l → x2 ≤ p → zy_K h pf T n p gl l → zi (zr none (zm_rk 99 [zm_A 29, zm_I d]) 99 12 [zm_A 29, zm_I d, zm_I x2] [] h) (zy_Q pf T n h (zy_X T n f 1 d p gl l))) ∧ (∀ (d p : Nat) (gl : Bool) (l : List Int) (h : zm_H), zy_ok T n f 5 d p l → zy_K h pf T n p gl l → zi (zc 100 [zm_A 29, zm_I d] h) (zy_Q pf T n h (zy_X T n f 2 d p gl l))) ∧ (∀ (d p : Nat) (gl : Bool) (l : List Int) (h : zm_H) (x2 : Nat), zy_ok T n f 7 d p l → x2 ≤ p → zy_K h pf T n p gl l → zi (zr none (zm_rk 100 [zm_A 29, zm_I d]) 100 12 [zm_A 29, zm_I d, zm_I x2] [] h) (zy_Q pf T n h (zy_X T n f 3 d p gl l))) ∧ (∀ (d p : Nat) (gl : Bool) (l : List Int) (h : zm_H), zy_ok T n f 4 d p l → zy_K h pf T n p gl l → zi (zc 101 [zm_A 29, zm_I d] h) (zy_Q pf T n h (zy_X T n f 4 d p gl l))) ∧ (∀ (d p : Nat) (gl : Bool) (l : List Int) (h : zm_H), zy_ok T n f 3 d p l → zy_K h pf T n p gl l → zi (zc 90 [zm_A 29, zm_I d] h) (zy_Q pf T n h (zy_X T n f 5 d p gl l))) ∧ (∀ (d p : Nat) (gl : Bool) (l : List Int) (h : zm_H) (x2 : Nat) (w3 : zm_V), zy_ok T n f 7 d p l → x2 ≤ p → zy_K h pf T n p gl l → zi (zr none (zm_rk 90 [zm_A 29, zm_I d]) 90 12 [zm_A 29, zm_I d, zm_I x2, w3] [] h) (zy_Q pf T n h (zy_X T n f 6 d p gl l))) ∧ (∀ (d p : Nat) (gl : Bool) (l : List Int) (h : zm_H), zy_ok T n f 2 d p l → zy_K h pf T n p gl l → zi (zc 91 [zm_A 29, zm_I d] h) (zy_Q pf T n h (zy_X T n f 7 d p gl l))) ∧ (∀ (d p : Nat) (gl : Bool) (l : List Int) (h : zm_H) (x2 : Nat) (w3 : zm_V), zy_ok T n f 7 d p l → x2 ≤ p → zy_K h pf T n p gl l → zi (zr none (zm_rk 91 [zm_A 29, zm_I d]) 91 12 [zm_A 29, zm_I d, zm_I x2, w3] [] h) (zy_Q pf T n h (zy_X T n f 8 d p gl l))) ∧ (∀ (d p : Nat) (gl : Bool) (l : List Int) (h : zm_H), zy_ok T n f 1 d p l → zy_K h pf T n p gl l → zi (zc 92 [zm_A 29, zm_I d] h) (zy_Q pf T n h (zy_X T n f 9 d p gl l))) ∧ (∀ (d p : Nat) (gl : Bool) (l : List Int) (h : zm_H), zy_ok T n f 0 d p l → zy_ty T n p gl = 1 → zy_K h pf T n p gl l → zi (zc 95 [zm_A 29, zm_I d, zm_I (-16)] h) (zy_Q pf T n h (zy_X T n f 10 d p gl l))) ∧ (∀ (d p : Nat) (gl : Bool) (l : List Int) (h : zm_H), zy_ok T n f 0 d p l → zy_ty T n p gl = 1 → zy_K h pf T n p gl l → zi (zc 95 [zm_A 29, zm_I d, zm_I (-17)] h) (zy_Q pf T n h (zy_X T n f 11 d p gl l))) := by
  have len1 : ∀ (l : List Int) (x : Int), (l ++ [x]).length = l.length + 1 := fun l x => by rw [List.length_append]; rfl
  intro f
  induction f with
  | zero =>
    refine ⟨?_, ?_, ?_, ?_, ?_, ?_, ?_, ?_, ?_, ?_, ?_, ?_⟩
    all_goals (intros; exfalso; unfold zy_ok at *; omega)
  | succ f ih =>
    obtain ⟨H0, H1, H2, H3, H4, H5, H6, H7, H8, H9, H10, H11⟩ := ih
    refine ⟨?_, ?_, ?_, ?_, ?_, ?_, ?_, ?_, ?_, ?_, ?_, ?_⟩
    · intro d p gl l h ok K
      obtain ⟨o1, o2, o3, o4⟩ := ok
      rw [zy_X0, c_99]
      refine zt_l e_99 (zt_c (by rw [rk100, rk99]; omega) (zy_bind (H2 d p gl l h ⟨by omega, o2, o3, o4⟩ K) (fun g => zt_t rfl (zt_c (Or.inl rfl) (zi_e ⟨rfl, rfl⟩))) (fun p1 g1 l1 h2 e fr K1 => ?_)))
      have pr := zy_X_pr f 2 d p gl l p1 g1 l1 (by decide) e o2 (fun q => by omega)
      unfold zy_pr at pr
      exact zt_f (by decide) (H1 d p1 g1 l1 h2 0 ⟨by omega, by omega, o3, by omega⟩ (Nat.zero_le _) K1)
    · intro d p gl l h x2 ok hx K
      obtain ⟨o1, o2, o3, o4⟩ := ok
      have hn := K.2.1.1
      rw [zy_X1]
      refine zt_l (e_99_12 hpf) (zt_p (fun q => zt_c (by rw [rk99]; omega) ?_) (fun q => ?_))
      · refine zt_I (s_138 K.2.2.1 19) ?_
        rintro z g ⟨rfl, rfl⟩
        by_cases w : zy_ow T n p gl = 19
        · rw [if_pos w, if_pos w]
          have t1 := zy_ow_ty (T := T) (n := n) (p := p) (g := gl) (by rw [w]; decide)
          have og := zy_en_gt (T := T) (g := gl) o2 (by omega)
          refine zt_f (by decide) (zt_c (by rw [rk99]; omega) (zt_V (s_133a K.2.1 K.2.2.1 o2 (by omega)) ?_))
          rintro g2 ⟨f2, c2⟩
          refine zt_c (by rw [rk100, rk99]; omega) (zi_m (zy_bind (H2 d _ _ l g2 ⟨by omega, og.2, o3, by omega⟩ (K.adv hpf f2 c2)) (fun g => zt_t rfl (zt_c (Or.inl rfl) (zi_e ⟨rfl, rfl⟩))) (fun p1 g1 l1 h2 e fr K1 => ?_)) (fun z g3 r => zy_Q_tr (zf_Sc_Ex f2) r))
          have pr := zy_X_pr f 2 d _ _ l p1 g1 l1 (by decide) e og.2 (fun q => by omega)
          unfold zy_pr at pr
          refine zt_f (by decide) (zt_c K1.1 (zt_c (by rw [rk99]; omega) (zt_V (s_63 hpf K1 (by omega) (-23)) ?_)))
          rintro g4 ⟨f4, K4⟩
          rw [show (x2 : Int) + 1 = ((x2 + 1 : Nat) : Int) by omega]
          have e1 := len1 l1 (-23)
          exact zt_c (by omega) (zi_m (H1 d p1 g1 _ g4 (x2 + 1) ⟨by omega, by omega, o3, by omega⟩ (by omega) K4) (fun z g5 r => zy_Q_tr f4 r))
        · rw [if_neg w, if_neg w]
          exact zt_t rfl (zt_c (Or.inr rfl) (zi_e (zy_Q_r zq_F_rf K)))
      · have hp : p = n := by omega
        rw [if_neg (fun w => by have := zy_ow_ty (T := T) (n := n) (p := p) (g := gl) (by rw [w]; decide); rw [zy_end hp] at this; cases this)]
        exact zt_c (Or.inr rfl) (zi_e (zy_Q_r zq_F_rf K))
    · intro d p gl l h ok K
      obtain ⟨o1, o2, o3, o4⟩ := ok
      rw [zy_X2, c_100]
      refine zt_l e_100 (zt_c (by rw [rk101, rk100]; omega) (zy_bind (H4 d p gl l h ⟨by omega, o2, o3, o4⟩ K) (fun g => zt_t rfl (zt_c (Or.inl rfl) (zi_e ⟨rfl, rfl⟩))) (fun p1 g1 l1 h2 e fr K1 => ?_)))
      have pr := zy_X_pr f 4 d p gl l p1 g1 l1 (by decide) e o2 (fun q => by omega)
      unfold zy_pr at pr
      exact zt_f (by decide) (H3 d p1 g1 l1 h2 0 ⟨by omega, by omega, o3, by omega⟩ (Nat.zero_le _) K1)
    · intro d p gl l h x2 ok hx K
      obtain ⟨o1, o2, o3, o4⟩ := ok
      have hn := K.2.1.1
      rw [zy_X3]
      refine zt_l (e_100_12 hpf) (zt_p (fun q => zt_c (by rw [rk100]; omega) ?_) (fun q => ?_))
      · refine zt_I (s_138 K.2.2.1 20) ?_
        rintro z g ⟨rfl, rfl⟩
        by_cases w : zy_ow T n p gl = 20
        · rw [if_pos w, if_pos w]
          have t1 := zy_ow_ty (T := T) (n := n) (p := p) (g := gl) (by rw [w]; decide)
          have og := zy_en_gt (T := T) (g := gl) o2 (by omega)
          refine zt_f (by decide) (zt_c (by rw [rk100]; omega) (zt_V (s_133a K.2.1 K.2.2.1 o2 (by omega)) ?_))
          rintro g2 ⟨f2, c2⟩
          refine zt_c (by rw [rk101, rk100]; omega) (zi_m (zy_bind (H4 d _ _ l g2 ⟨by omega, og.2, o3, by omega⟩ (K.adv hpf f2 c2)) (fun g => zt_t rfl (zt_c (Or.inl rfl) (zi_e ⟨rfl, rfl⟩))) (fun p1 g1 l1 h2 e fr K1 => ?_)) (fun z g3 r => zy_Q_tr (zf_Sc_Ex f2) r))
          have pr := zy_X_pr f 4 d _ _ l p1 g1 l1 (by decide) e og.2 (fun q => by omega)
          unfold zy_pr at pr
          refine zt_f (by decide) (zt_c K1.1 (zt_c (by rw [rk100]; omega) (zt_V (s_63 hpf K1 (by omega) (-22)) ?_)))
          rintro g4 ⟨f4, K4⟩
          rw [show (x2 : Int) + 1 = ((x2 + 1 : Nat) : Int) by omega]
          have e1 := len1 l1 (-22)
          exact zt_c (by omega) (zi_m (H3 d p1 g1 _ g4 (x2 + 1) ⟨by omega, by omega, o3, by omega⟩ (by omega) K4) (fun z g5 r => zy_Q_tr f4 r))
        · rw [if_neg w, if_neg w]
          exact zt_t rfl (zt_c (Or.inr rfl) (zi_e (zy_Q_r zq_F_rf K)))
      · have hp : p = n := by omega
        rw [if_neg (fun w => by have := zy_ow_ty (T := T) (n := n) (p := p) (g := gl) (by rw [w]; decide); rw [zy_end hp] at this; cases this)]
        exact zt_c (Or.inr rfl) (zi_e (zy_Q_r zq_F_rf K))
    · intro d p gl l h ok K
      obtain ⟨o1, o2, o3, o4⟩ := ok
      have hn := K.2.1.1
      have hC := K.2.2.1
      rw [zy_X4, c_101 hpf]
      refine zt_l (e_101 hpf) (zt_c (by rw [rk101]; omega) (zt_I (s_138 hC 21) ?_))
      rintro z g ⟨rfl, rfl⟩
      by_cases w : zy_ow T n p gl = 21
      · rw [if_pos w, if_pos w]
        have t1 := zy_ow_ty (T := T) (n := n) (p := p) (g := gl) (by rw [w]; decide)
        have og := zy_en_gt (T := T) (g := gl) o2 (by omega)
        refine zt_f (by decide) (zt_c (by rw [rk101]; omega) (zt_I (s_93 hpf K o2 (by omega)) ?_))
        rintro z g2 (⟨rfl, hd, f2, K2⟩ | ⟨rfl, hd, ft⟩)
        · rw [if_neg (show ¬ 7 ≤ d by omega)]
          refine zt_f (by decide) ?_
          rw [show (d : Int) + 1 = ((d + 1 : Nat) : Int) by omega]
          refine zt_c (by omega) (zt_c (by rw [rk101, rk101]; omega) (zi_m (zy_bind (H4 (d + 1) _ _ l g2 ⟨by omega, og.2, by omega, by omega⟩ K2) (fun g => zt_t rfl (zt_c (Or.inl rfl) (zi_e ⟨rfl, rfl⟩))) (fun p1 g1 l1 h2 e fr K1 => ?_)) (fun z g3 r => zy_Q_tr (zf_Sc_Ex f2) r)))
          have pr := zy_X_pr f 4 (d + 1) _ _ l p1 g1 l1 (by decide) e og.2 (fun q => by omega)
          unfold zy_pr at pr
          refine zt_f (by decide) (zt_c K1.1 (zt_c (by rw [rk101]; omega) (zt_V (s_63 hpf K1 (by omega) (-21)) ?_)))
          rintro g4 ⟨f4, K4⟩
          exact zt_c (Or.inr rfl) (zi_e (zy_Q_r f4 K4))
        · rw [if_pos hd]
          exact zt_t rfl (zt_c (Or.inl rfl) (zi_e (zy_Q_l zq_F_rf ft)))
      rw [if_neg w, if_neg w]
      refine zt_t rfl (zt_c (by rw [rk101]; omega) (zt_I (s_139s hC 91) ?_))
      rintro z g ⟨rfl, rfl⟩
      by_cases w2 : zy_sg T n p gl 91 = true
      · rw [if_pos w2, if_pos w2]
        have t1 := (zy_sg_ty w2).1
        have og := zy_en_gt (T := T) (g := gl) o2 (by omega)
        refine zt_f (by decide) (zt_c (by rw [rk101]; omega) (zt_I (s_93 hpf K o2 (by omega)) ?_))
        rintro z g2 (⟨rfl, hd, f2, K2⟩ | ⟨rfl, hd, ft⟩)
        · rw [if_neg (show ¬ 7 ≤ d by omega)]
          refine zt_f (by decide) ?_
          rw [show (d : Int) + 1 = ((d + 1 : Nat) : Int) by omega]
          refine zt_c (by omega) (zt_c (by rw [rk99, rk101]; omega) (zi_m (zy_bind (H0 (d + 1) _ _ l g2 ⟨by omega, og.2, by omega, by omega⟩ K2) (fun g => zt_t rfl (zt_c (Or.inl rfl) (zi_e ⟨rfl, rfl⟩))) (fun p1 g1 l1 h2 e fr K1 => ?_)) (fun z g3 r => zy_Q_tr (zf_Sc_Ex f2) r)))
          have pr := zy_X_pr f 0 (d + 1) _ _ l p1 g1 l1 (by decide) e og.2 (fun q => by omega)
          unfold zy_pr at pr
          refine zt_f (by decide) (zt_c (by rw [rk101]; omega) (zt_I (s_94 K1.2.1 K1.2.2.1 (by omega) 93) ?_))
          rintro z g4 (⟨rfl, q, f4, c4⟩ | ⟨rfl, q, ft⟩)
          · rw [if_pos (show zy_sg T n p1 g1 93 = true from decide_eq_true q)]
            exact zt_f (by decide) (zt_c (Or.inr rfl) (zi_e (zy_Q_r (zf_Sc_Ex f4) (K1.adv hpf f4 c4))))
          · rw [if_neg (show ¬ zy_sg T n p1 g1 93 = true from fun r => q (zy_sg_ty r))]
            exact zt_t rfl (zt_c (Or.inl rfl) (zi_e (zy_Q_l zq_F_rf ft)))
        · rw [if_pos hd]
          exact zt_t rfl (zt_c (Or.inl rfl) (zi_e (zy_Q_l zq_F_rf ft)))
      rw [if_neg w2, if_neg w2]
      refine zt_t rfl (zt_c (by rw [rk101]; omega) (zt_I (s_138 hC 22) ?_))
      rintro z g ⟨rfl, rfl⟩
      by_cases w3 : zy_ow T n p gl = 22
      · rw [if_pos w3, if_pos w3]
        have t1 := zy_ow_ty (T := T) (n := n) (p := p) (g := gl) (by rw [w3]; decide)
        have og := zy_en_gt (T := T) (g := gl) o2 (by omega)
        refine zt_f (by decide) (zt_c K.1 (zt_c (by rw [rk101]; omega) (zt_V (s_63 hpf K (by omega) 1) ?_)))
        rintro g4 ⟨f4, K4⟩
        refine zt_c (by rw [rk101]; omega) (zt_V (s_133a K4.2.1 K4.2.2.1 o2 (by omega)) ?_)
        rintro g5 ⟨f5, c5⟩
        exact zt_c (Or.inr rfl) (zi_e (zy_Q_r (zq_F_tr f4 (zf_Sc_Ex f5)) (K4.adv hpf f5 c5)))
      rw [if_neg w3, if_neg w3]
      refine zt_t rfl (zt_c (by rw [rk90, rk101]; omega) (zy_bind (H5 d p gl l _ ⟨by omega, o2, o3, o4⟩ K) (fun g => zt_t rfl (zt_c (Or.inl rfl) (zi_e ⟨rfl, rfl⟩))) (fun p1 g1 l1 h2 e fr K1 => ?_)))
      have pr := zy_X_pr f 5 d p gl l p1 g1 l1 (by decide) e o2 (fun q => by omega)
      unfold zy_pr at pr
      refine zt_f (by decide) (zt_c (by rw [rk101]; omega) (zt_I (s_102 K1.2.2.1) ?_))
      rintro z g ⟨rfl, rfl⟩
      by_cases w4 : zy_cm T n p1 g1 = 0
      · rw [if_pos w4, if_pos w4]
        refine zt_c (by rw [rk101]; omega) (zt_I (s_79 K1.2.2.1) ?_)
        rintro z g3 ⟨rfl, rfl⟩
        exact zt_c (Or.inl rfl) (zi_e (zy_Q_l zq_F_rf rfl))
      rw [if_neg w4, if_neg w4]
      have t4 := zy_cm_ty w4
      have o4' := zy_en_gt (T := T) (g := g1) pr.1 (by omega)
      refine zt_c (by rw [rk101]; omega) (zt_V (s_133a K1.2.1 K1.2.2.1 pr.1 (by omega)) ?_)
      rintro g5 ⟨f5, c5⟩
      refine zt_c (by rw [rk90, rk101]; omega) (zi_m (zy_bind (H5 d _ _ l1 g5 ⟨by omega, o4'.2, o3, by omega⟩ (K1.adv hpf f5 c5)) (fun g => zt_t rfl (zt_c (Or.inl rfl) (zi_e ⟨rfl, rfl⟩))) (fun p3 g3 l3 h3 e3 fr3 K3 => ?_)) (fun z g3 r => zy_Q_tr (zf_Sc_Ex f5) r))
      have pr3 := zy_X_pr f 5 d _ _ l1 p3 g3 l3 (by decide) e3 o4'.2 (fun q => by omega)
      unfold zy_pr at pr3
      refine zt_f (by decide) (zt_c K3.1 (zt_c (by rw [rk101]; omega) (zt_V (s_63 hpf K3 (by omega) (zy_cm T n p1 g1)) ?_)))
      rintro g6 ⟨f6, K6⟩
      exact zt_c (Or.inr rfl) (zi_e (zy_Q_r f6 K6))
    · intro d p gl l h ok K
      obtain ⟨o1, o2, o3, o4⟩ := ok
      rw [zy_X5, c_90]
      refine zt_l e_90 (zt_c (by rw [rk91, rk90]; omega) (zy_bind (H7 d p gl l h ⟨by omega, o2, o3, o4⟩ K) (fun g => zt_t rfl (zt_c (Or.inl rfl) (zi_e ⟨rfl, rfl⟩))) (fun p1 g1 l1 h2 e fr K1 => ?_)))
      have pr := zy_X_pr f 7 d p gl l p1 g1 l1 (by decide) e o2 (fun q => by omega)
      unfold zy_pr at pr
      exact zt_f (by decide) (H6 d p1 g1 l1 h2 0 _ ⟨by omega, by omega, o3, by omega⟩ (Nat.zero_le _) K1)
    · intro d p gl l h x2 w3 ok hx K
      obtain ⟨o1, o2, o3, o4⟩ := ok
      have hn := K.2.1.1
      rw [zy_X6]
      refine zt_l (e_90_12 hpf) (zt_p (fun q => zt_c (by rw [rk90]; omega) ?_) (fun q => ?_))
      · refine zt_I (s_98 K.2.2.1) ?_
        rintro z g ⟨rfl, rfl⟩
        by_cases w : zy_ad T n p gl = 0
        · rw [if_pos w, if_pos w]
          exact zt_c (Or.inr rfl) (zi_e (zy_Q_r zq_F_rf K))
        · rw [if_neg w, if_neg w]
          have t1 := zy_ad_ty w
          have og := zy_en_gt (T := T) (g := gl) o2 (by omega)
          refine zt_c (by rw [rk90]; omega) (zt_V (s_133a K.2.1 K.2.2.1 o2 (by omega)) ?_)
          rintro g2 ⟨f2, c2⟩
          refine zt_c (by rw [rk91, rk90]; omega) (zi_m (zy_bind (H7 d _ _ l g2 ⟨by omega, og.2, o3, by omega⟩ (K.adv hpf f2 c2)) (fun g => zt_t rfl (zt_c (Or.inl rfl) (zi_e ⟨rfl, rfl⟩))) (fun p1 g1 l1 h2 e fr K1 => ?_)) (fun z g3 r => zy_Q_tr (zf_Sc_Ex f2) r))
          have pr := zy_X_pr f 7 d _ _ l p1 g1 l1 (by decide) e og.2 (fun q => by omega)
          unfold zy_pr at pr
          refine zt_f (by decide) (zt_c K1.1 (zt_c (by rw [rk90]; omega) (zt_V (s_63 hpf K1 (by omega) (zy_ad T n p gl)) ?_)))
          rintro g4 ⟨f4, K4⟩
          rw [show (x2 : Int) + 1 = ((x2 + 1 : Nat) : Int) by omega]
          have e1 := len1 l1 (zy_ad T n p gl)
          exact zt_c (by omega) (zi_m (H6 d p1 g1 _ g4 (x2 + 1) _ ⟨by omega, by omega, o3, by omega⟩ (by omega) K4) (fun z g5 r => zy_Q_tr f4 r))
      · have hp : p = n := by omega
        rw [if_pos (Classical.byContradiction (fun w => by have := zy_ad_ty w; rw [zy_end hp] at this; cases this))]
        exact zt_c (Or.inr rfl) (zi_e (zy_Q_r zq_F_rf K))
    · intro d p gl l h ok K
      obtain ⟨o1, o2, o3, o4⟩ := ok
      rw [zy_X7, c_91]
      refine zt_l e_91 (zt_c (by rw [rk92, rk91]; omega) (zy_bind (H9 d p gl l h ⟨by omega, o2, o3, o4⟩ K) (fun g => zt_t rfl (zt_c (Or.inl rfl) (zi_e ⟨rfl, rfl⟩))) (fun p1 g1 l1 h2 e fr K1 => ?_)))
      have pr := zy_X_pr f 9 d p gl l p1 g1 l1 (by decide) e o2 (fun q => by omega)
      unfold zy_pr at pr
      exact zt_f (by decide) (H8 d p1 g1 l1 h2 0 _ ⟨by omega, by omega, o3, by omega⟩ (Nat.zero_le _) K1)
    · intro d p gl l h x2 w3 ok hx K
      obtain ⟨o1, o2, o3, o4⟩ := ok
      have hn := K.2.1.1
      rw [zy_X8]
      refine zt_l (e_91_12 hpf) (zt_p (fun q => zt_c (by rw [rk91]; omega) ?_) (fun q => ?_))
      · refine zt_I (s_97 K.2.2.1) ?_
        rintro z g ⟨rfl, rfl⟩
        by_cases w : zy_mu T n p gl = 0
        · rw [if_pos w, if_pos w]
          exact zt_c (Or.inr rfl) (zi_e (zy_Q_r zq_F_rf K))
        · rw [if_neg w, if_neg w]
          have t1 := zy_mu_ty w
          have og := zy_en_gt (T := T) (g := gl) o2 (by omega)
          refine zt_c (by rw [rk91]; omega) (zt_V (s_133a K.2.1 K.2.2.1 o2 (by omega)) ?_)
          rintro g2 ⟨f2, c2⟩
          refine zt_c (by rw [rk92, rk91]; omega) (zi_m (zy_bind (H9 d _ _ l g2 ⟨by omega, og.2, o3, by omega⟩ (K.adv hpf f2 c2)) (fun g => zt_t rfl (zt_c (Or.inl rfl) (zi_e ⟨rfl, rfl⟩))) (fun p1 g1 l1 h2 e fr K1 => ?_)) (fun z g3 r => zy_Q_tr (zf_Sc_Ex f2) r))
          have pr := zy_X_pr f 9 d _ _ l p1 g1 l1 (by decide) e og.2 (fun q => by omega)
          unfold zy_pr at pr
          refine zt_f (by decide) (zt_c K1.1 (zt_c (by rw [rk91]; omega) (zt_V (s_63 hpf K1 (by omega) (zy_mu T n p gl)) ?_)))
          rintro g4 ⟨f4, K4⟩
          rw [show (x2 : Int) + 1 = ((x2 + 1 : Nat) : Int) by omega]
          have e1 := len1 l1 (zy_mu T n p gl)
          exact zt_c (by omega) (zi_m (H8 d p1 g1 _ g4 (x2 + 1) _ ⟨by omega, by omega, o3, by omega⟩ (by omega) K4) (fun z g5 r => zy_Q_tr f4 r))
      · have hp : p = n := by omega
        rw [if_pos (Classical.byContradiction (fun w => by have := zy_mu_ty w; rw [zy_end hp] at this; cases this))]
        exact zt_c (Or.inr rfl) (zi_e (zy_Q_r zq_F_rf K))
    · intro d p gl l h ok K
      obtain ⟨o1, o2, o3, o4⟩ := ok
      have hn := K.2.1.1
      have hC := K.2.2.1
      rw [zy_X9, c_92 hpf]
      refine zt_l (e_92 hpf) (zt_c (by rw [rk92]; omega) (zt_I (s_139s hC 40) ?_))
      rintro z g ⟨rfl, rfl⟩
      by_cases w2 : zy_sg T n p gl 40 = true
      · rw [if_pos w2, if_pos w2]
        have t1 := (zy_sg_ty w2).1
        have og := zy_en_gt (T := T) (g := gl) o2 (by omega)
        refine zt_f (by decide) (zt_c (by rw [rk92]; omega) (zt_I (s_93 hpf K o2 (by omega)) ?_))
        rintro z g2 (⟨rfl, hd, f2, K2⟩ | ⟨rfl, hd, ft⟩)
        · rw [if_neg (show ¬ 7 ≤ d by omega)]
          refine zt_f (by decide) ?_
          rw [show (d : Int) + 1 = ((d + 1 : Nat) : Int) by omega]
          refine zt_c (by omega) (zt_c (by rw [rk90, rk92]; omega) (zi_m (zy_bind (H5 (d + 1) _ _ l g2 ⟨by omega, og.2, by omega, by omega⟩ K2) (fun g => zt_t rfl (zt_c (Or.inl rfl) (zi_e ⟨rfl, rfl⟩))) (fun p1 g1 l1 h2 e fr K1 => ?_)) (fun z g3 r => zy_Q_tr (zf_Sc_Ex f2) r)))
          have pr := zy_X_pr f 5 (d + 1) _ _ l p1 g1 l1 (by decide) e og.2 (fun q => by omega)
          unfold zy_pr at pr
          refine zt_f (by decide) (zt_c (by rw [rk92]; omega) (zt_I (s_94 K1.2.1 K1.2.2.1 (by omega) 41) ?_))
          rintro z g4 (⟨rfl, q, f4, c4⟩ | ⟨rfl, q, ft⟩)
          · rw [if_pos (show zy_sg T n p1 g1 41 = true from decide_eq_true q)]
            exact zt_f (by decide) (zt_c (Or.inr rfl) (zi_e (zy_Q_r (zf_Sc_Ex f4) (K1.adv hpf f4 c4))))
          · rw [if_neg (show ¬ zy_sg T n p1 g1 41 = true from fun r => q (zy_sg_ty r))]
            exact zt_t rfl (zt_c (Or.inl rfl) (zi_e (zy_Q_l zq_F_rf ft)))
        · rw [if_pos hd]
          exact zt_t rfl (zt_c (Or.inl rfl) (zi_e (zy_Q_l zq_F_rf ft)))
      rw [if_neg w2, if_neg w2]
      refine zt_t rfl (zt_c (by rw [rk92]; omega) (zt_I (s_138 hC 23) ?_))
      rintro z g ⟨rfl, rfl⟩
      have bit : ∀ {o : zy_O} {z : Int} {k : zm_H}, zy_Q pf T n g o z k → zm_bit z := by
        rintro o z k ⟨-, ⟨_, _, _, rfl, -⟩ | ⟨_, _, _, _, rfl, -⟩⟩
        · exact Or.inl rfl
        · exact Or.inr rfl
      by_cases w3 : zy_ow T n p gl = 23
      · rw [if_pos w3, if_pos w3]
        refine zt_f (by decide) (zt_c (by rw [rk95, rk92]; omega) (zt_I (H10 d p gl l g ⟨by omega, o2, o3, o4⟩ (zy_ow_ty (by rw [w3]; decide)) K) ?_))
        intro z k q
        exact zt_c (bit q) (zi_e q)
      rw [if_neg w3, if_neg w3]
      refine zt_t rfl (zt_c (by rw [rk92]; omega) (zt_I (s_138 hC 24) ?_))
      rintro z g ⟨rfl, rfl⟩
      by_cases w4 : zy_ow T n p gl = 24
      · rw [if_pos w4, if_pos w4]
        refine zt_f (by decide) (zt_c (by rw [rk95, rk92]; omega) (zt_I (H11 d p gl l _ ⟨by omega, o2, o3, o4⟩ (zy_ow_ty (by rw [w4]; decide)) K) ?_))
        intro z k q
        exact zt_c (bit q) (zi_e q)
      rw [if_neg w4, if_neg w4]
      refine zt_t rfl ?_
      rw [hC.1]
      by_cases w5 : zy_ty T n p gl = 2
      · rw [if_pos w5]
        have og := zy_en_gt (T := T) (g := gl) o2 (by omega)
        rw [hC.2.2.2.2.2.2.1 w5]
        refine zt_t (by omega) (zt_c K.1 (zt_c (by rw [rk92]; omega) (zt_V (s_63 hpf K (by omega) _) ?_)))
        rintro g4 ⟨f4, K4⟩
        refine zt_c (by rw [rk92]; omega) (zt_V (s_133a K4.2.1 K4.2.2.1 o2 (by omega)) ?_)
        rintro g5 ⟨f5, c5⟩
        exact zt_c (Or.inr rfl) (zi_e (zy_Q_r (zq_F_tr f4 (zf_Sc_Ex f5)) (K4.adv hpf f5 c5)))
      rw [if_neg w5]
      refine zt_f (by omega) (zt_c (by rw [rk92]; omega) ?_)
      rw [hC.2.2.2.1]
      refine zt_I (s_96 _) ?_
      rintro z g2 ⟨rfl, rfl⟩
      by_cases w6 : zy_se (zy_ow T n p gl) = 0
      · rw [if_pos w6, if_pos w6]
        refine zt_t rfl (zt_c (by rw [rk92]; omega) (zt_I (s_79 hC) ?_))
        rintro z g3 ⟨rfl, rfl⟩
        exact zt_c (Or.inl rfl) (zi_e (zy_Q_l zq_F_rf rfl))
      rw [if_neg w6, if_neg w6]
      have t1 := zy_ow_ty (T := T) (n := n) (p := p) (g := gl) (fun e => w6 (by rw [e]; rfl))
      have og := zy_en_gt (T := T) (g := gl) o2 (by omega)
      have bs : -6 ≤ zy_se (zy_ow T n p gl) ∧ zy_se (zy_ow T n p gl) ≤ -1 := by
        unfold zy_se at w6 ⊢
        omega
      rw [show (-1 : Int) - (-1 - zy_se (zy_ow T n p gl)) = zy_se (zy_ow T n p gl) by omega]
      refine zt_f (by omega) (zt_c K.1 (zt_c (by omega) (zt_c (by rw [rk92]; omega) (zt_V (s_63 hpf K (by omega) _) ?_))))
      rintro g4 ⟨f4, K4⟩
      refine zt_c (by rw [rk92]; omega) (zt_V (s_133a K4.2.1 K4.2.2.1 o2 (by omega)) ?_)
      rintro g5 ⟨f5, c5⟩
      exact zt_c (Or.inr rfl) (zi_e (zy_Q_r (zq_F_tr f4 (zf_Sc_Ex f5)) (K4.adv hpf f5 c5)))
    · intro d p gl l h ok t1 K
      obtain ⟨o1, o2, o3, o4⟩ := ok
      have hn := K.2.1.1
      have hC := K.2.2.1
      have og := zy_en_gt (T := T) (g := gl) o2 (by omega)
      rw [zy_X10, c_95 hpf]
      refine zt_l (e_95 hpf) (zt_c (by rw [rk95]; omega) (zt_V (s_133a K.2.1 hC o2 (by omega)) ?_))
      rintro ga ⟨fa, ca⟩
      have Ka := K.adv hpf fa ca
      refine zt_c (by rw [rk95]; omega) (zt_I (s_139s ca 40) ?_)
      rintro z g ⟨rfl, rfl⟩
      by_cases w2 : zy_sg T n (zy_en T n p) (zy_ng T n p gl) 40 = true
      · rw [if_pos w2, if_pos w2]
        have t2 := (zy_sg_ty w2).1
        have og2 := zy_en_gt (T := T) (g := zy_ng T n p gl) og.2 (by omega)
        refine zt_f (by decide) (zt_c (by rw [rk95]; omega) (zt_I (s_93 hpf Ka og.2 (by omega)) ?_))
        rintro z g2 (⟨rfl, hd, f2, K2⟩ | ⟨rfl, hd, ft⟩)
        · rw [if_neg (show ¬ 7 ≤ d by omega)]
          refine zt_f (by decide) ?_
          rw [show (d : Int) + 1 = ((d + 1 : Nat) : Int) by omega]
          refine zt_c (by omega) (zt_c (by rw [rk90, rk95]; omega) (zi_m (zy_bind (H5 (d + 1) _ _ l g2 ⟨by omega, og2.2, by omega, by omega⟩ K2) (fun g => zt_t rfl (zt_c (Or.inl rfl) (zi_e ⟨rfl, rfl⟩))) (fun p1 g1 l1 h2 e fr K1 => ?_)) (fun z g3 r => zy_Q_tr (zq_F_tr (zf_Sc_Ex fa) (zf_Sc_Ex f2)) r)))
          have pr := zy_X_pr f 5 (d + 1) _ _ l p1 g1 l1 (by decide) e og2.2 (fun q => by omega)
          unfold zy_pr at pr
          refine zt_f (by decide) (zt_c (by rw [rk95]; omega) (zt_I (s_94 K1.2.1 K1.2.2.1 (by omega) 44) ?_))
          rintro z g4 (⟨rfl, q, f4, c4⟩ | ⟨rfl, q, ft⟩)
          · rw [if_pos (show zy_sg T n p1 g1 44 = true from decide_eq_true q)]
            have og4 := zy_en_gt (T := T) (g := g1) pr.1 (by omega)
            refine zt_f (by decide) (zt_c (by omega) (zt_c (by rw [rk90, rk95]; omega) (zi_m (zy_bind (H5 (d + 1) _ _ l1 g4 ⟨by omega, og4.2, by omega, by omega⟩ (K1.adv hpf f4 c4)) (fun g => zt_t rfl (zt_c (Or.inl rfl) (zi_e ⟨rfl, rfl⟩))) (fun p3 g3 l3 h3 e3 fr3 K3 => ?_)) (fun z g3 r => zy_Q_tr (zf_Sc_Ex f4) r))))
            have pr3 := zy_X_pr f 5 (d + 1) _ _ l1 p3 g3 l3 (by decide) e3 og4.2 (fun q => by omega)
            unfold zy_pr at pr3
            refine zt_f (by decide) (zt_c (by rw [rk95]; omega) (zt_I (s_94 K3.2.1 K3.2.2.1 (by omega) 41) ?_))
            rintro z g6 (⟨rfl, q6, f6, c6⟩ | ⟨rfl, q6, ft⟩)
            · rw [if_pos (show zy_sg T n p3 g3 41 = true from decide_eq_true q6)]
              have K6 := K3.adv hpf f6 c6
              refine zt_f (by decide) (zt_c K6.1 (zt_c (by rw [rk95]; omega) (zt_V (s_63 hpf K6 (by omega) (-16)) ?_)))
              rintro g7 ⟨f7, K7⟩
              exact zt_c (Or.inr rfl) (zi_e (zy_Q_r (zq_F_tr (zf_Sc_Ex f6) f7) K7))
            · rw [if_neg (show ¬ zy_sg T n p3 g3 41 = true from fun r => q6 (zy_sg_ty r))]
              exact zt_t rfl (zt_c (Or.inl rfl) (zi_e (zy_Q_l zq_F_rf ft)))
          · rw [if_neg (show ¬ zy_sg T n p1 g1 44 = true from fun r => q (zy_sg_ty r))]
            exact zt_t rfl (zt_c (Or.inl rfl) (zi_e (zy_Q_l zq_F_rf ft)))
        · rw [if_pos hd]
          exact zt_t rfl (zt_c (Or.inl rfl) (zi_e (zy_Q_l (zf_Sc_Ex fa) ft)))
      rw [if_neg w2, if_neg w2]
      refine zt_t rfl (zt_c (by rw [rk95]; omega) (zt_I (s_79 ca) ?_))
      rintro z g3 ⟨rfl, rfl⟩
      exact zt_c (Or.inl rfl) (zi_e (zy_Q_l (zf_Sc_Ex fa) rfl))
    · intro d p gl l h ok t1 K
      obtain ⟨o1, o2, o3, o4⟩ := ok
      have hn := K.2.1.1
      have hC := K.2.2.1
      have og := zy_en_gt (T := T) (g := gl) o2 (by omega)
      rw [zy_X11, c_95 hpf]
      refine zt_l (e_95 hpf) (zt_c (by rw [rk95]; omega) (zt_V (s_133a K.2.1 hC o2 (by omega)) ?_))
      rintro ga ⟨fa, ca⟩
      have Ka := K.adv hpf fa ca
      refine zt_c (by rw [rk95]; omega) (zt_I (s_139s ca 40) ?_)
      rintro z g ⟨rfl, rfl⟩
      by_cases w2 : zy_sg T n (zy_en T n p) (zy_ng T n p gl) 40 = true
      · rw [if_pos w2, if_pos w2]
        have t2 := (zy_sg_ty w2).1
        have og2 := zy_en_gt (T := T) (g := zy_ng T n p gl) og.2 (by omega)
        refine zt_f (by decide) (zt_c (by rw [rk95]; omega) (zt_I (s_93 hpf Ka og.2 (by omega)) ?_))
        rintro z g2 (⟨rfl, hd, f2, K2⟩ | ⟨rfl, hd, ft⟩)
        · rw [if_neg (show ¬ 7 ≤ d by omega)]
          refine zt_f (by decide) ?_
          rw [show (d : Int) + 1 = ((d + 1 : Nat) : Int) by omega]
          refine zt_c (by omega) (zt_c (by rw [rk90, rk95]; omega) (zi_m (zy_bind (H5 (d + 1) _ _ l g2 ⟨by omega, og2.2, by omega, by omega⟩ K2) (fun g => zt_t rfl (zt_c (Or.inl rfl) (zi_e ⟨rfl, rfl⟩))) (fun p1 g1 l1 h2 e fr K1 => ?_)) (fun z g3 r => zy_Q_tr (zq_F_tr (zf_Sc_Ex fa) (zf_Sc_Ex f2)) r)))
          have pr := zy_X_pr f 5 (d + 1) _ _ l p1 g1 l1 (by decide) e og2.2 (fun q => by omega)
          unfold zy_pr at pr
          refine zt_f (by decide) (zt_c (by rw [rk95]; omega) (zt_I (s_94 K1.2.1 K1.2.2.1 (by omega) 44) ?_))
          rintro z g4 (⟨rfl, q, f4, c4⟩ | ⟨rfl, q, ft⟩)
          · rw [if_pos (show zy_sg T n p1 g1 44 = true from decide_eq_true q)]
            have og4 := zy_en_gt (T := T) (g := g1) pr.1 (by omega)
            refine zt_f (by decide) (zt_c (by omega) (zt_c (by rw [rk90, rk95]; omega) (zi_m (zy_bind (H5 (d + 1) _ _ l1 g4 ⟨by omega, og4.2, by omega, by omega⟩ (K1.adv hpf f4 c4)) (fun g => zt_t rfl (zt_c (Or.inl rfl) (zi_e ⟨rfl, rfl⟩))) (fun p3 g3 l3 h3 e3 fr3 K3 => ?_)) (fun z g3 r => zy_Q_tr (zf_Sc_Ex f4) r))))
            have pr3 := zy_X_pr f 5 (d + 1) _ _ l1 p3 g3 l3 (by decide) e3 og4.2 (fun q => by omega)
            unfold zy_pr at pr3
            refine zt_f (by decide) (zt_c (by rw [rk95]; omega) (zt_I (s_94 K3.2.1 K3.2.2.1 (by omega) 41) ?_))
            rintro z g6 (⟨rfl, q6, f6, c6⟩ | ⟨rfl, q6, ft⟩)
            · rw [if_pos (show zy_sg T n p3 g3 41 = true from decide_eq_true q6)]
              have K6 := K3.adv hpf f6 c6
              refine zt_f (by decide) (zt_c K6.1 (zt_c (by rw [rk95]; omega) (zt_V (s_63 hpf K6 (by omega) (-17)) ?_)))
              rintro g7 ⟨f7, K7⟩
              exact zt_c (Or.inr rfl) (zi_e (zy_Q_r (zq_F_tr (zf_Sc_Ex f6) f7) K7))
            · rw [if_neg (show ¬ zy_sg T n p3 g3 41 = true from fun r => q6 (zy_sg_ty r))]
              exact zt_t rfl (zt_c (Or.inl rfl) (zi_e (zy_Q_l zq_F_rf ft)))
          · rw [if_neg (show ¬ zy_sg T n p1 g1 44 = true from fun r => q (zy_sg_ty r))]
            exact zt_t rfl (zt_c (Or.inl rfl) (zi_e (zy_Q_l zq_F_rf ft)))
        · rw [if_pos hd]
          exact zt_t rfl (zt_c (Or.inl rfl) (zi_e (zy_Q_l (zf_Sc_Ex fa) ft)))
      rw [if_neg w2, if_neg w2]
      refine zt_t rfl (zt_c (by rw [rk95]; omega) (zt_I (s_79 ca) ?_))
      rintro z g3 ⟨rfl, rfl⟩
      exact zt_c (Or.inl rfl) (zi_e (zy_Q_l (zf_Sc_Ex fa) rfl))
end
