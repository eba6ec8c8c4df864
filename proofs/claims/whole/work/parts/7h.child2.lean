/-! STATEMENTS: a child, told by the reference -/
section
variable {h g : zm_H} {T : Nat → Int} {n p b pf K L C cf ct qf qt : Nat} {gl : Bool} {wo sz re fe ru : Nat → Int} {lk : Nat → Nat → Int} {nk nc : Nat → List Nat} {F0 : Nat → Int} {pu : Int} {l : List Int} {q : Nat × Bool} {o : zw_S}
/-- the new child's likes -/
theorem s_178_201 {x1 : Int} {W : Nat → Int} (hb : b < 2) (hC8 : C < 8) (hK8 : K ≤ 8) (hx1 : x1 = 8 * (b : Int) + C) {Q : zm_H → Prop} : ∀ (m i : Nat) (g : zm_H), i + m = 8 → g 146 34 = b → g 148 b = K → g 153 b = C → (∀ k : Nat, k < K → ∀ j : Int, j = 8 * b + k → g 149 j = W k) → (∀ k : Nat, k < i → k < K → ∀ j : Int, j = 8 * x1 + k → g 157 j = W k) → (∀ g2, zq_F (fun a y => a = 157 ∧ 8 * x1 ≤ y ∧ y < 8 * x1 + 8) g g2 → (∀ k : Nat, k < K → ∀ j : Int, j = 8 * x1 + k → g2 157 j = W k) → Q (zm_wr g2 153 b ((C : Int) + 1))) → zu (zr none 4 178 201 [zm_A 146, zm_I x1, zm_I i] [] g) Q := by
  intro m
  induction m with
  | zero =>
    intro i g hi g34 g48 g53 g49 hc hq
    refine zt_l e_178_201 (zt_f (by omega) ?_)
    rw [g34, g53]
    exact zt_c (by omega) (zt_c (by omega) (zt_c (by omega) (zu_e (hq g zq_F_rf (fun k hk => hc k (by omega) hk)))))
  | succ m ih =>
    intro i g hi g34 g48 g53 g49 hc hq
    refine zt_l e_178_201 (zt_t (by omega) ?_)
    rw [g34, g48]
    have go : ∀ v : Int, (i < K → v = W i) → zu (zr none 4 178 201 [zm_A 146, zm_I x1, zm_I ((i : Int) + 1)] [] (zm_wr g 157 (8 * x1 + i) v)) Q := by
      intro v hv
      rw [show (i : Int) + 1 = ((i + 1 : Nat) : Int) by omega]
      have f1 : zq_F (fun a y => a = 157 ∧ 8 * x1 ≤ y ∧ y < 8 * x1 + 8) g (zm_wr g 157 (8 * x1 + i) v) := zq_F_wr ⟨rfl, by omega, by omega⟩
      refine ih (i + 1) _ (by omega) (by rw [zq_wr_n (by decide)]; exact g34) (by rw [zq_wr_n (by decide)]; exact g48) (by rw [zq_wr_n (by decide)]; exact g53) (fun k hk j hj => by rw [zq_wr_n (by decide)]; exact g49 k hk j hj) (fun k hk1 hk2 j hj => ?_) (fun g2 f2 c2 => hq g2 (zq_F_tr f1 f2) c2)
      by_cases e : k = i
      · subst e; rw [hj, zq_wr_e]; exact hv hk2
      · rw [zq_wr_i (by omega)]; exact hc k (by omega) hk2 j hj
    refine zt_c (by omega) (zt_c (by omega) (zt_c (by omega) (zt_p (fun q => zt_c (by omega) (zt_c (by omega) (zt_c (by omega) (zt_c (by omega) (zt_c (by omega) ?_))))) (fun q => zt_c (by omega) (zt_c (by omega) ?_)))))
    · rw [g49 i (by omega) _ rfl]; exact go _ (fun _ => rfl)
    · exact go _ (fun q2 => absurd (show (i : Int) < K by omega) q)
theorem zw_RD_child (hD : zw_RD h b K L C wo sz re fe ru lk nk nc F0 pu l cf ct qf qt) (hb : b < 2) (hC8 : C < 8) (hK8 : K ≤ 8) {s : List Nat} {R F U : Int} (f : zq_F (fun a i => zf_Wd a i ∨ ((a = 166 ∨ a = 154 ∨ a = 155 ∨ a = 156) ∧ i = 8 * (b : Int) + C) ∨ (a = 157 ∧ 8 * (8 * (b : Int) + C) ≤ i ∧ i < 8 * (8 * (b : Int) + C) + 8)) h g) (h66 : ∀ j : Int, j = 8 * b + C → g 166 j = (zp_q8 s.reverse : Nat) ∧ g 154 j = R ∧ g 155 j = F ∧ g 156 j = U) (h57 : ∀ k : Nat, k < K → ∀ j : Int, j = 8 * (8 * (b : Int) + C) + k → g 157 j = wo k) : zw_RD (zm_wr g 153 b ((C : Int) + 1)) b K L (C + 1) wo sz (zp_set re C R) (zp_set fe C F) (zp_set ru C U) (zw_lkC lk C wo) nk (zw_upd nc C s) F0 pu l cf ct qf qt := by
  obtain ⟨⟨d1, d2, d3⟩, d4, d5, d6, ⟨d7, d8⟩, d9, d10, ⟨d11, d12⟩, d13⟩ := hD
  have ka : ∀ a : Nat, a ≠ 146 → a ≠ 166 → a ≠ 154 → a ≠ 155 → a ≠ 156 → a ≠ 157 → g a = h a := fun a q1 q2 q3 q4 q5 q6 => by
    funext i
    refine f a i (fun q => ?_)
    rcases q with q | q | q
    · exact q1 q.1
    · omega
    · exact q6 q.1
  have kw : ∀ a : Nat, a ≠ 153 → zm_wr g 153 b ((C : Int) + 1) a = g a := fun a q => by funext i; exact zq_wr_n q
  have k8 : ∀ (a : Nat) (i : Int), (a = 166 ∨ a = 154 ∨ a = 155 ∨ a = 156) → i ≠ 8 * (b : Int) + C → g a i = h a i := fun a i q1 q2 => by
    refine f a i (fun q => ?_)
    rcases q with q | q | q
    · unfold zf_Wd at q; omega
    · exact q2 q.2
    · omega
  refine ⟨⟨?_, ?_, ?_⟩, ?_, ?_, ?_, ⟨?_, ?_⟩, ?_, ?_, ⟨?_, ?_⟩, ?_⟩
  · rw [kw 148 (by decide), ka 148 (by decide) (by decide) (by decide) (by decide) (by decide) (by decide)]; exact d1
  · rw [kw 151 (by decide), ka 151 (by decide) (by decide) (by decide) (by decide) (by decide) (by decide)]; exact d2
  · rw [zq_wr_e]; omega
  · rw [kw 149 (by decide), kw 150 (by decide), ka 149 (by decide) (by decide) (by decide) (by decide) (by decide) (by decide), ka 150 (by decide) (by decide) (by decide) (by decide) (by decide) (by decide)]; exact d4
  · intro c hc j hj
    rw [kw 154 (by decide), kw 155 (by decide), kw 156 (by decide)]
    unfold zp_set
    by_cases q : c = C
    · rw [if_pos q, if_pos q, if_pos q]; exact (h66 j (by omega)).2
    · rw [if_neg q, if_neg q, if_neg q, k8 154 j (by omega) (by omega), k8 155 j (by omega) (by omega), k8 156 j (by omega) (by omega)]; exact d5 c (by omega) j hj
  · intro c k hc hk j hj
    rw [kw 157 (by decide)]
    unfold zw_lkC
    by_cases q : c = C
    · rw [if_pos q]; exact h57 k hk j (by rw [hj, q])
    · rw [if_neg q, f 157 j (fun r => ?_)]
      · exact d6 c k (by omega) hk j hj
      · rcases r with r | r | r
        · unfold zf_Wd at r; omega
        · omega
        · omega
  · rw [kw 165 (by decide), ka 165 (by decide) (by decide) (by decide) (by decide) (by decide) (by decide)]; exact d7
  · intro c hc j hj
    rw [kw 166 (by decide)]
    unfold zw_upd
    by_cases q : c = C
    · rw [if_pos q]; exact (h66 j (by omega)).1
    · rw [if_neg q, k8 166 j (by omega) (by omega)]; exact d8 c (by omega) j hj
  · rw [kw 152 (by decide), ka 152 (by decide) (by decide) (by decide) (by decide) (by decide) (by decide)]; exact d9
  · rw [kw 158 (by decide), ka 158 (by decide) (by decide) (by decide) (by decide) (by decide) (by decide)]; exact d10
  · rw [kw 146 (by decide), f 146 33 (fun q => ?_)]
    · exact d11
    · rcases q with q | q | q
      · unfold zf_Wd at q; omega
      · omega
      · omega
  · rw [kw 163 (by decide), kw 164 (by decide), ka 163 (by decide) (by decide) (by decide) (by decide) (by decide) (by decide), ka 164 (by decide) (by decide) (by decide) (by decide) (by decide) (by decide)]; exact d12
  · rw [kw 159 (by decide), kw 160 (by decide), kw 161 (by decide), kw 162 (by decide), ka 159 (by decide) (by decide) (by decide) (by decide) (by decide) (by decide), ka 160 (by decide) (by decide) (by decide) (by decide) (by decide) (by decide), ka 161 (by decide) (by decide) (by decide) (by decide) (by decide) (by decide), ka 162 (by decide) (by decide) (by decide) (by decide) (by decide) (by decide)]; exact d13
/-- a child, told by the reference -/
theorem s_178w (hv : zw_lv h T n b (.inr (p, gl))) (hw : zy_ty T n p gl = 1) (hD : zw_RD h b K L C wo sz re fe ru lk nk nc F0 pu l cf ct qf qt) (hB : zv_B K L C wo sz re fe ru lk) (hN : zv_Nn K C nk nc) : zu (zc 178 [zm_A 146] h) (zw_rO h T n b (if C = 8 then .inl (6, zy_at T n p) else zw_ch T n K C nk nc (zy_en T n p) (zy_ng T n p gl)) (fun g => zw_RD g b K L (C + 1) wo sz (zp_set re C (zy_nu T n (zy_en T n (zy_en T n (zy_en T n p))))) (zp_set fe C (zy_nu T n (zy_en T n (zy_en T n (zy_en T n (zy_en T n (zy_en T n p))))))) (zp_set ru C (zw_rv T n (zy_en T n (zy_en T n (zy_en T n (zy_en T n (zy_en T n (zy_en T n p)))))))) (zw_lkC lk C wo) nk (zw_upd nc C (zy_ls T n (zy_en T n p))) F0 pu l cf ct qf qt)) := by
  have hb := hv.2.2.1
  have h34 := hv.2.1
  have hK8 := hB.1
  have hC8 := hB.2.2.1
  refine zt_l e_178 ?_
  rw [h34, hD.1.2.2]
  refine zt_c (by omega) (zt_p (fun q => ?_) (fun q => ?_))
  · rw [if_pos (show C = 8 by omega)]
    refine zt_I (s_167 (x := 1) hv (by omega)) ?_
    rintro z g (⟨r, _⟩ | ⟨_, rfl, r⟩)
    · exact absurd r (by decide)
    · exact zt_t rfl (zu_e ⟨zf_Wd_Pr r.1, Or.inl ⟨_, _, rfl, r.2⟩⟩)
  · have C7 : C < 8 := by omega
    rw [if_neg (show ¬ C = 8 by omega)]
    refine zt_I (s_167 (x := 0) hv (by omega)) ?_
    rintro z g1 (⟨_, rfl, r1⟩ | ⟨r, _⟩)
    · refine zt_f (by decide) ?_
      have e34 : g1 146 34 = b := (zf_Wd_34 r1.1).trans h34
      have e53 : g1 153 b = C := by rw [zf_Wd_a r1.1 (by decide)]; exact hD.1.2.2
      rw [e34, e53]
      refine zt_c (by omega) (zt_c (by omega) (zt_c (by omega) (zt_L (s_168 r1.2 (zw_Nm_K hD hB hN (fun a ha => zf_Wd_a r1.1 (by omega))) (zw_Nm_C hD hB hN (fun a ha => zf_Wd_a r1.1 (by omega)))) ?_)))
      rintro v g2 ⟨r2, v2⟩
      have r2' : zw_P g1 T n b (zw_new T n K C nk nc (zy_en T n p) (zy_ng T n p gl)) g2 := r2
      refine zt_c (by omega) (zt_V (s_173 (w := 5) (r2'.2.wd (by decide)) (by decide) (by decide)) ?_)
      intro g3 r3
      refine zt_I (s_174 r3.2 1 5) ?_
      rintro x4 g4 ⟨r4, v4⟩
      refine zt_c (by omega) (zt_V (s_173 (w := 6) (r4.2.wd (by decide)) (by decide) (by decide)) ?_)
      intro g5 r5
      refine zt_I (s_174 r5.2 0 3) ?_
      rintro x6 g6 ⟨r6, v6⟩
      refine zt_c (by omega) ?_
      have hg7 : ∃ g7, g7 = zm_wr g6 155 (8 * (b : Int) + C) x6 := ⟨_, rfl⟩
      obtain ⟨g7, hg7⟩ := hg7
      rw [← hg7]
      have L7 := r6.2.wd (a := 155) (i := 8 * (b : Int) + C) (v := x6) (by decide)
      rw [← hg7] at L7
      have w7 : ∀ a : Nat, a ≠ 155 → g7 a = g6 a := fun a ha => by funext i; rw [hg7]; exact zq_wr_n ha
      have w166 : ∀ j : Int, j = 8 * b + C → g7 166 j = v := fun j hj => by
        rw [w7 166 (by decide), zf_Wd_a r6.1 (by decide), zf_Wd_a r5.1 (by decide), zq_wr_n (by decide), zf_Wd_a r4.1 (by decide), zf_Wd_a r3.1 (by decide), hj, zq_wr_e]
      have w154 : ∀ j : Int, j = 8 * b + C → g7 154 j = x4 := fun j hj => by
        rw [w7 154 (by decide), zf_Wd_a r6.1 (by decide), zf_Wd_a r5.1 (by decide), hj, zq_wr_e]
      have w155 : ∀ j : Int, j = 8 * b + C → g7 155 j = x6 := fun j hj => by
        rw [hg7, hj, zq_wr_e]
      have k148 : ∀ a : Nat, a = 148 ∨ a = 149 ∨ a = 153 → g7 a = h a := fun a ha => by
        rw [w7 a (by omega), zf_Wd_a r6.1 (by omega), zf_Wd_a r5.1 (by omega)]
        funext i
        rw [zq_wr_n (by omega), zf_Wd_a r4.1 (by omega), zf_Wd_a r3.1 (by omega), zq_wr_n (by omega), zf_Wd_a r2.1 (by omega), zf_Wd_a r1.1 (by omega)]
      have k34 : g7 146 34 = b := L7.2.1
      have F7 : zq_F (fun a i => zf_Wd a i ∨ ((a = 166 ∨ a = 154 ∨ a = 155 ∨ a = 156) ∧ i = 8 * (b : Int) + C) ∨ (a = 157 ∧ 8 * (8 * (b : Int) + C) ≤ i ∧ i < 8 * (8 * (b : Int) + C) + 8)) h g7 := by
        rw [hg7]
        refine zq_F_tr (zq_F_wk r1.1 (fun a i q => Or.inl q)) (zq_F_tr (zq_F_wk r2.1 (fun a i q => Or.inl q)) (zq_F_tr (zq_F_wr (Or.inr (Or.inl ⟨Or.inl rfl, rfl⟩))) (zq_F_tr (zq_F_wk r3.1 (fun a i q => Or.inl q)) (zq_F_tr (zq_F_wk r4.1 (fun a i q => Or.inl q)) (zq_F_tr (zq_F_wr (Or.inr (Or.inl ⟨Or.inr (Or.inl rfl), rfl⟩))) (zq_F_tr (zq_F_wk r5.1 (fun a i q => Or.inl q)) (zq_F_tr (zq_F_wk r6.1 (fun a i q => Or.inl q)) (zq_F_wr (Or.inr (Or.inl ⟨Or.inr (Or.inr (Or.inl rfl)), rfl⟩))))))))))
      have FP : ∀ g', zq_F (fun a i => zf_Wd a i ∨ ((a = 166 ∨ a = 154 ∨ a = 155 ∨ a = 156) ∧ i = 8 * (b : Int) + C) ∨ (a = 157 ∧ 8 * (8 * (b : Int) + C) ≤ i ∧ i < 8 * (8 * (b : Int) + C) + 8)) h g' → zq_F (zf_Pr b) h g' := fun g' f => zq_F_wk f (fun a i q => by unfold zf_Wd at q; unfold zf_Pr; omega)
      have oeq : zw_ch T n K C nk nc (zy_en T n p) (zy_ng T n p gl) = zw_th (zw_th (zw_th (zw_th (zw_th (zw_new T n K C nk nc (zy_en T n p) (zy_ng T n p gl)) (zw_own T n ((5 : Nat) : Int))) (zw_num T n 1 5)) (zw_own T n ((6 : Nat) : Int))) (zw_num T n 0 3)) (zw_rul T n) := rfl
      rw [oeq]
      have inv : ∀ p5 g5', zw_th (zw_th (zw_th (zw_th (zw_new T n K C nk nc (zy_en T n p) (zy_ng T n p gl)) (zw_own T n ((5 : Nat) : Int))) (zw_num T n 1 5)) (zw_own T n ((6 : Nat) : Int))) (zw_num T n 0 3) = .inr (p5, g5') → p5 = (zy_en T n (zy_en T n (zy_en T n (zy_en T n (zy_en T n (zy_en T n p)))))) ∧ v = (zp_q8 (zy_ls T n (zy_en T n p)).reverse : Nat) ∧ x4 = zy_nu T n (zy_en T n (zy_en T n (zy_en T n p))) ∧ x6 = zy_nu T n (zy_en T n (zy_en T n (zy_en T n (zy_en T n (zy_en T n p))))) := by
        intro p5 g5' ho'
        obtain ⟨p4, g4', E4, X4⟩ := zw_th_r ho'
        obtain ⟨p3, g3', E3, X3⟩ := zw_th_r E4
        obtain ⟨p2, g2', E2, X2⟩ := zw_th_r E3
        obtain ⟨p1, g1', E1, X1⟩ := zw_th_r E2
        have Y1 := (zw_new_r E1).2
        have Y2 := (zw_own_r X1).2
        have Y3 := (zw_num_r X2).2.2
        have Y4 := (zw_own_r X3).2
        have Y5 := (zw_num_r X4).2.2
        have V1 := v2 _ _ rfl _ E1
        have V4 := v4 _ _ E2 _ X2
        have V6 := v6 _ _ E4 _ X4
        cases Y1
        cases Y2
        cases Y3
        cases Y4
        cases Y5
        exact ⟨rfl, V1, V4, V6⟩
      generalize ho : zw_th (zw_th (zw_th (zw_th (zw_new T n K C nk nc (zy_en T n p) (zy_ng T n p gl)) (zw_own T n ((5 : Nat) : Int))) (zw_num T n 1 5)) (zw_own T n ((6 : Nat) : Int))) (zw_num T n 0 3) = o5
      have L7' : zw_lv g7 T n b o5 := by rw [← ho]; exact L7
      rw [ho] at inv
      rcases o5 with ⟨k, a⟩ | ⟨p5, g5'⟩
      · have d := L7'.dead
        refine zt_V (s_163d (by omega)) ?_
        rintro g rfl
        exact zt_f (by omega) (zu_e ⟨FP _ F7, Or.inl ⟨k, a, rfl, L7'⟩⟩)
      · obtain ⟨i1, i2, i3, i4⟩ := inv p5 g5' rfl
        have LL := L7'.live
        show zu _ (zw_rO h T n b (zw_rul T n p5 g5') _)
        by_cases t4 : zy_ty T n p5 g5' = 4
        · refine zt_V (s_163x LL.2.2 t4 LL.1) ?_
          rintro g rfl
          have X : zw_P g7 T n b (.inl (1, zy_bd T n p5 g5')) (zm_wr (zm_wr g7 146 8 1) 146 9 (zy_bd T n p5 g5')) := zw_P_f L7' (by decide)
          refine zt_f (by rw [zq_wr_i (by decide), zq_wr_e]; decide) (zu_e ⟨zq_F_tr (FP _ F7) (zf_Wd_Pr X.1), Or.inl ⟨1, zy_bd T n p5 g5', ?_, ?_⟩⟩)
          · unfold zw_rul
            rw [if_neg (fun e => by have := zy_ow_ty (T := T) (n := n) (p := p5) (g := g5') (by omega); omega)]
          · unfold zw_rul
            rw [if_neg (fun e => by have := zy_ow_ty (T := T) (n := n) (p := p5) (g := g5') (by omega); omega)]
            exact X.2
        · refine zt_V (s_163 LL.2.2 t4) ?_
          rintro g rfl
          refine zt_t (by omega) ?_
          -- a rule
          have fin : ∀ (r : Int) {A : Option (zm_V × zm_H)}, 0 ≤ r → zy_ow T n p5 g5' = r + 7 → r ≤ 3 → zu (zm_ck (0 ≤ (8 * (b : Int) + C) ∧ (8 * (b : Int) + C) < ((16 : Nat) : Int)) (zm_ck (0 ≤ (8 * (b : Int) + C) ∧ (8 * (b : Int) + C) < ((16 : Nat) : Int)) (if ((zm_wr g 156 (8 * (b : Int) + C) r) 156 (8 * (b : Int) + C)) = (-1) then A else (if ((zm_wr g 156 (8 * (b : Int) + C) r) 146 8) ≤ 0 then (zk_V (zc 159 [zm_A 146] (zm_wr g 156 (8 * (b : Int) + C) r)) (fun h22 => zr none 4 178 201 [zm_A 146, zm_I (8 * (b : Int) + C), zm_I 0] [] h22)) else (some (zm_U, (zm_wr g 156 (8 * (b : Int) + C) r))))))) (zw_rO h T n b (zw_rul T n p5 g5') (fun g => zw_RD g b K L (C + 1) wo sz (zp_set re C (zy_nu T n (zy_en T n (zy_en T n (zy_en T n p))))) (zp_set fe C (zy_nu T n (zy_en T n (zy_en T n (zy_en T n (zy_en T n (zy_en T n p))))))) (zp_set ru C (zw_rv T n (zy_en T n (zy_en T n (zy_en T n (zy_en T n (zy_en T n (zy_en T n p)))))))) (zw_lkC lk C wo) nk (zw_upd nc C (zy_ls T n (zy_en T n p))) F0 pu l cf ct qf qt)) := by
            intro r A r0 rw7 r3
            have t1 := zy_ow_ty (T := T) (n := n) (p := p5) (g := g5') (by omega)
            have e8 : (zm_wr g 156 (8 * (b : Int) + C) r) 146 8 = 0 := by rw [zq_wr_n (by decide)]; exact LL.1
            have eR : zw_rul T n p5 g5' = zw_go T n p5 g5' := by unfold zw_rul; rw [if_pos (by omega)]
            rw [eR, zq_wr_e]
            refine zt_c (by omega) (zt_c (by omega) (zt_f (by omega) (zt_t (by omega) (zt_V (s_159w (L7'.wd (by decide)) (by omega)) ?_))))
            intro g8 r8
            have w8 : ∀ a : Nat, a ≠ 146 → a ≠ 156 → g8 a = g a := fun a h1 h2 => by rw [zf_Wd_a r8.1 h1]; funext i; exact zq_wr_n h2
            have F8 : zq_F (fun a i => zf_Wd a i ∨ ((a = 166 ∨ a = 154 ∨ a = 155 ∨ a = 156) ∧ i = 8 * (b : Int) + C) ∨ (a = 157 ∧ 8 * (8 * (b : Int) + C) ≤ i ∧ i < 8 * (8 * (b : Int) + C) + 8)) h g8 := zq_F_tr F7 (zq_F_tr (zq_F_wr (Or.inr (Or.inl ⟨Or.inr (Or.inr (Or.inr rfl)), rfl⟩))) (zq_F_wk r8.1 (fun a i q => Or.inl q)))
            refine s_178_201 (b := b) (K := K) (C := C) (W := wo) hb C7 hK8 rfl 8 0 g8 (by decide) r8.2.2.1 ?_ ?_ (fun k hk j hj => ?_) (fun k hk => by omega) (fun g9 f9 c9 => ?_)
            · rw [w8 148 (by decide) (by decide), k148 148 (by omega)]; exact hD.1.1
            · rw [w8 153 (by decide) (by decide), k148 153 (by omega)]; exact hD.1.2.2
            · rw [w8 149 (by decide) (by decide), k148 149 (by omega)]; exact (hD.2.1 k hk j hj).1
            have k9 : ∀ a : Nat, a ≠ 157 → g9 a = g8 a := fun a ha => by funext i; exact f9 a i (fun q => ha q.1)
            have F9 := zq_F_tr F8 (zq_F_wk f9 (fun a i q => Or.inr (Or.inr q)))
            refine ⟨zq_F_tr (FP _ F9) (zq_F_wr (by unfold zf_Pr; omega)), Or.inr (Or.inl ⟨zy_en T n p5, zy_ng T n p5 g5', rfl, Or.inr ⟨(r8.2.kp (fun i _ => by rw [k9 146 (by decide)]) (k9 147 (by decide))).wd (by decide), ?_⟩⟩)⟩
            have D := zw_RD_child (s := zy_ls T n (zy_en T n p)) (R := x4) (F := x6) (U := r) hD hb C7 hK8 F9 (fun j hj => ⟨?_, ?_, ?_, ?_⟩) c9
            · have er : zw_rv T n p5 = r := by rw [zw_rv_ow (show zy_ow T n p5 g5' ≠ -1 by omega)]; omega
              rw [← er, i3, i4, i1] at D
              exact D
            · rw [k9 166 (by decide), w8 166 (by decide) (by decide), w166 j hj]; exact i2
            · rw [k9 154 (by decide), w8 154 (by decide) (by decide), w154 j hj]
            · rw [k9 155 (by decide), w8 155 (by decide) (by decide), w155 j hj]
            · rw [k9 156 (by decide), zf_Wd_a r8.1 (by decide), hj, zq_wr_e]
          refine zt_I (s_165 (w := 7) LL.2.2 t4 (by decide) (by decide)) ?_
          rintro z g' ⟨rfl, rfl⟩
          by_cases w7' : zy_ow T n p5 g5' = ((7 : Nat) : Int)
          · rw [if_pos w7']
            exact zt_f (by decide) (fin 0 (by decide) (by omega) (by decide))
          rw [if_neg w7']
          refine zt_t rfl (zt_I (s_165 (w := 8) LL.2.2 t4 (by decide) (by decide)) ?_)
          rintro z g' ⟨rfl, rfl⟩
          by_cases w8' : zy_ow T n p5 g5' = ((8 : Nat) : Int)
          · rw [if_pos w8']
            exact zt_f (by decide) (fin 1 (by decide) (by omega) (by decide))
          rw [if_neg w8']
          refine zt_t rfl (zt_I (s_165 (w := 9) LL.2.2 t4 (by decide) (by decide)) ?_)
          rintro z g' ⟨rfl, rfl⟩
          by_cases w9' : zy_ow T n p5 g5' = ((9 : Nat) : Int)
          · rw [if_pos w9']
            exact zt_f (by decide) (fin 2 (by decide) (by omega) (by decide))
          rw [if_neg w9']
          refine zt_t rfl (zt_I (s_165 (w := 10) LL.2.2 t4 (by decide) (by decide)) ?_)
          rintro z g' ⟨rfl, rfl⟩
          by_cases w10 : zy_ow T n p5 g5' = ((10 : Nat) : Int)
          · rw [if_pos w10]
            exact zt_f (by decide) (fin 3 (by decide) (by omega) (by decide))
          rw [if_neg w10]
          have eR : zw_rul T n p5 g5' = .inl (1, zy_bd T n p5 g5') := by unfold zw_rul; rw [if_neg (by omega)]
          have L8 : zw_lv (zm_wr g' 156 (8 * (b : Int) + C) (-1)) T n b (.inr (p5, g5')) := L7'.wd (by decide)
          have e4 : (zm_wr g' 156 (8 * (b : Int) + C) (-1)) 146 4 = zy_at T n p5 := L8.live.2.2.1
          have X : zw_P _ T n b (.inl (1, zy_at T n p5)) _ := zw_P_f L8 (k := 1) (by decide)
          rw [eR, zq_wr_e, e4, zy_bd_at t4]
          refine zt_t rfl (zt_c (by omega) (zt_c (by omega) (zt_t rfl (zt_V (s_164y 1 _ L8.live.1) ?_))))
          rintro g9 rfl
          exact zt_f (by rw [zq_wr_i (by decide), zq_wr_e]; decide) (zu_e ⟨zq_F_tr (FP _ F7) (zq_F_tr (zq_F_wr (by unfold zf_Pr; omega)) (zf_Wd_Pr X.1)), Or.inl ⟨_, _, rfl, X.2⟩⟩)
    · exact absurd rfl r
end
