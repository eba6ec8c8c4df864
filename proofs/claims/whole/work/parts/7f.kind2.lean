/-! STATEMENTS: a kind, told by the reference -/
/-- the reference's outcome of a statement ahead of its ; -/
def zw_rO (h : zm_H) (T : Nat → Int) (n b : Nat) (o : zw_S) (D : zm_H → Prop) (g : zm_H) : Prop := zq_F (zf_Pr b) h g ∧ ((∃ k a : Nat, o = .inl (k, a) ∧ zw_lv g T n b o) ∨ (∃ p' g', o = .inr (p', g') ∧ ((zy_ty T n p' g' = 4 ∧ zw_lv g T n b (.inl (1, zy_bd T n p' g'))) ∨ (zw_lv g T n b o ∧ D g))) ∨ ∃ p' g', o = .inl (1, zy_bd T n p' g') ∧ zw_lv g T n b (.inr (p', g')) ∧ ¬ zy_sg T n p' g' 59 = true)
section
variable {h g : zm_H} {T : Nat → Int} {n p b pf K L C cf ct qf qt : Nat} {gl : Bool} {wo sz re fe ru : Nat → Int} {lk : Nat → Nat → Int} {nk nc : Nat → List Nat} {F0 : Nat → Int} {pu : Int} {l : List Int} {o : zw_S}
theorem zf_Wd_Pr (f : zq_F zf_Wd h g) : zq_F (zf_Pr b) h g := zq_F_wk f (fun a i q => by unfold zf_Wd at q; unfold zf_Pr; omega)
theorem zw_lv.wd (hv : zw_lv h T n b o) {a : Nat} {i v : Int} (ha : a ≠ 146 ∧ a ≠ 147) : zw_lv (zm_wr h a i v) T n b o := hv.kp (fun i _ => zq_wr_n (Ne.symm ha.1)) (by funext j; exact zq_wr_n (Ne.symm ha.2))
theorem zw_Nm_K (hD : zw_RD h b K L C wo sz re fe ru lk nk nc F0 pu l cf ct qf qt) (hB : zv_B K L C wo sz re fe ru lk) (hN : zv_Nn K C nk nc) (e : ∀ a : Nat, a = 148 ∨ a = 165 → g a = h a) : zw_Nm g b 0 K nk := ⟨hN.1, hB.1, Or.inl ⟨rfl, by rw [e 148 (by omega)]; exact hD.1.1, by rw [e 165 (by omega)]; exact hD.2.2.2.2.1.1⟩⟩
theorem zw_Nm_C (hD : zw_RD h b K L C wo sz re fe ru lk nk nc F0 pu l cf ct qf qt) (hB : zv_B K L C wo sz re fe ru lk) (hN : zv_Nn K C nk nc) (e : ∀ a : Nat, a = 153 ∨ a = 166 → g a = h a) : zw_Nm g b 1 C nc := ⟨hN.2, hB.2.2.1, Or.inr ⟨rfl, by rw [e 153 (by omega)]; exact hD.1.2.2, by rw [e 166 (by omega)]; exact hD.2.2.2.2.1.2⟩⟩
theorem zf_Wd_a (f : zq_F zf_Wd h g) {a : Nat} (ha : a ≠ 146) : g a = h a := by funext i; exact f a i (fun q => ha q.1)
theorem zf_Wd_34 (f : zq_F zf_Wd h g) : g 146 34 = h 146 34 := f 146 34 (by unfold zf_Wd; omega)
/-- the new kind's likes -/
theorem s_166_97 {x1 : Int} {W : Int} (hb : b < 2) (hK8 : K < 8) (hx1 : x1 = 8 * (b : Int) + K) {Q : zm_H → Prop} : ∀ (m i : Nat) (g : zm_H), i + m = 8 → g 146 34 = b → g 148 b = K → g 149 x1 = W → (∀ c : Nat, c < i → ∀ j : Int, j = 8 * (8 * b + c) + K → g 157 j = W) → (∀ g2, zq_F (fun a y => a = 157 ∧ ∃ c : Nat, c < 8 ∧ y = 8 * (8 * (b : Int) + c) + K) g g2 → (∀ c : Nat, c < 8 → ∀ j : Int, j = 8 * (8 * b + c) + K → g2 157 j = W) → (g2 146 8 = 0 → Q (zm_wr g2 148 b ((K : Int) + 1))) ∧ (g2 146 8 ≠ 0 → Q g2)) → zu (zr none 4 166 97 [zm_A 146, zm_I x1, zm_I i] [] g) Q := by
  intro m
  induction m with
  | zero =>
    intro i g hi g34 g48 g49 hc hq
    obtain ⟨q1, q2⟩ := hq g zq_F_rf (fun c hc8 => hc c (by omega))
    refine zt_l e_166_97 (zt_f (by omega) (zt_p (fun q => ?_) (fun q => zu_e (q2 q))))
    rw [g34, g48]
    exact zt_c (by omega) (zt_c (by omega) (zt_c (by omega) (zu_e (q1 q))))
  | succ m ih =>
    intro i g hi g34 g48 g49 hc hq
    refine zt_l e_166_97 (zt_t (by omega) ?_)
    rw [g34, g48, g49]
    refine zt_c (by omega) (zt_c (by omega) (zt_c (by omega) (zt_c (by omega) (zt_c (by omega) (zt_c (by omega) (zt_c (by omega) (zt_c (by omega) ?_)))))))
    rw [show (i : Int) + 1 = ((i + 1 : Nat) : Int) by omega]
    have f1 : zq_F (fun a y => a = 157 ∧ ∃ c : Nat, c < 8 ∧ y = 8 * (8 * (b : Int) + c) + K) g (zm_wr g 157 (8 * (8 * (b : Int) + i) + K) W) := zq_F_wr ⟨rfl, i, by omega, rfl⟩
    refine ih (i + 1) _ (by omega) (by rw [zq_wr_n (by decide)]; exact g34) (by rw [zq_wr_n (by decide)]; exact g48) (by rw [zq_wr_n (by decide)]; exact g49) (fun c hc2 j hj => ?_) (fun g2 f2 c2 => hq g2 (zq_F_tr f1 f2) c2)
    by_cases e : c = i
    · subst e; rw [hj, zq_wr_e]
    · rw [zq_wr_i (by omega)]; exact hc c (by omega) j hj
theorem zw_RD_kind (hD : zw_RD h b K L C wo sz re fe ru lk nk nc F0 pu l cf ct qf qt) (hb : b < 2) (hK8 : K < 8) (hC8 : C ≤ 8) {s : List Nat} {W S : Int} (f : zq_F (fun a i => zf_Wd a i ∨ ((a = 165 ∨ a = 149 ∨ a = 150) ∧ i = 8 * (b : Int) + K) ∨ (a = 157 ∧ ∃ c : Nat, c < 8 ∧ i = 8 * (8 * (b : Int) + c) + K)) h g) (h65 : ∀ j : Int, j = 8 * b + K → g 165 j = (zp_q8 s.reverse : Nat) ∧ g 149 j = W ∧ g 150 j = S) (h57 : ∀ c : Nat, c < 8 → ∀ j : Int, j = 8 * (8 * b + c) + K → g 157 j = W) : zw_RD (zm_wr g 148 b ((K : Int) + 1)) b (K + 1) L C (zp_set wo K W) (zp_set sz K S) re fe ru (zw_lkK lk K W) (zw_upd nk K s) nc F0 pu l cf ct qf qt := by
  obtain ⟨⟨d1, d2, d3⟩, d4, d5, d6, ⟨d7, d8⟩, d9, d10, ⟨d11, d12⟩, d13⟩ := hD
  have ka : ∀ a : Nat, a ≠ 146 → a ≠ 165 → a ≠ 149 → a ≠ 150 → a ≠ 157 → g a = h a := fun a q1 q2 q3 q4 q5 => by
    funext i
    refine f a i (fun q => ?_)
    rcases q with q | q | q
    · exact q1 q.1
    · omega
    · exact q5 q.1
  have kw : ∀ a : Nat, a ≠ 148 → zm_wr g 148 b ((K : Int) + 1) a = g a := fun a q => by funext i; exact zq_wr_n q
  have k8 : ∀ (a : Nat) (i : Int), (a = 165 ∨ a = 149 ∨ a = 150) → i ≠ 8 * (b : Int) + K → g a i = h a i := fun a i q1 q2 => by
    refine f a i (fun q => ?_)
    rcases q with q | q | q
    · unfold zf_Wd at q; omega
    · exact q2 q.2
    · omega
  refine ⟨⟨?_, ?_, ?_⟩, ?_, ?_, ?_, ⟨?_, ?_⟩, ?_, ?_, ⟨?_, ?_⟩, ?_⟩
  · rw [zq_wr_e]; omega
  · rw [kw 151 (by decide), ka 151 (by decide) (by decide) (by decide) (by decide) (by decide)]; exact d2
  · rw [kw 153 (by decide), ka 153 (by decide) (by decide) (by decide) (by decide) (by decide)]; exact d3
  · intro k hk j hj
    rw [kw 149 (by decide), kw 150 (by decide)]
    unfold zp_set
    by_cases q : k = K
    · rw [if_pos q, if_pos q]; exact ⟨(h65 j (by omega)).2.1, (h65 j (by omega)).2.2⟩
    · rw [if_neg q, if_neg q, k8 149 j (by omega) (by omega), k8 150 j (by omega) (by omega)]; exact d4 k (by omega) j hj
  · rw [kw 154 (by decide), kw 155 (by decide), kw 156 (by decide), ka 154 (by decide) (by decide) (by decide) (by decide) (by decide), ka 155 (by decide) (by decide) (by decide) (by decide) (by decide), ka 156 (by decide) (by decide) (by decide) (by decide) (by decide)]; exact d5
  · intro c k hc hk j hj
    rw [kw 157 (by decide)]
    unfold zw_lkK
    by_cases q : k = K
    · rw [if_pos q]; exact h57 c (by omega) j (by omega)
    · rw [if_neg q, f 157 j (fun r => ?_)]
      · exact d6 c k hc (by omega) j hj
      · rcases r with r | r | ⟨_, c', hc', e⟩
        · unfold zf_Wd at r; omega
        · omega
        · omega
  · intro k hk j hj
    rw [kw 165 (by decide)]
    unfold zw_upd
    by_cases q : k = K
    · rw [if_pos q]; exact (h65 j (by omega)).1
    · rw [if_neg q, k8 165 j (by omega) (by omega)]; exact d7 k (by omega) j hj
  · rw [kw 166 (by decide), ka 166 (by decide) (by decide) (by decide) (by decide) (by decide)]; exact d8
  · rw [kw 152 (by decide), ka 152 (by decide) (by decide) (by decide) (by decide) (by decide)]; exact d9
  · rw [kw 158 (by decide), ka 158 (by decide) (by decide) (by decide) (by decide) (by decide)]; exact d10
  · rw [kw 146 (by decide), f 146 33 (fun q => ?_)]
    · exact d11
    · rcases q with q | q | q
      · unfold zf_Wd at q; omega
      · omega
      · omega
  · rw [kw 163 (by decide), kw 164 (by decide), ka 163 (by decide) (by decide) (by decide) (by decide) (by decide), ka 164 (by decide) (by decide) (by decide) (by decide) (by decide)]; exact d12
  · rw [kw 159 (by decide), kw 160 (by decide), kw 161 (by decide), kw 162 (by decide), ka 159 (by decide) (by decide) (by decide) (by decide) (by decide), ka 160 (by decide) (by decide) (by decide) (by decide) (by decide), ka 161 (by decide) (by decide) (by decide) (by decide) (by decide), ka 162 (by decide) (by decide) (by decide) (by decide) (by decide)]; exact d13
/-- a kind, told by the reference -/
theorem s_166w (hv : zw_lv h T n b (.inr (p, gl))) (hw : zy_ty T n p gl = 1) (hD : zw_RD h b K L C wo sz re fe ru lk nk nc F0 pu l cf ct qf qt) (hB : zv_B K L C wo sz re fe ru lk) (hN : zv_Nn K C nk nc) : zu (zc 166 [zm_A 146] h) (zw_rO h T n b (if K = 8 then .inl (6, zy_at T n p) else zw_kd T n K C nk nc (zy_en T n p) (zy_ng T n p gl)) (fun g => zw_RD g b (K + 1) L C (zp_set wo K (zy_nu T n (zy_en T n (zy_en T n (zy_en T n p))))) (zp_set sz K (zy_nu T n (zy_en T n (zy_en T n (zy_en T n (zy_en T n (zy_en T n p))))))) re fe ru (zw_lkK lk K (zy_nu T n (zy_en T n (zy_en T n (zy_en T n p))))) (zw_upd nk K (zy_ls T n (zy_en T n p))) nc F0 pu l cf ct qf qt)) := by
  have hb := hv.2.2.1
  have h34 := hv.2.1
  have hK8 := hB.1
  refine zt_l e_166 ?_
  rw [h34, hD.1.1]
  refine zt_c (by omega) (zt_p (fun q => ?_) (fun q => ?_))
  · rw [if_pos (show K = 8 by omega)]
    refine zt_I (s_167 (x := 1) hv (by omega)) ?_
    rintro z g (⟨r, _⟩ | ⟨_, rfl, r⟩)
    · exact absurd r (by decide)
    · exact zt_t rfl (zu_e ⟨zf_Wd_Pr r.1, Or.inl ⟨_, _, rfl, r.2⟩⟩)
  · have K7 : K < 8 := by omega
    rw [if_neg (show ¬ K = 8 by omega)]
    refine zt_I (s_167 (x := 0) hv (by omega)) ?_
    rintro z g1 (⟨_, rfl, r1⟩ | ⟨r, _⟩)
    · refine zt_f (by decide) ?_
      have e34 : g1 146 34 = b := (zf_Wd_34 r1.1).trans h34
      have e48 : g1 148 b = K := by rw [zf_Wd_a r1.1 (by decide)]; exact hD.1.1
      rw [e34, e48]
      refine zt_c (by omega) (zt_c (by omega) (zt_c (by omega) (zt_L (s_168 r1.2 (zw_Nm_K hD hB hN (fun a ha => zf_Wd_a r1.1 (by omega))) (zw_Nm_C hD hB hN (fun a ha => zf_Wd_a r1.1 (by omega)))) ?_)))
      rintro v g2 ⟨r2, v2⟩
      have r2' : zw_P g1 T n b (zw_new T n K C nk nc (zy_en T n p) (zy_ng T n p gl)) g2 := r2
      refine zt_c (by omega) (zt_V (s_173 (w := 1) (r2'.2.wd (by decide)) (by decide) (by decide)) ?_)
      intro g3 r3
      refine zt_I (s_174 r3.2 0 99) ?_
      rintro x4 g4 ⟨r4, v4⟩
      refine zt_c (by omega) (zt_V (s_173 (w := 2) (r4.2.wd (by decide)) (by decide) (by decide)) ?_)
      intro g5 r5
      refine zt_I (s_174 r5.2 1 9) ?_
      rintro x6 g6 ⟨r6, v6⟩
      -- what is held now
      have w165 : ∀ j : Int, j = 8 * b + K → g6 165 j = v := fun j hj => by
        rw [zf_Wd_a r6.1 (by decide), zf_Wd_a r5.1 (by decide), zq_wr_n (by decide), zf_Wd_a r4.1 (by decide), zf_Wd_a r3.1 (by decide), hj, zq_wr_e]
      have w149 : ∀ j : Int, j = 8 * b + K → g6 149 j = x4 := fun j hj => by
        rw [zf_Wd_a r6.1 (by decide), zf_Wd_a r5.1 (by decide), hj, zq_wr_e]
      have F6 : zq_F (fun a i => zf_Wd a i ∨ ((a = 165 ∨ a = 149 ∨ a = 150) ∧ i = 8 * (b : Int) + K) ∨ (a = 157 ∧ ∃ c : Nat, c < 8 ∧ i = 8 * (8 * (b : Int) + c) + K)) h (zm_wr g6 150 (8 * (b : Int) + K) x6) := by
        refine zq_F_tr (zq_F_wk r1.1 (fun a i q => Or.inl q)) (zq_F_tr (zq_F_wk r2.1 (fun a i q => Or.inl q)) (zq_F_tr (zq_F_wr (Or.inr (Or.inl ⟨Or.inl rfl, rfl⟩))) (zq_F_tr (zq_F_wk r3.1 (fun a i q => Or.inl q)) (zq_F_tr (zq_F_wk r4.1 (fun a i q => Or.inl q)) (zq_F_tr (zq_F_wr (Or.inr (Or.inl ⟨Or.inr (Or.inl rfl), rfl⟩))) (zq_F_tr (zq_F_wk r5.1 (fun a i q => Or.inl q)) (zq_F_tr (zq_F_wk r6.1 (fun a i q => Or.inl q)) (zq_F_wr (Or.inr (Or.inl ⟨Or.inr (Or.inr rfl), rfl⟩))))))))))
      have oeq : zw_th (zw_th (zw_th (zw_th (zw_new T n K C nk nc (zy_en T n p) (zy_ng T n p gl)) (zw_own T n ((1 : Nat) : Int))) (zw_num T n 0 99)) (zw_own T n ((2 : Nat) : Int))) (zw_num T n 1 9) = zw_kd T n K C nk nc (zy_en T n p) (zy_ng T n p gl) := rfl
      have L6 : zw_lv (zm_wr g6 150 (8 * (b : Int) + K) x6) T n b (zw_kd T n K C nk nc (zy_en T n p) (zy_ng T n p gl)) := r6.2.wd (by decide)
      refine zt_c (by omega) (s_166_97 (b := b) (K := K) (W := x4) hb K7 rfl 8 0 _ (by decide) ?_ ?_ ?_ (fun c hc => by omega) ?_)
      · rw [zq_wr_n (by decide), zf_Wd_34 r6.1, zf_Wd_34 r5.1, zq_wr_n (by decide), zf_Wd_34 r4.1, zf_Wd_34 r3.1, zq_wr_n (by decide), zf_Wd_34 r2.1]; exact e34
      · rw [zq_wr_n (by decide), zf_Wd_a r6.1 (by decide), zf_Wd_a r5.1 (by decide), zq_wr_n (by decide), zf_Wd_a r4.1 (by decide), zf_Wd_a r3.1 (by decide), zq_wr_n (by decide), zf_Wd_a r2.1 (by decide)]; exact e48
      · rw [zq_wr_n (by decide)]; exact w149 _ rfl
      · intro g7 f7 c7
        have F7 : zq_F (fun a i => zf_Wd a i ∨ ((a = 165 ∨ a = 149 ∨ a = 150) ∧ i = 8 * (b : Int) + K) ∨ (a = 157 ∧ ∃ c : Nat, c < 8 ∧ i = 8 * (8 * (b : Int) + c) + K)) h g7 := zq_F_tr F6 (zq_F_wk f7 (fun a i q => Or.inr (Or.inr q)))
        have L7 : zw_lv g7 T n b (zw_kd T n K C nk nc (zy_en T n p) (zy_ng T n p gl)) := L6.kp (fun i _ => f7 146 i (fun q => absurd q.1 (by decide))) (by funext j; exact f7 147 j (fun q => absurd q.1 (by decide)))
        have P7 : zq_F (zf_Pr b) h g7 := zq_F_wk F7 (fun a i q => by
          rcases q with q | q | ⟨q, c, hc, e⟩
          · unfold zf_Wd at q; unfold zf_Pr; omega
          · unfold zf_Pr; omega
          · unfold zf_Pr; omega)
        refine ⟨fun h8 => ?_, fun h8 => ?_⟩
        · cases ho : zw_kd T n K C nk nc (zy_en T n p) (zy_ng T n p gl) with
          | inl e =>
            obtain ⟨k, a⟩ := e
            rw [ho] at L7
            have := L7.dead
            omega
          | inr q =>
            obtain ⟨p', g'⟩ := q
            have ho' := ho
            unfold zw_kd at ho'
            obtain ⟨p5, g5', E5, X5⟩ := zw_th_r ho'
            obtain ⟨p4, g4', E4, X4⟩ := zw_th_r E5
            obtain ⟨p3, g3', E3, X3⟩ := zw_th_r E4
            obtain ⟨p2, g2', E2, X2⟩ := zw_th_r E3
            have Y2 := (zw_new_r E2).2
            have Y3 := (zw_own_r X2).2
            have Y4 := (zw_num_r X3).2.2
            have Y5 := (zw_own_r X4).2
            have V1 := v2 _ _ rfl _ E2
            have V4 := v4 _ _ E3 _ X3
            have V6 := v6 _ _ E5 _ X5
            cases Y2
            cases Y3
            cases Y4
            cases Y5
            rw [ho] at L7
            refine ⟨zq_F_tr P7 (zq_F_wr (by unfold zf_Pr; omega)), Or.inr (Or.inl ⟨p', g', rfl, Or.inr ⟨L7.wd (by decide), ?_⟩⟩)⟩
            rw [V4] at c7
            refine zw_RD_kind hD hb K7 hB.2.2.1 F7 (fun j hj => ⟨?_, ?_, ?_⟩) c7
            · rw [f7 165 j (fun q => absurd q.1 (by decide)), zq_wr_n (by decide), w165 j hj]; exact V1
            · rw [f7 149 j (fun q => absurd q.1 (by decide)), zq_wr_n (by decide), w149 j hj]; exact V4
            · rw [f7 150 j (fun q => absurd q.1 (by decide)), hj, zq_wr_e]; exact V6
        · cases ho : zw_kd T n K C nk nc (zy_en T n p) (zy_ng T n p gl) with
          | inl e =>
            obtain ⟨k, a⟩ := e
            rw [ho] at L7
            exact ⟨P7, Or.inl ⟨k, a, rfl, L7⟩⟩
          | inr q =>
            obtain ⟨p', g'⟩ := q
            rw [ho] at L7
            exact absurd L7.live.1 h8
    · exact absurd rfl r
end
