/-! STATEMENTS: likes and purse, both sides -/
def zw_li (T : Nat → Int) (n K C : Nat) (nk nc : Nat → List Nat) (p : Nat) (g : Bool) : zw_S := zw_th (zw_th (zw_th (zw_th (zw_lk T n C nc p g) (zw_go T n)) (zw_lk T n K nk)) (zw_go T n)) (zw_num T n 0 99)
def zw_lk1 (lk : Nat → Nat → Int) (c0 k0 : Nat) (v : Int) : Nat → Nat → Int := fun c k => if c = c0 ∧ k = k0 then v else lk c k
section
variable {h g : zm_H} {T : Nat → Int} {n p b pf K L C cf ct qf qt : Nat} {gl : Bool} {wo sz re fe ru : Nat → Int} {lk : Nat → Nat → Int} {nk nc : Nat → List Nat} {F F0 : Nat → Int} {pu : Int} {l : List Int} {q : Nat × Bool} {o : zw_S}
theorem zw_CD_li (hD : zw_CD h pf K L C wo sz re fe ru lk nk nc F pu l cf ct qf qt) {c0 k0 : Nat} {v j : Int} (hK : K ≤ 8) (hc : c0 < C) (hk : k0 < K) (hv : 0 ≤ v) (hj : j = 8 * c0 + k0) : zw_CD (zm_wr h (pf + 9) j v) pf K L C wo sz re fe ru (zw_lk1 lk c0 k0 v) nk nc F pu l cf ct qf qt := by
  have e : ∀ a : Nat, a ≠ pf + 9 → zm_wr h (pf + 9) j v a = h a := fun a ha => by funext x; exact zq_wr_n ha
  obtain ⟨⟨f1, f2, f3, f4, f5, f6, f7⟩, ⟨n1, n2⟩, d3, d4, d5, d6, d7⟩ := hD
  refine ⟨⟨f1, ?_, ?_, ?_, ?_, ?_, ?_⟩, ⟨?_, ?_⟩, ?_, ?_, ?_, ?_, ?_⟩
  · rw [e pf (by omega)]; exact f2
  · rw [e pf (by omega)]; exact f3
  · rw [e pf (by omega)]; exact f4
  · rw [e (pf + 2) (by omega), e (pf + 3) (by omega)]; exact f5
  · rw [e (pf + 6) (by omega), e (pf + 7) (by omega), e (pf + 8) (by omega)]; exact f6
  · intro c k hc' hk' x hx
    unfold zw_lk1
    by_cases q : c = c0 ∧ k = k0
    · rw [if_pos q, show x = j by omega, zq_wr_e, if_neg (by omega)]
    · rw [if_neg q, zq_wr_i (by omega)]; exact f7 c k hc' hk' x hx
  · rw [e (pf + 1) (by omega)]; exact n1
  · rw [e (pf + 5) (by omega)]; exact n2
  · rw [e (pf + 4) (by omega)]; exact d3
  · rw [e pf (by omega)]; exact d4
  · rw [e pf (by omega), e (pf + 10) (by omega)]; exact d5
  · rw [e pf (by omega)]; exact d6
  · intro c k hc' hk' hq x hx
    rw [zq_wr_i (by omega)]; exact d7 c k hc' hk' hq x hx
/-- a name that there is, in the class -/
theorem zw_lk_n (h1 : ¬ zw_nam T n p gl) {N : Nat} {nm : Nat → List Nat} : zw_lk T n N nm p gl = .inl (1, zy_bd T n p gl) := by unfold zw_lk; rw [if_neg h1]
theorem zw_lk_0 (h1 : zw_nam T n p gl) {N : Nat} {nm : Nat → List Nat} (h2 : zw_fd N nm (zy_ls T n p) = -1) : zw_lk T n N nm p gl = .inl (3, zy_at T n p) := by unfold zw_lk; rw [if_pos h1, if_pos h2]
theorem zw_lk_y (h1 : zw_nam T n p gl) {N : Nat} {nm : Nat → List Nat} (h2 : ¬ zw_fd N nm (zy_ls T n p) = -1) : zw_lk T n N nm p gl = .inr (p, gl) := by unfold zw_lk; rw [if_pos h1, if_neg h2]
/-- likes, told by the class -/
theorem s_88w (hpf : zf_F pf) (hK : zw_K h pf T n p gl) (hD : zw_CD h pf K L C wo sz re fe ru lk nk nc F pu l cf ct qf qt) (hB : zv_B K L C wo sz re fe ru lk) (hN : zv_Nn K C nk nc) : zi (zc 88 [zm_A 29] h) (zw_cO h pf T n (zw_li T n K C nk nc p gl) (fun g => zw_CD g pf K L C wo sz re fe ru (zw_lk1 lk (zw_kk T n C nc p) (zw_kk T n K nk (zy_en T n p)) (zy_nu T n (zy_en T n (zy_en T n p)))) nk nc F pu l cf ct qf qt)) := by
  have pf18 := zf_F_ne hpf
  have c := hK.2.2.2
  have hK8 := hB.1
  have hC8 := hB.2.2.1
  unfold zw_li
  refine zt_l (e_88 hpf) (zt_I (s_82w hK) ?_)
  rintro z g ⟨rfl, rfl⟩
  by_cases q : zw_nam T n p gl
  · have nmls := zy_ls_nm q.1
    rw [if_pos q, c.2.2.2.2.2.1 q.1]
    refine zt_f (by decide) (zt_c hK.1 (zt_I (s_62 hpf hB.2.2.1 hD.1.2.2.2.1 hD.2.1.2 hN.2 nmls) ?_))
    rintro z g2 ⟨rfl, rfl⟩
    by_cases q1 : zw_fd C nc (zy_ls T n p) = -1
    · rw [zw_lk_0 q q1, c.2.1]
      refine zt_t q1 (zt_I (s_76 3 _) ?_)
      rintro z g4 ⟨rfl, hg⟩
      exact zt_c (Or.inl rfl) (zi_e (zw_cO_f zq_F_rf rfl hg))
    · obtain ⟨e1, e2⟩ := zw_kk_fd q1
      rw [zw_lk_y q q1]
      refine zt_f q1 (zt_V (s_133w hK (by have := q.1; omega)) ?_)
      rintro g4 ⟨F4, K4⟩
      have c4 := K4.2.2.2
      have D4 := hD.sc hpf F4
      show zt _ (fun v g => ∃ z, v = zm_I z ∧ zw_cO g2 pf T n (zw_th (zw_th (zw_lk T n K nk (zy_en T n p) (zy_ng T n p gl)) (zw_go T n)) (zw_num T n 0 99)) _ z g)
      refine zt_I (s_82w K4) ?_
      rintro z g5 ⟨rfl, rfl⟩
      by_cases q2 : zw_nam T n (zy_en T n p) (zy_ng T n p gl)
      · have nmls2 := zy_ls_nm q2.1
        rw [if_pos q2, c4.2.2.2.2.2.1 q2.1]
        refine zt_f (by decide) (zt_c K4.1 (zt_I (s_61 hpf hB.1 D4.1.2.1 D4.2.1.1 hN.1 nmls2) ?_))
        rintro z g6 ⟨rfl, rfl⟩
        by_cases q3 : zw_fd K nk (zy_ls T n (zy_en T n p)) = -1
        · rw [zw_lk_0 q2 q3, c4.2.1]
          refine zt_t q3 (zt_I (s_76 3 _) ?_)
          rintro z g7 ⟨rfl, hg⟩
          exact zt_c (Or.inl rfl) (zi_e (zw_cO_f (zf_Sc_Pc F4) rfl hg))
        · obtain ⟨e3, e4⟩ := zw_kk_fd q3
          rw [zw_lk_y q2 q3]
          refine zt_f q3 (zt_V (s_133w K4 (by have := q2.1; omega)) ?_)
          rintro g7 ⟨F7, K7⟩
          show zt _ (fun v g => ∃ z, v = zm_I z ∧ zw_cO g2 pf T n (zw_num T n 0 99 (zy_en T n (zy_en T n p)) (zy_ng T n (zy_en T n p) (zy_ng T n p gl))) _ z g)
          refine zt_I (s_84w K7 0 99 (by decide)) ?_
          rintro z g8 ⟨Q8, r⟩
          rcases r with ⟨rfl, k, a, e8⟩ | ⟨rfl, v3, v4, e8⟩
          · exact zt_t rfl (zt_c (Or.inl rfl) (zi_e (zw_cO_f (zf_Sc_Pc (zq_F_tr F4 F7)) e8 (Q8.1 _ _ e8))))
          · obtain ⟨F8, K8⟩ := Q8.2 _ _ e8
            have F9 := zq_F_tr F4 (zq_F_tr F7 F8)
            have D8 := hD.sc hpf F9
            rw [e1, e3]
            refine zt_f (by omega) (zt_c K8.1 (zt_c (by omega) (zt_c (by omega) (zt_c (by omega) (zt_c (Or.inr rfl) (zi_e ⟨zq_F_tr (zf_Sc_Pc F9) (zq_F_wr (by unfold zf_Pc; omega)), Or.inr ⟨_, _, e8, rfl, K8.wpf hpf (by omega) (by omega), zw_CD_li D8 hK8 e2 e4 v3 (by omega)⟩⟩))))))
      · rw [if_neg q2, zw_lk_n q2]
        refine zt_t rfl (zt_I (s_79 c4) ?_)
        rintro z g6 ⟨rfl, hg⟩
        exact zt_c (Or.inl rfl) (zi_e (zw_cO_f (zf_Sc_Pc F4) rfl hg))
  · rw [if_neg q, zw_lk_n q]
    refine zt_t rfl (zt_I (s_79 c) ?_)
    rintro z g2 ⟨rfl, hg⟩
    exact zt_c (Or.inl rfl) (zi_e (zw_cO_f zq_F_rf rfl hg))
theorem zw_RD_li (hD : zw_RD h b K L C wo sz re fe ru lk nk nc F pu l cf ct qf qt) {c0 k0 : Nat} {v j : Int} (hK : K ≤ 8) (hk : k0 < K) (hj : j = 8 * (8 * (b : Int) + c0) + k0) : zw_RD (zm_wr h 157 j v) b K L C wo sz re fe ru (zw_lk1 lk c0 k0 v) nk nc F pu l cf ct qf qt := by
  have w : ∀ a : Nat, a ≠ 157 → zm_wr h 157 j v a = h a := fun a ha => by funext x; exact zq_wr_n ha
  obtain ⟨d1, d2, d3, d4, d5, d6, d7⟩ := hD
  refine ⟨?_, ?_, ?_, ?_, ⟨?_, ?_⟩, ?_, ?_⟩
  · rw [w 148 (by decide), w 151 (by decide), w 153 (by decide)]; exact d1
  · rw [w 149 (by decide), w 150 (by decide)]; exact d2
  · rw [w 154 (by decide), w 155 (by decide), w 156 (by decide)]; exact d3
  · intro c k hc' hk' x hx
    unfold zw_lk1
    by_cases q : c = c0 ∧ k = k0
    · rw [if_pos q, show x = j by omega, zq_wr_e]
    · rw [if_neg q, zq_wr_i (by omega)]; exact d4 c k hc' hk' x hx
  · rw [w 165 (by decide)]; exact d5.1
  · rw [w 166 (by decide)]; exact d5.2
  · rw [w 152 (by decide)]; exact d6
  · rw [w 158 (by decide), w 146 (by decide), w 163 (by decide), w 164 (by decide), w 159 (by decide), w 160 (by decide), w 161 (by decide), w 162 (by decide)]; exact d7
/-- likes, told by the reference -/
theorem s_179w (hv : zw_lv h T n b (.inr (p, gl))) (hw : zy_ty T n p gl = 1) (hD : zw_RD h b K L C wo sz re fe ru lk nk nc F pu l cf ct qf qt) (hB : zv_B K L C wo sz re fe ru lk) (hN : zv_Nn K C nk nc) : zu (zc 179 [zm_A 146] h) (zw_rO h T n b (zw_li T n K C nk nc (zy_en T n p) (zy_ng T n p gl)) (fun g => zw_RD g b K L C wo sz re fe ru (zw_lk1 lk (zw_kk T n C nc (zy_en T n p)) (zw_kk T n K nk (zy_en T n (zy_en T n p))) (zy_nu T n (zy_en T n (zy_en T n (zy_en T n p))))) nk nc F pu l cf ct qf qt)) := by
  have hb := hv.2.2.1
  have hK8 := hB.1
  have hC8 := hB.2.2.1
  refine zt_l e_179 (zt_I (s_167 (x := 0) hv (by omega)) ?_)
  rintro z g1 (⟨_, rfl, r1⟩ | ⟨r, _⟩)
  · refine zt_f (by decide) (zt_I (s_180 r1.2 (zw_Nm_C hD hB hN (fun a ha => zf_Wd_a r1.1 (by omega)))) ?_)
    rintro v2 g2 ⟨r2, a2, b2⟩
    have F2 := zq_F_tr r1.1 r2.1
    refine zt_I (s_180 r2.2 (zw_Nm_K hD hB hN (fun a ha => zf_Wd_a F2 (by omega)))) ?_
    rintro v3 g3 ⟨r3, a3, b3⟩
    refine zt_I (s_174 r3.2 0 99) ?_
    rintro v4 g4 ⟨r4, a4⟩
    have F4 := zq_F_tr F2 (zq_F_tr r3.1 r4.1)
    have L4 : zw_lv g4 T n b (zw_li T n K C nk nc (zy_en T n p) (zy_ng T n p gl)) := r4.2
    have D4 := hD.wd F4
    have h34 := L4.2.1
    cases ho : zw_li T n K C nk nc (zy_en T n p) (zy_ng T n p gl) with
    | inl e =>
      obtain ⟨k, a⟩ := e
      rw [ho] at L4
      have d := L4.dead
      exact zt_f (by omega) (zu_e ⟨zf_Wd_Pr F4, Or.inl ⟨k, a, rfl, L4⟩⟩)
    | inr q =>
      obtain ⟨p', g'⟩ := q
      rw [ho] at L4
      have ho' := ho
      unfold zw_li at ho'
      obtain ⟨p5, g5', E5, X5⟩ := zw_th_r ho'
      obtain ⟨p4, g4', E4, X4⟩ := zw_th_r E5
      obtain ⟨p3, g3', E3, X3⟩ := zw_th_r E4
      obtain ⟨p2, g2', E2, X2⟩ := zw_th_r E3
      have Y2 := zw_lk_r E2
      have Y4 := zw_lk_r X3
      have V2 := a2 _ _ E2
      have V3 := a3 _ _ E4
      have V4 := a4 _ _ E5 _ X5
      obtain ⟨n2, ⟨c0, x0, y0⟩, e0⟩ := Y2
      cases e0
      cases X2
      obtain ⟨n3, ⟨k0, x1, y1⟩, e1⟩ := Y4
      cases e1
      cases X4
      have z0 : zw_kk T n C nc (zy_en T n p) = c0 := by unfold zw_kk; rw [x0]; rfl
      have z1 : zw_kk T n K nk (zy_en T n (zy_en T n p)) = k0 := by unfold zw_kk; rw [x1]; rfl
      rw [h34, V2, x0, V3, x1, z0, z1, V4]
      refine zt_t L4.live.1 (zt_c (by omega) (zt_c (by omega) (zt_c (by omega) (zt_c (by omega) (zt_c (by omega) (zu_e ⟨zq_F_tr (zf_Wd_Pr F4) (zq_F_wr (by unfold zf_Pr; omega)), Or.inr (Or.inl ⟨p', g', rfl, Or.inr ⟨L4.wd (by decide), zw_RD_li D4 hK8 y1 rfl⟩⟩)⟩))))))
  · exact absurd rfl r
/-- the purse, told by the class -/
theorem s_89w (hpf : zf_F pf) (hK : zw_K h pf T n p gl) (hD : zw_CD h pf K L C wo sz re fe ru lk nk nc F pu l cf ct qf qt) : zi (zc 89 [zm_A 29] h) (zw_cO h pf T n (zw_num T n 0 999 p gl) (fun g => zw_CD g pf K L C wo sz re fe ru lk nk nc F (zy_nu T n p) l cf ct qf qt)) := by
  have pf18 := zf_F_ne hpf
  refine zt_l (e_89 hpf) (zt_I (s_84w hK 0 999 (by decide)) ?_)
  rintro z g1 ⟨Q1, r⟩
  rcases r with ⟨rfl, k, a, e8⟩ | ⟨rfl, v3, v4, e8⟩
  · exact zt_t rfl (zt_c (Or.inl rfl) (zi_e (zw_cO_f zq_F_rf e8 (Q1.1 _ _ e8))))
  · obtain ⟨F8, K8⟩ := Q1.2 _ _ e8
    have D8 := hD.sc hpf F8
    refine zt_f (by omega) (zt_c K8.1 (zt_c (Or.inr rfl) (zi_e ⟨zq_F_tr (zf_Sc_Pc F8) (zq_F_wr (by unfold zf_Pc; omega)), Or.inr ⟨_, _, e8, rfl, K8.wpf hpf (by omega) (by omega), ?_⟩⟩)))
    obtain ⟨⟨f1, f2, f3, f4, f5, f6, f7⟩, ⟨n1, n2⟩, d3, d4, d5, d6, d7⟩ := D8
    have e : ∀ a : Nat, a ≠ pf → zm_wr g1 pf 4 (zy_nu T n p) a = g1 a := fun a ha => by funext x; exact zq_wr_n ha
    have e0 : ∀ i : Int, i ≠ 4 → zm_wr g1 pf 4 (zy_nu T n p) pf i = g1 pf i := fun i hi => zq_wr_i hi
    refine ⟨⟨f1, ?_, ?_, ?_, ?_, ?_, ?_⟩, ⟨?_, ?_⟩, ?_, ?_, ?_, ?_, ?_⟩
    · rw [e0 1 (by decide)]; exact f2
    · rw [e0 2 (by decide)]; exact f3
    · rw [e0 3 (by decide)]; exact f4
    · rw [e (pf + 2) (by omega), e (pf + 3) (by omega)]; exact f5
    · rw [e (pf + 6) (by omega), e (pf + 7) (by omega), e (pf + 8) (by omega)]; exact f6
    · rw [e (pf + 9) (by omega)]; exact f7
    · rw [e (pf + 1) (by omega)]; exact n1
    · rw [e (pf + 5) (by omega)]; exact n2
    · rw [e (pf + 4) (by omega)]; exact d3
    · rw [zq_wr_e]
    · rw [e0 15 (by decide), e (pf + 10) (by omega)]; exact d5
    · rw [e0 16 (by decide), e0 17 (by decide), e0 18 (by decide), e0 19 (by decide)]; exact d6
    · rw [e (pf + 9) (by omega)]; exact d7
/-- the purse, told by the reference -/
theorem s_194w (hv : zw_lv h T n b (.inr (p, gl))) (hw : zy_ty T n p gl = 1) (hD : zw_RD h b K L C wo sz re fe ru lk nk nc F pu l cf ct qf qt) : zu (zc 194 [zm_A 146] h) (zw_rO h T n b (zw_num T n 0 999 (zy_en T n p) (zy_ng T n p gl)) (fun g => zw_RD g b K L C wo sz re fe ru lk nk nc F (zy_nu T n (zy_en T n p)) l cf ct qf qt)) := by
  have hb := hv.2.2.1
  refine zt_l e_194 (zt_I (s_167 (x := 0) hv (by omega)) ?_)
  rintro z g1 (⟨_, rfl, r1⟩ | ⟨r, _⟩)
  · refine zt_f (by decide) (zt_I (s_174 r1.2 0 999) ?_)
    rintro v4 g4 ⟨r4, a4⟩
    have F4 := zq_F_tr r1.1 r4.1
    have L4 : zw_lv g4 T n b (zw_num T n 0 999 (zy_en T n p) (zy_ng T n p gl)) := r4.2
    have D4 := hD.wd F4
    have h34 := L4.2.1
    cases ho : zw_num T n 0 999 (zy_en T n p) (zy_ng T n p gl) with
    | inl e =>
      obtain ⟨k, a⟩ := e
      rw [ho] at L4
      have d := L4.dead
      exact zt_f (by omega) (zu_e ⟨zf_Wd_Pr F4, Or.inl ⟨k, a, rfl, L4⟩⟩)
    | inr q =>
      obtain ⟨p', g'⟩ := q
      rw [ho] at L4
      have V4 := a4 _ _ rfl _ ho
      rw [h34, V4]
      refine zt_t L4.live.1 (zt_c (by omega) (zu_e ⟨zq_F_tr (zf_Wd_Pr F4) (zq_F_wr (by unfold zf_Pr; omega)), Or.inr (Or.inl ⟨p', g', rfl, Or.inr ⟨L4.wd (by decide), ?_⟩⟩)⟩))
      have w : ∀ a : Nat, a ≠ 158 → zm_wr g4 158 b (zy_nu T n (zy_en T n p)) a = g4 a := fun a ha => by funext x; exact zq_wr_n ha
      obtain ⟨d1, d2, d3, d4, d5, d6, d7, d8⟩ := D4
      refine ⟨?_, ?_, ?_, ?_, ⟨?_, ?_⟩, ?_, ?_, ?_⟩
      · rw [w 148 (by decide), w 151 (by decide), w 153 (by decide)]; exact d1
      · rw [w 149 (by decide), w 150 (by decide)]; exact d2
      · rw [w 154 (by decide), w 155 (by decide), w 156 (by decide)]; exact d3
      · rw [w 157 (by decide)]; exact d4
      · rw [w 165 (by decide)]; exact d5.1
      · rw [w 166 (by decide)]; exact d5.2
      · rw [w 152 (by decide)]; exact d6
      · rw [zq_wr_e]
      · rw [w 146 (by decide), w 163 (by decide), w 164 (by decide), w 159 (by decide), w 160 (by decide), w 161 (by decide), w 162 (by decide)]; exact d8
  · exact absurd rfl r
end
