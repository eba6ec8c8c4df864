/-! LIKELY, TAKES, MEAN of the reference; LIKES of both -/
section
variable {h : zm_H} {t b K L C : Nat} {wo sz re fe ru : Nat → Int} {lk : Nat → Nat → Int} {P Pu Qu Hd : Nat → Int} {hr dp : Int}
/-- 231 by whole numbers -/
theorem s_231x (hD : zv_D h b K L C wo sz re fe ru lk P Qu Hd hr dp) (hB : zv_B K L C wo sz re fe ru lk) (hP : zv_P K L P) (x : Int) : zi (zc 231 [zm_A 146, zm_I x] h) (fun z g => zq_F zf_Ds h g ∧ ((z = 0 ∧ ¬ (0 ≤ x ∧ x < C)) ∨ ∃ c : Nat, x = c ∧ c < C ∧ z = (if zq_S 8 (zp_cn L re P zp_id c) ≤ 0 then 0 else 1) ∧ g 146 68 = zq_S 8 (zp_cn L re P zp_id c) ∧ ∀ k : Nat, k < 8 → g 186 k = zp_cn L re P zp_id c k)) := by
  by_cases hx : 0 ≤ x ∧ x < C
  · obtain ⟨c, rfl⟩ := Int.eq_ofNat_of_zero_le hx.1
    have hc : c < C := by omega
    exact zi_m (s_231 hD hB hP hc) (fun z g q => ⟨q.2.1, Or.inr ⟨c, rfl, hc, q.1, q.2.2.1.1, q.2.2.1.2⟩⟩)
  · refine zt_l e_231 (zt_I (s_223 hD.1 x) ?_)
    rintro z g ⟨rfl, rfl⟩
    rw [if_neg hx]
    exact zt_t rfl (zt_c (by decide) (zi_e ⟨zq_F_rf, Or.inl ⟨rfl, hx⟩⟩))
theorem s_230 (hD : zv_D h b K L C wo sz re fe ru lk P Qu Hd hr dp) (hB : zv_B K L C wo sz re fe ru lk) (hP : zv_P K L P) (x y : Int) : zi (zc 230 [zm_A 146, zm_I x, zm_I y] h) (fun z g => z = zp_q2 C K x y (zp_lik L re P) ∧ zq_F zf_Ds h g) := by
  refine zt_l e_230 (zt_I (s_231x hD hB hP x) ?_)
  rintro z g ⟨f, ⟨rfl, hx⟩ | ⟨c, rfl, hc, rfl, h68, h186⟩⟩
  · exact zt_t rfl (zi_e ⟨by unfold zp_q2; rw [if_neg (fun q => hx q.1)], f⟩)
  · have bc := zp_cn_b hB hP zp_id_b c
    have bt := zp_tot_b bc
    have hK8 := hB.1
    by_cases ht : zq_S 8 (zp_cn L re P zp_id c) ≤ 0
    · rw [if_pos ht]
      refine zt_t rfl (zi_e ⟨?_, f⟩)
      unfold zp_q2 zp_lik
      split
      · exact (if_pos ht).symm
      · rfl
    · rw [if_neg ht]
      refine zt_f (by decide) (zt_I (s_218 (hD.kp f).1 y) ?_)
      rintro z g2 ⟨rfl, rfl⟩
      by_cases hy : 0 ≤ y ∧ y < K
      · rw [if_pos hy]
        obtain ⟨k, rfl⟩ := Int.eq_ofNat_of_zero_le hy.1
        have b0 := bc k (by omega)
        have bk := zq_S_one (n := 8) (fun i hi => (bc i hi).1) (i := k) (by omega)
        have e := zp_th_1000 b0.1 (a := zq_S 8 (zp_cn L re P zp_id c)) (by omega)
        have bth := zp_th_b b0.1 (a := zq_S 8 (zp_cn L re P zp_id c)) (by omega) (by omega) (by omega)
        rw [h68, h186 k (by omega)]
        rw [zq_tdiv (by omega), e]
        refine zt_f (by decide) (zt_c (by omega) (zt_c (by omega) (zt_c ⟨by omega, by unfold zp_th; omega⟩ (zi_e ⟨?_, f⟩))))
        unfold zp_q2
        rw [if_pos ⟨by omega, hy⟩]
        unfold zp_lik
        exact (if_neg ht).symm
      · rw [if_neg hy]
        exact zt_t rfl (zi_e ⟨by unfold zp_q2; rw [if_neg (fun q => hy q.2)], f⟩)
theorem s_232 (hD : zv_D h b K L C wo sz re fe ru lk P Qu Hd hr dp) (hB : zv_B K L C wo sz re fe ru lk) (hP : zv_P K L P) (x y : Int) : zi (zc 232 [zm_A 146, zm_I x, zm_I y] h) (fun z g => z = zp_q2 C K x y (zp_tak K L sz re fe ru lk P) ∧ zq_F zf_Ds h g) := by
  refine zt_l e_232 (zt_I (s_231x hD hB hP x) ?_)
  rintro z g ⟨f, ⟨rfl, hx⟩ | ⟨c, rfl, hc, rfl, h68, h186⟩⟩
  · exact zt_t rfl (zi_e ⟨by unfold zp_q2; rw [if_neg (fun q => hx q.1)], f⟩)
  · have bc := zp_cn_b hB hP zp_id_b c
    have b0 := zp_cn_0 (re := re) hB hP zp_id_b c
    have bt := zp_tot_b bc
    have hK8 := hB.1
    have hDg := hD.kp f
    by_cases ht : zq_S 8 (zp_cn L re P zp_id c) ≤ 0
    · rw [if_pos ht]
      refine zt_t rfl (zi_e ⟨?_, f⟩)
      unfold zp_q2 zp_tak
      split
      · exact (if_pos ht).symm
      · rfl
    · rw [if_neg ht]
      refine zt_f (by decide) (zt_I (s_218 hDg.1 y) ?_)
      rintro z g2 ⟨rfl, rfl⟩
      by_cases hy : 0 ≤ y ∧ y < K
      · rw [if_pos hy]
        obtain ⟨k, rfl⟩ := Int.eq_ofNat_of_zero_le hy.1
        have bT := zp_T_b hB hc
        have bw := zp_ways_b (ke := zp_ke K sz ru lk c) (k := k) (by omega) bc bT.2.2
        have bm := zp_pw_b bt.1 bt.2 (zp_T fe c)
        have bm2 := zp_pw_m bT.2.2
        have hp := zp_pw_pos (b := zq_S 8 (zp_cn L re P zp_id c)) (by omega) (zp_T fe c)
        refine zt_f (by decide) (zt_L (s_233 hDg.1 hB hc (by omega) bT.1 h186 bc b0) ?_)
        rintro z g2 ⟨rfl, rfl⟩
        refine zt_I (s_235 hDg.1 hB hc) ?_
        rintro z g2 ⟨rfl, rfl⟩
        rw [h68, ← bT.1]
        refine zt_L (s_236 bt bT.2.2) ?_
        rintro z g2 ⟨rfl, rfl⟩
        refine zt_I (s_237 bw.1 (by omega) (by omega) (by omega)) ?_
        rintro z g2 ⟨rfl, rfl⟩
        refine zi_e ⟨?_, f⟩
        unfold zp_q2
        rw [if_pos ⟨by omega, hy⟩]
        unfold zp_tak
        exact (if_neg ht).symm
      · rw [if_neg hy]
        exact zt_t rfl (zi_e ⟨by unfold zp_q2; rw [if_neg (fun q => hy q.2)], f⟩)
theorem s_238 (hD : zv_D h b K L C wo sz re fe ru lk P Qu Hd hr dp) (hB : zv_B K L C wo sz re fe ru lk) (hP : zv_P K L P) (x : Int) : zi (zc 238 [zm_A 146, zm_I x] h) (fun z g => z = zp_q1 C x (zp_mea K L sz re fe ru lk P) ∧ zq_F zf_Ds h g) := by
  refine zt_l e_238 (zt_I (s_231x hD hB hP x) ?_)
  rintro z g ⟨f, ⟨rfl, hx⟩ | ⟨c, rfl, hc, rfl, h68, h186⟩⟩
  · exact zt_t rfl (zi_e ⟨by unfold zp_q1; rw [if_neg hx], f⟩)
  · have bc := zp_cn_b hB hP zp_id_b c
    have b0 := zp_cn_0 (re := re) hB hP zp_id_b c
    have bt := zp_tot_b bc
    have hK8 := hB.1
    have hDg := hD.kp f
    have hq : zp_q1 C (c : Int) (zp_mea K L sz re fe ru lk P) = zp_mea K L sz re fe ru lk P c := by
      unfold zp_q1
      rw [if_pos (by omega)]; rfl
    rw [hq]
    by_cases ht : zq_S 8 (zp_cn L re P zp_id c) ≤ 0
    · rw [if_pos ht]
      exact zt_t rfl (zi_e ⟨by unfold zp_mea; exact (if_pos ht).symm, f⟩)
    · rw [if_neg ht]
      have bT := zp_T_b hB hc
      have hw : ∀ j, j < 8 → 0 ≤ zp_wv K lk c j ∧ zp_wv K lk c j ≤ 99 := fun j hj => by
        unfold zp_wv
        split
        · exact hB.2.2.2.2.2 c j hc (by assumption)
        · omega
      have bw := zp_wo_b (ke := zp_ke K sz ru lk c) (Nat.le_refl 8) bc hw bT.2.2
      have bm := zp_pw_b bt.1 bt.2 (zp_T fe c)
      have bm2 := zp_pw_m bT.2.2
      have hp := zp_pw_pos (b := zq_S 8 (zp_cn L re P zp_id c)) (by omega) (zp_T fe c)
      refine zt_f (by decide) (zt_L (s_239 hDg.1 hB hc bT.1 h186 bc b0) ?_)
      rintro z g2 ⟨rfl, rfl⟩
      refine zt_I (s_235 hDg.1 hB hc) ?_
      rintro z g2 ⟨rfl, rfl⟩
      rw [h68, ← bT.1]
      refine zt_L (s_236 bt bT.2.2) ?_
      rintro z g2 ⟨rfl, rfl⟩
      refine zt_I (s_237 bw.1 (by omega) bw.2 (by omega)) ?_
      rintro z g2 ⟨rfl, rfl⟩
      exact zi_e ⟨by unfold zp_mea; exact (if_neg ht).symm, f⟩
end
