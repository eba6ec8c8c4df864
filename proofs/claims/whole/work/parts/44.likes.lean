/-! LIKES of both sides -/
def zp_lks (L : Nat) (re : Nat → Int) (lk : Nat → Nat → Int) (P Hd : Nat → Int) (w : Int) (c k : Nat) : Int := if w = 0 then lk c k else if w = 1 then Hd (8 * c + k) else if w = 2 then zp_cn L re P zp_id c k else -1
theorem zp_q2_y {C K c k : Nat} {v : Nat → Nat → Int} (hc : c < C) (hk : k < K) : zp_q2 C K c k v = v c k := by
  unfold zp_q2
  rw [if_pos ⟨by omega, by omega⟩]; rfl
theorem zp_q2_n {C K : Nat} {x y : Int} {v : Nat → Nat → Int} (hq : ¬ ((0 ≤ x ∧ x < C) ∧ 0 ≤ y ∧ y < K)) : zp_q2 C K x y v = -1 := if_neg hq
section
variable {h : zm_H} {t b K L C : Nat} {wo sz re fe ru : Nat → Int} {lk : Nat → Nat → Int} {P Pu Qu Hd : Nat → Int} {hr dp : Int}
theorem s_19 (hC : zv_C h t K L C wo sz re fe ru lk P Pu Hd hr dp) (hB : zv_B K L C wo sz re fe ru lk) (hX : zv_X K L C P Pu Hd hr dp) (x y w : Int) : zi (zc 19 [zm_A 4, zm_I x, zm_I y, zm_I w] h) (fun z g => z = zp_q2 C K x y (zp_lks L re lk P Hd w) ∧ zq_F zf_Cs h g) := by
  have hK8 := hB.1
  have hC8 := hB.2.2.1
  refine zt_l (e_19 hC.2.1.1) (zt_I (s_12 hC x) ?_)
  rintro z g ⟨rfl, rfl⟩
  by_cases hx : 0 ≤ x ∧ x < C
  · rw [if_pos hx]
    refine zt_f (by decide) (zt_I (s_11 hC y) ?_)
    rintro z g ⟨rfl, rfl⟩
    by_cases hy : 0 ≤ y ∧ y < K
    · rw [if_pos hy]
      obtain ⟨c, rfl⟩ := Int.eq_ofNat_of_zero_le hx.1
      obtain ⟨k, rfl⟩ := Int.eq_ofNat_of_zero_le hy.1
      have hc : c < C := by omega
      have hk : k < K := by omega
      rw [zp_q2_y hc hk]
      unfold zp_lks
      refine zt_f (by decide) (zt_p (fun q => ?_) (fun q => ?_))
      · rw [if_pos q]
        refine zt_c hC.1 (zt_I (s_64 hC.2.1 hB hc hk) ?_)
        rintro z g2 ⟨rfl, rfl⟩
        exact zi_e ⟨rfl, zq_F_rf⟩
      · rw [if_neg q]
        refine zt_p (fun q1 => ?_) (fun q1 => ?_)
        · rw [if_pos q1]
          have e := hC.2.2.1.2.2.2 (8 * c + k) (by omega)
          have e2 : (c : Int) * 8 + k = ((8 * c + k : Nat) : Int) := by omega
          rw [e2]
          exact zt_c (by omega) (zt_c (by omega) (zt_c (by omega) (zi_e ⟨e, zq_F_rf⟩)))
        · rw [if_neg q1]
          refine zt_p (fun q2 => ?_) (fun q2 => ?_)
          · rw [if_pos q2]
            refine zt_V (s_18 hC hB hX hc) ?_
            rintro g2 ⟨f2, r2⟩
            exact zt_c (by omega) (zi_e ⟨(r2.2.2.2.2 k (by omega)).1, zf_Rs_Cs f2⟩)
          · rw [if_neg q2]
            exact zi_e ⟨rfl, zq_F_rf⟩
    · rw [if_neg hy]
      exact zt_t rfl (zi_e ⟨(zp_q2_n (fun q => hy q.2)).symm, zq_F_rf⟩)
  · rw [if_neg hx]
    exact zt_t rfl (zi_e ⟨(zp_q2_n (fun q => hx q.1)).symm, zq_F_rf⟩)
theorem s_229 (hD : zv_D h b K L C wo sz re fe ru lk P Pu Hd hr dp) (hB : zv_B K L C wo sz re fe ru lk) (hP : zv_P K L P) (x y w : Int) : zi (zc 229 [zm_A 146, zm_I x, zm_I y, zm_I w] h) (fun z g => z = zp_q2 C K x y (zp_lks L re lk P Hd w) ∧ zq_F zf_Ds h g) := by
  have hK8 := hB.1
  have hC8 := hB.2.2.1
  refine zt_l e_229 (zt_I (s_223 hD.1 x) ?_)
  rintro z g ⟨rfl, rfl⟩
  by_cases hx : 0 ≤ x ∧ x < C
  · rw [if_pos hx]
    refine zt_f (by decide) (zt_I (s_218 hD.1 y) ?_)
    rintro z g ⟨rfl, rfl⟩
    by_cases hy : 0 ≤ y ∧ y < K
    · rw [if_pos hy]
      obtain ⟨c, rfl⟩ := Int.eq_ofNat_of_zero_le hx.1
      obtain ⟨k, rfl⟩ := Int.eq_ofNat_of_zero_le hy.1
      have hc : c < C := by omega
      have hk : k < K := by omega
      rw [zp_q2_y hc hk]
      refine zt_f (by decide) (zt_V s_225 ?_)
      rintro g1 ⟨f1, o1⟩
      have f1' : zq_F zf_Ds g g1 := zq_F_wk f1 (fun a i q => by unfold zf_Ds; omega)
      have hD1 := hD.kp f1'
      refine zt_V (s_226 (v := 0) zp_id_b (fun p hp => o1 p (by have := hB.2.1; omega)) hD1.1 hB hD1.2.1 hP hc) ?_
      rintro g2 ⟨f2, s2⟩
      have f3 := zq_F_tr f1' (zf_Gs_Ds f2)
      have hD2 := hD.kp f3
      unfold zp_lks
      refine zt_p (fun q => ?_) (fun q => ?_)
      · rw [if_pos q]
        refine zt_I (s_224 hD2.1 hB hc hk) ?_
        rintro z g3 ⟨rfl, rfl⟩
        exact zi_e ⟨rfl, f3⟩
      · rw [if_neg q]
        refine zt_p (fun q1 => ?_) (fun q1 => ?_)
        · rw [if_pos q1]
          refine zt_I (s_215 (v := 0) (c := c) (k := k) hD2.2.1 (by omega) (by omega)) ?_
          rintro z g3 ⟨rfl, rfl⟩
          exact zi_e ⟨rfl, f3⟩
        · rw [if_neg q1]
          refine zt_p (fun q2 => ?_) (fun q2 => ?_)
          · rw [if_pos q2]
            exact zt_c (by omega) (zi_e ⟨s2.2 k (by omega), f3⟩)
          · rw [if_neg q2]
            exact zi_e ⟨rfl, f3⟩
    · rw [if_neg hy]
      exact zt_t rfl (zi_e ⟨(zp_q2_n (fun q => hy q.2)).symm, zq_F_rf⟩)
  · rw [if_neg hx]
    exact zt_t rfl (zi_e ⟨(zp_q2_n (fun q => hx q.1)).symm, zq_F_rf⟩)
end
