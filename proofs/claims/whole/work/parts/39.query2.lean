/-! LIKELY, TAKES, MEAN of both sides -/
def zp_cn (L : Nat) (re : Nat → Int) (P : Nat → Int) (ord : Nat → Nat) (c : Nat) : Nat → Int := zp_cnt P ord (zp_up L P ord) (zp_to L P ord re c)
def zp_T (fe : Nat → Int) (c : Nat) : Nat := (fe c + 1).toNat
def zp_lik (L : Nat) (re P : Nat → Int) (c k : Nat) : Int := if zq_S 8 (zp_cn L re P zp_id c) ≤ 0 then -1 else zp_th (zp_cn L re P zp_id c k) (zq_S 8 (zp_cn L re P zp_id c))
def zp_tak (K L : Nat) (sz re fe ru : Nat → Int) (lk : Nat → Nat → Int) (P : Nat → Int) (c k : Nat) : Int := if zq_S 8 (zp_cn L re P zp_id c) ≤ 0 then -1 else zp_th (zp_ways (zp_ke K sz ru lk c) (zp_cn L re P zp_id c) k (zp_T fe c)) (zp_pw (zq_S 8 (zp_cn L re P zp_id c)) (zp_T fe c))
def zp_mea (K L : Nat) (sz re fe ru : Nat → Int) (lk : Nat → Nat → Int) (P : Nat → Int) (c : Nat) : Int := if zq_S 8 (zp_cn L re P zp_id c) ≤ 0 then -1 else zp_th (zp_wo (zp_ke K sz ru lk c) (zp_cn L re P zp_id c) (zp_wv K lk c) (zp_T fe c)) (zp_pw (zq_S 8 (zp_cn L re P zp_id c)) (zp_T fe c))
/-- an answer about a child and a kind that there are -/
def zp_q2 (C K : Nat) (x y : Int) (v : Nat → Nat → Int) : Int := if (0 ≤ x ∧ x < C) ∧ 0 ≤ y ∧ y < K then v x.toNat y.toNat else -1
def zp_q1 (C : Nat) (x : Int) (v : Nat → Int) : Int := if 0 ≤ x ∧ x < C then v x.toNat else -1
theorem zp_pw_pos {b : Int} (h : 1 ≤ b) (n : Nat) : 1 ≤ zp_pw b n := by
  induction n with
  | zero => exact Int.le_refl _
  | succ n ih =>
    simp only [zp_pw]
    have := Int.mul_le_mul ih h (by decide) (by omega)
    omega
theorem zp_pw_0 {n : Nat} (h : 1 ≤ n) : zp_pw 0 n = 0 := by
  match n, h with
  | n + 1, _ => simp [zp_pw]
theorem zp_th_1000 {n a : Int} (h0 : 0 ≤ n) (ha : 0 < a) : 1000 * n / a = zp_th n a := by
  have e := Int.mul_ediv_add_emod n a
  have e2 : 1000 * n = n % a * 1000 + a * (n / a * 1000) := by
    have : a * (n / a * 1000) = (a * (n / a)) * 1000 := by rw [← Int.mul_assoc]
    rw [this]; omega
  rw [e2, Int.add_mul_ediv_left _ _ (by omega)]
  unfold zp_th; omega
section
variable {h : zm_H} {t b K L C : Nat} {wo sz re fe ru : Nat → Int} {lk : Nat → Nat → Int} {P Pu Qu Hd : Nat → Int} {hr dp : Int}
theorem zp_cn_b (hB : zv_B K L C wo sz re fe ru lk) (hP : zv_P K L P) {ord : Nat → Nat} (ho : ∀ p, p < 5 → ord p < 5) (c : Nat) : ∀ j, j < 8 → 0 ≤ zp_cn L re P ord c j ∧ zp_cn L re P ord c j ≤ 495 := fun j hj =>
  zp_cnt_b hj (by have := zp_to_le L P ord re c; have := hB.2.1; omega) ho hP.1
theorem zp_cn_0 (hB : zv_B K L C wo sz re fe ru lk) (hP : zv_P K L P) {ord : Nat → Nat} (ho : ∀ p, p < 5 → ord p < 5) (c : Nat) : ∀ j, K ≤ j → j < 8 → zp_cn L re P ord c j = 0 := fun j h1 h2 => by
  have a := zp_to_le L P ord re c
  have a2 := hB.2.1
  refine zq_S_zero (fun i hi => ?_)
  have := ho (zp_up L P ord + i) (by omega)
  exact hP.2 _ (by omega) (by omega)
theorem zp_T_b (hB : zv_B K L C wo sz re fe ru lk) {c : Nat} (hc : c < C) : ((zp_T fe c : Nat) : Int) = fe c + 1 ∧ 1 ≤ zp_T fe c ∧ zp_T fe c ≤ 4 := by
  have := hB.2.2.2.2.1 c hc
  unfold zp_T; omega
theorem zp_id_b : ∀ p, p < 5 → zp_id p < 5 := fun p hp => hp
theorem s_20 (hC : zv_C h t K L C wo sz re fe ru lk P Pu Hd hr dp) (hB : zv_B K L C wo sz re fe ru lk) (hX : zv_X K L C P Pu Hd hr dp) (x y : Int) : zi (zc 20 [zm_A 4, zm_I x, zm_I y] h) (fun z g => z = zp_q2 C K x y (zp_lik L re P) ∧ zq_F zf_Cs h g) := by
  refine zt_l e_20 (zt_I (s_12 hC x) ?_)
  rintro z g ⟨rfl, rfl⟩
  by_cases hx : 0 ≤ x ∧ x < C
  · rw [if_pos hx]
    refine zt_f (by decide) (zt_I (s_11 hC y) ?_)
    rintro z g ⟨rfl, rfl⟩
    by_cases hy : 0 ≤ y ∧ y < K
    · rw [if_pos hy]
      obtain ⟨c, rfl⟩ := Int.eq_ofNat_of_zero_le hx.1
      obtain ⟨k, rfl⟩ := Int.eq_ofNat_of_zero_le hy.1
      have hK8 := hB.1
      refine zt_f (by decide) (zt_V (s_18 hC hB hX (by omega)) ?_)
      rintro g2 ⟨f2, r2⟩
      have f3 := zf_Rs_Cs f2
      refine zt_c (by omega) ?_
      obtain ⟨-, -, -, r3, r4⟩ := r2
      rw [r3, (r4 k (by omega)).1]
      have bc := zp_cn_b hB hX.1 zp_id_b c
      have bt := zp_tot_b bc
      have bk := zq_S_one (n := 8) (fun i hi => (bc i hi).1) (i := k) (by omega)
      have b0 := bc k (by omega)
      unfold zp_q2
      rw [if_pos ⟨hx, hy⟩]
      show zi (zk_I (zc 21 [zm_L (zp_cn L re P zp_id c k), zm_L (zq_S 8 (zp_cn L re P zp_id c))] g2) _) _
      by_cases ht : zq_S 8 (zp_cn L re P zp_id c) ≤ 0
      · refine zt_I (s_21z ht) ?_
        rintro z g ⟨rfl, rfl⟩
        exact zi_e ⟨by unfold zp_lik; exact (if_pos ht).symm, f3⟩
      · refine zt_I (s_21 b0.1 (by omega) (by omega) (by omega)) ?_
        rintro z g ⟨rfl, rfl⟩
        exact zi_e ⟨by unfold zp_lik; exact (if_neg ht).symm, f3⟩
    · rw [if_neg hy]
      exact zt_t rfl (zi_e ⟨by unfold zp_q2; rw [if_neg (fun q => hy q.2)], zq_F_rf⟩)
  · rw [if_neg hx]
    exact zt_t rfl (zi_e ⟨by unfold zp_q2; rw [if_neg (fun q => hx q.1)], zq_F_rf⟩)
theorem s_22 (hC : zv_C h t K L C wo sz re fe ru lk P Pu Hd hr dp) (hB : zv_B K L C wo sz re fe ru lk) (hX : zv_X K L C P Pu Hd hr dp) (x y : Int) : zi (zc 22 [zm_A 4, zm_I x, zm_I y] h) (fun z g => z = zp_q2 C K x y (zp_tak K L sz re fe ru lk P) ∧ zq_F zf_Cs h g) := by
  refine zt_l e_22 (zt_I (s_12 hC x) ?_)
  rintro z g ⟨rfl, rfl⟩
  by_cases hx : 0 ≤ x ∧ x < C
  · rw [if_pos hx]
    refine zt_f (by decide) (zt_I (s_11 hC y) ?_)
    rintro z g ⟨rfl, rfl⟩
    by_cases hy : 0 ≤ y ∧ y < K
    · rw [if_pos hy]
      obtain ⟨c, rfl⟩ := Int.eq_ofNat_of_zero_le hx.1
      obtain ⟨k, rfl⟩ := Int.eq_ofNat_of_zero_le hy.1
      have hK8 := hB.1
      have hc : c < C := by omega
      refine zt_f (by decide) (zt_V (s_18 hC hB hX hc) ?_)
      rintro g2 ⟨f2, r2⟩
      have f3 := zf_Rs_Cs f2
      obtain ⟨-, -, r6, r3, r4⟩ := r2
      have bc := zp_cn_b hB hX.1 zp_id_b c
      have bt := zp_tot_b bc
      have bT := zp_T_b hB hc
      have bw := zp_ways_b (ke := zp_ke K sz ru lk c) (k := k) (by omega) bc bT.2.2
      have bm := zp_pw_b bt.1 bt.2 (zp_T fe c)
      have bm2 := zp_pw_m bT.2.2
      rw [← bT.1] at r6
      refine zt_L (s_114 (k := k) (by omega) bT.2 r6 (cn := zp_cn L re P zp_id c) (ke := zp_ke K sz ru lk c) (fun j hj => (r4 j hj).1) (fun j hj => (r4 j hj).2.2) bc) ?_
      rintro z g ⟨rfl, rfl⟩
      refine zt_L (s_116 bT.2 r6 (cn := zp_cn L re P zp_id c) r3 bc) ?_
      rintro z g ⟨rfl, rfl⟩
      unfold zp_q2
      rw [if_pos ⟨hx, hy⟩]
      by_cases ht : zq_S 8 (zp_cn L re P zp_id c) ≤ 0
      · have e0 : zq_S 8 (zp_cn L re P zp_id c) = 0 := by omega
        refine zt_I (s_21z (by rw [e0, zp_pw_0 bT.2.1]; decide)) ?_
        rintro z g ⟨rfl, rfl⟩
        exact zi_e ⟨by unfold zp_tak; exact (if_pos ht).symm, f3⟩
      · have hp := zp_pw_pos (b := zq_S 8 (zp_cn L re P zp_id c)) (by omega) (zp_T fe c)
        refine zt_I (s_21 bw.1 (by omega) (by omega) (by omega)) ?_
        rintro z g ⟨rfl, rfl⟩
        exact zi_e ⟨by unfold zp_tak; exact (if_neg ht).symm, f3⟩
    · rw [if_neg hy]
      exact zt_t rfl (zi_e ⟨by unfold zp_q2; rw [if_neg (fun q => hy q.2)], zq_F_rf⟩)
  · rw [if_neg hx]
    exact zt_t rfl (zi_e ⟨by unfold zp_q2; rw [if_neg (fun q => hx q.1)], zq_F_rf⟩)
theorem s_23 (hC : zv_C h t K L C wo sz re fe ru lk P Pu Hd hr dp) (hB : zv_B K L C wo sz re fe ru lk) (hX : zv_X K L C P Pu Hd hr dp) (x : Int) : zi (zc 23 [zm_A 4, zm_I x] h) (fun z g => z = zp_q1 C x (zp_mea K L sz re fe ru lk P) ∧ zq_F zf_Cs h g) := by
  refine zt_l e_23 (zt_I (s_12 hC x) ?_)
  rintro z g ⟨rfl, rfl⟩
  by_cases hx : 0 ≤ x ∧ x < C
  · rw [if_pos hx]
    obtain ⟨c, rfl⟩ := Int.eq_ofNat_of_zero_le hx.1
    have hK8 := hB.1
    have hc : c < C := by omega
    refine zt_f (by decide) (zt_V (s_18 hC hB hX hc) ?_)
    rintro g2 ⟨f2, r2⟩
    have f3 := zf_Rs_Cs f2
    obtain ⟨-, -, r6, r3, r4⟩ := r2
    have bc := zp_cn_b hB hX.1 zp_id_b c
    have bt := zp_tot_b bc
    have bT := zp_T_b hB hc
    have hw : ∀ j, j < 8 → 0 ≤ zp_wv K lk c j ∧ zp_wv K lk c j ≤ 99 := fun j hj => by
      unfold zp_wv
      split
      · exact hB.2.2.2.2.2 c j hc (by assumption)
      · omega
    have bw := zp_wo_b (ke := zp_ke K sz ru lk c) (Nat.le_refl 8) bc hw bT.2.2
    have bm := zp_pw_b bt.1 bt.2 (zp_T fe c)
    have bm2 := zp_pw_m bT.2.2
    rw [← bT.1] at r6
    refine zt_L (s_117 bT.2 r6 (cn := zp_cn L re P zp_id c) (ke := zp_ke K sz ru lk c) (wv := zp_wv K lk c) (fun j hj => (r4 j hj).1) (fun j hj => (r4 j hj).2.2) (fun j hj => (r4 j hj).2.1) bc hw) ?_
    rintro z g ⟨rfl, rfl⟩
    refine zt_L (s_116 bT.2 r6 (cn := zp_cn L re P zp_id c) r3 bc) ?_
    rintro z g ⟨rfl, rfl⟩
    unfold zp_q1
    rw [if_pos hx]
    by_cases ht : zq_S 8 (zp_cn L re P zp_id c) ≤ 0
    · have e0 : zq_S 8 (zp_cn L re P zp_id c) = 0 := by omega
      refine zt_I (s_21z (by rw [e0, zp_pw_0 bT.2.1]; decide)) ?_
      rintro z g ⟨rfl, rfl⟩
      exact zi_e ⟨by unfold zp_mea; exact (if_pos ht).symm, f3⟩
    · have hp := zp_pw_pos (b := zq_S 8 (zp_cn L re P zp_id c)) (by omega) (zp_T fe c)
      refine zt_I (s_21 bw.1 (by omega) bw.2 (by omega)) ?_
      rintro z g ⟨rfl, rfl⟩
      exact zi_e ⟨by unfold zp_mea; exact (if_neg ht).symm, f3⟩
  · rw [if_neg hx]
    exact zt_t rfl (zi_e ⟨by unfold zp_q1; rw [if_neg hx], zq_F_rf⟩)
end
