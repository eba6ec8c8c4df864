/-! COMES AND PRICE of both sides -/
def zp_flo (K L : Nat) (sz re fe ru : Nat → Int) (lk : Nat → Nat → Int) (P : Nat → Int) (ord : Nat → Nat) (c : Nat) : Int := if zq_S 8 (zp_cn L re P ord c) ≤ 0 then -1 else zp_wo (zp_ke K sz ru lk c) (zp_cn L re P ord c) (zp_wv K lk c) (zp_T fe c) / zp_pw (zq_S 8 (zp_cn L re P ord c)) (zp_T fe c)
def zp_com (fl Pu : Nat → Int) (c : Nat) (p : Int) : Int := if p ≤ fl c ∧ p ≤ Pu c then 1 else 0
section
variable {h : zm_H} {t b K L C : Nat} {wo sz re fe ru : Nat → Int} {lk : Nat → Nat → Int} {P Pu Qu Hd : Nat → Int} {hr dp : Int}
theorem zp_flo_b (hB : zv_B K L C wo sz re fe ru lk) (hP : zv_P K L P) {ord : Nat → Nat} (ho : ∀ p, p < 5 → ord p < 5) {c : Nat} (hc : c < C) : -1 ≤ zp_flo K L sz re fe ru lk P ord c ∧ zp_flo K L sz re fe ru lk P ord c ≤ 792 := by
  have bc := zp_cn_b (re := re) hB hP ho c
  have bT := zp_T_b hB hc
  have hw : ∀ j, j < 8 → 0 ≤ zp_wv K lk c j ∧ zp_wv K lk c j ≤ 99 := fun j hj => by
    unfold zp_wv
    split
    · exact hB.2.2.2.2.2 c j hc (by assumption)
    · omega
  have bw := zp_wo_b (ke := zp_ke K sz ru lk c) (Nat.le_refl 8) bc hw bT.2.2
  unfold zp_flo
  split
  · omega
  · have hp := zp_pw_pos (b := zq_S 8 (zp_cn L re P ord c)) (by omega) (zp_T fe c)
    have := Int.ediv_nonneg bw.1 (b := zp_pw (zq_S 8 (zp_cn L re P ord c)) (zp_T fe c)) (by omega)
    have h2 : zq_S 8 (fun k => zp_ways (zp_ke K sz ru lk c) (zp_cn L re P ord c) k (zp_T fe c) * zp_wv K lk c k) / zp_pw (zq_S 8 (zp_cn L re P ord c)) (zp_T fe c) ≤ 792 := Int.ediv_le_of_le_mul (by omega) bw.2
    unfold zp_wo at *
    omega
theorem s_26 (hC : zv_C h t K L C wo sz re fe ru lk P Pu Hd hr dp) (hB : zv_B K L C wo sz re fe ru lk) (hX : zv_X K L C P Pu Hd hr dp) {c : Nat} (hc : c < C) : zi (zc 26 [zm_A 4, zm_I c] h) (fun z g => z = zp_flo K L sz re fe ru lk P zp_id c ∧ zq_F zf_Rs h g) := by
  have hK8 := hB.1
  refine zt_l e_26 (zt_V (s_18 hC hB hX hc) ?_)
  rintro g2 ⟨f2, r2⟩
  obtain ⟨-, -, r6, r3, r4⟩ := r2
  have bc := zp_cn_b (re := re) hB hX.1 zp_id_b c
  have bt := zp_tot_b bc
  have bT := zp_T_b hB hc
  have hw : ∀ j, j < 8 → 0 ≤ zp_wv K lk c j ∧ zp_wv K lk c j ≤ 99 := fun j hj => by
    unfold zp_wv
    split
    · exact hB.2.2.2.2.2 c j hc (by assumption)
    · omega
  have bw := zp_wo_b (ke := zp_ke K sz ru lk c) (Nat.le_refl 8) bc hw bT.2.2
  have bf := zp_flo_b hB hX.1 zp_id_b hc
  rw [← bT.1] at r6
  refine zt_L (s_116 bT.2 r6 (cn := zp_cn L re P zp_id c) r3 bc) ?_
  rintro z g ⟨rfl, rfl⟩
  by_cases ht : zq_S 8 (zp_cn L re P zp_id c) ≤ 0
  · have e0 : zq_S 8 (zp_cn L re P zp_id c) = 0 := by omega
    rw [e0, zp_pw_0 bT.2.1]
    exact zt_f (by decide) (zi_e ⟨by unfold zp_flo; exact (if_pos ht).symm, f2⟩)
  · have hp := zp_pw_pos (b := zq_S 8 (zp_cn L re P zp_id c)) (by omega) (zp_T fe c)
    have ef : zp_flo K L sz re fe ru lk P zp_id c = zp_wo (zp_ke K sz ru lk c) (zp_cn L re P zp_id c) (zp_wv K lk c) (zp_T fe c) / zp_pw (zq_S 8 (zp_cn L re P zp_id c)) (zp_T fe c) := if_neg ht
    refine zt_t (by rw [if_neg (by omega), if_neg (by omega)]; decide) (zt_L (s_117 bT.2 r6 (cn := zp_cn L re P zp_id c) (ke := zp_ke K sz ru lk c) (wv := zp_wv K lk c) (fun j hj => (r4 j hj).1) (fun j hj => (r4 j hj).2.2) (fun j hj => (r4 j hj).2.1) bc hw) ?_)
    rintro z g ⟨rfl, rfl⟩
    have hn : 0 ≤ zp_wo (zp_ke K sz ru lk c) (zp_cn L re P zp_id c) (zp_wv K lk c) (zp_T fe c) := bw.1
    rw [zq_tdiv hn, ← ef]
    exact zt_c ⟨by omega, by omega⟩ (zt_c (by omega) (zi_e ⟨rfl, f2⟩))
theorem s_242 {v c : Nat} {ord : Nat → Nat} (ho : ∀ p, p < 5 → ord p < 5) (hQ : ∀ p : Nat, p < L → h 185 p = ord p) (hG : zv_G h b K L C wo sz re fe ru lk) (hB : zv_B K L C wo sz re fe ru lk) (hW : zv_W h v P Pu Hd) (hP : zv_P K L P) (hc : c < C) : zi (zc 242 [zm_A 146, zm_I v, zm_I c] h) (fun z g => z = zp_flo K L sz re fe ru lk P ord c ∧ zq_F zf_Gs h g) := by
  have hK8 := hB.1
  refine zt_l e_242 (zt_V (s_226 ho hQ hG hB hW hP hc) ?_)
  rintro g2 ⟨f2, h68, h186⟩
  have hG2 := hG.gs f2
  have bc := zp_cn_b (re := re) hB hP ho c
  have b0 := zp_cn_0 (re := re) hB hP ho c
  have bt := zp_tot_b bc
  have bT := zp_T_b hB hc
  have hw : ∀ j, j < 8 → 0 ≤ zp_wv K lk c j ∧ zp_wv K lk c j ≤ 99 := fun j hj => by
    unfold zp_wv
    split
    · exact hB.2.2.2.2.2 c j hc (by assumption)
    · omega
  have bw := zp_wo_b (ke := zp_ke K sz ru lk c) (Nat.le_refl 8) bc hw bT.2.2
  have bf := zp_flo_b hB hP ho hc
  have h68' : g2 146 68 = zq_S 8 (zp_cn L re P ord c) := h68
  by_cases ht : zq_S 8 (zp_cn L re P ord c) ≤ 0
  · exact zt_t (by omega) (zi_e ⟨by unfold zp_flo; exact (if_pos ht).symm, f2⟩)
  · have hp := zp_pw_pos (b := zq_S 8 (zp_cn L re P ord c)) (by omega) (zp_T fe c)
    have ef : zp_flo K L sz re fe ru lk P ord c = zp_wo (zp_ke K sz ru lk c) (zp_cn L re P ord c) (zp_wv K lk c) (zp_T fe c) / zp_pw (zq_S 8 (zp_cn L re P ord c)) (zp_T fe c) := if_neg ht
    refine zt_f (by omega) (zt_L (s_239 (cn := zp_cn L re P ord c) hG2 hB hc bT.1 h186 bc b0) ?_)
    rintro z g ⟨rfl, rfl⟩
    refine zt_I (s_235 hG2 hB hc) ?_
    rintro z g ⟨rfl, rfl⟩
    rw [h68', ← bT.1]
    refine zt_L (s_236 bt bT.2.2) ?_
    rintro z g ⟨rfl, rfl⟩
    have hn : 0 ≤ zp_wo (zp_ke K sz ru lk c) (zp_cn L re P ord c) (zp_wv K lk c) (zp_T fe c) := bw.1
    rw [zq_tdiv hn]
    rw [← ef]
    exact zt_c ⟨by omega, by omega⟩ (zt_c (by omega) (zi_e ⟨rfl, f2⟩))
theorem s_25 (hC : zv_C h t K L C wo sz re fe ru lk P Pu Hd hr dp) (hB : zv_B K L C wo sz re fe ru lk) (hX : zv_X K L C P Pu Hd hr dp) {c : Nat} (hc : c < C) : zi (zc 25 [zm_A 4, zm_I c] h) (fun z g => z = min (zp_flo K L sz re fe ru lk P zp_id c) (Pu c) ∧ zq_F zf_Rs h g) := by
  have hC8 := hB.2.2.1
  refine zt_l e_25 (zt_I (s_26 hC hB hX hc) ?_)
  rintro z g ⟨rfl, f⟩
  have e : g 34 (c : Int) = Pu c := by
    rw [f 34 c (by unfold zf_Rs; omega)]; exact hC.2.2.1.2.2.1 c (by omega)
  refine zt_c (by omega) (zi_e ⟨by rw [e], f⟩)
theorem s_241 {c : Nat} {p : Int} {ord : Nat → Nat} (hp : 0 ≤ p) (ho : ∀ p, p < 5 → ord p < 5) (hQ : ∀ p : Nat, p < L → h 185 p = ord p) (hG : zv_G h b K L C wo sz re fe ru lk) (hB : zv_B K L C wo sz re fe ru lk) (hW : zv_W h 0 P Pu Hd) (hP : zv_P K L P) (hc : c < C) : zi (zc 241 [zm_A 146, zm_I c, zm_I p] h) (fun z g => z = zp_com (zp_flo K L sz re fe ru lk P ord) Pu c p ∧ zq_F zf_Gs h g) := by
  have hC8 := hB.2.2.1
  refine zt_l e_241 (zt_I (s_242 (v := 0) ho hQ hG hB hW hP hc) ?_)
  rintro z g ⟨rfl, f⟩
  have e : g 177 (c : Int) = Pu c := by
    rw [zf_Gs_kp f (by decide) (by decide)]; exact hW.2.2.1 c (by omega) c (by omega)
  rw [e]
  unfold zp_com
  refine zt_p (fun q => zt_c (by decide) (zi_e ⟨by rw [if_neg (by omega)], f⟩)) (fun q => zt_p (fun q2 => zt_c (by decide) (zi_e ⟨by rw [if_neg (by omega)], f⟩)) (fun q2 => zt_c (by omega) (zt_p (fun q3 => zt_c (by decide) (zi_e ⟨by rw [if_neg (by omega)], f⟩)) (fun q3 => zt_c (by decide) (zi_e ⟨by rw [if_pos (by omega)], f⟩)))))
theorem s_175 (x lo hi : Int) : zi (zc 175 [zm_I x, zm_I lo, zm_I hi] h) (fun z g => z = (if lo ≤ x ∧ x ≤ hi then 1 else 0) ∧ g = h) := by
  refine zt_l e_175 ?_
  refine zt_p (fun q => zt_c (by decide) (zi_e ⟨by rw [if_neg (by omega)], rfl⟩)) (fun q => zt_p (fun q2 => zt_c (by decide) (zi_e ⟨by rw [if_neg (by omega)], rfl⟩)) (fun q2 => zt_c (by decide) (zi_e ⟨by rw [if_pos (by omega)], rfl⟩)))
def zp_comes (C : Nat) (fl Pu : Nat → Int) (x p : Int) : Int := if (0 ≤ x ∧ x < C) ∧ 0 ≤ p ∧ p ≤ 99 then zp_com fl Pu x.toNat p else -1
theorem zp_comes_y {fl Pu : Nat → Int} {c : Nat} {p : Int} (hc : c < C) (hp : 0 ≤ p ∧ p ≤ 99) : zp_comes C fl Pu c p = zp_com fl Pu c p := by
  unfold zp_comes
  rw [if_pos ⟨by omega, hp⟩]; rfl
theorem zp_comes_n {fl Pu : Nat → Int} {x p : Int} (hp : ¬ ((0 ≤ x ∧ x < C) ∧ 0 ≤ p ∧ p ≤ 99)) : zp_comes C fl Pu x p = -1 := if_neg hp
theorem s_24 (hC : zv_C h t K L C wo sz re fe ru lk P Pu Hd hr dp) (hB : zv_B K L C wo sz re fe ru lk) (hX : zv_X K L C P Pu Hd hr dp) (x p : Int) : zi (zc 24 [zm_A 4, zm_I x, zm_I p] h) (fun z g => z = zp_comes C (zp_flo K L sz re fe ru lk P zp_id) Pu x p ∧ zq_F zf_Cs h g) := by
  refine zt_l e_24 (zt_I (s_12 hC x) ?_)
  rintro z g ⟨rfl, rfl⟩
  by_cases hx : 0 ≤ x ∧ x < C
  · rw [if_pos hx]
    refine zt_f (by decide) ?_
    obtain ⟨c, rfl⟩ := Int.eq_ofNat_of_zero_le hx.1
    refine zt_p (fun q => zi_e ⟨(zp_comes_n (by omega)).symm, zq_F_rf⟩) (fun q => zt_p (fun q2 => ?_) (fun q2 => zi_e ⟨(zp_comes_n (by omega)).symm, zq_F_rf⟩))
    refine zt_I (s_25 hC hB hX (by omega)) ?_
    rintro z g2 ⟨rfl, f⟩
    have f3 := zf_Rs_Cs f
    rw [zp_comes_y (by omega) ⟨by omega, q2⟩]
    unfold zp_com
    exact zt_p (fun q3 => zi_e ⟨(if_neg (by omega)).symm, f3⟩) (fun q3 => zi_e ⟨(if_pos (by omega)).symm, f3⟩)
  · rw [if_neg hx]
    exact zt_t rfl (zi_e ⟨(zp_comes_n (fun q => hx q.1)).symm, zq_F_rf⟩)
theorem s_240 (hD : zv_D h b K L C wo sz re fe ru lk P Pu Hd hr dp) (hB : zv_B K L C wo sz re fe ru lk) (hP : zv_P K L P) (x p : Int) : zi (zc 240 [zm_A 146, zm_I x, zm_I p] h) (fun z g => z = zp_comes C (zp_flo K L sz re fe ru lk P zp_id) Pu x p ∧ zq_F zf_Ds h g) := by
  refine zt_l e_240 (zt_I (s_223 hD.1 x) ?_)
  rintro z g ⟨rfl, rfl⟩
  by_cases hx : 0 ≤ x ∧ x < C
  · rw [if_pos hx]
    refine zt_f (by decide) (zt_I (s_175 p 0 99) ?_)
    rintro z g2 ⟨rfl, rfl⟩
    obtain ⟨c, rfl⟩ := Int.eq_ofNat_of_zero_le hx.1
    by_cases hp : 0 ≤ p ∧ p ≤ 99
    · rw [zp_comes_y (by omega) hp]
      rw [if_pos hp]
      refine zt_f (by decide) (zt_V s_225 ?_)
      rintro g1 ⟨f1, o1⟩
      have f1' : zq_F zf_Ds g2 g1 := zq_F_wk f1 (fun a i q => by unfold zf_Ds; omega)
      have hD1 := hD.kp f1'
      refine zt_I (s_241 hp.1 zp_id_b (fun p hp => o1 p (by have := hB.2.1; omega)) hD1.1 hB hD1.2.1 hP (by omega)) ?_
      rintro z g3 ⟨rfl, f2⟩
      have f3 := zq_F_tr f1' (zf_Gs_Ds f2)
      unfold zp_com
      by_cases hq : p ≤ zp_flo K L sz re fe ru lk P zp_id c ∧ p ≤ Pu c
      · rw [if_pos hq]; exact zt_f (by decide) (zi_e ⟨rfl, f3⟩)
      · rw [if_neg hq]; exact zt_t rfl (zi_e ⟨rfl, f3⟩)
    · rw [if_neg hp]
      exact zt_t rfl (zi_e ⟨(zp_comes_n (fun q => hp q.2)).symm, zq_F_rf⟩)
  · rw [if_neg hx]
    exact zt_t rfl (zi_e ⟨(zp_comes_n (fun q => hx q.1)).symm, zq_F_rf⟩)
end
