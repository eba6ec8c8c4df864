/-! LAYER of both sides -/
def zp_layer (K L : Nat) (P : Nat → Int) (x y : Int) : Int := if 0 ≤ x ∧ x < L then (if y = -1 then zp_sl P x.toNat else if 0 ≤ y ∧ y < K then P (8 * x.toNat + y.toNat) else -1) else -1
section
variable {h : zm_H} {t b K L C : Nat} {wo sz re fe ru : Nat → Int} {lk : Nat → Nat → Int} {P Pu Qu Hd : Nat → Int} {hr dp : Int}
theorem zp_layer_n {x y : Int} (hx : ¬ (0 ≤ x ∧ x < L)) : zp_layer K L P x y = -1 := if_neg hx
theorem zp_layer_s {l : Nat} (hl : l < L) : zp_layer K L P l (-1) = zp_sl P l := by
  unfold zp_layer
  rw [if_pos (by omega), if_pos rfl]; rfl
theorem zp_layer_k {l k : Nat} (hl : l < L) (hk : k < K) : zp_layer K L P l k = P (8 * l + k) := by
  unfold zp_layer
  rw [if_pos (by omega), if_neg (by omega), if_pos (by omega)]; rfl
theorem zp_layer_m {x y : Int} (hy : y ≠ -1) (hy2 : ¬ (0 ≤ y ∧ y < K)) : zp_layer K L P x y = -1 := by
  unfold zp_layer
  rw [if_neg hy, if_neg hy2]; split <;> rfl
theorem s_14 (hC : zv_C h t K L C wo sz re fe ru lk P Pu Hd hr dp) (hB : zv_B K L C wo sz re fe ru lk) (hP : zv_P K L P) (x y : Int) : zi (zc 14 [zm_A 4, zm_I x, zm_I y] h) (fun z g => z = zp_layer K L P x y ∧ g = h) := by
  have hK8 := hB.1
  have hL5 := hB.2.1
  refine zt_l e_14 (zt_I (s_15 hC x) ?_)
  rintro z g ⟨rfl, rfl⟩
  by_cases hx : 0 ≤ x ∧ x < L
  · rw [if_pos hx]
    obtain ⟨l, rfl⟩ := Int.eq_ofNat_of_zero_le hx.1
    refine zt_f (by decide) (zt_p (fun q => ?_) (fun q => ?_))
    · subst q
      refine zt_I (s_150 hC.2.2.1 hP.1 (by omega)) ?_
      rintro z g2 ⟨rfl, rfl⟩
      exact zi_e ⟨(zp_layer_s (by omega)).symm, rfl⟩
    · refine zt_I (s_11 hC y) ?_
      rintro z g2 ⟨rfl, rfl⟩
      by_cases hy : 0 ≤ y ∧ y < K
      · rw [if_pos hy]
        obtain ⟨k, rfl⟩ := Int.eq_ofNat_of_zero_le hy.1
        have e := hC.2.2.1.2.1 (8 * l + k) (by omega)
        have e2 : (l : Int) * 8 + k = ((8 * l + k : Nat) : Int) := by omega
        rw [e2]
        exact zt_f (by decide) (zt_c (by omega) (zt_c (by omega) (zt_c (by omega) (zi_e ⟨by rw [zp_layer_k (by omega) (by omega)]; exact e, rfl⟩))))
      · rw [if_neg hy]
        exact zt_t rfl (zi_e ⟨(zp_layer_m q hy).symm, rfl⟩)
  · rw [if_neg hx]
    exact zt_t rfl (zi_e ⟨(zp_layer_n hx).symm, rfl⟩)
theorem s_220 (hD : zv_D h b K L C wo sz re fe ru lk P Pu Hd hr dp) (hB : zv_B K L C wo sz re fe ru lk) (hP : zv_P K L P) (x y : Int) : zi (zc 220 [zm_A 146, zm_I x, zm_I y] h) (fun z g => z = zp_layer K L P x y ∧ g = h) := by
  have hK8 := hB.1
  have hL5 := hB.2.1
  refine zt_l e_220 (zt_I (s_221 hD.1 x) ?_)
  rintro z g ⟨rfl, rfl⟩
  by_cases hx : 0 ≤ x ∧ x < L
  · rw [if_pos hx]
    obtain ⟨l, rfl⟩ := Int.eq_ofNat_of_zero_le hx.1
    refine zt_f (by decide) (zt_p (fun q => ?_) (fun q => ?_))
    · subst q
      refine zt_I (s_205 (v := 0) (l := l) hD.1 hB hD.2.1 hP (by omega)) ?_
      rintro z g2 ⟨rfl, rfl⟩
      exact zi_e ⟨(zp_layer_s (by omega)).symm, rfl⟩
    · refine zt_I (s_218 hD.1 y) ?_
      rintro z g2 ⟨rfl, rfl⟩
      by_cases hy : 0 ≤ y ∧ y < K
      · rw [if_pos hy]
        obtain ⟨k, rfl⟩ := Int.eq_ofNat_of_zero_le hy.1
        refine zt_f (by decide) (zt_I (s_206 (v := 0) (l := l) (k := k) hD.2.1 (by omega) (by omega)) ?_)
        rintro z g2 ⟨rfl, rfl⟩
        exact zi_e ⟨by rw [zp_layer_k (by omega) (by omega)], rfl⟩
      · rw [if_neg hy]
        exact zt_t rfl (zi_e ⟨(zp_layer_m q hy).symm, rfl⟩)
  · rw [if_neg hx]
    exact zt_t rfl (zi_e ⟨(zp_layer_n hx).symm, rfl⟩)
end
