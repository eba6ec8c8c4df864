/-! KIND of both sides -/
def zp_kind (wo sz P Hd : Nat → Int) (y : Int) (k : Nat) : Int := if y = 0 then wo k else if y = 1 then sz k else if y = 2 then zp_kb P k else if y = 3 then zp_kh Hd k else -1
theorem zp_q1_y {C c : Nat} {v : Nat → Int} (hc : c < C) : zp_q1 C c v = v c := by
  unfold zp_q1
  rw [if_pos (by omega)]; rfl
theorem zp_q1_n {C : Nat} {x : Int} {v : Nat → Int} (hq : ¬ (0 ≤ x ∧ x < C)) : zp_q1 C x v = -1 := if_neg hq
section
variable {h : zm_H} {t b K L C : Nat} {wo sz re fe ru : Nat → Int} {lk : Nat → Nat → Int} {P Pu Qu Hd : Nat → Int} {hr dp : Int}
theorem s_13 (hC : zv_C h t K L C wo sz re fe ru lk P Pu Hd hr dp) (hB : zv_B K L C wo sz re fe ru lk) (hX : zv_X K L C P Pu Hd hr dp) (x y : Int) : zi (zc 13 [zm_A 4, zm_I x, zm_I y] h) (fun z g => z = zp_q1 K x (zp_kind wo sz P Hd y) ∧ g = h) := by
  have hK8 := hB.1
  refine zt_l (e_13 hC.2.1.1) (zt_I (s_11 hC x) ?_)
  rintro z g ⟨rfl, rfl⟩
  by_cases hx : 0 ≤ x ∧ x < K
  · rw [if_pos hx]
    obtain ⟨k, rfl⟩ := Int.eq_ofNat_of_zero_le hx.1
    have hk : k < K := by omega
    have e := hC.2.1.2.2.2.2.1 k hk
    rw [zp_q1_y hk]
    unfold zp_kind
    refine zt_f (by decide) (zt_p (fun q => ?_) (fun q => ?_))
    · rw [if_pos q]
      exact zt_c hC.1 (zt_c (by omega) (zi_e ⟨e.1, rfl⟩))
    · rw [if_neg q]
      refine zt_p (fun q1 => ?_) (fun q1 => ?_)
      · rw [if_pos q1]
        exact zt_c hC.1 (zt_c (by omega) (zi_e ⟨e.2, rfl⟩))
      · rw [if_neg q1]
        refine zt_p (fun q2 => ?_) (fun q2 => ?_)
        · rw [if_pos q2]
          refine zt_I (s_148 hC.2.2.1 hX.1.1 (by omega)) ?_
          rintro z g2 ⟨rfl, rfl⟩
          exact zi_e ⟨rfl, rfl⟩
        · rw [if_neg q2]
          refine zt_p (fun q3 => ?_) (fun q3 => ?_)
          · rw [if_pos q3]
            refine zt_I (s_149 hC.2.2.1 hX.2.1.1 (by omega)) ?_
            rintro z g2 ⟨rfl, rfl⟩
            exact zi_e ⟨rfl, rfl⟩
          · rw [if_neg q3]
            exact zi_e ⟨rfl, rfl⟩
  · rw [if_neg hx]
    exact zt_t rfl (zi_e ⟨(zp_q1_n hx).symm, rfl⟩)
theorem s_217_68 {k : Nat} {w : zm_V} (hw : zm_cat w ≠ 2) (hD : zv_D h b K L C wo sz re fe ru lk P Pu Hd hr dp) (hB : zv_B K L C wo sz re fe ru lk) (hP : zv_P K L P) (hk : k < K) : zi (zr none 2 217 68 [zm_A 146, zm_I k, w, zm_I 0, zm_I 0] [] h) (fun z g => z = zp_kb P k ∧ g = h) := by
  have hK8 := hB.1
  have hL5 := hB.2.1
  have hb := hD.1.1
  have key : ∀ (n i : Nat), i + n = L → zi (zr none 2 217 68 [zm_A 146, zm_I k, w, zm_I (zq_S i (fun l => P (8 * l + k))), zm_I i] [] h) (fun z g => z = zp_kb P k ∧ g = h) := by
    intro n
    induction n with
    | zero =>
      intro i hi
      refine zt_l (e_217_68 hw) ?_
      rw [hD.1.2.1, hD.1.2.2.2.1]
      refine zt_c (by omega) (zt_f (by omega) (zi_e ⟨?_, rfl⟩))
      rw [show i = L by omega]
      exact (zq_S_ext hL5 (fun j h1 h2 => hP.2 _ (by omega) (by omega))).symm
    | succ n ih =>
      intro i hi
      have b1 := zq_S_le (n := i) (f := fun l => P (8 * l + k)) (m := 99) (fun j hj => hP.1 _ (by omega))
      have b2 := hP.1 (8 * i + k) (by omega)
      refine zt_l (e_217_68 hw) ?_
      rw [hD.1.2.1, hD.1.2.2.2.1]
      refine zt_c (by omega) (zt_t (by omega) (zt_I (s_206 (v := 0) (l := i) (k := k) hD.2.1 (by omega) (by omega)) ?_))
      rintro z g ⟨rfl, rfl⟩
      exact zt_c (by omega) (zt_c (by omega) (ih (i + 1) (by omega)))
  exact key L 0 (by omega)
theorem s_217_104 {k : Nat} {w : zm_V} (hw : zm_cat w ≠ 2) (hD : zv_D h b K L C wo sz re fe ru lk P Pu Hd hr dp) (hB : zv_B K L C wo sz re fe ru lk) (hH : zv_H K C Hd) (hk : k < K) : zi (zr none 2 217 104 [zm_A 146, zm_I k, w, zm_I 0, zm_I 0] [] h) (fun z g => z = zp_kh Hd k ∧ g = h) := by
  have hK8 := hB.1
  have hC8 := hB.2.2.1
  have hb := hD.1.1
  have key : ∀ (n i : Nat), i + n = C → zi (zr none 2 217 104 [zm_A 146, zm_I k, w, zm_I (zq_S i (fun c => Hd (8 * c + k))), zm_I i] [] h) (fun z g => z = zp_kh Hd k ∧ g = h) := by
    intro n
    induction n with
    | zero =>
      intro i hi
      refine zt_l (e_217_104 hw) ?_
      rw [hD.1.2.1, hD.1.2.2.2.2.1]
      refine zt_c (by omega) (zt_f (by omega) (zi_e ⟨?_, rfl⟩))
      rw [show i = C by omega]
      exact (zq_S_ext hC8 (fun j h1 h2 => hH.2 _ (by omega) (by omega))).symm
    | succ n ih =>
      intro i hi
      have b1 := zq_S_le (n := i) (f := fun c => Hd (8 * c + k)) (m := 100000) (fun j hj => hH.1 _ (by omega))
      have b2 := hH.1 (8 * i + k) (by omega)
      refine zt_l (e_217_104 hw) ?_
      rw [hD.1.2.1, hD.1.2.2.2.2.1]
      refine zt_c (by omega) (zt_t (by omega) (zt_I (s_215 (v := 0) (c := i) (k := k) hD.2.1 (by omega) (by omega)) ?_))
      rintro z g ⟨rfl, rfl⟩
      exact zt_c (by omega) (zt_c (by omega) (ih (i + 1) (by omega)))
  exact key C 0 (by omega)
theorem s_217 (hD : zv_D h b K L C wo sz re fe ru lk P Pu Hd hr dp) (hB : zv_B K L C wo sz re fe ru lk) (hX : zv_X K L C P Pu Hd hr dp) (x y : Int) : zi (zc 217 [zm_A 146, zm_I x, zm_I y] h) (fun z g => z = zp_q1 K x (zp_kind wo sz P Hd y) ∧ g = h) := by
  have hK8 := hB.1
  have hb := hD.1.1
  refine zt_l e_217 (zt_I (s_218 hD.1 x) ?_)
  rintro z g ⟨rfl, rfl⟩
  by_cases hx : 0 ≤ x ∧ x < K
  · rw [if_pos hx]
    obtain ⟨k, rfl⟩ := Int.eq_ofNat_of_zero_le hx.1
    have hk : k < K := by omega
    have e := (hD.1.2.2.2.2.2.1 k hk (8 * (b : Int) + k) rfl).1
    rw [zp_q1_y hk]
    unfold zp_kind
    refine zt_f (by decide) (zt_p (fun q => ?_) (fun q => ?_))
    · rw [if_pos q, hD.1.2.1]
      exact zt_c (by omega) (zt_c (by omega) (zt_c (by omega) (zi_e ⟨e, rfl⟩)))
    · rw [if_neg q]
      refine zt_p (fun q1 => ?_) (fun q1 => ?_)
      · rw [if_pos q1]
        refine zt_I (s_219 hD.1 hB hk) ?_
        rintro z g2 ⟨rfl, rfl⟩
        exact zi_e ⟨rfl, rfl⟩
      · rw [if_neg q1]
        refine zt_p (fun q2 => ?_) (fun q2 => ?_)
        · rw [if_pos q2]
          exact s_217_68 (zm_cat_I _) hD hB hX.1 hk
        · rw [if_neg q2]
          refine zt_p (fun q3 => ?_) (fun q3 => ?_)
          · rw [if_pos q3]
            exact s_217_104 (zm_cat_I _) hD hB hX.2.1 hk
          · rw [if_neg q3]
            exact zi_e ⟨rfl, rfl⟩
  · rw [if_neg hx]
    exact zt_t rfl (zi_e ⟨(zp_q1_n hx).symm, rfl⟩)
end
