/-! HAS, LEAVES, FAULT, STATUS, OCTET, END of both sides -/
def zp_has (K L C U : Nat) (hr lf dp co cn hd kp x : Int) (w : Int) : Int := if w = 0 then K else if w = 1 then L else if w = 2 then C else if w = 3 then hr else if w = 4 then lf else if w = 5 then dp else if w = 6 then co else if w = 7 then cn else if w = 8 then hd else if w = 9 then kp else if w = 10 then U else if w = 11 then x else -1
def zp_lvs (K L : Nat) (rk : Int) (R : Nat → Int) (x y : Int) : Int := if rk = 0 then -1 else if (0 ≤ x ∧ x < L) ∧ 0 ≤ y ∧ y < K then R (8 * x.toNat + y.toNat) else -1
def zp_sta (S : Nat → Int) (x : Int) : Int := if 0 ≤ x ∧ x ≤ 5 then S x.toNat else -1
def zp_oct (n : Nat) (im : Nat → Int) (x : Int) : Int := if 0 ≤ x ∧ x < n then im x.toNat else -1
section
variable {h : zm_H} {t b K L C N cf ct pf pt U nx uf d e : Nat} {wo sz re fe ru cd : Nat → Int} {lk : Nat → Nat → Int} {P Pu Qu Hd : Nat → Int} {hr dp x : Int} {sl : Nat → Nat} {sP sU sQ sH : Nat → Nat → Int} {sh sd lc lkk lh lo : Nat → Int}
theorem s_7 (k1 : zv_K1 h t K L C N cf ct pf pt U nx wo sz re fe ru cd lk P Pu Hd hr dp x sl sP sU sH sh sd lc lkk lh lo) (hX : zv_X K L C P Pu Hd hr dp) (hY : zv_Y N cd cf ct pf pt) (w : Int) : zi (zc 7 [zm_A 4, zm_I w] h) (fun z g => z = zp_has K L C U hr (zp_left P) dp (zp_cost cd cf ct (zp_en hr (zp_left P) dp 0 0 0)) (zq_S 8 Pu) (zq_S 64 Hd) ((min 60 (sl U) : Nat) : Int) x w ∧ zq_F zf_Cs h g) := by
  obtain ⟨hC, hI, hx, hL⟩ := k1
  refine zt_l (e_7 hC.2.1.1) ?_
  unfold zp_has
  refine zt_p (fun c0 => ?_) (fun c0 => ?_)
  · exact zt_c hC.1 (zi_e ⟨by rw [if_pos c0]; exact hC.2.1.2.1, zq_F_rf⟩)
  rw [if_neg c0]
  refine zt_p (fun c1 => ?_) (fun c1 => ?_)
  · exact zt_c hC.1 (zi_e ⟨by rw [if_pos c1]; exact hC.2.1.2.2.1, zq_F_rf⟩)
  rw [if_neg c1]
  refine zt_p (fun c2 => ?_) (fun c2 => ?_)
  · exact zt_c hC.1 (zi_e ⟨by rw [if_pos c2]; exact hC.2.1.2.2.2.1, zq_F_rf⟩)
  rw [if_neg c2]
  refine zt_p (fun c3 => ?_) (fun c3 => ?_)
  · exact zi_e ⟨by rw [if_pos c3]; exact hC.2.2.2.1, zq_F_rf⟩
  rw [if_neg c3]
  refine zt_p (fun c4 => ?_) (fun c4 => ?_)
  · rw [if_pos c4]
    refine zt_I (s_144 hC.2.2.1 hX.1.1) ?_
    rintro z g ⟨rfl, rfl⟩
    exact zi_e ⟨rfl, zq_F_rf⟩
  rw [if_neg c4]
  refine zt_p (fun c5 => ?_) (fun c5 => ?_)
  · exact zi_e ⟨by rw [if_pos c5]; exact hC.2.2.2.2, zq_F_rf⟩
  rw [if_neg c5]
  refine zt_p (fun c6 => ?_) (fun c6 => ?_)
  · rw [if_pos c6]
    refine zt_I (s_8 hC hX hI hY) ?_
    rintro z g ⟨rfl, f⟩
    exact zi_e ⟨rfl, f⟩
  rw [if_neg c6]
  refine zt_p (fun c7 => ?_) (fun c7 => ?_)
  · rw [if_pos c7]
    refine zt_I (s_146 hC.2.2.1 hX.2.2.1) ?_
    rintro z g ⟨rfl, rfl⟩
    exact zi_e ⟨rfl, zq_F_rf⟩
  rw [if_neg c7]
  refine zt_p (fun c8 => ?_) (fun c8 => ?_)
  · rw [if_pos c8]
    refine zt_I (s_147 hC.2.2.1 hX.2.1.1) ?_
    rintro z g ⟨rfl, rfl⟩
    exact zi_e ⟨rfl, zq_F_rf⟩
  rw [if_neg c8]
  refine zt_p (fun c9 => ?_) (fun c9 => ?_)
  · rw [if_pos c9]
    refine zt_I (s_68 hL) ?_
    rintro z g ⟨rfl, rfl⟩
    exact zi_e ⟨rfl, zq_F_rf⟩
  rw [if_neg c9]
  refine zt_p (fun c10 => ?_) (fun c10 => ?_)
  · exact zi_e ⟨by rw [if_pos c10]; exact hL.1, zq_F_rf⟩
  rw [if_neg c10]
  refine zt_p (fun c11 => ?_) (fun c11 => ?_)
  · exact zi_e ⟨by rw [if_pos c11]; exact hx, zq_F_rf⟩
  rw [if_neg c11]
  exact zi_e ⟨rfl, zq_F_rf⟩
theorem s_203_122 {w : zm_V} (hw : zm_cat w ≠ 2) (hD : zv_D h b K L C wo sz re fe ru lk P Qu Hd hr dp) (hB : zv_B K L C wo sz re fe ru lk) (hQ : ∀ c, c < 8 → 0 ≤ Qu c ∧ Qu c ≤ 999) : zi (zr none 6 203 122 [zm_A 146, w, zm_I 0, zm_I 0] [] h) (fun z g => z = zq_S C Qu ∧ g = h) := by
  have hC8 := hB.2.2.1
  have hb := hD.1.1
  have key : ∀ (n i : Nat), i + n = C → zi (zr none 6 203 122 [zm_A 146, w, zm_I (zq_S i Qu), zm_I i] [] h) (fun z g => z = zq_S C Qu ∧ g = h) := by
    intro n
    induction n with
    | zero =>
      intro i hi
      refine zt_l (e_203_122 hw) ?_
      rw [hD.1.2.1, hD.1.2.2.2.2.1]
      exact zt_c (by omega) (zt_f (by omega) (zi_e ⟨by rw [show i = C by omega], rfl⟩))
    | succ n ih =>
      intro i hi
      have b1 := zq_S_le (n := i) (f := Qu) (m := 999) (fun j hj => hQ j (by omega))
      have b2 := hQ i (by omega)
      have e177 : h 177 (i : Int) = Qu i := hD.2.1.2.2.1 i (by omega) i (by omega)
      refine zt_l (e_203_122 hw) ?_
      rw [hD.1.2.1, hD.1.2.2.2.2.1, e177]
      exact zt_c (by omega) (zt_t (by omega) (zt_c (by omega) (zt_c (by omega) (zt_c (by omega) (ih (i + 1) (by omega))))))
  exact key C 0 (by omega)
theorem s_203_154 {w : zm_V} (hw : zm_cat w ≠ 2) (hD : zv_D h b K L C wo sz re fe ru lk P Qu Hd hr dp) (hB : zv_B K L C wo sz re fe ru lk) (hH : zv_H K C Hd) : zi (zr none 6 203 154 [zm_A 146, w, zm_I 0, zm_I 0] [] h) (fun z g => z = zq_S 64 Hd ∧ g = h) := by
  have hC8 := hB.2.2.1
  have hb := hD.1.1
  have bh : ∀ c, c < 8 → 0 ≤ zp_hb Hd c ∧ zp_hb Hd c ≤ 800000 := fun c hc => by
    have := zq_S_le (n := 8) (f := fun k => Hd (8 * c + k)) (m := 100000) (fun k hk => hH.1 _ (by omega))
    unfold zp_hb; omega
  have key : ∀ (n i : Nat), i + n = C → zi (zr none 6 203 154 [zm_A 146, w, zm_I (zq_S i (zp_hb Hd)), zm_I i] [] h) (fun z g => z = zq_S 64 Hd ∧ g = h) := by
    intro n
    induction n with
    | zero =>
      intro i hi
      refine zt_l (e_203_154 hw) ?_
      rw [hD.1.2.1, hD.1.2.2.2.2.1]
      refine zt_c (by omega) (zt_f (by omega) (zi_e ⟨?_, rfl⟩))
      rw [show i = C by omega]
      have e1 := zq_S_block 8 Hd
      have e2 : zq_S 8 (zp_hb Hd) = zq_S C (zp_hb Hd) := zq_S_ext hC8 (fun c h1 h2 => zq_S_zero (fun k hk => hH.2 _ (by omega) (Or.inl (by omega))))
      rw [← e2]; exact e1.symm
    | succ n ih =>
      intro i hi
      have b1 := zq_S_le (n := i) (f := zp_hb Hd) (m := 800000) (fun j hj => bh j (by omega))
      have b2 := bh i (by omega)
      refine zt_l (e_203_154 hw) ?_
      rw [hD.1.2.1, hD.1.2.2.2.2.1]
      refine zt_c (by omega) (zt_t (by omega) (zt_I (s_214 (c := i) hD.1 hB hD.2.1 hH (by omega)) ?_))
      rintro z g ⟨rfl, rfl⟩
      exact zt_c (by omega) (zt_c (by omega) (ih (i + 1) (by omega)))
  exact key C 0 (by omega)
theorem s_203 (k2 : zv_K2 h b K L C N cf ct pf pt U uf wo sz re fe ru cd lk P Qu Hd hr dp x sl sP sQ sH sh sd lc lkk lh lo) (hB : zv_B K L C wo sz re fe ru lk) (hV : zv_V K L C U d e P Pu Qu Hd hr dp x sl lc lkk lh lo) (hY : zv_Y N cd cf ct pf pt) (w : Int) : zi (zc 203 [zm_A 146, zm_I w] h) (fun z g => z = zp_has K L C U hr (zp_left P) dp (zp_cost cd cf ct (zp_en hr (zp_left P) dp 0 0 0)) (zq_S 8 Pu) (zq_S 64 Hd) ((min 60 (sl U) : Nat) : Int) x w ∧ zq_F zf_Ds h g) := by
  obtain ⟨hD, hJ, hx, hM⟩ := k2
  obtain ⟨X1, X2, hZ, hq, h0, hxb, -⟩ := hV
  have hb := hD.1.1
  have hC8 := hB.2.2.1
  refine zt_l e_203 ?_
  unfold zp_has
  refine zt_p (fun c0 => ?_) (fun c0 => ?_)
  · rw [hD.1.2.1]; exact zt_c (by omega) (zi_e ⟨by rw [if_pos c0]; exact hD.1.2.2.1, zq_F_rf⟩)
  rw [if_neg c0]
  refine zt_p (fun c1 => ?_) (fun c1 => ?_)
  · rw [hD.1.2.1]; exact zt_c (by omega) (zi_e ⟨by rw [if_pos c1]; exact hD.1.2.2.2.1, zq_F_rf⟩)
  rw [if_neg c1]
  refine zt_p (fun c2 => ?_) (fun c2 => ?_)
  · rw [hD.1.2.1]; exact zt_c (by omega) (zi_e ⟨by rw [if_pos c2]; exact hD.1.2.2.2.2.1, zq_F_rf⟩)
  rw [if_neg c2]
  refine zt_p (fun c3 => ?_) (fun c3 => ?_)
  · exact zt_c (by decide) (zi_e ⟨by rw [if_pos c3]; exact hD.2.2.1, zq_F_rf⟩)
  rw [if_neg c3]
  refine zt_p (fun c4 => ?_) (fun c4 => ?_)
  · rw [if_pos c4]
    refine zt_I (s_204 (v := 0) hD.1 hB hD.2.1 X1.1) ?_
    rintro z g ⟨rfl, rfl⟩
    exact zi_e ⟨rfl, zq_F_rf⟩
  rw [if_neg c4]
  refine zt_p (fun c5 => ?_) (fun c5 => ?_)
  · exact zt_c (by decide) (zi_e ⟨by rw [if_pos c5]; exact hD.2.2.2, zq_F_rf⟩)
  rw [if_neg c5]
  refine zt_p (fun c6 => ?_) (fun c6 => ?_)
  · rw [if_pos c6]
    refine zt_I (s_207 hD hB X2 hJ hY) ?_
    rintro z g ⟨rfl, f⟩
    exact zi_e ⟨rfl, f⟩
  rw [if_neg c6]
  refine zt_p (fun c7 => ?_) (fun c7 => ?_)
  · rw [if_pos c7]
    refine zi_m (s_203_122 (zm_cat_I _) hD hB X2.2.2.1) (fun z g q => ⟨?_, by rw [q.2]; exact zq_F_rf⟩)
    rw [q.1, zq_S_ext hC8 (fun c h1 h2 => h0 c h1 h2)]
    exact zq_S_congr (fun c hc => hq c hc)
  rw [if_neg c7]
  refine zt_p (fun c8 => ?_) (fun c8 => ?_)
  · rw [if_pos c8]
    exact zi_m (s_203_154 (zm_cat_I _) hD hB X1.2.1) (fun z g q => ⟨q.1, by rw [q.2]; exact zq_F_rf⟩)
  rw [if_neg c8]
  refine zt_p (fun c9 => ?_) (fun c9 => ?_)
  · exact zt_c (by decide) (zi_e ⟨by rw [if_pos c9]; exact hM.2.2.2.2.1.1, zq_F_rf⟩)
  rw [if_neg c9]
  refine zt_p (fun c10 => ?_) (fun c10 => ?_)
  · exact zi_e ⟨by rw [if_pos c10]; exact hM.1, zq_F_rf⟩
  rw [if_neg c10]
  refine zt_p (fun c11 => ?_) (fun c11 => ?_)
  · rw [hx]; exact zt_c (by omega) (zi_e ⟨by rw [if_pos c11], zq_F_rf⟩)
  rw [if_neg c11]
  exact zi_e ⟨rfl, zq_F_rf⟩
theorem s_49 (hC : zv_C h t K L C wo sz re fe ru lk P Pu Hd hr dp) (hB : zv_B K L C wo sz re fe ru lk) {rk : Int} {R : Nat → Int} (h17 : h 4 17 = rk) (hR : rk ≠ 0 → ∀ i : Nat, i < 40 → h 41 i = R i) (y q : Int) : zi (zc 49 [zm_A 4, zm_I y, zm_I q] h) (fun z g => z = zp_lvs K L rk R y q ∧ g = h) := by
  have hK8 := hB.1
  have hL5 := hB.2.1
  refine zt_l e_49 ?_
  rw [h17]
  unfold zp_lvs
  refine zt_p (fun c => zi_e ⟨by rw [if_pos c], rfl⟩) (fun c => ?_)
  rw [if_neg c]
  refine zt_I (s_15 hC y) ?_
  rintro z g ⟨rfl, rfl⟩
  by_cases hy : 0 ≤ y ∧ y < L
  · rw [if_pos hy]
    refine zt_f (by decide) (zt_I (s_11 hC q) ?_)
    rintro z g ⟨rfl, rfl⟩
    by_cases hk : 0 ≤ q ∧ q < K
    · rw [if_pos hk]
      obtain ⟨l, rfl⟩ := Int.eq_ofNat_of_zero_le hy.1
      obtain ⟨k, rfl⟩ := Int.eq_ofNat_of_zero_le hk.1
      have ei : (l : Int) * 8 + k = ((8 * l + k : Nat) : Int) := by omega
      rw [ei]
      exact zt_f (by decide) (zt_c (by omega) (zt_c (by omega) (zt_c (by omega) (zi_e ⟨by rw [if_pos ⟨hy, hk⟩]; exact hR c _ (by omega), rfl⟩))))
    · rw [if_neg hk]
      exact zt_t rfl (zi_e ⟨by rw [if_neg (fun r => hk r.2)], rfl⟩)
  · rw [if_neg hy]
    exact zt_t rfl (zi_e ⟨by rw [if_neg (fun r => hy r.1)], rfl⟩)
theorem s_262 (hD : zv_D h b K L C wo sz re fe ru lk P Qu Hd hr dp) (hB : zv_B K L C wo sz re fe ru lk) {rk : Int} {R : Nat → Int} (h70 : h 146 70 = rk) (hR : rk ≠ 0 → ∀ i : Nat, i < 40 → h 188 i = R i) (y q : Int) : zi (zc 262 [zm_A 146, zm_I y, zm_I q] h) (fun z g => z = zp_lvs K L rk R y q ∧ g = h) := by
  have hK8 := hB.1
  have hL5 := hB.2.1
  refine zt_l e_262 ?_
  rw [h70]
  unfold zp_lvs
  refine zt_p (fun c => zi_e ⟨by rw [if_pos c], rfl⟩) (fun c => ?_)
  rw [if_neg c]
  refine zt_I (s_221 hD.1 y) ?_
  rintro z g ⟨rfl, rfl⟩
  by_cases hy : 0 ≤ y ∧ y < L
  · rw [if_pos hy]
    refine zt_f (by decide) (zt_I (s_218 hD.1 q) ?_)
    rintro z g ⟨rfl, rfl⟩
    by_cases hk : 0 ≤ q ∧ q < K
    · rw [if_pos hk]
      obtain ⟨l, rfl⟩ := Int.eq_ofNat_of_zero_le hy.1
      obtain ⟨k, rfl⟩ := Int.eq_ofNat_of_zero_le hk.1
      have ei : 8 * (l : Int) + k = ((8 * l + k : Nat) : Int) := by omega
      rw [ei]
      exact zt_f (by decide) (zt_c (by omega) (zt_c (by omega) (zt_c (by omega) (zi_e ⟨by rw [if_pos ⟨hy, hk⟩]; exact hR c _ (by omega), rfl⟩))))
    · rw [if_neg hk]
      exact zt_t rfl (zi_e ⟨by rw [if_neg (fun r => hk r.2)], rfl⟩)
  · rw [if_neg hy]
    exact zt_t rfl (zi_e ⟨by rw [if_neg (fun r => hy r.1)], rfl⟩)
def zp_flt (fa fp w : Int) : Int := if w = 0 then fa else if w = 1 then fp else -1
theorem s_6 {fa fp : Int} (h2 : h 29 2 = fa) (h3 : h 29 3 = fp) (w : Int) : zi (zc 6 [zm_A 4, zm_I w] h) (fun z g => z = zp_flt fa fp w ∧ g = h) := by
  refine zt_l e_6 ?_
  rw [h2, h3]
  unfold zp_flt
  exact zt_p (fun c => zi_e ⟨by rw [if_pos c], rfl⟩) (fun c => zt_p (fun c1 => zi_e ⟨by rw [if_neg c, if_pos c1], rfl⟩) (fun c1 => zi_e ⟨by rw [if_neg c, if_neg c1], rfl⟩))
theorem s_198 {fa fp : Int} (h2 : h 146 10 = fa) (h3 : h 146 11 = fp) (w : Int) : zi (zc 198 [zm_A 146, zm_I w] h) (fun z g => z = zp_flt fa fp w ∧ g = h) := by
  refine zt_l e_198 ?_
  rw [h2, h3]
  unfold zp_flt
  exact zt_p (fun c => zi_e ⟨by rw [if_pos c], rfl⟩) (fun c => zt_p (fun c1 => zi_e ⟨by rw [if_neg c, if_pos c1], rfl⟩) (fun c1 => zi_e ⟨by rw [if_neg c, if_neg c1], rfl⟩))
theorem s_54 {S : Nat → Int} (hS : ∀ i : Nat, i < 6 → h 145 i = S i) (w : Int) : zi (zc 54 [zm_A 4, zm_I w] h) (fun z g => z = zp_sta S w ∧ g = h) := by
  refine zt_l e_54 ?_
  unfold zp_sta
  refine zt_p (fun c => zi_e ⟨by rw [if_neg (by omega)], rfl⟩) (fun c => zt_p (fun c1 => zi_e ⟨by rw [if_neg (by omega)], rfl⟩) (fun c1 => ?_))
  obtain ⟨k, rfl⟩ := Int.eq_ofNat_of_zero_le (show 0 ≤ w by omega)
  exact zt_c (by omega) (zi_e ⟨by rw [if_pos (by omega)]; exact hS k (by omega), rfl⟩)
theorem s_199 {S : Nat → Int} (hS : ∀ i : Nat, i < 6 → h 173 i = S i) (w : Int) : zi (zc 199 [zm_A 146, zm_I w] h) (fun z g => z = zp_sta S w ∧ g = h) := by
  refine zt_l e_199 (zt_I (s_175 w 0 5) ?_)
  rintro z g ⟨rfl, rfl⟩
  unfold zp_sta
  by_cases hw : 0 ≤ w ∧ w ≤ 5
  · rw [if_pos hw]
    obtain ⟨k, rfl⟩ := Int.eq_ofNat_of_zero_le hw.1
    exact zt_f (by decide) (zt_c (by omega) (zi_e ⟨by rw [if_pos hw]; exact hS k (by omega), rfl⟩))
  · rw [if_neg hw]
    exact zt_t rfl (zi_e ⟨by rw [if_neg hw], rfl⟩)
theorem s_52 {n : Nat} {im : Nat → Int} (hn : h 139 1 = n) (hn2 : n ≤ 188) (hS : ∀ i : Nat, i < n → h 140 i = im i) (w : Int) : zi (zc 52 [zm_A 4, zm_I w] h) (fun z g => z = zp_oct n im w ∧ g = h) := by
  refine zt_l e_52 ?_
  rw [hn]
  unfold zp_oct
  refine zt_p (fun c => zi_e ⟨by rw [if_neg (by omega)], rfl⟩) (fun c => zt_p (fun c1 => ?_) (fun c1 => zi_e ⟨by rw [if_neg (by omega)], rfl⟩))
  obtain ⟨k, rfl⟩ := Int.eq_ofNat_of_zero_le (show 0 ≤ w by omega)
  exact zt_c (by omega) (zi_e ⟨by rw [if_pos ⟨by omega, c1⟩]; exact hS k (by omega), rfl⟩)
theorem s_271 {n : Nat} {im : Nat → Int} (hn : h 146 77 = n) (hn2 : n ≤ 188) (hS : ∀ i : Nat, i < n → h 193 i = im i) (w : Int) : zi (zc 271 [zm_A 146, zm_I w] h) (fun z g => z = zp_oct n im w ∧ g = h) := by
  refine zt_l e_271 ?_
  rw [hn]
  refine zt_c (by omega) (zt_I (s_175 w 0 _) ?_)
  rintro z g ⟨rfl, rfl⟩
  unfold zp_oct
  by_cases hw : 0 ≤ w ∧ w ≤ (n : Int) - 1
  · rw [if_pos hw]
    obtain ⟨k, rfl⟩ := Int.eq_ofNat_of_zero_le hw.1
    exact zt_f (by decide) (zt_c (by omega) (zi_e ⟨by rw [if_pos ⟨hw.1, by omega⟩]; exact hS k (by omega), rfl⟩))
  · rw [if_neg hw]
    exact zt_t rfl (zi_e ⟨by rw [if_neg (by omega)], rfl⟩)
/-- the tape of both sides -/
def zv_Ta (h : zm_H) (n : Nat) (tb : Nat → Int) : Prop := h 5 1 = n ∧ n ≤ 1600 ∧ ∀ i : Nat, i < n → h 6 i = tb i
def zv_Tb (h : zm_H) (n : Nat) (tb : Nat → Int) : Prop := h 146 1 = n ∧ n ≤ 1600 ∧ ∀ i : Nat, i < n → h 147 i = tb i
theorem s_3y {n k : Nat} {tb : Nat → Int} (hT : zv_Ta h n tb) (hk : k ≤ n) : zi (zc 3 [zm_A 4, zm_I k] h) (fun z g => z = 1 ∧ g = zm_wr h 5 1 k) := by
  refine zt_l e_3 (zt_f (by omega) (zt_t (by rw [hT.1]; omega) (zt_c (Or.inr rfl) (zi_e ⟨rfl, rfl⟩))))
theorem s_3n {n : Nat} {tb : Nat → Int} {y m : Int} (hT : zv_Ta h n tb) (hk : y < 0 ∨ n < y) (hn : h 145 0 = m) (hb : 0 ≤ m ∧ m ≤ 1000000) : zi (zc 3 [zm_A 4, zm_I y] h) (fun z g => z = 0 ∧ g = zm_wr h 145 0 (m + 1)) := by
  refine zt_l e_3 (zt_p (fun _ => zt_cf (w := 0) (by decide) hn hb) (fun c => zt_f (by rw [hT.1]; omega) (zt_cf (w := 0) (by decide) hn hb)))
theorem s_157y {n k : Nat} {tb : Nat → Int} (hT : zv_Tb h n tb) (hk : k ≤ n) : zi (zc 157 [zm_A 146, zm_I k] h) (fun z g => z = 1 ∧ g = zm_wr h 146 1 k) := by
  refine zt_l e_157 (zt_f (by omega) (zt_t (by rw [hT.1]; omega) (zt_c (Or.inr rfl) (zi_e ⟨rfl, rfl⟩))))
theorem s_157n {n : Nat} {tb : Nat → Int} {y m : Int} (hT : zv_Tb h n tb) (hk : y < 0 ∨ n < y) (hn : h 173 0 = m) (hb : 0 ≤ m ∧ m ≤ 1000000) : zi (zc 157 [zm_A 146, zm_I y] h) (fun z g => z = 0 ∧ g = zm_wr h 173 0 (m + 1)) := by
  refine zt_l e_157 (zt_p (fun _ => zt_rf (w := 0) (by decide) hn hb) (fun c => zt_f (by rw [hT.1]; omega) (zt_rf (w := 0) (by decide) hn hb)))
end
