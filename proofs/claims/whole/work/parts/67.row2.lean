/-! ROW of the reference -/
section
variable {h : zm_H} {t b K L C N cf ct pf pt U nx uf d e n : Nat} {wo sz re fe ru cd tb : Nat → Int} {lk : Nat → Nat → Int} {P Pu Qu Hd R : Nat → Int} {hr dp x : Int} {sl : Nat → Nat} {sP sU sQ sH : Nat → Nat → Int} {sh sd lc lkk lh lo : Nat → Int}
def zp_ub : Option Nat → Int
  | none => 0
  | some _ => 1
def zp_uh (h : zm_H) (R : Nat → Int) (k : Nat) : Option Nat → zm_H
  | none => h
  | some l => zm_wr h 176 ((40 + (8 * l + k) : Nat) : Int) (R (8 * l + k) - 1)
theorem s_261 (hG : zv_G h b K L C wo sz re fe ru lk) (hB : zv_B K L C wo sz re fe ru lk) (hW : zv_W h 1 R Qu Hd) (hP : zv_P K L R) (hQ : ∀ p : Nat, p < 5 → h 185 p = p) {c k : Nat} (hc : c < C) (hk : k < K) {o : Option Nat} (ho : zp_ul R k (zp_to L R zp_id re c - zp_up L R zp_id) (zp_up L R zp_id) = o) : zi (zc 261 [zm_A 146, zm_I c, zm_I k] h) (fun z g => z = zp_ub o ∧ g = zp_uh h R k o) := by
  have hK8 := hB.1
  have hL5 := hB.2.1
  have hle := zp_to_le L R zp_id re c
  have hQL : ∀ p : Nat, p < L → h 185 p = (zp_id p : Nat) := fun p hp => hQ p (by omega)
  have key : ∀ (m l : Nat), l + m = zp_to L R zp_id re c → zp_ul R k m l = o → zi (zr none 5 261 6 [zm_A 146, zm_I c, zm_I k, zm_I l] [] h) (fun z g => z = zp_ub o ∧ g = zp_uh h R k o) := by
    intro m
    induction m with
    | zero =>
      intro l hl hu
      refine zt_l e_261_6 (zt_I (s_228 (v := 1) zp_id_b hQL hG hB hW hP hc) ?_)
      rintro z g ⟨rfl, rfl⟩
      subst hu
      exact zt_f (by omega) (zt_c (Or.inl rfl) (zi_e ⟨rfl, rfl⟩))
    | succ m ih =>
      intro l hl hu
      refine zt_l e_261_6 (zt_I (s_228 (v := 1) zp_id_b hQL hG hB hW hP hc) ?_)
      rintro z g ⟨rfl, rfl⟩
      have bR := hP.1 (8 * l + k) (by omega)
      refine zt_t (by omega) (zt_I (s_206 (v := 1) (l := l) (k := k) hW (by omega) (by omega)) ?_)
      rintro z g ⟨rfl, rfl⟩
      unfold zp_ul at hu
      refine zt_p (fun q => ?_) (fun q => ?_)
      · rw [if_neg (by omega)] at hu
        refine zt_c (by omega) ?_
        rw [show (l : Int) + 1 = ((l + 1 : Nat) : Int) by omega]
        exact ih (l + 1) (by omega) hu
      · rw [if_pos (by omega)] at hu
        subst hu
        have ei : 40 + 8 * (l : Int) + k = ((40 + (8 * l + k) : Nat) : Int) := by omega
        have e176 : g 176 ((40 + (8 * l + k) : Nat) : Int) = R (8 * l + k) := hW.2.1 (8 * l + k) (by omega) _ (by omega)
        rw [ei, e176]
        exact zt_c (by omega) (zt_c (by omega) (zt_c (by omega) (zt_c (by omega) (zt_c (by omega) (zt_c (by omega) (zt_c (Or.inr rfl) (zi_e ⟨rfl, rfl⟩)))))))
  refine zt_l e_261 (zt_I (s_227 (v := 1) zp_id_b hQL hG hB hW hP) ?_)
  rintro z g ⟨rfl, rfl⟩
  exact key _ _ (by omega) ho
theorem s_260y (hD : zv_D h b K L C wo sz re fe ru lk P Qu Hd hr dp) (hB : zv_B K L C wo sz re fe ru lk) (hP : zv_P K L P) (hN : zv_N h 0 n lc lkk lh lo) {n : Nat} (hT : zv_Tb h n tb) (hb : ∀ i, 0 ≤ tb i ∧ tb i ≤ 255) (hc : zp_crow C K n tb) : zi (zc 260 [zm_A 146] h) (fun z g => z = ((zp_rw L re tb (n / 2) 0 P).1 : Int) ∧ zq_F zf_Ry h g ∧ (∀ i : Nat, i < 40 → g 188 i = (zp_rw L re tb (n / 2) 0 P).2 i) ∧ g 146 70 = 1 ∧ g 146 1 = 0) := by
  have hK8 := hB.1
  have hL5 := hB.2.1
  have hb2 := hD.1.1
  obtain ⟨c1, c2, c3, c4⟩ := hc
  have f0 : zq_F zf_Ry h (zm_wr h 146 1 0) := zq_F_wr (Or.inl ⟨rfl, Or.inl rfl⟩)
  have ky : ∀ (g : zm_H), zq_F zf_Ry h g → zv_G g b K L C wo sz re fe ru lk := fun g hg => hD.1.kp (hg 146 13 (by unfold zf_Ry zf_Ve; omega)) (fun a h1 h2 => by funext i; exact hg a i (by unfold zf_Ry zf_Ve; omega))
  have kt : ∀ (g : zm_H), zq_F zf_Ry h g → ∀ i : Nat, i < n → g 147 i = tb i := fun g hg i hi => by rw [hg 147 i (by unfold zf_Ry zf_Ve; omega)]; exact hT.2.2 i hi
  -- the last copy
  have cpy : ∀ (m i : Nat) (R : Nat → Int) (r : Nat) (g : zm_H) (w1 w2 : zm_V), i + m = 40 → zq_F zf_Ry h g → (∀ q : Nat, q < 40 → g 176 ((40 + q : Nat) : Int) = R q) → (∀ q : Nat, q < i → g 188 q = R q) → g 146 70 = 1 → g 146 1 = 0 → zi (zr none 6 260 151 [zm_A 146, w1, w2, zm_I r, zm_I i] [] g) (fun z g => z = (r : Int) ∧ zq_F zf_Ry h g ∧ (∀ i : Nat, i < 40 → g 188 i = R i) ∧ g 146 70 = 1 ∧ g 146 1 = 0) := by
    intro m
    induction m with
    | zero =>
      intro i R r g w1 w2 hi fg h1 h2 h3 h4
      exact zt_l e_260_151 (zt_f (by omega) (zi_e ⟨rfl, fg, fun q hq => h2 q (by omega), h3, h4⟩))
    | succ m ih =>
      intro i R r g w1 w2 hi fg h1 h2 h3 h4
      refine zt_l e_260_151 (zt_t (by omega) ?_)
      have ei : 40 + (i : Int) = ((40 + i : Nat) : Int) := by omega
      rw [ei, h1 i (by omega)]
      refine zt_c (by omega) (zt_c (by omega) (zt_c (by omega) (zt_c (by omega) ?_)))
      rw [show (i : Int) + 1 = ((i + 1 : Nat) : Int) by omega]
      refine ih (i + 1) R r _ _ _ (by omega) (zq_F_tr fg (zq_F_wr (Or.inr (Or.inr (Or.inr rfl))))) (fun q hq => by rw [zq_wr_n (by decide)]; exact h1 q hq) (fun q hq => ?_) (by rw [zq_wr_n (by decide)]; exact h3) (by rw [zq_wr_n (by decide)]; exact h4)
      by_cases hqi : q = i
      · subst hqi; exact zq_wr_e
      · rw [zq_wr_i (by omega)]; exact h2 q (by omega)
  -- the rows
  have rows : ∀ (m i : Nat) (R : Nat → Int) (g : zm_H) (w4 : zm_V), i + m = n / 2 → zv_P K L R → zq_F zf_Ry h g → zv_W g 1 R Qu Hd → (∀ p : Nat, p < 5 → g 185 p = p) → g 146 1 = 0 → zi (zr none 6 260 105 [zm_A 146, zm_I n, zm_I 1, zm_I i, w4] [] g) (fun z g => z = ((zp_rw L re tb m i R).1 : Int) ∧ zq_F zf_Ry h g ∧ (∀ j : Nat, j < 40 → g 188 j = (zp_rw L re tb m i R).2 j) ∧ g 146 70 = 1 ∧ g 146 1 = 0) := by
    have out : ∀ (i : Nat) (R : Nat → Int) (g : zm_H) (w : zm_V), zq_F zf_Ry h g → zv_W g 1 R Qu Hd → g 146 1 = 0 → zi (zr none 6 260 151 [zm_A 146, zm_I n, zm_I 1, zm_I i, zm_I 0] [] (zm_wr g 146 70 1)) (fun z g => z = (i : Int) ∧ zq_F zf_Ry h g ∧ (∀ j : Nat, j < 40 → g 188 j = R j) ∧ g 146 70 = 1 ∧ g 146 1 = 0) := fun i R g w fg W1 e1 =>
      cpy 40 0 R i _ _ _ (by omega) (zq_F_tr fg (zq_F_wr (Or.inl ⟨rfl, Or.inr rfl⟩))) (fun q hq => by rw [zq_wr_n (by decide)]; exact W1.2.1 q hq _ (by omega)) (fun q hq => by omega) zq_wr_e (by rw [zq_wr_i (by decide)]; exact e1)
    intro m
    induction m with
    | zero =>
      intro i R g w4 hi hP fg W1 o1 e1
      refine zt_l (e_260_105 (w2 := zm_I 1) (zm_cat_I _)) (zt_c (by omega) (zt_f (by omega) (zt_c (Or.inr rfl) ?_)))
      exact out i R g w4 fg W1 e1
    | succ m ih =>
      intro i R g w4 hi hP fg W1 o1 e1
      obtain ⟨q1, q2⟩ := c4 i (by omega)
      obtain ⟨c, hcq⟩ := Int.eq_ofNat_of_zero_le (hb (2 * i)).1
      obtain ⟨k, hkq⟩ := Int.eq_ofNat_of_zero_le (hb (2 * i + 1)).1
      have e0 : 2 * (i : Int) = ((2 * i : Nat) : Int) := by omega
      have e1' : ((2 * i : Nat) : Int) + 1 = ((2 * i + 1 : Nat) : Int) := by omega
      have v0 : g 147 ((2 * i : Nat) : Int) = (c : Int) := by rw [kt g fg _ (by omega)]; exact hcq
      have v1 : g 147 ((2 * i + 1 : Nat) : Int) = (k : Int) := by rw [kt g fg _ (by omega)]; exact hkq
      refine zt_l (e_260_105 (w2 := zm_I 1) (zm_cat_I _)) ?_
      rw [e0, e1', v0, v1]
      refine zt_c (by omega) (zt_t (by omega) (zt_c (by omega) (zt_c (by omega) (zt_c (by omega) (zt_c (by omega) (zt_c (by omega) (zt_I (s_261 (ky g fg) hB W1 hP o1 (by omega) (by omega) rfl) ?_)))))))
      rintro z g2 ⟨rfl, hg2⟩
      simp only [zp_rw]
      rw [hcq, hkq]
      simp only [Int.toNat_natCast]
      cases hu : zp_ul R k (zp_to L R zp_id re c - zp_up L R zp_id) (zp_up L R zp_id) with
      | none =>
        rw [hu] at hg2
        have hg2' : g2 = g := hg2
        subst hg2'
        exact zt_t rfl (zt_c (Or.inr rfl) (out i R g2 w4 fg W1 e1))
      | some l =>
        rw [hu] at hg2
        have hg2' : g2 = zm_wr g 176 ((40 + (8 * l + k) : Nat) : Int) (R (8 * l + k) - 1) := hg2
        subst hg2'
        have hul := zp_ul_b _ _ _ hu
        have hle := zp_to_le L R zp_id re c
        have hsb : 8 * l + k < 40 := by omega
        refine zt_f (show ¬ (1 : Int) = 0 by decide) (zt_c (by omega) ?_)
        rw [show (i : Int) + 1 = ((i + 1 : Nat) : Int) by omega]
        refine ih (i + 1) _ _ _ (by omega) (zp_set_P hP hul.2.2 hsb) (zq_F_tr fg (zq_F_wr (by unfold zf_Ry zf_Ve; omega))) ⟨by decide, fun j hj q hq => ?_, fun j hj q hq => ?_, fun j hj q hq => ?_⟩ (fun p hp => by rw [zq_wr_n (by decide)]; exact o1 p hp) (by rw [zq_wr_n (by decide)]; exact e1)
        · unfold zp_set
          by_cases hjs : j = 8 * l + k
          · subst hjs
            rw [if_pos rfl, show q = ((40 + (8 * l + k) : Nat) : Int) by omega]; exact zq_wr_e
          · rw [if_neg hjs, zq_wr_i (by omega)]; exact W1.2.1 j hj q hq
        · rw [zq_wr_n (by decide)]; exact W1.2.2.1 j hj q hq
        · rw [zq_wr_n (by decide)]; exact W1.2.2.2 j hj q hq
  -- the check
  have chk : ∀ (m i : Nat), 2 * i + 2 * m = n → zi (zr none 6 260 34 [zm_A 146, zm_I n, zm_I 1, zm_I ((2 * i : Nat) : Int), zm_U] [] (zm_wr h 146 1 0)) (fun z g => z = ((zp_rw L re tb (n / 2) 0 P).1 : Int) ∧ zq_F zf_Ry h g ∧ (∀ i : Nat, i < 40 → g 188 i = (zp_rw L re tb (n / 2) 0 P).2 i) ∧ g 146 70 = 1 ∧ g 146 1 = 0) := by
    intro m
    induction m with
    | zero =>
      intro i hi
      have hW0 : zv_W (zm_wr h 146 1 0) 0 P Qu Hd := hD.2.1.kp (fun a h1 h2 => by funext j; exact zq_wr_n (by omega))
      have hN0 := hN.kp (g := zm_wr h 146 1 0) (fun a h1 h2 => by funext j; exact zq_wr_n (by omega))
      refine zt_l e_260_34 (zt_f (by omega) (zt_f (by decide) (zt_V (s_202 (w := 1) (v := 0) (by decide) hW0 hN0 (by decide) rfl rfl) ?_)))
      rintro g1 ⟨f1, W1, -, -, -⟩
      have f1' : zq_F zf_Ry h g1 := zq_F_tr f0 (zq_F_wk f1 (fun a i q => Or.inr (Or.inl q)))
      refine zt_V s_225 ?_
      rintro g2 ⟨f2, o2⟩
      have f2' : zq_F zf_Ry h g2 := zq_F_tr f1' (zq_F_wk f2 (fun a i q => Or.inr (Or.inr (Or.inl q))))
      refine rows (n / 2) 0 P g2 _ (by omega) hP f2' (W1.kp (fun a h1 h2 => by funext j; exact f2 a j (by omega))) o2 ?_
      rw [f2 146 1 (by omega), f1 146 1 (by unfold zf_Ve; omega), zq_wr_e]
    | succ m ih =>
      intro i hi
      obtain ⟨q1, q2⟩ := c4 i (by omega)
      have b1 := hb (2 * i)
      have b2 := hb (2 * i + 1)
      have hG0 := ky _ f0
      refine zt_l e_260_34 (zt_t (by omega) (zt_f (by decide) (zt_c (by omega) ?_)))
      rw [kt _ f0 (2 * i) (by omega)]
      refine zt_I (s_223 hG0 _) ?_
      rintro z g ⟨rfl, rfl⟩
      rw [if_pos (by omega : 0 ≤ tb (2 * i) ∧ tb (2 * i) < (C : Int))]
      have e1 : ((2 * i : Nat) : Int) + 1 = ((2 * i + 1 : Nat) : Int) := by omega
      rw [e1, kt _ f0 (2 * i + 1) (by omega)]
      refine zt_f (by decide) (zt_c (by omega) (zt_c (by omega) (zt_I (s_218 hG0 _) ?_)))
      rintro z g ⟨rfl, rfl⟩
      rw [if_pos (by omega : 0 ≤ tb (2 * i + 1) ∧ tb (2 * i + 1) < (K : Int))]
      refine zt_f (by decide) (zt_c (by omega) ?_)
      rw [show ((2 * i : Nat) : Int) + 2 = ((2 * (i + 1) : Nat) : Int) by omega]
      exact ih (i + 1) (by omega)
  refine zt_l e_260 ?_
  rw [hT.1, zq_tmod (by omega), zq_tdiv (by omega)]
  exact zt_f (by omega) (zt_c (by omega) (zt_t (by omega) (zt_f (by omega) (chk (n / 2) 0 (by omega)))))
theorem s_260n {m : Int} {n : Nat} (hD : zv_D h b K L C wo sz re fe ru lk P Qu Hd hr dp) (hT : zv_Tb h n tb) (hb : ∀ i, 0 ≤ tb i ∧ tb i ≤ 255) (hn : h 173 5 = m) (hm : 0 ≤ m ∧ m ≤ 1000000) (hc : ¬ zp_crow C K n tb) : zi (zc 260 [zm_A 146] h) (fun z g => z = -1 ∧ g = zm_wr (zm_wr h 146 1 0) 173 5 (m + 1)) := by
  have hn16 := hT.2.1
  have hn' : zm_wr h 146 1 0 173 5 = m := by rw [zq_wr_n (by decide)]; exact hn
  have hG0 : zv_G (zm_wr h 146 1 0) b K L C wo sz re fe ru lk := hD.1.kp (zq_wr_i (by decide)) (fun a h1 h2 => by funext j; exact zq_wr_n (by omega))
  have kt : ∀ i : Nat, i < n → zm_wr h 146 1 0 147 i = tb i := fun i hi => by rw [zq_wr_n (by decide)]; exact hT.2.2 i hi
  have no : ∀ x3 w4, zi (zr none 6 260 34 [zm_A 146, zm_I n, zm_I 0, zm_I x3, w4] [] (zm_wr h 146 1 0)) (fun z g => z = -1 ∧ g = zm_wr (zm_wr h 146 1 0) 173 5 (m + 1)) := fun x3 w4 =>
    zt_l e_260_34 (zt_p (fun _ => zt_t rfl (zt_t rfl (zt_rn (w := 5) (by decide) hn' hm))) (fun _ => zt_t rfl (zt_rn (w := 5) (by decide) hn' hm)))
  refine zt_l e_260 ?_
  rw [hT.1]
  refine zt_p (fun _ => no _ _) (fun a1 => ?_)
  rw [zq_tmod (by omega), zq_tdiv (by omega)]
  refine zt_c (by omega) (zt_p (fun a2 => zt_p (fun _ => no _ _) (fun a3 => ?_)) (fun _ => no _ _))
  have key : ∀ (q i : Nat), 2 * i + 2 * q = n → (∀ j, j < i → tb (2 * j) < C ∧ tb (2 * j + 1) < K) → zi (zr none 6 260 34 [zm_A 146, zm_I n, zm_I 1, zm_I ((2 * i : Nat) : Int), zm_U] [] (zm_wr h 146 1 0)) (fun z g => z = -1 ∧ g = zm_wr (zm_wr h 146 1 0) 173 5 (m + 1)) := by
    intro q
    induction q with
    | zero => intro i hi hall; exact absurd ⟨by omega, by omega, by omega, fun j hj => hall j (by omega)⟩ hc
    | succ q ih =>
      intro i hi hall
      have b1 := hb (2 * i)
      have b2 := hb (2 * i + 1)
      refine zt_l e_260_34 (zt_t (by omega) (zt_f (by decide) (zt_c (by omega) ?_)))
      rw [kt (2 * i) (by omega)]
      refine zt_I (s_223 hG0 _) ?_
      rintro z g ⟨rfl, rfl⟩
      by_cases q1 : 0 ≤ tb (2 * i) ∧ tb (2 * i) < (C : Int)
      · rw [if_pos q1]
        have e1 : ((2 * i : Nat) : Int) + 1 = ((2 * i + 1 : Nat) : Int) := by omega
        rw [e1, kt (2 * i + 1) (by omega)]
        refine zt_f (by decide) (zt_c (by omega) (zt_c (by omega) (zt_I (s_218 hG0 _) ?_)))
        rintro z g ⟨rfl, rfl⟩
        by_cases q2 : 0 ≤ tb (2 * i + 1) ∧ tb (2 * i + 1) < (K : Int)
        · rw [if_pos q2]
          refine zt_f (by decide) (zt_c (by omega) ?_)
          rw [show ((2 * i : Nat) : Int) + 2 = ((2 * (i + 1) : Nat) : Int) by omega]
          refine ih (i + 1) (by omega) (fun j hj => ?_)
          by_cases hji : j = i
          · subst hji; exact ⟨q1.2, q2.2⟩
          · exact hall j (by omega)
        · rw [if_neg q2]
          exact zt_t rfl (zt_c (by omega) (no _ _))
      · rw [if_neg q1]
        exact zt_t rfl (zt_c (by omega) (no _ _))
  exact key (n / 2) 0 (by omega) (fun j hj => by omega)
end
