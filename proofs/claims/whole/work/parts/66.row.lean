/-! ROW of both sides -/
def zp_crow (C K n : Nat) (tb : Nat → Int) : Prop := 2 ≤ n ∧ n ≤ 40 ∧ n % 2 = 0 ∧ ∀ i, 2 * i < n → tb (2 * i) < C ∧ tb (2 * i + 1) < K
def zp_ul (R : Nat → Int) (k : Nat) : Nat → Nat → Option Nat
  | 0, _ => none
  | m + 1, l => if 0 < R (8 * l + k) then some l else zp_ul R k m (l + 1)
def zp_rw (L : Nat) (re tb : Nat → Int) : Nat → Nat → (Nat → Int) → Nat × (Nat → Int)
  | 0, i, R => (i, R)
  | m + 1, i, R => match zp_ul R (tb (2 * i + 1)).toNat (zp_to L R zp_id re (tb (2 * i)).toNat - zp_up L R zp_id) (zp_up L R zp_id) with
    | none => (i, R)
    | some l => zp_rw L re tb m (i + 1) (zp_set R (8 * l + (tb (2 * i + 1)).toNat) (R (8 * l + (tb (2 * i + 1)).toNat) - 1))
theorem zp_ul_b {R : Nat → Int} {k : Nat} : ∀ (m l s : Nat), zp_ul R k m l = some s → l ≤ s ∧ s < l + m ∧ 0 < R (8 * s + k) := by
  intro m
  induction m with
  | zero => intro l s h; cases h
  | succ m ih =>
    intro l s h
    unfold zp_ul at h
    split at h
    · cases h; omega
    · have := ih (l + 1) s h; omega
def zp_uz (k : Nat) : Option Nat → Int
  | none => -1
  | some l => 8 * (l : Int) + (k : Int)
theorem zp_uz_n (k : Nat) : zp_uz k none = -1 := rfl
theorem zp_uz_s (k l : Nat) : zp_uz k (some l) = ((8 * l + k : Nat) : Int) := by
  show 8 * (l : Int) + (k : Int) = _
  omega
def zf_Rw (a : Nat) (i : Int) : Prop := (a = 5 ∧ i = 1) ∨ (a = 4 ∧ i = 17) ∨ (40 ≤ a ∧ a ≤ 43) ∨ (128 ≤ a ∧ a ≤ 131)
def zf_Ry (a : Nat) (i : Int) : Prop := (a = 146 ∧ (i = 1 ∨ i = 70)) ∨ zf_Ve 1 a i ∨ a = 185 ∨ a = 188
section
variable {h : zm_H} {t b K L C N cf ct pf pt U nx uf d e n : Nat} {wo sz re fe ru cd tb : Nat → Int} {lk : Nat → Nat → Int} {P Pu Qu Hd R : Nat → Int} {hr dp x : Int} {sl : Nat → Nat} {sP sU sQ sH : Nat → Nat → Int} {sh sd lc lkk lh lo : Nat → Int}
theorem zp_set_P (hP : zv_P K L R) {s : Nat} (h0 : 0 < R s) (hs : s < 40) : zv_P K L (zp_set R s (R s - 1)) := by
  refine ⟨fun i hi => ?_, fun i hi hz => ?_⟩
  · have := hP.1 i hi
    have := hP.1 s hs
    unfold zp_set
    split <;> omega
  · have := hP.2 i hi hz
    unfold zp_set
    split
    · next q => subst q; omega
    · exact this
theorem s_47y (hC : zv_C h t K L C wo sz re fe ru lk P Pu Hd hr dp) (hv : ∀ i : Nat, i < n → h 6 i = tb i) (hb : ∀ i, 0 ≤ tb i ∧ tb i ≤ 255) (hc : zp_crow C K n tb) : zi (zc 47 [zm_A 4, zm_I n] h) (fun z g => z = 1 ∧ g = h) := by
  obtain ⟨c1, c2, c3, c4⟩ := hc
  have key : ∀ (m i : Nat), 2 * i + 2 * m = n → zi (zr none 2 47 21 [zm_A 4, zm_I n, zm_I ((2 * i : Nat) : Int)] [] h) (fun z g => z = 1 ∧ g = h) := by
    intro m
    induction m with
    | zero => intro i hi; exact zt_l e_47_21 (zt_f (by omega) (zt_c (Or.inr rfl) (zi_e ⟨rfl, rfl⟩)))
    | succ m ih =>
      intro i hi
      obtain ⟨q1, q2⟩ := c4 i (by omega)
      have b1 := hb (2 * i)
      have b2 := hb (2 * i + 1)
      refine zt_l e_47_21 (zt_t (by omega) (zt_c (by omega) ?_))
      rw [hv (2 * i) (by omega)]
      refine zt_I (s_12 hC _) ?_
      rintro z g ⟨rfl, rfl⟩
      rw [if_pos (by omega : 0 ≤ tb (2 * i) ∧ tb (2 * i) < (C : Int))]
      have e1 : ((2 * i : Nat) : Int) + 1 = ((2 * i + 1 : Nat) : Int) := by omega
      rw [e1, hv (2 * i + 1) (by omega)]
      refine zt_f (by decide) (zt_c (by omega) (zt_c (by omega) (zt_I (s_11 hC _) ?_)))
      rintro z g ⟨rfl, rfl⟩
      rw [if_pos (by omega : 0 ≤ tb (2 * i + 1) ∧ tb (2 * i + 1) < (K : Int))]
      refine zt_f (by decide) (zt_c (by omega) ?_)
      rw [show ((2 * i : Nat) : Int) + 2 = ((2 * (i + 1) : Nat) : Int) by omega]
      exact ih (i + 1) (by omega)
  refine zt_l e_47 (zt_f (by omega) (zt_f (by omega) ?_))
  rw [zq_tmod (by omega), zq_tdiv (by omega)]
  exact zt_c (by omega) (zt_t (by omega) (key (n / 2) 0 (by omega)))
theorem s_47n (hC : zv_C h t K L C wo sz re fe ru lk P Pu Hd hr dp) (hv : ∀ i : Nat, i < n → h 6 i = tb i) (hb : ∀ i, 0 ≤ tb i ∧ tb i ≤ 255) (hc : ¬ zp_crow C K n tb) : zi (zc 47 [zm_A 4, zm_I n] h) (fun z g => z = 0 ∧ g = h) := by
  refine zt_l e_47 (zt_p (fun _ => zt_c (Or.inl rfl) (zi_e ⟨rfl, rfl⟩)) (fun a1 => zt_p (fun _ => zt_c (Or.inl rfl) (zi_e ⟨rfl, rfl⟩)) (fun a2 => ?_)))
  rw [zq_tmod (by omega), zq_tdiv (by omega)]
  refine zt_c (by omega) (zt_p (fun a3 => ?_) (fun _ => zt_c (Or.inl rfl) (zi_e ⟨rfl, rfl⟩)))
  have key : ∀ (m i : Nat), 2 * i + 2 * m = n → (∀ j, j < i → tb (2 * j) < C ∧ tb (2 * j + 1) < K) → zi (zr none 2 47 21 [zm_A 4, zm_I n, zm_I ((2 * i : Nat) : Int)] [] h) (fun z g => z = 0 ∧ g = h) := by
    intro m
    induction m with
    | zero => intro i hi hall; exact absurd ⟨by omega, by omega, by omega, fun j hj => hall j (by omega)⟩ hc
    | succ m ih =>
      intro i hi hall
      have b1 := hb (2 * i)
      have b2 := hb (2 * i + 1)
      refine zt_l e_47_21 (zt_t (by omega) (zt_c (by omega) ?_))
      rw [hv (2 * i) (by omega)]
      refine zt_I (s_12 hC _) ?_
      rintro z g ⟨rfl, rfl⟩
      by_cases q1 : 0 ≤ tb (2 * i) ∧ tb (2 * i) < (C : Int)
      · rw [if_pos q1]
        have e1 : ((2 * i : Nat) : Int) + 1 = ((2 * i + 1 : Nat) : Int) := by omega
        rw [e1, hv (2 * i + 1) (by omega)]
        refine zt_f (by decide) (zt_c (by omega) (zt_c (by omega) (zt_I (s_11 hC _) ?_)))
        rintro z g ⟨rfl, rfl⟩
        by_cases q2 : 0 ≤ tb (2 * i + 1) ∧ tb (2 * i + 1) < (K : Int)
        · rw [if_pos q2]
          refine zt_f (by decide) (zt_c (by omega) ?_)
          rw [show ((2 * i : Nat) : Int) + 2 = ((2 * (i + 1) : Nat) : Int) by omega]
          refine ih (i + 1) (by omega) (fun j hj => ?_)
          by_cases hji : j = i
          · subst hji; exact ⟨q1.2, q2.2⟩
          · exact hall j (by omega)
        · rw [if_neg q2]
          exact zt_t rfl (zt_c (Or.inl rfl) (zi_e ⟨rfl, rfl⟩))
      · rw [if_neg q1]
        exact zt_t rfl (zt_c (Or.inl rfl) (zi_e ⟨rfl, rfl⟩))
  exact key (n / 2) 0 (by omega) (fun j hj => by omega)
theorem s_48 (h4 : h 4 1 = t) (hF : zv_F h t K L C wo sz re fe ru lk) (hT : zv_T h 40 R Pu Hd) (hB : zv_B K L C wo sz re fe ru lk) (hP : zv_P K L R) {c k : Nat} (hc : c < C) (hk : k < K) : zi (zc 48 [zm_A 4, zm_A 40, zm_I c, zm_I k] h) (fun z g => z = zp_uz k (zp_ul R k (zp_to L R zp_id re c - zp_up L R zp_id) (zp_up L R zp_id)) ∧ zq_F zf_Rs h g) := by
  have hK8 := hB.1
  have hL5 := hB.2.1
  have hle := zp_to_le L R zp_id re c
  refine zt_l (e_48 zf_T_40 hF.1) (zt_c h4 (zt_V (s_113_1 (ord := zp_id) (fun p hp => hp) (fun p => rfl) hB hF hT hP.1 hc) ?_))
  rintro g ⟨f, R1⟩
  obtain ⟨r4, r5, -⟩ := R1
  have hTg : ∀ i : Nat, i < 40 → g (40 + 1) i = R i := fun i hi => by rw [f (40 + 1) i (by unfold zf_Rs; omega)]; exact hT.2.1 i hi
  have key : ∀ (m l : Nat), l + m = zp_to L R zp_id re c → zi (zr none 4 48 25 [zm_A 4, zm_A 40, zm_I c, zm_I k, zm_I l] [] g) (fun z g => z = zp_uz k (zp_ul R k m l) ∧ zq_F zf_Rs h g) := by
    intro m
    induction m with
    | zero =>
      intro l hl
      refine zt_l (e_48_25 zf_T_40) ?_
      rw [r5]
      exact zt_f (by omega) (zi_e ⟨rfl, f⟩)
    | succ m ih =>
      intro l hl
      refine zt_l (e_48_25 zf_T_40) ?_
      have ei : (l : Int) * 8 + k = ((8 * l + k : Nat) : Int) := by omega
      rw [r5, ei, hTg _ (by omega)]
      unfold zp_ul
      refine zt_t (by omega) (zt_c (by omega) (zt_c (by omega) (zt_c (by omega) (zt_p (fun q => zt_c (by omega) ?_) (fun q => zt_c (by omega) (zt_c (by omega) (zi_e ⟨by rw [if_pos (by omega), zp_uz_s], f⟩)))))))
      rw [if_neg (by omega), show (l : Int) + 1 = ((l + 1 : Nat) : Int) by omega]
      exact ih (l + 1) (by omega)
  rw [r4]
  exact key _ _ (by omega)
theorem s_46y (hC : zv_C h t K L C wo sz re fe ru lk P Pu Hd hr dp) (hB : zv_B K L C wo sz re fe ru lk) (hP : zv_P K L P) (hT : zv_Ta h n tb) (hb : ∀ i, 0 ≤ tb i ∧ tb i ≤ 255) (hc : zp_crow C K n tb) : zi (zc 46 [zm_A 4] h) (fun z g => z = ((zp_rw L re tb (n / 2) 0 P).1 : Int) ∧ zq_F zf_Rw h g ∧ (∀ i : Nat, i < 40 → g 41 i = (zp_rw L re tb (n / 2) 0 P).2 i) ∧ g 4 17 = 1 ∧ g 5 1 = 0) := by
  have hc' := hc
  obtain ⟨c1, c2, c3, c4⟩ := hc'
  have hC0 : zv_C (zm_wr h 5 1 0) t K L C wo sz re fe ru lk P Pu Hd hr dp := by
    obtain ⟨a1, a2, a3, a4, a5⟩ := hC
    exact ⟨by rw [zq_wr_n (by decide)]; exact a1, a2.k7 (fun a q1 q2 => by funext j; exact zq_wr_n (by omega)), a3.wr (by decide), by rw [zq_wr_n (by decide)]; exact a4, by rw [zq_wr_n (by decide)]; exact a5⟩
  have hv0 : ∀ i : Nat, i < n → zm_wr h 5 1 0 6 i = tb i := fun i hi => by rw [zq_wr_n (by decide)]; exact hT.2.2 i hi
  refine zt_l e_46 ?_
  rw [hT.1]
  refine zt_I (s_47y hC0 hv0 hb hc) ?_
  rintro z g ⟨rfl, rfl⟩
  refine zt_f (by decide) (zt_V (s_152 zf_T_40 hC0.2.2.1 (by decide)) ?_)
  rintro g2 ⟨f2, T2, -, -⟩
  have ed : ((n : Nat) : Int).tdiv 2 = ((n / 2 : Nat) : Int) := by rw [zq_tdiv (by omega)]; omega
  rw [ed]
  refine zt_c (Or.inr rfl) (zt_c (by omega) ?_)
  have fr : zq_F zf_Rw h (zm_wr g2 4 17 1) := zq_F_tr (zq_F_wr (by unfold zf_Rw; omega)) (zq_F_tr (zq_F_wk f2 (fun a i q => by unfold zf_To at q; unfold zf_Rw; omega)) (zq_F_wr (by unfold zf_Rw; omega)))
  have T3 : zv_T (zm_wr g2 4 17 1) 40 P Pu Hd := T2.wr (by decide)
  have e4 : zm_wr g2 4 17 1 4 1 = t := by rw [fr 4 1 (by unfold zf_Rw; omega)]; exact hC.1
  have e17 : zm_wr g2 4 17 1 4 17 = 1 := zq_wr_e
  have e5 : zm_wr g2 4 17 1 5 1 = 0 := by rw [zq_wr_n (by decide), f2 5 1 (by unfold zf_To; omega), zq_wr_e]
  -- the loop keeps these two
  have hF3 : zv_F (zm_wr g2 4 17 1) t K L C wo sz re fe ru lk := hC.2.1.k7 (fun a a1 a2 => by funext j; exact fr a j (by unfold zf_Rw; omega))
  have hv3 : ∀ i : Nat, i < n → zm_wr g2 4 17 1 6 i = tb i := fun i hi => by rw [fr 6 i (by unfold zf_Rw; omega)]; exact hT.2.2 i hi
  generalize zm_wr g2 4 17 1 = g3 at fr T3 e4 e17 e5 hF3 hv3
  have key : ∀ (m i : Nat) (R : Nat → Int) (g : zm_H) (w4 : zm_V), i + m = n / 2 → zv_P K L R → zq_F (fun a _ => (40 ≤ a ∧ a ≤ 43) ∨ (128 ≤ a ∧ a ≤ 131)) g3 g → zv_T g 40 R Pu Hd → zi (zr none 5 46 52 [zm_A 4, zm_I n, zm_I ((n / 2 : Nat) : Int), zm_I i, w4] [] g) (fun z g => z = ((zp_rw L re tb m i R).1 : Int) ∧ zq_F (fun a _ => (40 ≤ a ∧ a ≤ 43) ∨ (128 ≤ a ∧ a ≤ 131)) g3 g ∧ zv_T g 40 (zp_rw L re tb m i R).2 Pu Hd) := by
    have hK8 := hB.1
    have hL5 := hB.2.1
    intro m
    induction m with
    | zero =>
      intro i R g w4 hi hP fg hT
      exact zt_l e_46_52 (zt_f (by omega) (zi_e ⟨by rw [show i = n / 2 by omega]; rfl, fg, hT⟩))
    | succ m ih =>
      intro i R g w4 hi hP fg hT
      obtain ⟨q1, q2⟩ := c4 i (by omega)
      obtain ⟨c, hcq⟩ := Int.eq_ofNat_of_zero_le (hb (2 * i)).1
      obtain ⟨k, hkq⟩ := Int.eq_ofNat_of_zero_le (hb (2 * i + 1)).1
      have e0 : 2 * (i : Int) = ((2 * i : Nat) : Int) := by omega
      have e1 : ((2 * i : Nat) : Int) + 1 = ((2 * i + 1 : Nat) : Int) := by omega
      have v0 : g 6 ((2 * i : Nat) : Int) = (c : Int) := by rw [fg 6 _ (by omega), hv3 _ (by omega)]; exact hcq
      have v1 : g 6 ((2 * i + 1 : Nat) : Int) = (k : Int) := by rw [fg 6 _ (by omega), hv3 _ (by omega)]; exact hkq
      have hFg : zv_F g t K L C wo sz re fe ru lk := hF3.k7 (fun a a1 a2 => by funext j; exact fg a j (by omega))
      have g4 : g 4 1 = t := by rw [fg 4 1 (by omega)]; exact e4
      refine zt_l e_46_52 (zt_t (by omega) ?_)
      rw [e0, e1, v0, v1]
      refine zt_c (by omega) (zt_c (by omega) (zt_c (by omega) (zt_c (by omega) (zt_c (by omega) (zt_I (s_48 g4 hFg hT hB hP (by omega) (by omega)) ?_)))))
      rintro z g2 ⟨rfl, f2⟩
      have f2' : zq_F (fun a _ => (40 ≤ a ∧ a ≤ 43) ∨ (128 ≤ a ∧ a ≤ 131)) g3 g2 := zq_F_tr fg (zq_F_wk f2 (fun a j q => by unfold zf_Rs at q; omega))
      have T2 : zv_T g2 40 R Pu Hd := hT.kp (fun a ha => zf_Rs_kp f2 ha)
      simp only [zp_rw]
      rw [hcq, hkq]
      simp only [Int.toNat_natCast]
      cases hu : zp_ul R k (zp_to L R zp_id re c - zp_up L R zp_id) (zp_up L R zp_id) with
      | none =>
        rw [zp_uz_n]
        exact zt_t rfl (zi_e ⟨rfl, f2', T2⟩)
      | some l =>
        have hul := zp_ul_b _ _ _ hu
        have hle := zp_to_le L R zp_id re c
        have hsb : 8 * l + k < 40 := by omega
        have e41 : g2 41 ((8 * l + k : Nat) : Int) = R (8 * l + k) := T2.2.1 _ hsb
        have bR := hP.1 (8 * l + k) hsb
        rw [zp_uz_s, e41]
        refine zt_f (by omega) (zt_c (by omega) (zt_c (by omega) (zt_c (by omega) (zt_c (by omega) ?_))))
        rw [show (i : Int) + 1 = ((i + 1 : Nat) : Int) by omega]
        refine ih (i + 1) _ _ _ (by omega) (zp_set_P hP hul.2.2 hsb) (zq_F_tr f2' (zq_F_wr (by omega))) ⟨zf_T_40, zp_wrs T2.2.1, ?_, ?_⟩
        · intro j hj; rw [zq_wr_n (by decide)]; exact T2.2.2.1 j hj
        · intro j hj; rw [zq_wr_n (by decide)]; exact T2.2.2.2 j hj
  refine zi_m (key (n / 2) 0 P g3 _ (by omega) hP zq_F_rf T3) (fun z g q => ⟨q.1, zq_F_tr fr (zq_F_wk q.2.1 (fun a i r => by unfold zf_Rw; omega)), q.2.2.2.1, ?_, ?_⟩)
  · rw [q.2.1 4 17 (by omega)]; exact e17
  · rw [q.2.1 5 1 (by omega)]; exact e5
theorem s_46n {m : Int} (hC : zv_C h t K L C wo sz re fe ru lk P Pu Hd hr dp) (hT : zv_Ta h n tb) (hb : ∀ i, 0 ≤ tb i ∧ tb i ≤ 255) (hn : h 145 5 = m) (hm : 0 ≤ m ∧ m ≤ 1000000) (hc : ¬ zp_crow C K n tb) : zi (zc 46 [zm_A 4] h) (fun z g => z = -1 ∧ g = zm_wr (zm_wr h 5 1 0) 145 5 (m + 1)) := by
  have hC0 : zv_C (zm_wr h 5 1 0) t K L C wo sz re fe ru lk P Pu Hd hr dp := by
    obtain ⟨a1, a2, a3, a4, a5⟩ := hC
    exact ⟨by rw [zq_wr_n (by decide)]; exact a1, a2.k7 (fun a q1 q2 => by funext j; exact zq_wr_n (by omega)), a3.wr (by decide), by rw [zq_wr_n (by decide)]; exact a4, by rw [zq_wr_n (by decide)]; exact a5⟩
  have hv0 : ∀ i : Nat, i < n → zm_wr h 5 1 0 6 i = tb i := fun i hi => by rw [zq_wr_n (by decide)]; exact hT.2.2 i hi
  refine zt_l e_46 ?_
  rw [hT.1]
  refine zt_I (s_47n hC0 hv0 hb hc) ?_
  rintro z g ⟨rfl, rfl⟩
  exact zt_t rfl (zt_cn (w := 5) (by decide) (by rw [zq_wr_n (by decide)]; exact hn) hm)
end
