/-! ODDS: the reference's ways and worths -/
section
variable {h : zm_H} {t b K L C : Nat} {wo sz re fe ru : Nat → Int} {lk : Nat → Nat → Int} {P Pu Hd : Nat → Int}
def zp_ke (K : Nat) (sz ru : Nat → Int) (lk : Nat → Nat → Int) (c j : Nat) : Int := if j < K then zp_key sz ru lk c j else 0
def zp_wv (K : Nat) (lk : Nat → Nat → Int) (c j : Nat) : Int := if j < K then lk c j else 0
theorem zp_be_K {ke cn : Nat → Int} {k K : Nat} (hK : K ≤ 8) (h0 : ∀ j, K ≤ j → j < 8 → cn j = 0) : zp_be ke cn k 8 = zp_be ke cn k K ∧ zp_al ke cn k 8 = zp_al ke cn k K := by
  constructor
  · exact zq_S_ext hK (fun i h1 h2 => by rw [h0 i h1 h2]; split <;> rfl)
  · exact zq_S_ext hK (fun i h1 h2 => by rw [h0 i h1 h2]; split <;> rfl)
theorem s_233 {cn : Nat → Int} {c k T : Nat} (hG : zv_G h b K L C wo sz re fe ru lk) (hB : zv_B K L C wo sz re fe ru lk) (hc : c < C) (hk : k < K) (hT : (T : Int) = fe c + 1) (h186 : ∀ j : Nat, j < 8 → h 186 j = cn j) (hcn : ∀ j, j < 8 → 0 ≤ cn j ∧ cn j ≤ 495) (h0 : ∀ j, K ≤ j → j < 8 → cn j = 0) : zj (zc 233 [zm_A 146, zm_I c, zm_I k] h) (fun z g => z = zp_ways (zp_ke K sz ru lk c) cn k T ∧ g = h) := by
  have hK8 := hB.1
  have hC8 := hB.2.2.1
  have hb := hG.1
  have hf := hB.2.2.2.2.1 c hc
  have er := (hG.2.2.2.2.2.2.1 c hc (8 * (b : Int) + c) rfl).2.2
  have hT4 : 1 ≤ T ∧ T ≤ 4 := by omega
  have kk : ∀ j, j < K → zp_ke K sz ru lk c j = zp_key sz ru lk c j := fun j hj => if_pos hj
  have bK := zp_be_K (ke := zp_ke K sz ru lk c) (k := k) hK8 h0
  have bu := zp_be_ut (ke := zp_ke K sz ru lk c) (k := k) hcn (Nat.le_refl 8)
  have ba := zp_al_b (ke := zp_ke K sz ru lk c) (k := k) (by omega) hcn
  have bua := zp_ut_al (ke := zp_ke K sz ru lk c) (cn := cn) (k := k) 8
  have bck := hcn k (by omega)
  have bfin : ∀ i, i ≤ K → 0 ≤ zp_be (zp_ke K sz ru lk c) cn k i ∧ zp_be (zp_ke K sz ru lk c) cn k i ≤ 3960 ∧ 0 ≤ zp_al (zp_ke K sz ru lk c) cn k i ∧ zp_al (zp_ke K sz ru lk c) cn k i ≤ 3960 := fun i hi => by
    have h1 := zp_be_ut (ke := zp_ke K sz ru lk c) (k := k) (n := i) (fun j hj => hcn j (by omega)) (by omega)
    have h2 := zp_ut_al (ke := zp_ke K sz ru lk c) (cn := cn) (k := k) i
    omega
  refine zt_l e_233 ?_
  rw [hG.2.1]
  refine zt_c (by omega) (zt_c (by omega) (zt_c (by omega) ?_))
  rw [er]
  refine zt_I (s_234 hG hB hc hk rfl) ?_
  rintro z g ⟨rfl, rfl⟩
  have key : ∀ (n i : Nat), i + n = K → zj (zr none 3 233 33 [zm_A 146, zm_I c, zm_I k, zm_I (ru c), zm_I (zp_key sz ru lk c k), zm_L (zp_be (zp_ke K sz ru lk c) cn k i), zm_U, zm_L (zp_al (zp_ke K sz ru lk c) cn k i), zm_U, zm_I i] [] g) (fun z g2 => z = zp_ways (zp_ke K sz ru lk c) cn k T ∧ g2 = g) := by
    intro n
    induction n with
    | zero =>
      intro i hi
      have hiK : i = K := by omega
      subst hiK
      refine zt_l e_233_33 ?_
      rw [hG.2.1, hG.2.2.1]
      refine zt_c (by omega) (zt_f (by omega) (zt_c (by omega) ?_))
      rw [h186 k (by omega)]
      refine zt_p (fun hz => zj_e ⟨by unfold zp_ways; rw [hz, Int.mul_zero], rfl⟩) (fun hz => ?_)
      rw [← bK.1, ← bK.2]
      have hx := s_235 hG hB hc
      refine zt_c (by omega) (zt_I hx ?_)
      rintro z g2 ⟨rfl, rfl⟩
      rw [← hT, ← bua]
      refine zt_L (s_236 ⟨by omega, bu.2.2⟩ hT4.2) ?_
      rintro z g3 ⟨rfl, rfl⟩
      refine zt_I hx ?_
      rintro z g2 ⟨rfl, rfl⟩
      rw [← hT]
      refine zt_L (s_236 ⟨bu.1, by omega⟩ hT4.2) ?_
      rintro z g3 ⟨rfl, rfl⟩
      have hal : 0 < zp_al (zp_ke i sz ru lk c) cn k 8 := by omega
      have hid := zp_each_id (zp_ut (zp_ke i sz ru lk c) cn k 8) (zp_be (zp_ke i sz ru lk c) cn k 8) T
      have hd : zp_ut (zp_ke i sz ru lk c) cn k 8 - zp_be (zp_ke i sz ru lk c) cn k 8 = zp_al (zp_ke i sz ru lk c) cn k 8 := by omega
      rw [hd] at hid
      have be := zp_each_b bu.1 bu.2.1 bu.2.2 hT4.2
      have p1 := zp_pw_b (b := zp_ut (zp_ke i sz ru lk c) cn k 8) (m := 3960) (by omega) bu.2.2 T
      have p2 := zp_pw_b (b := zp_be (zp_ke i sz ru lk c) cn k 8) (m := 3960) bu.1 (by omega) T
      have p3 := zp_pw_m (n := T) hT4.2
      have hnn : 0 ≤ zp_pw (zp_ut (zp_ke i sz ru lk c) cn k 8) T - zp_pw (zp_be (zp_ke i sz ru lk c) cn k 8) T := by rw [← hid]; exact Int.mul_nonneg (by omega) be.1
      have hdiv : (zp_pw (zp_ut (zp_ke i sz ru lk c) cn k 8) T - zp_pw (zp_be (zp_ke i sz ru lk c) cn k 8) T).tdiv (zp_al (zp_ke i sz ru lk c) cn k 8) = zp_each (zp_ut (zp_ke i sz ru lk c) cn k 8) (zp_be (zp_ke i sz ru lk c) cn k 8) T := by
        rw [zq_tdiv hnn, ← hid]
        exact Int.mul_ediv_cancel_left _ (by omega)
      rw [hdiv, h186 k (by omega)]
      have hb1 : 0 ≤ zp_each (zp_ut (zp_ke i sz ru lk c) cn k 8) (zp_be (zp_ke i sz ru lk c) cn k 8) T * cn k := Int.mul_nonneg be.1 bck.1
      have hb2 : zp_each (zp_ut (zp_ke i sz ru lk c) cn k 8) (zp_be (zp_ke i sz ru lk c) cn k 8) T * cn k ≤ 983650314240000 * 495 := Int.mul_le_mul be.2 bck.2 bck.1 (by decide)
      exact zt_c (by omega) (zt_c ⟨by omega, by omega⟩ (zt_c (by omega) (zt_c (by omega) (zj_e ⟨rfl, rfl⟩))))
    | succ n ih =>
      intro i hi
      have bi := bfin i (by omega)
      have ci := hcn i (by omega)
      have h234 := s_234 hG hB hc (k := i) (by omega) rfl
      have e1 : zp_be (zp_ke K sz ru lk c) cn k (i + 1) = zp_be (zp_ke K sz ru lk c) cn k i + (if zp_key sz ru lk c i < zp_key sz ru lk c k then cn i else 0) := by
        rw [← kk i (by omega), ← kk k hk]; rfl
      have e2 : zp_al (zp_ke K sz ru lk c) cn k (i + 1) = zp_al (zp_ke K sz ru lk c) cn k i + (if zp_key sz ru lk c i = zp_key sz ru lk c k then cn i else 0) := by
        rw [← kk i (by omega), ← kk k hk]; rfl
      have nx := ih (i + 1) (by omega)
      rw [e1, e2] at nx
      refine zt_l e_233_33 ?_
      rw [hG.2.1, hG.2.2.1]
      refine zt_c (by omega) (zt_t (by omega) (zt_I h234 ?_))
      rintro z g2 ⟨rfl, rfl⟩
      rw [h186 i (by omega)]
      refine zt_p (fun hq => zt_c (by omega) (zt_c (by omega) (zt_I h234 ?_))) (fun hq => zt_c (by omega) (zt_I h234 ?_))
      · rintro z g3 ⟨rfl, rfl⟩
        rw [if_pos hq] at nx
        rw [h186 i (by omega)]
        refine zt_f (by omega) (zt_c (by omega) (zt_c (by omega) ?_))
        rw [if_neg (by omega)] at nx
        exact nx
      · rintro z g3 ⟨rfl, rfl⟩
        rw [if_neg hq] at nx
        rw [h186 i (by omega)]
        refine zt_p (fun hq2 => zt_c (by omega) (zt_c (by omega) (zt_c (by omega) ?_))) (fun hq2 => zt_c (by omega) (zt_c (by omega) ?_))
        · rw [if_pos hq2] at nx; exact nx
        · rw [if_neg hq2] at nx; exact nx
  exact key K 0 (by omega)
theorem s_239 {cn : Nat → Int} {c T : Nat} (hG : zv_G h b K L C wo sz re fe ru lk) (hB : zv_B K L C wo sz re fe ru lk) (hc : c < C) (hT : (T : Int) = fe c + 1) (h186 : ∀ j : Nat, j < 8 → h 186 j = cn j) (hcn : ∀ j, j < 8 → 0 ≤ cn j ∧ cn j ≤ 495) (h0 : ∀ j, K ≤ j → j < 8 → cn j = 0) : zj (zc 239 [zm_A 146, zm_I c] h) (fun z g => z = zp_wo (zp_ke K sz ru lk c) cn (zp_wv K lk c) T ∧ g = h) := by
  have hK8 := hB.1
  have hb := hG.1
  have hf := hB.2.2.2.2.1 c hc
  have hT4 : 1 ≤ T ∧ T ≤ 4 := by omega
  have hw : ∀ j, j < 8 → 0 ≤ zp_wv K lk c j ∧ zp_wv K lk c j ≤ 99 := fun j hj => by
    unfold zp_wv
    split
    · exact hB.2.2.2.2.2 c j hc (by assumption)
    · omega
  have bA := zp_pw_b (zp_tot_b hcn).1 (zp_tot_b hcn).2 T
  have bM := zp_pw_m (n := T) hT4.2
  have key : ∀ (n i : Nat), i + n = K → zj (zr none 4 239 5 [zm_A 146, zm_I c, zm_L (zq_S i (fun k => zp_ways (zp_ke K sz ru lk c) cn k T * zp_wv K lk c k)), zm_U, zm_I i] [] h) (fun z g => z = zp_wo (zp_ke K sz ru lk c) cn (zp_wv K lk c) T ∧ g = h) := by
    intro n
    induction n with
    | zero =>
      intro i hi
      refine zt_l e_239_5 ?_
      rw [hG.2.1, hG.2.2.1]
      refine zt_c (by omega) (zt_f (by omega) (zj_e ⟨?_, rfl⟩))
      unfold zp_wo
      rw [show i = K by omega]
      exact (zq_S_ext hK8 (fun j h1 h2 => by unfold zp_wv; rw [if_neg (by omega), Int.mul_zero])).symm
    | succ n ih =>
      intro i hi
      have b1 := zp_wo_b (ke := zp_ke K sz ru lk c) (wv := zp_wv K lk c) (n := i) (by omega) hcn hw hT4.2
      have b2 := zp_wo_b (ke := zp_ke K sz ru lk c) (wv := zp_wv K lk c) (n := i + 1) (by omega) hcn hw hT4.2
      have b3 : zq_S (i + 1) (fun k => zp_ways (zp_ke K sz ru lk c) cn k T * zp_wv K lk c k) = zq_S i (fun k => zp_ways (zp_ke K sz ru lk c) cn k T * zp_wv K lk c k) + zp_ways (zp_ke K sz ru lk c) cn i T * zp_wv K lk c i := rfl
      have b4 : 0 ≤ zp_ways (zp_ke K sz ru lk c) cn i T * zp_wv K lk c i := Int.mul_nonneg (zp_ways_b (by omega) hcn hT4.2).1 (hw i (by omega)).1
      have b5 : zp_wv K lk c i = lk c i := if_pos (by omega)
      have b6 : lk c i * zp_ways (zp_ke K sz ru lk c) cn i T = zp_ways (zp_ke K sz ru lk c) cn i T * zp_wv K lk c i := by rw [b5, Int.mul_comm]
      refine zt_l e_239_5 ?_
      rw [hG.2.1, hG.2.2.1]
      refine zt_c (by omega) (zt_t (by omega) (zt_I (s_224 hG hB hc (by omega)) ?_))
      rintro z g ⟨rfl, rfl⟩
      refine zt_L (s_233 hG hB hc (by omega) hT h186 hcn h0) ?_
      rintro z g ⟨rfl, rfl⟩
      rw [b6]
      exact zt_c (by omega) (zt_c (by omega) (zt_c (by omega) (ih (i + 1) (by omega))))
  exact zt_l e_239 (key K 0 (by omega))
end
