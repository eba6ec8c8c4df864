/-! ON of the reference -/
def zf_72 (a : Nat) (i : Int) : Prop := (a = 146 ∧ (i = 1 ∨ i = 57)) ∨ zf_Ve 1 a i ∨ zf_Ve 0 a i
section
variable {h : zm_H} {t b K L C N cf ct pf pt U nx uf d e n : Nat} {wo sz re fe ru cd tb F0 : Nat → Int} {lk : Nat → Nat → Int} {P Pu Qu Hd R : Nat → Int} {hr dp x pu : Int} {sl : Nat → Nat} {sP sU sQ sH : Nat → Nat → Int} {sh sd lc lkk lh lo : Nat → Int}
theorem s_274 {j : Nat} (hv : ∀ i : Nat, i < n → h 147 i = tb i) (hn : n ≤ 1600) (hb : ∀ i, 0 ≤ tb i ∧ tb i ≤ 255) (hj : j + 1 < n) : zi (zc 274 [zm_A 146, zm_I j] h) (fun z g => z = zp_two tb j ∧ g = h) := by
  have b1 := hb j
  have b2 := hb (j + 1)
  have e1 : (j : Int) + 1 = ((j + 1 : Nat) : Int) := by omega
  refine zt_l e_274 ?_
  rw [e1, hv j (by omega), hv (j + 1) hj]
  have e8 : ((2 ^ 8 : Nat) : Int) = 256 := rfl
  have es : zb_ishl (tb j) 8 = tb j * 256 := zb_shl (s := 8) b1.1 (by decide) (by rw [e8]; omega)
  rw [es]
  obtain ⟨q, hq⟩ := Int.eq_ofNat_of_zero_le b1.1
  have eo : zb_ior (tb j * 256) (tb (j + 1)) = tb j * 256 + tb (j + 1) := zb_or (i := 8) (c := q) (by
    rw [Int.natCast_mul, e8, hq]; omega) (by rw [e8]; omega) (by omega)
  rw [eo]
  exact zt_c (by omega) (zt_c (by omega) (zt_c (by omega) (zi_e ⟨rfl, rfl⟩)))
theorem s_273_303 {c : Nat} {w1 w4 : zm_V} (hw4 : zm_cat w4 ≠ 2) (hB : zv_B K L C wo sz re fe ru lk) (hn : n = zp_imn K L C + 1) (hb : ∀ i, 0 ≤ tb i ∧ tb i ≤ 255) (hc : c < C) {Q : zm_V → zm_H → Prop} : ∀ (m k : Nat) (g : zm_H), k + m = K → zv_G g b K L C wo sz re fe ru lk → (∀ i : Nat, i < n → g 147 i = tb i) →
    ((¬ ∀ k, k < K → zp_two tb (zp_at K L c + 2 + 2 * k) ≤ 9999) → ∀ g2, zq_F (fun a i => a = 178 ∧ 64 ≤ i ∧ i < 128) g g2 → zt (zm_ck (zm_bit 0) (some (zm_I 0, g2))) Q) →
    ((∀ k', k' < k → zp_two tb (zp_at K L c + 2 + 2 * k') ≤ 9999) → (∀ k', k' < K → zp_two tb (zp_at K L c + 2 + 2 * k') ≤ 9999) → ∀ g2, zq_F (fun a i => a = 178 ∧ 64 ≤ i ∧ i < 128) g g2 → (∀ k', k ≤ k' → k' < K → g2 178 ((64 + (8 * c + k') : Nat) : Int) = zp_two tb (zp_at K L c + 2 + 2 * k')) → (∀ j : Int, (j < ((64 + (8 * c + k) : Nat) : Int) ∨ ((64 + (8 * c + K) : Nat) : Int) ≤ j) → g2 178 j = g 178 j) → zt (zr none 2 273 246 [zm_A 146, w1, zm_I ((L * K : Nat) : Int), zm_I ((2 + 2 * K : Nat) : Int), w4, zm_I ((c + 1 : Nat) : Int), zm_I ((zp_at K L c : Nat) : Int), zm_I K] [] g2) Q) →
    (∀ k', k' < k → zp_two tb (zp_at K L c + 2 + 2 * k') ≤ 9999) →
    zt (zr none 2 273 303 [zm_A 146, w1, zm_I ((L * K : Nat) : Int), zm_I ((2 + 2 * K : Nat) : Int), w4, zm_I c, zm_I ((zp_at K L c : Nat) : Int), zm_I k] [] g) Q := by
  have hK8 := hB.1
  have hL5 := hB.2.1
  have hC8 := hB.2.2.1
  obtain ⟨a1, a2⟩ := zp_at_b hK8 hL5 hC8 c hc
  obtain ⟨n1, n2, n3, n4, n5, n6⟩ := zp_imn_b hK8 hL5 hC8
  have hlast : zp_imn K L C ≤ 187 := by unfold zp_imn; omega
  intro m
  induction m with
  | zero =>
    intro k g hk hG hv hno hyes hok
    obtain rfl : k = K := by omega
    have hb2 := hG.1
    refine zt_l (e_273_303 hw4) ?_
    rw [hG.2.1, hG.2.2.1]
    refine zt_c (by omega) (zt_f (by omega) (zt_c (by omega) ?_))
    rw [show (c : Int) + 1 = ((c + 1 : Nat) : Int) by omega]
    exact hyes hok hok g zq_F_rf (fun k' h1 h2 => by omega) (fun j hj => rfl)
  | succ m ih =>
    intro k g hk hG hv hno hyes hok
    have hb2 := hG.1
    have bt := zp_two_b hb (zp_at K L c + 2 + 2 * k)
    refine zt_l (e_273_303 hw4) ?_
    rw [hG.2.1, hG.2.2.1]
    have i1 : 64 + 8 * (c : Int) + k = ((64 + (8 * c + k) : Nat) : Int) := by omega
    have i2 : ((zp_at K L c : Nat) : Int) + 2 + 2 * (k : Int) = ((zp_at K L c + 2 + 2 * k : Nat) : Int) := by omega
    rw [i1, i2]
    refine zt_c (by omega) (zt_t (by omega) (zt_c (by omega) (zt_c (by omega) (zt_c (by omega) (zt_c (by omega) (zt_c (by omega) (zt_c (by omega) (zt_I (s_274 hv (by omega) hb (by omega)) ?_))))))))
    rintro z g' ⟨rfl, rfl⟩
    have hv2 : ∀ i : Nat, i < n → zm_wr g' 178 ((64 + (8 * c + k) : Nat) : Int) (zp_two tb (zp_at K L c + 2 + 2 * k)) 147 i = tb i := fun i hi => by rw [zq_wr_n (by decide)]; exact hv i hi
    refine zt_c (by omega) (zt_c (by omega) (zt_c (by omega) (zt_c (by omega) (zt_I (s_274 hv2 (by omega) hb (by omega)) ?_))))
    rintro z g2 ⟨rfl, rfl⟩
    have fg2 : zq_F (fun a i => a = 178 ∧ 64 ≤ i ∧ i < 128) g' (zm_wr g' 178 ((64 + (8 * c + k) : Nat) : Int) (zp_two tb (zp_at K L c + 2 + 2 * k))) := zq_F_wr (by omega)
    refine zt_p (fun q => zt_c (by omega) ?_) (fun q => hno (fun r => q (r k (by omega))) _ fg2)
    rw [show (k : Int) + 1 = ((k + 1 : Nat) : Int) by omega]
    have hG2 : zv_G (zm_wr g' 178 ((64 + (8 * c + k) : Nat) : Int) (zp_two tb (zp_at K L c + 2 + 2 * k))) b K L C wo sz re fe ru lk := hG.kp (zq_wr_n (by decide)) (fun a h1 h2 => by funext j; exact zq_wr_n (by omega))
    have hok2 : ∀ k', k' < k + 1 → zp_two tb (zp_at K L c + 2 + 2 * k') ≤ 9999 := fun k' hk' => by
      by_cases hkk : k' = k
      · rw [hkk]; exact q
      · exact hok k' (by omega)
    refine ih (k + 1) _ (by omega) hG2 hv2 (fun r g3 f3 => hno r g3 (zq_F_tr fg2 f3)) (fun r1 r2 g3 f3 v3 o3 => hyes (fun k' hk' => hok k' hk') r2 g3 (zq_F_tr fg2 f3) (fun k' h1 h2 => ?_) (fun j hj => ?_)) hok2
    · by_cases hkk : k' = k
      · subst hkk
        rw [o3 _ (Or.inl (by omega)), zq_wr_e]
      · exact v3 k' (by omega) h2
    · rw [o3 j (by omega), zq_wr_i (by omega)]
theorem s_273 (hD : zv_D h b K L C wo sz re fe ru lk P Qu Hd hr dp) (hB : zv_B K L C wo sz re fe ru lk) (hX : zv_X K L C P Qu Hd hr dp) {nn : Nat} (hN : zv_N h 0 nn lc lkk lh lo) (hv : ∀ i : Nat, i < n → h 147 i = tb i) (hn16 : n ≤ 1600) (hb : ∀ i, 0 ≤ tb i ∧ tb i ≤ 255) : zi (zc 273 [zm_A 146, zm_I n] h) (fun z g => zq_F (zf_Ve 1) h g ∧ ((z = 1 ∧ zp_con K L C n tb ∧ zv_W g 1 (zp_onP K L tb) (zp_onU K L C tb Qu) (zp_onH K L C tb) ∧ g 174 1 = tb 0 ∧ g 175 1 = zp_two tb 1 ∧ g 179 1 = 0) ∨ (z = 0 ∧ ¬ zp_con K L C n tb))) := by
  have hK8 := hB.1
  have hL5 := hB.2.1
  have hC8 := hB.2.2.1
  have hb2 := hD.1.1
  have hat := zp_at_b hK8 hL5 hC8
  obtain ⟨n1, n2, n3, n4, n5, n6⟩ := zp_imn_b hK8 hL5 hC8
  have hlast : zp_imn K L C ≤ 187 := by unfold zp_imn; omega
  have ge3 : 3 ≤ zp_imn K L C := by unfold zp_imn; omega
  have eM : (L : Int) * (K : Int) = ((L * K : Nat) : Int) := by rw [Int.natCast_mul]
  have e22 : 2 + 2 * (K : Int) = ((2 + 2 * K : Nat) : Int) := by omega
  have eC : ((2 + 2 * K : Nat) : Int) * (C : Int) = ((C * (2 + 2 * K) : Nat) : Int) := by rw [Int.natCast_mul, Int.mul_comm]
  have kG : ∀ g, zq_F (zf_Ve 1) h g → zv_G g b K L C wo sz re fe ru lk := fun g fg => hD.1.kp (fg 146 13 (by unfold zf_Ve; omega)) (fun a h1 h2 => by funext i; exact fg a i (by unfold zf_Ve; omega))
  have kv : ∀ g, zq_F (zf_Ve 1) h g → ∀ i : Nat, i < n → g 147 i = tb i := fun g fg i hi => by rw [fg 147 i (by unfold zf_Ve; omega)]; exact hv i hi
  -- the children
  have kids : ∀ (m c : Nat) (g : zm_H) (w1 w4 w6 w7 : zm_V), zm_cat w4 ≠ 2 → c + m = C → n = zp_imn K L C + 1 → zq_F (zf_Ve 1) h g → (∀ c', c' < c → zp_two tb (zp_at K L c') ≤ 999 ∧ ∀ k, k < K → zp_two tb (zp_at K L c' + 2 + 2 * k) ≤ 9999) → (∀ i : Nat, i < 40 → g 176 ((40 + i : Nat) : Int) = zp_onP K L tb i) → (∀ j : Nat, j < 8 → (j < c ∨ C ≤ j) → g 177 ((8 + j : Nat) : Int) = zp_onU K L C tb Qu j) → (∀ i : Nat, i < 64 → (i / 8 < c ∨ C ≤ i / 8 ∨ K ≤ i % 8) → g 178 ((64 + i : Nat) : Int) = zp_onH K L C tb i) → g 174 1 = tb 0 → g 175 1 = zp_two tb 1 → g 179 1 = 0 → tb (zp_imn K L C) = zp_chk tb (zp_imn K L C) → tb 0 ≤ 99 → zp_two tb 1 ≤ 9999 → (∀ l k, l < L → k < K → tb (3 + l * K + k) ≤ 99) →
      zi (zr none 2 273 246 [zm_A 146, w1, zm_I ((L * K : Nat) : Int), zm_I ((2 + 2 * K : Nat) : Int), w4, zm_I c, w6, w7] [] g) (fun z g => zq_F (zf_Ve 1) h g ∧ ((z = 1 ∧ zp_con K L C n tb ∧ zv_W g 1 (zp_onP K L tb) (zp_onU K L C tb Qu) (zp_onH K L C tb) ∧ g 174 1 = tb 0 ∧ g 175 1 = zp_two tb 1 ∧ g 179 1 = 0) ∨ (z = 0 ∧ ¬ zp_con K L C n tb))) := by
    intro m
    induction m with
    | zero =>
      intro c g w1 w4 w6 w7 hw4 hc hn fg hok p1 p2 p3 p4 p5 p6 q1 q2 q3 q4
      obtain rfl : c = C := by omega
      have hGg := kG g fg
      refine zt_l e_273_246 ?_
      rw [hGg.2.1, hGg.2.2.2.2.1]
      refine zt_c (by omega) (zt_f (by omega) (zt_c (Or.inr rfl) (zi_e ⟨fg, Or.inl ⟨rfl, ⟨hn, q1, q2, q3, q4, hok⟩, ⟨by decide, fun i hi j hj => ?_, fun i hi j hj => ?_, fun i hi j hj => ?_⟩, p4, p5, p6⟩⟩)))
      · rw [show j = ((40 + i : Nat) : Int) by omega]; exact p1 i hi
      · rw [show j = ((8 + i : Nat) : Int) by omega]; exact p2 i hi (by omega)
      · rw [show j = ((64 + i : Nat) : Int) by omega]; exact p3 i hi (by omega)
    | succ m ih =>
      intro c g w1 w4 w6 w7 hw4 hc hn fg hok p1 p2 p3 p4 p5 p6 q1 q2 q3 q4
      have hcC : c < C := by omega
      obtain ⟨a1, a2⟩ := hat c hcC
      have hGg := kG g fg
      have bt := zp_two_b hb (zp_at K L c)
      have ea : 3 + ((L * K : Nat) : Int) + ((2 + 2 * K : Nat) : Int) * (c : Int) = ((zp_at K L c : Nat) : Int) := by
        have : ((2 + 2 * K : Nat) : Int) * (c : Int) = ((c * (2 + 2 * K) : Nat) : Int) := by rw [Int.natCast_mul, Int.mul_comm]
        rw [this]; unfold zp_at; omega
      have ec2 : ((2 + 2 * K : Nat) : Int) * (c : Int) = ((c * (2 + 2 * K) : Nat) : Int) := by rw [Int.natCast_mul, Int.mul_comm]
      have e8 : 8 + (c : Int) = ((8 + c : Nat) : Int) := by omega
      have hcm := n4 c (by omega)
      refine zt_l e_273_246 ?_
      rw [hGg.2.1, hGg.2.2.2.2.1, ea, e8]
      refine zt_c (by omega) (zt_t (by omega) (zt_c (by omega) (zt_c (by rw [ec2]; omega) (zt_c (by omega) (zt_c (by omega) (zt_I (s_274 (kv g fg) hn16 hb (by omega)) ?_))))))
      rintro z g' ⟨rfl, rfl⟩
      have fg2 : zq_F (zf_Ve 1) h (zm_wr g' 177 ((8 + c : Nat) : Int) (zp_two tb (zp_at K L c))) := zq_F_tr fg (zq_F_wr (by unfold zf_Ve; omega))
      refine zt_c (by omega) (zt_I (s_274 (kv _ fg2) hn16 hb (by omega)) ?_)
      rintro z g2 ⟨rfl, rfl⟩
      refine zt_p (fun q => ?_) (fun q => zt_c (Or.inl rfl) (zi_e ⟨fg2, Or.inr ⟨rfl, fun r => q (r.2.2.2.2.2 c hcC).1⟩⟩))
      refine s_273_303 hw4 hB hn hb hcC K 0 _ (by omega) (kG _ fg2) (kv _ fg2) (fun r g3 f3 => zt_c (Or.inl rfl) (zi_e ⟨zq_F_tr fg2 (zq_F_wk f3 (fun a i q => by unfold zf_Ve; omega)), Or.inr ⟨rfl, fun s => r (s.2.2.2.2.2 c hcC).2⟩⟩)) (fun _ r2 g3 f3 v3 o3 => ?_) (fun k' hk' => by omega)
      have f3' : zq_F (zf_Ve 1) h g3 := zq_F_tr fg2 (zq_F_wk f3 (fun a i q => by unfold zf_Ve; omega))
      refine ih (c + 1) g3 _ _ _ _ hw4 (by omega) hn f3' (fun c' hc' => ?_) (fun i hi => ?_) (fun j hj hq => ?_) (fun i hi hq => ?_) ?_ ?_ ?_ q1 q2 q3 q4
      · by_cases hcc : c' = c
        · rw [hcc]; exact ⟨q, r2⟩
        · exact hok c' (by omega)
      · rw [f3 176 _ (by omega), zq_wr_n (by decide)]; exact p1 i hi
      · rw [f3 177 _ (by omega)]
        by_cases hjc : j = c
        · subst hjc
          rw [zq_wr_e]; unfold zp_onU; rw [if_pos hcC]
        · rw [zq_wr_i (by omega)]; exact p2 j hj (by omega)
      · by_cases hic : i / 8 = c ∧ i % 8 < K
        · have := v3 (i % 8) (by omega) hic.2
          rw [show 64 + (8 * c + i % 8) = 64 + i by omega] at this
          rw [this]
          unfold zp_onH
          rw [if_pos ⟨by omega, hic.2⟩, hic.1]
        · rw [o3 _ (by omega), zq_wr_n (by decide)]; exact p3 i hi (by omega)
      · rw [f3 174 1 (by omega), zq_wr_n (by decide)]; exact p4
      · rw [f3 175 1 (by omega), zq_wr_n (by decide)]; exact p5
      · rw [f3 179 1 (by omega), zq_wr_n (by decide)]; exact p6
  -- the layers
  have lays : ∀ (m q : Nat) (g : zm_H) (w1 w4 w6 w7 : zm_V), zm_cat w4 ≠ 2 → q + m = L * K → n = zp_imn K L C + 1 → zq_F (zf_Ve 1) h g → (∀ q', q' < q → tb (3 + q') ≤ 99) → (∀ i : Nat, i < 40 → (i / 8 < L ∧ i % 8 < K → (i / 8) * K + i % 8 < q) → g 176 ((40 + i : Nat) : Int) = zp_onP K L tb i) → (∀ j : Nat, j < 8 → C ≤ j → g 177 ((8 + j : Nat) : Int) = zp_onU K L C tb Qu j) → (∀ i : Nat, i < 64 → (C ≤ i / 8 ∨ K ≤ i % 8) → g 178 ((64 + i : Nat) : Int) = zp_onH K L C tb i) → g 174 1 = tb 0 → g 175 1 = zp_two tb 1 → g 179 1 = 0 → tb (zp_imn K L C) = zp_chk tb (zp_imn K L C) → tb 0 ≤ 99 → zp_two tb 1 ≤ 9999 →
      zi (zr none 2 273 170 [zm_A 146, w1, zm_I ((L * K : Nat) : Int), zm_I ((2 + 2 * K : Nat) : Int), w4, zm_I q, w6, w7] [] g) (fun z g => zq_F (zf_Ve 1) h g ∧ ((z = 1 ∧ zp_con K L C n tb ∧ zv_W g 1 (zp_onP K L tb) (zp_onU K L C tb Qu) (zp_onH K L C tb) ∧ g 174 1 = tb 0 ∧ g 175 1 = zp_two tb 1 ∧ g 179 1 = 0) ∨ (z = 0 ∧ ¬ zp_con K L C n tb))) := by
    intro m
    induction m with
    | zero =>
      intro q g w1 w4 w6 w7 hw4 hq hn fg hok p1 p2 p3 p4 p5 p6 q1 q2 q3
      obtain rfl : q = L * K := by omega
      refine zt_l (e_273_170 hw4) (zt_f (by omega) ?_)
      refine kids C 0 g _ _ _ _ hw4 (by omega) hn fg (fun c' hc' => by omega) (fun i hi => p1 i hi (fun r => ?_)) (fun j hj hq => p2 j hj (by omega)) (fun i hi hq => p3 i hi (by omega)) p4 p5 p6 q1 q2 q3 (fun l k hl hk => ?_)
      · have := n5 (i / 8) r.1; omega
      · have := n5 l hl
        have := hok (l * K + k) (by omega)
        rwa [← Nat.add_assoc] at this
    | succ m ih =>
      intro q g w1 w4 w6 w7 hw4 hq hn fg hok p1 p2 p3 p4 p5 p6 q1 q2 q3
      have hGg := kG g fg
      have hK0 : 0 < K := by
        rcases Nat.eq_zero_or_pos K with h0 | h0
        · rw [h0, Nat.mul_zero] at hq; omega
        · exact h0
      have hqL : q < L * K := by omega
      have hdL : q / K < L := (Nat.div_lt_iff_lt_mul hK0).mpr hqL
      have hmK : q % K < K := Nat.mod_lt _ hK0
      have hdm : K * (q / K) + q % K = q := Nat.div_add_mod q K
      have hdm2 : q / K * K = K * (q / K) := Nat.mul_comm _ _
      have bt := hb (3 + q)
      have ed : ((q : Nat) : Int).tdiv (K : Int) = ((q / K : Nat) : Int) := by rw [zq_tdiv (by omega)]; rw [Int.natCast_ediv]
      have em : ((q : Nat) : Int).tmod (K : Int) = ((q % K : Nat) : Int) := by rw [zq_tmod (by omega)]; rw [Int.natCast_emod]
      have ei : 40 + 8 * ((q / K : Nat) : Int) + ((q % K : Nat) : Int) = ((40 + (8 * (q / K) + q % K) : Nat) : Int) := by omega
      have e3 : 3 + (q : Int) = ((3 + q : Nat) : Int) := by omega
      have hlt : 3 + q < n := by rw [hn]; unfold zp_imn; omega
      refine zt_l (e_273_170 hw4) ?_
      rw [hGg.2.1, hGg.2.2.1, ed, em, ei, e3, kv g fg (3 + q) hlt]
      have e147 : ∀ v, zm_wr g 176 ((40 + (8 * (q / K) + q % K) : Nat) : Int) v 147 ((3 + q : Nat) : Int) = tb (3 + q) := fun v => by rw [zq_wr_n (by decide)]; exact kv g fg (3 + q) hlt
      rw [e147]
      have fg2 : zq_F (zf_Ve 1) h (zm_wr g 176 ((40 + (8 * (q / K) + q % K) : Nat) : Int) (tb (3 + q))) := zq_F_tr fg (zq_F_wr (by unfold zf_Ve; omega))
      refine zt_t (by omega) ?_
      iterate 12 refine zt_c (by omega) ?_
      refine zt_p (fun r => zt_c (by omega) ?_) (fun r => zt_c (Or.inl rfl) (zi_e ⟨fg2, Or.inr ⟨rfl, fun s => r ?_⟩⟩))
      · rw [show (q : Int) + 1 = ((q + 1 : Nat) : Int) by omega]
        refine ih (q + 1) _ _ _ _ _ hw4 (by omega) hn fg2 (fun q' hq' => ?_) (fun i hi hir => ?_) (fun j hj hjq => by rw [zq_wr_n (by decide)]; exact p2 j hj hjq) (fun i hi hiq => by rw [zq_wr_n (by decide)]; exact p3 i hi hiq) (by rw [zq_wr_n (by decide)]; exact p4) (by rw [zq_wr_n (by decide)]; exact p5) (by rw [zq_wr_n (by decide)]; exact p6) q1 q2 q3
        · by_cases hqq : q' = q
          · rw [hqq]; exact r
          · exact hok q' (by omega)
        · by_cases his : i = 8 * (q / K) + q % K
          · subst his
            rw [zq_wr_e]
            unfold zp_onP
            rw [if_pos (by omega), show (8 * (q / K) + q % K) / 8 = q / K by omega, show (8 * (q / K) + q % K) % 8 = q % K by omega, hdm2, Nat.add_assoc, hdm]
          · rw [zq_wr_i (by omega)]
            refine p1 i hi (fun s => ?_)
            have h1 := hir s
            rcases Nat.lt_or_ge ((i / 8) * K + i % 8) q with h2 | h2
            · exact h2
            · exfalso
              have h3 : (i / 8) * K + i % 8 = q := by omega
              have h4 : q / K = i / 8 := by rw [← h3, Nat.mul_comm, Nat.mul_add_div hK0, Nat.div_eq_of_lt s.2, Nat.add_zero]
              have h5 : q % K = i % 8 := by rw [← h3, Nat.mul_comm, Nat.mul_add_mod, Nat.mod_eq_of_lt s.2]
              omega
      · have := s.2.2.2.2.1 (q / K) (q % K) hdL hmK
        rwa [hdm2, Nat.add_assoc, hdm] at this
  -- the sum, and what follows it
  have sums : ∀ (m i : Nat), n = zp_imn K L C + 1 → i + m = zp_imn K L C → tb 0 ≤ 99 → zp_two tb 1 ≤ 9999 → zi (zr none 2 273 84 [zm_A 146, zm_I n, zm_I ((L * K : Nat) : Int), zm_I ((2 + 2 * K : Nat) : Int), zm_I (zp_chk tb i), zm_I i, zm_U, zm_U] [] h) (fun z g => zq_F (zf_Ve 1) h g ∧ ((z = 1 ∧ zp_con K L C n tb ∧ zv_W g 1 (zp_onP K L tb) (zp_onU K L C tb Qu) (zp_onH K L C tb) ∧ g 174 1 = tb 0 ∧ g 175 1 = zp_two tb 1 ∧ g 179 1 = 0) ∨ (z = 0 ∧ ¬ zp_con K L C n tb))) := by
    intro m
    induction m with
    | zero =>
      intro i hn hi q2 q3
      obtain rfl : i = zp_imn K L C := by omega
      have en : (n : Int) - 1 = ((zp_imn K L C : Nat) : Int) := by omega
      refine zt_l e_273_84 ?_
      rw [en, hv (zp_imn K L C) (by omega)]
      refine zt_c (by omega) (zt_f (by omega) (zt_c (by omega) (zt_c (by omega) ?_)))
      refine zt_p (fun q1 => ?_) (fun q1 => zt_c (Or.inl rfl) (zi_e ⟨zq_F_rf, Or.inr ⟨rfl, fun s => q1 s.2.1⟩⟩))
      refine zt_V (s_202 (w := 1) (v := 0) (by decide) hD.2.1 hN (by decide) rfl rfl) ?_
      rintro g1 ⟨f1, W1, E1, -, -⟩
      have e0 : g1 147 0 = tb 0 := kv g1 f1 0 (by omega)
      rw [e0]
      have f2 : zq_F (zf_Ve 1) h (zm_wr g1 174 1 (tb 0)) := zq_F_tr f1 (zq_F_wr (by unfold zf_Ve; omega))
      refine zt_c (by decide) (zt_c (by decide) (zt_I (s_274 (j := 1) (kv _ f2) hn16 hb (by omega)) ?_))
      rintro z g2 ⟨rfl, hg2⟩
      subst hg2
      have f3 : zq_F (zf_Ve 1) h (zm_wr (zm_wr (zm_wr g1 174 1 (tb 0)) 175 1 (zp_two tb 1)) 179 1 0) := zq_F_tr f2 (zq_F_tr (zq_F_wr (by unfold zf_Ve; omega)) (zq_F_wr (by unfold zf_Ve; omega)))
      have kk : ∀ a : Nat, 176 ≤ a → a ≤ 178 → zm_wr (zm_wr (zm_wr g1 174 1 (tb 0)) 175 1 (zp_two tb 1)) 179 1 0 a = g1 a := fun a h1 h2 => by funext j; rw [zq_wr_n (by omega), zq_wr_n (by omega), zq_wr_n (by omega)]
      refine zt_c (by decide) (zt_c (by decide) ?_)
      refine lays (L * K) 0 _ _ _ _ _ (zm_cat_I _) (by omega) hn f3 (fun q' hq' => by omega) (fun i hi hir => ?_) (fun j hj hjq => ?_) (fun i hi hiq => ?_) ?_ ?_ zq_wr_e q1 q2 q3
      · rw [kk 176 (by decide) (by decide), W1.2.1 i hi _ (by omega)]
        have hno : ¬ (i / 8 < L ∧ i % 8 < K) := fun r => by have := hir r; omega
        unfold zp_onP
        rw [if_neg hno]
        exact hX.1.2 i hi (by omega)
      · rw [kk 177 (by decide) (by decide), W1.2.2.1 j hj _ (by omega)]
        unfold zp_onU
        rw [if_neg (by omega)]
      · rw [kk 178 (by decide) (by decide), W1.2.2.2 i hi _ (by omega)]
        unfold zp_onH
        rw [if_neg (by omega)]
        exact hX.2.1.2 i hi hiq
      · rw [zq_wr_n (by decide), zq_wr_n (by decide), zq_wr_e]
      · rw [zq_wr_n (by decide), zq_wr_e]
    | succ m ih =>
      intro i hn hi q2 q3
      have b1 := zp_chk_b tb i
      have b2 := hb i
      have en : (n : Int) - 1 = ((zp_imn K L C : Nat) : Int) := by omega
      refine zt_l e_273_84 ?_
      rw [en, hv i (by omega), zq_tmod (by omega), zq_tdiv (by omega)]
      refine zt_c (by omega) (zt_t (by omega) (zt_c (by omega) (zt_c (by omega) (zt_c (by omega) (zt_c (by omega) (zt_c (by omega) ?_))))))
      rw [show (i : Int) + 1 = ((i + 1 : Nat) : Int) by omega]
      exact ih (i + 1) hn (by omega) q2 q3
  have e4 : 4 + ((L * K : Nat) : Int) + ((C * (2 + 2 * K) : Nat) : Int) = ((zp_imn K L C + 1 : Nat) : Int) := by unfold zp_imn; omega
  refine zt_l e_273 ?_
  rw [hD.1.2.1, hD.1.2.2.2.1, hD.1.2.2.1, hD.1.2.2.2.2.1, eM, e22, eC, e4]
  refine zt_c (by omega) (zt_c (by omega) (zt_c (by omega) (zt_c (by omega) (zt_c (by omega) (zt_c (by omega) (zt_c (by omega) (zt_c (by omega) (zt_c (by omega) (zt_c (by omega) ?_)))))))))
  refine zt_p (fun c1 => ?_) (fun c1 => zt_c (Or.inl rfl) (zi_e ⟨zq_F_rf, Or.inr ⟨rfl, fun r => c1 (by have := r.1; omega)⟩⟩))
  have hn : n = zp_imn K L C + 1 := by omega
  have e0 : h 147 0 = tb 0 := hv 0 (by omega)
  rw [e0]
  refine zt_c (by decide) (zt_p (fun c2 => zt_c (Or.inl rfl) (zi_e ⟨zq_F_rf, Or.inr ⟨rfl, fun r => by have := r.2.2.1; omega⟩⟩)) (fun c2 => ?_))
  refine zt_I (s_274 (j := 1) hv hn16 hb (by omega)) ?_
  rintro z g ⟨rfl, rfl⟩
  exact zt_p (fun c3 => sums (zp_imn K L C) 0 hn (by omega) (by omega) c3) (fun c3 => zt_c (Or.inl rfl) (zi_e ⟨zq_F_rf, Or.inr ⟨rfl, fun r => c3 r.2.2.2.1⟩⟩))
theorem s_272 {m : Int} {n : Nat} (k2 : zv_K2 h b K L C N cf ct pf pt U uf wo sz re fe ru cd lk P Qu Hd hr dp x sl sP sQ sH sh sd lc lkk lh lo) (hT : zv_Tb h n tb) (hb : ∀ i, 0 ≤ tb i ∧ tb i ≤ 255) (hB : zv_B K L C wo sz re fe ru lk) (hX : zv_X K L C P Qu Hd hr dp) (hn : h 173 5 = m) (hm : 0 ≤ m ∧ m ≤ 1000000) : zi (zc 272 [zm_A 146] h) (fun z g => (z = 1 ∧ zp_con K L C n tb ∧ zq_F zf_72 h g ∧ g 146 1 = 0 ∧ zv_K2 g b K L C N cf ct pf pt 0 uf wo sz re fe ru cd lk (zp_onP K L tb) (zp_onU K L C tb Qu) (zp_onH K L C tb) (tb 0) (zp_two tb 1) x (fun _ => 0) sP sQ sH sh sd lc lkk lh lo) ∨ (z = 0 ∧ ¬ zp_con K L C n tb ∧ ∃ g0, zq_F (zf_Ve 1) (zm_wr h 146 1 0) g0 ∧ g = zm_wr g0 173 5 (m + 1))) := by
  obtain ⟨hD, hJ, hx, hM⟩ := k2
  have hD0 : zv_D (zm_wr h 146 1 0) b K L C wo sz re fe ru lk P Qu Hd hr dp := by
    obtain ⟨d1, d2, d3, d4⟩ := hD
    exact ⟨d1.kp (zq_wr_i (by decide)) (fun a h1 h2 => by funext j; exact zq_wr_n (by omega)), d2.kp (fun a h1 h2 => by funext j; exact zq_wr_n (by omega)), by rw [zq_wr_n (by decide)]; exact d3, by rw [zq_wr_n (by decide)]; exact d4⟩
  have hN0 := hM.2.2.2.2.1.kp (g := zm_wr h 146 1 0) (fun a h1 h2 => by funext j; exact zq_wr_n (by omega))
  refine zt_l e_272 ?_
  rw [hT.1]
  refine zt_I (s_273 hD0 hB hX hN0 (fun i hi => by rw [zq_wr_n (by decide)]; exact hT.2.2 i hi) hT.2.1 hb) ?_
  rintro z g ⟨f1, q⟩
  rcases q with ⟨rfl, hc, W1, g0, g1, g9⟩ | ⟨rfl, hc⟩
  · refine zt_f (by decide) (zt_V (s_202 (w := 0) (v := 1) (m := 0) (kc := lc) (kk := lc) (kh := lc) (ko := lc) (by decide) W1 ⟨g9, by decide, fun i hi => absurd hi (Nat.not_lt_zero _)⟩ (by decide) rfl rfl) ?_)
    rintro g2 ⟨f2, W2, E2, a0, a1⟩
    have fall : zq_F zf_72 h (zm_wr g2 146 57 0) := by
      refine zq_F_tr (zq_F_wr ?_) (zq_F_tr (zq_F_wk f1 (fun a i q => ?_)) (zq_F_tr (zq_F_wk f2 (fun a i q => ?_)) (zq_F_wr ?_)))
      · exact Or.inl ⟨rfl, Or.inl rfl⟩
      · exact Or.inr (Or.inl q)
      · exact Or.inr (Or.inr q)
      · exact Or.inl ⟨rfl, Or.inr rfl⟩
    have k3 : ∀ a : Nat, a ≠ 146 → zm_wr g2 146 57 0 a = g2 a := fun a ha => by funext i; exact zq_wr_n ha
    refine zt_c (Or.inr rfl) (zi_e (Or.inl ⟨rfl, hc, fall, ?_, ⟨hD.1.kp (fall 146 13 (by unfold zf_72 zf_Ve; omega)) (fun a h1 h2 => by funext i; exact fall a i (by unfold zf_72 zf_Ve; omega)), W2.kp (fun a h1 h2 => k3 a (by omega)), ?_, ?_⟩, hJ.kp (fun a h1 h2 => by funext i; exact fall a i (by unfold zf_72 zf_Ve; omega)), ?_, zq_wr_e, ?_, by decide, hM.2.2.2.1, ?_, fun i v hi => absurd hi (Nat.not_lt_zero _)⟩))
    · rw [zq_wr_i (by decide), f2 146 1 (by unfold zf_Ve; omega), f1 146 1 (by unfold zf_Ve; omega), zq_wr_e]
    · rw [k3 174 (by decide)]; exact a0.trans g0
    · rw [k3 175 (by decide)]; exact a1.trans g1
    · rw [fall 146 58 (by unfold zf_72 zf_Ve; omega)]; exact hx
    · rw [fall 146 56 (by unfold zf_72 zf_Ve; omega)]; exact hM.2.1
    · refine ⟨?_, by decide, fun i hi => absurd hi (Nat.not_lt_zero _)⟩
      rw [k3 179 (by decide)]; exact E2.1
  · refine zt_t rfl (zi_m (zt_rf (w := 5) (by decide) (by rw [f1 173 _ (by unfold zf_Ve; omega), zq_wr_n (by decide)]; exact hn) hm) (fun z g' q => Or.inr ⟨q.1, hc, g, f1, q.2⟩))
end
