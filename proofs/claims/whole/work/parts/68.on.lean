/-! ON of the class: an image is read -/
def zp_two (tb : Nat → Int) (j : Nat) : Int := tb j * 256 + tb (j + 1)
def zp_at (K L : Nat) (c : Nat) : Nat := 3 + L * K + c * (2 + 2 * K)
def zp_con (K L C n : Nat) (tb : Nat → Int) : Prop := n = zp_imn K L C + 1 ∧ tb (zp_imn K L C) = zp_chk tb (zp_imn K L C) ∧ tb 0 ≤ 99 ∧ zp_two tb 1 ≤ 9999 ∧ (∀ l k, l < L → k < K → tb (3 + l * K + k) ≤ 99) ∧ ∀ c, c < C → zp_two tb (zp_at K L c) ≤ 999 ∧ ∀ k, k < K → zp_two tb (zp_at K L c + 2 + 2 * k) ≤ 9999
def zp_onP (K L : Nat) (tb : Nat → Int) : Nat → Int := fun i => if i / 8 < L ∧ i % 8 < K then tb (3 + (i / 8) * K + i % 8) else 0
def zp_onU (K L C : Nat) (tb Qu : Nat → Int) : Nat → Int := fun c => if c < C then zp_two tb (zp_at K L c) else Qu c
def zp_onH (K L C : Nat) (tb : Nat → Int) : Nat → Int := fun i => if i / 8 < C ∧ i % 8 < K then zp_two tb (zp_at K L (i / 8) + 2 + 2 * (i % 8)) else 0
def zf_on (a : Nat) (_ : Int) : Prop := 36 ≤ a ∧ a ≤ 39
section
variable {h : zm_H} {t b K L C N cf ct pf pt U nx uf d e n : Nat} {wo sz re fe ru cd tb F0 : Nat → Int} {lk : Nat → Nat → Int} {P Pu Qu Hd R : Nat → Int} {hr dp x pu : Int} {sl : Nat → Nat} {sP sU sQ sH : Nat → Nat → Int} {sh sd lc lkk lh lo : Nat → Int}
theorem zp_two_b (hb : ∀ i, 0 ≤ tb i ∧ tb i ≤ 255) (j : Nat) : 0 ≤ zp_two tb j ∧ zp_two tb j ≤ 65535 := by
  have := hb j
  have := hb (j + 1)
  unfold zp_two; omega
theorem s_109 {j : Nat} (hT : zv_Ta h n tb) (hb : ∀ i, 0 ≤ tb i ∧ tb i ≤ 255) (hj : j + 1 < n) : zi (zc 109 [zm_A 5, zm_I j] h) (fun z g => z = zp_two tb j ∧ g = h) := by
  obtain ⟨t1, t2, t3⟩ := hT
  have b1 := hb j
  have b2 := hb (j + 1)
  have e1 : (j : Int) + 1 = ((j + 1 : Nat) : Int) := by omega
  refine zt_l e_109 ?_
  rw [t1, e1, t3 j (by omega), t3 (j + 1) hj]
  exact zt_c (by omega) (zt_t (by omega) (zt_c (by omega) (zt_c (by omega) (zt_c (by omega) (zt_c (by omega) (zt_c (by omega) (zi_e ⟨rfl, rfl⟩)))))))
/-- begin: a Tub as the fete lays it -/
theorem s_143 {o : Nat} (ho : zf_T o) (ht : zf_F t) (h3 : h t 3 = C) (h4 : h t 4 = pu) (hF0 : ∀ i : Nat, i < 40 → h (t + 4) i = F0 i) : zu (zc 143 [zm_A o, zm_A t] h) (fun g => zq_F (zf_To o) h g ∧ zv_T g o F0 (fun c => if c < C then pu else 0) (fun _ => 0) ∧ g o 0 = 0 ∧ g o 1 = 0) := by
  have hto := zf_F_ne ht
  have htl : 7 ≤ t := by rcases ht with rfl | rfl <;> omega
  have hole := zf_T_le ho
  have kt : ∀ g, zq_F (zf_To o) h g → ∀ a : Nat, a < 29 → g a = h a := fun g hg a ha => by funext i; exact hg a i (by unfold zf_To; omega)
  have loop3 : ∀ (m i : Nat) (g : zm_H), i + m = 64 → zq_F (zf_To o) h g → (∀ j : Nat, j < 40 → g (o + 1) j = F0 j) → (∀ j : Nat, j < 8 → g (o + 2) j = (if j < C then pu else 0)) → (∀ j : Nat, j < i → g (o + 3) j = 0) → g o 0 = 0 → g o 1 = 0 → zu (zr none 1 143 80 [zm_A o, zm_A t, zm_I i] [] g) (fun g => zq_F (zf_To o) h g ∧ zv_T g o F0 (fun c => if c < C then pu else 0) (fun _ => 0) ∧ g o 0 = 0 ∧ g o 1 = 0) := by
    intro m
    induction m with
    | zero =>
      intro i g hi hg a1 a2 a3 a4 a5
      exact zt_l (e_143_80 ho (w1 := zm_A t) (fun e => absurd (show (1 : Nat) = 2 from e) (by decide))) (zt_f (by omega) (zu_e ⟨hg, ⟨ho, a1, a2, fun j hj => a3 j (by omega)⟩, a4, a5⟩))
    | succ m ih =>
      intro i g hi hg a1 a2 a3 a4 a5
      refine zt_l (e_143_80 ho (w1 := zm_A t) (fun e => absurd (show (1 : Nat) = 2 from e) (by decide))) (zt_t (by omega) (zt_c (by omega) (zt_c (by omega) ?_)))
      refine ih (i + 1) _ (by omega) (zq_F_tr hg (zq_F_wr (by unfold zf_To; omega))) (fun j hj => by rw [zq_wr_n (by omega)]; exact a1 j hj) (fun j hj => by rw [zq_wr_n (by omega)]; exact a2 j hj) (fun j hj => ?_) (by rw [zq_wr_n (by omega)]; exact a4) (by rw [zq_wr_n (by omega)]; exact a5)
      by_cases hji : j = i
      · subst hji; exact zq_wr_e
      · rw [zq_wr_i (by omega)]; exact a3 j (by omega)
  have loop2 : ∀ (m i : Nat) (g : zm_H), i + m = 8 → zq_F (zf_To o) h g → (∀ j : Nat, j < 40 → g (o + 1) j = F0 j) → (∀ j : Nat, j < i → g (o + 2) j = (if j < C then pu else 0)) → g o 0 = 0 → g o 1 = 0 → zu (zr none 1 143 41 [zm_A o, zm_A t, zm_I i] [] g) (fun g => zq_F (zf_To o) h g ∧ zv_T g o F0 (fun c => if c < C then pu else 0) (fun _ => 0) ∧ g o 0 = 0 ∧ g o 1 = 0) := by
    intro m
    induction m with
    | zero =>
      intro i g hi hg a1 a2 a4 a5
      exact zt_l (e_143_41 ho ht) (zt_f (by omega) (loop3 64 0 g (by omega) hg a1 (fun j hj => a2 j (by omega)) (fun j hj => by omega) a4 a5))
    | succ m ih =>
      intro i g hi hg a1 a2 a4 a5
      have gt := kt g hg t (by omega)
      refine zt_l (e_143_41 ho ht) (zt_t (by omega) ?_)
      rw [gt, h3, h4]
      have step : ∀ v, v = (if i < C then pu else 0) → zu (zr none 1 143 41 [zm_A o, zm_A t, zm_I ((i : Int) + 1)] [] (zm_wr g (o + 2) i v)) (fun g => zq_F (zf_To o) h g ∧ zv_T g o F0 (fun c => if c < C then pu else 0) (fun _ => 0) ∧ g o 0 = 0 ∧ g o 1 = 0) := fun v hv => by
        rw [show (i : Int) + 1 = ((i + 1 : Nat) : Int) by omega]
        refine ih (i + 1) _ (by omega) (zq_F_tr hg (zq_F_wr (by unfold zf_To; omega))) (fun j hj => by rw [zq_wr_n (by omega)]; exact a1 j hj) (fun j hj => ?_) (by rw [zq_wr_n (by omega)]; exact a4) (by rw [zq_wr_n (by omega)]; exact a5)
        by_cases hji : j = i
        · subst hji; rw [zq_wr_e]; exact hv
        · rw [zq_wr_i (by omega)]; exact a2 j (by omega)
      exact zt_p (fun q => zt_c (by omega) (zt_c (by omega) (step _ (by rw [if_pos (by omega)])))) (fun q => zt_c (by omega) (zt_c (by omega) (step _ (by rw [if_neg (by omega)]))))
  have loop1 : ∀ (m i : Nat) (g : zm_H), i + m = 40 → zq_F (zf_To o) h g → (∀ j : Nat, j < i → g (o + 1) j = F0 j) → g o 0 = 0 → g o 1 = 0 → zu (zr none 1 143 12 [zm_A o, zm_A t, zm_I i] [] g) (fun g => zq_F (zf_To o) h g ∧ zv_T g o F0 (fun c => if c < C then pu else 0) (fun _ => 0) ∧ g o 0 = 0 ∧ g o 1 = 0) := by
    intro m
    induction m with
    | zero =>
      intro i g hi hg a1 a4 a5
      exact zt_l (e_143_12 ho ht) (zt_f (by omega) (loop2 8 0 g (by omega) hg (fun j hj => a1 j (by omega)) (fun j hj => by omega) a4 a5))
    | succ m ih =>
      intro i g hi hg a1 a4 a5
      have gt := kt g hg (t + 4) (by omega)
      refine zt_l (e_143_12 ho ht) (zt_t (by omega) (zt_c (by omega) (zt_c (by omega) (zt_c (by omega) ?_))))
      rw [gt, hF0 i (by omega)]
      refine ih (i + 1) _ (by omega) (zq_F_tr hg (zq_F_wr (by unfold zf_To; omega))) (fun j hj => ?_) (by rw [zq_wr_n (by omega)]; exact a4) (by rw [zq_wr_n (by omega)]; exact a5)
      by_cases hji : j = i
      · subst hji; exact zq_wr_e
      · rw [zq_wr_i (by omega)]; exact a1 j (by omega)
  refine zt_l (e_143 ho ht) (loop1 40 0 _ (by omega) (zq_F_tr (zq_F_wr (by unfold zf_To; omega)) (zq_F_wr (by unfold zf_To; omega))) (fun j hj => by omega) ?_ zq_wr_e)
  rw [zq_wr_i (by decide), zq_wr_e]
theorem zp_at_b {K L C : Nat} (hK : K ≤ 8) (hL : L ≤ 5) (hC : C ≤ 8) : ∀ c, c < C → zp_at K L c + 2 + 2 * K ≤ zp_imn K L C ∧ 3 + L * K ≤ zp_at K L c := fun c hc => by
  obtain ⟨n1, n2, n3, n4, n5, n6⟩ := zp_imn_b hK hL hC
  have := n6 c hc
  unfold zp_at zp_imn; omega
theorem s_110 (hT : zv_Ta h n tb) (hb : ∀ i, 0 ≤ tb i ∧ tb i ≤ 255) (hF : zv_F h t K L C wo sz re fe ru lk) (hB : zv_B K L C wo sz re fe ru lk) (hn : zp_imn K L C < n) (hz : ∀ i : Nat, i < 40 → (L ≤ i / 8 ∨ K ≤ i % 8) → h 37 i = 0) : zi (zc 110 [zm_A 5, zm_A t, zm_A 36] h) (fun z g => zq_F (fun a _ => a = 37) h g ∧ ((z = 1 ∧ (∀ l k, l < L → k < K → tb (3 + l * K + k) ≤ 99) ∧ ∀ i : Nat, i < 40 → g 37 i = zp_onP K L tb i) ∨ (z = 0 ∧ ¬ ∀ l k, l < L → k < K → tb (3 + l * K + k) ≤ 99))) := by
  have hK8 := hB.1
  have hL5 := hB.2.1
  have hC8 := hB.2.2.1
  have ht := hF.1
  have htb := zf_F_ne ht
  obtain ⟨n1, n2, n3, n4, n5, n6⟩ := zp_imn_b hK8 hL5 hC8
  have outer : ∀ (m l : Nat) (g : zm_H) (w5 w6 : zm_V), l + m = L → zq_F (fun a _ => a = 37) h g → (∀ l' k, l' < l → k < K → tb (3 + l' * K + k) ≤ 99) → (∀ i : Nat, i < 40 → (i / 8 < l ∨ L ≤ i / 8 ∨ K ≤ i % 8) → g 37 i = zp_onP K L tb i) → zi (zr none 1 110 5 [zm_A 5, zm_A t, zm_A 36, zm_I ((3 + l * K : Nat) : Int), zm_I l, w5, w6] [] g) (fun z g => zq_F (fun a _ => a = 37) h g ∧ ((z = 1 ∧ (∀ l k, l < L → k < K → tb (3 + l * K + k) ≤ 99) ∧ ∀ i : Nat, i < 40 → g 37 i = zp_onP K L tb i) ∨ (z = 0 ∧ ¬ ∀ l k, l < L → k < K → tb (3 + l * K + k) ≤ 99))) := by
    intro m
    induction m with
    | zero =>
      intro l g w5 w6 hl fg hok hv
      obtain rfl : l = L := by omega
      have eL : g t 2 = l := by rw [fg t 2 (by omega)]; exact hF.2.2.1
      refine zt_l (e_110_5 zf_T_36 ht) (zt_f (by rw [eL]; omega) (zt_c (Or.inr rfl) (zi_e ⟨fg, Or.inl ⟨rfl, hok, fun i hi => hv i hi (by omega)⟩⟩)))
    | succ m ih =>
      intro l g w5 w6 hl fg hok hv
      have eL : g t 2 = L := by rw [fg t 2 (by omega)]; exact hF.2.2.1
      refine zt_l (e_110_5 zf_T_36 ht) (zt_t (by rw [eL]; omega) ?_)
      have inner : ∀ (m2 k : Nat) (g : zm_H) (w6 : zm_V), k + m2 = K → zq_F (fun a _ => a = 37) h g → (∀ l' k', (l' < l ∨ (l' = l ∧ k' < k)) → k' < K → tb (3 + l' * K + k') ≤ 99) → (∀ i : Nat, i < 40 → (i / 8 < l ∨ (i / 8 = l ∧ i % 8 < k) ∨ L ≤ i / 8 ∨ K ≤ i % 8) → g 37 i = zp_onP K L tb i) → zi (zr none 1 110 17 [zm_A 5, zm_A t, zm_A 36, zm_I ((3 + l * K + k : Nat) : Int), zm_I l, zm_I k, w6] [] g) (fun z g => zq_F (fun a _ => a = 37) h g ∧ ((z = 1 ∧ (∀ l k, l < L → k < K → tb (3 + l * K + k) ≤ 99) ∧ ∀ i : Nat, i < 40 → g 37 i = zp_onP K L tb i) ∨ (z = 0 ∧ ¬ ∀ l k, l < L → k < K → tb (3 + l * K + k) ≤ 99))) := by
        intro m2
        induction m2 with
        | zero =>
          intro k g w6 hk fg hok hv
          obtain rfl : k = K := by omega
          have eK : g t 1 = k := by rw [fg t 1 (by omega)]; exact hF.2.1
          refine zt_l (e_110_17 zf_T_36 ht) (zt_f (by rw [eK]; omega) (zt_c (by omega) ?_))
          have e1 : 3 + l * k + k = 3 + (l + 1) * k := by rw [Nat.succ_mul]; omega
          rw [show (l : Int) + 1 = ((l + 1 : Nat) : Int) by omega, e1]
          refine ih (l + 1) g _ _ (by omega) fg (fun l' k' h1 h2 => hok l' k' (by omega) h2) (fun i hi hq => hv i hi (by omega))
        | succ m2 ih2 =>
          intro k g w6 hk fg hok hv
          have b5 := n5 l (by omega)
          have eK : g t 1 = K := by rw [fg t 1 (by omega)]; exact hF.2.1
          have ebt := hb (3 + l * K + k)
          have hlt : 3 + l * K + k < zp_imn K L C := by unfold zp_imn; omega
          have hn16 := hT.2.1
          have e6 : g 6 ((3 + l * K + k : Nat) : Int) = tb (3 + l * K + k) := by rw [fg 6 _ (by omega)]; exact hT.2.2 _ (by omega)
          have ei : (l : Int) * 8 + k = ((8 * l + k : Nat) : Int) := by omega
          refine zt_l (e_110_17 zf_T_36 ht) (zt_t (by rw [eK]; omega) ?_)
          rw [e6, ei]
          refine zt_c (by omega) (zt_c (by omega) (zt_p (fun q => ?_) (fun q => zt_c (Or.inl rfl) (zi_e ⟨fg, Or.inr ⟨rfl, fun r => q (r l k (by omega) (by omega))⟩⟩))))
          refine zt_c (by omega) (zt_c (by omega) (zt_c (by omega) (zt_c (by omega) ?_)))
          rw [show (k : Int) + 1 = ((k + 1 : Nat) : Int) by omega, show ((3 + l * K + k : Nat) : Int) + 1 = ((3 + l * K + (k + 1) : Nat) : Int) by omega]
          refine ih2 (k + 1) _ _ (by omega) (zq_F_tr fg (zq_F_wr rfl)) (fun l' k' h1 h2 => ?_) (fun i hi hq => ?_)
          · by_cases hlk : l' = l ∧ k' = k
            · rw [hlk.1, hlk.2]; exact q
            · exact hok l' k' (by omega) h2
          · by_cases his : i = 8 * l + k
            · subst his
              show zm_wr g 37 _ _ 37 _ = _
              rw [zq_wr_e]
              unfold zp_onP
              rw [if_pos (by omega), show (8 * l + k) / 8 = l by omega, show (8 * l + k) % 8 = k by omega]
            · show zm_wr g 37 _ _ 37 _ = _
              rw [zq_wr_i (by omega)]; exact hv i hi (by omega)
      exact inner K 0 g _ (by omega) fg (fun l' k' h1 h2 => hok l' k' (by omega) h2) (fun i hi hq => hv i hi (by omega))
  have := outer L 0 h zm_U zm_U (by omega) zq_F_rf (fun l' k h1 => by omega) (fun i hi hq => by
    unfold zp_onP
    rw [if_neg (by omega)]
    exact hz i hi (by omega))
  rw [Nat.zero_mul] at this
  exact zt_l (e_110 zf_T_36 ht) this
theorem s_111 (hT : zv_Ta h n tb) (hb : ∀ i, 0 ≤ tb i ∧ tb i ≤ 255) (hF : zv_F h t K L C wo sz re fe ru lk) (hB : zv_B K L C wo sz re fe ru lk) (hn : zp_imn K L C < n) (hz : ∀ c : Nat, C ≤ c → c < 8 → h 38 c = Qu c) (hz2 : ∀ i : Nat, i < 64 → (C ≤ i / 8 ∨ K ≤ i % 8) → h 39 i = 0) : zi (zc 111 [zm_A 5, zm_A t, zm_A 36] h) (fun z g => zq_F (fun a _ => a = 38 ∨ a = 39) h g ∧ ((z = 1 ∧ (∀ c, c < C → zp_two tb (zp_at K L c) ≤ 999 ∧ ∀ k, k < K → zp_two tb (zp_at K L c + 2 + 2 * k) ≤ 9999) ∧ (∀ c : Nat, c < 8 → g 38 c = zp_onU K L C tb Qu c) ∧ ∀ i : Nat, i < 64 → g 39 i = zp_onH K L C tb i) ∨ (z = 0 ∧ ¬ ∀ c, c < C → zp_two tb (zp_at K L c) ≤ 999 ∧ ∀ k, k < K → zp_two tb (zp_at K L c + 2 + 2 * k) ≤ 9999))) := by
  have hK8 := hB.1
  have hL5 := hB.2.1
  have hC8 := hB.2.2.1
  have ht := hF.1
  have htb := zf_F_ne ht
  have hn16 := hT.2.1
  have hat := zp_at_b hK8 hL5 hC8
  obtain ⟨n1, n2, n3, n4, n5, n6⟩ := zp_imn_b hK8 hL5 hC8
  have kT : ∀ g, zq_F (fun a _ => a = 38 ∨ a = 39) h g → zv_Ta g n tb := fun g fg => ⟨by rw [fg 5 1 (by omega)]; exact hT.1, hT.2.1, fun i hi => by rw [fg 6 i (by omega)]; exact hT.2.2 i hi⟩
  have outer : ∀ (m c : Nat) (g : zm_H) (w5 w6 : zm_V), c + m = C → zq_F (fun a _ => a = 38 ∨ a = 39) h g → (∀ c', c' < c → zp_two tb (zp_at K L c') ≤ 999 ∧ ∀ k, k < K → zp_two tb (zp_at K L c' + 2 + 2 * k) ≤ 9999) → (∀ j : Nat, j < 8 → (j < c ∨ C ≤ j) → g 38 j = zp_onU K L C tb Qu j) → (∀ i : Nat, i < 64 → (i / 8 < c ∨ C ≤ i / 8 ∨ K ≤ i % 8) → g 39 i = zp_onH K L C tb i) → zi (zr none 2 111 15 [zm_A 5, zm_A t, zm_A 36, zm_I ((zp_at K L c : Nat) : Int), zm_I c, w5, w6] [] g) (fun z g => zq_F (fun a _ => a = 38 ∨ a = 39) h g ∧ ((z = 1 ∧ (∀ c, c < C → zp_two tb (zp_at K L c) ≤ 999 ∧ ∀ k, k < K → zp_two tb (zp_at K L c + 2 + 2 * k) ≤ 9999) ∧ (∀ c : Nat, c < 8 → g 38 c = zp_onU K L C tb Qu c) ∧ ∀ i : Nat, i < 64 → g 39 i = zp_onH K L C tb i) ∨ (z = 0 ∧ ¬ ∀ c, c < C → zp_two tb (zp_at K L c) ≤ 999 ∧ ∀ k, k < K → zp_two tb (zp_at K L c + 2 + 2 * k) ≤ 9999))) := by
    intro m
    induction m with
    | zero =>
      intro c g w5 w6 hc fg hok hv hv2
      obtain rfl : c = C := by omega
      have eC : g t 3 = c := by rw [fg t 3 (by omega)]; exact hF.2.2.2.1
      exact zt_l (e_111_15 zf_T_36 ht) (zt_f (by rw [eC]; omega) (zt_c (Or.inr rfl) (zi_e ⟨fg, Or.inl ⟨rfl, hok, fun j hj => hv j hj (by omega), fun i hi => hv2 i hi (by omega)⟩⟩)))
    | succ m ih =>
      intro c g w5 w6 hc fg hok hv hv2
      have hcC : c < C := by omega
      obtain ⟨a1, a2⟩ := hat c hcC
      have eC : g t 3 = C := by rw [fg t 3 (by omega)]; exact hF.2.2.2.1
      have b2 := zp_two_b hb (zp_at K L c)
      refine zt_l (e_111_15 zf_T_36 ht) (zt_t (by rw [eC]; omega) (zt_I (s_109 (kT g fg) hb (by omega)) ?_))
      rintro z g' ⟨rfl, rfl⟩
      have ew : ∀ v, zm_wr g' (36 + 2) (c : Int) v (36 + 2) (c : Int) = v := fun v => zq_wr_e
      rw [ew]
      have fg1 : zq_F (fun a _ => a = 38 ∨ a = 39) h (zm_wr g' (36 + 2) (c : Int) (zp_two tb (zp_at K L c))) := zq_F_tr fg (zq_F_wr (Or.inl rfl))
      refine zt_c (by omega) (zt_c (by omega) (zt_p (fun q => zt_c (by unfold zp_at at *; omega) ?_) (fun q => zt_c (Or.inl rfl) (zi_e ⟨fg1, Or.inr ⟨rfl, fun r => q (r c hcC).1⟩⟩))))
      have inner : ∀ (m2 k : Nat) (g : zm_H) (w6 : zm_V), k + m2 = K → zq_F (fun a _ => a = 38 ∨ a = 39) h g → (∀ k', k' < k → zp_two tb (zp_at K L c + 2 + 2 * k') ≤ 9999) → (∀ j : Nat, j < 8 → (j < c + 1 ∨ C ≤ j) → g 38 j = zp_onU K L C tb Qu j) → (∀ i : Nat, i < 64 → (i / 8 < c ∨ (i / 8 = c ∧ i % 8 < k) ∨ C ≤ i / 8 ∨ K ≤ i % 8) → g 39 i = zp_onH K L C tb i) → zi (zr none 2 111 57 [zm_A 5, zm_A t, zm_A 36, zm_I ((zp_at K L c + 2 + 2 * k : Nat) : Int), zm_I c, zm_I k, w6] [] g) (fun z g => zq_F (fun a _ => a = 38 ∨ a = 39) h g ∧ ((z = 1 ∧ (∀ c, c < C → zp_two tb (zp_at K L c) ≤ 999 ∧ ∀ k, k < K → zp_two tb (zp_at K L c + 2 + 2 * k) ≤ 9999) ∧ (∀ c : Nat, c < 8 → g 38 c = zp_onU K L C tb Qu c) ∧ ∀ i : Nat, i < 64 → g 39 i = zp_onH K L C tb i) ∨ (z = 0 ∧ ¬ ∀ c, c < C → zp_two tb (zp_at K L c) ≤ 999 ∧ ∀ k, k < K → zp_two tb (zp_at K L c + 2 + 2 * k) ≤ 9999))) := by
        intro m2
        induction m2 with
        | zero =>
          intro k g w6 hk fg hok2 hv hv2
          obtain rfl : k = K := by omega
          have eK : g t 1 = k := by rw [fg t 1 (by omega)]; exact hF.2.1
          refine zt_l (e_111_57 zf_T_36 ht) (zt_f (by rw [eK]; omega) (zt_c (by omega) ?_))
          have e1 : zp_at k L c + 2 + 2 * k = zp_at k L (c + 1) := by
            have e := Nat.add_mul c 1 (2 + 2 * k)
            unfold zp_at; omega
          rw [show (c : Int) + 1 = ((c + 1 : Nat) : Int) by omega, e1]
          refine ih (c + 1) g _ _ (by omega) fg (fun c' hc' => ?_) hv (fun i hi hq => hv2 i hi (by omega))
          by_cases hcc : c' = c
          · rw [hcc]; exact ⟨q, hok2⟩
          · exact hok c' (by omega)
        | succ m2 ih2 =>
          intro k g w6 hk fg hok2 hv hv2
          have eK : g t 1 = K := by rw [fg t 1 (by omega)]; exact hF.2.1
          have b3 := zp_two_b hb (zp_at K L c + 2 + 2 * k)
          refine zt_l (e_111_57 zf_T_36 ht) (zt_t (by rw [eK]; omega) (zt_I (s_109 (kT g fg) hb (by omega)) ?_))
          rintro z g' ⟨rfl, rfl⟩
          have ei : (c : Int) * 8 + k = ((8 * c + k : Nat) : Int) := by omega
          rw [ei]
          refine zt_p (fun q2 => ?_) (fun q2 => zt_c (Or.inl rfl) (zi_e ⟨fg, Or.inr ⟨rfl, fun r => q2 ((r c hcC).2 k (by omega))⟩⟩))
          refine zt_c (by omega) (zt_c (by omega) (zt_c (by omega) (zt_c (by unfold zp_at at *; omega) (zt_c (by omega) ?_))))
          rw [show (k : Int) + 1 = ((k + 1 : Nat) : Int) by omega, show ((zp_at K L c + 2 + 2 * k : Nat) : Int) + 2 = ((zp_at K L c + 2 + 2 * (k + 1) : Nat) : Int) by omega]
          refine ih2 (k + 1) _ _ (by omega) (zq_F_tr fg (zq_F_wr (Or.inr rfl))) (fun k' hk' => ?_) (fun j hj hq => by rw [zq_wr_n (by decide)]; exact hv j hj hq) (fun i hi hq => ?_)
          · by_cases hkk : k' = k
            · rw [hkk]; exact q2
            · exact hok2 k' (by omega)
          · by_cases his : i = 8 * c + k
            · subst his
              show zm_wr g' 39 _ _ 39 _ = _
              rw [zq_wr_e]
              unfold zp_onH
              rw [if_pos (by omega), show (8 * c + k) / 8 = c by omega, show (8 * c + k) % 8 = k by omega]
            · show zm_wr g' 39 _ _ 39 _ = _
              rw [zq_wr_i (by omega)]; exact hv2 i hi (by omega)
      rw [show ((zp_at K L c : Nat) : Int) + 2 = ((zp_at K L c + 2 + 2 * 0 : Nat) : Int) by omega]
      refine inner K 0 _ _ (by omega) fg1 (fun k' hk' => by omega) (fun j hj hq => ?_) (fun i hi hq => by rw [zq_wr_n (by decide)]; exact hv2 i hi (by omega))
      by_cases hjc : j = c
      · subst hjc
        show zm_wr g' 38 _ _ 38 _ = _
        rw [zq_wr_e]
        unfold zp_onU
        rw [if_pos hcC]
      · show zm_wr g' 38 _ _ 38 _ = _
        rw [zq_wr_i (by omega)]; exact hv j hj (by omega)
  have eL : h t 2 = L := hF.2.2.1
  have eK : h t 1 = K := hF.2.1
  have em : (L : Int) * (K : Int) = ((L * K : Nat) : Int) := by rw [Int.natCast_mul]
  refine zt_l (e_111 zf_T_36 ht) ?_
  rw [eL, eK, em]
  refine zt_c (by omega) (zt_c (by omega) ?_)
  have := outer C 0 h zm_U zm_U (by omega) zq_F_rf (fun c' hc' => by omega) (fun j hj hq => by
    unfold zp_onU
    rw [if_neg (by omega)]
    exact hz j (by omega) hj) (fun i hi hq => by
    unfold zp_onH
    rw [if_neg (by omega)]
    exact hz2 i hi (by omega))
  rw [show ((zp_at K L 0 : Nat) : Int) = 3 + ((L * K : Nat) : Int) by unfold zp_at; rw [Nat.zero_mul]; omega] at this
  exact this
end
