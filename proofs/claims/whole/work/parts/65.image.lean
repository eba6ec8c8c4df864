/-! IMAGE of both sides: the walks -/
section
variable {h : zm_H} {t b K L C : Nat} {wo sz re fe ru : Nat → Int} {lk : Nat → Nat → Int} {P Pu Qu Hd : Nat → Int} {hr dp : Int}
theorem zp_imc_q {K : Nat} {Pu Qu Hd : Nat → Int} {im : Nat → Int} {n : Nat} : ∀ c, (∀ i, i < c → Qu i = Pu i) → zp_imc K Qu Hd c im n = zp_imc K Pu Hd c im n := by
  intro c
  induction c with
  | zero => intro _; rfl
  | succ c ih => intro hq; simp only [zp_imc]; rw [ih (fun i hi => hq i (by omega)), hq c (by omega)]
theorem zv_C.o {g : zm_H} (hC : zv_C h t K L C wo sz re fe ru lk P Pu Hd hr dp) (hg : zq_F zf_O h g) : zv_C g t K L C wo sz re fe ru lk P Pu Hd hr dp := by
  have kp : ∀ a : Nat, a < 128 → g a = h a := fun a ha => by funext i; exact hg a i (by unfold zf_O; omega)
  obtain ⟨h1, h2, h3, h4, h5⟩ := hC
  exact ⟨by rw [kp 4 (by omega)]; exact h1, h2.kp (fun a ha => kp a (by omega)), h3.kp (fun a ha => kp a ha), by rw [kp 32 (by omega)]; exact h4, by rw [kp 32 (by omega)]; exact h5⟩
theorem zv_D.q {g : zm_H} (hD : zv_D h b K L C wo sz re fe ru lk P Qu Hd hr dp) (hg : zq_F zf_Q h g) : zv_D g b K L C wo sz re fe ru lk P Qu Hd hr dp := by
  have kp : ∀ a : Nat, 147 ≤ a → a < 184 → g a = h a := fun a h1 h2 => by funext i; exact hg a i (by unfold zf_Q; omega)
  obtain ⟨h1, h2, h3, h4⟩ := hD
  exact ⟨h1.kp (hg 146 13 (by unfold zf_Q; omega)) (fun a ha hb => kp a ha (by omega)), h2.kp (fun a ha hb => kp a (by omega) (by omega)), by rw [kp 174 (by omega) (by omega)]; exact h3, by rw [kp 175 (by omega) (by omega)]; exact h4⟩
theorem zp_img_b (im : Nat → Int) (n : Nat) (v : Int) (hb : ∀ i, 0 ≤ im i ∧ im i ≤ 255) : ∀ i, 0 ≤ zp_ad1 im n v i ∧ zp_ad1 im n v i ≤ 255 := fun i => by
  unfold zp_ad1 zp_set
  split
  · omega
  · exact hb i
theorem zp_ad2_b (im : Nat → Int) (n : Nat) (v : Int) (hb : ∀ i, 0 ≤ im i ∧ im i ≤ 255) : ∀ i, 0 ≤ zp_ad2 im n v i ∧ zp_ad2 im n v i ≤ 255 := zp_img_b _ _ _ (zp_img_b _ _ _ hb)
theorem zp_adn_b (f : Nat → Int) (im : Nat → Int) (n : Nat) (hb : ∀ i, 0 ≤ im i ∧ im i ≤ 255) : ∀ k i, 0 ≤ zp_adn f k im n i ∧ zp_adn f k im n i ≤ 255 := by
  intro k
  induction k with
  | zero => exact hb
  | succ k ih => exact zp_img_b _ _ _ ih
theorem zp_ad2n_b (f : Nat → Int) (im : Nat → Int) (n : Nat) (hb : ∀ i, 0 ≤ im i ∧ im i ≤ 255) : ∀ k i, 0 ≤ zp_ad2n f k im n i ∧ zp_ad2n f k im n i ≤ 255 := by
  intro k
  induction k with
  | zero => exact hb
  | succ k ih => exact zp_ad2_b _ _ _ ih
theorem zp_im0_b (K L C : Nat) (P Pu Hd : Nat → Int) (hr dp : Int) : ∀ i, 0 ≤ zp_im0 K L C P Pu Hd hr dp i ∧ zp_im0 K L C P Pu Hd hr dp i ≤ 255 := by
  have h0 := zp_ad2_b _ 1 dp (zp_img_b (fun _ => 0) 0 hr (fun i => ⟨Int.le_refl _, (by decide : (0 : Int) ≤ 255)⟩))
  have h1 : ∀ l i, 0 ≤ zp_iml K P l (zp_ad2 (zp_ad1 (fun _ => 0) 0 hr) 1 dp) 3 i ∧ zp_iml K P l (zp_ad2 (zp_ad1 (fun _ => 0) 0 hr) 1 dp) 3 i ≤ 255 := by
    intro l
    induction l with
    | zero => exact h0
    | succ l ih => exact zp_adn_b _ _ _ ih K
  have h2 : ∀ c i, 0 ≤ zp_imc K Pu Hd c (zp_iml K P L (zp_ad2 (zp_ad1 (fun _ => 0) 0 hr) 1 dp) 3) (3 + L * K) i ∧ zp_imc K Pu Hd c (zp_iml K P L (zp_ad2 (zp_ad1 (fun _ => 0) 0 hr) 1 dp) 3) (3 + L * K) i ≤ 255 := by
    intro c
    induction c with
    | zero => exact h1 L
    | succ c ih => exact zp_ad2n_b _ _ _ (zp_ad2_b _ _ _ ih) K
  exact h2 C
theorem s_107 {n na a : Nat} {im : Nat → Int} (ha : zm_lay a = .inr (0, na) ∧ 3 < a ∧ a < zm_NX) (hn : n ≤ na) (hna : na ≤ 2000) (hv : ∀ i : Nat, i < n → h a i = im i) (hb : ∀ i, i < n → 0 ≤ im i ∧ im i ≤ 255) {x : Int} (hx : x = n) : zi (zc 107 [zm_A a, zm_I x] h) (fun z g => z = zp_chk im n ∧ g = h) := by
  subst hx
  have key : ∀ (m i : Nat), i + m = n → zi (zr none 1 107 5 [zm_A a, zm_I n, zm_I (zp_chk im i), zm_I i] [] h) (fun z g => z = zp_chk im n ∧ g = h) := by
    intro m
    induction m with
    | zero =>
      intro i hi
      refine zt_l (e_107_5 ha) (zt_f (by omega) (zi_e ⟨by rw [show i = n by omega], rfl⟩))
    | succ m ih =>
      intro i hi
      have b1 := zp_chk_b im i
      have b2 := hb i (by omega)
      refine zt_l (e_107_5 ha) ?_
      rw [hv i (by omega)]
      rw [zq_tmod (by omega), zq_tdiv (by omega)]
      exact zt_t (by omega) (zt_t (by omega) (zt_c (by omega) (zt_c (by omega) (zt_c (by omega) (zt_c (by omega) (zt_c (by omega) (ih (i + 1) (by omega))))))))
  exact zt_l (e_107 ha) (key n 0 (by omega))
theorem s_51 (hC : zv_C h t K L C wo sz re fe ru lk P Pu Hd hr dp) (hB : zv_B K L C wo sz re fe ru lk) (hX : zv_X K L C P Pu Hd hr dp) : zi (zc 51 [zm_A 4] h) (fun z g => z = ((zp_imn K L C + 1 : Nat) : Int) ∧ zq_F zf_O h g ∧ zv_O g (zp_imn K L C + 1) (zp_img K L C P Pu Hd hr dp)) := by
  have hK8 := hB.1
  have hL5 := hB.2.1
  have hC8 := hB.2.2.1
  have ht := hC.2.1.1
  obtain ⟨n1, n2, n3, n4, n5, n6⟩ := zp_imn_b hK8 hL5 hC8
  generalize hI1 : zp_ad2 (zp_ad1 (fun _ => 0) 0 hr) 1 dp = I1
  -- the end
  have fin : ∀ (g : zm_H), zq_F zf_O h g → zv_O g (zp_imn K L C) (zp_im0 K L C P Pu Hd hr dp) → zu (zk_I (zc 107 [zm_A 140, zm_I (g 139 1)] g) (fun v2 h3 => zk_V (zc 105 [zm_A 139, zm_I v2] h3) (fun h4 => some (zm_U, h4)))) (fun g => zq_F zf_O h g ∧ zv_O g (zp_imn K L C + 1) (zp_img K L C P Pu Hd hr dp)) := by
    intro g fg O
    have hn : zp_imn K L C ≤ 187 := by unfold zp_imn; omega
    refine zt_I (s_107 (n := zp_imn K L C) (na := 188) la_140 (by omega) (by omega) O.2 (fun i _ => zp_im0_b K L C P Pu Hd hr dp i) O.1) ?_
    rintro z g2 ⟨rfl, rfl⟩
    refine zt_V (s_105 O (by omega)) ?_
    rintro g3 ⟨f3, O3⟩
    exact zu_e ⟨zq_F_tr fg f3, O3⟩
  -- the children
  have kids : ∀ (m c : Nat) (g : zm_H) (w : zm_V), c + m = C → zq_F zf_O h g → zv_O g (3 + L * K + c * (2 + 2 * K)) (zp_imc K Pu Hd c (zp_iml K P L I1 3) (3 + L * K)) → zu (zr none 3 104 73 [zm_A 139, zm_A t, zm_A 32, zm_I c, w] [] g) (fun g => zq_F zf_O h g ∧ zv_O g (zp_imn K L C + 1) (zp_img K L C P Pu Hd hr dp)) := by
    intro m
    induction m with
    | zero =>
      intro c g w hc fg O
      obtain rfl : c = C := by omega
      have hCg := hC.o fg
      refine zt_l (e_104_73 zf_T_32 ht) ?_
      rw [hCg.2.1.2.2.2.1]
      refine zt_f (by omega) (fin g fg ?_)
      rw [← hI1] at O
      exact O
    | succ m ih =>
      intro c g w hc fg O
      have hCg := hC.o fg
      have hcC : c < C := by omega
      have b5 := n6 c hcC
      have bPu := hX.2.2.1 c (by omega)
      have e34 : g (32 + 2) (c : Int) = Pu c := hCg.2.2.1.2.2.1 c (by omega)
      refine zt_l (e_104_73 zf_T_32 ht) ?_
      rw [hCg.2.1.2.2.2.1, e34]
      refine zt_t (by omega) (zt_c (by omega) (zt_V (s_106 (by omega) O (by omega)) ?_))
      rintro g2 ⟨f2, O2⟩
      have inner : ∀ (m2 k : Nat) (g : zm_H), k + m2 = K → zq_F zf_O h g → zv_O g (3 + L * K + c * (2 + 2 * K) + 2 + 2 * k) (zp_ad2n (fun k => Hd (8 * c + k)) k (zp_ad2 (zp_imc K Pu Hd c (zp_iml K P L I1 3) (3 + L * K)) (3 + L * K + c * (2 + 2 * K)) (Pu c)) (3 + L * K + c * (2 + 2 * K) + 2)) → zu (zr none 3 104 94 [zm_A 139, zm_A t, zm_A 32, zm_I c, zm_I k] [] g) (fun g => zq_F zf_O h g ∧ zv_O g (zp_imn K L C + 1) (zp_img K L C P Pu Hd hr dp)) := by
        intro m2
        induction m2 with
        | zero =>
          intro k g hk fg O
          obtain rfl : k = K := by omega
          have hCg := hC.o fg
          refine zt_l (e_104_94 zf_T_32 ht) ?_
          rw [hCg.2.1.2.1]
          refine zt_f (by omega) (zt_c (by omega) ?_)
          rw [show (c : Int) + 1 = ((c + 1 : Nat) : Int) by omega]
          refine ih (c + 1) g _ (by omega) fg ?_
          rw [show 3 + L * k + (c + 1) * (2 + 2 * k) = 3 + L * k + c * (2 + 2 * k) + 2 + 2 * k by rw [Nat.succ_mul]; omega]
          exact O
        | succ m2 ih2 =>
          intro k g hk fg O
          have hCg := hC.o fg
          have bH := hX.2.1.1 (8 * c + k) (by omega)
          have ei : (c : Int) * 8 + k = ((8 * c + k : Nat) : Int) := by omega
          have e35 : g (32 + 3) ((8 * c + k : Nat) : Int) = Hd (8 * c + k) := hCg.2.2.1.2.2.2 _ (by omega)
          refine zt_l (e_104_94 zf_T_32 ht) ?_
          rw [hCg.2.1.2.1, ei, e35]
          refine zt_t (by omega) (zt_c (by omega) (zt_c (by omega) (zt_c (by omega) (zt_V (s_106 (by omega) O (by omega)) ?_))))
          rintro g3 ⟨f3, O3⟩
          refine zt_c (by omega) ?_
          rw [show (k : Int) + 1 = ((k + 1 : Nat) : Int) by omega]
          exact ih2 (k + 1) g3 (by omega) (zq_F_tr fg f3) O3
      exact inner K 0 g2 (by omega) (zq_F_tr fg f2) O2
  -- the layers
  have lays : ∀ (m l : Nat) (g : zm_H) (w : zm_V), l + m = L → zq_F zf_O h g → zv_O g (3 + l * K) (zp_iml K P l I1 3) → zu (zr none 3 104 23 [zm_A 139, zm_A t, zm_A 32, zm_I l, w] [] g) (fun g => zq_F zf_O h g ∧ zv_O g (zp_imn K L C + 1) (zp_img K L C P Pu Hd hr dp)) := by
    intro m
    induction m with
    | zero =>
      intro l g w hl fg O
      obtain rfl : l = L := by omega
      have hCg := hC.o fg
      refine zt_l (e_104_23 zf_T_32 ht) ?_
      rw [hCg.2.1.2.2.1]
      refine zt_f (by omega) (kids C 0 g _ (by omega) fg ?_)
      rw [Nat.zero_mul]
      exact O
    | succ m ih =>
      intro l g w hl fg O
      have hCg := hC.o fg
      have b5 := n5 l (by omega)
      refine zt_l (e_104_23 zf_T_32 ht) ?_
      rw [hCg.2.1.2.2.1]
      refine zt_t (by omega) ?_
      have inner : ∀ (m2 k : Nat) (g : zm_H), k + m2 = K → zq_F zf_O h g → zv_O g (3 + l * K + k) (zp_adn (fun k => P (8 * l + k)) k (zp_iml K P l I1 3) (3 + l * K)) → zu (zr none 3 104 34 [zm_A 139, zm_A t, zm_A 32, zm_I l, zm_I k] [] g) (fun g => zq_F zf_O h g ∧ zv_O g (zp_imn K L C + 1) (zp_img K L C P Pu Hd hr dp)) := by
        intro m2
        induction m2 with
        | zero =>
          intro k g hk fg O
          obtain rfl : k = K := by omega
          have hCg := hC.o fg
          refine zt_l (e_104_34 zf_T_32 ht) ?_
          rw [hCg.2.1.2.1]
          refine zt_f (by omega) (zt_c (by omega) ?_)
          rw [show (l : Int) + 1 = ((l + 1 : Nat) : Int) by omega]
          refine ih (l + 1) g _ (by omega) fg ?_
          rw [show 3 + (l + 1) * k = 3 + l * k + k by rw [Nat.succ_mul]; omega]
          exact O
        | succ m2 ih2 =>
          intro k g hk fg O
          have hCg := hC.o fg
          have ei : (l : Int) * 8 + k = ((8 * l + k : Nat) : Int) := by omega
          have e33 : g (32 + 1) ((8 * l + k : Nat) : Int) = P (8 * l + k) := hCg.2.2.1.2.1 _ (by omega)
          refine zt_l (e_104_34 zf_T_32 ht) ?_
          rw [hCg.2.1.2.1, ei, e33]
          refine zt_t (by omega) (zt_c (by omega) (zt_c (by omega) (zt_c (by omega) (zt_V (s_105 O (by omega)) ?_))))
          rintro g3 ⟨f3, O3⟩
          refine zt_c (by omega) ?_
          rw [show (k : Int) + 1 = ((k + 1 : Nat) : Int) by omega]
          exact ih2 (k + 1) g3 (by omega) (zq_F_tr fg f3) O3
      exact inner K 0 g (by omega) fg O
  have hx4 := hX.2.2.2
  refine zt_l (e_51 ht) (zt_c hC.1 ?_)
  refine zt_V (Q1 := fun g => zq_F zf_O h g ∧ zv_O g (zp_imn K L C + 1) (zp_img K L C P Pu Hd hr dp)) ?_ ?_
  · refine zt_l (e_104 zf_T_32 ht) ?_
    have f0 : zq_F zf_O h (zm_wr h 139 1 0) := zq_F_wr (Or.inl ⟨rfl, rfl⟩)
    have e320 : zm_wr h 139 1 0 32 0 = hr := by rw [zq_wr_n (by decide)]; exact hC.2.2.2.1
    rw [e320]
    refine zt_V (s_105 (n := 0) (im := fun _ => 0) ⟨zq_wr_e, fun i hi => by omega⟩ (by decide)) ?_
    rintro g1 ⟨f1, O1⟩
    have e321 : g1 32 1 = dp := by rw [f1 32 1 (by unfold zf_O; omega), zq_wr_n (by decide)]; exact hC.2.2.2.2
    rw [e321]
    refine zt_V (s_106 (by omega) O1 (by decide)) ?_
    rintro g2 ⟨f2, O2⟩
    rw [hI1] at O2
    refine lays L 0 g2 _ (by omega) (zq_F_tr f0 (zq_F_tr f1 f2)) ?_
    rw [Nat.zero_mul]
    exact O2
  · rintro g ⟨fg, O⟩
    exact zi_e ⟨O.1, fg, O⟩
theorem s_268 (hD : zv_D h b K L C wo sz re fe ru lk P Qu Hd hr dp) (hB : zv_B K L C wo sz re fe ru lk) (hX : zv_X K L C P Qu Hd hr dp) : zi (zc 268 [zm_A 146] h) (fun z g => z = ((zp_imn K L C + 1 : Nat) : Int) ∧ zq_F zf_Q h g ∧ zv_Q g (zp_imn K L C + 1) (zp_img K L C P Qu Hd hr dp)) := by
  have hK8 := hB.1
  have hL5 := hB.2.1
  have hC8 := hB.2.2.1
  have hb := hD.1.1
  obtain ⟨n1, n2, n3, n4, n5, n6⟩ := zp_imn_b hK8 hL5 hC8
  generalize hI1 : zp_ad2 (zp_ad1 (fun _ => 0) 0 hr) 1 dp = I1
  have hn : zp_imn K L C ≤ 187 := by unfold zp_imn; omega
  -- the end
  have fin : ∀ (g : zm_H), zq_F zf_Q h g → zv_Q g (zp_imn K L C) (zp_im0 K L C P Qu Hd hr dp) → ∀ (m i : Nat), i + m = zp_imn K L C → zi (zr none 3 268 146 [zm_A 146, zm_I (zp_chk (zp_im0 K L C P Qu Hd hr dp) i), zm_I i] [] g) (fun z g => z = ((zp_imn K L C + 1 : Nat) : Int) ∧ zq_F zf_Q h g ∧ zv_Q g (zp_imn K L C + 1) (zp_img K L C P Qu Hd hr dp)) := by
    intro g fg O m
    induction m with
    | zero =>
      intro i hi
      obtain rfl : i = zp_imn K L C := by omega
      refine zt_l e_268_146 ?_
      rw [O.1]
      refine zt_f (by omega) (zt_V (s_269 O (by omega)) ?_)
      rintro g3 ⟨f3, O3⟩
      exact zi_e ⟨O3.1, zq_F_tr fg f3, O3⟩
    | succ m ih =>
      intro i hi
      have b1 := zp_chk_b (zp_im0 K L C P Qu Hd hr dp) i
      have b2 := zp_im0_b K L C P Qu Hd hr dp i
      refine zt_l e_268_146 ?_
      rw [O.1, O.2 i (by omega), zq_tmod (by omega), zq_tdiv (by omega)]
      exact zt_t (by omega) (zt_c (by omega) (zt_c (by omega) (zt_c (by omega) (zt_c (by omega) (zt_c (by omega) (ih (i + 1) (by omega)))))))
  -- the children
  have kids : ∀ (m c : Nat) (g : zm_H) (w : zm_V), c + m = C → zq_F zf_Q h g → zv_Q g (3 + L * K + c * (2 + 2 * K)) (zp_imc K Qu Hd c (zp_iml K P L I1 3) (3 + L * K)) → zi (zr none 3 268 80 [zm_A 146, zm_I c, w] [] g) (fun z g => z = ((zp_imn K L C + 1 : Nat) : Int) ∧ zq_F zf_Q h g ∧ zv_Q g (zp_imn K L C + 1) (zp_img K L C P Qu Hd hr dp)) := by
    intro m
    induction m with
    | zero =>
      intro c g w hc fg O
      obtain rfl : c = C := by omega
      have hDg := hD.q fg
      refine zt_l e_268_80 ?_
      rw [hDg.1.2.1, hDg.1.2.2.2.2.1]
      rw [← hI1] at O
      exact zt_c (by omega) (zt_f (by omega) (fin g fg O (zp_imn K L c) 0 (by omega)))
    | succ m ih =>
      intro c g w hc fg O
      have hDg := hD.q fg
      have hcC : c < C := by omega
      have b5 := n6 c hcC
      have bPu := hX.2.2.1 c (by omega)
      have e177 : g 177 (c : Int) = Qu c := hDg.2.1.2.2.1 c (by omega) c (by omega)
      refine zt_l e_268_80 ?_
      rw [hDg.1.2.1, hDg.1.2.2.2.2.1, e177]
      refine zt_c (by omega) (zt_t (by omega) (zt_c (by omega) (zt_V (s_270 (by omega) O (by omega)) ?_)))
      rintro g2 ⟨f2, O2⟩
      have inner : ∀ (m2 k : Nat) (g : zm_H), k + m2 = K → zq_F zf_Q h g → zv_Q g (3 + L * K + c * (2 + 2 * K) + 2 + 2 * k) (zp_ad2n (fun k => Hd (8 * c + k)) k (zp_ad2 (zp_imc K Qu Hd c (zp_iml K P L I1 3) (3 + L * K)) (3 + L * K + c * (2 + 2 * K)) (Qu c)) (3 + L * K + c * (2 + 2 * K) + 2)) → zi (zr none 3 268 105 [zm_A 146, zm_I c, zm_I k] [] g) (fun z g => z = ((zp_imn K L C + 1 : Nat) : Int) ∧ zq_F zf_Q h g ∧ zv_Q g (zp_imn K L C + 1) (zp_img K L C P Qu Hd hr dp)) := by
        intro m2
        induction m2 with
        | zero =>
          intro k g hk fg O
          obtain rfl : k = K := by omega
          have hDg := hD.q fg
          refine zt_l e_268_105 ?_
          rw [hDg.1.2.1, hDg.1.2.2.1]
          refine zt_c (by omega) (zt_f (by omega) (zt_c (by omega) ?_))
          rw [show (c : Int) + 1 = ((c + 1 : Nat) : Int) by omega]
          refine ih (c + 1) g _ (by omega) fg ?_
          rw [show 3 + L * k + (c + 1) * (2 + 2 * k) = 3 + L * k + c * (2 + 2 * k) + 2 + 2 * k by rw [Nat.succ_mul]; omega]
          exact O
        | succ m2 ih2 =>
          intro k g hk fg O
          have hDg := hD.q fg
          have bH := hX.2.1.1 (8 * c + k) (by omega)
          refine zt_l e_268_105 ?_
          rw [hDg.1.2.1, hDg.1.2.2.1]
          refine zt_c (by omega) (zt_t (by omega) (zt_I (s_215 (v := 0) (c := c) (k := k) hDg.2.1 (by omega) (by omega)) ?_))
          rintro z g' ⟨rfl, rfl⟩
          refine zt_V (s_270 (by omega) O (by omega)) ?_
          rintro g3 ⟨f3, O3⟩
          refine zt_c (by omega) ?_
          rw [show (k : Int) + 1 = ((k + 1 : Nat) : Int) by omega]
          exact ih2 (k + 1) g3 (by omega) (zq_F_tr fg f3) O3
      exact inner K 0 g2 (by omega) (zq_F_tr fg f2) O2
  -- the layers
  have lays : ∀ (m l : Nat) (g : zm_H) (w : zm_V), l + m = L → zq_F zf_Q h g → zv_Q g (3 + l * K) (zp_iml K P l I1 3) → zi (zr none 3 268 27 [zm_A 146, zm_I l, w] [] g) (fun z g => z = ((zp_imn K L C + 1 : Nat) : Int) ∧ zq_F zf_Q h g ∧ zv_Q g (zp_imn K L C + 1) (zp_img K L C P Qu Hd hr dp)) := by
    intro m
    induction m with
    | zero =>
      intro l g w hl fg O
      obtain rfl : l = L := by omega
      have hDg := hD.q fg
      refine zt_l e_268_27 ?_
      rw [hDg.1.2.1, hDg.1.2.2.2.1]
      refine zt_c (by omega) (zt_f (by omega) (kids C 0 g _ (by omega) fg ?_))
      rw [Nat.zero_mul]
      exact O
    | succ m ih =>
      intro l g w hl fg O
      have hDg := hD.q fg
      have b5 := n5 l (by omega)
      refine zt_l e_268_27 ?_
      rw [hDg.1.2.1, hDg.1.2.2.2.1]
      refine zt_c (by omega) (zt_t (by omega) ?_)
      have inner : ∀ (m2 k : Nat) (g : zm_H), k + m2 = K → zq_F zf_Q h g → zv_Q g (3 + l * K + k) (zp_adn (fun k => P (8 * l + k)) k (zp_iml K P l I1 3) (3 + l * K)) → zi (zr none 3 268 42 [zm_A 146, zm_I l, zm_I k] [] g) (fun z g => z = ((zp_imn K L C + 1 : Nat) : Int) ∧ zq_F zf_Q h g ∧ zv_Q g (zp_imn K L C + 1) (zp_img K L C P Qu Hd hr dp)) := by
        intro m2
        induction m2 with
        | zero =>
          intro k g hk fg O
          obtain rfl : k = K := by omega
          have hDg := hD.q fg
          refine zt_l e_268_42 ?_
          rw [hDg.1.2.1, hDg.1.2.2.1]
          refine zt_c (by omega) (zt_f (by omega) (zt_c (by omega) ?_))
          rw [show (l : Int) + 1 = ((l + 1 : Nat) : Int) by omega]
          refine ih (l + 1) g _ (by omega) fg ?_
          rw [show 3 + (l + 1) * k = 3 + l * k + k by rw [Nat.succ_mul]; omega]
          exact O
        | succ m2 ih2 =>
          intro k g hk fg O
          have hDg := hD.q fg
          refine zt_l e_268_42 ?_
          rw [hDg.1.2.1, hDg.1.2.2.1]
          refine zt_c (by omega) (zt_t (by omega) (zt_I (s_206 (v := 0) (l := l) (k := k) hDg.2.1 (by omega) (by omega)) ?_))
          rintro z g' ⟨rfl, rfl⟩
          refine zt_V (s_269 O (by omega)) ?_
          rintro g3 ⟨f3, O3⟩
          refine zt_c (by omega) ?_
          rw [show (k : Int) + 1 = ((k + 1 : Nat) : Int) by omega]
          exact ih2 (k + 1) g3 (by omega) (zq_F_tr fg f3) O3
      exact inner K 0 g (by omega) fg O
  have hx4 := hX.2.2.2
  refine zt_l e_268 ?_
  have f0 : zq_F zf_Q h (zm_wr h 146 77 0) := zq_F_wr (Or.inl ⟨rfl, rfl⟩)
  have e174 : zm_wr h 146 77 0 174 0 = hr := by rw [zq_wr_n (by decide)]; exact hD.2.2.1
  rw [e174]
  refine zt_c (by decide) (zt_V (s_269 (n := 0) (im := fun _ => 0) ⟨zq_wr_e, fun i hi => by omega⟩ (by decide)) ?_)
  rintro g1 ⟨f1, O1⟩
  have e175 : g1 175 0 = dp := by rw [f1 175 0 (by unfold zf_Q; omega), zq_wr_n (by decide)]; exact hD.2.2.2
  rw [e175]
  refine zt_c (by decide) (zt_V (s_270 (by omega) O1 (by decide)) ?_)
  rintro g2 ⟨f2, O2⟩
  rw [hI1] at O2
  refine lays L 0 g2 _ (by omega) (zq_F_tr f0 (zq_F_tr f1 f2)) ?_
  rw [Nat.zero_mul]
  exact O2
end
