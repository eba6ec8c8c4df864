/-! THE CLASS'S LOOK -/
section
variable {h : zm_H} {t b K L C : Nat} {wo sz re fe ru : Nat → Int} {lk : Nat → Nat → Int} {P Pu Hd : Nat → Int}
/-- what is told of a fete and of a tub stays where these cells stay -/
theorem zv_F.kp {g : zm_H} (hF : zv_F h t K L C wo sz re fe ru lk) (hg : ∀ a : Nat, a < 29 → g a = h a) : zv_F g t K L C wo sz re fe ru lk := by
  obtain ⟨ht, e1, e2, e3, h1, h2, h3⟩ := hF
  have b : t ≤ 18 := by rcases ht with rfl | rfl <;> omega
  refine ⟨ht, by rw [hg t (by omega)]; exact e1, by rw [hg t (by omega)]; exact e2, by rw [hg t (by omega)]; exact e3, fun k hk => ?_, fun c hc => ?_, fun c k hc hk j hj => ?_⟩
  · rw [hg (t + 2) (by omega), hg (t + 3) (by omega)]; exact h1 k hk
  · rw [hg (t + 6) (by omega), hg (t + 7) (by omega), hg (t + 8) (by omega)]; exact h2 c hc
  · rw [hg (t + 9) (by omega)]; exact h3 c k hc hk j hj
theorem zf_T_le {o : Nat} (h : zf_T o) : 32 ≤ o ∧ o ≤ 124 := by
  have := zt_of (f := fun o => decide (32 ≤ o ∧ o ≤ 124)) (by decide +kernel) h
  exact of_decide_eq_true this
theorem zv_T.kp {g : zm_H} {o : Nat} (hT : zv_T h o P Pu Hd) (hg : ∀ a : Nat, a < 128 → g a = h a) : zv_T g o P Pu Hd := by
  obtain ⟨ho, h1, h2, h3⟩ := hT
  have := zf_T_le ho
  exact ⟨ho, by rw [hg (o + 1) (by omega)]; exact h1, by rw [hg (o + 2) (by omega)]; exact h2, by rw [hg (o + 3) (by omega)]; exact h3⟩
theorem zf_Rs_kp {g : zm_H} (hg : zq_F zf_Rs h g) {a : Nat} (ha : a < 128) : g a = h a := by
  funext i
  exact hg a i (by unfold zf_Rs; omega)
theorem zf_F_ne {t : Nat} (h : zf_F t) : t ≤ 18 := by rcases h with rfl | rfl <;> omega
/-- the loop that looks for the uppermost layer (order in 1) -/
theorem s_113_1_17 {o c : Nat} {ord : Nat → Nat} (ho : ∀ p, p < 5 → ord p < 5) (hid : ∀ p, ord p = p) (hB : zv_B K L C wo sz re fe ru lk) (hP : ∀ i, i < 40 → 0 ≤ P i ∧ P i ≤ 99) {Q : zm_V → zm_H → Prop} {w5 w6 : zm_V} : ∀ (n p : Nat) (h : zm_H), zv_F h t K L C wo sz re fe ru lk → zv_T h o P Pu Hd → p + n = L → h 128 4 = p →
    (∀ g, zq_F (fun a i => a = 128 ∧ i = 4) h g → g 128 4 = zp_upf L P ord n p → zt (zr none 3 113 55 [zm_A 128, zm_A t, zm_A o, zm_I c, zm_A 1, w5, w6] [] g) Q) →
    zt (zr none 3 113 17 [zm_A 128, zm_A t, zm_A o, zm_I c, zm_A 1, w5, w6] [] h) Q := by
  intro n
  induction n with
  | zero =>
    intro p h hF hT  hp h4 hk
    refine zt_l (e_113_1_17 hT.1 hF.1) (zt_f ?_ (hk h zq_F_rf h4))
    rw [h4, hF.2.2.1]; omega
  | succ n ih =>
    intro p h hF hT  hp h4 hk
    have hL5 : L ≤ 5 := hB.2.1
    refine zt_l (e_113_1_17 hT.1 hF.1) (zt_t (by rw [h4, hF.2.2.1]; omega) (zt_c (by rw [h4]; omega) ?_))
    rw [h4, show ((p : Nat) : Int) = (ord p : Nat) from by rw [hid p]]
    refine zt_I (s_150 hT hP (ho p (by omega))) ?_
    rintro z g ⟨rfl, rfl⟩
    refine zt_p (fun hz => ?_) (fun hz => hk g zq_F_rf ?_)
    · rw [h4]
      refine zt_c (by omega) ?_
      have hne : ∀ a : Nat, a ≠ 128 → zm_wr g 128 4 ((p : Int) + 1) a = g a := fun a ha => by funext i; exact zq_wr_n ha
      refine ih (p + 1) _ (hF.kp (fun a ha => hne a (by omega))) (hT.kp (fun a ha => hne a (by omega))) (by omega) zq_wr_e (fun g2 hg2 h42 => ?_)
      refine hk g2 (zq_F_tr (zq_F_wr ⟨rfl, rfl⟩) hg2) ?_
      rw [h42]
      conv => rhs; unfold zp_upf
      rw [if_pos ⟨by omega, hz⟩]
    · rw [h4]
      unfold zp_upf
      rw [if_neg (fun q => hz q.2)]
theorem s_113_1_106 {o c k f e : Nat} {ord : Nat → Nat} (ho : ∀ p, p < 5 → ord p < 5) (hid : ∀ p, ord p = p) (hk8 : k < 8) (he : e ≤ 5) (hP : ∀ i, i < 40 → 0 ≤ P i ∧ P i ≤ 99) {Q : zm_V → zm_H → Prop} : ∀ (n i : Nat) (h : zm_H), zf_F t → zv_T h o P Pu Hd → f + i + n = e → h 128 5 = e → h 129 k = zq_S i (fun j => P (8 * ord (f + j) + k)) →
    (∀ g, zq_F (fun a i => a = 129 ∧ i = k) h g → g 129 k = zp_cnt P ord f e k → zt (zr none 3 113 106 [zm_A 128, zm_A t, zm_A o, zm_I c, zm_A 1, zm_I k, zm_I e] [] g) Q) →
    zt (zr none 3 113 106 [zm_A 128, zm_A t, zm_A o, zm_I c, zm_A 1, zm_I k, zm_I ((f + i : Nat) : Int)] [] h) Q := by
  intro n
  induction n with
  | zero =>
    intro i h ht hT  hi h5 hc hk
    have hie : f + i = e := by omega
    rw [hie]
    refine hk h zq_F_rf ?_
    rw [hc]; unfold zp_cnt
    rw [show e - f = i by omega]
  | succ n ih =>
    intro i h ht hT  hi h5 hc hk
    have bs := zq_S_le (n := i) (f := fun j => P (8 * ord (f + j) + k)) (m := 99) (fun j hj => hP _ (by have := ho (f + j) (by omega); omega))
    have hol := ho (f + i) (by omega)
    have bp := hP (8 * ord (f + i) + k) (by omega)
    have hi5 : (i : Int) ≤ 5 := by omega
    have hv : h (o + 1) (((f + i : Nat) : Int) * 8 + (k : Int)) = P (8 * ord (f + i) + k) := by
      have := hT.2.1 (8 * ord (f + i) + k) (by omega)
      rw [← this]; congr 1; have := hid (f + i); omega
    refine zt_l (e_113_1_106 hT.1 ht) (zt_t (by rw [h5]; omega) (zt_c (by omega) (zt_c (by omega) ?_)))
    
    refine zt_c (by omega) (zt_c (by omega) (zt_c (by omega) ?_))
    rw [hv, hc]
    refine zt_c (by omega) (zt_c (by omega) (zt_c (by omega) ?_))
    have hne : ∀ a : Nat, a ≠ 129 → zm_wr h 129 k (zq_S i (fun j => P (8 * ord (f + j) + k)) + P (8 * ord (f + i) + k)) a = h a := fun a ha => by funext i; exact zq_wr_n ha
    refine ih (i + 1) _ ht (hT.kp (fun a ha => hne a (by omega))) (by omega) (by rw [hne 128 (by omega)]; exact h5) (by rw [zq_wr_e]; rfl) (fun g hg hc2 => hk g (zq_F_tr (zq_F_wr ⟨rfl, rfl⟩) hg) hc2)
theorem s_113_1_85 {o c : Nat} {ord : Nat → Nat} (ho : ∀ p, p < 5 → ord p < 5) (hid : ∀ p, ord p = p) (hB : zv_B K L C wo sz re fe ru lk) (hc : c < C) (hP : ∀ i, i < 40 → 0 ≤ P i ∧ P i ≤ 99) {f e : Nat} (hfe : f ≤ e) (he : e ≤ 5) {Q : zm_V → zm_H → Prop} : ∀ (n k : Nat) (h : zm_H) (w6 : zm_V), zv_F h t K L C wo sz re fe ru lk → zv_T h o P Pu Hd → k + n = 8 → h 128 4 = f → h 128 5 = e → h 128 3 = zq_S k (zp_cnt P ord f e) →
    (∀ j : Nat, j < k → h 129 j = zp_cnt P ord f e j ∧ h 130 j = (if j < K then lk c j else 0) ∧ h 131 j = (if j < K then zp_key sz ru lk c j else 0)) →
    (∀ g, zq_F (fun a i => a = 129 ∨ a = 130 ∨ a = 131 ∨ (a = 128 ∧ i = 3)) h g → g 128 3 = zq_S 8 (zp_cnt P ord f e) → (∀ j : Nat, j < 8 → g 129 j = zp_cnt P ord f e j ∧ g 130 j = (if j < K then lk c j else 0) ∧ g 131 j = (if j < K then zp_key sz ru lk c j else 0)) → Q zm_U g) →
    zt (zr none 3 113 85 [zm_A 128, zm_A t, zm_A o, zm_I c, zm_A 1, zm_I k, w6] [] h) Q := by
  intro n
  induction n with
  | zero =>
    intro k h w6 hF hT  hn h4 h5 h3 hj hk
    refine zt_l (e_113_1_85 hT.1 hF.1) (zt_f (by omega) (zt_e ?_))
    have : k = 8 := by omega
    subst this
    exact hk h zq_F_rf h3 hj
  | succ n ih =>
    intro k h w6 hF hT  hn h4 h5 h3 hj hk
    refine zt_l (e_113_1_85 hT.1 hF.1) (zt_t (by omega) (zt_c (by omega) ?_))
    have hne : ∀ a : Nat, a ≠ 129 → zm_wr h 129 k 0 a = h a := fun a ha => by funext i; exact zq_wr_n ha
    rw [hne 128 (by omega), h4]
    have hF1 := hF.kp (g := zm_wr h 129 k 0) (fun a ha => hne a (by omega))
    have hT1 := hT.kp (g := zm_wr h 129 k 0) (fun a ha => hne a (by omega))
    refine s_113_1_106 ho hid (by omega : k < 8) he hP (e - f) 0 _ hF.1 hT1 (by omega) (by rw [hne 128 (by omega)]; exact h5) zq_wr_e (fun g hg hcn => ?_)
    have gne : ∀ a : Nat, a ≠ 129 → g a = h a := fun a ha => by
      funext i; rw [hg a i (fun q => ha q.1), hne a ha]
    have g129 : ∀ j : Nat, j ≠ k → g 129 j = h 129 j := fun j hjk => by
      rw [hg 129 j (fun q => hjk (by omega)), zq_wr_i (by omega)]
    have hF2 := hF.kp (g := g) (fun a ha => gne a (by omega))
    have hT2 := hT.kp (g := g) (fun a ha => gne a (by omega))
    have bc : ∀ j, j < 8 → 0 ≤ zp_cnt P ord f e j ∧ zp_cnt P ord f e j ≤ 495 := fun j hj => zp_cnt_b hj he ho hP
    have bs := zq_S_le (n := k) (f := zp_cnt P ord f e) (m := 495) (fun j hj => bc j (by omega))
    have bck := bc k (by omega)
    have hk8 : (k : Int) ≤ 8 := by omega
    refine zt_l (e_113_1_106 hT2.1 hF2.1) (zt_f (by rw [gne 128 (by omega), h5]; omega) (zt_c (by omega) ?_))
    rw [hcn, gne 128 (by omega), h3]
    refine zt_c (by omega) ?_
    have hK : K ≤ 8 := hB.1
    -- the four writes
    have fin : ∀ (v w : Int) (G : zm_H), v = (if k < K then lk c k else 0) → w = (if k < K then zp_key sz ru lk c k else 0) → G = zm_wr (zm_wr (zm_wr g 128 3 (zq_S k (zp_cnt P ord f e) + zp_cnt P ord f e k)) 130 k v) 131 k w → zt (zr none 3 113 85 [zm_A 128, zm_A t, zm_A o, zm_I c, zm_A 1, zm_I ((k : Int) + 1), zm_I e] [] G) Q := by
      intro v w G hv hw hG
      have Gne : ∀ a : Nat, a ≠ 129 → a ≠ 130 → a ≠ 131 → a ≠ 128 → G a = h a := fun a h1 h2 h3 h4 => by
        funext i; rw [hG, zq_wr_n h3, zq_wr_n h2, zq_wr_n h4, gne a h1]
      have G128 : ∀ i : Int, i ≠ 3 → G 128 i = h 128 i := fun i hi => by
        rw [hG, zq_wr_n (by decide), zq_wr_n (by decide), zq_wr_i hi, gne 128 (by omega)]
      refine ih (k + 1) G _ (hF.kp (fun a ha => Gne a (by omega) (by omega) (by omega) (by omega))) (hT.kp (fun a ha => Gne a (by omega) (by omega) (by omega) (by omega))) (by omega) (by rw [G128 4 (by decide)]; exact h4) (by rw [G128 5 (by decide)]; exact h5) ?_ (fun j hjk => ?_) (fun g2 hg2 h32 hj2 => ?_)
      · rw [hG, zq_wr_n (by decide), zq_wr_n (by decide), zq_wr_e]; rfl
      · by_cases hjk2 : j = k
        · subst hjk2
          refine ⟨?_, ?_, ?_⟩
          · rw [hG, zq_wr_n (by decide), zq_wr_n (by decide), zq_wr_n (by decide), hcn]
          · rw [hG, zq_wr_n (by decide), zq_wr_e, hv]
          · rw [hG, zq_wr_e, hw]
        · have := hj j (by omega)
          refine ⟨?_, ?_, ?_⟩
          · rw [hG, zq_wr_n (by decide), zq_wr_n (by decide), zq_wr_n (by decide), g129 j hjk2]; exact this.1
          · rw [hG, zq_wr_n (by decide), zq_wr_i (by omega), zq_wr_n (by decide), gne 130 (by omega)]; exact this.2.1
          · rw [hG, zq_wr_i (by omega), zq_wr_n (by decide), zq_wr_n (by decide), gne 131 (by omega)]; exact this.2.2
      · refine hk g2 (zq_F_tr (fun a i hn => ?_) hg2) h32 hj2
        by_cases ha : a = 128
        · subst ha; exact G128 i (fun q => hn (Or.inr (Or.inr (Or.inr ⟨rfl, q⟩))))
        · rw [Gne a (fun q => hn (Or.inl q)) (fun q => hn (Or.inr (Or.inl q))) (fun q => hn (Or.inr (Or.inr (Or.inl q)))) ha]
    have hwne : ∀ (x : zm_H) (i v : Int) (b : Nat), 128 ≤ b → ∀ a : Nat, a < 128 → zm_wr x b i v a = x a := fun x i v b hb a ha => by funext j; exact zq_wr_n (by omega)
    have tne : t < 128 := by have := zf_F_ne hF.1; omega
    rw [hwne g 3 _ 128 (by omega) t tne, hF2.2.1]
    refine zt_p (fun hkK => ?_) (fun hkK => ?_)
    · have hkK : k < K := by omega
      have hF3 := hF2.kp (g := zm_wr g 128 3 (zq_S k (zp_cnt P ord f e) + zp_cnt P ord f e k)) (fun a ha => hwne g 3 _ 128 (by omega) a (by omega))
      refine zt_I (s_64 hF3 hB hc hkK) ?_
      rintro z g3 ⟨rfl, rfl⟩
      refine zt_c (by omega) ?_
      rw [hwne _ k _ 130 (by omega) t tne, hF3.2.1]
      refine zt_t (by omega) ?_
      have hF4 := hF3.kp (g := zm_wr (zm_wr g 128 3 (zq_S k (zp_cnt P ord f e) + zp_cnt P ord f e k)) 130 k (lk c k)) (fun a ha => hwne _ k _ 130 (by omega) a (by omega))
      refine zt_I (s_65 hF4 hB hc hkK) ?_
      rintro z g4 ⟨rfl, rfl⟩
      refine zt_c (by omega) (zt_c (by omega) ?_)
      exact fin _ _ _ (by rw [if_pos hkK]) (by rw [if_pos hkK]) rfl
    · have hkK : ¬ k < K := by omega
      refine zt_c (by omega) ?_
      rw [hwne _ k 0 130 (by omega) t tne, hwne g 3 _ 128 (by omega) t tne, hF2.2.1]
      refine zt_f (by omega) (zt_c (by omega) (zt_c (by omega) ?_))
      exact fin _ _ _ (by rw [if_neg hkK]) (by rw [if_neg hkK]) rfl
/-- look: what lies within reach -/
theorem s_113_1 {o c : Nat} {ord : Nat → Nat} (ho : ∀ p, p < 5 → ord p < 5) (hid : ∀ p, ord p = p) (hB : zv_B K L C wo sz re fe ru lk) (hF : zv_F h t K L C wo sz re fe ru lk) (hT : zv_T h o P Pu Hd) (hP : ∀ i, i < 40 → 0 ≤ P i ∧ P i ≤ 99) (hc : c < C) : zu (zc 113 [zm_A 128, zm_A t, zm_A o, zm_I c, zm_A 1] h) (fun g => zq_F zf_Rs h g ∧ zv_R g K L sz re fe ru lk P ord c) := by
  have b := hB.2.2.2.2.1 c hc
  have hC8 : C ≤ 8 := hB.2.2.1
  have hL5 : L ≤ 5 := hB.2.1
  obtain ⟨f1, f2, f3⟩ := hF.2.2.2.2.2.1 c hc
  refine zt_l (e_113_1 hT.1 hF.1) (zt_c (by omega) ?_)
  rw [f2]
  refine zt_c (by omega) ?_
  have hne : ∀ a : Nat, a ≠ 128 → zm_wr (zm_wr h 128 6 (fe c + 1)) 128 4 0 a = h a := fun a ha => by funext i; rw [zq_wr_n ha, zq_wr_n ha]
  refine s_113_1_17 ho hid  hB hP L 0 _ (hF.kp (fun a ha => hne a (by omega))) (hT.kp (fun a ha => hne a (by omega))) (by omega) zq_wr_e (fun g hg h4 => ?_)
  have gne : ∀ a : Nat, a ≠ 128 → g a = h a := fun a ha => by
    funext i; rw [hg a i (fun q => ha q.1), hne a ha]
  have g6 : g 128 6 = fe c + 1 := by rw [hg 128 6 (fun q => by omega), zq_wr_i (by decide), zq_wr_e]
  have hF2 := hF.kp (g := g) (fun a ha => gne a (by omega))
  have hT2 := hT.kp (g := g) (fun a ha => gne a (by omega))
  have hup := zp_up_le L P ord
  have h4' : g 128 4 = zp_up L P ord := h4
  have hto := zp_to_le L P ord re c
  refine zt_l (e_113_1_55 hT2.1 hF2.1) (zt_c (by omega) ?_)
  rw [(hF2.2.2.2.2.2.1 c hc).1, h4', hF2.2.2.1]
  refine zt_c (by omega) ?_
  have hmin : min (L : Int) ((zp_up L P ord : Int) + re c) = (zp_to L P ord re c : Int) := by unfold zp_to; omega
  rw [hmin]
  have gne2 : ∀ a : Nat, a ≠ 128 → zm_wr (zm_wr g 128 5 (zp_to L P ord re c)) 128 3 0 a = h a := fun a ha => by funext i; rw [zq_wr_n ha, zq_wr_n ha, gne a ha]
  refine s_113_1_85 ho hid  hB hc hP hto.1 (by omega) 8 0 _ _ (hF.kp (fun a ha => gne2 a (by omega))) (hT.kp (fun a ha => gne2 a (by omega))) (by omega) ?_ ?_ zq_wr_e (fun j hj => by omega) (fun g2 hg2 h3 hj => ⟨rfl, ?_, ?_, ?_, ?_, h3, hj⟩)
  · rw [zq_wr_i (by decide), zq_wr_i (by decide)]; exact h4'
  · rw [zq_wr_i (by decide), zq_wr_e]
  · intro a i hn
    unfold zf_Rs at hn
    rw [hg2 a i (by omega), gne2 a (by omega)]
  · rw [hg2 128 4 (by omega), zq_wr_i (by decide), zq_wr_i (by decide)]; exact h4'
  · rw [hg2 128 5 (by omega), zq_wr_i (by decide), zq_wr_e]
  · rw [hg2 128 6 (by omega), zq_wr_i (by decide), zq_wr_i (by decide)]; exact g6
/-- the loop that looks for the uppermost layer (order in 133) -/
theorem s_113_133_17 {o c : Nat} {ord : Nat → Nat} (ho : ∀ p, p < 5 → ord p < 5) (hB : zv_B K L C wo sz re fe ru lk) (hP : ∀ i, i < 40 → 0 ≤ P i ∧ P i ≤ 99) {Q : zm_V → zm_H → Prop} {w5 w6 : zm_V} : ∀ (n p : Nat) (h : zm_H), zv_F h t K L C wo sz re fe ru lk → zv_T h o P Pu Hd → (∀ p : Nat, p < 5 → h 133 p = ord p) → p + n = L → h 128 4 = p →
    (∀ g, zq_F (fun a i => a = 128 ∧ i = 4) h g → g 128 4 = zp_upf L P ord n p → zt (zr none 3 113 55 [zm_A 128, zm_A t, zm_A o, zm_I c, zm_A 133, w5, w6] [] g) Q) →
    zt (zr none 3 113 17 [zm_A 128, zm_A t, zm_A o, zm_I c, zm_A 133, w5, w6] [] h) Q := by
  intro n
  induction n with
  | zero =>
    intro p h hF hT hQ hp h4 hk
    refine zt_l (e_113_133_17 hT.1 hF.1) (zt_f ?_ (hk h zq_F_rf h4))
    rw [h4, hF.2.2.1]; omega
  | succ n ih =>
    intro p h hF hT hQ hp h4 hk
    have hL5 : L ≤ 5 := hB.2.1
    refine zt_l (e_113_133_17 hT.1 hF.1) (zt_t (by rw [h4, hF.2.2.1]; omega) (zt_c (by rw [h4]; omega) ?_))
    rw [h4, hQ p (by omega)]
    refine zt_I (s_150 hT hP (ho p (by omega))) ?_
    rintro z g ⟨rfl, rfl⟩
    refine zt_p (fun hz => ?_) (fun hz => hk g zq_F_rf ?_)
    · rw [h4]
      refine zt_c (by omega) ?_
      have hne : ∀ a : Nat, a ≠ 128 → zm_wr g 128 4 ((p : Int) + 1) a = g a := fun a ha => by funext i; exact zq_wr_n ha
      refine ih (p + 1) _ (hF.kp (fun a ha => hne a (by omega))) (hT.kp (fun a ha => hne a (by omega))) (fun p hp => by rw [hne 133 (by omega)]; exact hQ p hp) (by omega) zq_wr_e (fun g2 hg2 h42 => ?_)
      refine hk g2 (zq_F_tr (zq_F_wr ⟨rfl, rfl⟩) hg2) ?_
      rw [h42]
      conv => rhs; unfold zp_upf
      rw [if_pos ⟨by omega, hz⟩]
    · rw [h4]
      unfold zp_upf
      rw [if_neg (fun q => hz q.2)]
theorem s_113_133_106 {o c k f e : Nat} {ord : Nat → Nat} (ho : ∀ p, p < 5 → ord p < 5) (hk8 : k < 8) (he : e ≤ 5) (hP : ∀ i, i < 40 → 0 ≤ P i ∧ P i ≤ 99) {Q : zm_V → zm_H → Prop} : ∀ (n i : Nat) (h : zm_H), zf_F t → zv_T h o P Pu Hd → (∀ p : Nat, p < 5 → h 133 p = ord p) → f + i + n = e → h 128 5 = e → h 129 k = zq_S i (fun j => P (8 * ord (f + j) + k)) →
    (∀ g, zq_F (fun a i => a = 129 ∧ i = k) h g → g 129 k = zp_cnt P ord f e k → zt (zr none 3 113 106 [zm_A 128, zm_A t, zm_A o, zm_I c, zm_A 133, zm_I k, zm_I e] [] g) Q) →
    zt (zr none 3 113 106 [zm_A 128, zm_A t, zm_A o, zm_I c, zm_A 133, zm_I k, zm_I ((f + i : Nat) : Int)] [] h) Q := by
  intro n
  induction n with
  | zero =>
    intro i h ht hT hQ hi h5 hc hk
    have hie : f + i = e := by omega
    rw [hie]
    refine hk h zq_F_rf ?_
    rw [hc]; unfold zp_cnt
    rw [show e - f = i by omega]
  | succ n ih =>
    intro i h ht hT hQ hi h5 hc hk
    have bs := zq_S_le (n := i) (f := fun j => P (8 * ord (f + j) + k)) (m := 99) (fun j hj => hP _ (by have := ho (f + j) (by omega); omega))
    have hol := ho (f + i) (by omega)
    have bp := hP (8 * ord (f + i) + k) (by omega)
    have hi5 : (i : Int) ≤ 5 := by omega
    have hv : h (o + 1) ((ord (f + i) : Int) * 8 + (k : Int)) = P (8 * ord (f + i) + k) := by
      have := hT.2.1 (8 * ord (f + i) + k) (by omega)
      rw [← this]; congr 1; omega
    refine zt_l (e_113_133_106 hT.1 ht) (zt_t (by rw [h5]; omega) (zt_c (by omega) (zt_c (by omega) ?_)))
    rw [hQ (f + i) (by omega)]
    refine zt_c (by omega) (zt_c (by omega) (zt_c (by omega) ?_))
    rw [hv, hc]
    refine zt_c (by omega) (zt_c (by omega) (zt_c (by omega) ?_))
    have hne : ∀ a : Nat, a ≠ 129 → zm_wr h 129 k (zq_S i (fun j => P (8 * ord (f + j) + k)) + P (8 * ord (f + i) + k)) a = h a := fun a ha => by funext i; exact zq_wr_n ha
    refine ih (i + 1) _ ht (hT.kp (fun a ha => hne a (by omega))) (fun p hp => by rw [hne 133 (by omega)]; exact hQ p hp) (by omega) (by rw [hne 128 (by omega)]; exact h5) (by rw [zq_wr_e]; rfl) (fun g hg hc2 => hk g (zq_F_tr (zq_F_wr ⟨rfl, rfl⟩) hg) hc2)
theorem s_113_133_85 {o c : Nat} {ord : Nat → Nat} (ho : ∀ p, p < 5 → ord p < 5) (hB : zv_B K L C wo sz re fe ru lk) (hc : c < C) (hP : ∀ i, i < 40 → 0 ≤ P i ∧ P i ≤ 99) {f e : Nat} (hfe : f ≤ e) (he : e ≤ 5) {Q : zm_V → zm_H → Prop} : ∀ (n k : Nat) (h : zm_H) (w6 : zm_V), zv_F h t K L C wo sz re fe ru lk → zv_T h o P Pu Hd → (∀ p : Nat, p < 5 → h 133 p = ord p) → k + n = 8 → h 128 4 = f → h 128 5 = e → h 128 3 = zq_S k (zp_cnt P ord f e) →
    (∀ j : Nat, j < k → h 129 j = zp_cnt P ord f e j ∧ h 130 j = (if j < K then lk c j else 0) ∧ h 131 j = (if j < K then zp_key sz ru lk c j else 0)) →
    (∀ g, zq_F (fun a i => a = 129 ∨ a = 130 ∨ a = 131 ∨ (a = 128 ∧ i = 3)) h g → g 128 3 = zq_S 8 (zp_cnt P ord f e) → (∀ j : Nat, j < 8 → g 129 j = zp_cnt P ord f e j ∧ g 130 j = (if j < K then lk c j else 0) ∧ g 131 j = (if j < K then zp_key sz ru lk c j else 0)) → Q zm_U g) →
    zt (zr none 3 113 85 [zm_A 128, zm_A t, zm_A o, zm_I c, zm_A 133, zm_I k, w6] [] h) Q := by
  intro n
  induction n with
  | zero =>
    intro k h w6 hF hT hQ hn h4 h5 h3 hj hk
    refine zt_l (e_113_133_85 hT.1 hF.1) (zt_f (by omega) (zt_e ?_))
    have : k = 8 := by omega
    subst this
    exact hk h zq_F_rf h3 hj
  | succ n ih =>
    intro k h w6 hF hT hQ hn h4 h5 h3 hj hk
    refine zt_l (e_113_133_85 hT.1 hF.1) (zt_t (by omega) (zt_c (by omega) ?_))
    have hne : ∀ a : Nat, a ≠ 129 → zm_wr h 129 k 0 a = h a := fun a ha => by funext i; exact zq_wr_n ha
    rw [hne 128 (by omega), h4]
    have hF1 := hF.kp (g := zm_wr h 129 k 0) (fun a ha => hne a (by omega))
    have hT1 := hT.kp (g := zm_wr h 129 k 0) (fun a ha => hne a (by omega))
    refine s_113_133_106 ho (by omega : k < 8) he hP (e - f) 0 _ hF.1 hT1 (fun p hp => by rw [hne 133 (by omega)]; exact hQ p hp) (by omega) (by rw [hne 128 (by omega)]; exact h5) zq_wr_e (fun g hg hcn => ?_)
    have gne : ∀ a : Nat, a ≠ 129 → g a = h a := fun a ha => by
      funext i; rw [hg a i (fun q => ha q.1), hne a ha]
    have g129 : ∀ j : Nat, j ≠ k → g 129 j = h 129 j := fun j hjk => by
      rw [hg 129 j (fun q => hjk (by omega)), zq_wr_i (by omega)]
    have hF2 := hF.kp (g := g) (fun a ha => gne a (by omega))
    have hT2 := hT.kp (g := g) (fun a ha => gne a (by omega))
    have bc : ∀ j, j < 8 → 0 ≤ zp_cnt P ord f e j ∧ zp_cnt P ord f e j ≤ 495 := fun j hj => zp_cnt_b hj he ho hP
    have bs := zq_S_le (n := k) (f := zp_cnt P ord f e) (m := 495) (fun j hj => bc j (by omega))
    have bck := bc k (by omega)
    have hk8 : (k : Int) ≤ 8 := by omega
    refine zt_l (e_113_133_106 hT2.1 hF2.1) (zt_f (by rw [gne 128 (by omega), h5]; omega) (zt_c (by omega) ?_))
    rw [hcn, gne 128 (by omega), h3]
    refine zt_c (by omega) ?_
    have hK : K ≤ 8 := hB.1
    -- the four writes
    have fin : ∀ (v w : Int) (G : zm_H), v = (if k < K then lk c k else 0) → w = (if k < K then zp_key sz ru lk c k else 0) → G = zm_wr (zm_wr (zm_wr g 128 3 (zq_S k (zp_cnt P ord f e) + zp_cnt P ord f e k)) 130 k v) 131 k w → zt (zr none 3 113 85 [zm_A 128, zm_A t, zm_A o, zm_I c, zm_A 133, zm_I ((k : Int) + 1), zm_I e] [] G) Q := by
      intro v w G hv hw hG
      have Gne : ∀ a : Nat, a ≠ 129 → a ≠ 130 → a ≠ 131 → a ≠ 128 → G a = h a := fun a h1 h2 h3 h4 => by
        funext i; rw [hG, zq_wr_n h3, zq_wr_n h2, zq_wr_n h4, gne a h1]
      have G128 : ∀ i : Int, i ≠ 3 → G 128 i = h 128 i := fun i hi => by
        rw [hG, zq_wr_n (by decide), zq_wr_n (by decide), zq_wr_i hi, gne 128 (by omega)]
      refine ih (k + 1) G _ (hF.kp (fun a ha => Gne a (by omega) (by omega) (by omega) (by omega))) (hT.kp (fun a ha => Gne a (by omega) (by omega) (by omega) (by omega))) (fun p hp => by rw [Gne 133 (by omega) (by omega) (by omega) (by omega)]; exact hQ p hp) (by omega) (by rw [G128 4 (by decide)]; exact h4) (by rw [G128 5 (by decide)]; exact h5) ?_ (fun j hjk => ?_) (fun g2 hg2 h32 hj2 => ?_)
      · rw [hG, zq_wr_n (by decide), zq_wr_n (by decide), zq_wr_e]; rfl
      · by_cases hjk2 : j = k
        · subst hjk2
          refine ⟨?_, ?_, ?_⟩
          · rw [hG, zq_wr_n (by decide), zq_wr_n (by decide), zq_wr_n (by decide), hcn]
          · rw [hG, zq_wr_n (by decide), zq_wr_e, hv]
          · rw [hG, zq_wr_e, hw]
        · have := hj j (by omega)
          refine ⟨?_, ?_, ?_⟩
          · rw [hG, zq_wr_n (by decide), zq_wr_n (by decide), zq_wr_n (by decide), g129 j hjk2]; exact this.1
          · rw [hG, zq_wr_n (by decide), zq_wr_i (by omega), zq_wr_n (by decide), gne 130 (by omega)]; exact this.2.1
          · rw [hG, zq_wr_i (by omega), zq_wr_n (by decide), zq_wr_n (by decide), gne 131 (by omega)]; exact this.2.2
      · refine hk g2 (zq_F_tr (fun a i hn => ?_) hg2) h32 hj2
        by_cases ha : a = 128
        · subst ha; exact G128 i (fun q => hn (Or.inr (Or.inr (Or.inr ⟨rfl, q⟩))))
        · rw [Gne a (fun q => hn (Or.inl q)) (fun q => hn (Or.inr (Or.inl q))) (fun q => hn (Or.inr (Or.inr (Or.inl q)))) ha]
    have hwne : ∀ (x : zm_H) (i v : Int) (b : Nat), 128 ≤ b → ∀ a : Nat, a < 128 → zm_wr x b i v a = x a := fun x i v b hb a ha => by funext j; exact zq_wr_n (by omega)
    have tne : t < 128 := by have := zf_F_ne hF.1; omega
    rw [hwne g 3 _ 128 (by omega) t tne, hF2.2.1]
    refine zt_p (fun hkK => ?_) (fun hkK => ?_)
    · have hkK : k < K := by omega
      have hF3 := hF2.kp (g := zm_wr g 128 3 (zq_S k (zp_cnt P ord f e) + zp_cnt P ord f e k)) (fun a ha => hwne g 3 _ 128 (by omega) a (by omega))
      refine zt_I (s_64 hF3 hB hc hkK) ?_
      rintro z g3 ⟨rfl, rfl⟩
      refine zt_c (by omega) ?_
      rw [hwne _ k _ 130 (by omega) t tne, hF3.2.1]
      refine zt_t (by omega) ?_
      have hF4 := hF3.kp (g := zm_wr (zm_wr g 128 3 (zq_S k (zp_cnt P ord f e) + zp_cnt P ord f e k)) 130 k (lk c k)) (fun a ha => hwne _ k _ 130 (by omega) a (by omega))
      refine zt_I (s_65 hF4 hB hc hkK) ?_
      rintro z g4 ⟨rfl, rfl⟩
      refine zt_c (by omega) (zt_c (by omega) ?_)
      exact fin _ _ _ (by rw [if_pos hkK]) (by rw [if_pos hkK]) rfl
    · have hkK : ¬ k < K := by omega
      refine zt_c (by omega) ?_
      rw [hwne _ k 0 130 (by omega) t tne, hwne g 3 _ 128 (by omega) t tne, hF2.2.1]
      refine zt_f (by omega) (zt_c (by omega) (zt_c (by omega) ?_))
      exact fin _ _ _ (by rw [if_neg hkK]) (by rw [if_neg hkK]) rfl
/-- look: what lies within reach -/
theorem s_113_133 {o c : Nat} {ord : Nat → Nat} (ho : ∀ p, p < 5 → ord p < 5) (hB : zv_B K L C wo sz re fe ru lk) (hF : zv_F h t K L C wo sz re fe ru lk) (hT : zv_T h o P Pu Hd) (hP : ∀ i, i < 40 → 0 ≤ P i ∧ P i ≤ 99) (hQ : ∀ p : Nat, p < 5 → h 133 p = ord p) (hc : c < C) : zu (zc 113 [zm_A 128, zm_A t, zm_A o, zm_I c, zm_A 133] h) (fun g => zq_F zf_Rs h g ∧ zv_R g K L sz re fe ru lk P ord c) := by
  have b := hB.2.2.2.2.1 c hc
  have hC8 : C ≤ 8 := hB.2.2.1
  have hL5 : L ≤ 5 := hB.2.1
  obtain ⟨f1, f2, f3⟩ := hF.2.2.2.2.2.1 c hc
  refine zt_l (e_113_133 hT.1 hF.1) (zt_c (by omega) ?_)
  rw [f2]
  refine zt_c (by omega) ?_
  have hne : ∀ a : Nat, a ≠ 128 → zm_wr (zm_wr h 128 6 (fe c + 1)) 128 4 0 a = h a := fun a ha => by funext i; rw [zq_wr_n ha, zq_wr_n ha]
  refine s_113_133_17 ho  hB hP L 0 _ (hF.kp (fun a ha => hne a (by omega))) (hT.kp (fun a ha => hne a (by omega))) (fun p hp => by rw [hne 133 (by omega)]; exact hQ p hp) (by omega) zq_wr_e (fun g hg h4 => ?_)
  have gne : ∀ a : Nat, a ≠ 128 → g a = h a := fun a ha => by
    funext i; rw [hg a i (fun q => ha q.1), hne a ha]
  have g6 : g 128 6 = fe c + 1 := by rw [hg 128 6 (fun q => by omega), zq_wr_i (by decide), zq_wr_e]
  have hF2 := hF.kp (g := g) (fun a ha => gne a (by omega))
  have hT2 := hT.kp (g := g) (fun a ha => gne a (by omega))
  have hup := zp_up_le L P ord
  have h4' : g 128 4 = zp_up L P ord := h4
  have hto := zp_to_le L P ord re c
  refine zt_l (e_113_133_55 hT2.1 hF2.1) (zt_c (by omega) ?_)
  rw [(hF2.2.2.2.2.2.1 c hc).1, h4', hF2.2.2.1]
  refine zt_c (by omega) ?_
  have hmin : min (L : Int) ((zp_up L P ord : Int) + re c) = (zp_to L P ord re c : Int) := by unfold zp_to; omega
  rw [hmin]
  have gne2 : ∀ a : Nat, a ≠ 128 → zm_wr (zm_wr g 128 5 (zp_to L P ord re c)) 128 3 0 a = h a := fun a ha => by funext i; rw [zq_wr_n ha, zq_wr_n ha, gne a ha]
  refine s_113_133_85 ho  hB hc hP hto.1 (by omega) 8 0 _ _ (hF.kp (fun a ha => gne2 a (by omega))) (hT.kp (fun a ha => gne2 a (by omega))) (fun p hp => by rw [gne2 133 (by omega)]; exact hQ p hp) (by omega) ?_ ?_ zq_wr_e (fun j hj => by omega) (fun g2 hg2 h3 hj => ⟨rfl, ?_, ?_, ?_, ?_, h3, hj⟩)
  · rw [zq_wr_i (by decide), zq_wr_i (by decide)]; exact h4'
  · rw [zq_wr_i (by decide), zq_wr_e]
  · intro a i hn
    unfold zf_Rs at hn
    rw [hg2 a i (by omega), gne2 a (by omega)]
  · rw [hg2 128 4 (by omega), zq_wr_i (by decide), zq_wr_i (by decide)]; exact h4'
  · rw [hg2 128 5 (by omega), zq_wr_i (by decide), zq_wr_e]
  · rw [hg2 128 6 (by omega), zq_wr_i (by decide), zq_wr_i (by decide)]; exact g6
end
