/-! THE REFERENCE'S FINDS -/
def zf_Gs (a : Nat) (i : Int) : Prop := a = 186 ∨ (a = 146 ∧ i = 68)
def zv_S (h : zm_H) (L : Nat) (re : Nat → Int) (P : Nat → Int) (ord : Nat → Nat) (c : Nat) : Prop :=
  h 146 68 = zq_S 8 (zp_cnt P ord (zp_up L P ord) (zp_to L P ord re c)) ∧ ∀ k : Nat, k < 8 → h 186 k = zp_cnt P ord (zp_up L P ord) (zp_to L P ord re c) k
section
variable {h : zm_H} {t b K L C : Nat} {wo sz re fe ru : Nat → Int} {lk : Nat → Nat → Int} {P Pu Hd : Nat → Int}
theorem zf_Gs_kp {g : zm_H} (hg : zq_F zf_Gs h g) {a : Nat} (ha : a ≠ 186) (hb : a ≠ 146) : g a = h a := by
  funext i
  exact hg a i (by unfold zf_Gs; omega)
theorem zf_Gs_i {g : zm_H} (hg : zq_F zf_Gs h g) {i : Int} (hi : i ≠ 68) : g 146 i = h 146 i := hg 146 i (by unfold zf_Gs; omega)
theorem zv_G.gs {g : zm_H} (hG : zv_G h b K L C wo sz re fe ru lk) (hg : zq_F zf_Gs h g) : zv_G g b K L C wo sz re fe ru lk := hG.kp (zf_Gs_i hg (by decide)) (fun a h1 h2 => zf_Gs_kp hg (by omega) (by omega))
theorem zv_W.gs {g : zm_H} {v : Nat} (hW : zv_W h v P Pu Hd) (hg : zq_F zf_Gs h g) : zv_W g v P Pu Hd := hW.kp (fun a h1 h2 => zf_Gs_kp hg (by omega) (by omega))
theorem s_226 {v c : Nat} {ord : Nat → Nat} (ho : ∀ p, p < 5 → ord p < 5) (hQ : ∀ p : Nat, p < L → h 185 p = ord p) (hG : zv_G h b K L C wo sz re fe ru lk) (hB : zv_B K L C wo sz re fe ru lk) (hW : zv_W h v P Pu Hd) (hP : zv_P K L P) (hc : c < C) : zu (zc 226 [zm_A 146, zm_I v, zm_I c] h) (fun g => zq_F zf_Gs h g ∧ zv_S g L re P ord c) := by
  have hL5 : L ≤ 5 := hB.2.1
  have hK8 : K ≤ 8 := hB.1
  have hb := hG.1
  have hto := zp_to_le L P ord re c
  generalize hf : zp_up L P ord = f at hto
  generalize he : zp_to L P ord re c = e at hto
  have pk : ∀ (i k : Nat), f + i < e → k < 8 → 0 ≤ P (8 * ord (f + i) + k) ∧ P (8 * ord (f + i) + k) ≤ 99 := fun i k hi hk => hP.1 _ (by have := ho (f + i) (by omega); omega)
  have bS : ∀ (i k : Nat), f + i ≤ e → k < 8 → 0 ≤ zq_S i (fun j => P (8 * ord (f + j) + k)) ∧ zq_S i (fun j => P (8 * ord (f + j) + k)) ≤ 495 := fun i k hi hk => by
    have := zq_S_le (n := i) (f := fun j => P (8 * ord (f + j) + k)) (m := 99) (fun j hj => pk j k (by omega) hk)
    have h5 : (i : Int) ≤ 5 := by omega
    omega
  have bT : ∀ i : Nat, f + i ≤ e → 0 ≤ zq_S i (fun j => zp_sl P (ord (f + j))) ∧ zq_S i (fun j => zp_sl P (ord (f + j))) ≤ 3960 := fun i hi => by
    have := zq_S_le (n := i) (f := fun j => zp_sl P (ord (f + j))) (m := 792) (fun j hj => zp_sl_b (ho _ (by omega)) hP.1)
    have h5 : (i : Int) ≤ 5 := by omega
    omega
  -- the inner loop
  have inner : ∀ (i : Nat), f + i < e → ∀ (n m : Nat) (g : zm_H) (Q : zm_V → zm_H → Prop), m + n = K → zq_F zf_Gs h g → (∀ k : Nat, k < m → g 186 k = zq_S (i + 1) (fun j => P (8 * ord (f + j) + k))) → (∀ k : Nat, m ≤ k → k < 8 → g 186 k = (if k < K then zq_S i (fun j => P (8 * ord (f + j) + k)) else 0)) → g 146 68 = zq_S i (fun j => zp_sl P (ord (f + j))) + zq_S m (fun k => P (8 * ord (f + i) + k)) →
      (∀ g2, zq_F zf_Gs h g2 → (∀ k : Nat, k < 8 → g2 186 k = (if k < K then zq_S (i + 1) (fun j => P (8 * ord (f + j) + k)) else 0)) → g2 146 68 = zq_S (i + 1) (fun j => zp_sl P (ord (f + j))) → zt (zr none 5 226 32 [zm_A 146, zm_I v, zm_I c, zm_I ((f + (i + 1) : Nat) : Int), zm_I K] [] g2) Q) →
      zt (zr none 5 226 45 [zm_A 146, zm_I v, zm_I c, zm_I ((f + i : Nat) : Int), zm_I m] [] g) Q := by
    intro i hi n
    have hoi := ho (f + i) (by omega)
    induction n with
    | zero =>
      intro m g Q hm hg h1 h2 h3 hk
      have hmK : m = K := by omega
      subst hmK
      refine zt_l e_226_45 ?_
      rw [(hG.gs hg).2.1, (hG.gs hg).2.2.1]
      refine zt_c (by omega) (zt_f (by omega) (zt_c (by omega) (hk g hg (fun k hk8 => ?_) ?_)))
      · by_cases hkm : k < m
        · rw [if_pos hkm]; exact h1 k hkm
        · rw [if_neg hkm, h2 k (by omega) hk8, if_neg hkm]
      · rw [h3, zp_sl_K hP hoi hK8]; rfl
    | succ n ih =>
      intro m g Q hm hg h1 h2 h3 hk
      have hGg := hG.gs hg
      have hWg := hW.gs hg
      have h185 : g 185 ((f + i : Nat) : Int) = (ord (f + i) : Int) := by rw [zf_Gs_kp hg (by decide) (by decide)]; exact hQ _ (by omega)
      have hm8 : (m : Int) ≤ 7 := by omega
      have b1 := bS i m (by omega) (by omega)
      have b2 := pk i m hi (by omega)
      have b3 := bT i (by omega)
      have b4 := zq_S_le (n := m) (f := fun k => P (8 * ord (f + i) + k)) (m := 99) (fun j hj => pk i j hi (by omega))
      have hgm : g 186 m = zq_S i (fun j => P (8 * ord (f + j) + m)) := by rw [h2 m (by omega) (by omega), if_pos (by omega)]
      refine zt_l e_226_45 ?_
      rw [hGg.2.1, hGg.2.2.1]
      refine zt_c (by omega) (zt_t (by omega) (zt_c (by omega) (zt_c (by omega) ?_)))
      rw [h185]
      refine zt_I (s_206 hWg hoi (by omega)) ?_
      rintro z g1 ⟨rfl, rfl⟩
      rw [hgm]
      refine zt_c (by omega) (zt_c (by omega) (zt_c (by omega) ?_))
      have n185 : ∀ (x v : Int), zm_wr g1 186 x v 185 ((f + i : Nat) : Int) = (ord (f + i) : Int) := fun x v => by rw [zq_wr_n (by decide)]; exact h185
      rw [n185]
      have hg2 : zq_F zf_Gs h (zm_wr g1 186 m (zq_S i (fun j => P (8 * ord (f + j) + m)) + P (8 * ord (f + i) + m))) := zq_F_tr hg (zq_F_wr (Or.inl rfl))
      refine zt_I (s_206 (hW.gs hg2) hoi (by omega)) ?_
      rintro z g2 ⟨rfl, rfl⟩
      rw [zq_wr_n (by decide), h3]
      refine zt_c (by omega) (zt_c (by omega) ?_)
      refine ih (m + 1) _ Q (by omega) (zq_F_tr hg2 (zq_F_wr (Or.inr ⟨rfl, rfl⟩))) (fun k hk2 => ?_) (fun k hk1 hk2 => ?_) ?_ hk
      · rw [zq_wr_n (by decide)]
        by_cases hkm : k = m
        · subst hkm; rw [zq_wr_e]; rfl
        · rw [zq_wr_i (by omega)]; exact h1 k (by omega)
      · rw [zq_wr_n (by decide), zq_wr_i (by omega)]; exact h2 k (by omega) hk2
      · rw [zq_wr_e]; simp only [zq_S]; omega
  -- the outer loop
  have outer : ∀ (n i : Nat) (g : zm_H) (w4 : zm_V), f + i + n = e → zq_F zf_Gs h g → (∀ k : Nat, k < 8 → g 186 k = (if k < K then zq_S i (fun j => P (8 * ord (f + j) + k)) else 0)) → g 146 68 = zq_S i (fun j => zp_sl P (ord (f + j))) → zu (zr none 5 226 32 [zm_A 146, zm_I v, zm_I c, zm_I ((f + i : Nat) : Int), w4] [] g) (fun g => zq_F zf_Gs h g ∧ zv_S g L re P ord c) := by
    intro n
    induction n with
    | zero =>
      intro i g w4 hi hg h1 h2
      have hQg : ∀ p : Nat, p < L → g 185 p = ord p := fun p hp => by rw [zf_Gs_kp hg (by decide) (by decide)]; exact hQ p hp
      refine zt_l e_226_32 (zt_I (s_228 ho hQg (hG.gs hg) hB (hW.gs hg) hP hc) ?_)
      rintro z g2 ⟨rfl, rfl⟩
      rw [he]
      refine zt_f (by omega) (zu_e ⟨hg, ?_, fun k hk => ?_⟩)
      · rw [h2, hf, he]
        show zq_S i (fun j => zp_sl P (ord (f + j))) = zq_S 8 (fun k => zp_cnt P ord f e k)
        unfold zp_cnt zp_sl
        rw [zq_S_swap, show e - f = i by omega]
      · rw [h1 k hk, hf, he]
        unfold zp_cnt
        rw [show e - f = i by omega]
        split
        · rfl
        · exact (zq_S_zero (fun j hj => hP.2 _ (by have := ho (f + j) (by omega); omega) (Or.inr (by omega)))).symm
    | succ n ih =>
      intro i g w4 hi hg h1 h2
      have hQg : ∀ p : Nat, p < L → g 185 p = ord p := fun p hp => by rw [zf_Gs_kp hg (by decide) (by decide)]; exact hQ p hp
      refine zt_l e_226_32 (zt_I (s_228 ho hQg (hG.gs hg) hB (hW.gs hg) hP hc) ?_)
      rintro z g2 ⟨rfl, rfl⟩
      rw [he]
      refine zt_t (by omega) (inner i (by omega) K 0 g2 _ (by omega) hg (fun k hk => by omega) (fun k _ hk => h1 k hk) (by rw [h2]; simp [zq_S]) (fun g3 hg3 h13 h23 => ?_))
      exact ih (i + 1) g3 _ (by omega) hg3 h13 h23
  -- the row is emptied
  have clear : ∀ (n m : Nat) (g : zm_H) (w4 : zm_V), m + n = 8 → zq_F zf_Gs h g → g 146 68 = 0 → (∀ k : Nat, k < m → g 186 k = 0) → zu (zr none 5 226 7 [zm_A 146, zm_I v, zm_I c, zm_I m, w4] [] g) (fun g => zq_F zf_Gs h g ∧ zv_S g L re P ord c) := by
    intro n
    induction n with
    | zero =>
      intro m g w4 hm hg h1 h2
      have hQg : ∀ p : Nat, p < L → g 185 p = ord p := fun p hp => by rw [zf_Gs_kp hg (by decide) (by decide)]; exact hQ p hp
      refine zt_l e_226_7 (zt_f (by omega) (zt_I (s_227 ho hQg (hG.gs hg) hB (hW.gs hg) hP) ?_))
      rintro z g2 ⟨rfl, rfl⟩
      rw [hf]
      refine outer (e - f) 0 g2 _ (by omega) hg (fun k hk => ?_) (by rw [h1]; rfl)
      rw [h2 k (by omega)]
      split <;> rfl
    | succ n ih =>
      intro m g w4 hm hg h1 h2
      refine zt_l e_226_7 (zt_t (by omega) (zt_c (by omega) (zt_c (by omega) ?_)))
      refine ih (m + 1) _ _ (by omega) (zq_F_tr hg (zq_F_wr (Or.inl rfl))) (by rw [zq_wr_n (by decide)]; exact h1) (fun k hk => ?_)
      by_cases hkm : k = m
      · subst hkm; exact zq_wr_e
      · rw [zq_wr_i (by omega)]; exact h2 k (by omega)
  exact zt_l e_226 (clear 8 0 _ _ (by omega) (zq_F_wr (Or.inr ⟨rfl, rfl⟩)) zq_wr_e (fun k hk => by omega))
end
