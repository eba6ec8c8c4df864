/-! THE CLASS'S SCANNER: numbers, signs, on to the next -/
section
variable {h : zm_H} {T : Nat → Int} {n : Nat}
theorem zy_nv_b {T : Nat → Int} {a : Nat} : ∀ j, j ≤ 4 → (∀ i, i < j → 48 ≤ T (a + i) ∧ T (a + i) ≤ 57) → 0 ≤ zy_nv T a j ∧ zy_nv T a j ≤ 9999 ∧ (j ≤ 3 → zy_nv T a j ≤ 999) ∧ (j ≤ 2 → zy_nv T a j ≤ 99) ∧ (j ≤ 1 → zy_nv T a j ≤ 9) ∧ (j = 0 → zy_nv T a j = 0) := by
  intro j
  induction j with
  | zero => intro _ _; unfold zy_nv; omega
  | succ j ih =>
    intro hj h
    have h1 := ih (by omega) (fun i hi => h i (by omega))
    have h2 := h j (by omega)
    unfold zy_nv
    omega
theorem s_135 {a : Nat} (hT : zy_CT h T n) (ha : a < n) (h2 : h 30 2 = a) (h6 : h 30 6 = a) (h4 : h 30 4 = 0) (h7 : h 30 7 = a) : zu (zc 135 [zm_A 30] h) (fun g => zq_F zf_Sc h g ∧ g 30 6 = a ∧ ((zy_dr T n a ≤ 4 ∧ g 30 3 = 2 ∧ g 30 2 = ((a + zy_dr T n a : Nat) : Int) ∧ g 30 4 = zy_nv T a (zy_dr T n a) ∧ g 30 7 = a) ∨ (4 < zy_dr T n a ∧ g 30 3 = 4 ∧ g 30 7 = ((a + 4 : Nat) : Int)))) := by
  have hle := zy_rn_le T n 48 57 (n - a) a (by omega)
  have hin := zy_rn_in T n 48 57 (n - a) a
  have hout := zy_rn_out T n 48 57 (n - a) a (by omega)
  have key : ∀ (m j : Nat) (g : zm_H), j + m = min 4 (zy_dr T n a) → zq_F zf_Sc h g → g 30 3 = 2 → g 30 2 = ((a + j : Nat) : Int) → g 30 6 = a → g 30 4 = zy_nv T a j → g 30 7 = a → zu (zr none 1 135 5 [zm_A 30] [] g) (fun g => zq_F zf_Sc h g ∧ g 30 6 = a ∧ ((zy_dr T n a ≤ 4 ∧ g 30 3 = 2 ∧ g 30 2 = ((a + zy_dr T n a : Nat) : Int) ∧ g 30 4 = zy_nv T a (zy_dr T n a) ∧ g 30 7 = a) ∨ (4 < zy_dr T n a ∧ g 30 3 = 4 ∧ g 30 7 = ((a + 4 : Nat) : Int)))) := by
    intro m
    induction m with
    | zero =>
      intro j g hj fg g3 g2 g6 g4 g7
      have hTg := hT.kp fg
      have hle' : a + zy_dr T n a ≤ n := hle
      refine zt_l e_135_5 ?_
      rw [g2, hTg.2.2.1, g6]
      by_cases h6 : zy_dr T n a ≤ 4
      · have hj' : j = zy_dr T n a := by omega
        subst hj'
        have fin : zq_F zf_Sc h g ∧ g 30 6 = a ∧ ((zy_dr T n a ≤ 4 ∧ g 30 3 = 2 ∧ g 30 2 = ((a + zy_dr T n a : Nat) : Int) ∧ g 30 4 = zy_nv T a (zy_dr T n a) ∧ g 30 7 = a) ∨ (4 < zy_dr T n a ∧ g 30 3 = 4 ∧ g 30 7 = ((a + 4 : Nat) : Int))) := ⟨fg, g6, Or.inl ⟨h6, g3, g2, g4, g7⟩⟩
        refine zt_p (fun q => ?_) (fun q => zu_e fin)
        have hn : a + zy_dr T n a < n := by omega
        rw [hTg.2.2.2.1 _ hn]
        refine zt_c (by have := hT.1; omega) (zt_p (fun q1 => zu_e fin) (fun q1 => zt_c (by have := hT.1; omega) (zt_p (fun q2 => zu_e fin) (fun q2 => ?_))))
        exact absurd ⟨hn, show 48 ≤ T (a + zy_dr T n a) by omega, show T (a + zy_dr T n a) ≤ 57 by omega⟩ hout
      · have hj' : j = 4 := by omega
        subst hj'
        have h1 := hin 4 (show 4 < zy_dr T n a by omega)
        rw [hTg.2.2.2.1 _ h1.1]
        have := hT.1
        refine zt_t (by omega) (zt_c (by omega) (zt_f (by omega) (zt_c (by omega) (zt_f (by omega) (zt_c (by omega) (zt_t (by omega) (zu_e ⟨zq_F_tr fg (zq_F_tr (zq_F_wr ⟨rfl, by decide, by decide⟩) (zq_F_wr ⟨rfl, by decide, by decide⟩)), ?_, Or.inr ⟨by omega, ?_, ?_⟩⟩)))))))
        · rw [zq_wr_i (by decide), zq_wr_i (by decide)]; exact g6
        · rw [zq_wr_i (by decide), zq_wr_e]
        · rw [zq_wr_e, zq_wr_i (by decide)]; exact g2
    | succ m ih =>
      intro j g hj fg g3 g2 g6 g4 g7
      have hTg := hT.kp fg
      have h1 := hin j (show j < zy_dr T n a by omega)
      have hb := zy_nv_b (T := T) (a := a) j (by omega) (fun i hi => (hin i (show i < zy_dr T n a by omega)).2)
      have ev : zy_nv T a j * 10 + T (a + j) - 48 = zy_nv T a (j + 1) := by
        show _ = zy_nv T a j * 10 + (T (a + j) - 48); omega
      refine zt_l e_135_5 ?_
      have e2 : ∀ v : Int, zm_wr g 30 4 v 30 2 = ((a + j : Nat) : Int) := fun v => by rw [zq_wr_i (by decide)]; exact g2
      rw [e2, g2, hTg.2.2.1, g6, hTg.2.2.2.1 _ h1.1, g4]
      have := hT.1
      refine zt_t (by omega) (zt_c (by omega) (zt_f (by omega) (zt_c (by omega) (zt_f (by omega) (zt_c (by omega) (zt_f (by omega) (zt_c (by omega) (zt_c (by omega) (zt_c (by omega) (zt_c (by omega) (zt_c (by omega) ?_)))))))))))
      rw [ev]
      refine ih (j + 1) _ (by omega) (zq_F_tr fg (zq_F_tr (zq_F_wr ⟨rfl, by decide, by decide⟩) (zq_F_wr ⟨rfl, by decide, by decide⟩))) ?_ ?_ ?_ ?_ ?_
      · rw [zq_wr_i (by decide), zq_wr_i (by decide)]; exact g3
      · rw [zq_wr_e]; omega
      · rw [zq_wr_i (by decide), zq_wr_i (by decide)]; exact g6
      · rw [zq_wr_i (by decide), zq_wr_e]
      · rw [zq_wr_i (by decide), zq_wr_i (by decide)]; exact g7
  refine zt_l e_135 (key (min 4 (zy_dr T n a)) 0 _ (by omega) (zq_F_wr ⟨rfl, by decide, by decide⟩) zq_wr_e ?_ ?_ ?_ ?_)
  · rw [zq_wr_i (by decide)]; exact h2
  · rw [zq_wr_i (by decide)]; exact h6
  · rw [zq_wr_i (by decide)]; exact h4
  · rw [zq_wr_i (by decide)]; exact h7
/-- the end of advance: what it is, and which OWN WORD -/
theorem s_133_199 {w1 w2 w3 w4 : zm_V} {l : List Nat} (hw3 : zm_cat w3 ≠ 2) (hT : zy_CT h T n) (hl : h 30 3 = 1 → zp_nm l ∧ h 30 4 = (zp_p5 l : Nat)) : zu (zr none 2 133 199 [zm_A 30, w1, w2, w3, w4] [] h) (fun g => g = zm_wr h 30 5 (if h 30 3 = 1 then zy_fi l 25 0 else -1)) := by
  refine zt_l (e_133_199 hw3) (zt_t rfl (zt_p (fun q => ?_) (fun q => zu_e (by rw [if_neg q]))))
  rw [(hl q).2]
  refine zt_I (s_137 hT (hl q).1) ?_
  rintro z g ⟨rfl, rfl⟩
  exact zu_e (by rw [if_pos q])
theorem s_133_183 {x1 : Int} {q : Nat} {w3 w4 : zm_V} {l : List Nat} (hw3 : zm_cat w3 ≠ 2) (hT : zy_CT h T n) (hl : h 30 3 = 1 → zp_nm l ∧ h 30 4 = (zp_p5 l : Nat)) : zu (zr none 2 133 183 [zm_A 30, zm_I x1, zm_I q, w3, w4] [] h) (fun g => (¬ (x1 ≠ 0 ∧ (q : Int) = h 30 6 ∧ h 30 3 ≠ 3 ∧ h 30 3 ≠ 0) ∧ g = zm_wr h 30 5 (if h 30 3 = 1 then zy_fi l 25 0 else -1)) ∨ ((x1 ≠ 0 ∧ (q : Int) = h 30 6 ∧ h 30 3 ≠ 3 ∧ h 30 3 ≠ 0) ∧ g = zm_wr (zm_wr (zm_wr h 30 3 4) 30 7 (h 30 6)) 30 5 (-1))) := by
  have one : zu (if h 30 3 = 1 then (zk_I (zc 137 [zm_A 30, zm_I (h 30 4)] h) (fun v1 h2 => some (zm_U, (zm_wr h2 30 5 v1)))) else (some (zm_U, (zm_wr h 30 5 (-1))))) (fun g => g = zm_wr h 30 5 (if h 30 3 = 1 then zy_fi l 25 0 else -1)) := by
    refine zt_p (fun q => ?_) (fun q => zu_e (by rw [if_neg q]))
    rw [(hl q).2]
    refine zt_I (s_137 hT (hl q).1) ?_
    rintro z g ⟨rfl, rfl⟩
    exact zu_e (by rw [if_pos q])
  have e6 : zm_wr h 30 3 4 30 6 = h 30 6 := zq_wr_i (by decide)
  have e3 : zm_wr (zm_wr h 30 3 4) 30 7 (h 30 6) 30 3 = 4 := by rw [zq_wr_i (by decide), zq_wr_e]
  refine zt_l (e_133_183 hw3) ?_
  rw [e6, e3]
  refine zt_p (fun q0 => ?_) (fun q0 => zt_p (fun q1 => zt_f (by decide) (zt_p (fun q2 => ?_) (fun q2 => zt_p (fun q3 => ?_) (fun q3 => zt_f (by decide) (zu_e (Or.inr ⟨⟨q0, q1, q2, q3⟩, rfl⟩)))))) (fun q1 => ?_))
  · exact zu_m (s_133_199 hw3 hT hl) (fun g r => Or.inl ⟨fun s => s.1 q0, r⟩)
  · exact zu_m one (fun g r => Or.inl ⟨fun s => s.2.2.1 q2, r⟩)
  · exact zu_m one (fun g r => Or.inl ⟨fun s => s.2.2.2 q3, r⟩)
  · exact zu_m (s_133_199 hw3 hT hl) (fun g r => Or.inl ⟨fun s => q1 s.2.1, r⟩)
end
