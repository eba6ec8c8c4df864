/-! THE STATE OF BOTH SIDES, AND THEIR SMALL READERS -/
def zf_Cs (a : Nat) (_ : Int) : Prop := (128 ≤ a ∧ a ≤ 138) ∨ (141 ≤ a ∧ a ≤ 144)
def zf_Ds (a : Nat) (i : Int) : Prop := (184 ≤ a ∧ a ≤ 187) ∨ (189 ≤ a ∧ a ≤ 192) ∨ (a = 146 ∧ 60 ≤ i ∧ i ≤ 68)
def zv_C (h : zm_H) (t K L C : Nat) (wo sz re fe ru : Nat → Int) (lk : Nat → Nat → Int) (P Pu Hd : Nat → Int) (hr dp : Int) : Prop :=
  h 4 1 = t ∧ zv_F h t K L C wo sz re fe ru lk ∧ zv_T h 32 P Pu Hd ∧ h 32 0 = hr ∧ h 32 1 = dp
def zv_D (h : zm_H) (b K L C : Nat) (wo sz re fe ru : Nat → Int) (lk : Nat → Nat → Int) (P Pu Hd : Nat → Int) (hr dp : Int) : Prop :=
  zv_G h b K L C wo sz re fe ru lk ∧ zv_W h 0 P Pu Hd ∧ h 174 0 = hr ∧ h 175 0 = dp
def zv_X (K L C : Nat) (P Pu Hd : Nat → Int) (hr dp : Int) : Prop :=
  zv_P K L P ∧ zv_H K C Hd ∧ (∀ c, c < 8 → 0 ≤ Pu c ∧ Pu c ≤ 999) ∧ 0 ≤ hr ∧ hr ≤ 99 ∧ 0 ≤ dp ∧ dp ≤ 1000000
section
variable {h : zm_H} {t b K L C : Nat} {wo sz re fe ru : Nat → Int} {lk : Nat → Nat → Int} {P Pu Qu Hd : Nat → Int} {hr dp : Int}
theorem zv_C.kp {g : zm_H} (hC : zv_C h t K L C wo sz re fe ru lk P Pu Hd hr dp) (hg : zq_F zf_Cs h g) : zv_C g t K L C wo sz re fe ru lk P Pu Hd hr dp := by
  have kp : ∀ a : Nat, a < 128 → g a = h a := fun a ha => by funext i; exact hg a i (by unfold zf_Cs; omega)
  obtain ⟨h1, h2, h3, h4, h5⟩ := hC
  exact ⟨by rw [kp 4 (by omega)]; exact h1, h2.kp (fun a ha => kp a (by omega)), h3.kp (fun a ha => kp a ha), by rw [kp 32 (by omega)]; exact h4, by rw [kp 32 (by omega)]; exact h5⟩
theorem zv_D.kp {g : zm_H} (hD : zv_D h b K L C wo sz re fe ru lk P Qu Hd hr dp) (hg : zq_F zf_Ds h g) : zv_D g b K L C wo sz re fe ru lk P Qu Hd hr dp := by
  have kp : ∀ a : Nat, 147 ≤ a → a < 184 → g a = h a := fun a h1 h2 => by funext i; exact hg a i (by unfold zf_Ds; omega)
  obtain ⟨h1, h2, h3, h4⟩ := hD
  exact ⟨h1.kp (hg 146 13 (by unfold zf_Ds; omega)) (fun a ha hb => kp a ha (by omega)), h2.kp (fun a ha hb => kp a (by omega) (by omega)), by rw [kp 174 (by omega) (by omega)]; exact h3, by rw [kp 175 (by omega) (by omega)]; exact h4⟩
theorem zf_Rs_Cs {g : zm_H} (hg : zq_F zf_Rs h g) : zq_F zf_Cs h g := zq_F_wk hg (fun a i q => by unfold zf_Rs at q; unfold zf_Cs; omega)
theorem zf_Gs_Ds {g : zm_H} (hg : zq_F zf_Gs h g) : zq_F zf_Ds h g := zq_F_wk hg (fun a i q => by unfold zf_Gs at q; unfold zf_Ds; omega)
theorem s_11 (hC : zv_C h t K L C wo sz re fe ru lk P Pu Hd hr dp) (x : Int) : zi (zc 11 [zm_A 4, zm_I x] h) (fun z g => z = (if 0 ≤ x ∧ x < K then 1 else 0) ∧ g = h) := by
  refine zt_l (e_11 hC.2.1.1) (zt_p (fun hq => zt_c (by decide) (zi_e ⟨?_, rfl⟩)) (fun hq => zt_c hC.1 ?_))
  · rw [if_neg (by omega)]
  · rw [hC.2.1.2.1]
    refine zt_p (fun hq2 => zt_c (by decide) (zi_e ⟨?_, rfl⟩)) (fun hq2 => zt_c (by decide) (zi_e ⟨?_, rfl⟩))
    · rw [if_pos (by omega)]
    · rw [if_neg (by omega)]
theorem s_12 (hC : zv_C h t K L C wo sz re fe ru lk P Pu Hd hr dp) (x : Int) : zi (zc 12 [zm_A 4, zm_I x] h) (fun z g => z = (if 0 ≤ x ∧ x < C then 1 else 0) ∧ g = h) := by
  refine zt_l (e_12 hC.2.1.1) (zt_p (fun hq => zt_c (by decide) (zi_e ⟨?_, rfl⟩)) (fun hq => zt_c hC.1 ?_))
  · rw [if_neg (by omega)]
  · rw [hC.2.1.2.2.2.1]
    refine zt_p (fun hq2 => zt_c (by decide) (zi_e ⟨?_, rfl⟩)) (fun hq2 => zt_c (by decide) (zi_e ⟨?_, rfl⟩))
    · rw [if_pos (by omega)]
    · rw [if_neg (by omega)]
theorem s_15 (hC : zv_C h t K L C wo sz re fe ru lk P Pu Hd hr dp) (x : Int) : zi (zc 15 [zm_A 4, zm_I x] h) (fun z g => z = (if 0 ≤ x ∧ x < L then 1 else 0) ∧ g = h) := by
  refine zt_l (e_15 hC.2.1.1) (zt_p (fun hq => zt_c (by decide) (zi_e ⟨?_, rfl⟩)) (fun hq => zt_c hC.1 ?_))
  · rw [if_neg (by omega)]
  · rw [hC.2.1.2.2.1]
    refine zt_p (fun hq2 => zt_c (by decide) (zi_e ⟨?_, rfl⟩)) (fun hq2 => zt_c (by decide) (zi_e ⟨?_, rfl⟩))
    · rw [if_pos (by omega)]
    · rw [if_neg (by omega)]
theorem s_218 (hG : zv_G h b K L C wo sz re fe ru lk) (x : Int) : zi (zc 218 [zm_A 146, zm_I x] h) (fun z g => z = (if 0 ≤ x ∧ x < K then 1 else 0) ∧ g = h) := by
  have hb := hG.1
  refine zt_l e_218 (zt_p (fun hq => zt_c (by decide) (zi_e ⟨?_, rfl⟩)) (fun hq => ?_))
  · rw [if_neg (by omega)]
  · rw [hG.2.1, hG.2.2.1]
    refine zt_c (by omega) (zt_p (fun hq2 => zt_c (by decide) (zi_e ⟨?_, rfl⟩)) (fun hq2 => zt_c (by decide) (zi_e ⟨?_, rfl⟩)))
    · rw [if_pos (by omega)]
    · rw [if_neg (by omega)]
theorem s_221 (hG : zv_G h b K L C wo sz re fe ru lk) (x : Int) : zi (zc 221 [zm_A 146, zm_I x] h) (fun z g => z = (if 0 ≤ x ∧ x < L then 1 else 0) ∧ g = h) := by
  have hb := hG.1
  refine zt_l e_221 (zt_p (fun hq => zt_c (by decide) (zi_e ⟨?_, rfl⟩)) (fun hq => ?_))
  · rw [if_neg (by omega)]
  · rw [hG.2.1, hG.2.2.2.1]
    refine zt_c (by omega) (zt_p (fun hq2 => zt_c (by decide) (zi_e ⟨?_, rfl⟩)) (fun hq2 => zt_c (by decide) (zi_e ⟨?_, rfl⟩)))
    · rw [if_pos (by omega)]
    · rw [if_neg (by omega)]
theorem s_223 (hG : zv_G h b K L C wo sz re fe ru lk) (x : Int) : zi (zc 223 [zm_A 146, zm_I x] h) (fun z g => z = (if 0 ≤ x ∧ x < C then 1 else 0) ∧ g = h) := by
  have hb := hG.1
  refine zt_l e_223 (zt_p (fun hq => zt_c (by decide) (zi_e ⟨?_, rfl⟩)) (fun hq => ?_))
  · rw [if_neg (by omega)]
  · rw [hG.2.1, hG.2.2.2.2.1]
    refine zt_c (by omega) (zt_p (fun hq2 => zt_c (by decide) (zi_e ⟨?_, rfl⟩)) (fun hq2 => zt_c (by decide) (zi_e ⟨?_, rfl⟩)))
    · rw [if_pos (by omega)]
    · rw [if_neg (by omega)]
/-- the order as told -/
abbrev zp_id : Nat → Nat := fun p => p
theorem s_18 (hC : zv_C h t K L C wo sz re fe ru lk P Pu Hd hr dp) (hB : zv_B K L C wo sz re fe ru lk) (hX : zv_X K L C P Pu Hd hr dp) {c : Nat} (hc : c < C) : zu (zc 18 [zm_A 4, zm_I c] h) (fun g => zq_F zf_Rs h g ∧ zv_R g K L sz re fe ru lk P zp_id c) := by
  refine zt_l (e_18 hC.2.1.1) (zt_c hC.1 (zt_V (s_113_1 (ord := zp_id) (fun p hp => hp) (fun p => rfl) hB hC.2.1 hC.2.2.1 hX.1.1 hc) (fun g hg => zu_e hg)))
theorem s_225 : zu (zc 225 [zm_A 146] h) (fun g => zq_F (fun a _ => a = 185) h g ∧ ∀ p : Nat, p < 5 → g 185 p = p) := by
  have key : ∀ (n i : Nat) (g : zm_H), i + n = 5 → zq_F (fun a _ => a = 185) h g → (∀ p : Nat, p < i → g 185 p = p) → zu (zr none 1 225 2 [zm_A 146, zm_I i] [] g) (fun g => zq_F (fun a _ => a = 185) h g ∧ ∀ p : Nat, p < 5 → g 185 p = p) := by
    intro n
    induction n with
    | zero =>
      intro i g hi hg h1
      exact zt_l e_225_2 (zt_f (by omega) (zu_e ⟨hg, fun p hp => h1 p (by omega)⟩))
    | succ n ih =>
      intro i g hi hg h1
      refine zt_l e_225_2 (zt_t (by omega) (zt_c (by omega) (zt_c (by omega) ?_)))
      refine ih (i + 1) _ (by omega) (zq_F_tr hg (zq_F_wr rfl)) (fun p hp => ?_)
      by_cases hpi : p = i
      · subst hpi; exact zq_wr_e
      · rw [zq_wr_i (by omega)]; exact h1 p (by omega)
  exact zt_l e_225 (key 5 0 h (by omega) zq_F_rf (fun p hp => by omega))
/-- what the reference's canDip leaves -/
theorem s_231 (hD : zv_D h b K L C wo sz re fe ru lk P Qu Hd hr dp) (hB : zv_B K L C wo sz re fe ru lk) (hP : zv_P K L P) {c : Nat} (hc : c < C) : zi (zc 231 [zm_A 146, zm_I c] h) (fun z g => z = (if zq_S 8 (zp_cnt P zp_id (zp_up L P zp_id) (zp_to L P zp_id re c)) ≤ 0 then 0 else 1) ∧ zq_F zf_Ds h g ∧ zv_S g L re P zp_id c ∧ (∀ p : Nat, p < 5 → g 185 p = p)) := by
  refine zt_l e_231 (zt_I (s_223 hD.1 c) ?_)
  rintro z g ⟨rfl, rfl⟩
  have e0 : (if 0 ≤ (c : Int) ∧ (c : Int) < C then (1 : Int) else 0) = 1 := if_pos (by omega)
  rw [e0]
  refine zt_f (by decide) (zt_V s_225 ?_)
  rintro g1 ⟨f1, o1⟩
  have f1' : zq_F zf_Ds g g1 := zq_F_wk f1 (fun a i q => by unfold zf_Ds; omega)
  have hD1 := hD.kp f1'
  refine zt_V (s_226 (v := 0) (ord := zp_id) (fun p hp => hp) (fun p hp => o1 p (by have := hB.2.1; omega)) hD1.1 hB hD1.2.1 hP hc) ?_
  rintro g2 ⟨f2, s2⟩
  have f3 := zq_F_tr f1' (zf_Gs_Ds f2)
  have o2 : ∀ p : Nat, p < 5 → g2 185 p = p := fun p hp => by rw [zf_Gs_kp f2 (by decide) (by decide)]; exact o1 p hp
  rw [s2.1]
  refine zt_p (fun hq => zt_c (by decide) (zi_e ⟨by rw [if_pos hq], f3, s2, o2⟩)) (fun hq => zt_c (by decide) (zi_e ⟨by rw [if_neg hq], f3, s2, o2⟩))
end
