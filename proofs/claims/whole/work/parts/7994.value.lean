/-! SUMS AND TESTS: a number, or what is seen, in the reference -/
section
variable {h : zm_H} {T : Nat → Int} {n p b : Nat} {gl : Bool} {l : List Int}
theorem zy_nu_b (ht : zy_ty T n p gl = 2) : 0 ≤ zy_nu T n p ∧ zy_nu T n p ≤ 9999 := by
  unfold zy_nu
  unfold zy_ty at ht
  have hin := zy_rn_in T n 48 57 (n - zy_at T n p) (zy_at T n p)
  have hd : zy_dr T n (zy_at T n p) ≤ 4 := by
    split at ht
    · cases ht
    split at ht
    · split at ht <;> cases ht
    split at ht
    · split at ht
      · cases ht
      · next q => exact Classical.byContradiction (fun r => q (Or.inr (by omega)))
    · cases ht
  have := zy_nv_b (T := T) (a := zy_at T n p) (zy_dr T n (zy_at T n p)) hd (fun i hi => (hin i hi).2)
  exact ⟨this.1, this.2.1⟩
theorem s_184_171v {w1 w2 w3 : zm_V} (hw2 : zm_cat w2 ≠ 2) (hL : zy_L h T n p gl b l) (hp : p ≤ n) (ht : zy_ty T n p gl ≠ 4) (hl : l.length < 1600) (q40 : ¬ zy_sg T n p gl 40 = true) (q23 : zy_ow T n p gl ≠ 23) (q24 : zy_ow T n p gl ≠ 24) : zi (zr none 4 184 171 [zm_A 146, w1, w2, w3] [] h) (fun z g => z = 1 ∧ ((∃ c, ((zy_ty T n p gl = 2 ∧ c = zy_nu T n p) ∨ (zy_ty T n p gl ≠ 2 ∧ zy_se (zy_ow T n p gl) ≠ 0 ∧ c = zy_se (zy_ow T n p gl))) ∧ zq_F (fun a i => zf_Cd b a i ∨ zf_Sr a i) h g ∧ zy_L g T n (zy_en T n p) (zy_ng T n p gl) b (l ++ [c])) ∨ (zy_ty T n p gl ≠ 2 ∧ zy_se (zy_ow T n p gl) = 0 ∧ g = zm_wr (zm_wr h 146 8 1) 146 9 (zy_at T n p)))) := by
  have hR := hL.2.1
  have f8 := hL.2.2.1
  have fin : ∀ (s c : Int), (zy_ty T n p gl = 1 ∨ zy_ty T n p gl = 2) → zp_cr c s (h 146 6) → ((zy_ty T n p gl = 2 ∧ c = zy_nu T n p) ∨ (zy_ty T n p gl ≠ 2 ∧ zy_se (zy_ow T n p gl) ≠ 0 ∧ c = zy_se (zy_ow T n p gl))) → zi (if h 146 8 ≤ 0 then (zk_V (zc 189 [zm_A 146, zm_I s, zm_I (h 146 6)] h) (fun h8 => zk_V (zc 159 [zm_A 146] h8) (fun h9 => zm_ck (zm_bit 1) (some (zm_I 1, h9))))) else (zm_ck (zm_bit 1) (some (zm_I 1, h)))) (fun z g => z = 1 ∧ ((∃ c, ((zy_ty T n p gl = 2 ∧ c = zy_nu T n p) ∨ (zy_ty T n p gl ≠ 2 ∧ zy_se (zy_ow T n p gl) ≠ 0 ∧ c = zy_se (zy_ow T n p gl))) ∧ zq_F (fun a i => zf_Cd b a i ∨ zf_Sr a i) h g ∧ zy_L g T n (zy_en T n p) (zy_ng T n p gl) b (l ++ [c])) ∨ (zy_ty T n p gl ≠ 2 ∧ zy_se (zy_ow T n p gl) = 0 ∧ g = zm_wr (zm_wr h 146 8 1) 146 9 (zy_at T n p)))) := by
    intro s c ht2 hc hcc
    refine zt_t (by omega) (zt_V (s_189 hL hl hc) ?_)
    rintro g2 ⟨f2, L2⟩
    refine zt_V (s_159L L2 hp (by omega)) ?_
    rintro g3 ⟨f3, L3⟩
    exact zt_c (Or.inr rfl) (zi_e ⟨rfl, Or.inl ⟨c, hcc, zq_F_tr (zq_F_wk f2 (fun a i q => Or.inl q)) (zq_F_wk f3 (fun a i q => Or.inr q)), L3⟩⟩)
  have sg : ∀ c : Int, zi (zc 187 [zm_A 146, zm_I c] h) (fun z g => z = (if zy_sg T n p gl c = true then 1 else 0) ∧ g = h) := fun c => by
    refine zi_m (s_187 hR ht c) (fun z g q => ⟨?_, q.2⟩)
    rw [q.1]
    unfold zy_sg
    by_cases r : zy_ty T n p gl = 3 ∧ T (zy_at T n p) = c
    · rw [if_pos r, decide_eq_true r, if_pos rfl]
    · rw [if_neg r, decide_eq_false r, if_neg (by decide)]
  have se : ∀ (w : Nat) (x : Int), zy_ow T n p gl = w → zy_se w = x → x ≠ 0 → (zy_ty T n p gl = 1 ∨ zy_ty T n p gl = 2) ∧ ((zy_ty T n p gl = 2 ∧ x = zy_nu T n p) ∨ (zy_ty T n p gl ≠ 2 ∧ zy_se (zy_ow T n p gl) ≠ 0 ∧ x = zy_se (zy_ow T n p gl))) := fun w x e1 e2 e3 => by
    have h1 := zy_ow_ty (T := T) (n := n) (p := p) (g := gl) (by rw [e1]; omega)
    exact ⟨Or.inl h1, Or.inr ⟨by omega, by rw [e1, e2]; exact e3, by rw [e1, e2]⟩⟩
  refine zt_l (e_184_171 hw2) (zt_I (sg 40) ?_)
  rintro z g ⟨rfl, rfl⟩
  rw [if_neg q40]
  refine zt_t rfl (zt_I (s_165 (w := 23) hR ht (by decide) (by decide)) ?_)
  rintro z g ⟨rfl, rfl⟩
  rw [if_neg (show ¬ zy_ow T n p gl = ((23 : Nat) : Int) from q23)]
  refine zt_t rfl (zt_I (s_165 (w := 24) hR ht (by decide) (by decide)) ?_)
  rintro z g ⟨rfl, rfl⟩
  rw [if_neg (show ¬ zy_ow T n p gl = ((24 : Nat) : Int) from q24)]
  refine zt_t rfl ?_
  rw [(hR.2.2.1 ht).2.1]
  refine zt_p (fun q2 => zt_f (by decide) ?_) (fun q2 => ?_)
  · have q2' : zy_ty T n p gl = 2 := by omega
    have hv := hR.2.2.2.2.1 q2'
    have hb := zy_nu_b q2'
    exact fin 0 (zy_nu T n p) (Or.inr q2') (Or.inl ⟨hb.1, rfl, hv⟩) (Or.inl ⟨q2', rfl⟩)
  have n2 : zy_ty T n p gl ≠ 2 := by omega
  refine zt_I (s_165 (w := 15) hR ht (by decide) (by decide)) ?_
  rintro z g ⟨rfl, rfl⟩
  by_cases u1 : zy_ow T n p gl = ((15 : Nat) : Int)
  · rw [if_pos u1]
    have r := se 15 (-1) u1 rfl (by decide)
    exact zt_f (by decide) (zt_f (by decide) (fin 1 (-1) r.1 (by unfold zp_cr; omega) r.2))
  rw [if_neg u1]
  refine zt_t rfl (zt_I (s_165 (w := 16) hR ht (by decide) (by decide)) ?_)
  rintro z g ⟨rfl, rfl⟩
  by_cases u2 : zy_ow T n p gl = ((16 : Nat) : Int)
  · rw [if_pos u2]
    have r := se 16 (-2) u2 rfl (by decide)
    exact zt_f (by decide) (zt_f (by decide) (fin 2 (-2) r.1 (by unfold zp_cr; omega) r.2))
  rw [if_neg u2]
  refine zt_t rfl (zt_I (s_165 (w := 17) hR ht (by decide) (by decide)) ?_)
  rintro z g ⟨rfl, rfl⟩
  by_cases u3 : zy_ow T n p gl = ((17 : Nat) : Int)
  · rw [if_pos u3]
    have r := se 17 (-3) u3 rfl (by decide)
    exact zt_f (by decide) (zt_f (by decide) (fin 3 (-3) r.1 (by unfold zp_cr; omega) r.2))
  rw [if_neg u3]
  refine zt_t rfl (zt_I (s_165 (w := 1) hR ht (by decide) (by decide)) ?_)
  rintro z g ⟨rfl, rfl⟩
  by_cases u4 : zy_ow T n p gl = ((1 : Nat) : Int)
  · rw [if_pos u4]
    have r := se 1 (-4) u4 rfl (by decide)
    exact zt_f (by decide) (zt_f (by decide) (fin 4 (-4) r.1 (by unfold zp_cr; omega) r.2))
  rw [if_neg u4]
  refine zt_t rfl (zt_I (s_165 (w := 2) hR ht (by decide) (by decide)) ?_)
  rintro z g ⟨rfl, rfl⟩
  by_cases u5 : zy_ow T n p gl = ((2 : Nat) : Int)
  · rw [if_pos u5]
    have r := se 2 (-5) u5 rfl (by decide)
    exact zt_f (by decide) (zt_f (by decide) (fin 5 (-5) r.1 (by unfold zp_cr; omega) r.2))
  rw [if_neg u5]
  refine zt_t rfl (zt_I (s_165 (w := 18) hR ht (by decide) (by decide)) ?_)
  rintro z g ⟨rfl, rfl⟩
  by_cases u6 : zy_ow T n p gl = ((18 : Nat) : Int)
  · rw [if_pos u6]
    have r := se 18 (-6) u6 rfl (by decide)
    exact zt_f (by decide) (zt_f (by decide) (fin 6 (-6) r.1 (by unfold zp_cr; omega) r.2))
  rw [if_neg u6]
  have s0 : zy_se (zy_ow T n p gl) = 0 := by unfold zy_se; omega
  refine zt_t rfl (zt_t rfl ?_)
  rw [hR.1]
  refine zt_V (s_164y 1 _ f8) ?_
  rintro g3 rfl
  refine zt_f (by rw [zq_wr_i (by decide), zq_wr_e]; decide) (zt_c (Or.inr rfl) (zi_e ⟨rfl, Or.inr ⟨n2, s0, rfl⟩⟩))
end
