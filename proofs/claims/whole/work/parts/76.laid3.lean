/-! LAID: the reference -/
theorem zp_lo_dl {L x p : Nat} (hp : p < L) : zp_lo (zp_dl L x) p = zp_dg L x p := by
  unfold zp_lo zp_dl
  simp [hp]
theorem zp_fs_s {f : List Nat → Int} {L x : Nat} : zp_fs f L (x + 1) = if zp_ip L x = true then zp_stp f (zp_fs f L x) (zp_dl L x) else zp_fs f L x := by
  unfold zp_fs
  rw [List.range_succ, List.filter_append, List.map_append, List.foldl_append]
  by_cases q : zp_ip L x = true
  · rw [if_pos q, List.filter_cons_of_pos q]; rfl
  · rw [if_neg q, List.filter_cons_of_neg q]; rfl
theorem zp_fs_n {f : List Nat → Int} {L : Nat} : zp_fs f L (L ^ L) = zp_bst f L := rfl
theorem zp_fs_1 {f : List Nat → Int} {L : Nat} : ∀ x, -1 ≤ (zp_fs f L x).1 := by
  intro x
  induction x with
  | zero => exact Int.le_refl _
  | succ x ih =>
    rw [zp_fs_s]
    split
    · have := (zp_stp_ge (f := f) (s := zp_fs f L x) (l := zp_dl L x)).1; omega
    · exact ih
theorem zp_LL {L : Nat} (h1 : 1 ≤ L) (h5 : L ≤ 5) : L ^ L ≤ 3125 := by
  have h : L = 1 ∨ L = 2 ∨ L = 3 ∨ L = 4 ∨ L = 5 := by omega
  rcases h with rfl | rfl | rfl | rfl | rfl <;> decide
theorem zp_dg_lt {L x p : Nat} (h1 : 1 ≤ L) : zp_dg L x p < L := Nat.mod_lt _ h1
section
variable {h : zm_H} {t b K L C : Nat} {wo sz re fe ru : Nat → Int} {lk : Nat → Nat → Int} {P Pu Qu Hd : Nat → Int} {hr dp : Int}
theorem s_245 {x : Nat} (hG : zv_G h b K L C wo sz re fe ru lk) (hL : 1 ≤ L ∧ L ≤ 5) (hx : x < L ^ L) : zi (zc 245 [zm_A 146, zm_I x] h) (fun z g => z = (if zp_ip L x = true then 1 else 0) ∧ zq_F (fun a _ => a = 185) h g ∧ ∀ p : Nat, p < L → g 185 p = zp_dg L x p) := by
  have hb := hG.1
  have hLL := zp_LL hL.1 hL.2
  have kG : ∀ g, zq_F (fun a _ => a = 185) h g → zv_G g b K L C wo sz re fe ru lk := fun g fg => hG.kp (fg 146 13 (by omega)) (fun a h1 h2 => by funext i; exact fg a i (by omega))
  have mask : ∀ (m i acc : Nat) (g : zm_H) (w1 w2 : zm_V), zm_cat w2 ≠ 2 → i + m = L → acc < 256 → zq_F (fun a _ => a = 185) h g → (∀ p : Nat, p < L → g 185 p = zp_dg L x p) → zi (zr none 1 245 58 [zm_A 146, w1, w2, zm_I acc, zm_I i] [] g) (fun z g => z = (if (zp_mk (zp_dg L x) m i acc == 2 ^ L - 1) = true then 1 else 0) ∧ zq_F (fun a _ => a = 185) h g ∧ ∀ p : Nat, p < L → g 185 p = zp_dg L x p) := by
    intro m
    induction m with
    | zero =>
      intro i acc g w1 w2 hw2 hi hacc fg hg
      have hp2 : 2 ^ L ≤ 32 := show 2 ^ L ≤ 2 ^ 5 from zb_p2 hL.2
      have hp1 : 1 ≤ 2 ^ L := Nat.pow_pos (by decide)
      have es : zb_ishl 1 (L : Int) = ((2 ^ L : Nat) : Int) := by rw [zb_shl (by decide) (by omega) (by omega)]; omega
      refine zt_l (e_245_58 hw2) ?_
      rw [(kG g fg).2.1, (kG g fg).2.2.2.1, es]
      refine zt_c (by omega) (zt_f (by omega) (zt_c (by omega) (zt_c (by omega) (zt_p (fun q => zt_c (Or.inr rfl) (zi_e ⟨?_, fg, hg⟩)) (fun q => zt_c (Or.inl rfl) (zi_e ⟨?_, fg, hg⟩))))))
      · unfold zp_mk; rw [if_pos (by rw [beq_iff_eq]; omega)]
      · unfold zp_mk; rw [if_neg (by rw [beq_iff_eq]; omega)]
    | succ m ih =>
      intro i acc g w1 w2 hw2 hi hacc fg hg
      have hd := zp_dg_lt (L := L) (x := x) (p := i) hL.1
      have hp2 : 2 ^ zp_dg L x i < 256 := Nat.lt_of_le_of_lt (show 2 ^ zp_dg L x i ≤ 2 ^ 5 from zb_p2 (by omega)) (by decide)
      have es : zb_ishl 1 ((zp_dg L x i : Nat) : Int) = ((2 ^ zp_dg L x i : Nat) : Int) := by rw [zb_shl (by decide) (by omega) (by omega)]; omega
      unfold zp_mk
      refine zt_l (e_245_58 hw2) ?_
      rw [(kG g fg).2.1, (kG g fg).2.2.2.1, hg i (by omega), es, zp_or_n hacc hp2, show (i : Int) + 1 = ((i + 1 : Nat) : Int) by omega]
      exact zt_c (by omega) (zt_t (by omega) (zt_c (by omega) (zt_c (by omega) (ih (i + 1) _ g w1 w2 hw2 (by omega) (Nat.or_lt_two_pow (n := 8) hacc hp2) fg hg))))
  have digs : ∀ (n : Nat) (x3 : Int) (g : zm_H) (w1 w4 : zm_V), zm_cat w1 ≠ 2 → x3 = n - 1 → n ≤ L → zq_F (fun a _ => a = 185) h g → (∀ p : Nat, n ≤ p → p < L → g 185 p = zp_dg L x p) → zi (zr none 1 245 14 [zm_A 146, w1, zm_I ((x / L ^ (L - n) : Nat) : Int), zm_I x3, w4] [] g) (fun z g => z = (if zp_ip L x = true then 1 else 0) ∧ zq_F (fun a _ => a = 185) h g ∧ ∀ p : Nat, p < L → g 185 p = zp_dg L x p) := by
    intro n
    induction n with
    | zero =>
      intro x3 g w1 w4 hw1 hx3 hn fg hg
      exact zt_l (e_245_14 hw1) (zt_t (by omega) (mask L 0 0 g w1 _ (zm_cat_I _) (by omega) (by decide) fg (fun p hp => hg p (Nat.zero_le _) hp)))
    | succ n ih =>
      intro x3 g w1 w4 hw1 hx3 hn fg hg
      obtain rfl : x3 = n := by omega
      have b0 : x / L ^ (L - (n + 1)) ≤ x := Nat.div_le_self _ _
      have hdv : x / L ^ (L - (n + 1)) / L = x / L ^ (L - n) := by
        rw [Nat.div_div_eq_div_mul, ← Nat.pow_succ, show (L - (n + 1)).succ = L - n by omega]
      have hdm : x / L ^ (L - (n + 1)) % L = zp_dg L x n := by unfold zp_dg; rw [show L - 1 - n = L - (n + 1) by omega]
      have b1 : x / L ^ (L - n) ≤ x := Nat.div_le_self _ _
      have b2 := zp_dg_lt (L := L) (x := x) (p := n) hL.1
      generalize hR : x / L ^ (L - (n + 1)) = R at b0 hdv hdm
      generalize hR2 : x / L ^ (L - n) = R2 at hdv b1 ih
      have e1 : ((R : Nat) : Int).tdiv (L : Int) = ((R2 : Nat) : Int) := by rw [zq_tdiv (by omega), ← hdv]; rfl
      have e2 : ((R : Nat) : Int).tmod (L : Int) = ((zp_dg L x n : Nat) : Int) := by rw [zq_tmod (by omega), ← hdm]; rfl
      have k13 : ∀ v : Int, zm_wr g 185 (n : Int) v 146 13 = b := fun v => by rw [zq_wr_n (by decide)]; exact (kG g fg).2.1
      have k151 : ∀ v : Int, zm_wr g 185 (n : Int) v 151 b = L := fun v => by rw [zq_wr_n (by decide)]; exact (kG g fg).2.2.2.1
      refine zt_l (e_245_14 hw1) ?_
      rw [(kG g fg).2.1, (kG g fg).2.2.2.1, k13, k151, e1, e2]
      refine zt_f (by omega) (zt_c (by omega) (zt_c ⟨by omega, by omega, by omega⟩ (zt_c (by omega) (zt_c (by omega) (zt_c ⟨by omega, by omega⟩ (zt_c (by omega) ?_))))))
      refine ih _ _ w1 w4 hw1 (by omega) (by omega) (zq_F_tr fg (zq_F_wr rfl)) (fun p h1 h2 => ?_)
      by_cases hp : p = n
      · subst hp; exact zq_wr_e
      · rw [zq_wr_i (by omega)]; exact hg p (by omega) h2
  refine zt_l e_245 ?_
  rw [hG.2.1, hG.2.2.2.1]
  have := digs L ((L : Int) - 1) h (zm_I x) zm_U (zm_cat_I _) rfl (Nat.le_refl _) zq_F_rf (fun p h1 h2 => by omega)
  rw [Nat.sub_self, Nat.pow_zero, Nat.div_one] at this
  exact zt_c (by omega) (zt_c (by omega) this)
theorem s_244 (hD : zv_D h b K L C wo sz re fe ru lk P Pu Hd hr dp) (hB : zv_B K L C wo sz re fe ru lk) (hX : zv_X K L C P Pu Hd hr dp) (x y : Int) : zi (zc 244 [zm_A 146, zm_I x, zm_I y] h) (fun z g => z = zp_q1 C x (zp_laid (zp_meo K L sz re fe ru lk P) L P y) ∧ zq_F zf_Ds h g) := by
  have hL5 := hB.2.1
  have hb := hD.1.1
  refine zt_l e_244 (zt_I (s_223 hD.1 x) ?_)
  rintro z g ⟨rfl, rfl⟩
  by_cases hx : 0 ≤ x ∧ x < C
  · rw [if_pos hx]
    obtain ⟨c, rfl⟩ := Int.eq_ofNat_of_zero_le hx.1
    have hc : c < C := by omega
    rw [zp_q1_y hc]
    refine zt_f (by decide) (zt_I (s_204 hD.1 hB hD.2.1 hX.1) ?_)
    rintro z g ⟨rfl, rfl⟩
    refine zt_p (fun q => zi_e ⟨?_, zq_F_rf⟩) (fun hl => ?_)
    · unfold zp_laid
      split
      · rfl
      · rfl
    have hL : 1 ≤ L := by
      refine Classical.byContradiction (fun hn => hl ?_)
      rw [← zp_left_L hX.1 hL5, show L = 0 by omega]; rfl
    have hLL := zp_LL hL hL5
    have hf : ∀ l, zp_okl L l = true → 0 ≤ zp_meo K L sz re fe ru lk P c l := fun l q => zp_meo_0 hB hX.1 hl hc q
    have hbs := zp_bst_0 hf hL hL5
    have on : (y = -1 ∨ (0 ≤ y ∧ y < L)) → zi (zr none 6 244 36 [zm_A 146, zm_I c, zm_I y, zm_I 1, zm_I 0, zm_U, zm_U, zm_U] [] g) (fun z k => z = zp_laid (zp_meo K L sz re fe ru lk P) L P y c ∧ zq_F zf_Ds g k) := by
      intro hy
      unfold zp_laid
      rw [if_neg (show ¬ (y ≠ -1 ∧ ¬ (0 ≤ y ∧ y < L)) by omega), if_neg hl]
      generalize hf2 : zp_meo K L sz re fe ru lk P c = f at hf hbs ⊢
      -- all codes
      have codes : ∀ (m x : Nat) (k : zm_H) (w6 w7 : zm_V), x + m = L ^ L → zq_F zf_Ds g k → ((zp_fs f L x).1 ≠ -1 → ∀ p : Nat, p < L → k 187 p = zp_lo (zp_fs f L x).2 p) → zi (zr none 6 244 74 [zm_A 146, zm_I c, zm_I y, zm_I ((L ^ L : Nat) : Int), zm_I (zp_fs f L x).1, zm_I x, w6, w7] [] k) (fun z k => z = (if y = -1 then (zp_bst f L).1 else (zp_lo (zp_bst f L).2 y.toNat : Nat)) ∧ zq_F zf_Ds g k) := by
        intro m
        induction m with
        | zero =>
          intro x k w6 w7 hx fk h187
          obtain rfl : x = L ^ L := by omega
          rw [zp_fs_n] at h187 ⊢
          refine zt_l e_244_74 (zt_f (by omega) (zt_p (fun q2 => zi_e ⟨by rw [if_pos q2], fk⟩) (fun q2 => ?_)))
          rw [if_neg q2]
          obtain ⟨p, rfl⟩ := Int.eq_ofNat_of_zero_le (show 0 ≤ y by omega)
          exact zt_c (by omega) (zi_e ⟨h187 (by omega) p (by omega), fk⟩)
        | succ m ih =>
          intro x k w6 w7 hx fk h187
          have hDk := hD.kp fk
          have ih' := ih (x + 1)
          rw [zp_fs_s] at ih'
          refine zt_l e_244_74 (zt_t (by omega) (zt_I (s_245 hDk.1 ⟨hL, hL5⟩ (by omega)) ?_))
          rintro z k2 ⟨rfl, fk2, hdg⟩
          have fk2' : zq_F zf_Ds g k2 := zq_F_tr fk (zq_F_wk fk2 (fun a i q => by unfold zf_Ds; omega))
          rw [show (x : Int) + 1 = ((x + 1 : Nat) : Int) by omega]
          by_cases hip : zp_ip L x = true
          · rw [if_pos hip] at ih' ⊢
            have hmem : zp_dl L x ∈ zp_pl L := by
              unfold zp_pl
              exact List.mem_map.mpr ⟨x, List.mem_filter.mpr ⟨List.mem_range.mpr (by omega), hip⟩, rfl⟩
            have hok := zp_pl_all hL hL5 hmem
            have ho := (zp_okl_b hok).1
            have hf0 := hf _ hok
            have hDk2 := hD.kp fk2'
            refine zt_f (by decide) (zt_V (s_226 (v := 0) ho (fun p hp => by rw [hdg p hp, zp_lo_dl hp]) hDk2.1 hB hDk2.2.1 hX.1 hc) ?_)
            rintro k3 ⟨fk3, h68, h186⟩
            have fk3' : zq_F zf_Ds g k3 := zq_F_tr fk2' (zq_F_wk fk3 (fun a i q => by unfold zf_Gs at q; unfold zf_Ds; omega))
            have hDk3 := hD.kp fk3'
            have bc := zp_cn_b (re := re) hB hX.1 ho c
            have b0 := zp_cn_0 (re := re) hB hX.1 ho c
            have bt := zp_tot_b bc
            have bT := zp_T_b hB hc
            have hw : ∀ j, j < 8 → 0 ≤ zp_wv K lk c j ∧ zp_wv K lk c j ≤ 99 := fun j hj => by
              unfold zp_wv
              split
              · exact hB.2.2.2.2.2 c j hc (by assumption)
              · omega
            have bw := zp_wo_b (ke := zp_ke K sz ru lk c) (Nat.le_refl 8) bc hw bT.2.2
            have bm := zp_pw_b bt.1 bt.2 (zp_T fe c)
            have bm2 := zp_pw_m bT.2.2
            have hpos := zp_cn_pos hB hX.1 hl hok hc
            have hp := zp_pw_pos (b := zq_S 8 (zp_cn L re P (zp_lo (zp_dl L x)) c)) (by omega) (zp_T fe c)
            have h68' : k3 146 68 = zq_S 8 (zp_cn L re P (zp_lo (zp_dl L x)) c) := h68
            refine zt_L (s_239 hDk3.1 hB hc bT.1 h186 bc b0) ?_
            rintro z k4 ⟨rfl, rfl⟩
            refine zt_I (s_235 hDk3.1 hB hc) ?_
            rintro z k4 ⟨rfl, rfl⟩
            rw [h68', ← bT.1]
            refine zt_L (s_236 bt bT.2.2) ?_
            rintro z k4 ⟨rfl, rfl⟩
            refine zt_I (s_237 bw.1 (by omega) bw.2 (by omega)) ?_
            rintro z k4 ⟨hz, rfl⟩
            have hz' : z = f (zp_dl L x) := by rw [← hf2]; exact hz
            subst hz'
            have k187 : ∀ p : Nat, p < L → k4 187 p = k 187 p := fun p hp => by rw [fk3 187 p (by unfold zf_Gs; omega), fk2 187 p (by omega)]
            refine zt_p (fun q => ?_) (fun q => zt_c (by omega) ?_)
            · rw [zp_stp_1 q] at ih'
              have copy : ∀ (m2 p : Nat) (k5 : zm_H), p + m2 = L → zq_F zf_Ds g k5 → (∀ j : Nat, j < p → k5 187 j = zp_lo (zp_dl L x) j) → (∀ j : Nat, j < L → k5 185 j = zp_lo (zp_dl L x) j) → zi (zr none 6 244 138 [zm_A 146, zm_I c, zm_I y, zm_I ((L ^ L : Nat) : Int), zm_I (f (zp_dl L x)), zm_I x, zm_I (f (zp_dl L x)), zm_I p] [] k5) (fun z k => z = (if y = -1 then (zp_bst f L).1 else (zp_lo (zp_bst f L).2 y.toNat : Nat)) ∧ zq_F zf_Ds g k) := by
                intro m2
                induction m2 with
                | zero =>
                  intro p k5 hp f5 g1 g2
                  refine zt_l (e_244_138 (zm_cat_I _)) ?_
                  rw [(hD.kp f5).1.2.1, (hD.kp f5).1.2.2.2.1, show (x : Int) + 1 = ((x + 1 : Nat) : Int) by omega]
                  exact zt_c (by omega) (zt_f (by omega) (zt_c (by omega) (ih' k5 _ _ (by omega) f5 (fun _ j hj => g1 j (by omega)))))
                | succ m2 ih2 =>
                  intro p k5 hp f5 g1 g2
                  refine zt_l (e_244_138 (zm_cat_I _)) ?_
                  rw [(hD.kp f5).1.2.1, (hD.kp f5).1.2.2.2.1, show (p : Int) + 1 = ((p + 1 : Nat) : Int) by omega]
                  refine zt_c (by omega) (zt_t (by omega) (zt_c (by omega) (zt_c (by omega) (zt_c (by omega) (ih2 (p + 1) _ (by omega) (zq_F_tr f5 (zq_F_wr (by unfold zf_Ds; omega))) (fun j hj => ?_) (fun j hj => by rw [zq_wr_n (by decide)]; exact g2 j hj))))))
                  by_cases hjp : j = p
                  · subst hjp; rw [zq_wr_e]; exact g2 j (by omega)
                  · rw [zq_wr_i (by omega)]; exact g1 j (by omega)
              exact copy L 0 k4 (by omega) fk3' (fun j hj => absurd hj (Nat.not_lt_zero _)) (fun j hj => by rw [fk3 185 j (by unfold zf_Gs; omega), hdg j hj, zp_lo_dl hj])
            · rw [zp_stp_0 (by omega : f (zp_dl L x) ≤ (zp_fs f L x).1)] at ih'
              exact ih' k4 _ _ (by omega) fk3' (fun q2 p hp => (k187 p hp).trans (h187 q2 p hp))
          · rw [if_neg hip] at ih' ⊢
            exact zt_t rfl (zt_c (by omega) (ih' k2 _ _ (by omega) fk2' (fun q2 p hp => by rw [fk2 187 p (by omega)]; exact h187 q2 p hp)))
      have pw : ∀ (m i : Nat), i + m = L → zi (zr none 6 244 36 [zm_A 146, zm_I c, zm_I y, zm_I ((L ^ i : Nat) : Int), zm_I i, zm_U, zm_U, zm_U] [] g) (fun z k => z = (if y = -1 then (zp_bst f L).1 else (zp_lo (zp_bst f L).2 y.toNat : Nat)) ∧ zq_F zf_Ds g k) := by
        intro m
        induction m with
        | zero =>
          intro i hi
          obtain rfl : i = L := by omega
          refine zt_l e_244_36 ?_
          rw [hD.1.2.1, hD.1.2.2.2.1]
          exact zt_c (by omega) (zt_f (by omega) (codes (i ^ i) 0 g _ _ (by omega) zq_F_rf (fun q => absurd rfl q)))
        | succ m ih =>
          intro i hi
          have e1 : ((L ^ i : Nat) : Int) * (L : Int) = ((L ^ (i + 1) : Nat) : Int) := by rw [Nat.pow_succ]; exact (Int.natCast_mul _ _).symm
          have b1 : L ^ (i + 1) ≤ L ^ L := Nat.pow_le_pow_right hL (by omega)
          refine zt_l e_244_36 ?_
          rw [hD.1.2.1, hD.1.2.2.2.1, e1, show (i : Int) + 1 = ((i + 1 : Nat) : Int) by omega]
          exact zt_c (by omega) (zt_t (by omega) (zt_c (by omega) (zt_c (by omega) (zt_c (by omega) (ih (i + 1) (by omega))))))
      exact pw L 0 (by omega)
    refine zt_p (fun q => on (Or.inl q)) (fun q => ?_)
    refine zt_I (s_221 hD.1 y) ?_
    rintro z g ⟨rfl, rfl⟩
    by_cases hy : 0 ≤ y ∧ y < L
    · rw [if_pos hy]; exact zt_f (by decide) (on (Or.inr hy))
    · rw [if_neg hy]
      exact zt_t rfl (zi_e ⟨by unfold zp_laid; rw [if_pos ⟨q, hy⟩], zq_F_rf⟩)
  · rw [if_neg hx]
    exact zt_t rfl (zi_e ⟨(zp_q1_n hx).symm, zq_F_rf⟩)
end
