/-! WHETHER HE PUTS IT BACK: both sides -/
def zp_pm (K : Nat) (lk : Nat → Nat → Int) (c : Nat) (cn : Nat → Int) : Int := zq_S 8 (fun j => cn j * zp_wv K lk c j) / zq_S 8 cn
def zp_puts (cd : Nat → Int) (pf pt : Nat) (en : Nat → Int) : Int := if zp_hdr (zp_run cd en pf (pt - pf) []) = 0 then 0 else 1
section
variable {h : zm_H} {t b K L C N cf ct pf pt : Nat} {wo sz re fe ru cd : Nat → Int} {lk : Nat → Nat → Int} {P Pu Qu Hd : Nat → Int} {hr dp : Int}
theorem zv_R.kp {g : zm_H} {ord : Nat → Nat} {c : Nat} (hR : zv_R h K L sz re fe ru lk P ord c) (hg : ∀ a : Nat, 128 ≤ a → a < 132 → g a = h a) : zv_R g K L sz re fe ru lk P ord c := by
  unfold zv_R at hR ⊢
  rw [hg 128 (by omega) (by omega), hg 129 (by omega) (by omega), hg 130 (by omega) (by omega), hg 131 (by omega) (by omega)]; exact hR
theorem zv_S.kp {g : zm_H} {ord : Nat → Nat} {c : Nat} (hS : zv_S h L re P ord c) (h1 : g 146 68 = h 146 68) (h2 : g 186 = h 186) : zv_S g L re P ord c := by
  unfold zv_S at hS ⊢
  rw [h1, h2]; exact hS
theorem zp_wv_b (hB : zv_B K L C wo sz re fe ru lk) {c : Nat} (hc : c < C) : ∀ j, j < 8 → 0 ≤ zp_wv K lk c j ∧ zp_wv K lk c j ≤ 99 := fun j hj => by
  unfold zp_wv
  split
  · exact hB.2.2.2.2.2 c j hc (by assumption)
  · omega
theorem zp_pm_s {cn wv : Nat → Int} (hcn : ∀ j, j < 8 → 0 ≤ cn j ∧ cn j ≤ 495) (hwv : ∀ j, j < 8 → 0 ≤ wv j ∧ wv j ≤ 99) {n : Nat} (hn : n ≤ 8) : 0 ≤ zq_S n (fun j => cn j * wv j) ∧ zq_S n (fun j => cn j * wv j) ≤ 392040 := by
  have := zq_S_le (n := n) (f := fun j => cn j * wv j) (m := 49005) (fun j hj => by
    have h1 := hcn j (by omega)
    have h2 := hwv j (by omega)
    refine ⟨Int.mul_nonneg h1.1 h2.1, ?_⟩
    have := Int.mul_le_mul h1.2 h2.2 h2.1 (by decide : (0 : Int) ≤ 495)
    omega)
  have h8 : (n : Int) ≤ 8 := by omega
  omega
theorem s_119 {cn wv : Nat → Int} {T : Int} (h3 : h 128 3 = T) (hT : 0 < T) (h1 : ∀ k : Nat, k < 8 → h 129 k = cn k ∧ h 130 k = wv k) (hcn : ∀ j, j < 8 → 0 ≤ cn j ∧ cn j ≤ 495) (hwv : ∀ j, j < 8 → 0 ≤ wv j ∧ wv j ≤ 99) : zi (zc 119 [zm_A 128] h) (fun z g => z = zq_S 8 (fun j => cn j * wv j) / T ∧ g = h) := by
  have key : ∀ (n i : Nat), i + n = 8 → zi (zr none 1 119 4 [zm_A 128, zm_I (zq_S i (fun j => cn j * wv j)), zm_I i] [] h) (fun z g => z = zq_S 8 (fun j => cn j * wv j) / T ∧ g = h) := by
    intro n
    induction n with
    | zero =>
      intro i hi
      obtain rfl : i = 8 := by omega
      have bs := zp_pm_s hcn hwv (Nat.le_refl 8)
      refine zt_l e_119_4 (zt_f (by omega) ?_)
      rw [h3, zq_tdiv bs.1]
      have d1 := Int.ediv_nonneg bs.1 (b := T) (by omega)
      have d2 := Int.ediv_le_self (a := zq_S 8 (fun j => cn j * wv j)) T bs.1
      exact zt_t hT (zt_c ⟨by omega, by omega⟩ (zi_e ⟨rfl, rfl⟩))
    | succ n ih =>
      intro i hi
      have bs := zp_pm_s hcn hwv (n := i) (by omega)
      have bs2 := zp_pm_s hcn hwv (n := i + 1) (by omega)
      simp only [zq_S] at bs2
      obtain ⟨e1, e2⟩ := h1 i (by omega)
      have a1 := hcn i (by omega)
      have a2 := hwv i (by omega)
      have a3 := Int.mul_nonneg a1.1 a2.1
      refine zt_l e_119_4 (zt_t (by omega) ?_)
      rw [e1, e2]
      exact zt_c (by omega) (zt_c (by omega) (zt_c (by omega) (zt_c (by omega) (zt_c (by omega) (ih (i + 1) (by omega))))))
  exact zt_l e_119 (key 8 0 (by omega))
theorem s_35 (hC : zv_C h t K L C wo sz re fe ru lk P Pu Hd hr dp) (hB : zv_B K L C wo sz re fe ru lk) (hX : zv_X K L C P Pu Hd hr dp) (hI : zv_I h t N cd cf ct pf pt) (hY : zv_Y N cd cf ct pf pt) {c k : Nat} (hc : c < C) (hk : k < K) (hR : zv_R h K L sz re fe ru lk P zp_id c) (hT0 : 0 < zq_S 8 (zp_cn L re P zp_id c)) : zi (zc 35 [zm_A 4, zm_I k] h) (fun z g => z = zp_puts cd pf pt (zp_en hr (zp_left P) dp (lk c k) (sz k) (zp_pm K lk c (zp_cn L re P zp_id c))) ∧ zq_F (fun a _ => a = 141 ∨ a = 142 ∨ a = 143) h g) := by
  have ht := hC.2.1.1
  have htb := zf_F_ne ht
  have hK8 := hB.1
  have bc := zp_cn_b (re := re) hB hX.1 zp_id_b c
  have bw := zp_wv_b hB hc
  have bs := zp_pm_s bc bw (Nat.le_refl 8)
  refine zt_l (e_35 ht) (zt_V (s_9 hC hX) ?_)
  rintro g ⟨f1, g0, g1, g2⟩
  have kg : ∀ a : Nat, a ≠ 143 → g a = h a := fun a ha => by funext i; exact f1 a i (fun q => ha q.1)
  obtain ⟨r4, r5, r6, r3, r7⟩ := hR
  have e130 : g 130 (k : Int) = lk c k := by rw [kg 130 (by decide), (r7 k (by omega)).2.1, if_pos hk]
  rw [e130]
  have ht4 : ∀ x y, zm_wr g 143 x y 4 1 = (t : Int) := fun x y => by rw [zq_wr_n (by decide), kg 4 (by decide)]; exact hC.1
  have esz : ∀ x y, zm_wr g 143 x y (t + 3) (k : Int) = sz k := fun x y => by rw [zq_wr_n (by omega), kg _ (by omega)]; exact (hC.2.1.2.2.2.2.1 k hk).2
  rw [esz]
  refine zt_c (by omega) (zt_c (by decide) (zt_c (ht4 _ _) (zt_c (by omega) (zt_c (by decide) ?_))))
  have k2 : ∀ a : Nat, a ≠ 143 → zm_wr (zm_wr g 143 3 (lk c k)) 143 4 (sz k) a = h a := fun a ha => by funext i; rw [zq_wr_n ha, zq_wr_n ha, kg a ha]
  have hT3 : zm_wr (zm_wr g 143 3 (lk c k)) 143 4 (sz k) 128 3 = zq_S 8 (zp_cn L re P zp_id c) := by rw [k2 128 (by decide)]; exact r3
  refine zt_I (s_119 (cn := zp_cn L re P zp_id c) (wv := zp_wv K lk c) hT3 hT0 (fun j hj => by rw [k2 129 (by decide), k2 130 (by decide)]; exact ⟨(r7 j hj).1, (r7 j hj).2.1⟩) bc bw) ?_
  rintro z g' ⟨rfl, rfl⟩
  generalize hpm : zq_S 8 (fun j => zp_cn L re P zp_id c j * zp_wv K lk c j) / zq_S 8 (zp_cn L re P zp_id c) = pm
  have hpm2 : zp_pm K lk c (zp_cn L re P zp_id c) = pm := hpm
  have bpm : 0 ≤ pm ∧ pm ≤ 392040 := by
    have d1 := Int.ediv_nonneg bs.1 (b := zq_S 8 (zp_cn L re P zp_id c)) (by omega)
    have d2 := Int.ediv_le_self (a := zq_S 8 (fun j => zp_cn L re P zp_id c j * zp_wv K lk c j)) (zq_S 8 (zp_cn L re P zp_id c)) bs.1
    omega
  have k3 : ∀ a : Nat, a ≠ 143 → zm_wr (zm_wr (zm_wr g 143 3 (lk c k)) 143 4 (sz k)) 143 5 pm a = h a := fun a ha => by funext i; rw [zq_wr_n ha, k2 a ha]
  have kt := k3 t (by omega)
  have ks := k3 (t + 10) (by omega)
  have e4 : zm_wr (zm_wr (zm_wr g 143 3 (lk c k)) 143 4 (sz k)) 143 5 pm 4 1 = (t : Int) := by rw [k3 4 (by decide)]; exact hC.1
  have f3 : zq_F (fun a _ => a = 141 ∨ a = 142 ∨ a = 143) h (zm_wr (zm_wr (zm_wr g 143 3 (lk c k)) 143 4 (sz k)) 143 5 pm) := fun a i hn => by rw [k3 a (by omega)]
  have hen : ∀ w : Nat, w < 6 → zm_wr (zm_wr (zm_wr g 143 3 (lk c k)) 143 4 (sz k)) 143 5 pm 143 (w : Int) = zp_en hr (zp_left P) dp (lk c k) (sz k) pm w := fun w hw => by
    match w, hw with
    | 0, _ => rw [zq_wr_i (by decide), zq_wr_i (by decide), zq_wr_i (by decide)]; exact g0
    | 1, _ => rw [zq_wr_i (by decide), zq_wr_i (by decide), zq_wr_i (by decide)]; exact g1
    | 2, _ => rw [zq_wr_i (by decide), zq_wr_i (by decide), zq_wr_i (by decide)]; exact g2
    | 3, _ => rw [zq_wr_i (by decide), zq_wr_i (by decide)]; exact zq_wr_e
    | 4, _ => rw [zq_wr_i (by decide)]; exact zq_wr_e
    | 5, _ => exact zq_wr_e
  have hlk := hB.2.2.2.2.2 c k hc hk
  have hsz := hB.2.2.2.1 k hk
  have heb := zp_en_b hX (w := lk c k) (s := sz k) (m := pm) (by omega) (by omega) (by omega)
  rw [kt, e4, hI.2.2.1, hI.2.2.2.1]
  rw [hpm2]
  obtain ⟨y1, y2, y3, y4, y5, y6⟩ := hY
  have hrun : ∃ st, zp_run cd (zp_en hr (zp_left P) dp (lk c k) (sz k) pm) pf (pt - pf) [] = some st := by
    by_cases h0 : pt = 0
    · refine ⟨[], ?_⟩
      rw [show pt - pf = 0 by omega]; rfl
    · obtain ⟨v, hv, -⟩ := (y6 _ heb).2 h0
      exact ⟨_, hv⟩
  obtain ⟨st, hst⟩ := hrun
  refine zt_c (by decide) (zt_c rfl (zt_c rfl (zt_c rfl ?_)))
  refine zt_I (s_121 (f := pf) (n := pt - pf) ht (by omega) (fun i h1 h2 => by rw [ks]; exact hI.2.2.2.2 i (by omega)) hen heb hst rfl (by omega)) ?_
  rintro z g3 ⟨rfl, f4⟩
  have f5 : zq_F (fun a _ => a = 141 ∨ a = 142 ∨ a = 143) h g3 := zq_F_tr f3 (zq_F_wk f4 (fun a i q => by unfold zf_Ks at q; omega))
  have ehd : zp_hdr (some st) = zp_hd st := by cases st <;> rfl
  unfold zp_puts
  rw [hst, ehd]
  exact zt_p (fun q => zt_c (Or.inl rfl) (zi_e ⟨by rw [if_pos q], f5⟩)) (fun q => zt_c (Or.inr rfl) (zi_e ⟨by rw [if_neg q], f5⟩))
theorem s_251 (hD : zv_D h b K L C wo sz re fe ru lk P Pu Hd hr dp) (hB : zv_B K L C wo sz re fe ru lk) (hX : zv_X K L C P Pu Hd hr dp) (hJ : zv_J h b N cd cf ct pf pt) (hY : zv_Y N cd cf ct pf pt) {c k : Nat} (hc : c < C) (hk : k < K) (hS : zv_S h L re P zp_id c) (hT0 : 0 < zq_S 8 (zp_cn L re P zp_id c)) : zi (zc 251 [zm_A 146, zm_I c, zm_I k] h) (fun z g => z = zp_puts cd pf pt (zp_en hr (zp_left P) dp (lk c k) (sz k) (zp_pm K lk c (zp_cn L re P zp_id c))) ∧ zq_F zf_Lg h g) := by
  have hb := hD.1.1
  have hK8 := hB.1
  have bc := zp_cn_b (re := re) hB hX.1 zp_id_b c
  have b0 := zp_cn_0 (re := re) hB hX.1 zp_id_b c
  have bw := zp_wv_b hB hc
  have bs := zp_pm_s bc bw (Nat.le_refl 8)
  have hlk := hB.2.2.2.2.2 c k hc hk
  have hsz := hB.2.2.2.1 k hk
  obtain ⟨y1, y2, y3, y4, y5, y6⟩ := hY
  refine zt_l e_251 ?_
  rw [hD.1.2.1]
  refine zt_c (by omega) ?_
  by_cases h0 : pt = 0
  · rw [hJ.2.2.1 h0]
    refine zt_t rfl (zt_c (Or.inl rfl) (zi_e ⟨?_, zq_F_rf⟩))
    unfold zp_puts
    rw [show pt - pf = 0 by omega]; rfl
  · rw [(hJ.2.2.2.1 h0).1]
    refine zt_f (by omega) ?_
    -- sums over the kinds that there are
    have hsumK : zq_S K (fun j => zp_cn L re P zp_id c j * zp_wv K lk c j) = zq_S 8 (fun j => zp_cn L re P zp_id c j * zp_wv K lk c j) := by
      refine (zq_S_ext hK8 (fun j h1 h2 => ?_)).symm
      rw [b0 j h1 h2, Int.zero_mul]
    have key : ∀ (n i : Nat), i + n = K → zi (zr none 5 251 20 [zm_A 146, zm_I c, zm_I k, zm_L (zq_S i (fun j => zp_cn L re P zp_id c j * zp_wv K lk c j)), zm_U, zm_I i] [] h) (fun z g => z = zp_puts cd pf pt (zp_en hr (zp_left P) dp (lk c k) (sz k) (zp_pm K lk c (zp_cn L re P zp_id c))) ∧ zq_F zf_Lg h g) := by
      intro n
      induction n with
      | zero =>
        intro i hi
        obtain rfl : i = K := by omega
        refine zt_l e_251_20 ?_
        rw [hD.1.2.1, hD.1.2.2.1]
        refine zt_c (by omega) (zt_f (by omega) (zt_V (s_208 hD hB hX.1) ?_))
        rintro g ⟨f1, a0, a1, a2, a3, a4, a5⟩
        have f1' : zq_F zf_Ds h g := zq_F_wk f1 (fun a i q => by unfold zf_A6 at q; unfold zf_Ds; omega)
        have hDg := hD.kp f1'
        refine zt_I (s_224 hDg.1 hB hc hk) ?_
        rintro z g' ⟨rfl, rfl⟩
        have hG2 : zv_G (zm_wr g' 146 63 (lk c k)) b i L C wo sz re fe ru lk := hDg.1.kp (zq_wr_i (by decide)) (fun a h1 h2 => by funext j; exact zq_wr_n (by omega))
        refine zt_I (s_219 hG2 hB hk) ?_
        rintro z g2 ⟨rfl, rfl⟩
        have e68 : zm_wr (zm_wr g' 146 63 (lk c k)) 146 64 (sz k) 146 68 = zq_S 8 (zp_cn L re P zp_id c) := by rw [zq_wr_i (by decide), zq_wr_i (by decide), f1 146 68 (by unfold zf_A6; omega)]; exact hS.1
        rw [e68, hsumK, zq_tdiv bs.1]
        generalize hpm : zq_S 8 (fun j => zp_cn L re P zp_id c j * zp_wv i lk c j) / zq_S 8 (zp_cn L re P zp_id c) = pm
        have hpm2 : zp_pm i lk c (zp_cn L re P zp_id c) = pm := hpm
        have bpm : 0 ≤ pm ∧ pm ≤ 392040 := by
          have d1 := Int.ediv_nonneg bs.1 (b := zq_S 8 (zp_cn L re P zp_id c)) (by omega)
          have d2 := Int.ediv_le_self (a := zq_S 8 (fun j => zp_cn L re P zp_id c j * zp_wv i lk c j)) (zq_S 8 (zp_cn L re P zp_id c)) bs.1
          omega
        rw [hpm2]
        have k3 : ∀ a : Nat, a ≠ 146 → zm_wr (zm_wr (zm_wr g' 146 63 (lk c k)) 146 64 (sz k)) 146 65 pm a = h a := fun a ha => by
          funext j; rw [zq_wr_n ha, zq_wr_n ha, zq_wr_n ha, f1 a j (fun q => ha q.1)]
        have f3 : zq_F zf_Lg h (zm_wr (zm_wr (zm_wr g' 146 63 (lk c k)) 146 64 (sz k)) 146 65 pm) := zq_F_tr (zq_F_wk f1 (fun a i q => Or.inr q)) (zq_F_tr (zq_F_wr (Or.inr ⟨rfl, by decide, by decide⟩)) (zq_F_tr (zq_F_wr (Or.inr ⟨rfl, by decide, by decide⟩)) (zq_F_wr (Or.inr ⟨rfl, by decide, by decide⟩))))
        have e13 : zm_wr (zm_wr (zm_wr g' 146 63 (lk c k)) 146 64 (sz k)) 146 65 pm 146 13 = b := by rw [f3 146 13 (by unfold zf_Lg; omega)]; exact hD.1.2.1
        have hen : ∀ w : Nat, w < 6 → zm_wr (zm_wr (zm_wr g' 146 63 (lk c k)) 146 64 (sz k)) 146 65 pm 146 ((60 + w : Nat) : Int) = zp_en hr (zp_left P) dp (lk c k) (sz k) pm w := fun w hw => by
          match w, hw with
          | 0, _ => rw [zq_wr_i (by decide), zq_wr_i (by decide), zq_wr_i (by decide)]; exact a0
          | 1, _ => rw [zq_wr_i (by decide), zq_wr_i (by decide), zq_wr_i (by decide)]; exact a1
          | 2, _ => rw [zq_wr_i (by decide), zq_wr_i (by decide), zq_wr_i (by decide)]; exact a2
          | 3, _ => rw [zq_wr_i (by decide), zq_wr_i (by decide)]; exact zq_wr_e
          | 4, _ => rw [zq_wr_i (by decide)]; exact zq_wr_e
          | 5, _ => exact zq_wr_e
        have heb := zp_en_b hX (w := lk c k) (s := sz k) (m := pm) (by omega) (by omega) (by omega)
        obtain ⟨v, hv, hbit⟩ := (y6 _ heb).2 h0
        rw [e13]
        rw [k3 161 (by decide), k3 162 (by decide), (hJ.2.2.2.1 h0).1, (hJ.2.2.2.1 h0).2]
        have hJ3 := hJ.kp (g := zm_wr (zm_wr (zm_wr g' 146 63 (lk c k)) 146 64 (sz k)) 146 65 pm) (fun a h1 h2 => k3 a (by omega))
        refine zt_c ⟨by omega, by omega⟩ (zt_c (by omega) (zt_c (by omega) (zt_c (by omega) ?_)))
        refine zt_L (s_209 (f := pf) (n := pt - pf) hb e13 (by omega) (fun i h1 h2 => hJ3.2.2.2.2 i (by omega)) hen heb hv rfl (by omega)) ?_
        rintro z g3 ⟨rfl, f4⟩
        have f5 : zq_F zf_Lg h g3 := zq_F_tr f3 (zq_F_wk f4 (fun a i q => Or.inl q))
        unfold zp_puts
        rw [hv]
        have ez : zp_hdr (some [z]) = z := rfl
        rw [ez]
        rcases hbit with rfl | rfl
        · exact zt_f (by decide) (zt_c (Or.inl rfl) (zi_e ⟨rfl, f5⟩))
        · exact zt_t (by decide) (zt_c (Or.inr rfl) (zi_e ⟨rfl, f5⟩))
      | succ n ih =>
        intro i hi
        have bs1 := zp_pm_s bc bw (n := i) (by omega)
        have bs2 := zp_pm_s bc bw (n := i + 1) (by omega)
        simp only [zq_S] at bs2
        have ewv : zp_wv K lk c i = lk c i := by unfold zp_wv; rw [if_pos (by omega)]
        have a1 := bc i (by omega)
        have a2 := bw i (by omega)
        have a3 := Int.mul_nonneg a1.1 a2.1
        have a4 : lk c i * zp_cn L re P zp_id c i = zp_cn L re P zp_id c i * zp_wv K lk c i := by rw [ewv, Int.mul_comm]
        refine zt_l e_251_20 ?_
        rw [hD.1.2.1, hD.1.2.2.1]
        refine zt_c (by omega) (zt_t (by omega) (zt_I (s_224 (c := c) (k := i) hD.1 hB hc (by omega)) ?_))
        rintro z g ⟨rfl, rfl⟩
        have e186 : g 186 (i : Int) = zp_cn L re P zp_id c i := hS.2 i (by omega)
        rw [e186, a4]
        exact zt_c (by omega) (zt_c (by omega) (zt_c (by omega) (zt_c (by omega) (ih (i + 1) (by omega)))))
    exact key K 0 (by omega)
end
