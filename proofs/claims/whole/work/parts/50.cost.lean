/-! WHAT A DIP COSTS NOW: both sides -/
def zp_hdr (x : Option (List Int)) : Int := match x with
  | some (v :: _) => v
  | _ => 0
def zp_cost (cd : Nat → Int) (cf ct : Nat) (en : Nat → Int) : Int := max 0 (min 99 (zp_hdr (zp_run cd en cf (ct - cf) [])))
def zp_en (hr lf dp w s m : Int) : Nat → Int := fun i => if i = 0 then hr else if i = 1 then lf else if i = 2 then dp else if i = 3 then w else if i = 4 then s else m
/-- the codes: of the class's fete t, of the reference's bank b -/
def zv_I (h : zm_H) (t N : Nat) (cd : Nat → Int) (cf ct pf pt : Nat) : Prop :=
  h t 16 = cf ∧ h t 17 = ct ∧ h t 18 = pf ∧ h t 19 = pt ∧ ∀ i : Nat, i < N → h (t + 10) i = cd i
def zv_J (h : zm_H) (b N : Nat) (cd : Nat → Int) (cf ct pf pt : Nat) : Prop :=
  (ct = 0 → h 159 b = -1) ∧ (ct ≠ 0 → h 159 b = cf ∧ h 160 b = ct) ∧ (pt = 0 → h 161 b = -1) ∧ (pt ≠ 0 → h 161 b = pf ∧ h 162 b = pt) ∧ ∀ i : Nat, i < N → zp_cr (cd i) (h 163 ((1600 * b + i : Nat) : Int)) (h 164 ((1600 * b + i : Nat) : Int))
def zv_Y (N : Nat) (cd : Nat → Int) (cf ct pf pt : Nat) : Prop :=
  N ≤ 1600 ∧ cf ≤ ct ∧ ct ≤ N ∧ pf ≤ pt ∧ pt ≤ N ∧ ∀ en : Nat → Int, (∀ w, w < 6 → zp_mil (en w)) → (ct ≠ 0 → ∃ v, zp_run cd en cf (ct - cf) [] = some [v]) ∧ (pt ≠ 0 → ∃ v, zp_run cd en pf (pt - pf) [] = some [v] ∧ zm_bit v)
section
variable {h : zm_H} {t b K L C N cf ct pf pt : Nat} {wo sz re fe ru cd : Nat → Int} {lk : Nat → Nat → Int} {P Pu Qu Hd : Nat → Int} {hr dp : Int}
theorem zv_I.kp {g : zm_H} (hI : zv_I h t N cd cf ct pf pt) (ht : zf_F t) (hg : ∀ a : Nat, a < 29 → g a = h a) : zv_I g t N cd cf ct pf pt := by
  have b := zf_F_ne ht
  unfold zv_I at hI ⊢
  rw [hg t (by omega), hg (t + 10) (by omega)]; exact hI
theorem zv_J.kp {g : zm_H} (hJ : zv_J h b N cd cf ct pf pt) (hg : ∀ a : Nat, 159 ≤ a → a < 165 → g a = h a) : zv_J g b N cd cf ct pf pt := by
  unfold zv_J at hJ ⊢
  rw [hg 159 (by omega) (by omega), hg 160 (by omega) (by omega), hg 161 (by omega) (by omega), hg 162 (by omega) (by omega), hg 163 (by omega) (by omega), hg 164 (by omega) (by omega)]; exact hJ
theorem zv_I.cs {g : zm_H} (hI : zv_I h t N cd cf ct pf pt) (ht : zf_F t) (hg : zq_F zf_Cs h g) : zv_I g t N cd cf ct pf pt := hI.kp ht (fun a ha => by funext i; exact hg a i (by unfold zf_Cs; omega))
theorem zv_J.ds {g : zm_H} (hJ : zv_J h b N cd cf ct pf pt) (hg : zq_F zf_Ds h g) : zv_J g b N cd cf ct pf pt := hJ.kp (fun a h1 h2 => by funext i; exact hg a i (by unfold zf_Ds; omega))
def zp_left (P : Nat → Int) : Int := zq_S 40 P
theorem zp_left_b (hP : zv_P K L P) : 0 ≤ zp_left P ∧ zp_left P ≤ 3960 := by
  have := zq_S_le (n := 40) (f := P) (m := 99) (fun i hi => hP.1 i hi)
  unfold zp_left; omega
theorem zp_left_L (hP : zv_P K L P) (hL : L ≤ 5) : zq_S L (zp_sl P) = zp_left P := by
  have e := zq_S_block 5 P
  have e2 : zq_S 5 (zp_sl P) = zq_S L (zp_sl P) := zq_S_ext hL (fun l h1 h2 => zq_S_zero (fun k hk => hP.2 _ (by omega) (Or.inl (by omega))))
  rw [← e2]; exact e.symm
theorem zp_en_b (hX : zv_X K L C P Pu Hd hr dp) {w s m : Int} (hw : zp_mil w) (hs : zp_mil s) (hm : zp_mil m) : ∀ i, i < 6 → zp_mil (zp_en hr (zp_left P) dp w s m i) := by
  have hl := zp_left_b hX.1
  obtain ⟨-, -, -, x1, x2, x3, x4⟩ := hX
  intro i hi
  unfold zp_en
  repeat' split
  all_goals omega
theorem s_144 {o : Nat} (hT : zv_T h o P Pu Hd) (hP : ∀ i, i < 40 → 0 ≤ P i ∧ P i ≤ 99) : zi (zc 144 [zm_A o] h) (fun z g => z = zp_left P ∧ g = h) := by
  obtain ⟨ho, p1, p2, p3⟩ := hT
  refine zt_l (e_144 ho) (zt_I (s_145 (f := 0) (n := 40) (zt_a1 ho) (by omega) (by omega) (by omega) (fun i hi => ?_) rfl rfl) ?_)
  · rw [Nat.zero_add, p1 _ hi]; have := hP i hi; omega
  · rintro z g ⟨rfl, rfl⟩
    exact zi_e ⟨zq_S_congr (fun i hi => by rw [Nat.zero_add]; exact p1 _ hi), rfl⟩
theorem s_146 {o : Nat} (hT : zv_T h o P Pu Hd) (hP : ∀ i, i < 8 → 0 ≤ Pu i ∧ Pu i ≤ 999) : zi (zc 146 [zm_A o] h) (fun z g => z = zq_S 8 Pu ∧ g = h) := by
  obtain ⟨ho, p1, p2, p3⟩ := hT
  refine zt_l (e_146 ho) (zt_I (s_145 (f := 0) (n := 8) (zt_a2 ho) (by omega) (by omega) (by omega) (fun i hi => ?_) rfl rfl) ?_)
  · rw [Nat.zero_add, p2 _ hi]; have := hP i hi; omega
  · rintro z g ⟨rfl, rfl⟩
    exact zi_e ⟨zq_S_congr (fun i hi => by rw [Nat.zero_add]; exact p2 _ hi), rfl⟩
theorem s_147 {o : Nat} (hT : zv_T h o P Pu Hd) (hP : ∀ i, i < 64 → 0 ≤ Hd i ∧ Hd i ≤ 100000) : zi (zc 147 [zm_A o] h) (fun z g => z = zq_S 64 Hd ∧ g = h) := by
  obtain ⟨ho, p1, p2, p3⟩ := hT
  refine zt_l (e_147 ho) (zt_I (s_145 (f := 0) (n := 64) (zt_a3 ho) (by omega) (by omega) (by omega) (fun i hi => ?_) rfl rfl) ?_)
  · rw [Nat.zero_add, p3 _ hi]; have := hP i hi; omega
  · rintro z g ⟨rfl, rfl⟩
    exact zi_e ⟨zq_S_congr (fun i hi => by rw [Nat.zero_add]; exact p3 _ hi), rfl⟩
theorem s_204 {v : Nat} (hG : zv_G h b K L C wo sz re fe ru lk) (hB : zv_B K L C wo sz re fe ru lk) (hW : zv_W h v P Pu Hd) (hP : zv_P K L P) : zi (zc 204 [zm_A 146, zm_I v] h) (fun z g => z = zp_left P ∧ g = h) := by
  have hL5 := hB.2.1
  have hb := hG.1
  have key : ∀ (n i : Nat), i + n = L → zi (zr none 3 204 4 [zm_A 146, zm_I v, zm_I (zq_S i (zp_sl P)), zm_I i] [] h) (fun z g => z = zp_left P ∧ g = h) := by
    intro n
    induction n with
    | zero =>
      intro i hi
      refine zt_l e_204_4 ?_
      rw [hG.2.1, hG.2.2.2.1]
      exact zt_c (by omega) (zt_f (by omega) (zi_e ⟨by rw [show i = L by omega]; exact zp_left_L hP hL5, rfl⟩))
    | succ n ih =>
      intro i hi
      have b1 := zq_S_le (n := i) (f := zp_sl P) (m := 792) (fun j hj => zp_sl_b (by omega) hP.1)
      have b2 := zp_sl_b (l := i) (by omega) hP.1
      refine zt_l e_204_4 ?_
      rw [hG.2.1, hG.2.2.2.1]
      refine zt_c (by omega) (zt_t (by omega) (zt_I (s_205 (v := v) (l := i) hG hB hW hP (by omega)) ?_))
      rintro z g ⟨rfl, rfl⟩
      exact zt_c (by omega) (zt_c (by omega) (ih (i + 1) (by omega)))
  exact zt_l e_204 (key L 0 (by omega))
def zf_S3 (a : Nat) (i : Int) : Prop := a = 143 ∧ i < 3
theorem s_9 (hC : zv_C h t K L C wo sz re fe ru lk P Pu Hd hr dp) (hX : zv_X K L C P Pu Hd hr dp) : zu (zc 9 [zm_A 4] h) (fun g => zq_F zf_S3 h g ∧ g 143 0 = hr ∧ g 143 1 = zp_left P ∧ g 143 2 = dp) := by
  have f1 : zq_F zf_S3 h (zm_wr h 143 0 (h 32 0)) := zq_F_wr ⟨rfl, by decide⟩
  have hC1 := hC.kp (zq_F_wk f1 (fun a i q => by unfold zf_S3 at q; unfold zf_Cs; omega))
  refine zt_l e_9 (zt_c (by decide) (zt_I (s_144 hC1.2.2.1 hX.1.1) ?_))
  rintro z g ⟨rfl, rfl⟩
  refine zt_c (by decide) (zt_c (by decide) (zu_e ⟨zq_F_tr f1 (zq_F_tr (zq_F_wr ⟨rfl, by decide⟩) (zq_F_wr ⟨rfl, by decide⟩)), ?_, ?_, ?_⟩))
  · rw [zq_wr_i (by decide), zq_wr_i (by decide), zq_wr_e]; exact hC.2.2.2.1
  · rw [zq_wr_i (by decide), zq_wr_e]
  · rw [zq_wr_e, zq_wr_n (by decide), zq_wr_n (by decide)]; exact hC.2.2.2.2
theorem s_8 (hC : zv_C h t K L C wo sz re fe ru lk P Pu Hd hr dp) (hX : zv_X K L C P Pu Hd hr dp) (hI : zv_I h t N cd cf ct pf pt) (hY : zv_Y N cd cf ct pf pt) : zi (zc 8 [zm_A 4] h) (fun z g => z = zp_cost cd cf ct (zp_en hr (zp_left P) dp 0 0 0) ∧ zq_F zf_Cs h g) := by
  have ht := hC.2.1.1
  have htb := zf_F_ne ht
  refine zt_l (e_8 ht) (zt_V (s_9 hC hX) ?_)
  rintro g ⟨f1, g0, g1, g2⟩
  have f2 : zq_F zf_Cs h (zm_wr (zm_wr (zm_wr g 143 3 0) 143 4 0) 143 5 0) := zq_F_tr (zq_F_wk f1 (fun a i q => by unfold zf_S3 at q; unfold zf_Cs; omega)) (zq_F_tr (zq_F_wr (by unfold zf_Cs; omega)) (zq_F_tr (zq_F_wr (by unfold zf_Cs; omega)) (zq_F_wr (by unfold zf_Cs; omega))))
  have hCg := hC.kp f2
  have hIg := hI.cs ht f2
  obtain ⟨y1, y2, y3, y4, y5, y6⟩ := hY
  have heb := zp_en_b hX (w := 0) (s := 0) (m := 0) (by decide) (by decide) (by decide)
  have hen : ∀ w : Nat, w < 6 → zm_wr (zm_wr (zm_wr g 143 3 0) 143 4 0) 143 5 0 143 (w : Int) = zp_en hr (zp_left P) dp 0 0 0 w := fun w hw => by
    match w, hw with
    | 0, _ => rw [zq_wr_i (by decide), zq_wr_i (by decide), zq_wr_i (by decide)]; exact g0
    | 1, _ => rw [zq_wr_i (by decide), zq_wr_i (by decide), zq_wr_i (by decide)]; exact g1
    | 2, _ => rw [zq_wr_i (by decide), zq_wr_i (by decide), zq_wr_i (by decide)]; exact g2
    | 3, _ => rw [zq_wr_i (by decide), zq_wr_i (by decide)]; exact zq_wr_e
    | 4, _ => rw [zq_wr_i (by decide)]; exact zq_wr_e
    | 5, _ => exact zq_wr_e
  have hrun : ∃ st, zp_run cd (zp_en hr (zp_left P) dp 0 0 0) cf (ct - cf) [] = some st := by
    by_cases h0 : ct = 0
    · refine ⟨[], ?_⟩
      rw [show ct - cf = 0 by omega]; rfl
    · obtain ⟨v, hv⟩ := (y6 _ heb).1 h0
      exact ⟨_, hv⟩
  obtain ⟨st, hst⟩ := hrun
  refine zt_c (by decide) (zt_c (by decide) (zt_c (by decide) (zt_c hCg.1 (zt_c hCg.1 (zt_c hCg.1 ?_)))))
  refine zt_I (s_121 (f := cf) (n := ct - cf) ht (by omega) (fun i h1 h2 => hIg.2.2.2.2 i (by omega)) hen heb hst hIg.1 (by rw [hIg.2.1]; omega)) ?_
  rintro z g3 ⟨rfl, f3⟩
  refine zi_e ⟨?_, zq_F_tr f2 (zq_F_wk f3 (fun a i q => by unfold zf_Ks at q; unfold zf_Cs; omega))⟩
  unfold zp_cost
  rw [hst]
  cases st <;> rfl
def zf_A6 (a : Nat) (i : Int) : Prop := a = 146 ∧ 60 ≤ i ∧ i ≤ 65
theorem s_208 (hD : zv_D h b K L C wo sz re fe ru lk P Pu Hd hr dp) (hB : zv_B K L C wo sz re fe ru lk) (hP : zv_P K L P) : zu (zc 208 [zm_A 146, zm_I 0] h) (fun g => zq_F zf_A6 h g ∧ g 146 60 = hr ∧ g 146 61 = zp_left P ∧ g 146 62 = dp ∧ g 146 63 = 0 ∧ g 146 64 = 0 ∧ g 146 65 = 0) := by
  have f1 : zq_F zf_A6 h (zm_wr h 146 60 (h 174 0)) := zq_F_wr ⟨rfl, by decide, by decide⟩
  have hD1 := hD.kp (zq_F_wk f1 (fun a i q => by unfold zf_A6 at q; unfold zf_Ds; omega))
  refine zt_l e_208 (zt_c (by decide) (zt_I (s_204 (v := 0) hD1.1 hB hD1.2.1 hP) ?_))
  rintro z g ⟨rfl, rfl⟩
  refine zt_c (by decide) (zu_e ⟨zq_F_tr f1 (zq_F_tr (zq_F_wr ⟨rfl, by decide, by decide⟩) (zq_F_tr (zq_F_wr ⟨rfl, by decide, by decide⟩) (zq_F_tr (zq_F_wr ⟨rfl, by decide, by decide⟩) (zq_F_tr (zq_F_wr ⟨rfl, by decide, by decide⟩) (zq_F_wr ⟨rfl, by decide, by decide⟩))))), ?_, ?_, ?_, ?_, ?_, ?_⟩)
  · rw [zq_wr_i (by decide), zq_wr_i (by decide), zq_wr_i (by decide), zq_wr_i (by decide), zq_wr_i (by decide), zq_wr_e]; exact hD.2.2.1
  · rw [zq_wr_i (by decide), zq_wr_i (by decide), zq_wr_i (by decide), zq_wr_i (by decide), zq_wr_e]
  · rw [zq_wr_i (by decide), zq_wr_i (by decide), zq_wr_i (by decide), zq_wr_e, zq_wr_n (by decide)]; exact hD1.2.2.2
  · rw [zq_wr_i (by decide), zq_wr_i (by decide), zq_wr_e]
  · rw [zq_wr_i (by decide), zq_wr_e]
  · exact zq_wr_e
def zf_Lg (a : Nat) (i : Int) : Prop := a = 184 ∨ (a = 146 ∧ 60 ≤ i ∧ i ≤ 65)
theorem zf_Lg_Ds {g : zm_H} (hg : zq_F zf_Lg h g) : zq_F zf_Ds h g := zq_F_wk hg (fun a i q => by unfold zf_Lg at q; unfold zf_Ds; omega)
theorem s_207x (hD : zv_D h b K L C wo sz re fe ru lk P Pu Hd hr dp) (hB : zv_B K L C wo sz re fe ru lk) (hX : zv_X K L C P Pu Hd hr dp) (hJ : zv_J h b N cd cf ct pf pt) (hY : zv_Y N cd cf ct pf pt) : zi (zc 207 [zm_A 146, zm_I 0] h) (fun z g => z = zp_cost cd cf ct (zp_en hr (zp_left P) dp 0 0 0) ∧ zq_F zf_Lg h g) := by
  have hb := hD.1.1
  have heb := zp_en_b hX (w := 0) (s := 0) (m := 0) (by decide) (by decide) (by decide)
  obtain ⟨y1, y2, y3, y4, y5, y6⟩ := hY
  refine zt_l e_207 ?_
  rw [hD.1.2.1]
  refine zt_c (by omega) ?_
  by_cases h0 : ct = 0
  · rw [hJ.1 h0]
    refine zt_t rfl (zi_e ⟨?_, zq_F_rf⟩)
    unfold zp_cost
    rw [show ct - cf = 0 by omega]; rfl
  · obtain ⟨v, hv⟩ := (y6 _ heb).1 h0
    rw [(hJ.2.1 h0).1]
    refine zt_f (by omega) (zt_V (s_208 hD hB hX.1) ?_)
    rintro g ⟨f1, a0, a1, a2, a3, a4, a5⟩
    have f2 : zq_F zf_Ds h g := zq_F_wk f1 (fun a i q => by unfold zf_A6 at q; unfold zf_Ds; omega)
    have hDg := hD.kp f2
    have hJg := hJ.ds f2
    rw [hDg.1.2.1]
    have hen : ∀ w : Nat, w < 6 → g 146 ((60 + w : Nat) : Int) = zp_en hr (zp_left P) dp 0 0 0 w := fun w hw => by
      match w, hw with
      | 0, _ => exact a0
      | 1, _ => exact a1
      | 2, _ => exact a2
      | 3, _ => exact a3
      | 4, _ => exact a4
      | 5, _ => exact a5
    refine zt_c (by omega) (zt_c (by omega) (zt_L (s_209 (f := cf) (n := ct - cf) hb hDg.1.2.1 (by omega) (fun i h1 h2 => hJg.2.2.2.2 i (by omega)) hen heb hv (hJg.2.1 h0).1 (by rw [(hJg.2.1 h0).2]; omega)) ?_))
    rintro z g3 ⟨rfl, f3⟩
    have f4 : zq_F zf_Lg h g3 := zq_F_tr (zq_F_wk f1 (fun a i q => Or.inr q)) (zq_F_wk f3 (fun a i q => Or.inl q))
    have ec : zp_cost cd cf ct (zp_en hr (zp_left P) dp 0 0 0) = max 0 (min 99 z) := by
      unfold zp_cost
      rw [hv]; rfl
    rw [ec]
    refine zt_p (fun q => zi_e ⟨by omega, f4⟩) (fun q => zt_p (fun q2 => zt_c (by omega) (zi_e ⟨by omega, f4⟩)) (fun q2 => zi_e ⟨by omega, f4⟩))
theorem s_207 (hD : zv_D h b K L C wo sz re fe ru lk P Pu Hd hr dp) (hB : zv_B K L C wo sz re fe ru lk) (hX : zv_X K L C P Pu Hd hr dp) (hJ : zv_J h b N cd cf ct pf pt) (hY : zv_Y N cd cf ct pf pt) : zi (zc 207 [zm_A 146, zm_I 0] h) (fun z g => z = zp_cost cd cf ct (zp_en hr (zp_left P) dp 0 0 0) ∧ zq_F zf_Ds h g) := zi_m (s_207x hD hB hX hJ hY) (fun z g q => ⟨q.1, zf_Lg_Ds q.2⟩)
end
