/-! STATEMENTS: one as a whole, both sides told together -/
section
variable {h g h1 h2 : zm_H} {T : Nat → Int} {n p p' b pf K L C cf ct qf qt : Nat} {gl g' : Bool} {wo sz re fe ru : Nat → Int} {lk : Nat → Nat → Int} {nk nc : Nat → List Nat} {F F0 : Nat → Int} {pu : Int} {l : List Int} {q : Nat × Bool} {o : zw_S}
/-- which statement it is, in the reference -/
theorem s_162d {R : zm_H → Prop} (hv : zw_lv h T n b (.inr (p, gl))) (t4 : zy_ty T n p gl ≠ 4) (c0 : zy_ow T n p gl = 0 → zu (zc 166 [zm_A 146] h) R) (c3 : zy_ow T n p gl = 3 → zu (zc 176 [zm_A 146] h) R) (c4 : zy_ow T n p gl = 4 → zu (zc 178 [zm_A 146] h) R) (c11 : zy_ow T n p gl = 11 → zu (zc 179 [zm_A 146] h) R) (c12 : zy_ow T n p gl = 12 → zu (zc 181 [zm_A 146] h) R) (c13 : zy_ow T n p gl = 13 → zu (zc 193 [zm_A 146] h) R) (c14 : zy_ow T n p gl = 14 → zu (zc 194 [zm_A 146] h) R) (cx : ¬ zw_sw (zy_ow T n p gl) → R (zm_wr (zm_wr h 146 8 1) 146 9 (zy_at T n p))) : zu (zc 162 [zm_A 146] h) R := by
  have LL := hv.live
  refine zt_l e_162 (zt_V (s_163 LL.2.2 t4) ?_)
  rintro g rfl
  refine zt_t (by omega) (zt_I (s_165 (w := 0) LL.2.2 t4 (by decide) (by decide)) ?_)
  rintro z g' ⟨rfl, rfl⟩
  by_cases w0 : zy_ow T n p gl = ((0 : Nat) : Int)
  · rw [if_pos w0]; exact zt_f (by decide) (zt_V (c0 w0) (fun g r => zu_e r))
  rw [if_neg w0]
  refine zt_t rfl (zt_I (s_165 (w := 3) LL.2.2 t4 (by decide) (by decide)) ?_)
  rintro z g' ⟨rfl, rfl⟩
  by_cases w3 : zy_ow T n p gl = ((3 : Nat) : Int)
  · rw [if_pos w3]; exact zt_f (by decide) (zt_V (c3 w3) (fun g r => zu_e r))
  rw [if_neg w3]
  refine zt_t rfl (zt_I (s_165 (w := 4) LL.2.2 t4 (by decide) (by decide)) ?_)
  rintro z g' ⟨rfl, rfl⟩
  by_cases w4 : zy_ow T n p gl = ((4 : Nat) : Int)
  · rw [if_pos w4]; exact zt_f (by decide) (zt_V (c4 w4) (fun g r => zu_e r))
  rw [if_neg w4]
  refine zt_t rfl (zt_I (s_165 (w := 11) LL.2.2 t4 (by decide) (by decide)) ?_)
  rintro z g' ⟨rfl, rfl⟩
  by_cases w11 : zy_ow T n p gl = ((11 : Nat) : Int)
  · rw [if_pos w11]; exact zt_f (by decide) (zt_V (c11 w11) (fun g r => zu_e r))
  rw [if_neg w11]
  refine zt_t rfl (zt_I (s_165 (w := 12) LL.2.2 t4 (by decide) (by decide)) ?_)
  rintro z g' ⟨rfl, rfl⟩
  by_cases w12 : zy_ow T n p gl = ((12 : Nat) : Int)
  · rw [if_pos w12]; exact zt_f (by decide) (zt_V (c12 w12) (fun g r => zu_e r))
  rw [if_neg w12]
  refine zt_t rfl (zt_I (s_165 (w := 13) LL.2.2 t4 (by decide) (by decide)) ?_)
  rintro z g' ⟨rfl, rfl⟩
  by_cases w13 : zy_ow T n p gl = ((13 : Nat) : Int)
  · rw [if_pos w13]; exact zt_f (by decide) (zt_V (c13 w13) (fun g r => zu_e r))
  rw [if_neg w13]
  refine zt_t rfl (zt_I (s_165 (w := 14) LL.2.2 t4 (by decide) (by decide)) ?_)
  rintro z g' ⟨rfl, rfl⟩
  by_cases w14 : zy_ow T n p gl = ((14 : Nat) : Int)
  · rw [if_pos w14]; exact zt_f (by decide) (zt_V (c14 w14) (fun g r => zu_e r))
  rw [if_neg w14, LL.2.2.1]
  refine zt_t rfl (zt_V (s_164y 1 _ LL.1) ?_)
  rintro g rfl
  exact zu_e (cx (by unfold zw_sw; omega))
theorem zw_rT_O {o : zw_T} {D : (Nat → Int) → zm_H → Prop} (r : zw_rT h T n b o D g) : zw_rO h T n b (zw_lS o) (fun g => D (zw_tF o) g) g := by
  obtain ⟨f, r⟩ := r
  rcases r with ⟨k, a, e, v⟩ | ⟨p', g', F', e, v, d⟩ | ⟨p', g', e, v, s⟩
  · exact ⟨f, Or.inl ⟨k, a, by rw [e]; rfl, by rw [e]; exact v⟩⟩
  · refine ⟨f, Or.inr (Or.inl ⟨p', g', by rw [e]; rfl, Or.inr ⟨by rw [e]; exact v, ?_⟩⟩)⟩
    show D (zw_tF o) g
    rw [e]; exact d
  · exact ⟨f, Or.inr (Or.inr ⟨p', g', by rw [e]; rfl, v, s⟩)⟩
theorem zw_rO_i {D D' : zm_H → Prop} {e : Nat × Nat} (r : zw_rO h T n b (.inl e) D g) : zw_rO h T n b (.inl e) D' g := by
  obtain ⟨f, r⟩ := r
  rcases r with r | ⟨p', g', e, _⟩ | r
  · exact ⟨f, Or.inl r⟩
  · cases e
  · exact ⟨f, Or.inr (Or.inr r)⟩
/-- what a statement tells -/
def zw_told (h1 h2 : zm_H) (pf b : Nat) (T : Nat → Int) (n p : Nat) : Prop := ∃ (o : zw_S) (K L C : Nat) (wo sz re fe ru : Nat → Int) (lk : Nat → Nat → Int) (nk nc : Nat → List Nat) (F : Nat → Int) (pu : Int) (l : List Int) (cf ct qf qt : Nat),
  (∀ p' g', o = .inr (p', g') → zw_PD K L C wo sz re fe ru lk nk nc F pu l cf ct qf qt p' ∧ p < p' ∧ p' ≤ n) ∧ zi (zc 75 [zm_A 29] h1) (zw_cO h1 pf T n (zw_th o (zw_sgn T n 59)) (fun g => zw_CD g pf K L C wo sz re fe ru lk nk nc F pu l cf ct qf qt)) ∧ zu (zc 162 [zm_A 146] h2) (zw_rO h2 T n b o (fun g => zw_RD g b K L C wo sz re fe ru lk nk nc F pu l cf ct qf qt))
theorem zw_told_f {k a : Nat} (hP : zw_PD K L C wo sz re fe ru lk nk nc F pu l cf ct qf qt p) (c : zi (zc 75 [zm_A 29] h1) (fun z g => z = 0 ∧ zy_ft k a h1 g)) (r : zu (zc 162 [zm_A 146] h2) (zw_rO h2 T n b (.inl (k, a)) (fun _ => True))) : zw_told h1 h2 pf b T n p := by
  refine ⟨.inl (k, a), K, L, C, wo, sz, re, fe, ru, lk, nk, nc, F, pu, l, cf, ct, qf, qt, fun p' g' e => (by cases e), zi_m c (fun z g q => ?_), zu_m r (fun g q => zw_rO_i q)⟩
  obtain ⟨rfl, q2⟩ := q
  exact zw_cO_f zq_F_rf rfl q2
theorem zw_stmt (hpf : zf_F pf) (hK : zw_K h1 pf T n p gl) (hv : zw_lv h2 T n b (.inr (p, gl))) (hP : zw_PD K L C wo sz re fe ru lk nk nc F pu l cf ct qf qt p) (hC : zw_CD h1 pf K L C wo sz re fe ru lk nk nc F pu l cf ct qf qt) (hR : zw_RD h2 b K L C wo sz re fe ru lk nk nc F pu l cf ct qf qt) (h80 : h1 pf 0 ≠ 80) (hne : zy_ty T n p gl ≠ 0) : zw_told h1 h2 pf b T n p := by
  have LL := hv.live
  have hL5 := hP.1.2.1
  have hK8 := hP.1.1
  have hC8 := hP.1.2.2.1
  by_cases hm : zw_ma K L C ct qt (zy_ow T n p gl)
  · have t1 := zy_ow_ty (T := T) (n := n) (p := p) (g := gl) (by unfold zw_ma at hm; omega)
    refine zw_told_f hP (s_75_m hpf hK hC hP h80 hm) ?_
    unfold zw_ma at hm
    refine s_162d hv (by omega) (fun w => ?_) (fun w => ?_) (fun w => ?_) (fun w => by omega) (fun w => ?_) (fun w => ?_) (fun w => by omega) (fun w => absurd (by unfold zw_sw; omega) w)
    · have r := s_166w hv t1 hR hP.1 hP.2.1
      rw [if_pos (show K = 8 by omega)] at r
      exact zu_m r (fun g q => zw_rO_i q)
    · have r := s_176w hv t1 hR hP.1 hP.2.1 (fun k hk hl => by omega)
      rw [if_pos (show L = 5 by omega)] at r
      exact zu_m r (fun g q => zw_rO_i (zw_rT_O q))
    · have r := s_178w hv t1 hR hP.1 hP.2.1
      rw [if_pos (show C = 8 by omega)] at r
      exact zu_m r (fun g q => zw_rO_i q)
    · have r := s_181w hv t1 hP.2.2.2.2.2.1 hR
      rw [if_pos (show 0 < ct by omega)] at r
      exact zu_m r (fun g q => zw_rO_i q)
    · have r := s_193w hv t1 hP.2.2.2.2.2.1 hR
      rw [if_pos (show 0 < qt by omega)] at r
      exact zu_m r (fun g q => zw_rO_i q)
  by_cases hs : zw_sw (zy_ow T n p gl)
  rotate_left
  · refine zw_told_f hP (s_75_x hpf hK hC hP h80 hm hs) ?_
    have X : zw_P h2 T n b (.inl (1, zy_bd T n p gl)) (zm_wr (zm_wr h2 146 8 ((1 : Nat) : Int)) 146 9 (zy_bd T n p gl)) := zw_P_f hv (by decide)
    by_cases t4 : zy_ty T n p gl = 4
    · refine zt_l e_162 (zt_V (s_163x LL.2.2 t4 LL.1) ?_)
      rintro g rfl
      exact zt_f (by rw [zq_wr_i (by decide), zq_wr_e]; decide) (zu_e ⟨zf_Wd_Pr X.1, Or.inl ⟨_, _, rfl, X.2⟩⟩)
    · unfold zw_sw at hs
      refine s_162d hv t4 (fun w => by omega) (fun w => by omega) (fun w => by omega) (fun w => by omega) (fun w => by omega) (fun w => by omega) (fun w => by omega) (fun _ => ?_)
      rw [zy_bd_at t4] at X ⊢
      exact ⟨zf_Wd_Pr X.1, Or.inl ⟨_, _, rfl, X.2⟩⟩
  have t1 := zy_ow_ty (T := T) (n := n) (p := p) (g := gl) (by unfold zw_sw at hs; omega)
  have on := zy_en_gt (T := T) (g := gl) LL.2.1 (by omega)
  have dis : ∀ {R : zm_H → Prop}, (zy_ow T n p gl = 0 → zu (zc 166 [zm_A 146] h2) R) → (zy_ow T n p gl = 3 → zu (zc 176 [zm_A 146] h2) R) → (zy_ow T n p gl = 4 → zu (zc 178 [zm_A 146] h2) R) → (zy_ow T n p gl = 11 → zu (zc 179 [zm_A 146] h2) R) → (zy_ow T n p gl = 12 → zu (zc 181 [zm_A 146] h2) R) → (zy_ow T n p gl = 13 → zu (zc 193 [zm_A 146] h2) R) → (zy_ow T n p gl = 14 → zu (zc 194 [zm_A 146] h2) R) → zu (zc 162 [zm_A 146] h2) R := fun a1 a2 a3 a4 a5 a6 a7 => s_162d hv (by omega) a1 a2 a3 a4 a5 a6 a7 (fun x => absurd hs x)
  unfold zw_ma at hm
  rcases hs with w | w | w | w | w | w | w
  · have hK7 : K < 8 := by omega
    have r := s_166w hv t1 hR hP.1 hP.2.1
    rw [if_neg (show ¬ K = 8 by omega)] at r
    refine ⟨_, _, _, _, _, _, _, _, _, _, _, _, _, _, _, _, _, _, _, fun p' g' e => ?_, s_75_0 hpf hK hC hP h80 hK7 w, dis (fun _ => r) (fun x => by omega) (fun x => by omega) (fun x => by omega) (fun x => by omega) (fun x => by omega) (fun x => by omega)⟩
    have v := zw_kd_v e
    have m := zw_mo_kd _ _ p' g' on.2 e
    exact ⟨zw_PD_kind hP hK7 v.1 v.2.1 v.2.2 (by omega), by omega, m.2⟩
  · have hL4 : L < 5 := by omega
    have r := s_176w hv t1 hR hP.1 hP.2.1 (fun k hk hl => hP.2.2.2.1 _ (by omega) (by omega))
    rw [if_neg (show ¬ L = 5 by omega)] at r
    refine ⟨_, _, _, _, _, _, _, _, _, _, _, _, _, _, _, _, _, _, _, fun p' g' e => ?_, s_75_3 hpf hK hC hP h80 hL4 w, dis (fun x => by omega) (fun _ => zu_m r (fun g q => zw_rT_O q)) (fun x => by omega) (fun x => by omega) (fun x => by omega) (fun x => by omega) (fun x => by omega)⟩
    cases ho : zw_ly T n K L nk 9 (zy_en T n p) (zy_ng T n p gl) F with
    | inl x => rw [ho] at e; cases e
    | inr x =>
      obtain ⟨p2, g2, F2⟩ := x
      rw [ho] at e
      cases e
      exact zw_PD_ly hP hL4 on.1 on.2 ho
  · have hC7 : C < 8 := by omega
    have r := s_178w hv t1 hR hP.1 hP.2.1
    rw [if_neg (show ¬ C = 8 by omega)] at r
    refine ⟨_, _, _, _, _, _, _, _, _, _, _, _, _, _, _, _, _, _, _, fun p' g' e => ?_, s_75_4 hpf hK hC hP h80 hC7 w, dis (fun x => by omega) (fun x => by omega) (fun _ => r) (fun x => by omega) (fun x => by omega) (fun x => by omega) (fun x => by omega)⟩
    have v := zw_ch_v e
    have m := zw_mo_ch _ _ p' g' on.2 e
    exact ⟨zw_PD_child hP hC7 v.1 v.2.1 v.2.2.1 v.2.2.2 (by omega), by omega, m.2⟩
  · have r := s_179w hv t1 hR hP.1 hP.2.1
    refine ⟨_, _, _, _, _, _, _, _, _, _, _, _, _, _, _, _, _, _, _, fun p' g' e => ?_, s_75_11 hpf hK hC hP h80 w, dis (fun x => by omega) (fun x => by omega) (fun x => by omega) (fun _ => r) (fun x => by omega) (fun x => by omega) (fun x => by omega)⟩
    have v := zw_li_v e
    have m := zw_mo_li _ _ p' g' on.2 e
    exact ⟨zw_PD_li hP v (by omega), by omega, m.2⟩
  · have ct0 : ct = 0 := by omega
    have r := s_181w hv t1 hP.2.2.2.2.2.1 hR
    rw [if_neg (show ¬ 0 < ct by omega)] at r
    refine ⟨_, _, _, _, _, _, _, _, _, _, _, _, _, _, _, _, _, _, _, fun p' g' e => ?_, s_75_12 hpf hK hC hP h80 ct0 w, dis (fun x => by omega) (fun x => by omega) (fun x => by omega) (fun x => by omega) (fun _ => r) (fun x => by omega) (fun x => by omega)⟩
    cases ho : zw_oc T n (zy_en T n p) (zy_ng T n p gl) l with
    | inl x => rw [ho] at e; cases e
    | inr x =>
      obtain ⟨p2, g2, l2⟩ := x
      rw [ho] at e
      cases e
      have le := zw_le (lv := 5) (Or.inl rfl) on.2 ho
      exact ⟨zw_PD_co hP on.1 on.2 ho, by omega, le.1⟩
  · have qt0 : qt = 0 := by omega
    have r := s_193w hv t1 hP.2.2.2.2.2.1 hR
    rw [if_neg (show ¬ 0 < qt by omega)] at r
    refine ⟨_, _, _, _, _, _, _, _, _, _, _, _, _, _, _, _, _, _, _, fun p' g' e => ?_, s_75_13 hpf hK hC hP h80 qt0 w, dis (fun x => by omega) (fun x => by omega) (fun x => by omega) (fun x => by omega) (fun x => by omega) (fun _ => r) (fun x => by omega)⟩
    cases ho : zw_op T n (zy_en T n p) (zy_ng T n p gl) l with
    | inl x => rw [ho] at e; cases e
    | inr x =>
      obtain ⟨p2, g2, l2⟩ := x
      rw [ho] at e
      cases e
      have le := zw_le (lv := 0) (Or.inr rfl) on.2 ho
      exact ⟨zw_PD_pt hP on.1 on.2 ho, by omega, le.1⟩
  · have r := s_194w hv t1 hR
    refine ⟨_, _, _, _, _, _, _, _, _, _, _, _, _, _, _, _, _, _, _, fun p' g' e => ?_, s_75_14 hpf hK hC hP h80 w, dis (fun x => by omega) (fun x => by omega) (fun x => by omega) (fun x => by omega) (fun x => by omega) (fun x => by omega) (fun _ => r)⟩
    have v := zw_num_r e
    have m := zw_mo_num _ _ p' g' on.2 e
    exact ⟨zw_PD_pu hP v.2.1 (by omega), by omega, m.2⟩
/-- the reference at a statement's end: ahead over blanks -/
theorem s_195_17 {x1 : Int} {Q : zm_H → Prop} (hT : zy_RT h T n) : ∀ (m p : Nat), p + m = n → zu (zr none 4 195 53 [zm_A 146, zm_I x1, zm_I (zy_sk T n m p)] [] h) Q → zu (zr none 4 195 17 [zm_A 146, zm_I x1, zm_I p] [] h) Q := by
  intro m
  induction m with
  | zero =>
    intro p hp c
    refine zt_l e_195_17 ?_
    rw [hT.2.2.1]
    exact zt_f (by omega) c
  | succ m ih =>
    intro p hp c
    have n16 := hT.1
    refine zt_l e_195_17 ?_
    rw [hT.2.2.1, hT.2.2.2 p (by omega)]
    unfold zy_sk at c
    have e1 : (p : Int) + 1 = ((p + 1 : Nat) : Int) := by omega
    rw [e1]
    refine zt_t (by omega) (zt_c (by omega) (zt_p (fun q => zt_c (by omega) ?_) (fun q => zt_c (by omega) (zt_p (fun q2 => zt_c (by omega) ?_) (fun q2 => ?_)))))
    · rw [if_pos ⟨by omega, Or.inr q⟩] at c; exact ih (p + 1) (by omega) c
    · rw [if_pos ⟨by omega, Or.inl q2⟩] at c; exact ih (p + 1) (by omega) c
    · rw [if_neg (fun r => by omega)] at c; exact c
/-- what stands behind a statement's ; -/
def zw_fin (T : Nat → Int) (n N : Nat) (o : zw_S) : zw_S := zw_th o (fun p g => if N = 80 ∧ zy_at T n p < n then .inl (6, zy_at T n p) else .inr (p, g))
theorem s_195w {N : Nat} {o' : zw_S} (ho : o' = zw_th o (zw_sgn T n 59)) (hv : (∃ k a : Nat, o = .inl (k, a) ∧ zw_lv h T n b o) ∨ (∃ p' g', o = .inr (p', g') ∧ ((zy_ty T n p' g' = 4 ∧ zw_lv h T n b (.inl (1, zy_bd T n p' g'))) ∨ zw_lv h T n b o)) ∨ ∃ p' g', o = .inl (1, zy_bd T n p' g') ∧ zw_lv h T n b (.inr (p', g')) ∧ ¬ zy_sg T n p' g' 59 = true) : zu (zc 195 [zm_A 146, zm_I N] h) (fun g => zw_P h T n b (zw_fin T n N o') g ∧ ∀ p2 g2, zw_fin T n N o' = .inr (p2, g2) → g 146 3 = 0 → n ≤ zy_at T n p2) := by
  have deadc : ∀ k a : Nat, zw_lv h T n b (.inl (k, a)) → zu (zc 195 [zm_A 146, zm_I N] h) (fun g => zw_P h T n b (.inl (k, a)) g ∧ ∀ p2 g2, (.inl (k, a) : zw_S) = .inr (p2, g2) → g 146 3 = 0 → n ≤ zy_at T n p2) := by
    intro k a v
    have d := v.dead
    refine zt_l e_195 (zt_V (s_163d (by omega)) ?_)
    rintro g rfl
    exact zt_f (by omega) (zu_e ⟨zw_P_rf v, fun p2 g2 e => by cases e⟩)
  have live : ∀ (p' : Nat) (g' : Bool), zw_lv h T n b (.inr (p', g')) → zu (zc 195 [zm_A 146, zm_I N] h) (fun g => zw_P h T n b (zw_fin T n N (zw_sgn T n 59 p' g')) g ∧ ∀ p2 g2, zw_fin T n N (zw_sgn T n 59 p' g') = .inr (p2, g2) → g 146 3 = 0 → n ≤ zy_at T n p2) := by
    intro p' g' v
    have LL := v.live
    by_cases t4 : zy_ty T n p' g' = 4
    · have e : zw_sgn T n 59 p' g' = .inl (1, zy_bd T n p' g') := by
        unfold zw_sgn
        rw [if_neg (fun e => by have := (zy_sg_ty e).1; omega)]
      rw [e]
      refine zt_l e_195 (zt_V (s_163x LL.2.2 t4 LL.1) ?_)
      rintro g rfl
      exact zt_f (by rw [zq_wr_i (by decide), zq_wr_e]; decide) (zu_e ⟨zw_P_f v (by decide), fun p2 g2 e => by cases e⟩)
    · refine zt_l e_195 (zt_V (s_163 LL.2.2 t4) ?_)
      rintro g rfl
      refine zt_t (by omega) ?_
      rw [(LL.2.2.2.2.1 t4).2.2]
      have hen : zy_en T n p' ≤ n := by
        by_cases t0 : zy_ty T n p' g' = 0
        · unfold zy_ty at t0
          have ha : zy_at T n p' ≤ n := (zy_sk_le T n (n - p') p').2 LL.2.1
          unfold zy_en
          split
          · exact ha
          · rw [if_neg (by assumption)] at t0
            split at t0
            · split at t0 <;> cases t0
            · split at t0
              · split at t0 <;> cases t0
              · cases t0
        · exact (zy_gl_n LL.2.1 ⟨t4, t0⟩).2
      refine s_195_17 v.1 (n - zy_en T n p') (zy_en T n p') (by omega) ?_
      show zu (zr none 4 195 53 [zm_A 146, zm_I N, zm_I (zy_at T n (zy_en T n p'))] [] g) _
      have semi' := s_196x v 59
      refine zt_l e_195_53 (zt_I (s_187s LL.2.2 t4 59) ?_)
      rintro z g2 ⟨rfl, rfl⟩
      by_cases q : zy_sg T n p' g' 59 = true
      · have e : zw_sgn T n 59 p' g' = zw_go T n p' g' := by unfold zw_sgn; rw [if_pos q]
        rw [if_pos q]
        rw [e] at semi' ⊢
        show zu _ (fun g => zw_P g2 T n b (if N = 80 ∧ zy_at T n (zy_en T n p') < n then (.inl (6, zy_at T n (zy_en T n p')) : zw_S) else .inr (zy_en T n p', zy_ng T n p' g')) g ∧ ∀ p2 g3, (if N = 80 ∧ zy_at T n (zy_en T n p') < n then (.inl (6, zy_at T n (zy_en T n p')) : zw_S) else .inr (zy_en T n p', zy_ng T n p' g')) = .inr (p2, g3) → g 146 3 = 0 → n ≤ zy_at T n p2)
        refine zt_f (by decide) (zt_p (fun q1 => ?_) (fun q1 => ?_))
        · rw [v.1.2.2.1]
          refine zt_p (fun q2 => ?_) (fun q2 => ?_)
          · rw [if_pos ⟨by omega, by omega⟩]
            have X : zw_P g2 T n b (.inl (6, zy_at T n (zy_en T n p'))) (zm_wr (zm_wr g2 146 8 ((6 : Nat) : Int)) 146 9 (zy_at T n (zy_en T n p'))) := zw_P_f v (by decide)
            refine zt_V (s_164y 6 _ LL.1) ?_
            rintro g3 rfl
            refine zt_V (s_196 X.2 59) ?_
            intro g4 r4
            exact zu_e ⟨zw_P_tr X.1 r4, fun p2 g3 e => by cases e⟩
          · rw [if_neg (fun r => by omega)]
            exact zt_V semi' (fun g3 r => zu_e r)
        · rw [if_neg (fun r => by omega)]
          exact zt_V semi' (fun g3 r => zu_e r)
      · have e : zw_sgn T n 59 p' g' = .inl (1, zy_bd T n p' g') := by unfold zw_sgn; rw [if_neg q]
        rw [if_neg q]
        rw [e] at semi' ⊢
        exact zt_t rfl (zt_V semi' (fun g3 r => zu_e r))
  rcases hv with ⟨k, a, e, v⟩ | ⟨p', g', e, v⟩ | ⟨p', g', e, v, s⟩
  · rw [e] at v ho
    rw [ho]
    exact deadc k a v
  · rw [e] at ho
    rcases v with ⟨t4, v⟩ | v
    · have e2 : zw_sgn T n 59 p' g' = .inl (1, zy_bd T n p' g') := by
        unfold zw_sgn
        rw [if_neg (fun e => by have := (zy_sg_ty e).1; omega)]
      rw [ho, show zw_th (.inr (p', g') : zw_S) (zw_sgn T n 59) = .inl (1, zy_bd T n p' g') from e2]
      exact deadc _ _ v
    · rw [e] at v
      rw [ho]
      exact live p' g' v
  · rw [e] at ho
    have e2 : zw_sgn T n 59 p' g' = .inl (1, zy_bd T n p' g') := by unfold zw_sgn; rw [if_neg s]
    have r := live p' g' v
    rw [e2] at r
    rw [ho]
    exact r
end
