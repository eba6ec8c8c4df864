/-! AFTERNOON of both sides, told together -/
section
variable {h : zm_H} {t b K L C N cf ct pf pt U nx uf d e : Nat} {wo sz re fe ru cd : Nat → Int} {lk : Nat → Nat → Int} {P Pu Qu Hd : Nat → Int} {hr dp x : Int} {sl : Nat → Nat} {sP sU sQ sH : Nat → Nat → Int} {sh sd lc lkk lh lo : Nat → Int}
theorem s_242S {v c : Nat} {ord : Nat → Nat} (ho : ∀ p, p < 5 → ord p < 5) (hQ : ∀ p : Nat, p < L → h 185 p = ord p) (hG : zv_G h b K L C wo sz re fe ru lk) (hB : zv_B K L C wo sz re fe ru lk) (hW : zv_W h v P Pu Hd) (hP : zv_P K L P) (hc : c < C) : zi (zc 242 [zm_A 146, zm_I v, zm_I c] h) (fun z g => z = zp_flo K L sz re fe ru lk P ord c ∧ zq_F zf_Gs h g ∧ zv_S g L re P ord c) := by
  have hK8 := hB.1
  refine zt_l e_242 (zt_V (s_226 ho hQ hG hB hW hP hc) ?_)
  rintro g2 ⟨f2, hS⟩
  have h68 := hS.1
  have h186 := hS.2
  have hG2 := hG.gs f2
  have bc := zp_cn_b (re := re) hB hP ho c
  have b0 := zp_cn_0 (re := re) hB hP ho c
  have bt := zp_tot_b bc
  have bT := zp_T_b hB hc
  have hw := zp_wv_b hB hc
  have bw := zp_wo_b (ke := zp_ke K sz ru lk c) (Nat.le_refl 8) bc hw bT.2.2
  have bf := zp_flo_b hB hP ho hc
  have h68' : g2 146 68 = zq_S 8 (zp_cn L re P ord c) := h68
  by_cases ht : zq_S 8 (zp_cn L re P ord c) ≤ 0
  · exact zt_t (by omega) (zi_e ⟨by unfold zp_flo; exact (if_pos ht).symm, f2, hS⟩)
  · have hp := zp_pw_pos (b := zq_S 8 (zp_cn L re P ord c)) (by omega) (zp_T fe c)
    have ef : zp_flo K L sz re fe ru lk P ord c = zp_wo (zp_ke K sz ru lk c) (zp_cn L re P ord c) (zp_wv K lk c) (zp_T fe c) / zp_pw (zq_S 8 (zp_cn L re P ord c)) (zp_T fe c) := if_neg ht
    refine zt_f (by omega) (zt_L (s_239 (cn := zp_cn L re P ord c) hG2 hB hc bT.1 h186 bc b0) ?_)
    rintro z g ⟨rfl, rfl⟩
    refine zt_I (s_235 hG2 hB hc) ?_
    rintro z g ⟨rfl, rfl⟩
    rw [h68', ← bT.1]
    refine zt_L (s_236 bt bT.2.2) ?_
    rintro z g ⟨rfl, rfl⟩
    have hn : 0 ≤ zp_wo (zp_ke K sz ru lk c) (zp_cn L re P ord c) (zp_wv K lk c) (zp_T fe c) := bw.1
    rw [zq_tdiv hn]
    rw [← ef]
    exact zt_c ⟨by omega, by omega⟩ (zt_c (by omega) (zi_e ⟨rfl, f2, hS⟩))
theorem s_241S {c : Nat} {p : Int} {ord : Nat → Nat} (hp : 0 ≤ p) (ho : ∀ p, p < 5 → ord p < 5) (hQ : ∀ p : Nat, p < L → h 185 p = ord p) (hG : zv_G h b K L C wo sz re fe ru lk) (hB : zv_B K L C wo sz re fe ru lk) (hW : zv_W h 0 P Pu Hd) (hP : zv_P K L P) (hc : c < C) : zi (zc 241 [zm_A 146, zm_I c, zm_I p] h) (fun z g => z = zp_com (zp_flo K L sz re fe ru lk P ord) Pu c p ∧ zq_F zf_Gs h g ∧ zv_S g L re P ord c) := by
  have hC8 := hB.2.2.1
  refine zt_l e_241 (zt_I (s_242S (v := 0) ho hQ hG hB hW hP hc) ?_)
  rintro z g ⟨rfl, f, hS⟩
  have e : g 177 (c : Int) = Pu c := by
    rw [zf_Gs_kp f (by decide) (by decide)]; exact hW.2.2.1 c (by omega) c (by omega)
  rw [e]
  unfold zp_com
  refine zt_p (fun q => zt_c (by decide) (zi_e ⟨by rw [if_neg (by omega)], f, hS⟩)) (fun q => zt_p (fun q2 => zt_c (by decide) (zi_e ⟨by rw [if_neg (by omega)], f, hS⟩)) (fun q2 => zt_c (by omega) (zt_p (fun q3 => zt_c (by decide) (zi_e ⟨by rw [if_neg (by omega)], f, hS⟩)) (fun q3 => zt_c (by decide) (zi_e ⟨by rw [if_pos (by omega)], f, hS⟩)))))
theorem zp_flo_tot {c : Nat} (h0 : 0 ≤ zp_flo K L sz re fe ru lk P zp_id c) : 0 < zp_tot L re P c := by
  unfold zp_flo at h0
  split at h0
  · omega
  · unfold zp_tot; omega
theorem zl_Ix {a x : Option (zm_V × zm_H)} {k : Int → zm_H → Option (zm_V × zm_H)} {z : Int} {g : zm_H} (hx : x = some (zm_I z, g)) (hq : zl a (k z g)) : zl a (zk_I x k) := by rw [hx]; exact hq
theorem zl_cx {a b : Option (zm_V × zm_H)} {p : Prop} [Decidable p] (hp : p) (hq : zl a b) : zl a (zm_ck p b) := by rw [zm_ck_t hp]; exact hq
theorem zl_tx {a b c : Option (zm_V × zm_H)} {p : Prop} [Decidable p] (hp : p) (hq : zl a b) : zl a (if p then b else c) := by rw [if_pos hp]; exact hq
theorem zl_fx {a b c : Option (zm_V × zm_H)} {p : Prop} [Decidable p] (hp : ¬ p) (hq : zl a c) : zl a (if p then b else c) := by rw [if_neg hp]; exact hq
/-- a round, from the child c on -/
theorem s_round (hB : zv_B K L C wo sz re fe ru lk) (hY : zv_Y N cd cf ct pf pt) (hU : 0 < U) : ∀ (m c : Nat), c + m = C → ∀ (d e : Nat) (P Pu Qu Hd : Nat → Int) (dp x : Int) (sl : Nat → Nat) (lc lkk lh lo : Nat → Int) (h1 h2 : zm_H),
    zv_K1 h1 t K L C N cf ct pf pt U nx wo sz re fe ru cd lk P Pu Hd hr dp x sl sP sU sH sh sd lc lkk lh lo → zv_K2 h2 b K L C N cf ct pf pt U uf wo sz re fe ru cd lk P Qu Hd hr dp x sl sP sQ sH sh sd lc lkk lh lo → zv_V K L C U d e P Pu Qu Hd hr dp x sl lc lkk lh lo → (∀ p : Nat, p < 5 → h2 185 p = p) → d + m ≤ 160 → e + m < 98000 →
    ∃ (a : Nat) (P' Pu' Qu' Hd' : Nat → Int) (dp' x' : Int) (sl' : Nat → Nat) (lc' lkk' lh' lo' : Nat → Int), a ≤ m ∧ dp' = dp + a ∧ zv_V K L C U (d + a) (e + a) P' Pu' Qu' Hd' (if hr < 99 then hr + 1 else hr) dp' x' sl' lc' lkk' lh' lo' ∧
      zu (zr none 6 42 2 [zm_A 4, zm_I c] [] h1) (fun g => zq_F zf_CA h1 g ∧ zv_K1 g t K L C N cf ct pf pt U nx wo sz re fe ru cd lk P' Pu' Hd' (if hr < 99 then hr + 1 else hr) dp' x' sl' sP sU sH sh sd lc' lkk' lh' lo') ∧
      ∃ g2, zq_F zf_DA h2 g2 ∧ zv_K2 g2 b K L C N cf ct pf pt U uf wo sz re fe ru cd lk P' Qu' Hd' (if hr < 99 then hr + 1 else hr) dp' x' sl' sP sQ sH sh sd lc' lkk' lh' lo' ∧ (∀ p : Nat, p < 5 → g2 185 p = p) ∧ ∀ (x1 x2 x3 x4 : Int), 0 ≤ x2 → x2 + m ≤ 1000 → 0 ≤ x4 → x4 ≤ 1000 → zl (zr none 8 257 31 [zm_A 146, zm_I x1, zm_I (x2 + a), zm_I (if a = 0 then x3 else 1), zm_I (x4 + 1), zm_I C] [] g2) (zr none 8 257 46 [zm_A 146, zm_I x1, zm_I x2, zm_I x3, zm_I x4, zm_I c] [] h2) := by
  have hC8 := hB.2.2.1
  have hL5 := hB.2.1
  intro m
  induction m with
  | zero =>
    intro c hcm d e P Pu Qu Hd dp x sl lc lkk lh lo h1 h2 k1 k2 hV o2 hd he
    have hb2 := k2.1.1.1
    have x4b := hV.1.2.2.2
    have eC1 : h1 t 3 = C := k1.1.2.1.2.2.2.1
    have eC2 : h2 153 b = C := k2.1.1.2.2.2.2.1
    refine ⟨0, P, Pu, Qu, Hd, dp, x, sl, lc, lkk, lh, lo, Nat.le_refl _, by omega, ?_, ?_, ?_⟩
    · obtain ⟨X1, X2, r⟩ := hV
      have hX : ∀ Ru, zv_X K L C P Ru Hd hr dp → zv_X K L C P Ru Hd (if hr < 99 then hr + 1 else hr) dp := fun Ru q => by
        obtain ⟨q1, q2, q3, q4, q5, q6, q7⟩ := q
        refine ⟨q1, q2, q3, ?_, ?_, q6, q7⟩ <;> split <;> omega
      exact ⟨hX Pu X1, hX Qu X2, r⟩
    · refine zt_l (e_42_2 k1.1.2.1.1) (zt_c k1.1.1 ?_)
      rw [eC1, k1.1.2.2.2.1]
      refine zt_f (by omega) ?_
      have c3 := k1.1.2.2.1
      refine zt_p (fun q => zt_c (by omega) (zu_e ?_)) (fun q => zu_e ?_)
      · rw [if_pos q]
        refine ⟨zq_F_wr (by unfold zf_CA; omega), k1.tub (zq_F_wr (by omega)) (fun i hi => ?_) (fun i hi => ?_) (fun i hi => ?_) zq_wr_e ?_⟩
        · rw [zq_wr_n (by decide)]; exact c3.2.1 i hi
        · rw [zq_wr_n (by decide)]; exact c3.2.2.1 i hi
        · rw [zq_wr_n (by decide)]; exact c3.2.2.2 i hi
        · rw [zq_wr_i (by decide)]; exact k1.1.2.2.2.2
      · rw [if_neg q]
        exact ⟨zq_F_rf, k1⟩
    · have c3 := k2.1.2.1
      have ecC : c = C := by omega
      have e0 : ∀ x2 : Int, x2 + ((0 : Nat) : Int) = x2 := fun x2 => by omega
      by_cases q : hr < 99
      · refine ⟨zm_wr h2 174 0 (hr + 1), zq_F_wr (by unfold zf_DA; omega), ?_, fun p hp => by rw [zq_wr_n (by decide)]; exact o2 p hp, fun x1 x2 x3 x4 hx2 hx2b hx4 hx4b => ?_⟩
        · rw [if_pos q]
          refine k2.tub (zq_F_wr (by omega)) (fun i hi => ?_) (fun i hi => ?_) (fun i hi => ?_) zq_wr_e ?_
          · rw [zq_wr_n (by decide)]; exact c3.2.1 i hi i (by omega)
          · rw [zq_wr_n (by decide)]; exact c3.2.2.1 i hi i (by omega)
          · rw [zq_wr_n (by decide)]; exact c3.2.2.2 i hi i (by omega)
          · rw [zq_wr_n (by decide)]; exact k2.1.2.2.2
        · refine zl_tr e_257_46 ?_
          rw [k2.1.1.2.1, eC2, k2.1.2.2.1, e0, if_pos rfl, ecC]
          exact zl_cx (by omega) (zl_fx (by omega) (zl_cx (by decide) (zl_tx q (zl_cx (by decide) (zl_cx (by omega) (zl_cx (by decide) (zl_cx (by omega) zl_rf)))))))
      · refine ⟨h2, zq_F_rf, by rw [if_neg q]; exact k2, o2, fun x1 x2 x3 x4 hx2 hx2b hx4 hx4b => ?_⟩
        refine zl_tr e_257_46 ?_
        rw [k2.1.1.2.1, eC2, k2.1.2.2.1, e0, if_pos rfl, ecC]
        exact zl_cx (by omega) (zl_fx (by omega) (zl_cx (by decide) (zl_fx q (zl_cx (by omega) zl_rf))))
  | succ m ih =>
    intro c hcm d e P Pu Qu Hd dp x sl lc lkk lh lo h1 h2 k1 k2 hV o2 hd he
    have hb2 := k2.1.1.1
    have hc : c < C := by omega
    have eC1 : h1 t 3 = C := k1.1.2.1.2.2.2.1
    have eC2 : h2 153 b = C := k2.1.1.2.2.2.2.1
    generalize hco : zp_cost cd cf ct (zp_en hr (zp_left P) dp 0 0 0) = co
    have hcob : 0 ≤ co ∧ co ≤ 99 := by rw [← hco]; unfold zp_cost; omega
    have eQ := hV.2.2.2.1 c hc
    -- the class: up to the choice
    obtain ⟨v1, g1, r1, z1, rfl, hz1, f1⟩ := s_31 k1.1 hB hV.1 k1.2.1 hY hc hco.symm
    have k1a := k1.cs f1
    obtain ⟨v2, g2, r2, z2, rfl, hz2, f2⟩ := s_8 k1a.1 hV.1 k1a.2.1 hY
    rw [hco] at hz2
    have k1b := k1a.cs f2
    obtain ⟨v3, g3, r3, z3, rfl, hz3, f3⟩ := s_26 k1b.1 hB hV.1 hc
    have f3' := zf_Rs_Cs f3
    have k1c := k1b.cs f3'
    -- the reference: up to the choice
    obtain ⟨v4, g4, r4, z4, rfl, hz4, f4⟩ := s_207x k2.1 hB hV.2.1 k2.2.1 hY
    rw [hco] at hz4
    have f4' := zf_Lg_Ds f4
    have k2a := k2.ds f4'
    have o4 : ∀ p : Nat, p < 5 → g4 185 p = p := fun p hp => by rw [f4 185 p (by unfold zf_Lg; omega)]; exact o2 p hp
    obtain ⟨v5, g5, r5, z5, rfl, hz5, f5, S5⟩ := s_241S hcob.1 zp_id_b (fun p hp => o4 p (by omega)) k2a.1.1 hB k2a.1.2.1 hV.1.1 hc
    have f5' := zf_Gs_Ds f5
    have k2b := k2a.ds f5'
    have o5 : ∀ p : Nat, p < 5 → g5 185 p = p := fun p hp => by rw [zf_Gs_kp f5 (by decide) (by decide)]; exact o4 p hp
    have F5 : zq_F zf_DA h2 g5 := zq_F_tr (zf_Ds_DA f4') (zf_Ds_DA f5')
    have hz2' := hz2.symm
    subst hz2'
    have hz4' := hz4.symm
    subst hz4'
    by_cases hch : co ≤ zp_flo K L sz re fe ru lk P zp_id c ∧ co ≤ Pu c
    · -- he dips
      have hT0 := zp_flo_tot (K := K) (sz := sz) (fe := fe) (ru := ru) (lk := lk) (L := L) (re := re) (P := P) (c := c) (by omega)
      rw [if_pos ⟨hT0, hch.2⟩] at hz1
      have hcom : zp_com (zp_flo K L sz re fe ru lk P zp_id) Qu c co = 1 := if_pos ⟨hch.1, by omega⟩
      rw [hcom] at hz5
      obtain ⟨v6, g6, r6, z6, rfl, hz6, f6, k1d⟩ := s_32k k1c hB hY hV hU (by omega) (by omega) hc hT0 hco.symm rfl rfl
      obtain ⟨v7, g7, r7, z7, rfl, hz7, f7, k2d⟩ := s_248k k2b hB hY hV (by omega) hc S5 o5 hT0 hco.symm rfl rfl
      have hsb := zp_dq_b (cd := cd) (pf := pf) (pt := pt) hB hV.1.1 (fe := fe) (sz := sz) (ru := ru) (lk := lk) hT0 hr dp x
      have hV2 := hV.dip hB hc hT0 hcob hch.2 (by omega) (by omega) hsb rfl
      have o7 : ∀ p : Nat, p < 5 → g7 185 p = p := fun p hp => by rw [f7 185 p (by unfold zf_Dq; omega)]; exact o5 p hp
      obtain ⟨a, P', Pu', Qu', Hd', dp', x', sl', lc', lkk', lh', lo', ha, hdp', hV', hcl, hrf⟩ := ih (c + 1) (by omega) (d + 1) (e + 1) _ _ _ _ _ _ _ _ _ _ _ g6 g7 k1d k2d hV2 o7 (by omega) (by omega)
      refine ⟨a + 1, P', Pu', Qu', Hd', dp', x', sl', lc', lkk', lh', lo', by omega, by omega, ?_, ?_, ?_⟩
      · rw [show d + (a + 1) = d + 1 + a by omega, show e + (a + 1) = e + 1 + a by omega]; exact hV'
      · refine zt_l (e_42_2 k1.1.2.1.1) (zt_c k1.1.1 ?_)
        rw [eC1]
        refine zt_t (by omega) (zt_I (Q1 := fun z g => z = z1 ∧ g = g1) ⟨_, g1, r1, z1, rfl, rfl, rfl⟩ ?_)
        rintro z g ⟨rfl, rfl⟩
        refine zt_f (by omega) (zt_I (Q1 := fun z' g => z' = co ∧ g = g2) ⟨_, g2, r2, co, rfl, rfl, rfl⟩ ?_)
        rintro z' g ⟨rfl, rfl⟩
        refine zt_I (Q1 := fun z' g => z' = z3 ∧ g = g3) ⟨_, g3, r3, z3, rfl, rfl, rfl⟩ ?_
        rintro z2' g ⟨rfl, rfl⟩
        refine zt_f (by omega) (zt_I (Q1 := fun z' g => z' = z6 ∧ g = g6) ⟨_, g6, r6, z6, rfl, rfl, rfl⟩ ?_)
        rintro z3' g ⟨rfl, rfl⟩
        refine zt_c (by omega) ?_
        rw [show (c : Int) + 1 = ((c + 1 : Nat) : Int) by omega]
        refine zu_m hcl (fun g' q => ⟨zq_F_tr (zf_Cs_CA f1) (zq_F_tr (zf_Cs_CA f2) (zq_F_tr (zf_Cs_CA f3') (zq_F_tr f6 q.1))), q.2⟩)
      · obtain ⟨g8, F8, k2e, o8, hrf⟩ := hrf
        refine ⟨g8, zq_F_tr F5 (zq_F_tr (zf_Dq_DA f7) F8), k2e, o8, fun x1 x2 x3 x4 hx2 hx2b hx4 hx4b => ?_⟩
        refine zl_tr e_257_46 ?_
        rw [k2.1.1.2.1, eC2]
        refine zl_cx (by omega) (zl_tx (by omega) (zl_Ix r4 (zl_Ix r5 (zl_fx (by omega) (zl_Ix r7 (zl_cx (by omega) (zl_cx (by omega) ?_)))))))
        rw [show (c : Int) + 1 = ((c + 1 : Nat) : Int) by omega, if_neg (by omega : ¬ a + 1 = 0), show x2 + ((a + 1 : Nat) : Int) = x2 + 1 + (a : Int) by omega]
        have := hrf x1 (x2 + 1) 1 x4 (by omega) (by omega) hx4 hx4b
        have e1 : (if a = 0 then (1 : Int) else 1) = 1 := by split <;> rfl
        rw [e1] at this
        exact this
    · -- he doesn't
      have hcom : zp_com (zp_flo K L sz re fe ru lk P zp_id) Qu c co = 0 := if_neg (by rw [eQ]; exact hch)
      rw [hcom] at hz5
      have nxt : ∀ (g1' : zm_H), zq_F zf_CA h1 g1' → zv_K1 g1' t K L C N cf ct pf pt U nx wo sz re fe ru cd lk P Pu Hd hr dp x sl sP sU sH sh sd lc lkk lh lo → (∀ Q1 : zm_H → Prop, zu (zr none 6 42 2 [zm_A 4, zm_I ((c + 1 : Nat) : Int)] [] g1') Q1 → zu (zr none 6 42 2 [zm_A 4, zm_I c] [] h1) Q1) → ∃ (a : Nat) (P' Pu' Qu' Hd' : Nat → Int) (dp' x' : Int) (sl' : Nat → Nat) (lc' lkk' lh' lo' : Nat → Int), a ≤ m + 1 ∧ dp' = dp + a ∧ zv_V K L C U (d + a) (e + a) P' Pu' Qu' Hd' (if hr < 99 then hr + 1 else hr) dp' x' sl' lc' lkk' lh' lo' ∧
          zu (zr none 6 42 2 [zm_A 4, zm_I c] [] h1) (fun g => zq_F zf_CA h1 g ∧ zv_K1 g t K L C N cf ct pf pt U nx wo sz re fe ru cd lk P' Pu' Hd' (if hr < 99 then hr + 1 else hr) dp' x' sl' sP sU sH sh sd lc' lkk' lh' lo') ∧
          ∃ g2, zq_F zf_DA h2 g2 ∧ zv_K2 g2 b K L C N cf ct pf pt U uf wo sz re fe ru cd lk P' Qu' Hd' (if hr < 99 then hr + 1 else hr) dp' x' sl' sP sQ sH sh sd lc' lkk' lh' lo' ∧ (∀ p : Nat, p < 5 → g2 185 p = p) ∧ ∀ (x1 x2 x3 x4 : Int), 0 ≤ x2 → x2 + ((m + 1 : Nat) : Int) ≤ 1000 → 0 ≤ x4 → x4 ≤ 1000 → zl (zr none 8 257 31 [zm_A 146, zm_I x1, zm_I (x2 + a), zm_I (if a = 0 then x3 else 1), zm_I (x4 + 1), zm_I C] [] g2) (zr none 8 257 46 [zm_A 146, zm_I x1, zm_I x2, zm_I x3, zm_I x4, zm_I c] [] h2) := by
        intro g1' F1 k1' hgo
        obtain ⟨a, P', Pu', Qu', Hd', dp', x', sl', lc', lkk', lh', lo', ha, hdp', hV', hcl, hrf⟩ := ih (c + 1) (by omega) d e _ _ _ _ _ _ _ _ _ _ _ g1' g5 k1' k2b hV o5 (by omega) (by omega)
        refine ⟨a, P', Pu', Qu', Hd', dp', x', sl', lc', lkk', lh', lo', by omega, hdp', hV', hgo _ (zu_m hcl (fun g' q => ⟨zq_F_tr F1 q.1, q.2⟩)), ?_⟩
        obtain ⟨g8, F8, k2e, o8, hrf⟩ := hrf
        refine ⟨g8, zq_F_tr F5 F8, k2e, o8, fun x1 x2 x3 x4 hx2 hx2b hx4 hx4b => ?_⟩
        refine zl_tr e_257_46 ?_
        rw [k2.1.1.2.1, eC2]
        refine zl_cx (by omega) (zl_tx (by omega) (zl_Ix r4 (zl_Ix r5 (zl_tx (by omega) (zl_cx (by omega) ?_)))))
        rw [show (c : Int) + 1 = ((c + 1 : Nat) : Int) by omega]
        exact hrf x1 x2 x3 x4 hx2 (by omega) hx4 hx4b
      by_cases hdo : 0 < zp_tot L re P c ∧ co ≤ Pu c
      · rw [if_pos hdo] at hz1
        refine nxt g3 (zq_F_tr (zf_Cs_CA f1) (zq_F_tr (zf_Cs_CA f2) (zf_Cs_CA f3'))) k1c (fun Q1 hq => ?_)
        refine zt_l (e_42_2 k1.1.2.1.1) (zt_c k1.1.1 ?_)
        rw [eC1]
        refine zt_t (by omega) (zt_I (Q1 := fun z g => z = z1 ∧ g = g1) ⟨_, g1, r1, z1, rfl, rfl, rfl⟩ ?_)
        rintro z g ⟨rfl, rfl⟩
        refine zt_f (by omega) (zt_I (Q1 := fun z' g => z' = co ∧ g = g2) ⟨_, g2, r2, co, rfl, rfl, rfl⟩ ?_)
        rintro z' g ⟨rfl, rfl⟩
        refine zt_I (Q1 := fun z' g => z' = z3 ∧ g = g3) ⟨_, g3, r3, z3, rfl, rfl, rfl⟩ ?_
        rintro z2' g ⟨rfl, rfl⟩
        refine zt_t (by omega) (zt_c (by omega) ?_)
        rw [show (c : Int) + 1 = ((c + 1 : Nat) : Int) by omega]
        exact hq
      · rw [if_neg hdo] at hz1
        refine nxt g1 (zf_Cs_CA f1) k1a (fun Q1 hq => ?_)
        refine zt_l (e_42_2 k1.1.2.1.1) (zt_c k1.1.1 ?_)
        rw [eC1]
        refine zt_t (by omega) (zt_I (Q1 := fun z g => z = z1 ∧ g = g1) ⟨_, g1, r1, z1, rfl, rfl, rfl⟩ ?_)
        rintro z g ⟨rfl, rfl⟩
        refine zt_t (by omega) (zt_c (by omega) ?_)
        rw [show (c : Int) + 1 = ((c + 1 : Nat) : Int) by omega]
        exact hq
/-- rounds, from the r-th on -/
theorem s_rounds (hB : zv_B K L C wo sz re fe ru lk) (hY : zv_Y N cd cf ct pf pt) (hU : 0 < U) {n : Nat} (hn : n ≤ 20) {dp0 : Int} : ∀ (m r : Nat), r + m = n → ∀ (d e : Nat) (P Pu Qu Hd : Nat → Int) (hr dp x : Int) (sl : Nat → Nat) (lc lkk lh lo : Nat → Int) (h1 h2 : zm_H) (w1 w2 : zm_V),
    zv_K1 h1 t K L C N cf ct pf pt U nx wo sz re fe ru cd lk P Pu Hd hr dp x sl sP sU sH sh sd lc lkk lh lo → zv_K2 h2 b K L C N cf ct pf pt U uf wo sz re fe ru cd lk P Qu Hd hr dp x sl sP sQ sH sh sd lc lkk lh lo → zv_V K L C U d e P Pu Qu Hd hr dp x sl lc lkk lh lo → (∀ p : Nat, p < 5 → h2 185 p = p) → d ≤ 8 * r → e + 8 * m < 98000 → 0 ≤ dp0 → dp = dp0 + d →
    ∃ (a : Nat) (P' Pu' Qu' Hd' : Nat → Int) (hr' dp' x' : Int) (sl' : Nat → Nat) (lc' lkk' lh' lo' : Nat → Int), a ≤ 8 * m ∧ zv_V K L C U (d + a) (e + a) P' Pu' Qu' Hd' hr' dp' x' sl' lc' lkk' lh' lo' ∧
      zi (zr none 7 41 38 [zm_A 4, zm_I n, zm_I dp0, zm_I r, w1] [] h1) (fun z g => z = ((d + a : Nat) : Int) ∧ zq_F zf_CA h1 g ∧ zv_K1 g t K L C N cf ct pf pt U nx wo sz re fe ru cd lk P' Pu' Hd' hr' dp' x' sl' sP sU sH sh sd lc' lkk' lh' lo') ∧
      zi (zr none 8 257 31 [zm_A 146, zm_I n, zm_I d, zm_I 1, zm_I r, w2] [] h2) (fun z g => z = ((d + a : Nat) : Int) ∧ zq_F zf_DA h2 g ∧ zv_K2 g b K L C N cf ct pf pt U uf wo sz re fe ru cd lk P' Qu' Hd' hr' dp' x' sl' sP sQ sH sh sd lc' lkk' lh' lo') := by
  have hC8 := hB.2.2.1
  intro m
  induction m with
  | zero =>
    intro r hr' d e P Pu Qu Hd hr dp x sl lc lkk lh lo h1 h2 w1 w2 k1 k2 hV o2 hd he h0 hdp
    refine ⟨0, P, Pu, Qu, Hd, hr, dp, x, sl, lc, lkk, lh, lo, by omega, hV, ?_, ?_⟩
    · refine zt_l e_41_38 (zt_f (by omega) ?_)
      rw [k1.1.2.2.2.2]
      exact zt_c (by omega) (zi_e ⟨by omega, zq_F_rf, k1⟩)
    · exact zt_l e_257_31 (zt_f (by omega) (zi_e ⟨by omega, zq_F_rf, k2⟩))
  | succ m ih =>
    intro r hrm d e P Pu Qu Hd hr dp x sl lc lkk lh lo h1 h2 w1 w2 k1 k2 hV o2 hd he h0 hdp
    obtain ⟨a, P1, Pu1, Qu1, Hd1, dp1, x1, sl1, lc1, lkk1, lh1, lo1, ha, hdp1, hV1, hcl, hrf⟩ := s_round hB hY hU C 0 (by omega) d e _ _ _ _ _ _ _ _ _ _ _ h1 h2 k1 k2 hV o2 (by omega) (by omega)
    obtain ⟨v, g1, rr, rfl, F1, k1a⟩ := hcl
    have rr2 : zc 42 [zm_A 4] h1 = some (zm_U, g1) := e_42 _ rr
    have d1 : h1 32 1 = dp := k1.1.2.2.2.2
    have d2 : g1 32 1 = dp1 := k1a.1.2.2.2.2
    obtain ⟨g2, F2, k2a, o2a, hrun⟩ := hrf
    by_cases ha0 : a = 0
    · subst ha0
      refine ⟨0, P1, Pu1, Qu1, Hd1, _, dp1, x1, sl1, lc1, lkk1, lh1, lo1, by omega, hV1, ?_, ?_⟩
      · refine zt_l e_41_38 (zt_t (by omega) (zt_V (Q1 := fun g => g = g1) ⟨_, g1, rr2, rfl, rfl⟩ ?_))
        rintro g rfl
        rw [d1, d2]
        exact zt_t (by omega) (zt_c (by omega) (zi_e ⟨by omega, F1, k1a⟩))
      · refine zt_l e_257_31 (zt_t (by omega) (zt_f (by decide) ?_))
        have := hrun n d 0 r (by omega) (by omega) (by omega) (by omega)
        rw [if_pos rfl] at this
        refine zt_l this ?_
        exact zt_l e_257_31 (zt_p (fun _ => zt_t rfl (zi_e ⟨by omega, F2, k2a⟩)) (fun _ => zi_e ⟨by omega, F2, k2a⟩))
    · obtain ⟨a2, P2, Pu2, Qu2, Hd2, hr2, dp2, x2, sl2, lc2, lkk2, lh2, lo2, ha2, hV2, hc2, hr2'⟩ := ih (r + 1) (by omega) (d + a) (e + a) _ _ _ _ _ _ _ _ _ _ _ _ g1 g2 (zm_I dp) (zm_I C) k1a k2a hV1 o2a (by omega) (by omega) h0 (by omega)
      refine ⟨a + a2, P2, Pu2, Qu2, Hd2, hr2, dp2, x2, sl2, lc2, lkk2, lh2, lo2, by omega, ?_, ?_, ?_⟩
      · rw [show d + (a + a2) = d + a + a2 by omega, show e + (a + a2) = e + a + a2 by omega]; exact hV2
      · refine zt_l e_41_38 (zt_t (by omega) (zt_V (Q1 := fun g => g = g1) ⟨_, g1, rr2, rfl, rfl⟩ ?_))
        rintro g rfl
        rw [d1, d2]
        refine zt_f (by omega) (zt_c (by omega) ?_)
        rw [show (r : Int) + 1 = ((r + 1 : Nat) : Int) by omega]
        exact zi_m hc2 (fun z g' q => ⟨by rw [q.1]; omega, zq_F_tr F1 q.2.1, q.2.2⟩)
      · refine zt_l e_257_31 (zt_t (by omega) (zt_f (by decide) ?_))
        have := hrun n d 0 r (by omega) (by omega) (by omega) (by omega)
        rw [if_neg ha0, show (r : Int) + 1 = ((r + 1 : Nat) : Int) by omega, show (d : Int) + (a : Int) = ((d + a : Nat) : Int) by omega] at this
        refine zt_l this ?_
        exact zi_m hr2' (fun z g' q => ⟨by rw [q.1]; omega, zq_F_tr F2 q.2.1, q.2.2⟩)
/-- an afternoon of n rounds -/
theorem s_noon (hB : zv_B K L C wo sz re fe ru lk) (hY : zv_Y N cd cf ct pf pt) {n : Nat} (hn : 1 ≤ n ∧ n ≤ 20) {h1 h2 : zm_H} (k1 : zv_K1 h1 t K L C N cf ct pf pt U nx wo sz re fe ru cd lk P Pu Hd hr dp x sl sP sU sH sh sd lc lkk lh lo) (k2 : zv_K2 h2 b K L C N cf ct pf pt U uf wo sz re fe ru cd lk P Qu Hd hr dp x sl sP sQ sH sh sd lc lkk lh lo) (hV : zv_V K L C U d e P Pu Qu Hd hr dp x sl lc lkk lh lo) (he : e + 160 < 98000) :
    ∃ (a uf2 : Nat) (P' Pu' Qu' Hd' : Nat → Int) (hr' dp' x' : Int) (sl' : Nat → Nat) (lc' lkk' lh' lo' : Nat → Int), a ≤ 160 ∧ zv_V K L C (U + 1 - zp_sft U) a (e + a) P' Pu' Qu' Hd' hr' dp' x' sl' lc' lkk' lh' lo' ∧
      zi (zc 41 [zm_A 4, zm_I n] h1) (fun z g => z = a ∧ zq_F zf_CA h1 g ∧ zv_K1 g t K L C N cf ct pf pt (U + 1 - zp_sft U) ((nx + 1) % 20) wo sz re fe ru cd lk P' Pu' Hd' hr' dp' x' sl' (zp_sx U sP P) (zp_sx U sU Pu) (zp_sx U sH Hd) (zp_sx U sh hr) (zp_sx U sd dp) lc' lkk' lh' lo') ∧
      zi (zc 257 [zm_A 146, zm_I n] h2) (fun z g => z = a ∧ zq_F zf_DA h2 g ∧ zv_K2 g b K L C N cf ct pf pt (U + 1 - zp_sft U) uf2 wo sz re fe ru cd lk P' Qu' Hd' hr' dp' x' sl' (zp_sx U sP P) (zp_sx U sQ Qu) (zp_sx U sH Hd) (zp_sx U sh hr) (zp_sx U sd dp) lc' lkk' lh' lo') := by
  have hU20 := k1.2.2.2.2.2.2.1
  have hL5 := hB.2.1
  obtain ⟨v1, g1, r1, rfl, f1, k1a⟩ := k1.rem hV.2.2.1
  obtain ⟨v2, g2, r2, rfl, f2, k2a⟩ := k2.remx
  obtain ⟨v3, g3, r3, rfl, f3, o3⟩ := s_225 (h := g2)
  have f3' : zq_F zf_Ds g2 g3 := zq_F_wk f3 (fun a i q => by unfold zf_Ds; omega)
  have k2b := k2a.ds f3'
  have d1 : g1 32 1 = dp := k1a.1.2.2.2.2
  have hdp := hV.1.2.2.2.2.2
  obtain ⟨a, P', Pu', Qu', Hd', hr', dp', x', sl', lc', lkk', lh', lo', ha, hV', hc', hr2⟩ := s_rounds hB hY (zp_sft_pos U) hn.2 (dp0 := dp) n 0 (by omega) 0 e _ _ _ _ _ _ _ _ _ _ _ _ g1 g3 zm_U zm_U k1a k2b (hV.rem hU20) o3 (by omega) (by omega) hdp.1 (by omega)
  refine ⟨a, (uf + zp_sft U) % 20, P', Pu', Qu', Hd', hr', dp', x', sl', lc', lkk', lh', lo', by omega, by rw [show a = 0 + a by omega]; rw [show e + (0 + a) = e + a by omega]; exact hV', ?_, ?_⟩
  · refine zt_l e_41 (zt_f (by omega) (zt_t (by omega) (zt_V (Q1 := fun g => g = g1) ⟨_, g1, r1, rfl, rfl⟩ ?_)))
    rintro g rfl
    rw [d1]
    exact zi_m hc' (fun z g' q => ⟨by rw [q.1, Nat.zero_add], zq_F_tr (zf_Hi_CA f1) q.2.1, q.2.2⟩)
  · refine zt_l e_257 (zt_I (s_175 n 1 20) ?_)
    rintro z g ⟨rfl, rfl⟩
    rw [if_pos (by omega : (1 : Int) ≤ n ∧ (n : Int) ≤ 20)]
    refine zt_f (by decide) (zt_V (Q1 := fun g' => g' = g2) ⟨_, g2, r2, rfl, rfl⟩ ?_)
    rintro g' rfl
    refine zt_V (Q1 := fun g' => g' = g3) ⟨_, g3, r3, rfl, rfl⟩ ?_
    rintro g'' rfl
    exact zi_m hr2 (fun z g' q => ⟨by rw [q.1, Nat.zero_add], zq_F_tr (zf_Mi_DA f2) (zq_F_tr (zf_Ds_DA f3') q.2.1), q.2.2⟩)
theorem s_41n {y m : Int} (hn : h 145 3 = m) (hb : 0 ≤ m ∧ m ≤ 1000000) (hq : ¬ (1 ≤ y ∧ y ≤ 20)) : zi (zc 41 [zm_A 4, zm_I y] h) (fun z g => z = -1 ∧ g = zm_wr h 145 3 (m + 1)) :=
  zt_l e_41 (zt_p (fun _ => zt_cn (w := 3) (by decide) hn hb) (fun _ => zt_f (by omega) (zt_cn (w := 3) (by decide) hn hb)))
theorem s_257n {y m : Int} (hn : h 173 3 = m) (hb : 0 ≤ m ∧ m ≤ 1000000) (hq : ¬ (1 ≤ y ∧ y ≤ 20)) : zi (zc 257 [zm_A 146, zm_I y] h) (fun z g => z = -1 ∧ g = zm_wr h 173 3 (m + 1)) := by
  refine zt_l e_257 (zt_I (s_175 y 1 20) ?_)
  rintro z g ⟨rfl, rfl⟩
  rw [if_neg hq]
  exact zt_t rfl (zt_rn (w := 3) (by decide) hn hb)
end
