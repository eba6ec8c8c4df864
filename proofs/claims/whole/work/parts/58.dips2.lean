/-! ONE DIP of who can: the reference -/
def zf_Dq (a : Nat) (i : Int) : Prop := (a = 175 ∧ i = 0) ∨ (a = 176 ∧ 0 ≤ i ∧ i < 40) ∨ (a = 177 ∧ 0 ≤ i ∧ i < 8) ∨ (a = 178 ∧ 0 ≤ i ∧ i < 64) ∨ (a = 179 ∧ i = 0) ∨ (180 ≤ a ∧ a ≤ 183 ∧ 0 ≤ i ∧ i < 60) ∨ a = 184 ∨ (a = 146 ∧ 58 ≤ i ∧ i ≤ 65)
/-- while he touches: the seed, what is reckoned with -/
def zf_Tq (a : Nat) (i : Int) : Prop := a = 184 ∨ (a = 146 ∧ (i = 58 ∨ (60 ≤ i ∧ i ≤ 65)))
theorem zp_kp_set {f : Nat → Int} {n m : Nat} {v : Int} (h : m ≤ n) {k : Nat} (hk : k < min 60 m) : zp_kp (zp_set f n v) m k = zp_kp f m k := by
  unfold zp_kp zp_set
  rw [if_neg (by omega)]
section
variable {h : zm_H} {t b K L C N cf ct pf pt U uf d : Nat} {wo sz re fe ru cd : Nat → Int} {lk : Nat → Nat → Int} {P Pu Qu Hd : Nat → Int} {hr dp : Int} {sl : Nat → Nat} {sP sU sQ sH : Nat → Nat → Int} {sh sd lc lkk lh lo : Nat → Int}
theorem zv_N.kp {g : zm_H} {v n : Nat} (hN : zv_N h v n lc lkk lh lo) (hg : ∀ a : Nat, 179 ≤ a → a < 184 → g a = h a) : zv_N g v n lc lkk lh lo := hN.kv (by rw [hg 179 (by omega) (by omega)]) (fun a i h1 h2 _ _ => by rw [hg a (by omega) (by omega)])
theorem zv_N.set {v n m : Nat} (hN : zv_N h v m lc lkk lh lo) (hm : m ≤ n) {c k hh o : Int} : zv_N h v m (zp_set lc n c) (zp_set lkk n k) (zp_set lh n hh) (zp_set lo n o) := by
  obtain ⟨N1, N2, N3⟩ := hN
  refine ⟨N1, N2, fun i hi j hj => ?_⟩
  rw [zp_kp_set hm hi, zp_kp_set hm hi, zp_kp_set hm hi, zp_kp_set hm hi]
  exact N3 i hi j hj
theorem zv_M.kp {g : zm_H} (hM : zv_M h U uf sl sP sQ sH sh sd lc lkk lh lo) (h1 : g 146 57 = h 146 57) (h2 : g 146 56 = h 146 56) (h3 : ∀ a : Nat, 174 ≤ a → a < 184 → g a = h a) : zv_M g U uf sl sP sQ sH sh sd lc lkk lh lo := by
  obtain ⟨M1, M2, M3, M4, M5, M6⟩ := hM
  refine ⟨h1.trans M1, h2.trans M2, M3, M4, M5.kp (fun a q1 q2 => h3 a (by omega) (by omega)), fun i v hi hv => ?_⟩
  obtain ⟨r1, r2, r3, r4⟩ := M6 i v hi hv
  exact ⟨r1.kp (fun a q1 q2 => h3 a (by omega) (by omega)), by rw [h3 174 (by omega) (by omega)]; exact r2, by rw [h3 175 (by omega) (by omega)]; exact r3, r4.kp (fun a q1 q2 => h3 a (by omega) (by omega))⟩
theorem zv_D.tq {g : zm_H} (hD : zv_D h b K L C wo sz re fe ru lk P Qu Hd hr dp) (hg : zq_F zf_Tq h g) : zv_D g b K L C wo sz re fe ru lk P Qu Hd hr dp := hD.kd (zq_F_wk hg (fun a i q => by unfold zf_Tq at q; unfold zf_Se zf_Ds; omega))
theorem zv_J.tq {g : zm_H} (hJ : zv_J h b N cd cf ct pf pt) (hg : zq_F zf_Tq h g) : zv_J g b N cd cf ct pf pt := hJ.kp (fun a h1 h2 => by funext i; exact hg a i (by unfold zf_Tq; omega))
theorem zv_S.tq {g : zm_H} {c : Nat} (hS : zv_S h L re P zp_id c) (hg : zq_F zf_Tq h g) : zv_S g L re P zp_id c := hS.kp (hg 146 68 (by unfold zf_Tq; omega)) (by funext i; exact hg 186 i (by unfold zf_Tq; omega))
theorem s_248 (hD : zv_D h b K L C wo sz re fe ru lk P Qu Hd hr dp) (hB : zv_B K L C wo sz re fe ru lk) (hX : zv_X K L C P Qu Hd hr dp) (hJ : zv_J h b N cd cf ct pf pt) (hY : zv_Y N cd cf ct pf pt) (hM : zv_M h U uf sl sP sQ sH sh sd lc lkk lh lo) (hZ : zv_Z U d sl lc lkk lh lo) {c : Nat} (hc : c < C) (hS : zv_S h L re P zp_id c) (hQ : ∀ p : Nat, p < 5 → h 185 p = p) (hT0 : 0 < zq_S 8 (zp_cn L re P zp_id c)) {x co : Int} (hx : h 146 58 = x) (hxb : 0 ≤ x ∧ x ≤ 2147483647) (hco : co = zp_cost cd cf ct (zp_en hr (zp_left P) dp 0 0 0)) (hdp : dp < 1000000) {s k : Nat} (hs : s = (zp_dq K L sz re fe ru lk cd pf pt P hr dp x c).1) (hk : k = s % 8) :
    zi (zc 248 [zm_A 146, zm_I c] h) (fun z g => z = k ∧ zq_F zf_Dq h g ∧ zv_D g b K L C wo sz re fe ru lk (zp_set P s (P s - 1)) (zp_set Qu c (Qu c - co)) (zp_set Hd (8 * c + k) (Hd (8 * c + k) + 1)) hr (dp + 1) ∧ g 146 58 = (zp_dq K L sz re fe ru lk cd pf pt P hr dp x c).2 ∧ zv_M g U uf (zp_up1 sl U) sP sQ sH sh sd (zp_set lc (sl U) c) (zp_set lkk (sl U) k) (zp_set lh (sl U) hr) (zp_set lo (sl U) co)) := by
  have hC8 := hB.2.2.1
  have hK8 := hB.1
  have hb := hD.1.1
  have hfe := hB.2.2.2.2.1 c hc
  have hcob : 0 ≤ co ∧ co ≤ 99 := by rw [hco]; unfold zp_cost; omega
  -- the last writes
  have last : ∀ (g : zm_H) (w3 w5 w6 : zm_V), zq_F zf_Tq h g → g 146 58 = (zp_dq K L sz re fe ru lk cd pf pt P hr dp x c).2 → zi (zr none 6 248 103 [zm_A 146, zm_I c, zm_I co, w3, zm_I s, w5, w6] [] g) (fun z g => z = k ∧ zq_F zf_Dq h g ∧ zv_D g b K L C wo sz re fe ru lk (zp_set P s (P s - 1)) (zp_set Qu c (Qu c - co)) (zp_set Hd (8 * c + k) (Hd (8 * c + k) + 1)) hr (dp + 1) ∧ g 146 58 = (zp_dq K L sz re fe ru lk cd pf pt P hr dp x c).2 ∧ zv_M g U uf (zp_up1 sl U) sP sQ sH sh sd (zp_set lc (sl U) c) (zp_set lkk (sl U) k) (zp_set lh (sl U) hr) (zp_set lo (sl U) co)) := by
    intro g w3 w5 w6 fg hseed
    obtain ⟨⟨s1, s2, s3⟩, -⟩ := zp_dq_b (cd := cd) (pf := pf) (pt := pt) hB hX.1 (fe := fe) (sz := sz) (ru := ru) (lk := lk) hT0 hr dp x
    rw [← hs] at s1 s2 s3
    have kg : ∀ a : Nat, a ≠ 146 → a ≠ 184 → g a = h a := fun a h1 h2 => by funext i; exact fg a i (by unfold zf_Tq; omega)
    have hMg : zv_M g U uf sl sP sQ sH sh sd lc lkk lh lo := hM.kp (fg 146 57 (by unfold zf_Tq; omega)) (fg 146 56 (by unfold zf_Tq; omega)) (fun a h1 h2 => kg a (by omega) (by omega))
    obtain ⟨d1, ⟨d2, d3, d4, d5⟩, d6, d7⟩ := hD.tq fg
    have eP : g 176 (s : Int) = P s := d3 s s1 s (by omega)
    have eQ : g 177 (c : Int) = Qu c := d4 c (by omega) c (by omega)
    have eH : g 178 ((8 * c + k : Nat) : Int) = Hd (8 * c + k) := d5 (8 * c + k) (by omega) _ (by omega)
    have em : ((s : Nat) : Int).tmod 8 = ((k : Nat) : Int) := by rw [zq_tmod (by omega), hk]; omega
    have ed : ((s : Nat) : Int).tdiv 8 = ((s : Nat) : Int) / 8 := zq_tdiv (by omega)
    have ei : 8 * (c : Int) + (k : Int) = ((8 * c + k : Nat) : Int) := by omega
    have bP := hX.1.1 s s1
    have bH := hX.2.1.1 (8 * c + k) (by omega)
    have bQ := hX.2.2.1 c (by omega)
    refine zt_l e_248_103 ?_
    rw [em, ed, ei, eP]
    have r1 : zm_wr g 176 (s : Int) (P s - 1) 178 ((8 * c + k : Nat) : Int) = Hd (8 * c + k) := by rw [zq_wr_n (by decide)]; exact eH
    rw [r1]
    have r2 : zm_wr (zm_wr g 176 (s : Int) (P s - 1)) 178 ((8 * c + k : Nat) : Int) (Hd (8 * c + k) + 1) 177 (c : Int) = Qu c := by rw [zq_wr_n (by decide), zq_wr_n (by decide)]; exact eQ
    rw [r2]
    have kp : ∀ a : Nat, a ≠ 176 → a ≠ 177 → a ≠ 178 → zm_wr (zm_wr (zm_wr g 176 (s : Int) (P s - 1)) 178 ((8 * c + k : Nat) : Int) (Hd (8 * c + k) + 1)) 177 (c : Int) (Qu c - co) a = g a := fun a h1 h2 h3 => by
      funext i; rw [zq_wr_n h2, zq_wr_n h3, zq_wr_n h1]
    have t176 : ∀ i : Nat, i < 40 → zm_wr (zm_wr (zm_wr g 176 (s : Int) (P s - 1)) 178 ((8 * c + k : Nat) : Int) (Hd (8 * c + k) + 1)) 177 (c : Int) (Qu c - co) 176 i = zp_set P s (P s - 1) i := fun i hi => by
      rw [zq_wr_n (by decide), zq_wr_n (by decide)]
      unfold zp_set
      by_cases hq : i = s
      · subst hq; rw [zq_wr_e, if_pos rfl]
      · rw [zq_wr_i (by omega), if_neg hq]; exact d3 i hi i (by omega)
    have t177 : ∀ i : Nat, i < 8 → zm_wr (zm_wr (zm_wr g 176 (s : Int) (P s - 1)) 178 ((8 * c + k : Nat) : Int) (Hd (8 * c + k) + 1)) 177 (c : Int) (Qu c - co) 177 i = zp_set Qu c (Qu c - co) i := fun i hi => by
      unfold zp_set
      by_cases hq : i = c
      · subst hq; rw [zq_wr_e, if_pos rfl]
      · rw [zq_wr_i (by omega), zq_wr_n (by decide), zq_wr_n (by decide), if_neg hq]; exact d4 i hi i (by omega)
    have t178 : ∀ i : Nat, i < 64 → zm_wr (zm_wr (zm_wr g 176 (s : Int) (P s - 1)) 178 ((8 * c + k : Nat) : Int) (Hd (8 * c + k) + 1)) 177 (c : Int) (Qu c - co) 178 i = zp_set Hd (8 * c + k) (Hd (8 * c + k) + 1) i := fun i hi => by
      rw [zq_wr_n (by decide)]
      unfold zp_set
      by_cases hq : i = 8 * c + k
      · subst hq; rw [zq_wr_e, if_pos rfl]
      · rw [zq_wr_i (by omega), zq_wr_n (by decide), if_neg hq]; exact d5 i hi i (by omega)
    have fG : zq_F (fun a i => (a = 176 ∧ 0 ≤ i ∧ i < 40) ∨ (a = 177 ∧ 0 ≤ i ∧ i < 8) ∨ (a = 178 ∧ 0 ≤ i ∧ i < 64)) g (zm_wr (zm_wr (zm_wr g 176 (s : Int) (P s - 1)) 178 ((8 * c + k : Nat) : Int) (Hd (8 * c + k) + 1)) 177 (c : Int) (Qu c - co)) := zq_F_tr (zq_F_wr (by omega)) (zq_F_tr (zq_F_wr (by omega)) (zq_F_wr (by omega)))
    iterate 12 refine zt_c (by omega) ?_
    generalize zm_wr (zm_wr (zm_wr g 176 (s : Int) (P s - 1)) 178 ((8 * c + k : Nat) : Int) (Hd (8 * c + k) + 1)) 177 (c : Int) (Qu c - co) = G at kp t176 t177 t178 fG
    have hN0 : zv_N G 0 (sl U) lc lkk lh lo := hMg.2.2.2.2.1.kp (fun a h1 h2 => kp a (by omega) (by omega) (by omega))
    have h174 : G 174 0 = hr := by rw [kp 174 (by decide) (by decide) (by decide)]; exact d6
    refine zt_V (s_252 (c := c) (k := k) (co := co) hN0 h174) ?_
    rintro g2 ⟨f2, N2⟩
    have k2 : ∀ a : Nat, a < 179 ∨ 183 < a → g2 a = G a := fun a h1 => by funext i; exact f2 a i (by omega)
    have e175 : g2 175 0 = dp := by rw [k2 175 (by omega), kp 175 (by decide) (by decide) (by decide)]; exact d7
    rw [e175]
    have hdp0 := hX.2.2.2.2.2.1
    have fall : zq_F zf_Dq h (zm_wr g2 175 0 (dp + 1)) := by
      refine zq_F_tr (zq_F_wk fg (fun a i q => ?_)) (zq_F_tr (zq_F_wk fG (fun a i q => ?_)) (zq_F_tr (zq_F_wk f2 (fun a i q => ?_)) (zq_F_wr ?_)))
      · unfold zf_Tq at q; unfold zf_Dq; omega
      · unfold zf_Dq; omega
      · unfold zf_Dq; omega
      · unfold zf_Dq; omega
    have k3 : ∀ a : Nat, a ≠ 175 → zm_wr g2 175 0 (dp + 1) a = g2 a := fun a ha => by funext i; exact zq_wr_n ha
    refine zt_c (by decide) (zt_c (by omega) (zt_c (by decide) (zi_e ⟨rfl, fall, ⟨?_, ⟨by decide, ?_, ?_, ?_⟩, ?_, zq_wr_e⟩, ?_, ?_⟩)))
    · refine hD.1.kp (fall 146 13 (by unfold zf_Dq; omega)) (fun a h1 h2 => by funext i; exact fall a i (by unfold zf_Dq; omega))
    · intro i hi j hj
      rw [k3 176 (by decide), k2 176 (by omega), show j = (i : Int) by omega]; exact t176 i hi
    · intro i hi j hj
      rw [k3 177 (by decide), k2 177 (by omega), show j = (i : Int) by omega]; exact t177 i hi
    · intro i hi j hj
      rw [k3 178 (by decide), k2 178 (by omega), show j = (i : Int) by omega]; exact t178 i hi
    · rw [k3 174 (by decide), k2 174 (by omega)]; exact h174
    · rw [k3 146 (by decide), k2 146 (by omega), kp 146 (by decide) (by decide) (by decide)]; exact hseed
    · obtain ⟨M1, M2, M3, M4, M5, M6⟩ := hM
      have e57 : zm_wr g2 175 0 (dp + 1) 146 57 = h 146 57 := fall 146 57 (by unfold zf_Dq; omega)
      have e56 : zm_wr g2 175 0 (dp + 1) 146 56 = h 146 56 := fall 146 56 (by unfold zf_Dq; omega)
      refine ⟨e57.trans M1, e56.trans M2, M3, M4, ?_, fun i v hi hv => ?_⟩
      · have eU : zp_up1 sl U U = sl U + 1 := by unfold zp_up1; rw [if_pos rfl]
        rw [eU]
        exact N2.kp (fun a h1 h2 => k3 a (by omega))
      · obtain ⟨r1, r2, r3, r4⟩ := M6 i v hi hv
        have ei : zp_up1 sl U i = sl i := by unfold zp_up1; rw [if_neg (by omega)]
        rw [ei]
        refine ⟨r1.kv (fun q h1 h2 => fall 176 q (by unfold zf_Dq; omega)) (fun q h1 h2 => fall 177 q (by unfold zf_Dq; omega)) (fun q h1 h2 => fall 178 q (by unfold zf_Dq; omega)), ?_, ?_, ?_⟩
        · rw [fall 174 v (by unfold zf_Dq; omega)]; exact r2
        · rw [fall 175 v (by unfold zf_Dq; omega)]; exact r3
        · have r4' : zv_N (zm_wr g2 175 0 (dp + 1)) v (sl i) lc lkk lh lo := r4.kv (fall 179 v (by unfold zf_Dq; omega)) (fun a q h1 h2 h3 h4 => fall a q (by unfold zf_Dq; omega))
          exact r4'.set (hZ.2.1 i hi).1
  refine zt_l e_248 (zt_I (s_207x hD hB hX hJ hY) ?_)
  rintro z g ⟨rfl, f1⟩
  rw [← hco]
  have f1' : zq_F zf_Tq h g := zq_F_wk f1 (fun a i q => by unfold zf_Lg at q; unfold zf_Tq; omega)
  have hD1 := hD.tq f1'
  have hx1 : g 146 58 = x := by rw [f1 146 58 (by unfold zf_Lg; omega)]; exact hx
  have hQg : ∀ g, zq_F zf_Tq h g → ∀ p : Nat, p < 5 → g 185 p = p := fun g hg p hp => by rw [hg 185 p (by unfold zf_Tq; omega)]; exact hQ p hp
  rw [hD1.1.2.1]
  have eru : g 156 (8 * (b : Int) + c) = ru c := (hD1.1.2.2.2.2.2.2.1 c hc _ rfl).2.2
  rw [eru]
  refine zt_c (by omega) (zt_c (by omega) (zt_c (by omega) (zt_I (s_249 hD1 hB hX.1 hc (hS.tq f1') (hQg g f1') rfl rfl rfl hT0 hx1 hxb) ?_)))
  rintro z g2 ⟨rfl, rfl⟩
  have loop : ∀ (m i : Nat) (sp : Nat × Int) (g : zm_H) (w6 : zm_V), i + m = (fe c).toNat → zq_F zf_Tq h g → g 146 58 = sp.2 → (0 ≤ sp.2 ∧ sp.2 ≤ 2147483647) → (sp.1 < 40 ∧ sp.1 % 8 < K) → zp_tl (zp_ke K sz ru lk c) (zp_tq L re P c) m sp = zp_tl (zp_ke K sz ru lk c) (zp_tq L re P c) (fe c).toNat (zp_tq L re P c x, zp_nx x) → zi (zr none 6 248 31 [zm_A 146, zm_I c, zm_I co, zm_I (ru c), zm_I sp.1, zm_I ((i + 1 : Nat) : Int), w6] [] g) (fun z g => z = k ∧ zq_F zf_Dq h g ∧ zv_D g b K L C wo sz re fe ru lk (zp_set P s (P s - 1)) (zp_set Qu c (Qu c - co)) (zp_set Hd (8 * c + k) (Hd (8 * c + k) + 1)) hr (dp + 1) ∧ g 146 58 = (zp_dq K L sz re fe ru lk cd pf pt P hr dp x c).2 ∧ zv_M g U uf (zp_up1 sl U) sP sQ sH sh sd (zp_set lc (sl U) c) (zp_set lkk (sl U) k) (zp_set lh (sl U) hr) (zp_set lo (sl U) co)) := by
    intro m
    induction m with
    | zero =>
      intro i sp g w6 hi fg hsx hsb hsp heq
      have hDg := hD.tq fg
      have em : ((sp.1 : Nat) : Int).tmod 8 = ((sp.1 % 8 : Nat) : Int) := by rw [zq_tmod (by omega)]; omega
      have ed : ((sp.1 : Nat) : Int).tdiv 8 = ((sp.1 : Nat) : Int) / 8 := zq_tdiv (by omega)
      refine zt_l e_248_31 (zt_I (s_235 hDg.1 hB hc) ?_)
      rintro z g' ⟨rfl, rfl⟩
      rw [em, ed]
      refine zt_f (by omega) (zt_c (by omega) (zt_I (s_251 hDg hB hX (hJ.tq fg) hY hc hsp.2 (hS.tq fg) hT0) ?_))
      rintro z g4 ⟨rfl, f4⟩
      have f5 : zq_F zf_Tq h g4 := zq_F_tr fg (zq_F_wk f4 (fun a i q => by unfold zf_Lg at q; unfold zf_Tq; omega))
      have hfin : zp_dq K L sz re fe ru lk cd pf pt P hr dp x c = (if zp_pq K L sz re lk cd pf pt P hr dp c (sp.1 % 8) = 0 then sp else (zp_tq L re P c sp.2, zp_nx sp.2)) := by
        unfold zp_dq zp_dipf
        rw [← heq]; rfl
      have hpb : zp_puts cd pf pt (zp_en hr (zp_left P) dp (lk c (sp.1 % 8)) (sz (sp.1 % 8)) (zp_pm K lk c (zp_cn L re P zp_id c))) = zp_pq K L sz re lk cd pf pt P hr dp c (sp.1 % 8) := rfl
      rw [hpb]
      have hx4 : g4 146 58 = sp.2 := by rw [f4 146 58 (by unfold zf_Lg; omega)]; exact hsx
      refine zt_p (fun q => ?_) (fun q => ?_)
      · rw [if_pos q] at hfin
        have es : s = sp.1 := by rw [hs, hfin]
        rw [← es]
        exact last g4 _ _ _ f5 (by rw [hx4, hfin])
      · rw [if_neg q] at hfin
        refine zt_I (s_249 (hD.tq f5) hB hX.1 hc (hS.tq f5) (hQg g4 f5) rfl rfl rfl hT0 hx4 hsb) ?_
        rintro z g5 ⟨rfl, rfl⟩
        have es : s = zp_tq L re P c sp.2 := by rw [hs, hfin]
        have es2 : zp_tch P (zp_up L P zp_id) (zp_to L P zp_id re c) (zq_S 8 (zp_cn L re P zp_id c)) sp.2 = s := es.symm
        rw [es2]
        exact last _ _ _ _ (zq_F_tr f5 (zq_F_wr (by unfold zf_Tq; omega))) (by rw [zq_wr_e, hfin])
    | succ m ih =>
      intro i sp g w6 hi fg hsx hsb hsp heq
      have hDg := hD.tq fg
      have em : ((sp.1 : Nat) : Int).tmod 8 = ((sp.1 % 8 : Nat) : Int) := by rw [zq_tmod (by omega)]; omega
      have ed : ((sp.1 : Nat) : Int).tdiv 8 = ((sp.1 : Nat) : Int) / 8 := zq_tdiv (by omega)
      refine zt_l e_248_31 (zt_I (s_235 hDg.1 hB hc) ?_)
      rintro z g' ⟨rfl, rfl⟩
      refine zt_t (by omega) (zt_I (s_249 hDg hB hX.1 hc (hS.tq fg) (hQg g' fg) rfl rfl rfl hT0 hsx hsb) ?_)
      rintro z g4 ⟨rfl, rfl⟩
      have htq := zp_tq_b hB hX.1 hT0 sp.2
      have etq : zp_tch P (zp_up L P zp_id) (zp_to L P zp_id re c) (zq_S 8 (zp_cn L re P zp_id c)) sp.2 = zp_tq L re P c sp.2 := rfl
      rw [etq]
      have em2 : ((zp_tq L re P c sp.2 : Nat) : Int).tmod 8 = ((zp_tq L re P c sp.2 % 8 : Nat) : Int) := by rw [zq_tmod (by omega)]; omega
      have ed2 : ((zp_tq L re P c sp.2 : Nat) : Int).tdiv 8 = ((zp_tq L re P c sp.2 : Nat) : Int) / 8 := zq_tdiv (by omega)
      rw [em2, ed2, em, ed]
      have fg2 : zq_F zf_Tq h (zm_wr g' 146 58 (zp_nx sp.2)) := zq_F_tr fg (zq_F_wr (by unfold zf_Tq; omega))
      have hDg2 := hD.tq fg2
      refine zt_c (by omega) (zt_I (s_234 hDg2.1 hB hc htq.2.1 rfl) ?_)
      rintro z g5 ⟨rfl, rfl⟩
      refine zt_c (by omega) (zt_I (s_234 hDg2.1 hB hc hsp.2 rfl) ?_)
      rintro z g6 ⟨rfl, rfl⟩
      have ke1 : zp_ke K sz ru lk c (zp_tq L re P c sp.2 % 8) = zp_key sz ru lk c (zp_tq L re P c sp.2 % 8) := if_pos htq.2.1
      have ke2 : zp_ke K sz ru lk c (sp.1 % 8) = zp_key sz ru lk c (sp.1 % 8) := if_pos hsp.2
      have nxt : ∀ sp1 : Nat, sp1 = (if zp_ke K sz ru lk c (sp.1 % 8) < zp_ke K sz ru lk c (zp_tq L re P c sp.2 % 8) then zp_tq L re P c sp.2 else sp.1) → (sp1 < 40 ∧ sp1 % 8 < K) → zi (zr none 6 248 31 [zm_A 146, zm_I c, zm_I co, zm_I (ru c), zm_I sp1, zm_I (((i + 1 : Nat) : Int) + 1), zm_I ((zp_tq L re P c sp.2 : Nat) : Int)] [] (zm_wr g' 146 58 (zp_nx sp.2))) (fun z g => z = k ∧ zq_F zf_Dq h g ∧ zv_D g b K L C wo sz re fe ru lk (zp_set P s (P s - 1)) (zp_set Qu c (Qu c - co)) (zp_set Hd (8 * c + k) (Hd (8 * c + k) + 1)) hr (dp + 1) ∧ g 146 58 = (zp_dq K L sz re fe ru lk cd pf pt P hr dp x c).2 ∧ zv_M g U uf (zp_up1 sl U) sP sQ sH sh sd (zp_set lc (sl U) c) (zp_set lkk (sl U) k) (zp_set lh (sl U) hr) (zp_set lo (sl U) co)) := by
        intro sp1 hsp1 hb1
        have := ih (i + 1) (sp1, zp_nx sp.2) (zm_wr g' 146 58 (zp_nx sp.2)) (zm_I ((zp_tq L re P c sp.2 : Nat) : Int)) (by omega) fg2 zq_wr_e (zp_nx_b _) hb1 (by rw [hsp1]; exact heq)
        rw [show ((i + 1 + 1 : Nat) : Int) = ((i + 1 : Nat) : Int) + 1 by omega] at this
        exact this
      refine zt_p (fun q => zt_c (by omega) (nxt _ (by rw [ke1, ke2, if_neg (by omega)]) hsp)) (fun q => zt_c (by omega) (nxt _ (by rw [ke1, ke2, if_pos (by omega)]) ⟨htq.1, htq.2.1⟩))
  have htq := zp_tq_b hB hX.1 hT0 x
  exact loop (fe c).toNat 0 (zp_tq L re P c x, zp_nx x) _ _ (by omega) (zq_F_tr f1' (zq_F_wr (by unfold zf_Tq; omega))) zq_wr_e (zp_nx_b x) ⟨htq.1, htq.2.1⟩ rfl
end
