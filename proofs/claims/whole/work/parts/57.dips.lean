/-! ONE DIP of who can: both sides -/
def zp_tl (key : Nat → Int) (tch : Int → Nat) : Nat → Nat × Int → Nat × Int
  | 0, s => s
  | n + 1, s => zp_tl key tch n (if key (s.1 % 8) < key (tch s.2 % 8) then tch s.2 else s.1, zp_nx s.2)
/-- where the parcel lies that is taken, and the seed then -/
def zp_dipf (key : Nat → Int) (tch : Int → Nat) (n : Nat) (pb : Nat → Int) (x : Int) : Nat × Int :=
  if pb ((zp_tl key tch n (tch x, zp_nx x)).1 % 8) = 0 then zp_tl key tch n (tch x, zp_nx x) else (tch (zp_tl key tch n (tch x, zp_nx x)).2, zp_nx (zp_tl key tch n (tch x, zp_nx x)).2)
def zf_Sd (a : Nat) (i : Int) : Prop := (a = 4 ∧ i = 16) ∨ zf_Cs a i
def zf_Se (a : Nat) (i : Int) : Prop := (a = 146 ∧ i = 58) ∨ zf_Ds a i
theorem zp_tl_in {key : Nat → Int} {tch : Int → Nat} {Q : Nat → Prop} (ht : ∀ x, Q (tch x)) : ∀ (n : Nat) (s : Nat × Int), Q s.1 → (0 ≤ s.2 ∧ s.2 ≤ 2147483647) → Q (zp_tl key tch n s).1 ∧ 0 ≤ (zp_tl key tch n s).2 ∧ (zp_tl key tch n s).2 ≤ 2147483647 := by
  intro n
  induction n with
  | zero => intro s hq hb; exact ⟨hq, hb⟩
  | succ n ih =>
    intro s hq hb
    refine ih _ ?_ (zp_nx_b s.2)
    show Q (if _ then _ else _)
    split
    · exact ht _
    · exact hq
theorem zp_dipf_in {key : Nat → Int} {tch : Int → Nat} {Q : Nat → Prop} (ht : ∀ x, Q (tch x)) (n : Nat) (pb : Nat → Int) (x : Int) : Q (zp_dipf key tch n pb x).1 ∧ 0 ≤ (zp_dipf key tch n pb x).2 ∧ (zp_dipf key tch n pb x).2 ≤ 2147483647 := by
  have h := zp_tl_in (key := key) ht n (tch x, zp_nx x) (ht x) (zp_nx_b x)
  unfold zp_dipf
  split
  · exact h
  · exact ⟨ht _, zp_nx_b _⟩
section
variable {h : zm_H} {t b K L C N cf ct pf pt U nx d : Nat} {wo sz re fe ru cd : Nat → Int} {lk : Nat → Nat → Int} {P Pu Qu Hd : Nat → Int} {hr dp : Int} {sl : Nat → Nat} {sP sU sQ sH : Nat → Nat → Int} {sh sd lc lkk lh lo : Nat → Int}
theorem zv_F.k7 {g : zm_H} (hF : zv_F h t K L C wo sz re fe ru lk) (hg : ∀ a : Nat, 7 ≤ a → a < 29 → g a = h a) : zv_F g t K L C wo sz re fe ru lk := by
  obtain ⟨ht, e1, e2, e3, h1, h2, h3⟩ := hF
  have b : 7 ≤ t ∧ t ≤ 18 := by rcases ht with rfl | rfl <;> omega
  refine ⟨ht, by rw [hg t (by omega) (by omega)]; exact e1, by rw [hg t (by omega) (by omega)]; exact e2, by rw [hg t (by omega) (by omega)]; exact e3, fun k hk => ?_, fun c hc => ?_, fun c k hc hk j hj => ?_⟩
  · rw [hg (t + 2) (by omega) (by omega), hg (t + 3) (by omega) (by omega)]; exact h1 k hk
  · rw [hg (t + 6) (by omega) (by omega), hg (t + 7) (by omega) (by omega), hg (t + 8) (by omega) (by omega)]; exact h2 c hc
  · rw [hg (t + 9) (by omega) (by omega)]; exact h3 c k hc hk j hj
theorem zv_I.k7 {g : zm_H} (hI : zv_I h t N cd cf ct pf pt) (ht : zf_F t) (hg : ∀ a : Nat, 7 ≤ a → a < 29 → g a = h a) : zv_I g t N cd cf ct pf pt := by
  have b : 7 ≤ t ∧ t ≤ 18 := by rcases ht with rfl | rfl <;> omega
  unfold zv_I at hI ⊢
  rw [hg t (by omega) (by omega), hg (t + 10) (by omega) (by omega)]; exact hI
theorem zv_C.kd {g : zm_H} (hC : zv_C h t K L C wo sz re fe ru lk P Pu Hd hr dp) (hg : zq_F zf_Sd h g) : zv_C g t K L C wo sz re fe ru lk P Pu Hd hr dp := by
  have kp : ∀ a : Nat, a ≠ 4 → a < 128 → g a = h a := fun a h4 ha => by funext i; exact hg a i (by unfold zf_Sd zf_Cs; omega)
  obtain ⟨h1, h2, h3, h4, h5⟩ := hC
  exact ⟨by rw [hg 4 1 (by unfold zf_Sd zf_Cs; omega)]; exact h1, h2.k7 (fun a h7 ha => kp a (by omega) (by omega)), h3.kq (kp _ (by omega) (by omega)) (kp _ (by omega) (by omega)) (kp _ (by omega) (by omega)), by rw [kp 32 (by omega) (by omega)]; exact h4, by rw [kp 32 (by omega) (by omega)]; exact h5⟩
theorem zv_D.kd {g : zm_H} (hD : zv_D h b K L C wo sz re fe ru lk P Qu Hd hr dp) (hg : zq_F zf_Se h g) : zv_D g b K L C wo sz re fe ru lk P Qu Hd hr dp := by
  have kp : ∀ a : Nat, 147 ≤ a → a < 184 → g a = h a := fun a h1 h2 => by funext i; exact hg a i (by unfold zf_Se zf_Ds; omega)
  obtain ⟨h1, h2, h3, h4⟩ := hD
  exact ⟨h1.kp (hg 146 13 (by unfold zf_Se zf_Ds; omega)) (fun a ha hb => kp a ha (by omega)), h2.kp (fun a ha hb => kp a (by omega) (by omega)), by rw [kp 174 (by omega) (by omega)]; exact h3, by rw [kp 175 (by omega) (by omega)]; exact h4⟩
theorem zv_L.kp {g : zm_H} (hL : zv_L h U nx sl sP sU sH sh sd lc lkk lh lo) (h1 : ∀ i : Int, 3 ≤ i → i ≤ 5 → g 44 i = h 44 i) (h2 : ∀ a : Nat, 46 ≤ a → a ≤ 127 → g a = h a) : zv_L g U nx sl sP sU sH sh sd lc lkk lh lo := by
  obtain ⟨L1, L2, L3, L4, L5, L6, L7⟩ := hL
  refine ⟨by rw [h1 5 (by decide) (by decide)]; exact L1, by rw [h1 3 (by decide) (by decide)]; exact L2, by rw [h1 4 (by decide) (by decide)]; exact L3, L4, L5, fun i s hi hs => ?_, fun j a1 a2 q hq => by rw [h2 47 (by omega) (by omega)]; exact L7 j a1 a2 q hq⟩
  obtain ⟨r1, r2, r3, r4⟩ := L6 i s hi hs
  exact ⟨r1.kq (h2 _ (by omega) (by omega)) (h2 _ (by omega) (by omega)) (h2 _ (by omega) (by omega)), by rw [h2 _ (by omega) (by omega)]; exact r2, by rw [h2 _ (by omega) (by omega)]; exact r3, by rw [h2 46 (by omega) (by omega)]; exact r4⟩
/-- how a touch is made, which key, whether put back: of the child c in this state -/
def zp_tq (L : Nat) (re P : Nat → Int) (c : Nat) (x : Int) : Nat := zp_tch P (zp_up L P zp_id) (zp_to L P zp_id re c) (zq_S 8 (zp_cn L re P zp_id c)) x
def zp_pq (K L : Nat) (sz re : Nat → Int) (lk : Nat → Nat → Int) (cd : Nat → Int) (pf pt : Nat) (P : Nat → Int) (hr dp : Int) (c k : Nat) : Int := zp_puts cd pf pt (zp_en hr (zp_left P) dp (lk c k) (sz k) (zp_pm K lk c (zp_cn L re P zp_id c)))
def zp_dq (K L : Nat) (sz re fe ru : Nat → Int) (lk : Nat → Nat → Int) (cd : Nat → Int) (pf pt : Nat) (P : Nat → Int) (hr dp x : Int) (c : Nat) : Nat × Int := zp_dipf (zp_ke K sz ru lk c) (zp_tq L re P c) (fe c).toNat (zp_pq K L sz re lk cd pf pt P hr dp c) x
theorem zp_tq_b (hB : zv_B K L C wo sz re fe ru lk) (hP : zv_P K L P) {c : Nat} (hT0 : 0 < zq_S 8 (zp_cn L re P zp_id c)) (x : Int) : zp_tq L re P c x < 40 ∧ zp_tq L re P c x % 8 < K ∧ 0 < P (zp_tq L re P c x) := by
  have := zp_tch_b hB hP (c := c) (re := re) rfl rfl rfl hT0 x
  unfold zp_tq
  omega
theorem zp_dq_b (hB : zv_B K L C wo sz re fe ru lk) (hP : zv_P K L P) {c : Nat} (hT0 : 0 < zq_S 8 (zp_cn L re P zp_id c)) (hr dp x : Int) : ((zp_dq K L sz re fe ru lk cd pf pt P hr dp x c).1 < 40 ∧ (zp_dq K L sz re fe ru lk cd pf pt P hr dp x c).1 % 8 < K ∧ 0 < P (zp_dq K L sz re fe ru lk cd pf pt P hr dp x c).1) ∧ 0 ≤ (zp_dq K L sz re fe ru lk cd pf pt P hr dp x c).2 ∧ (zp_dq K L sz re fe ru lk cd pf pt P hr dp x c).2 ≤ 2147483647 :=
  zp_dipf_in (Q := fun s => s < 40 ∧ s % 8 < K ∧ 0 < P s) (fun x => zp_tq_b hB hP hT0 x) _ _ x
def zf_Dp (a : Nat) (i : Int) : Prop := (a = 32 ∧ i = 1) ∨ (33 ≤ a ∧ a ≤ 35) ∨ (a = 44 ∧ i = 4) ∨ a = 47 ∨ zf_Sd a i
theorem s_32 (hC : zv_C h t K L C wo sz re fe ru lk P Pu Hd hr dp) (hB : zv_B K L C wo sz re fe ru lk) (hX : zv_X K L C P Pu Hd hr dp) (hI : zv_I h t N cd cf ct pf pt) (hY : zv_Y N cd cf ct pf pt) (hL : zv_L h U nx sl sP sU sH sh sd lc lkk lh lo) (hU : 0 < U) (hZ : zv_Z U d sl lc lkk lh lo) (hd : d < 160) {c : Nat} (hc : c < C) (hT0 : 0 < zq_S 8 (zp_cn L re P zp_id c)) {x co : Int} (hx : h 4 16 = x) (hxb : 0 ≤ x ∧ x ≤ 2147483647) (hco : co = zp_cost cd cf ct (zp_en hr (zp_left P) dp 0 0 0)) (hdp : dp < 1000000) {s k : Nat} (hs : s = (zp_dq K L sz re fe ru lk cd pf pt P hr dp x c).1) (hk : k = s % 8) :
    zi (zc 32 [zm_A 4, zm_I c] h) (fun z g => z = k ∧ zq_F zf_Dp h g ∧ zv_C g t K L C wo sz re fe ru lk (zp_set P s (P s - 1)) (zp_set Pu c (Pu c - co)) (zp_set Hd (8 * c + k) (Hd (8 * c + k) + 1)) hr (dp + 1) ∧ g 4 16 = (zp_dq K L sz re fe ru lk cd pf pt P hr dp x c).2 ∧ zv_L g U nx (zp_up1 sl U) sP sU sH sh sd (zp_set lc (sl U) c) (zp_set lkk (sl U) k) (zp_set lh (sl U) hr) (zp_set lo (sl U) co)) := by
  have hC8 := hB.2.2.1
  have hK8 := hB.1
  have ht := hC.2.1.1
  have hcob : 0 ≤ co ∧ co ≤ 99 := by rw [hco]; unfold zp_cost; omega
  -- the last writes
  have last : ∀ (g : zm_H) (w4 w5 : zm_V), zq_F zf_Sd h g → g 4 16 = (zp_dq K L sz re fe ru lk cd pf pt P hr dp x c).2 → zi (zr none 5 32 91 [zm_A 4, zm_I c, zm_I co, zm_I s, w4, w5] [] g) (fun z g => z = k ∧ zq_F zf_Dp h g ∧ zv_C g t K L C wo sz re fe ru lk (zp_set P s (P s - 1)) (zp_set Pu c (Pu c - co)) (zp_set Hd (8 * c + k) (Hd (8 * c + k) + 1)) hr (dp + 1) ∧ g 4 16 = (zp_dq K L sz re fe ru lk cd pf pt P hr dp x c).2 ∧ zv_L g U nx (zp_up1 sl U) sP sU sH sh sd (zp_set lc (sl U) c) (zp_set lkk (sl U) k) (zp_set lh (sl U) hr) (zp_set lo (sl U) co)) := by
    intro g w4 w5 fg hseed
    have hCg := hC.kd fg
    obtain ⟨⟨s1, s2, s3⟩, -⟩ := zp_dq_b (cd := cd) (pf := pf) (pt := pt) hB hX.1 (fe := fe) (sz := sz) (ru := ru) (lk := lk) hT0 hr dp x
    rw [← hs] at s1 s2 s3
    have hLg : zv_L g U nx sl sP sU sH sh sd lc lkk lh lo := hL.kp (fun i h1 h2 => fg 44 i (by unfold zf_Sd zf_Cs; omega)) (fun a h1 h2 => by funext i; exact fg a i (by unfold zf_Sd zf_Cs; omega))
    obtain ⟨c1, c2, c3, c4, c5⟩ := hCg
    have ePu : g 34 (c : Int) = Pu c := c3.2.2.1 c (by omega)
    have eP : g 33 (s : Int) = P s := c3.2.1 s s1
    have eH : g 35 ((8 * c + k : Nat) : Int) = Hd (8 * c + k) := c3.2.2.2 (8 * c + k) (by omega)
    have em : ((s : Nat) : Int).tmod 8 = ((k : Nat) : Int) := by rw [zq_tmod (by omega), hk]; omega
    have ed : ((s : Nat) : Int).tdiv 8 = ((s : Nat) : Int) / 8 := zq_tdiv (by omega)
    have ei : (c : Int) * 8 + (k : Int) = ((8 * c + k : Nat) : Int) := by omega
    have bP := hX.1.1 s s1
    have bH := hX.2.1.1 (8 * c + k) (by omega)
    have bPu := hX.2.2.1 c (by omega)
    refine zt_l e_32_91 ?_
    rw [em, ed, ei, ePu]
    have r1 : zm_wr g 34 (c : Int) (Pu c - co) 33 (s : Int) = P s := by rw [zq_wr_n (by decide)]; exact eP
    rw [r1]
    have r2 : zm_wr (zm_wr g 34 (c : Int) (Pu c - co)) 33 (s : Int) (P s - 1) 35 ((8 * c + k : Nat) : Int) = Hd (8 * c + k) := by rw [zq_wr_n (by decide), zq_wr_n (by decide)]; exact eH
    rw [r2]
    have r3 : zm_wr (zm_wr (zm_wr g 34 (c : Int) (Pu c - co)) 33 (s : Int) (P s - 1)) 35 ((8 * c + k : Nat) : Int) (Hd (8 * c + k) + 1) 32 1 = dp := by rw [zq_wr_n (by decide), zq_wr_n (by decide), zq_wr_n (by decide)]; exact c5
    rw [r3]
    have r4 : zm_wr (zm_wr (zm_wr (zm_wr g 34 (c : Int) (Pu c - co)) 33 (s : Int) (P s - 1)) 35 ((8 * c + k : Nat) : Int) (Hd (8 * c + k) + 1)) 32 1 (dp + 1) 32 0 = hr := by rw [zq_wr_i (by decide), zq_wr_n (by decide), zq_wr_n (by decide), zq_wr_n (by decide)]; exact c4
    rw [r4]
    have hdp0 := hX.2.2.2.2.2.1
    have hhr := hX.2.2.2
    refine zt_c (by omega) (zt_c (by omega) (zt_c (by omega) (zt_c (by omega) (zt_c (by omega) (zt_c (by omega) (zt_c (by omega) (zt_c (by omega) (zt_c (by omega) (zt_c (by omega) (zt_c (by omega) (zt_c (by omega) (zt_c (by omega) ?_))))))))))))
    have kp : ∀ a : Nat, a ≠ 32 → a ≠ 33 → a ≠ 34 → a ≠ 35 → zm_wr (zm_wr (zm_wr (zm_wr g 34 (c : Int) (Pu c - co)) 33 (s : Int) (P s - 1)) 35 ((8 * c + k : Nat) : Int) (Hd (8 * c + k) + 1)) 32 1 (dp + 1) a = g a := fun a h1 h2 h3 h4 => by
      funext i; rw [zq_wr_n h1, zq_wr_n h4, zq_wr_n h2, zq_wr_n h3]
    have t33 : ∀ i : Nat, i < 40 → zm_wr (zm_wr (zm_wr (zm_wr g 34 (c : Int) (Pu c - co)) 33 (s : Int) (P s - 1)) 35 ((8 * c + k : Nat) : Int) (Hd (8 * c + k) + 1)) 32 1 (dp + 1) 33 i = zp_set P s (P s - 1) i := fun i hi => by
      rw [zq_wr_n (by decide), zq_wr_n (by decide)]
      unfold zp_set
      by_cases hq : i = s
      · subst hq; rw [zq_wr_e, if_pos rfl]
      · rw [zq_wr_i (by omega), zq_wr_n (by decide), if_neg hq]; exact c3.2.1 i hi
    have t34 : ∀ i : Nat, i < 8 → zm_wr (zm_wr (zm_wr (zm_wr g 34 (c : Int) (Pu c - co)) 33 (s : Int) (P s - 1)) 35 ((8 * c + k : Nat) : Int) (Hd (8 * c + k) + 1)) 32 1 (dp + 1) 34 i = zp_set Pu c (Pu c - co) i := fun i hi => by
      rw [zq_wr_n (by decide), zq_wr_n (by decide), zq_wr_n (by decide)]
      unfold zp_set
      by_cases hq : i = c
      · subst hq; rw [zq_wr_e, if_pos rfl]
      · rw [zq_wr_i (by omega), if_neg hq]; exact c3.2.2.1 i hi
    have t35 : ∀ i : Nat, i < 64 → zm_wr (zm_wr (zm_wr (zm_wr g 34 (c : Int) (Pu c - co)) 33 (s : Int) (P s - 1)) 35 ((8 * c + k : Nat) : Int) (Hd (8 * c + k) + 1)) 32 1 (dp + 1) 35 i = zp_set Hd (8 * c + k) (Hd (8 * c + k) + 1) i := fun i hi => by
      rw [zq_wr_n (by decide)]
      unfold zp_set
      by_cases hq : i = 8 * c + k
      · subst hq; rw [zq_wr_e, if_pos rfl]
      · rw [zq_wr_i (by omega), zq_wr_n (by decide), zq_wr_n (by decide), if_neg hq]; exact c3.2.2.2 i hi
    have hL2 : zv_L (zm_wr (zm_wr (zm_wr (zm_wr g 34 (c : Int) (Pu c - co)) 33 (s : Int) (P s - 1)) 35 ((8 * c + k : Nat) : Int) (Hd (8 * c + k) + 1)) 32 1 (dp + 1)) U nx sl sP sU sH sh sd lc lkk lh lo := hLg.kp (fun i h1 h2 => by rw [kp 44 (by decide) (by decide) (by decide) (by decide)]) (fun a h1 h2 => kp a (by omega) (by omega) (by omega) (by omega))
    have e321 : zm_wr (zm_wr (zm_wr (zm_wr g 34 (c : Int) (Pu c - co)) 33 (s : Int) (P s - 1)) 35 ((8 * c + k : Nat) : Int) (Hd (8 * c + k) + 1)) 32 1 (dp + 1) 32 1 = dp + 1 := zq_wr_e
    have fG : zq_F (fun a i => (a = 32 ∧ i = 1) ∨ (33 ≤ a ∧ a ≤ 35)) g (zm_wr (zm_wr (zm_wr (zm_wr g 34 (c : Int) (Pu c - co)) 33 (s : Int) (P s - 1)) 35 ((8 * c + k : Nat) : Int) (Hd (8 * c + k) + 1)) 32 1 (dp + 1)) := zq_F_tr (zq_F_wr (by omega)) (zq_F_tr (zq_F_wr (by omega)) (zq_F_tr (zq_F_wr (by omega)) (zq_F_wr (by omega))))
    generalize zm_wr (zm_wr (zm_wr (zm_wr g 34 (c : Int) (Pu c - co)) 33 (s : Int) (P s - 1)) 35 ((8 * c + k : Nat) : Int) (Hd (8 * c + k) + 1)) 32 1 (dp + 1) = G at kp t33 t34 t35 hL2 r4 e321 fG
    refine zt_V (s_70 hL2 hU hZ hd (c := c) (k := k) (hh := hr) (co := co) (by omega) (by omega) (by omega) (by omega)) ?_
    rintro g2 ⟨f2, L2⟩
    have k2 : ∀ a : Nat, a ≠ 44 → a ≠ 47 → g2 a = G a := fun a h1 h2 => by funext i; exact f2 a i (by omega)
    refine zi_e ⟨rfl, ?_, ⟨?_, ?_, ⟨zf_T_32, ?_, ?_, ?_⟩, ?_, ?_⟩, ?_, L2⟩
    · refine zq_F_tr (zq_F_wk fg (fun a i q => ?_)) (zq_F_tr (zq_F_wk fG (fun a i q => ?_)) (zq_F_wk f2 (fun a i q => ?_)))
      · unfold zf_Dp; exact Or.inr (Or.inr (Or.inr (Or.inr q)))
      · unfold zf_Dp; omega
      · unfold zf_Dp; omega
    · rw [k2 4 (by decide) (by decide), kp 4 (by decide) (by decide) (by decide) (by decide)]; exact c1
    · exact c2.k7 (fun a h1 h2 => by rw [k2 a (by omega) (by omega), kp a (by omega) (by omega) (by omega) (by omega)])
    · intro i hi; rw [k2 33 (by decide) (by decide)]; exact t33 i hi
    · intro i hi; rw [k2 34 (by decide) (by decide)]; exact t34 i hi
    · intro i hi; rw [k2 35 (by decide) (by decide)]; exact t35 i hi
    · rw [k2 32 (by decide) (by decide)]; exact r4
    · rw [k2 32 (by decide) (by decide)]; exact e321
    · rw [k2 4 (by decide) (by decide), kp 4 (by decide) (by decide) (by decide) (by decide)]; exact hseed
  refine zt_l e_32 (zt_I (s_8 hC hX hI hY) ?_)
  rintro z g ⟨rfl, f1⟩
  rw [← hco]
  have hC1 := hC.kp f1
  refine zt_V (s_18 hC1 hB hX hc) ?_
  rintro g2 ⟨f2, R2⟩
  have f2' : zq_F zf_Cs h g2 := zq_F_tr f1 (zf_Rs_Cs f2)
  have hC2 := hC.kp f2'
  have hx2 : g2 4 16 = x := by rw [f2' 4 16 (by unfold zf_Cs; omega)]; exact hx
  refine zt_I (s_33 hC2 hB hX R2 rfl rfl rfl hT0 hx2 hxb) ?_
  rintro z g3 ⟨rfl, rfl⟩
  -- the loop: from g2 the seed alone has changed
  have loop : ∀ (m i : Nat) (sp : Nat × Int) (g : zm_H) (w5 : zm_V), i + m = (fe c).toNat → zq_F (fun a i => a = 4 ∧ i = 16) g2 g → g 4 16 = sp.2 → (0 ≤ sp.2 ∧ sp.2 ≤ 2147483647) → (sp.1 < 40 ∧ sp.1 % 8 < K) → zp_tl (zp_ke K sz ru lk c) (zp_tq L re P c) m sp = zp_tl (zp_ke K sz ru lk c) (zp_tq L re P c) (fe c).toNat (zp_tq L re P c x, zp_nx x) → zi (zr none 5 32 18 [zm_A 4, zm_I c, zm_I co, zm_I sp.1, zm_I i, w5] [] g) (fun z g => z = k ∧ zq_F zf_Dp h g ∧ zv_C g t K L C wo sz re fe ru lk (zp_set P s (P s - 1)) (zp_set Pu c (Pu c - co)) (zp_set Hd (8 * c + k) (Hd (8 * c + k) + 1)) hr (dp + 1) ∧ g 4 16 = (zp_dq K L sz re fe ru lk cd pf pt P hr dp x c).2 ∧ zv_L g U nx (zp_up1 sl U) sP sU sH sh sd (zp_set lc (sl U) c) (zp_set lkk (sl U) k) (zp_set lh (sl U) hr) (zp_set lo (sl U) co)) := by
    have hfe := hB.2.2.2.2.1 c hc
    intro m
    induction m with
    | zero =>
      intro i sp g w5 hi fg hsx hsb hsp heq
      have fg' : zq_F zf_Sd h g := zq_F_tr (zq_F_wk f2' (fun a i q => Or.inr q)) (zq_F_wk fg (fun a i q => Or.inl q))
      have hCg := hC.kd fg'
      have R3 : zv_R g K L sz re fe ru lk P zp_id c := R2.kp (fun a h1 h2 => by funext j; exact fg a j (by omega))
      have hIg : zv_I g t N cd cf ct pf pt := hI.k7 ht (fun a h1 h2 => by funext j; exact fg' a j (by unfold zf_Sd zf_Cs; omega))
      have e7 : g (t + 7) (c : Int) = fe c := (hCg.2.1.2.2.2.2.2.1 c hc).2.1
      have em : ((sp.1 : Nat) : Int).tmod 8 = ((sp.1 % 8 : Nat) : Int) := by rw [zq_tmod (by omega)]; omega
      have ed : ((sp.1 : Nat) : Int).tdiv 8 = ((sp.1 : Nat) : Int) / 8 := zq_tdiv (by omega)
      refine zt_l (e_32_18 ht) (zt_c hCg.1 (zt_c (by omega) ?_))
      rw [e7, em, ed]
      refine zt_f (by omega) (zt_c (by omega) (zt_I (s_35 hCg hB hX hIg hY hc hsp.2 R3 hT0) ?_))
      rintro z g4 ⟨rfl, f4⟩
      have f5 : zq_F zf_Sd h g4 := zq_F_tr fg' (zq_F_wk f4 (fun a i q => by unfold zf_Sd zf_Cs; omega))
      have hfin : zp_dq K L sz re fe ru lk cd pf pt P hr dp x c = (if zp_pq K L sz re lk cd pf pt P hr dp c (sp.1 % 8) = 0 then sp else (zp_tq L re P c sp.2, zp_nx sp.2)) := by
        unfold zp_dq zp_dipf
        rw [← heq]; rfl
      have hpb : zp_puts cd pf pt (zp_en hr (zp_left P) dp (lk c (sp.1 % 8)) (sz (sp.1 % 8)) (zp_pm K lk c (zp_cn L re P zp_id c))) = zp_pq K L sz re lk cd pf pt P hr dp c (sp.1 % 8) := rfl
      rw [hpb]
      have hx4 : g4 4 16 = sp.2 := by rw [f4 4 16 (by omega)]; exact hsx
      refine zt_p (fun q => ?_) (fun q => ?_)
      · rw [if_pos q] at hfin
        have es : s = sp.1 := by rw [hs, hfin]
        rw [← es]
        exact last g4 _ _ f5 (by rw [hx4, hfin])
      · rw [if_neg q] at hfin
        have hC4 := hC.kd f5
        have R4 : zv_R g4 K L sz re fe ru lk P zp_id c := R3.kp (fun a h1 h2 => by funext j; exact f4 a j (by omega))
        refine zt_I (s_33 hC4 hB hX R4 rfl rfl rfl hT0 hx4 hsb) ?_
        rintro z g5 ⟨rfl, rfl⟩
        have es : s = zp_tq L re P c sp.2 := by rw [hs, hfin]
        have es2 : zp_tch P (zp_up L P zp_id) (zp_to L P zp_id re c) (zq_S 8 (zp_cn L re P zp_id c)) sp.2 = s := es.symm
        rw [es2]
        exact last _ _ _ (zq_F_tr f5 (zq_F_wr (Or.inl ⟨rfl, rfl⟩))) (by rw [zq_wr_e, hfin])
    | succ m ih =>
      intro i sp g w5 hi fg hsx hsb hsp heq
      have fg' : zq_F zf_Sd h g := zq_F_tr (zq_F_wk f2' (fun a i q => Or.inr q)) (zq_F_wk fg (fun a i q => Or.inl q))
      have hCg := hC.kd fg'
      have R3 : zv_R g K L sz re fe ru lk P zp_id c := R2.kp (fun a h1 h2 => by funext j; exact fg a j (by omega))
      have e7 : g (t + 7) (c : Int) = fe c := (hCg.2.1.2.2.2.2.2.1 c hc).2.1
      have em : ((sp.1 : Nat) : Int).tmod 8 = ((sp.1 % 8 : Nat) : Int) := by rw [zq_tmod (by omega)]; omega
      have ed : ((sp.1 : Nat) : Int).tdiv 8 = ((sp.1 : Nat) : Int) / 8 := zq_tdiv (by omega)
      refine zt_l (e_32_18 ht) (zt_c hCg.1 (zt_c (by omega) ?_))
      rw [e7, em, ed]
      refine zt_t (by omega) (zt_I (s_33 hCg hB hX R3 rfl rfl rfl hT0 hsx hsb) ?_)
      rintro z g4 ⟨rfl, rfl⟩
      have htq := zp_tq_b hB hX.1 hT0 sp.2
      have etq : zp_tch P (zp_up L P zp_id) (zp_to L P zp_id re c) (zq_S 8 (zp_cn L re P zp_id c)) sp.2 = zp_tq L re P c sp.2 := rfl
      rw [etq]
      have em2 : ((zp_tq L re P c sp.2 : Nat) : Int).tmod 8 = ((zp_tq L re P c sp.2 % 8 : Nat) : Int) := by rw [zq_tmod (by omega)]; omega
      have ed2 : ((zp_tq L re P c sp.2 : Nat) : Int).tdiv 8 = ((zp_tq L re P c sp.2 : Nat) : Int) / 8 := zq_tdiv (by omega)
      rw [em2, ed2]
      have key1 : ∀ j : Nat, j < 8 → zm_wr g 4 16 (zp_nx sp.2) 131 (j : Int) = zp_ke K sz ru lk c j := fun j hj => by rw [zq_wr_n (by decide)]; exact (R3.2.2.2.2 j hj).2.2
      rw [key1 _ (by omega), key1 _ (by omega)]
      have fg2 : zq_F (fun a i => a = 4 ∧ i = 16) g2 (zm_wr g 4 16 (zp_nx sp.2)) := zq_F_tr fg (zq_F_wr ⟨rfl, rfl⟩)
      have nxt : ∀ sp1 : Nat, sp1 = (if zp_ke K sz ru lk c (sp.1 % 8) < zp_ke K sz ru lk c (zp_tq L re P c sp.2 % 8) then zp_tq L re P c sp.2 else sp.1) → (sp1 < 40 ∧ sp1 % 8 < K) → zi (zr none 5 32 18 [zm_A 4, zm_I c, zm_I co, zm_I sp1, zm_I ((i : Int) + 1), zm_I ((zp_tq L re P c sp.2 : Nat) : Int)] [] (zm_wr g 4 16 (zp_nx sp.2))) (fun z g => z = k ∧ zq_F zf_Dp h g ∧ zv_C g t K L C wo sz re fe ru lk (zp_set P s (P s - 1)) (zp_set Pu c (Pu c - co)) (zp_set Hd (8 * c + k) (Hd (8 * c + k) + 1)) hr (dp + 1) ∧ g 4 16 = (zp_dq K L sz re fe ru lk cd pf pt P hr dp x c).2 ∧ zv_L g U nx (zp_up1 sl U) sP sU sH sh sd (zp_set lc (sl U) c) (zp_set lkk (sl U) k) (zp_set lh (sl U) hr) (zp_set lo (sl U) co)) := by
        intro sp1 hsp1 hb1
        have := ih (i + 1) (sp1, zp_nx sp.2) (zm_wr g 4 16 (zp_nx sp.2)) (zm_I ((zp_tq L re P c sp.2 : Nat) : Int)) (by omega) fg2 zq_wr_e (zp_nx_b _) hb1 (by rw [hsp1]; exact heq)
        rw [show ((i + 1 : Nat) : Int) = (i : Int) + 1 by omega] at this
        exact this
      refine zt_c (by omega) (zt_c (by omega) (zt_c (by omega) (zt_c (by omega) ?_)))
      refine zt_p (fun q => zt_c (by omega) (nxt _ (by rw [if_neg (by omega)]) hsp)) (fun q => zt_c (by omega) (nxt _ (by rw [if_pos (by omega)]) ⟨htq.1, htq.2.1⟩))
  have htq := zp_tq_b hB hX.1 hT0 x
  exact loop (fe c).toNat 0 (zp_tq L re P c x, zp_nx x) _ _ (by omega) (zq_F_wr ⟨rfl, rfl⟩) zq_wr_e (zp_nx_b x) ⟨htq.1, htq.2.1⟩ rfl
end
