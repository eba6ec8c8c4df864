/-! DIP of both sides -/
/-- what holds of the state's numbers: d dips in this act so far, e bounds what has grown -/
def zv_V (K L C U d e : Nat) (P Pu Qu Hd : Nat → Int) (hr dp x : Int) (sl : Nat → Nat) (lc lkk lh lo : Nat → Int) : Prop :=
  zv_X K L C P Pu Hd hr dp ∧ zv_X K L C P Qu Hd hr dp ∧ zv_Z U d sl lc lkk lh lo ∧ (∀ c, c < C → Qu c = Pu c) ∧ (∀ c, C ≤ c → c < 8 → Pu c = 0) ∧ (0 ≤ x ∧ x ≤ 2147483647) ∧ (∀ i, i < 64 → Hd i ≤ e) ∧ dp ≤ e ∧ sl U + 9999 ≤ e ∧ e ≤ 99000
def zp_tot (L : Nat) (re P : Nat → Int) (c : Nat) : Int := zq_S 8 (zp_cn L re P zp_id c)
def zp_cdip (L C : Nat) (re P Pu : Nat → Int) (co x : Int) : Prop := (0 ≤ x ∧ x < C) ∧ 0 < zp_tot L re P x.toNat ∧ co ≤ Pu x.toNat
section
variable {h : zm_H} {t b K L C N cf ct pf pt U nx uf d e : Nat} {wo sz re fe ru cd : Nat → Int} {lk : Nat → Nat → Int} {P Pu Qu Hd : Nat → Int} {hr dp x : Int} {sl : Nat → Nat} {sP sU sQ sH : Nat → Nat → Int} {sh sd lc lkk lh lo : Nat → Int}
theorem zp_upf_z (L : Nat) (P : Nat → Int) : ∀ n p, p + n = L → ∀ q, p ≤ q → q < zp_upf L P zp_id n p → zp_sl P q = 0 := by
  intro n
  induction n with
  | zero => intro p hp q h1 h2; unfold zp_upf at h2; omega
  | succ n ih =>
    intro p hp q h1 h2
    unfold zp_upf at h2
    split at h2
    · next hc =>
      by_cases hq : q = p
      · subst hq; exact hc.2
      · exact ih (p + 1) (by omega) q (by omega) h2
    · omega
theorem zp_upf_n (L : Nat) (P : Nat → Int) : ∀ n p, p + n = L → zp_upf L P zp_id n p < L → zp_sl P (zp_upf L P zp_id n p) ≠ 0 := by
  intro n
  induction n with
  | zero => intro p hp h2; unfold zp_upf at h2; omega
  | succ n ih =>
    intro p hp h2
    unfold zp_upf at h2 ⊢
    split at h2
    · next hc => rw [if_pos hc]; exact ih (p + 1) (by omega) h2
    · next hc =>
      rw [if_neg hc]
      intro q
      exact hc ⟨h2, q⟩
theorem zp_tot_sl (L : Nat) (re P : Nat → Int) (c : Nat) : zp_tot L re P c = zq_S (zp_to L P zp_id re c - zp_up L P zp_id) (fun i => zp_sl P (zp_up L P zp_id + i)) := by
  unfold zp_tot zp_cn zp_cnt zp_sl
  rw [zq_S_swap]
theorem zp_tot_iff (hB : zv_B K L C wo sz re fe ru lk) (hP : zv_P K L P) {c : Nat} (hc : c < C) : 0 < zp_tot L re P c ↔ 0 < zp_left P := by
  have hL := hB.2.1
  have hre := (hB.2.2.2.2.1 c hc).1
  have hle := zp_to_le L P zp_id re c
  have hsl : ∀ l, l < 5 → 0 ≤ zp_sl P l := fun l hl => (zp_sl_b hl hP.1).1
  have hlL := zp_left_L hP hL
  rw [zp_tot_sl]
  rcases Nat.lt_or_ge (zp_up L P zp_id) L with hu | hu
  · have hne := zp_upf_n L P L 0 (by omega) hu
    have h0 := hsl (zp_up L P zp_id) (by omega)
    have hpos : 0 < zp_sl P (zp_up L P zp_id) := by
      unfold zp_up at *; omega
    have hto : zp_up L P zp_id < zp_to L P zp_id re c := by unfold zp_to; omega
    have h1 := zq_S_one (n := zp_to L P zp_id re c - zp_up L P zp_id) (f := fun i => zp_sl P (zp_up L P zp_id + i)) (fun i hi => hsl _ (by omega)) (i := 0) (by omega)
    simp only [Nat.add_zero] at h1
    have h2 := zq_S_one (n := L) (f := zp_sl P) (fun i hi => hsl i (by omega)) (i := zp_up L P zp_id) hu
    constructor <;> intro _ <;> omega
  · have hz : zq_S L (zp_sl P) = 0 := zq_S_zero (fun l hl => zp_upf_z L P L 0 (by omega) l (by omega) (by unfold zp_up at hu; omega))
    have e0 : zp_to L P zp_id re c - zp_up L P zp_id = 0 := by omega
    rw [e0]
    simp only [zq_S]
    omega
theorem zv_Z.rem (hZ : zv_Z U d sl lc lkk lh lo) (hU : U ≤ 20) : zv_Z (U + 1 - zp_sft U) 0 (zp_sl1 U sl) lc lkk lh lo ∧ zp_sl1 U sl (U + 1 - zp_sft U) = sl U := by
  obtain ⟨Z1, Z2, Z3, Z4, Z5⟩ := hZ
  have hsf : zp_sft U = 0 ∧ U < 20 ∨ zp_sft U = 1 ∧ U = 20 := by unfold zp_sft; split <;> omega
  have eU : zp_sl1 U sl (U + 1 - zp_sft U) = sl U := by
    unfold zp_sl1
    rw [if_neg (by omega)]
  have ei : ∀ i, i < U + 1 - zp_sft U → zp_sl1 U sl i = sl (i + zp_sft U) := fun i hi => by
    unfold zp_sl1
    rw [if_pos (by omega)]
  have pair : ∀ i j, i ≤ j → j ≤ U → sl i ≤ sl j ∧ sl j ≤ sl i + 160 * (j - i) := fun i j hij hj => by
    by_cases hjU : j = U
    · subst hjU
      by_cases hi : i = j
      · subst hi; omega
      · have := Z2 i (by omega); omega
    · exact Z1 i j hij (by omega)
  refine ⟨⟨fun i j hij hj => ?_, fun i hi => ?_, by omega, by rw [eU]; exact Z4, Z5⟩, eU⟩
  · rw [ei i (by omega), ei j hj]
    have := pair (i + zp_sft U) (j + zp_sft U) (by omega) (by omega)
    omega
  · rw [ei i hi, eU]
    have := pair (i + zp_sft U) U (by omega) (Nat.le_refl _)
    omega
theorem zv_Z.dip (hZ : zv_Z U d sl lc lkk lh lo) (hd : d < 160) (hs : sl U < 90000) {c k hh o : Int} (hc : 0 ≤ c ∧ c < 8) (hk : 0 ≤ k ∧ k < 8) (hhh : 0 ≤ hh ∧ hh ≤ 99) (ho : 0 ≤ o ∧ o ≤ 99) : zv_Z U (d + 1) (zp_up1 sl U) (zp_set lc (sl U) c) (zp_set lkk (sl U) k) (zp_set lh (sl U) hh) (zp_set lo (sl U) o) := by
  obtain ⟨Z1, Z2, Z3, Z4, Z5⟩ := hZ
  have ei : ∀ i, i < U → zp_up1 sl U i = sl i := fun i hi => by unfold zp_up1; rw [if_neg (by omega)]
  have eU : zp_up1 sl U U = sl U + 1 := by unfold zp_up1; rw [if_pos rfl]
  refine ⟨fun i j hij hj => by rw [ei i (by omega), ei j hj]; exact Z1 i j hij hj, fun i hi => ?_, by omega, by rw [eU]; omega, fun j => ?_⟩
  · rw [ei i hi, eU]
    have := Z2 i hi
    omega
  · have := Z5 j
    unfold zp_set
    refine ⟨?_, ?_, ?_, ?_⟩
    · split
      · exact hc
      · exact this.1
    · split
      · exact hk
      · exact this.2.1
    · split
      · exact hhh
      · exact this.2.2.1
    · split
      · exact ho
      · exact this.2.2.2
theorem zv_V.dip (hB : zv_B K L C wo sz re fe ru lk) (hV : zv_V K L C U d e P Pu Qu Hd hr dp x sl lc lkk lh lo) {c : Nat} (hc : c < C) (hT0 : 0 < zp_tot L re P c) {co : Int} (hco : 0 ≤ co ∧ co ≤ 99) (hcp : co ≤ Pu c) (hd : d < 160) (he : e < 98000) {s k : Nat} {x' : Int} (hs : (s < 40 ∧ s % 8 < K ∧ 0 < P s) ∧ 0 ≤ x' ∧ x' ≤ 2147483647) (hk : k = s % 8) : zv_V K L C U (d + 1) (e + 1) (zp_set P s (P s - 1)) (zp_set Pu c (Pu c - co)) (zp_set Qu c (Qu c - co)) (zp_set Hd (8 * c + k) (Hd (8 * c + k) + 1)) hr (dp + 1) x' (zp_up1 sl U) (zp_set lc (sl U) c) (zp_set lkk (sl U) k) (zp_set lh (sl U) hr) (zp_set lo (sl U) co) := by
  obtain ⟨X1, X2, hZ, hq, h0, hx, hH, hdp, hsl, he2⟩ := hV
  have hK8 := hB.1
  have hC8 := hB.2.2.1
  obtain ⟨⟨s1, s2, s3⟩, hx'⟩ := hs
  have bP := X1.1.1 s s1
  have bH := X1.2.1.1 (8 * c + k) (by omega)
  have bHe := hH (8 * c + k) (by omega)
  have bPu := X1.2.2.1 c (by omega)
  have bQu := hq c hc
  have P1 : zv_P K L (zp_set P s (P s - 1)) := by
    refine ⟨fun i hi => ?_, fun i hi hz => ?_⟩
    · unfold zp_set
      split
      · omega
      · exact X1.1.1 i hi
    · have := X1.1.2 i hi hz
      unfold zp_set
      split
      · next q => subst q; omega
      · exact this
  have H1 : zv_H K C (zp_set Hd (8 * c + k) (Hd (8 * c + k) + 1)) := by
    refine ⟨fun i hi => ?_, fun i hi hz => ?_⟩
    · unfold zp_set
      split
      · omega
      · exact X1.2.1.1 i hi
    · unfold zp_set
      rw [if_neg (by omega)]
      exact X1.2.1.2 i hi hz
  have x4 := X1.2.2.2
  have fin : ∀ Ru : Nat → Int, (∀ c, c < 8 → 0 ≤ Ru c ∧ Ru c ≤ 999) → Ru c = Pu c → zv_X K L C (zp_set P s (P s - 1)) (zp_set Ru c (Ru c - co)) (zp_set Hd (8 * c + k) (Hd (8 * c + k) + 1)) hr (dp + 1) := by
    intro Ru hRu hR
    refine ⟨P1, H1, fun i hi => ?_, by omega, by omega, by omega, by omega⟩
    have := hRu i hi
    unfold zp_set
    split <;> omega
  refine ⟨fin Pu X1.2.2.1 rfl, fin Qu X2.2.2.1 bQu, hZ.dip hd (by omega) (by omega) (by omega) (by omega) hco, fun i hi => ?_, fun i hi hi2 => ?_, hx', fun i hi => ?_, by omega, ?_, by omega⟩
  · unfold zp_set
    split
    · omega
    · exact hq i hi
  · unfold zp_set
    rw [if_neg (by omega)]
    exact h0 i hi hi2
  · have := hH i hi
    unfold zp_set
    split <;> omega
  · unfold zp_up1; rw [if_pos rfl]; omega
theorem s_31 (hC : zv_C h t K L C wo sz re fe ru lk P Pu Hd hr dp) (hB : zv_B K L C wo sz re fe ru lk) (hX : zv_X K L C P Pu Hd hr dp) (hI : zv_I h t N cd cf ct pf pt) (hY : zv_Y N cd cf ct pf pt) {c : Nat} (hc : c < C) {co : Int} (hco : co = zp_cost cd cf ct (zp_en hr (zp_left P) dp 0 0 0)) : zi (zc 31 [zm_A 4, zm_I c] h) (fun z g => z = (if 0 < zp_tot L re P c ∧ co ≤ Pu c then 1 else 0) ∧ zq_F zf_Cs h g) := by
  have hC8 := hB.2.2.1
  have hiff := zp_tot_iff hB hX.1 hc
  refine zt_l e_31 (zt_I (s_144 hC.2.2.1 hX.1.1) ?_)
  rintro z g ⟨rfl, rfl⟩
  refine zt_p (fun q => zt_c (Or.inl rfl) (zi_e ⟨by rw [if_neg (fun r => absurd (hiff.mp r.1) (by omega))], zq_F_rf⟩)) (fun q => zt_c (by omega) (zt_I (s_8 hC hX hI hY) ?_))
  rintro z g2 ⟨rfl, f1⟩
  rw [← hco]
  have e34 : g 34 (c : Int) = Pu c := hC.2.2.1.2.2.1 c (by omega)
  rw [e34]
  refine zt_p (fun q2 => zt_c (Or.inl rfl) (zi_e ⟨by rw [if_neg (by omega)], f1⟩)) (fun q2 => zt_c (Or.inr rfl) (zi_e ⟨by rw [if_pos ⟨hiff.mpr (by omega), by omega⟩], f1⟩))
theorem zf_Cs_CA {g : zm_H} (hg : zq_F zf_Cs h g) : zq_F zf_CA h g := zq_F_wk hg (fun a i q => by unfold zf_Cs at q; unfold zf_CA; omega)
theorem zf_Ds_DA {g : zm_H} (hg : zq_F zf_Ds h g) : zq_F zf_DA h g := zq_F_wk hg (fun a i q => by unfold zf_Ds at q; unfold zf_DA; omega)
theorem zf_Dp_CA {g : zm_H} (hg : zq_F zf_Dp h g) : zq_F zf_CA h g := zq_F_wk hg (fun a i q => by unfold zf_Dp zf_Sd zf_Cs at q; unfold zf_CA; omega)
theorem zf_Dq_DA {g : zm_H} (hg : zq_F zf_Dq h g) : zq_F zf_DA h g := zq_F_wk hg (fun a i q => by unfold zf_Dq at q; unfold zf_DA; omega)
theorem zv_K1.cs {g : zm_H} (k1 : zv_K1 h t K L C N cf ct pf pt U nx wo sz re fe ru cd lk P Pu Hd hr dp x sl sP sU sH sh sd lc lkk lh lo) (hg : zq_F zf_Cs h g) : zv_K1 g t K L C N cf ct pf pt U nx wo sz re fe ru cd lk P Pu Hd hr dp x sl sP sU sH sh sd lc lkk lh lo := by
  obtain ⟨hC, hI, hx, hL⟩ := k1
  exact ⟨hC.kp hg, hI.cs hC.2.1.1 hg, by rw [hg 4 16 (by unfold zf_Cs; omega)]; exact hx, hL.kp (fun i q1 q2 => hg 44 i (by unfold zf_Cs; omega)) (fun a q1 q2 => by funext i; exact hg a i (by unfold zf_Cs; omega))⟩
theorem zv_K2.ds {g : zm_H} (k2 : zv_K2 h b K L C N cf ct pf pt U uf wo sz re fe ru cd lk P Qu Hd hr dp x sl sP sQ sH sh sd lc lkk lh lo) (hg : zq_F zf_Ds h g) : zv_K2 g b K L C N cf ct pf pt U uf wo sz re fe ru cd lk P Qu Hd hr dp x sl sP sQ sH sh sd lc lkk lh lo := by
  obtain ⟨hD, hJ, hx, hM⟩ := k2
  exact ⟨hD.kp hg, hJ.ds hg, by rw [hg 146 58 (by unfold zf_Ds; omega)]; exact hx, hM.kp (hg 146 57 (by unfold zf_Ds; omega)) (hg 146 56 (by unfold zf_Ds; omega)) (fun a q1 q2 => by funext i; exact hg a i (by unfold zf_Ds; omega))⟩
theorem zv_K2.remx (k2 : zv_K2 h b K L C N cf ct pf pt U uf wo sz re fe ru cd lk P Qu Hd hr dp x sl sP sQ sH sh sd lc lkk lh lo) : zu (zc 247 [zm_A 146] h) (fun g => zq_F zf_Mi h g ∧ zv_R2 g b K L C N cf ct pf pt U ((uf + zp_sft U) % 20) wo sz re fe ru cd lk P Qu Hd hr dp sl sP sQ sH sh sd lc lkk lh lo P Qu Hd hr dp x) := by
  obtain ⟨hD, hJ, hx, hM⟩ := k2
  refine zu_m (s_247x hM hD.2.1 hD.2.2.1 hD.2.2.2) (fun g q => ⟨q.1, hD.mi q.1, hJ.kp (fun a q1 q2 => by funext i; exact q.1 a i (by unfold zf_Mi; omega)), ?_, q.2⟩)
  rw [q.1 146 58 (by unfold zf_Mi; omega)]; exact hx
/-- a dip of the class's child c, in the state as it is written down -/
theorem s_32k (k1 : zv_K1 h t K L C N cf ct pf pt U nx wo sz re fe ru cd lk P Pu Hd hr dp x sl sP sU sH sh sd lc lkk lh lo) (hB : zv_B K L C wo sz re fe ru lk) (hY : zv_Y N cd cf ct pf pt) (hV : zv_V K L C U d e P Pu Qu Hd hr dp x sl lc lkk lh lo) (hU : 0 < U) (hd : d < 160) (he : e < 98000) {c : Nat} (hc : c < C) (hT0 : 0 < zp_tot L re P c) {co : Int} (hco : co = zp_cost cd cf ct (zp_en hr (zp_left P) dp 0 0 0)) {s k : Nat} (hs : s = (zp_dq K L sz re fe ru lk cd pf pt P hr dp x c).1) (hk : k = s % 8) : zi (zc 32 [zm_A 4, zm_I c] h) (fun z g => z = k ∧ zq_F zf_CA h g ∧ zv_K1 g t K L C N cf ct pf pt U nx wo sz re fe ru cd lk (zp_set P s (P s - 1)) (zp_set Pu c (Pu c - co)) (zp_set Hd (8 * c + k) (Hd (8 * c + k) + 1)) hr (dp + 1) (zp_dq K L sz re fe ru lk cd pf pt P hr dp x c).2 (zp_up1 sl U) sP sU sH sh sd (zp_set lc (sl U) c) (zp_set lkk (sl U) k) (zp_set lh (sl U) hr) (zp_set lo (sl U) co)) := by
  obtain ⟨hC, hI, hx, hL⟩ := k1
  obtain ⟨X1, X2, hZ, hq, h0, hxb, hH, hdp, hsl, he2⟩ := hV
  refine zi_m (s_32 hC hB X1 hI hY hL hU hZ hd hc hT0 hx hxb hco (by omega) hs hk) (fun z g q => ?_)
  obtain ⟨q1, q2, q3, q4, q5⟩ := q
  exact ⟨q1, zf_Dp_CA q2, q3, hI.k7 hC.2.1.1 (fun a a1 a2 => by funext i; exact q2 a i (by unfold zf_Dp zf_Sd zf_Cs; omega)), q4, q5⟩
theorem s_248k (k2 : zv_K2 h b K L C N cf ct pf pt U uf wo sz re fe ru cd lk P Qu Hd hr dp x sl sP sQ sH sh sd lc lkk lh lo) (hB : zv_B K L C wo sz re fe ru lk) (hY : zv_Y N cd cf ct pf pt) (hV : zv_V K L C U d e P Pu Qu Hd hr dp x sl lc lkk lh lo) (he : e < 98000) {c : Nat} (hc : c < C) (hS : zv_S h L re P zp_id c) (hQ : ∀ p : Nat, p < 5 → h 185 p = p) (hT0 : 0 < zp_tot L re P c) {co : Int} (hco : co = zp_cost cd cf ct (zp_en hr (zp_left P) dp 0 0 0)) {s k : Nat} (hs : s = (zp_dq K L sz re fe ru lk cd pf pt P hr dp x c).1) (hk : k = s % 8) : zi (zc 248 [zm_A 146, zm_I c] h) (fun z g => z = k ∧ zq_F zf_Dq h g ∧ zv_K2 g b K L C N cf ct pf pt U uf wo sz re fe ru cd lk (zp_set P s (P s - 1)) (zp_set Qu c (Qu c - co)) (zp_set Hd (8 * c + k) (Hd (8 * c + k) + 1)) hr (dp + 1) (zp_dq K L sz re fe ru lk cd pf pt P hr dp x c).2 (zp_up1 sl U) sP sQ sH sh sd (zp_set lc (sl U) c) (zp_set lkk (sl U) k) (zp_set lh (sl U) hr) (zp_set lo (sl U) co)) := by
  obtain ⟨hD, hJ, hx, hM⟩ := k2
  obtain ⟨X1, X2, hZ, hq, h0, hxb, hH, hdp, hsl, he2⟩ := hV
  refine zi_m (s_248 hD hB X2 hJ hY hM hZ hc hS hQ hT0 hx hxb hco (by omega) hs hk) (fun z g q => ?_)
  obtain ⟨q1, q2, q3, q4, q5⟩ := q
  exact ⟨q1, q2, q3, hJ.kp (fun a a1 a2 => by funext i; exact q2 a i (by unfold zf_Dq; omega)), q4, q5⟩
/-- the numbers behind what is remembered -/
theorem zv_V.rem (hV : zv_V K L C U d e P Pu Qu Hd hr dp x sl lc lkk lh lo) (hU : U ≤ 20) : zv_V K L C (U + 1 - zp_sft U) 0 e P Pu Qu Hd hr dp x (zp_sl1 U sl) lc lkk lh lo := by
  obtain ⟨X1, X2, hZ, hq, h0, hxb, hH, hdp, hsl, he2⟩ := hV
  have hr := hZ.rem hU
  exact ⟨X1, X2, hr.1, hq, h0, hxb, hH, hdp, by rw [hr.2]; exact hsl, he2⟩
theorem zp_sft_pos (U : Nat) : 0 < U + 1 - zp_sft U := by unfold zp_sft; split <;> omega
theorem s_30y (k1 : zv_K1 h t K L C N cf ct pf pt U nx wo sz re fe ru cd lk P Pu Hd hr dp x sl sP sU sH sh sd lc lkk lh lo) (hB : zv_B K L C wo sz re fe ru lk) (hY : zv_Y N cd cf ct pf pt) (hV : zv_V K L C U d e P Pu Qu Hd hr dp x sl lc lkk lh lo) (he : e < 98000) {c : Nat} (hc : c < C) (hT0 : 0 < zp_tot L re P c) {co : Int} (hco : co = zp_cost cd cf ct (zp_en hr (zp_left P) dp 0 0 0)) (hcp : co ≤ Pu c) {s k : Nat} (hs : s = (zp_dq K L sz re fe ru lk cd pf pt P hr dp x c).1) (hk : k = s % 8) : zi (zc 30 [zm_A 4, zm_I c] h) (fun z g => z = k ∧ zq_F zf_CA h g ∧ zv_K1 g t K L C N cf ct pf pt (U + 1 - zp_sft U) ((nx + 1) % 20) wo sz re fe ru cd lk (zp_set P s (P s - 1)) (zp_set Pu c (Pu c - co)) (zp_set Hd (8 * c + k) (Hd (8 * c + k) + 1)) hr (dp + 1) (zp_dq K L sz re fe ru lk cd pf pt P hr dp x c).2 (zp_up1 (zp_sl1 U sl) (U + 1 - zp_sft U)) (zp_sx U sP P) (zp_sx U sU Pu) (zp_sx U sH Hd) (zp_sx U sh hr) (zp_sx U sd dp) (zp_set lc (sl U) c) (zp_set lkk (sl U) k) (zp_set lh (sl U) hr) (zp_set lo (sl U) co)) := by
  have hU20 := k1.2.2.2.2.2.2.1
  refine zt_l e_30 (zt_I (s_12 k1.1 c) ?_)
  rintro z g ⟨rfl, rfl⟩
  rw [zp_isy hc]
  refine zt_f (by decide) (zt_I (s_31 k1.1 hB hV.1 k1.2.1 hY hc hco) ?_)
  rintro z g2 ⟨rfl, f1⟩
  have e1 : (if 0 < zp_tot L re P c ∧ co ≤ Pu c then (1 : Int) else 0) = 1 := if_pos ⟨hT0, hcp⟩
  rw [e1]
  refine zt_f (by decide) (zt_V ((k1.cs f1).rem hV.2.2.1) ?_)
  rintro g3 ⟨f2, r1⟩
  have hV2 := hV.rem hU20
  have eU := (hV.2.2.1.rem hU20).2
  refine zt_I (s_32k r1 hB hY hV2 (zp_sft_pos U) (by omega) he hc hT0 hco hs hk) ?_
  rintro z g4 ⟨rfl, f3, r2⟩
  rw [eU] at r2
  exact zi_e ⟨rfl, zq_F_tr (zf_Cs_CA f1) (zq_F_tr (zf_Hi_CA f2) f3), r2⟩
theorem s_30n (hC : zv_C h t K L C wo sz re fe ru lk P Pu Hd hr dp) (hB : zv_B K L C wo sz re fe ru lk) (hX : zv_X K L C P Pu Hd hr dp) (hI : zv_I h t N cd cf ct pf pt) (hY : zv_Y N cd cf ct pf pt) {y co m : Int} (hco : co = zp_cost cd cf ct (zp_en hr (zp_left P) dp 0 0 0)) (hn : h 145 2 = m) (hb : 0 ≤ m ∧ m ≤ 1000000) (hq : ¬ zp_cdip L C re P Pu co y) : zi (zc 30 [zm_A 4, zm_I y] h) (fun z g => z = -1 ∧ ∃ g0, zq_F zf_Cs h g0 ∧ g = zm_wr g0 145 2 (m + 1)) := by
  refine zt_l e_30 (zt_I (s_12 hC y) ?_)
  rintro z g ⟨rfl, rfl⟩
  by_cases hy : 0 ≤ y ∧ y < C
  · rw [if_pos hy]
    obtain ⟨c, rfl⟩ := Int.eq_ofNat_of_zero_le hy.1
    refine zt_f (by decide) (zt_I (s_31 hC hB hX hI hY (c := c) (by omega) hco) ?_)
    rintro z g2 ⟨rfl, f1⟩
    have e1 : (if 0 < zp_tot L re P c ∧ co ≤ Pu c then (1 : Int) else 0) = 0 := if_neg (fun r => hq ⟨hy, r.1, r.2⟩)
    rw [e1]
    exact zt_t rfl (zi_m (zt_cn (w := 2) (by decide) (by rw [f1 145 _ (by unfold zf_Cs; omega)]; exact hn) hb) (fun z g q => ⟨q.1, g2, f1, q.2⟩))
  · rw [if_neg hy]
    exact zt_t rfl (zi_m (zt_cn (w := 2) (by decide) hn hb) (fun z g q => ⟨q.1, _, zq_F_rf, q.2⟩))
theorem s_246y (k2 : zv_K2 h b K L C N cf ct pf pt U uf wo sz re fe ru cd lk P Qu Hd hr dp x sl sP sQ sH sh sd lc lkk lh lo) (hB : zv_B K L C wo sz re fe ru lk) (hY : zv_Y N cd cf ct pf pt) (hV : zv_V K L C U d e P Pu Qu Hd hr dp x sl lc lkk lh lo) (he : e < 98000) {c : Nat} (hc : c < C) (hT0 : 0 < zp_tot L re P c) {co : Int} (hco : co = zp_cost cd cf ct (zp_en hr (zp_left P) dp 0 0 0)) (hcp : co ≤ Pu c) {s k : Nat} (hs : s = (zp_dq K L sz re fe ru lk cd pf pt P hr dp x c).1) (hk : k = s % 8) : ∃ uf2, zi (zc 246 [zm_A 146, zm_I c] h) (fun z g => z = k ∧ zq_F zf_DA h g ∧ zv_K2 g b K L C N cf ct pf pt (U + 1 - zp_sft U) uf2 wo sz re fe ru cd lk (zp_set P s (P s - 1)) (zp_set Qu c (Qu c - co)) (zp_set Hd (8 * c + k) (Hd (8 * c + k) + 1)) hr (dp + 1) (zp_dq K L sz re fe ru lk cd pf pt P hr dp x c).2 (zp_up1 (zp_sl1 U sl) (U + 1 - zp_sft U)) (zp_sx U sP P) (zp_sx U sQ Qu) (zp_sx U sH Hd) (zp_sx U sh hr) (zp_sx U sd dp) (zp_set lc (sl U) c) (zp_set lkk (sl U) k) (zp_set lh (sl U) hr) (zp_set lo (sl U) co)) := by
  have hU20 := k2.2.2.2.2.2.1
  have hC8 := hB.2.2.1
  have hV2 := hV.rem hU20
  have eU := (hV.2.2.1.rem hU20).2
  have eQ := hV.2.2.2.1 c hc
  refine ⟨(uf + zp_sft U) % 20, zt_l e_246 (zt_I (s_231 k2.1 hB hV.1.1 hc) ?_)⟩
  rintro z g ⟨rfl, f1, S1, o1⟩
  have k2a := k2.ds f1
  have hT1 : ¬ zq_S 8 (zp_cnt P zp_id (zp_up L P zp_id) (zp_to L P zp_id re c)) ≤ 0 := by
    have : 0 < zq_S 8 (zp_cnt P zp_id (zp_up L P zp_id) (zp_to L P zp_id re c)) := hT0
    omega
  rw [if_neg hT1]
  refine zt_f (by decide) (zt_c (by omega) (zt_I (s_207x k2a.1 hB hV.2.1 k2a.2.1 hY) ?_))
  rintro z g2 ⟨rfl, f2⟩
  rw [← hco]
  have e177 : g 177 (c : Int) = Qu c := k2a.1.2.1.2.2.1 c (by omega) c (by omega)
  rw [e177]
  have k2b := k2a.ds (zf_Lg_Ds f2)
  refine zt_f (by omega) (zt_V k2b.remx ?_)
  rintro g3 ⟨f3, r1⟩
  have S3 : zv_S g3 L re P zp_id c := S1.kp (by rw [f3 146 68 (by unfold zf_Mi; omega), f2 146 68 (by unfold zf_Lg; omega)]) (by funext i; rw [f3 186 i (by unfold zf_Mi; omega), f2 186 i (by unfold zf_Lg; omega)])
  have o3 : ∀ p : Nat, p < 5 → g3 185 p = p := fun p hp => by rw [f3 185 p (by unfold zf_Mi; omega), f2 185 p (by unfold zf_Lg; omega)]; exact o1 p hp
  refine zt_I (s_248k r1 hB hY hV2 he hc S3 o3 hT0 hco hs hk) ?_
  rintro z g4 ⟨rfl, f4, r2⟩
  rw [eU] at r2
  exact zi_e ⟨rfl, zq_F_tr (zf_Ds_DA f1) (zq_F_tr (zf_Ds_DA (zf_Lg_Ds f2)) (zq_F_tr (zf_Mi_DA f3) (zf_Dq_DA f4))), r2⟩
end
