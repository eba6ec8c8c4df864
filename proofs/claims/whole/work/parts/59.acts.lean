/-! ACTS, part 1: the state of both sides with its history; hour, put -/
def zf_CA (a : Nat) (i : Int) : Prop := (a = 4 ∧ i = 16) ∨ (a = 32 ∧ (i = 0 ∨ i = 1)) ∨ (33 ≤ a ∧ a ≤ 35) ∨ (a = 44 ∧ 3 ≤ i ∧ i ≤ 5) ∨ (46 ≤ a ∧ a ≤ 138) ∨ (141 ≤ a ∧ a ≤ 144)
def zf_DA (a : Nat) (i : Int) : Prop := (a = 146 ∧ 56 ≤ i ∧ i ≤ 68) ∨ (174 ≤ a ∧ a ≤ 187) ∨ (189 ≤ a ∧ a ≤ 192)
def zv_K1 (h : zm_H) (t K L C N cf ct pf pt U nx : Nat) (wo sz re fe ru cd : Nat → Int) (lk : Nat → Nat → Int) (P Pu Hd : Nat → Int) (hr dp x : Int) (sl : Nat → Nat) (sP sU sH : Nat → Nat → Int) (sh sd lc lkk lh lo : Nat → Int) : Prop :=
  zv_C h t K L C wo sz re fe ru lk P Pu Hd hr dp ∧ zv_I h t N cd cf ct pf pt ∧ h 4 16 = x ∧ zv_L h U nx sl sP sU sH sh sd lc lkk lh lo
def zv_K2 (h : zm_H) (b K L C N cf ct pf pt U uf : Nat) (wo sz re fe ru cd : Nat → Int) (lk : Nat → Nat → Int) (P Qu Hd : Nat → Int) (hr dp x : Int) (sl : Nat → Nat) (sP sQ sH : Nat → Nat → Int) (sh sd lc lkk lh lo : Nat → Int) : Prop :=
  zv_D h b K L C wo sz re fe ru lk P Qu Hd hr dp ∧ zv_J h b N cd cf ct pf pt ∧ h 146 58 = x ∧ zv_M h U uf sl sP sQ sH sh sd lc lkk lh lo
/-- behind an act that began in this state -/
abbrev zv_R1 (g : zm_H) (t K L C N cf ct pf pt U nx : Nat) (wo sz re fe ru cd : Nat → Int) (lk : Nat → Nat → Int) (P Pu Hd : Nat → Int) (hr dp : Int) (sl : Nat → Nat) (sP sU sH : Nat → Nat → Int) (sh sd lc lkk lh lo : Nat → Int) (P' Pu' Hd' : Nat → Int) (hr' dp' x' : Int) : Prop :=
  zv_K1 g t K L C N cf ct pf pt (U + 1 - zp_sft U) ((nx + 1) % 20) wo sz re fe ru cd lk P' Pu' Hd' hr' dp' x' (zp_sl1 U sl) (zp_sx U sP P) (zp_sx U sU Pu) (zp_sx U sH Hd) (zp_sx U sh hr) (zp_sx U sd dp) lc lkk lh lo
abbrev zv_R2 (g : zm_H) (b K L C N cf ct pf pt U uf2 : Nat) (wo sz re fe ru cd : Nat → Int) (lk : Nat → Nat → Int) (P Qu Hd : Nat → Int) (hr dp : Int) (sl : Nat → Nat) (sP sQ sH : Nat → Nat → Int) (sh sd lc lkk lh lo : Nat → Int) (P' Qu' Hd' : Nat → Int) (hr' dp' x' : Int) : Prop :=
  zv_K2 g b K L C N cf ct pf pt (U + 1 - zp_sft U) uf2 wo sz re fe ru cd lk P' Qu' Hd' hr' dp' x' (zp_sl1 U sl) (zp_sx U sP P) (zp_sx U sQ Qu) (zp_sx U sH Hd) (zp_sx U sh hr) (zp_sx U sd dp) lc lkk lh lo
theorem zp_wrs {h : zm_H} {a n j : Nat} {f : Nat → Int} {v : Int} (hf : ∀ i : Nat, i < n → h a i = f i) : ∀ i : Nat, i < n → zm_wr h a j v a i = zp_set f j v i := fun i hi => by
  unfold zp_set
  by_cases hq : i = j
  · subst hq; rw [zq_wr_e, if_pos rfl]
  · rw [zq_wr_i (by omega), if_neg hq]; exact hf i hi
theorem zp_isy {n c : Nat} (h : c < n) : (if 0 ≤ (c : Int) ∧ (c : Int) < n then (1 : Int) else 0) = 1 := if_pos (by omega)
section
variable {h : zm_H} {t b K L C N cf ct pf pt U nx uf d : Nat} {wo sz re fe ru cd : Nat → Int} {lk : Nat → Nat → Int} {P Pu Qu Hd : Nat → Int} {hr dp x : Int} {sl : Nat → Nat} {sP sU sQ sH : Nat → Nat → Int} {sh sd lc lkk lh lo : Nat → Int}
theorem s_2 {w : Nat} {n : Int} (hw : w < 6) (hn : h 145 w = n) (hb : 0 ≤ n ∧ n ≤ 1000000) : zi (zc 2 [zm_A 4, zm_I w] h) (fun z g => z = -1 ∧ g = zm_wr h 145 w (n + 1)) := by
  refine zt_l e_2 ?_
  rw [hn]
  exact zt_c (by omega) (zt_c (by omega) (zt_c (by omega) (zi_e ⟨rfl, rfl⟩)))
theorem s_4 {w : Nat} {n : Int} (hw : w < 6) (hn : h 145 w = n) (hb : 0 ≤ n ∧ n ≤ 1000000) : zi (zc 4 [zm_A 4, zm_I w] h) (fun z g => z = 0 ∧ g = zm_wr h 145 w (n + 1)) := by
  refine zt_l e_4 ?_
  rw [hn]
  exact zt_c (by omega) (zt_c (by omega) (zt_c (by omega) (zt_c (Or.inl rfl) (zi_e ⟨rfl, rfl⟩))))
theorem s_155 {w : Nat} {n : Int} (hw : w < 6) (hn : h 173 w = n) (hb : 0 ≤ n ∧ n ≤ 1000000) : zi (zc 155 [zm_A 146, zm_I w] h) (fun z g => z = -1 ∧ g = zm_wr h 173 w (n + 1)) := by
  refine zt_l e_155 ?_
  rw [hn]
  exact zt_c (by omega) (zt_c (by omega) (zt_c (by omega) (zi_e ⟨rfl, rfl⟩)))
/-- the reference's way of refusing with false -/
theorem zt_rf {w : Nat} {n : Int} (hw : w < 6) (hn : h 173 w = n) (hb : 0 ≤ n ∧ n ≤ 1000000) : zi (zk_I (zc 155 [zm_A 146, zm_I w] h) (fun v1 h2 => if v1 < 0 then (zm_ck (zm_bit 0) (some (zm_I 0, h2))) else (zm_ck (zm_bit 1) (some (zm_I 1, h2))))) (fun z g => z = 0 ∧ g = zm_wr h 173 w (n + 1)) := by
  refine zt_I (s_155 hw hn hb) ?_
  rintro z g ⟨rfl, rfl⟩
  exact zt_t (by decide) (zt_c (Or.inl rfl) (zi_e ⟨rfl, rfl⟩))
theorem zt_rn {w : Nat} {n : Int} (hw : w < 6) (hn : h 173 w = n) (hb : 0 ≤ n ∧ n ≤ 1000000) : zi (zk_I (zc 155 [zm_A 146, zm_I w] h) (fun v1 h2 => some (zm_I v1, h2))) (fun z g => z = -1 ∧ g = zm_wr h 173 w (n + 1)) := by
  refine zt_I (s_155 hw hn hb) ?_
  rintro z g ⟨rfl, rfl⟩
  exact zi_e ⟨rfl, rfl⟩
theorem zt_cn {w : Nat} {n : Int} (hw : w < 6) (hn : h 145 w = n) (hb : 0 ≤ n ∧ n ≤ 1000000) : zi (zk_I (zc 2 [zm_A 4, zm_I w] h) (fun v1 h2 => some (zm_I v1, h2))) (fun z g => z = -1 ∧ g = zm_wr h 145 w (n + 1)) := by
  refine zt_I (s_2 hw hn hb) ?_
  rintro z g ⟨rfl, rfl⟩
  exact zi_e ⟨rfl, rfl⟩
theorem zt_cf {w : Nat} {n : Int} (hw : w < 6) (hn : h 145 w = n) (hb : 0 ≤ n ∧ n ≤ 1000000) : zi (zk_I (zc 4 [zm_A 4, zm_I w] h) (fun v1 h2 => zm_ck (zm_bit v1) (some (zm_I v1, h2)))) (fun z g => z = 0 ∧ g = zm_wr h 145 w (n + 1)) := by
  refine zt_I (s_4 hw hn hb) ?_
  rintro z g ⟨rfl, rfl⟩
  exact zt_c (Or.inl rfl) (zi_e ⟨rfl, rfl⟩)
theorem zv_C.hi {g : zm_H} (hC : zv_C h t K L C wo sz re fe ru lk P Pu Hd hr dp) (hg : zq_F zf_Hi h g) : zv_C g t K L C wo sz re fe ru lk P Pu Hd hr dp := by
  have kp : ∀ a : Nat, a < 44 → g a = h a := fun a ha => by funext i; exact hg a i (by unfold zf_Hi; omega)
  obtain ⟨h1, h2, h3, h4, h5⟩ := hC
  exact ⟨by rw [kp 4 (by omega)]; exact h1, h2.kp (fun a ha => kp a (by omega)), h3.kq (kp _ (by omega)) (kp _ (by omega)) (kp _ (by omega)), by rw [kp 32 (by omega)]; exact h4, by rw [kp 32 (by omega)]; exact h5⟩
theorem zv_D.mi {g : zm_H} (hD : zv_D h b K L C wo sz re fe ru lk P Qu Hd hr dp) (hg : zq_F zf_Mi h g) : zv_D g b K L C wo sz re fe ru lk P Qu Hd hr dp := by
  obtain ⟨h1, h2, h3, h4⟩ := hD
  exact ⟨h1.kp (hg 146 13 (by unfold zf_Mi; omega)) (fun a q1 q2 => by funext i; exact hg a i (by unfold zf_Mi; omega)), h2.kv (fun i q1 q2 => hg 176 i (by unfold zf_Mi; omega)) (fun i q1 q2 => hg 177 i (by unfold zf_Mi; omega)) (fun i q1 q2 => hg 178 i (by unfold zf_Mi; omega)), by rw [hg 174 0 (by unfold zf_Mi; omega)]; exact h3, by rw [hg 175 0 (by unfold zf_Mi; omega)]; exact h4⟩
theorem zv_K1.rem (k1 : zv_K1 h t K L C N cf ct pf pt U nx wo sz re fe ru cd lk P Pu Hd hr dp x sl sP sU sH sh sd lc lkk lh lo) (hZ : zv_Z U d sl lc lkk lh lo) : zu (zc 69 [zm_A 44, zm_A 32] h) (fun g => zq_F zf_Hi h g ∧ zv_R1 g t K L C N cf ct pf pt U nx wo sz re fe ru cd lk P Pu Hd hr dp sl sP sU sH sh sd lc lkk lh lo P Pu Hd hr dp x) := by
  obtain ⟨hC, hI, hx, hL⟩ := k1
  refine zu_m (s_69 hL hC.2.2.1 hC.2.2.2.1 hC.2.2.2.2 hZ) (fun g q => ⟨q.1, hC.hi q.1, hI.kp hC.2.1.1 (fun a ha => by funext i; exact q.1 a i (by unfold zf_Hi; omega)), ?_, q.2⟩)
  rw [q.1 4 16 (by unfold zf_Hi; omega)]; exact hx
theorem zv_K2.rem (k2 : zv_K2 h b K L C N cf ct pf pt U uf wo sz re fe ru cd lk P Qu Hd hr dp x sl sP sQ sH sh sd lc lkk lh lo) : ∃ uf2, zu (zc 247 [zm_A 146] h) (fun g => zq_F zf_Mi h g ∧ zv_R2 g b K L C N cf ct pf pt U uf2 wo sz re fe ru cd lk P Qu Hd hr dp sl sP sQ sH sh sd lc lkk lh lo P Qu Hd hr dp x) := by
  obtain ⟨hD, hJ, hx, hM⟩ := k2
  obtain ⟨uf2, hu⟩ := s_247 hM hD.2.1 hD.2.2.1 hD.2.2.2
  refine ⟨uf2, zu_m hu (fun g q => ⟨q.1, hD.mi q.1, hJ.kp (fun a q1 q2 => by funext i; exact q.1 a i (by unfold zf_Mi; omega)), ?_, q.2⟩)⟩
  rw [q.1 146 58 (by unfold zf_Mi; omega)]; exact hx
theorem zf_Hi_CA {g : zm_H} (hg : zq_F zf_Hi h g) : zq_F zf_CA h g := zq_F_wk hg (fun a i q => by unfold zf_Hi at q; unfold zf_CA; omega)
theorem zf_Mi_DA {g : zm_H} (hg : zq_F zf_Mi h g) : zq_F zf_DA h g := zq_F_wk hg (fun a i q => by unfold zf_Mi at q; unfold zf_DA; omega)
/-- the class's state when its tub has changed -/
theorem zv_K1.tub {g : zm_H} {P' Pu' Hd' : Nat → Int} {hr' dp' : Int} (k1 : zv_K1 h t K L C N cf ct pf pt U nx wo sz re fe ru cd lk P Pu Hd hr dp x sl sP sU sH sh sd lc lkk lh lo) (hg : zq_F (fun a i => (a = 32 ∧ (i = 0 ∨ i = 1)) ∨ (33 ≤ a ∧ a ≤ 35)) h g) (h1 : ∀ i : Nat, i < 40 → g 33 i = P' i) (h2 : ∀ i : Nat, i < 8 → g 34 i = Pu' i) (h3 : ∀ i : Nat, i < 64 → g 35 i = Hd' i) (h4 : g 32 0 = hr') (h5 : g 32 1 = dp') : zv_K1 g t K L C N cf ct pf pt U nx wo sz re fe ru cd lk P' Pu' Hd' hr' dp' x sl sP sU sH sh sd lc lkk lh lo := by
  obtain ⟨⟨c1, c2, c3, c4, c5⟩, hI, hx, hL⟩ := k1
  have kp : ∀ a : Nat, a < 32 ∨ 35 < a → g a = h a := fun a ha => by funext i; exact hg a i (by omega)
  exact ⟨⟨by rw [kp 4 (by omega)]; exact c1, c2.kp (fun a ha => kp a (by omega)), ⟨zf_T_32, h1, h2, h3⟩, h4, h5⟩, hI.kp c2.1 (fun a ha => kp a (by omega)), by rw [kp 4 (by omega)]; exact hx, hL.kp (fun i q1 q2 => by rw [kp 44 (by omega)]) (fun a q1 q2 => kp a (by omega))⟩
theorem zv_K2.tub {g : zm_H} {P' Qu' Hd' : Nat → Int} {hr' dp' : Int} (k2 : zv_K2 h b K L C N cf ct pf pt U uf wo sz re fe ru cd lk P Qu Hd hr dp x sl sP sQ sH sh sd lc lkk lh lo) (hg : zq_F (fun a i => ((a = 174 ∨ a = 175) ∧ i = 0) ∨ (a = 176 ∧ 0 ≤ i ∧ i < 40) ∨ (a = 177 ∧ 0 ≤ i ∧ i < 8) ∨ (a = 178 ∧ 0 ≤ i ∧ i < 64)) h g) (h1 : ∀ i : Nat, i < 40 → g 176 i = P' i) (h2 : ∀ i : Nat, i < 8 → g 177 i = Qu' i) (h3 : ∀ i : Nat, i < 64 → g 178 i = Hd' i) (h4 : g 174 0 = hr') (h5 : g 175 0 = dp') : zv_K2 g b K L C N cf ct pf pt U uf wo sz re fe ru cd lk P' Qu' Hd' hr' dp' x sl sP sQ sH sh sd lc lkk lh lo := by
  obtain ⟨⟨d1, d2, d3, d4⟩, hJ, hx, M1, M2, M3, M4, M5, M6⟩ := k2
  have kp : ∀ a : Nat, a < 174 ∨ 178 < a → g a = h a := fun a ha => by funext i; exact hg a i (by omega)
  refine ⟨⟨d1.kp (by rw [kp 146 (by omega)]) (fun a q1 q2 => kp a (by omega)), ⟨by decide, fun i hi j hj => by rw [show j = (i : Int) by omega]; exact h1 i hi, fun i hi j hj => by rw [show j = (i : Int) by omega]; exact h2 i hi, fun i hi j hj => by rw [show j = (i : Int) by omega]; exact h3 i hi⟩, h4, h5⟩, hJ.kp (fun a q1 q2 => kp a (by omega)), by rw [kp 146 (by omega)]; exact hx, by rw [kp 146 (by omega)]; exact M1, by rw [kp 146 (by omega)]; exact M2, M3, M4, M5.kp (fun a q1 q2 => kp a (by omega)), fun i v hi hv => ?_⟩
  obtain ⟨r1, r2, r3, r4⟩ := M6 i v hi hv
  exact ⟨r1.kv (fun q a1 a2 => hg 176 q (by omega)) (fun q a1 a2 => hg 177 q (by omega)) (fun q a1 a2 => hg 178 q (by omega)), by rw [hg 174 v (by omega)]; exact r2, by rw [hg 175 v (by omega)]; exact r3, r4.kp (fun a q1 q2 => kp a (by omega))⟩
theorem s_36y (k1 : zv_K1 h t K L C N cf ct pf pt U nx wo sz re fe ru cd lk P Pu Hd hr dp x sl sP sU sH sh sd lc lkk lh lo) (hZ : zv_Z U d sl lc lkk lh lo) (hq : 0 ≤ hr ∧ hr < 99) : zi (zc 36 [zm_A 4] h) (fun z g => z = hr + 1 ∧ zq_F zf_CA h g ∧ zv_R1 g t K L C N cf ct pf pt U nx wo sz re fe ru cd lk P Pu Hd hr dp sl sP sU sH sh sd lc lkk lh lo P Pu Hd (hr + 1) dp x) := by
  refine zt_l e_36 (zt_t (by rw [k1.1.2.2.2.1]; exact hq.2) (zt_V (k1.rem hZ) ?_))
  rintro g ⟨f1, r1⟩
  have c3 := r1.1.2.2.1
  rw [r1.1.2.2.2.1]
  refine zt_c (by omega) (zi_e ⟨zq_wr_e, zq_F_tr (zf_Hi_CA f1) (zq_F_wr (by unfold zf_CA; omega)), r1.tub (zq_F_wr (by omega)) (fun i hi => ?_) (fun i hi => ?_) (fun i hi => ?_) zq_wr_e ?_⟩)
  · rw [zq_wr_n (by decide)]; exact c3.2.1 i hi
  · rw [zq_wr_n (by decide)]; exact c3.2.2.1 i hi
  · rw [zq_wr_n (by decide)]; exact c3.2.2.2 i hi
  · rw [zq_wr_i (by decide)]; exact r1.1.2.2.2.2
theorem s_36n {n : Int} (h0 : h 32 0 = hr) (hn : h 145 3 = n) (hb : 0 ≤ n ∧ n ≤ 1000000) (hq : ¬ hr < 99) : zi (zc 36 [zm_A 4] h) (fun z g => z = -1 ∧ g = zm_wr h 145 3 (n + 1)) := by
  exact zt_l e_36 (zt_f (by rw [h0]; exact hq) (zt_cn (w := 3) (by decide) hn hb))
theorem s_253y (k2 : zv_K2 h b K L C N cf ct pf pt U uf wo sz re fe ru cd lk P Qu Hd hr dp x sl sP sQ sH sh sd lc lkk lh lo) (hq : 0 ≤ hr ∧ hr < 99) : ∃ uf2, zi (zc 253 [zm_A 146] h) (fun z g => z = hr + 1 ∧ zq_F zf_DA h g ∧ zv_R2 g b K L C N cf ct pf pt U uf2 wo sz re fe ru cd lk P Qu Hd hr dp sl sP sQ sH sh sd lc lkk lh lo P Qu Hd (hr + 1) dp x) := by
  obtain ⟨uf2, hu⟩ := k2.rem
  refine ⟨uf2, zt_l e_253 (zt_c (by decide) (zt_f (by rw [k2.1.2.2.1]; omega) (zt_V hu ?_)))⟩
  rintro g ⟨f1, r1⟩
  have c3 := r1.1.2.1
  rw [r1.1.2.2.1]
  refine zt_c (by decide) (zt_c (by omega) (zt_c (by decide) (zt_c (by decide) (zi_e ⟨zq_wr_e, zq_F_tr (zf_Mi_DA f1) (zq_F_wr (by unfold zf_DA; omega)), r1.tub (zq_F_wr (by omega)) (fun i hi => ?_) (fun i hi => ?_) (fun i hi => ?_) zq_wr_e ?_⟩))))
  · rw [zq_wr_n (by decide)]; exact c3.2.1 i hi i (by omega)
  · rw [zq_wr_n (by decide)]; exact c3.2.2.1 i hi i (by omega)
  · rw [zq_wr_n (by decide)]; exact c3.2.2.2 i hi i (by omega)
  · rw [zq_wr_n (by decide)]; exact r1.1.2.2.2
theorem s_253n {n : Int} (h0 : h 174 0 = hr) (hn : h 173 3 = n) (hb : 0 ≤ n ∧ n ≤ 1000000) (hq : hr = 99) : zi (zc 253 [zm_A 146] h) (fun z g => z = -1 ∧ g = zm_wr h 173 3 (n + 1)) := by
  exact zt_l e_253 (zt_c (by decide) (zt_t (by rw [h0]; exact hq) (zt_rn (w := 3) (by decide) hn hb)))
/-- what can be put -/
def zp_cput (K L : Nat) (P : Nat → Int) (x y n : Int) : Prop := (0 ≤ x ∧ x < L) ∧ (0 ≤ y ∧ y < K) ∧ (1 ≤ n ∧ n ≤ 30) ∧ P (8 * x.toNat + y.toNat) + n ≤ 99
theorem s_37y (k1 : zv_K1 h t K L C N cf ct pf pt U nx wo sz re fe ru cd lk P Pu Hd hr dp x sl sP sU sH sh sd lc lkk lh lo) (hZ : zv_Z U d sl lc lkk lh lo) (hB : zv_B K L C wo sz re fe ru lk) (hP : zv_P K L P) {l k : Nat} {n : Int} (hl : l < L) (hk : k < K) (hn : 1 ≤ n ∧ n ≤ 30) (hs : P (8 * l + k) + n ≤ 99) : zi (zc 37 [zm_A 4, zm_I l, zm_I k, zm_I n] h) (fun z g => z = P (8 * l + k) + n ∧ zq_F zf_CA h g ∧ zv_R1 g t K L C N cf ct pf pt U nx wo sz re fe ru cd lk P Pu Hd hr dp sl sP sU sH sh sd lc lkk lh lo (zp_set P (8 * l + k) (P (8 * l + k) + n)) Pu Hd hr dp x) := by
  have hK8 := hB.1
  have hL5 := hB.2.1
  have bP := hP.1 (8 * l + k) (by omega)
  refine zt_l e_37 (zt_I (s_15 k1.1 l) ?_)
  rintro z g ⟨rfl, rfl⟩
  rw [zp_isy hl]
  refine zt_f (by decide) (zt_I (s_11 k1.1 k) ?_)
  rintro z g ⟨rfl, rfl⟩
  rw [zp_isy hk]
  have ei : (l : Int) * 8 + k = ((8 * l + k : Nat) : Int) := by omega
  have e33 : ∀ g2, zv_C g2 t K L C wo sz re fe ru lk P Pu Hd hr dp → g2 33 ((8 * l + k : Nat) : Int) = P (8 * l + k) := fun g2 q => q.2.2.1.2.1 _ (by omega)
  rw [ei, e33 _ k1.1]
  refine zt_f (by decide) (zt_f (by omega) (zt_t hn.2 (zt_c (by omega) (zt_c (by omega) (zt_c (by omega) (zt_c (by omega) (zt_t hs (zt_V (k1.rem hZ) ?_))))))))
  rintro g2 ⟨f1, r1⟩
  have c3 := r1.1.2.2.1
  rw [e33 _ r1.1]
  refine zt_c (by omega) (zt_c (by omega) (zt_c (by omega) (zt_c (by omega) (zi_e ⟨zq_wr_e, zq_F_tr (zf_Hi_CA f1) (zq_F_wr (by unfold zf_CA; omega)), r1.tub (zq_F_wr (by omega)) (zp_wrs c3.2.1) (fun i hi => ?_) (fun i hi => ?_) ?_ ?_⟩))))
  · rw [zq_wr_n (by decide)]; exact c3.2.2.1 i hi
  · rw [zq_wr_n (by decide)]; exact c3.2.2.2 i hi
  · rw [zq_wr_n (by decide)]; exact r1.1.2.2.2.1
  · rw [zq_wr_n (by decide)]; exact r1.1.2.2.2.2
theorem s_37n (hC : zv_C h t K L C wo sz re fe ru lk P Pu Hd hr dp) (hB : zv_B K L C wo sz re fe ru lk) (hP : zv_P K L P) {y q n m : Int} (hn : h 145 3 = m) (hb : 0 ≤ m ∧ m ≤ 1000000) (hc : ¬ zp_cput K L P y q n) : zi (zc 37 [zm_A 4, zm_I y, zm_I q, zm_I n] h) (fun z g => z = -1 ∧ g = zm_wr h 145 3 (m + 1)) := by
  have hK8 := hB.1
  have hL5 := hB.2.1
  refine zt_l e_37 (zt_I (s_15 hC y) ?_)
  rintro z g ⟨rfl, rfl⟩
  by_cases hy : 0 ≤ y ∧ y < L
  · rw [if_pos hy]
    refine zt_f (by decide) (zt_I (s_11 hC q) ?_)
    rintro z g ⟨rfl, rfl⟩
    by_cases hk : 0 ≤ q ∧ q < K
    · rw [if_pos hk]
      refine zt_f (by decide) (zt_p (fun _ => zt_cn (w := 3) (by decide) hn hb) (fun c1 => zt_p (fun c2 => ?_) (fun _ => zt_cn (w := 3) (by decide) hn hb)))
      obtain ⟨l, rfl⟩ := Int.eq_ofNat_of_zero_le hy.1
      obtain ⟨k, rfl⟩ := Int.eq_ofNat_of_zero_le hk.1
      have bP := hP.1 (8 * l + k) (by omega)
      have ei : (l : Int) * 8 + k = ((8 * l + k : Nat) : Int) := by omega
      have e33 : g 33 ((8 * l + k : Nat) : Int) = P (8 * l + k) := hC.2.2.1.2.1 _ (by omega)
      rw [ei, e33]
      refine zt_c (by omega) (zt_c (by omega) (zt_c (by omega) (zt_c (by omega) (zt_f (fun c3 => hc ⟨hy, hk, ⟨by omega, c2⟩, c3⟩) (zt_cn (w := 3) (by decide) hn hb)))))
    · rw [if_neg hk]
      exact zt_t rfl (zt_cn (w := 3) (by decide) hn hb)
  · rw [if_neg hy]
    exact zt_t rfl (zt_cn (w := 3) (by decide) hn hb)
theorem s_254y (k2 : zv_K2 h b K L C N cf ct pf pt U uf wo sz re fe ru cd lk P Qu Hd hr dp x sl sP sQ sH sh sd lc lkk lh lo) (hB : zv_B K L C wo sz re fe ru lk) (hP : zv_P K L P) {l k : Nat} {n : Int} (hl : l < L) (hk : k < K) (hn : 1 ≤ n ∧ n ≤ 30) (hs : P (8 * l + k) + n ≤ 99) : ∃ uf2, zi (zc 254 [zm_A 146, zm_I l, zm_I k, zm_I n] h) (fun z g => z = P (8 * l + k) + n ∧ zq_F zf_DA h g ∧ zv_R2 g b K L C N cf ct pf pt U uf2 wo sz re fe ru cd lk P Qu Hd hr dp sl sP sQ sH sh sd lc lkk lh lo (zp_set P (8 * l + k) (P (8 * l + k) + n)) Qu Hd hr dp x) := by
  have hK8 := hB.1
  have hL5 := hB.2.1
  have bP := hP.1 (8 * l + k) (by omega)
  obtain ⟨uf2, hu⟩ := k2.rem
  refine ⟨uf2, zt_l e_254 (zt_I (s_221 k2.1.1 l) ?_)⟩
  rintro z g ⟨rfl, rfl⟩
  rw [zp_isy hl]
  refine zt_f (by decide) (zt_I (s_218 k2.1.1 k) ?_)
  rintro z g ⟨rfl, rfl⟩
  rw [zp_isy hk]
  refine zt_f (by decide) (zt_I (s_175 n 1 30) ?_)
  rintro z g ⟨rfl, rfl⟩
  rw [if_pos hn]
  refine zt_f (by decide) (zt_I (s_206 (v := 0) (l := l) (k := k) k2.1.2.1 (by omega) (by omega)) ?_)
  rintro z g ⟨rfl, rfl⟩
  refine zt_c (by omega) (zt_t (by omega) (zt_V hu ?_))
  rintro g2 ⟨f1, r1⟩
  have c3 := r1.1.2.1
  have ei : 8 * (l : Int) + k = ((8 * l + k : Nat) : Int) := by omega
  have e176 : g2 176 ((8 * l + k : Nat) : Int) = P (8 * l + k) := c3.2.1 _ (by omega) _ (by omega)
  rw [ei, e176]
  have fin : zv_R2 (zm_wr g2 176 ((8 * l + k : Nat) : Int) (P (8 * l + k) + n)) b K L C N cf ct pf pt U uf2 wo sz re fe ru cd lk P Qu Hd hr dp sl sP sQ sH sh sd lc lkk lh lo (zp_set P (8 * l + k) (P (8 * l + k) + n)) Qu Hd hr dp x := by
    refine r1.tub (zq_F_wr (by omega)) (zp_wrs (fun i hi => c3.2.1 i hi i (by omega))) (fun i hi => ?_) (fun i hi => ?_) ?_ ?_
    · rw [zq_wr_n (by decide)]; exact c3.2.2.1 i hi i (by omega)
    · rw [zq_wr_n (by decide)]; exact c3.2.2.2 i hi i (by omega)
    · rw [zq_wr_n (by decide)]; exact r1.1.2.2.1
    · rw [zq_wr_n (by decide)]; exact r1.1.2.2.2
  refine zt_c (by omega) (zt_c (by omega) (zt_c (by omega) (zt_c (by omega) (zt_c (by omega) (zt_I (s_206 (v := 0) (l := l) (k := k) fin.1.2.1 (by omega) (by omega)) ?_)))))
  rintro z g3 ⟨rfl, rfl⟩
  refine zi_e ⟨?_, zq_F_tr (zf_Mi_DA f1) (zq_F_wr (by unfold zf_DA; omega)), fin⟩
  unfold zp_set
  rw [if_pos rfl]
theorem s_254n (hD : zv_D h b K L C wo sz re fe ru lk P Qu Hd hr dp) (hB : zv_B K L C wo sz re fe ru lk) (hP : zv_P K L P) {y q n m : Int} (hn : h 173 3 = m) (hb : 0 ≤ m ∧ m ≤ 1000000) (hc : ¬ zp_cput K L P y q n) : zi (zc 254 [zm_A 146, zm_I y, zm_I q, zm_I n] h) (fun z g => z = -1 ∧ g = zm_wr h 173 3 (m + 1)) := by
  have hK8 := hB.1
  have hL5 := hB.2.1
  refine zt_l e_254 (zt_I (s_221 hD.1 y) ?_)
  rintro z g ⟨rfl, rfl⟩
  by_cases hy : 0 ≤ y ∧ y < L
  · rw [if_pos hy]
    refine zt_f (by decide) (zt_I (s_218 hD.1 q) ?_)
    rintro z g ⟨rfl, rfl⟩
    by_cases hk : 0 ≤ q ∧ q < K
    · rw [if_pos hk]
      refine zt_f (by decide) (zt_I (s_175 n 1 30) ?_)
      rintro z g ⟨rfl, rfl⟩
      by_cases h30 : 1 ≤ n ∧ n ≤ 30
      · rw [if_pos h30]
        obtain ⟨l, rfl⟩ := Int.eq_ofNat_of_zero_le hy.1
        obtain ⟨k, rfl⟩ := Int.eq_ofNat_of_zero_le hk.1
        have bP := hP.1 (8 * l + k) (by omega)
        refine zt_f (by decide) (zt_I (s_206 (v := 0) (l := l) (k := k) hD.2.1 (by omega) (by omega)) ?_)
        rintro z g ⟨rfl, rfl⟩
        exact zt_c (by omega) (zt_f (fun c3 => hc ⟨hy, hk, h30, by show P (8 * l + k) + n ≤ 99; omega⟩) (zt_rn (w := 3) (by decide) hn hb))
      · rw [if_neg h30]
        exact zt_t rfl (zt_rn (w := 3) (by decide) hn hb)
    · rw [if_neg hk]
      exact zt_t rfl (zt_rn (w := 3) (by decide) hn hb)
  · rw [if_neg hy]
    exact zt_t rfl (zt_rn (w := 3) (by decide) hn hb)
end
