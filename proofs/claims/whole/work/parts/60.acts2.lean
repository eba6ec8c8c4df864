/-! ACTS, part 2: back, swap, seed, undo, kept -/
/-- who has one -/
def zp_cow (K C : Nat) (Hd : Nat → Int) (x y : Int) : Prop := (0 ≤ x ∧ x < C) ∧ (0 ≤ y ∧ y < K) ∧ 0 < Hd (8 * x.toNat + y.toNat)
def zp_cbk (K L C : Nat) (P Hd : Nat → Int) (x y : Int) : Prop := zp_cow K C Hd x y ∧ L ≠ 0 ∧ P y.toNat < 99
def zp_csw (K C : Nat) (Hd : Nat → Int) (x y o w : Int) : Prop := x ≠ o ∧ zp_cow K C Hd x y ∧ zp_cow K C Hd o w
/-- what is had behind a swap -/
def zp_swp (Hd : Nat → Int) (c k o w : Nat) : Nat → Int :=
  let H1 := zp_set Hd (8 * c + k) (Hd (8 * c + k) - 1)
  let H2 := zp_set H1 (8 * o + k) (H1 (8 * o + k) + 1)
  let H3 := zp_set H2 (8 * o + w) (H2 (8 * o + w) - 1)
  zp_set H3 (8 * c + w) (H3 (8 * c + w) + 1)
section
variable {h : zm_H} {t b K L C N cf ct pf pt U nx uf d : Nat} {wo sz re fe ru cd : Nat → Int} {lk : Nat → Nat → Int} {P Pu Qu Hd : Nat → Int} {hr dp x : Int} {sl : Nat → Nat} {sP sU sQ sH : Nat → Nat → Int} {sh sd lc lkk lh lo : Nat → Int}
theorem s_39y (hC : zv_C h t K L C wo sz re fe ru lk P Pu Hd hr dp) (hB : zv_B K L C wo sz re fe ru lk) {c k : Nat} (hc : c < C) (hk : k < K) (hs : 0 < Hd (8 * c + k)) : zi (zc 39 [zm_A 4, zm_I c, zm_I k] h) (fun z g => z = 1 ∧ g = h) := by
  have hK8 := hB.1
  have hC8 := hB.2.2.1
  refine zt_l e_39 (zt_I (s_12 hC c) ?_)
  rintro z g ⟨rfl, rfl⟩
  rw [zp_isy hc]
  refine zt_f (by decide) (zt_I (s_11 hC k) ?_)
  rintro z g ⟨rfl, rfl⟩
  rw [zp_isy hk]
  have ei : (c : Int) * 8 + k = ((8 * c + k : Nat) : Int) := by omega
  have e35 : g 35 ((8 * c + k : Nat) : Int) = Hd (8 * c + k) := hC.2.2.1.2.2.2 _ (by omega)
  rw [ei, e35]
  exact zt_f (by decide) (zt_c (by omega) (zt_c (by omega) (zt_c (by omega) (zt_f (by omega) (zt_c (Or.inr rfl) (zi_e ⟨rfl, rfl⟩))))))
theorem s_39n (hC : zv_C h t K L C wo sz re fe ru lk P Pu Hd hr dp) (hB : zv_B K L C wo sz re fe ru lk) {y q : Int} (hs : ¬ zp_cow K C Hd y q) : zi (zc 39 [zm_A 4, zm_I y, zm_I q] h) (fun z g => z = 0 ∧ g = h) := by
  have hK8 := hB.1
  have hC8 := hB.2.2.1
  refine zt_l e_39 (zt_I (s_12 hC y) ?_)
  rintro z g ⟨rfl, rfl⟩
  by_cases hy : 0 ≤ y ∧ y < C
  · rw [if_pos hy]
    refine zt_f (by decide) (zt_I (s_11 hC q) ?_)
    rintro z g ⟨rfl, rfl⟩
    by_cases hk : 0 ≤ q ∧ q < K
    · rw [if_pos hk]
      obtain ⟨c, rfl⟩ := Int.eq_ofNat_of_zero_le hy.1
      obtain ⟨k, rfl⟩ := Int.eq_ofNat_of_zero_le hk.1
      have ei : (c : Int) * 8 + k = ((8 * c + k : Nat) : Int) := by omega
      have e35 : g 35 ((8 * c + k : Nat) : Int) = Hd (8 * c + k) := hC.2.2.1.2.2.2 _ (by omega)
      rw [ei, e35]
      have hn : ¬ 0 < Hd (8 * c + k) := fun q => hs ⟨hy, hk, q⟩
      exact zt_f (by decide) (zt_c (by omega) (zt_c (by omega) (zt_c (by omega) (zt_t (by omega) (zt_c (Or.inl rfl) (zi_e ⟨rfl, rfl⟩))))))
    · rw [if_neg hk]
      exact zt_t rfl (zt_c (Or.inl rfl) (zi_e ⟨rfl, rfl⟩))
  · rw [if_neg hy]
    exact zt_t rfl (zt_c (Or.inl rfl) (zi_e ⟨rfl, rfl⟩))
theorem s_38y (k1 : zv_K1 h t K L C N cf ct pf pt U nx wo sz re fe ru cd lk P Pu Hd hr dp x sl sP sU sH sh sd lc lkk lh lo) (hZ : zv_Z U d sl lc lkk lh lo) (hB : zv_B K L C wo sz re fe ru lk) (hX : zv_X K L C P Pu Hd hr dp) {c k : Nat} (hc : c < C) (hk : k < K) (hs : 0 < Hd (8 * c + k)) (hL0 : L ≠ 0) (h99 : P k < 99) : zi (zc 38 [zm_A 4, zm_I c, zm_I k] h) (fun z g => z = 1 ∧ zq_F zf_CA h g ∧ zv_R1 g t K L C N cf ct pf pt U nx wo sz re fe ru cd lk P Pu Hd hr dp sl sP sU sH sh sd lc lkk lh lo (zp_set P k (P k + 1)) Pu (zp_set Hd (8 * c + k) (Hd (8 * c + k) - 1)) hr dp x) := by
  have hK8 := hB.1
  have hC8 := hB.2.2.1
  have bP := hX.1.1 k (by omega)
  have bH := hX.2.1.1 (8 * c + k) (by omega)
  refine zt_l (e_38 k1.1.2.1.1) (zt_I (s_39y k1.1 hB hc hk hs) ?_)
  rintro z g ⟨rfl, rfl⟩
  have eL : g t 2 = L := k1.1.2.1.2.2.1
  have eP : g 33 (k : Int) = P k := k1.1.2.2.1.2.1 k (by omega)
  rw [eL, eP]
  refine zt_f (by decide) (zt_c k1.1.1 (zt_f (by omega) (zt_c (by omega) (zt_t h99 (zt_V (k1.rem hZ) ?_)))))
  rintro g2 ⟨f1, r1⟩
  have c3 := r1.1.2.2.1
  have ei : (c : Int) * 8 + k = ((8 * c + k : Nat) : Int) := by omega
  have eH : g2 35 ((8 * c + k : Nat) : Int) = Hd (8 * c + k) := c3.2.2.2 _ (by omega)
  rw [ei, eH]
  have eP2 : ∀ v, zm_wr g2 35 ((8 * c + k : Nat) : Int) v 33 (k : Int) = P k := fun v => by rw [zq_wr_n (by decide)]; exact c3.2.1 k (by omega)
  rw [eP2]
  refine zt_c (by omega) (zt_c (by omega) (zt_c (by omega) (zt_c (by omega) (zt_c (by omega) (zt_c (by omega) (zt_c (by omega) (zt_c (by omega) (zt_c (Or.inr rfl) (zi_e ⟨rfl, zq_F_tr (zf_Hi_CA f1) (zq_F_tr (zq_F_wr (by unfold zf_CA; omega)) (zq_F_wr (by unfold zf_CA; omega))), r1.tub (zq_F_tr (zq_F_wr (by omega)) (zq_F_wr (by omega))) (zp_wrs (fun i hi => ?_)) (fun i hi => ?_) (fun i hi => ?_) ?_ ?_⟩)))))))))
  · rw [zq_wr_n (by decide)]; exact c3.2.1 i hi
  · rw [zq_wr_n (by decide), zq_wr_n (by decide)]; exact c3.2.2.1 i hi
  · rw [zq_wr_n (by decide)]; exact zp_wrs c3.2.2.2 i hi
  · rw [zq_wr_n (by decide), zq_wr_n (by decide)]; exact r1.1.2.2.2.1
  · rw [zq_wr_n (by decide), zq_wr_n (by decide)]; exact r1.1.2.2.2.2
theorem s_38n (hC : zv_C h t K L C wo sz re fe ru lk P Pu Hd hr dp) (hB : zv_B K L C wo sz re fe ru lk) {y q m : Int} (hn : h 145 3 = m) (hb : 0 ≤ m ∧ m ≤ 1000000) (hc : ¬ zp_cbk K L C P Hd y q) : zi (zc 38 [zm_A 4, zm_I y, zm_I q] h) (fun z g => z = 0 ∧ g = zm_wr h 145 3 (m + 1)) := by
  have hK8 := hB.1
  refine zt_l (e_38 hC.2.1.1) ?_
  by_cases ho : zp_cow K C Hd y q
  · obtain ⟨c, rfl⟩ := Int.eq_ofNat_of_zero_le ho.1.1
    obtain ⟨k, rfl⟩ := Int.eq_ofNat_of_zero_le ho.2.1.1
    have ho2 := ho.2
    refine zt_I (s_39y hC hB (c := c) (k := k) (by have := ho.1.2; omega) (by omega) ho.2.2) ?_
    rintro z g ⟨rfl, rfl⟩
    have eL : g t 2 = L := hC.2.1.2.2.1
    have eP : g 33 (k : Int) = P k := hC.2.2.1.2.1 k (by omega)
    rw [eL, eP]
    refine zt_f (by decide) (zt_c hC.1 (zt_p (fun _ => zt_cf (w := 3) (by decide) hn hb) (fun c1 => zt_c (by omega) (zt_f (fun c2 => hc ⟨ho, by omega, c2⟩) (zt_cf (w := 3) (by decide) hn hb)))))
  · refine zt_I (s_39n hC hB ho) ?_
    rintro z g ⟨rfl, rfl⟩
    exact zt_t rfl (zt_cf (w := 3) (by decide) hn hb)
theorem s_255y (k2 : zv_K2 h b K L C N cf ct pf pt U uf wo sz re fe ru cd lk P Qu Hd hr dp x sl sP sQ sH sh sd lc lkk lh lo) (hB : zv_B K L C wo sz re fe ru lk) (hX : zv_X K L C P Qu Hd hr dp) {c k : Nat} (hc : c < C) (hk : k < K) (hs : 0 < Hd (8 * c + k)) (hL0 : L ≠ 0) (h99 : P k < 99) : ∃ uf2, zi (zc 255 [zm_A 146, zm_I c, zm_I k] h) (fun z g => z = 1 ∧ zq_F zf_DA h g ∧ zv_R2 g b K L C N cf ct pf pt U uf2 wo sz re fe ru cd lk P Qu Hd hr dp sl sP sQ sH sh sd lc lkk lh lo (zp_set P k (P k + 1)) Qu (zp_set Hd (8 * c + k) (Hd (8 * c + k) - 1)) hr dp x) := by
  have hK8 := hB.1
  have hC8 := hB.2.2.1
  have hb := k2.1.1.1
  have bP := hX.1.1 k (by omega)
  have bH := hX.2.1.1 (8 * c + k) (by omega)
  obtain ⟨uf2, hu⟩ := k2.rem
  refine ⟨uf2, zt_l e_255 (zt_I (s_223 k2.1.1 c) ?_)⟩
  rintro z g ⟨rfl, rfl⟩
  rw [zp_isy hc]
  refine zt_f (by decide) (zt_I (s_218 k2.1.1 k) ?_)
  rintro z g ⟨rfl, rfl⟩
  rw [zp_isy hk, k2.1.1.2.1, k2.1.1.2.2.2.1]
  refine zt_f (by decide) (zt_c (by omega) (zt_f (by omega) (zt_I (s_215 (v := 0) (c := c) (k := k) k2.1.2.1 (by omega) (by omega)) ?_)))
  rintro z g ⟨rfl, rfl⟩
  refine zt_f (by omega) (zt_I (s_206 (v := 0) (l := 0) (k := k) k2.1.2.1 (by omega) (by omega)) ?_)
  rintro z g ⟨rfl, rfl⟩
  have e0 : 8 * 0 + k = k := by omega
  rw [e0]
  refine zt_f (by omega) (zt_V hu ?_)
  rintro g2 ⟨f1, r1⟩
  have c3 := r1.1.2.1
  have ei : 8 * (c : Int) + k = ((8 * c + k : Nat) : Int) := by omega
  have eH : g2 178 ((8 * c + k : Nat) : Int) = Hd (8 * c + k) := c3.2.2.2 _ (by omega) _ (by omega)
  rw [ei, eH]
  have eP2 : ∀ v, zm_wr g2 178 ((8 * c + k : Nat) : Int) v 176 (k : Int) = P k := fun v => by rw [zq_wr_n (by decide)]; exact c3.2.1 k (by omega) k (by omega)
  rw [eP2]
  refine zt_c (by omega) (zt_c (by omega) (zt_c (by omega) (zt_c (by omega) (zt_c (by omega) (zt_c (by omega) (zt_c (by omega) (zt_c (by omega) (zt_c (Or.inr rfl) (zi_e ⟨rfl, zq_F_tr (zf_Mi_DA f1) (zq_F_tr (zq_F_wr (by unfold zf_DA; omega)) (zq_F_wr (by unfold zf_DA; omega))), r1.tub (zq_F_tr (zq_F_wr (by omega)) (zq_F_wr (by omega))) (zp_wrs (fun i hi => ?_)) (fun i hi => ?_) (fun i hi => ?_) ?_ ?_⟩)))))))))
  · rw [zq_wr_n (by decide)]; exact c3.2.1 i hi i (by omega)
  · rw [zq_wr_n (by decide), zq_wr_n (by decide)]; exact c3.2.2.1 i hi i (by omega)
  · rw [zq_wr_n (by decide)]; exact zp_wrs (fun i hi => c3.2.2.2 i hi i (by omega)) i hi
  · rw [zq_wr_n (by decide), zq_wr_n (by decide)]; exact r1.1.2.2.1
  · rw [zq_wr_n (by decide), zq_wr_n (by decide)]; exact r1.1.2.2.2
theorem s_255n (hD : zv_D h b K L C wo sz re fe ru lk P Qu Hd hr dp) (hB : zv_B K L C wo sz re fe ru lk) (hX : zv_X K L C P Qu Hd hr dp) {y q m : Int} (hn : h 173 3 = m) (hb : 0 ≤ m ∧ m ≤ 1000000) (hc : ¬ zp_cbk K L C P Hd y q) : zi (zc 255 [zm_A 146, zm_I y, zm_I q] h) (fun z g => z = 0 ∧ g = zm_wr h 173 3 (m + 1)) := by
  have hK8 := hB.1
  have hC8 := hB.2.2.1
  have hb2 := hD.1.1
  refine zt_l e_255 (zt_I (s_223 hD.1 y) ?_)
  rintro z g ⟨rfl, rfl⟩
  by_cases hy : 0 ≤ y ∧ y < C
  · rw [if_pos hy]
    refine zt_f (by decide) (zt_I (s_218 hD.1 q) ?_)
    rintro z g ⟨rfl, rfl⟩
    by_cases hk : 0 ≤ q ∧ q < K
    · rw [if_pos hk]
      obtain ⟨c, rfl⟩ := Int.eq_ofNat_of_zero_le hy.1
      obtain ⟨k, rfl⟩ := Int.eq_ofNat_of_zero_le hk.1
      have bP := hX.1.1 k (by omega)
      have bH := hX.2.1.1 (8 * c + k) (by omega)
      rw [hD.1.2.1, hD.1.2.2.2.1]
      refine zt_f (by decide) (zt_c (by omega) (zt_p (fun _ => zt_rf (w := 3) (by decide) hn hb) (fun c1 => zt_I (s_215 (v := 0) (c := c) (k := k) hD.2.1 (by omega) (by omega)) ?_)))
      rintro z g ⟨rfl, rfl⟩
      refine zt_p (fun _ => zt_rf (w := 3) (by decide) hn hb) (fun c2 => zt_I (s_206 (v := 0) (l := 0) (k := k) hD.2.1 (by omega) (by omega)) ?_)
      rintro z g ⟨rfl, rfl⟩
      have e0 : 8 * 0 + k = k := by omega
      rw [e0]
      have e99 : P k = 99 := by
        refine Classical.byContradiction (fun q => hc ⟨⟨hy, hk, ?_⟩, by omega, ?_⟩)
        · show 0 < Hd (8 * c + k); omega
        · show P k < 99; omega
      exact zt_t e99 (zt_rf (w := 3) (by decide) hn hb)
    · rw [if_neg hk]
      exact zt_t rfl (zt_rf (w := 3) (by decide) hn hb)
  · rw [if_neg hy]
    exact zt_t rfl (zt_rf (w := 3) (by decide) hn hb)
theorem s_40y (k1 : zv_K1 h t K L C N cf ct pf pt U nx wo sz re fe ru cd lk P Pu Hd hr dp x sl sP sU sH sh sd lc lkk lh lo) (hZ : zv_Z U d sl lc lkk lh lo) (hB : zv_B K L C wo sz re fe ru lk) (hX : zv_X K L C P Pu Hd hr dp) {c k o w : Nat} (hne : c ≠ o) (hc : c < C) (hk : k < K) (hs : 0 < Hd (8 * c + k)) (ho : o < C) (hw : w < K) (hs2 : 0 < Hd (8 * o + w)) : zi (zc 40 [zm_A 4, zm_I c, zm_I k, zm_I o, zm_I w] h) (fun z g => z = 1 ∧ zq_F zf_CA h g ∧ zv_R1 g t K L C N cf ct pf pt U nx wo sz re fe ru cd lk P Pu Hd hr dp sl sP sU sH sh sd lc lkk lh lo P Pu (zp_swp Hd c k o w) hr dp x) := by
  have hK8 := hB.1
  have hC8 := hB.2.2.1
  have b1 := hX.2.1.1 (8 * c + k) (by omega)
  have b2 := hX.2.1.1 (8 * o + k) (by omega)
  have b3 := hX.2.1.1 (8 * o + w) (by omega)
  have b4 := hX.2.1.1 (8 * c + w) (by omega)
  refine zt_l e_40 (zt_f (by omega) (zt_I (s_39y k1.1 hB hc hk hs) ?_))
  rintro z g ⟨rfl, rfl⟩
  refine zt_f (by decide) (zt_I (s_39y k1.1 hB ho hw hs2) ?_)
  rintro z g ⟨rfl, rfl⟩
  refine zt_f (by decide) (zt_V (k1.rem hZ) ?_)
  rintro g2 ⟨f1, r1⟩
  have c3 := r1.1.2.2.1
  have i1 : (c : Int) * 8 + k = ((8 * c + k : Nat) : Int) := by omega
  have i2 : (o : Int) * 8 + k = ((8 * o + k : Nat) : Int) := by omega
  have i3 : (o : Int) * 8 + w = ((8 * o + w : Nat) : Int) := by omega
  have i4 : (c : Int) * 8 + w = ((8 * c + w : Nat) : Int) := by omega
  rw [i1, i2, i3, i4]
  have t0 : ∀ i : Nat, i < 64 → g2 35 i = Hd i := c3.2.2.2
  have e1 := t0 (8 * c + k) (by omega)
  rw [e1]
  have t1 := zp_wrs (j := 8 * c + k) (v := Hd (8 * c + k) - 1) t0
  have e2 := t1 (8 * o + k) (by omega)
  rw [e2]
  have t2 := zp_wrs (j := 8 * o + k) (v := zp_set Hd (8 * c + k) (Hd (8 * c + k) - 1) (8 * o + k) + 1) t1
  have e3 := t2 (8 * o + w) (by omega)
  rw [e3]
  generalize hv3 : zp_set (zp_set Hd (8 * c + k) (Hd (8 * c + k) - 1)) (8 * o + k) (zp_set Hd (8 * c + k) (Hd (8 * c + k) - 1) (8 * o + k) + 1) (8 * o + w) = v3
  have t3 := zp_wrs (j := 8 * o + w) (v := v3 - 1) t2
  have e4 := t3 (8 * c + w) (by omega)
  rw [e4]
  generalize hv4 : zp_set (zp_set (zp_set Hd (8 * c + k) (Hd (8 * c + k) - 1)) (8 * o + k) (zp_set Hd (8 * c + k) (Hd (8 * c + k) - 1) (8 * o + k) + 1)) (8 * o + w) (v3 - 1) (8 * c + w) = v4
  have t4 := zp_wrs (j := 8 * c + w) (v := v4 + 1) t3
  generalize hv2 : zp_set Hd (8 * c + k) (Hd (8 * c + k) - 1) (8 * o + k) = v2 at *
  have bv2 : 0 ≤ v2 ∧ v2 ≤ 100000 := by
    rw [← hv2]; unfold zp_set; rw [if_neg (by omega)]; exact b2
  have bv3 : 0 ≤ v3 ∧ v3 ≤ 100001 := by
    rw [← hv3]; unfold zp_set
    split
    · omega
    · rw [if_neg (by omega)]; omega
  have bv4 : -1 ≤ v4 ∧ v4 ≤ 100001 := by
    rw [← hv4]; unfold zp_set
    rw [if_neg (by omega), if_neg (by omega)]
    split
    · omega
    · omega
  iterate 20 refine zt_c (by omega) ?_
  refine zt_c (Or.inr rfl) (zi_e ⟨rfl, zq_F_tr (zf_Hi_CA f1) (zq_F_tr (zq_F_wr (by unfold zf_CA; omega)) (zq_F_tr (zq_F_wr (by unfold zf_CA; omega)) (zq_F_tr (zq_F_wr (by unfold zf_CA; omega)) (zq_F_wr (by unfold zf_CA; omega))))), r1.tub (zq_F_tr (zq_F_wr (by omega)) (zq_F_tr (zq_F_wr (by omega)) (zq_F_tr (zq_F_wr (by omega)) (zq_F_wr (by omega))))) (fun i hi => ?_) (fun i hi => ?_) (fun i hi => ?_) ?_ ?_⟩)
  · rw [zq_wr_n (by decide), zq_wr_n (by decide), zq_wr_n (by decide), zq_wr_n (by decide)]; exact c3.2.1 i hi
  · rw [zq_wr_n (by decide), zq_wr_n (by decide), zq_wr_n (by decide), zq_wr_n (by decide)]; exact c3.2.2.1 i hi
  · have := t4 i hi
    unfold zp_swp
    simp only [hv2, hv3, hv4]
    exact this
  · rw [zq_wr_n (by decide), zq_wr_n (by decide), zq_wr_n (by decide), zq_wr_n (by decide)]; exact r1.1.2.2.2.1
  · rw [zq_wr_n (by decide), zq_wr_n (by decide), zq_wr_n (by decide), zq_wr_n (by decide)]; exact r1.1.2.2.2.2
theorem s_40n (hC : zv_C h t K L C wo sz re fe ru lk P Pu Hd hr dp) (hB : zv_B K L C wo sz re fe ru lk) {y q o w m : Int} (hn : h 145 3 = m) (hb : 0 ≤ m ∧ m ≤ 1000000) (hc : ¬ zp_csw K C Hd y q o w) : zi (zc 40 [zm_A 4, zm_I y, zm_I q, zm_I o, zm_I w] h) (fun z g => z = 0 ∧ g = zm_wr h 145 3 (m + 1)) := by
  refine zt_l e_40 (zt_p (fun _ => zt_cf (w := 3) (by decide) hn hb) (fun c0 => ?_))
  by_cases ho : zp_cow K C Hd y q
  · obtain ⟨c, rfl⟩ := Int.eq_ofNat_of_zero_le ho.1.1
    obtain ⟨k, rfl⟩ := Int.eq_ofNat_of_zero_le ho.2.1.1
    have ho2 := ho.2.1
    refine zt_I (s_39y hC hB (c := c) (k := k) (by have := ho.1.2; omega) (by omega) ho.2.2) ?_
    rintro z g ⟨rfl, rfl⟩
    refine zt_f (by decide) (zt_I (s_39n hC hB (fun q2 => hc ⟨c0, ho, q2⟩)) ?_)
    rintro z g ⟨rfl, rfl⟩
    exact zt_t rfl (zt_cf (w := 3) (by decide) hn hb)
  · refine zt_I (s_39n hC hB ho) ?_
    rintro z g ⟨rfl, rfl⟩
    exact zt_t rfl (zt_cf (w := 3) (by decide) hn hb)
theorem s_256y (k2 : zv_K2 h b K L C N cf ct pf pt U uf wo sz re fe ru cd lk P Qu Hd hr dp x sl sP sQ sH sh sd lc lkk lh lo) (hB : zv_B K L C wo sz re fe ru lk) (hX : zv_X K L C P Qu Hd hr dp) {c k o w : Nat} (hne : c ≠ o) (hc : c < C) (hk : k < K) (hs : 0 < Hd (8 * c + k)) (ho : o < C) (hw : w < K) (hs2 : 0 < Hd (8 * o + w)) : ∃ uf2, zi (zc 256 [zm_A 146, zm_I c, zm_I k, zm_I o, zm_I w] h) (fun z g => z = 1 ∧ zq_F zf_DA h g ∧ zv_R2 g b K L C N cf ct pf pt U uf2 wo sz re fe ru cd lk P Qu Hd hr dp sl sP sQ sH sh sd lc lkk lh lo P Qu (zp_swp Hd c k o w) hr dp x) := by
  have hK8 := hB.1
  have hC8 := hB.2.2.1
  have b1 := hX.2.1.1 (8 * c + k) (by omega)
  have b2 := hX.2.1.1 (8 * o + k) (by omega)
  have b3 := hX.2.1.1 (8 * o + w) (by omega)
  have b4 := hX.2.1.1 (8 * c + w) (by omega)
  obtain ⟨uf2, hu⟩ := k2.rem
  refine ⟨uf2, zt_l e_256 (zt_I (s_223 k2.1.1 c) ?_)⟩
  rintro z g ⟨rfl, rfl⟩
  rw [zp_isy hc]
  refine zt_f (by decide) (zt_I (s_223 k2.1.1 o) ?_)
  rintro z g ⟨rfl, rfl⟩
  rw [zp_isy ho]
  refine zt_f (by decide) (zt_f (by omega) (zt_I (s_218 k2.1.1 k) ?_))
  rintro z g ⟨rfl, rfl⟩
  rw [zp_isy hk]
  refine zt_f (by decide) (zt_I (s_218 k2.1.1 w) ?_)
  rintro z g ⟨rfl, rfl⟩
  rw [zp_isy hw]
  refine zt_f (by decide) (zt_I (s_215 (v := 0) (c := c) (k := k) k2.1.2.1 (by omega) (by omega)) ?_)
  rintro z g ⟨rfl, rfl⟩
  refine zt_f (by omega) (zt_I (s_215 (v := 0) (c := o) (k := w) k2.1.2.1 (by omega) (by omega)) ?_)
  rintro z g ⟨rfl, rfl⟩
  refine zt_f (by omega) (zt_f (by decide) (zt_V hu ?_))
  rintro g2 ⟨f1, r1⟩
  have c3 := r1.1.2.1
  have i1 : 8 * (c : Int) + k = ((8 * c + k : Nat) : Int) := by omega
  have i2 : 8 * (o : Int) + k = ((8 * o + k : Nat) : Int) := by omega
  have i3 : 8 * (o : Int) + w = ((8 * o + w : Nat) : Int) := by omega
  have i4 : 8 * (c : Int) + w = ((8 * c + w : Nat) : Int) := by omega
  rw [i1, i2, i3, i4]
  have t0 : ∀ i : Nat, i < 64 → g2 178 i = Hd i := fun i hi => c3.2.2.2 i hi i (by omega)
  have e1 := t0 (8 * c + k) (by omega)
  rw [e1]
  have t1 := zp_wrs (j := 8 * c + k) (v := Hd (8 * c + k) - 1) t0
  have e2 := t1 (8 * o + k) (by omega)
  rw [e2]
  have t2 := zp_wrs (j := 8 * o + k) (v := zp_set Hd (8 * c + k) (Hd (8 * c + k) - 1) (8 * o + k) + 1) t1
  have e3 := t2 (8 * o + w) (by omega)
  rw [e3]
  generalize hv3 : zp_set (zp_set Hd (8 * c + k) (Hd (8 * c + k) - 1)) (8 * o + k) (zp_set Hd (8 * c + k) (Hd (8 * c + k) - 1) (8 * o + k) + 1) (8 * o + w) = v3
  have t3 := zp_wrs (j := 8 * o + w) (v := v3 - 1) t2
  have e4 := t3 (8 * c + w) (by omega)
  rw [e4]
  generalize hv4 : zp_set (zp_set (zp_set Hd (8 * c + k) (Hd (8 * c + k) - 1)) (8 * o + k) (zp_set Hd (8 * c + k) (Hd (8 * c + k) - 1) (8 * o + k) + 1)) (8 * o + w) (v3 - 1) (8 * c + w) = v4
  have t4 := zp_wrs (j := 8 * c + w) (v := v4 + 1) t3
  generalize hv2 : zp_set Hd (8 * c + k) (Hd (8 * c + k) - 1) (8 * o + k) = v2 at *
  have bv2 : 0 ≤ v2 ∧ v2 ≤ 100000 := by
    rw [← hv2]; unfold zp_set; rw [if_neg (by omega)]; exact b2
  have bv3 : 0 ≤ v3 ∧ v3 ≤ 100001 := by
    rw [← hv3]; unfold zp_set
    split
    · omega
    · rw [if_neg (by omega)]; omega
  have bv4 : -1 ≤ v4 ∧ v4 ≤ 100001 := by
    rw [← hv4]; unfold zp_set
    rw [if_neg (by omega), if_neg (by omega)]
    split
    · omega
    · omega
  iterate 20 refine zt_c (by omega) ?_
  refine zt_c (Or.inr rfl) (zi_e ⟨rfl, zq_F_tr (zf_Mi_DA f1) (zq_F_tr (zq_F_wr (by unfold zf_DA; omega)) (zq_F_tr (zq_F_wr (by unfold zf_DA; omega)) (zq_F_tr (zq_F_wr (by unfold zf_DA; omega)) (zq_F_wr (by unfold zf_DA; omega))))), r1.tub (zq_F_tr (zq_F_wr (by omega)) (zq_F_tr (zq_F_wr (by omega)) (zq_F_tr (zq_F_wr (by omega)) (zq_F_wr (by omega))))) (fun i hi => ?_) (fun i hi => ?_) (fun i hi => ?_) ?_ ?_⟩)
  · rw [zq_wr_n (by decide), zq_wr_n (by decide), zq_wr_n (by decide), zq_wr_n (by decide)]; exact c3.2.1 i hi i (by omega)
  · rw [zq_wr_n (by decide), zq_wr_n (by decide), zq_wr_n (by decide), zq_wr_n (by decide)]; exact c3.2.2.1 i hi i (by omega)
  · have := t4 i hi
    unfold zp_swp
    simp only [hv2, hv3, hv4]
    exact this
  · rw [zq_wr_n (by decide), zq_wr_n (by decide), zq_wr_n (by decide), zq_wr_n (by decide)]; exact r1.1.2.2.1
  · rw [zq_wr_n (by decide), zq_wr_n (by decide), zq_wr_n (by decide), zq_wr_n (by decide)]; exact r1.1.2.2.2
theorem s_256n (hD : zv_D h b K L C wo sz re fe ru lk P Qu Hd hr dp) (hB : zv_B K L C wo sz re fe ru lk) {y q o w m : Int} (hn : h 173 3 = m) (hb : 0 ≤ m ∧ m ≤ 1000000) (hc : ¬ zp_csw K C Hd y q o w) : zi (zc 256 [zm_A 146, zm_I y, zm_I q, zm_I o, zm_I w] h) (fun z g => z = 0 ∧ g = zm_wr h 173 3 (m + 1)) := by
  have hK8 := hB.1
  have hC8 := hB.2.2.1
  have no : ∀ w5 : zm_V, zi (zr none 3 256 63 [zm_A 146, zm_I y, zm_I q, zm_I o, zm_I w, w5] [] h) (fun z g => z = 0 ∧ g = zm_wr h 173 3 (m + 1)) := fun w5 => zt_l e_256_63 (zt_t rfl (zt_rf (w := 3) (by decide) hn hb))
  refine zt_l e_256 (zt_I (s_223 hD.1 y) ?_)
  rintro z g ⟨rfl, rfl⟩
  by_cases hy : 0 ≤ y ∧ y < C
  · rw [if_pos hy]
    refine zt_f (by decide) (zt_I (s_223 hD.1 o) ?_)
    rintro z g ⟨rfl, rfl⟩
    by_cases ho : 0 ≤ o ∧ o < C
    · rw [if_pos ho]
      refine zt_f (by decide) (zt_p (fun _ => no _) (fun c0 => zt_I (s_218 hD.1 q) ?_))
      rintro z g ⟨rfl, rfl⟩
      by_cases hk : 0 ≤ q ∧ q < K
      · rw [if_pos hk]
        refine zt_f (by decide) (zt_I (s_218 hD.1 w) ?_)
        rintro z g ⟨rfl, rfl⟩
        by_cases hw : 0 ≤ w ∧ w < K
        · rw [if_pos hw]
          obtain ⟨c, rfl⟩ := Int.eq_ofNat_of_zero_le hy.1
          obtain ⟨k, rfl⟩ := Int.eq_ofNat_of_zero_le hk.1
          obtain ⟨e, rfl⟩ := Int.eq_ofNat_of_zero_le ho.1
          obtain ⟨f, rfl⟩ := Int.eq_ofNat_of_zero_le hw.1
          refine zt_f (by decide) (zt_I (s_215 (v := 0) (c := c) (k := k) hD.2.1 (by omega) (by omega)) ?_)
          rintro z g ⟨rfl, rfl⟩
          refine zt_p (fun _ => no _) (fun c1 => zt_I (s_215 (v := 0) (c := e) (k := f) hD.2.1 (by omega) (by omega)) ?_)
          rintro z g ⟨rfl, rfl⟩
          refine zt_p (fun _ => no _) (fun c2 => absurd ⟨c0, ⟨hy, hk, ?_⟩, ⟨ho, hw, ?_⟩⟩ hc)
          · show 0 < Hd (8 * c + k); omega
          · show 0 < Hd (8 * e + f); omega
        · rw [if_neg hw]; exact zt_t rfl (no _)
      · rw [if_neg hk]; exact zt_t rfl (no _)
    · rw [if_neg ho]; exact zt_t rfl (no _)
  · rw [if_neg hy]; exact zt_t rfl (no _)
theorem s_44 {m y : Int} (hn : h 145 5 = m) (hb : 0 ≤ m ∧ m ≤ 1000000) : zi (zc 44 [zm_A 4, zm_I y] h) (fun z g => (y < 0 ∧ z = 0 ∧ g = zm_wr h 145 5 (m + 1)) ∨ (0 ≤ y ∧ z = 1 ∧ g = zm_wr h 4 16 y)) :=
  zt_l e_44 (zt_p (fun q => zi_m (zt_cf (w := 5) (by decide) hn hb) (fun z g r => Or.inl ⟨q, r⟩)) (fun q => zt_c (Or.inr rfl) (zi_e (Or.inr ⟨by omega, rfl, rfl⟩))))
theorem s_258 {m y : Int} (hn : h 173 5 = m) (hb : 0 ≤ m ∧ m ≤ 1000000) : zi (zc 258 [zm_A 146, zm_I y] h) (fun z g => (y < 0 ∧ z = 0 ∧ g = zm_wr h 173 5 (m + 1)) ∨ (0 ≤ y ∧ z = 1 ∧ g = zm_wr h 146 58 y)) :=
  zt_l e_258 (zt_p (fun q => zi_m (zt_rf (w := 5) (by decide) hn hb) (fun z g r => Or.inl ⟨q, r⟩)) (fun q => zt_c (Or.inr rfl) (zi_e (Or.inr ⟨by omega, rfl, rfl⟩))))
theorem s_45 (hL : zv_L h U nx sl sP sU sH sh sd lc lkk lh lo) (hZ : zv_Z U d sl lc lkk lh lo) (y q : Int) : zi (zc 45 [zm_A 4, zm_I y, zm_I q] h) (fun z g => z = zp_kept (sl U) lc lkk lh lo y q ∧ g = h) := by
  refine zt_l e_45 (zt_I (s_72 hL hZ y q) ?_)
  rintro z g ⟨rfl, rfl⟩
  exact zi_e ⟨rfl, rfl⟩
theorem s_43n {m : Int} (h5 : h 44 5 = 0) (hn : h 145 4 = m) (hb : 0 ≤ m ∧ m ≤ 1000000) : zi (zc 43 [zm_A 4] h) (fun z g => z = 0 ∧ g = zm_wr h 145 4 (m + 1)) :=
  zt_l e_43 (zt_t h5 (zt_cf (w := 4) (by decide) hn hb))
theorem s_200n {m : Int} (h5 : h 146 57 = 0) (hn : h 173 4 = m) (hb : 0 ≤ m ∧ m ≤ 1000000) : zi (zc 200 [zm_A 146] h) (fun z g => z = 0 ∧ g = zm_wr h 173 4 (m + 1)) :=
  zt_l e_200 (zt_t h5 (zt_rf (w := 4) (by decide) hn hb))
theorem s_43y (k1 : zv_K1 h t K L C N cf ct pf pt U nx wo sz re fe ru cd lk P Pu Hd hr dp x sl sP sU sH sh sd lc lkk lh lo) (hZ : zv_Z U d sl lc lkk lh lo) (hU : 0 < U) : zi (zc 43 [zm_A 4] h) (fun z g => z = 1 ∧ zq_F zf_CA h g ∧ zv_K1 g t K L C N cf ct pf pt (U - 1) ((nx + 19) % 20) wo sz re fe ru cd lk (sP (U - 1)) (sU (U - 1)) (sH (U - 1)) (sh (U - 1)) (sd (U - 1)) x sl sP sU sH sh sd lc lkk lh lo) := by
  obtain ⟨⟨c1, c2, c3, c4, c5⟩, hI, hx, hL⟩ := k1
  refine zt_l e_43 (zt_f (by rw [hL.1]; omega) (zt_V (s_71 hL hU hZ) ?_))
  rintro g ⟨f1, L1, T1, g0, g1⟩
  have kp : ∀ a : Nat, a < 32 → g a = h a := fun a ha => by funext i; exact f1 a i (by unfold zf_Hr zf_To; omega)
  refine zt_c (Or.inr rfl) (zi_e ⟨rfl, zq_F_wk f1 (fun a i q => ?_), ⟨by rw [kp 4 (by omega)]; exact c1, c2.kp (fun a ha => kp a (by omega)), T1, g0, g1⟩, hI.kp c2.1 (fun a ha => kp a (by omega)), by rw [kp 4 (by omega)]; exact hx, L1⟩)
  unfold zf_Hr zf_To at q; unfold zf_CA; omega
theorem s_200z (k2 : zv_K2 h b K L C N cf ct pf pt U uf wo sz re fe ru cd lk P Qu Hd hr dp x sl sP sQ sH sh sd lc lkk lh lo) (hU : 0 < U) : zi (zc 200 [zm_A 146] h) (fun z g => z = 1 ∧ zq_F zf_DA h g ∧ zv_K2 g b K L C N cf ct pf pt (U - 1) uf wo sz re fe ru cd lk (sP (U - 1)) (sQ (U - 1)) (sH (U - 1)) (sh (U - 1)) (sd (U - 1)) x sl sP sQ sH sh sd lc lkk lh lo) := by
  obtain ⟨⟨d1, d2, d3, d4⟩, hJ, hx, hM⟩ := k2
  refine zi_m (s_200y hM hU) (fun z g q => ?_)
  obtain ⟨q0, f1, M1, W1, g0, g1⟩ := q
  have kp : ∀ a : Nat, a ≠ 146 → a < 174 → g a = h a := fun a h1 ha => by funext i; exact f1 a i (by unfold zf_Mr zf_Ve; omega)
  refine ⟨q0, zq_F_wk f1 (fun a i q => ?_), ⟨d1.kp (f1 146 13 (by unfold zf_Mr zf_Ve; omega)) (fun a q1 q2 => kp a (by omega) (by omega)), W1, g0, g1⟩, hJ.kp (fun a q1 q2 => kp a (by omega) (by omega)), by rw [f1 146 58 (by unfold zf_Mr zf_Ve; omega)]; exact hx, M1⟩
  unfold zf_Mr zf_Ve at q; unfold zf_DA; omega
end
