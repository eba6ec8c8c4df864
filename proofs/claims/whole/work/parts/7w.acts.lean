/-! THE LAW: acts -/
section
variable {h g : zm_H} {m t pf b K L C N cf ct qf qt U nx uf d e : Nat} {wo sz re fe ru cd : Nat → Int} {lk : Nat → Nat → Int} {nk nc : Nat → List Nat} {F0 : Nat → Int} {pu : Int} {P Pu Qu Hd : Nat → Int} {hr dp x : Int} {sl : Nat → Nat} {sP sU sQ sH : Nat → Nat → Int} {sh sd lc lkk lh lo : Nat → Int}
/-- an act done -/
theorem zx_y {c r : zm_H → Option (zm_V × zm_H)} {Z : Int} {U' nx' d' e' : Nat} {P' Pu' Qu' Hd' : Nat → Int} {hr' dp' x' : Int} {sl' : Nat → Nat} {sP' sU' sQ' sH' : Nat → Nat → Int} {sh' sd' lc' lkk' lh' lo' : Nat → Int} (M : zx_M h m) (st : zx_st h t pf b K L C N cf ct qf qt wo sz re fe ru cd lk nk nc F0 pu) (V : zv_V K L C U' d' e' P' Pu' Qu' Hd' hr' dp' x' sl' lc' lkk' lh' lo') (H : zx_hi K L C U' e' sP' sU' sQ' sH' sh' sd') (he : e' ≤ 9999 + 160 * (m + 1)) (hc : zi (c h) (fun z g => z = Z ∧ zq_F zf_CA h g ∧ zv_K1 g t K L C N cf ct qf qt U' nx' wo sz re fe ru cd lk P' Pu' Hd' hr' dp' x' sl' sP' sU' sH' sh' sd' lc' lkk' lh' lo')) (hr2 : ∀ g1, (∀ a : Nat, 146 ≤ a → g1 a = h a) → ∃ uf', zi (r g1) (fun z g => z = Z ∧ zq_F zf_DA g1 g ∧ zv_K2 g b K L C N cf ct qf qt U' uf' wo sz re fe ru cd lk P' Qu' Hd' hr' dp' x' sl' sP' sQ' sH' sh' sd' lc' lkk' lh' lo')) : zx_pr c r h m := by
  obtain ⟨v, g1, e1, z, rfl, rfl, f1, k1⟩ := hc
  obtain ⟨uf', v2, g2, e2, z2, rfl, rfl, f2, k2⟩ := hr2 g1 (zf_CA_hi f1)
  refine ⟨_, g1, e1, g2, e2, (M.kx (Nat.le_refl _) (zf_CA_X f1)).kx (Nat.le_succ _) (zf_DA_X f2), ?_⟩
  exact ⟨t, pf, b, K, L, C, N, cf, ct, qf, qt, U', nx', uf', d', e', wo, sz, re, fe, ru, cd, lk, nk, nc, F0, pu, P', Pu', Qu', Hd', hr', dp', x', sl', sP', sU', sQ', sH', sh', sd', lc', lkk', lh', lo', (st.kx (zf_CA_X f1)).kx (zf_DA_X f2), k1.low (zf_DA_lo f2), k2, V, H, he⟩
theorem zv_V.ch {P' Hd' : Nat → Int} {hr' : Int} {e' : Nat} (V : zv_V K L C U d e P Pu Qu Hd hr dp x sl lc lkk lh lo) (hP : zv_P K L P') (hH : zv_H K C Hd') (hhr : 0 ≤ hr' ∧ hr' ≤ 99) (hHe : ∀ i, i < 64 → Hd' i ≤ e') (h1 : e ≤ e') (h2 : e' ≤ 99000) : zv_V K L C U d e' P' Pu Qu Hd' hr' dp x sl lc lkk lh lo := by
  obtain ⟨⟨a1, a2, a3, a4, a5, a6⟩, ⟨b1, b2, b3, b4, b5, b6⟩, v3, v4, v5, v6, v7, v8, v9, v10⟩ := V
  exact ⟨⟨hP, hH, a3, hhr.1, hhr.2, a6⟩, ⟨hP, hH, b3, hhr.1, hhr.2, b6⟩, v3, v4, v5, v6, hHe, by omega, by omega, h2⟩
theorem zv_P.set (hP : zv_P K L P) {l k : Nat} {v : Int} (hl : l < L) (hk : k < K) (hL : L ≤ 5) (hK : K ≤ 8) (hv : 0 ≤ v ∧ v ≤ 99) : zv_P K L (zp_set P (8 * l + k) v) := by
  refine ⟨fun i hi => ?_, fun i hi q => ?_⟩
  · unfold zp_set
    split
    · exact hv
    · exact hP.1 i hi
  · unfold zp_set
    rw [if_neg (by omega)]
    exact hP.2 i hi q
theorem zv_H.set (hH : zv_H K C Hd) {c k : Nat} {v : Int} (hc : c < C) (hk : k < K) (hK : K ≤ 8) (hv : 0 ≤ v ∧ v ≤ 100000) : zv_H K C (zp_set Hd (8 * c + k) v) := by
  refine ⟨fun i hi => ?_, fun i hi q => ?_⟩
  · unfold zp_set
    split
    · exact hv
    · exact hH.1 i hi
  · unfold zp_set
    rw [if_neg (by omega)]
    exact hH.2 i hi q
theorem zx_o17 (R : zx_R h m) (hm : m < 512) : zx_pr (fun h => zc 36 [zm_A 4] h) (fun h => zc 253 [zm_A 146] h) h m := by
  obtain ⟨t, pf, b, K, L, C, N, cf, ct, qf, qt, U, nx, uf, d, e, wo, sz, re, fe, ru, cd, lk, nk, nc, F0, pu, P, Pu, Qu, Hd, hr, dp, x, sl, sP, sU, sQ, sH, sh, sd, lc, lkk, lh, lo, st, k1, k2, V, H, he⟩ := R.2
  have B := st.2.1
  have K8 := B.1
  have L5 := B.2.1
  have C8 := B.2.2.1
  have Y := st.2.2.1
  have U20 : U ≤ 20 := k1.2.2.2.2.2.2.1
  have Vr := V.rem U20
  have Hr := H.rem V
  have e9 := V.2.2.2.2.2.2.2.2.2
  by_cases q : hr < 99
  · have hq : 0 ≤ hr ∧ hr < 99 := ⟨V.1.2.2.2.1, q⟩
    exact zx_y (e' := e) R.1 st (Vr.ch V.1.1 V.1.2.1 (by omega) Vr.2.2.2.2.2.2.1 (Nat.le_refl _) e9) Hr (by omega) (s_36y k1 V.2.2.1 hq) (fun g1 f1 => s_253y (k2.hi f1) hq)
  · have h99 : hr = 99 := by have := V.1.2.2.2.2.1; omega
    refine zx_n (w := 3) R (by decide) (by omega) (fun n hn hb => zi_m (s_36n k1.1.2.2.2.1 hn hb q) (fun z g q => ⟨q.1, _, zq_F_rf, q.2⟩)) (fun n g1 f1 hn hb => zi_m (s_253n (k2.hi f1).1.2.2.1 hn hb h99) (fun z g q => ⟨q.1, _, zq_F_rf, q.2⟩))
theorem zx_o18 (R : zx_R h m) (hm : m < 512) (y q w : Int) : zx_pr (fun h => zc 37 [zm_A 4, zm_I y, zm_I q, zm_I w] h) (fun h => zc 254 [zm_A 146, zm_I y, zm_I q, zm_I w] h) h m := by
  obtain ⟨t, pf, b, K, L, C, N, cf, ct, qf, qt, U, nx, uf, d, e, wo, sz, re, fe, ru, cd, lk, nk, nc, F0, pu, P, Pu, Qu, Hd, hr, dp, x, sl, sP, sU, sQ, sH, sh, sd, lc, lkk, lh, lo, st, k1, k2, V, H, he⟩ := R.2
  have B := st.2.1
  have K8 := B.1
  have L5 := B.2.1
  have C8 := B.2.2.1
  have Y := st.2.2.1
  have U20 : U ≤ 20 := k1.2.2.2.2.2.2.1
  have Vr := V.rem U20
  have Hr := H.rem V
  have e9 := V.2.2.2.2.2.2.2.2.2
  by_cases hq : zp_cput K L P y q w
  · obtain ⟨⟨y1, y2⟩, ⟨q1, q2⟩, hw, hs⟩ := hq
    obtain ⟨l, rfl⟩ := Int.eq_ofNat_of_zero_le y1
    obtain ⟨k, rfl⟩ := Int.eq_ofNat_of_zero_le q1
    have hl : l < L := by omega
    have hk : k < K := by omega
    have hs' : P (8 * l + k) + w ≤ 99 := hs
    have bP := V.1.1.1 (8 * l + k) (by omega)
    exact zx_y (e' := e) R.1 st (Vr.ch (V.1.1.set hl hk L5 K8 (by omega)) V.1.2.1 ⟨V.1.2.2.2.1, V.1.2.2.2.2.1⟩ Vr.2.2.2.2.2.2.1 (Nat.le_refl _) e9) Hr (by omega) (s_37y k1 V.2.2.1 B V.1.1 hl hk hw hs') (fun g1 f1 => s_254y (k2.hi f1) B V.1.1 hl hk hw hs')
  · exact zx_n (w := 3) R (by decide) (by omega) (fun n hn hb => zi_m (s_37n k1.1 B V.1.1 hn hb hq) (fun z g q => ⟨q.1, _, zq_F_rf, q.2⟩)) (fun n g1 f1 hn hb => zi_m (s_254n (k2.hi f1).1 B V.1.1 hn hb hq) (fun z g q => ⟨q.1, _, zq_F_rf, q.2⟩))
theorem zx_o19 (R : zx_R h m) (hm : m < 512) (y q : Int) : zx_pr (fun h => zc 38 [zm_A 4, zm_I y, zm_I q] h) (fun h => zc 255 [zm_A 146, zm_I y, zm_I q] h) h m := by
  obtain ⟨t, pf, b, K, L, C, N, cf, ct, qf, qt, U, nx, uf, d, e, wo, sz, re, fe, ru, cd, lk, nk, nc, F0, pu, P, Pu, Qu, Hd, hr, dp, x, sl, sP, sU, sQ, sH, sh, sd, lc, lkk, lh, lo, st, k1, k2, V, H, he⟩ := R.2
  have B := st.2.1
  have K8 := B.1
  have L5 := B.2.1
  have C8 := B.2.2.1
  have Y := st.2.2.1
  have U20 : U ≤ 20 := k1.2.2.2.2.2.2.1
  have Vr := V.rem U20
  have Hr := H.rem V
  have e9 := V.2.2.2.2.2.2.2.2.2
  by_cases hq : zp_cbk K L C P Hd y q
  · obtain ⟨⟨⟨y1, y2⟩, ⟨q1, q2⟩, hs⟩, hL0, h99⟩ := hq
    obtain ⟨c, rfl⟩ := Int.eq_ofNat_of_zero_le y1
    obtain ⟨k, rfl⟩ := Int.eq_ofNat_of_zero_le q1
    have hc : c < C := by omega
    have hk : k < K := by omega
    have hs' : 0 < Hd (8 * c + k) := hs
    have h99' : P k < 99 := h99
    have bP := V.1.1.1 k (by omega)
    have bH := V.1.2.1.1 (8 * c + k) (by omega)
    have hP' : zv_P K L (zp_set P k (P k + 1)) := by
      have := V.1.1.set (l := 0) (k := k) (v := P k + 1) (by omega) hk L5 K8 (by omega)
      rw [show 8 * 0 + k = k by omega] at this
      exact this
    refine zx_y (e' := e) R.1 st (Vr.ch hP' (V.1.2.1.set hc hk K8 (by omega)) ⟨V.1.2.2.2.1, V.1.2.2.2.2.1⟩ (fun i hi => ?_) (Nat.le_refl _) e9) Hr (by omega) (s_38y k1 V.2.2.1 B V.1 hc hk hs' hL0 h99') (fun g1 f1 => s_255y (k2.hi f1) B V.2.1 hc hk hs' hL0 h99')
    unfold zp_set
    split
    · have := V.2.2.2.2.2.2.1 (8 * c + k) (by omega); omega
    · exact V.2.2.2.2.2.2.1 i hi
  · exact zx_n (w := 3) R (by decide) (by omega) (fun n hn hb => zi_m (s_38n k1.1 B hn hb hq) (fun z g q => ⟨q.1, _, zq_F_rf, q.2⟩)) (fun n g1 f1 hn hb => zi_m (s_255n (k2.hi f1).1 B V.2.1 hn hb hq) (fun z g q => ⟨q.1, _, zq_F_rf, q.2⟩))
theorem zp_swp_b {c k o w : Nat} (hH : zv_H K C Hd) (hne : c ≠ o) (hc : c < C) (hk : k < K) (hs : 0 < Hd (8 * c + k)) (ho : o < C) (hw : w < K) (hs2 : 0 < Hd (8 * o + w)) (hK8 : K ≤ 8) (hC8 : C ≤ 8) (he : ∀ i, i < 64 → Hd i ≤ e) (h99 : e ≤ 98000) : zv_H K C (zp_swp Hd c k o w) ∧ ∀ i, i < 64 → zp_swp Hd c k o w i ≤ ((e + 2 : Nat) : Int) := by
  have all : ∀ i, i < 64 → 0 ≤ zp_swp Hd c k o w i ∧ zp_swp Hd c k o w i ≤ ((e + 2 : Nat) : Int) ∧ ((C ≤ i / 8 ∨ K ≤ i % 8) → zp_swp Hd c k o w i = 0) := by
    intro i hi
    have b1 := hH.1 (8 * c + k) (by omega)
    have b2 := hH.1 (8 * o + k) (by omega)
    have b3 := hH.1 (8 * o + w) (by omega)
    have b4 := hH.1 (8 * c + w) (by omega)
    have b5 := hH.1 i hi
    have e1 := he (8 * c + k) (by omega)
    have e2 := he (8 * o + k) (by omega)
    have e3 := he (8 * o + w) (by omega)
    have e4 := he (8 * c + w) (by omega)
    have e5 := he i hi
    have z := hH.2 i hi
    by_cases hkw : k = w
    · subst hkw
      have n1 : ¬ 8 * o + k = 8 * c + k := by omega
      have n2 : ¬ 8 * c + k = 8 * o + k := by omega
      simp only [zp_swp, zp_set, if_neg n1, if_neg n2, if_pos rfl]
      refine ⟨?_, ?_, fun q => ?_⟩
      · split
        · omega
        · split
          · omega
          · omega
      · split
        · omega
        · split
          · omega
          · omega
      · rw [if_neg (by omega), if_neg (by omega)]
        simp only [if_neg (show ¬ i = 8 * o + k by omega), if_neg (show ¬ i = 8 * c + k by omega)]
        exact z q
    · have n1 : ¬ 8 * o + k = 8 * c + k := by omega
      have n2 : ¬ 8 * o + w = 8 * o + k := by omega
      have n3 : ¬ 8 * o + w = 8 * c + k := by omega
      have n4 : ¬ 8 * c + w = 8 * o + w := by omega
      have n5 : ¬ 8 * c + w = 8 * o + k := by omega
      have n6 : ¬ 8 * c + w = 8 * c + k := by omega
      simp only [zp_swp, zp_set, if_neg n1, if_neg n2, if_neg n3, if_neg n4, if_neg n5, if_neg n6]
      refine ⟨?_, ?_, fun q => ?_⟩
      · split
        · omega
        · split
          · omega
          · split
            · omega
            · split
              · omega
              · omega
      · split
        · omega
        · split
          · omega
          · split
            · omega
            · split
              · omega
              · omega
      · rw [if_neg (by omega), if_neg (by omega), if_neg (by omega), if_neg (by omega)]
        exact z q
  exact ⟨⟨fun i hi => by have := all i hi; omega, fun i hi q => (all i hi).2.2 q⟩, fun i hi => (all i hi).2.1⟩
theorem zx_o20 (R : zx_R h m) (hm : m < 512) (y q o w : Int) : zx_pr (fun h => zc 40 [zm_A 4, zm_I y, zm_I q, zm_I o, zm_I w] h) (fun h => zc 256 [zm_A 146, zm_I y, zm_I q, zm_I o, zm_I w] h) h m := by
  obtain ⟨t, pf, b, K, L, C, N, cf, ct, qf, qt, U, nx, uf, d, e, wo, sz, re, fe, ru, cd, lk, nk, nc, F0, pu, P, Pu, Qu, Hd, hr, dp, x, sl, sP, sU, sQ, sH, sh, sd, lc, lkk, lh, lo, st, k1, k2, V, H, he⟩ := R.2
  have B := st.2.1
  have K8 := B.1
  have L5 := B.2.1
  have C8 := B.2.2.1
  have Y := st.2.2.1
  have U20 : U ≤ 20 := k1.2.2.2.2.2.2.1
  have Vr := V.rem U20
  have Hr := H.rem V
  have e9 := V.2.2.2.2.2.2.2.2.2
  by_cases hq : zp_csw K C Hd y q o w
  · obtain ⟨hne, ⟨⟨y1, y2⟩, ⟨q1, q2⟩, hs⟩, ⟨o1, o2⟩, ⟨w1, w2⟩, hs2⟩ := hq
    obtain ⟨c, rfl⟩ := Int.eq_ofNat_of_zero_le y1
    obtain ⟨k, rfl⟩ := Int.eq_ofNat_of_zero_le q1
    obtain ⟨oo, rfl⟩ := Int.eq_ofNat_of_zero_le o1
    obtain ⟨ww, rfl⟩ := Int.eq_ofNat_of_zero_le w1
    have hc : c < C := by omega
    have hk : k < K := by omega
    have ho : oo < C := by omega
    have hw : ww < K := by omega
    have hne' : c ≠ oo := by omega
    have hs' : 0 < Hd (8 * c + k) := hs
    have hs2' : 0 < Hd (8 * oo + ww) := hs2
    have bb := zp_swp_b V.1.2.1 hne' hc hk hs' ho hw hs2' K8 C8 V.2.2.2.2.2.2.1 (by omega)
    exact zx_y (e' := e + 2) R.1 st (Vr.ch V.1.1 bb.1 ⟨V.1.2.2.2.1, V.1.2.2.2.2.1⟩ bb.2 (by omega) (by omega)) (Hr.me (by omega)) (by omega) (s_40y k1 V.2.2.1 B V.1 hne' hc hk hs' ho hw hs2') (fun g1 f1 => s_256y (k2.hi f1) B V.2.1 hne' hc hk hs' ho hw hs2')
  · exact zx_n (w := 3) R (by decide) (by omega) (fun n hn hb => zi_m (s_40n k1.1 B hn hb hq) (fun z g q => ⟨q.1, _, zq_F_rf, q.2⟩)) (fun n g1 f1 hn hb => zi_m (s_256n (k2.hi f1).1 B hn hb hq) (fun z g q => ⟨q.1, _, zq_F_rf, q.2⟩))
theorem zx_o16 (R : zx_R h m) (hm : m < 512) (y : Int) : zx_pr (fun h => zc 30 [zm_A 4, zm_I y] h) (fun h => zc 246 [zm_A 146, zm_I y] h) h m := by
  obtain ⟨t, pf, b, K, L, C, N, cf, ct, qf, qt, U, nx, uf, d, e, wo, sz, re, fe, ru, cd, lk, nk, nc, F0, pu, P, Pu, Qu, Hd, hr, dp, x, sl, sP, sU, sQ, sH, sh, sd, lc, lkk, lh, lo, st, k1, k2, V, H, he⟩ := R.2
  have B := st.2.1
  have K8 := B.1
  have L5 := B.2.1
  have C8 := B.2.2.1
  have Y := st.2.2.1
  have U20 : U ≤ 20 := k1.2.2.2.2.2.2.1
  have Vr := V.rem U20
  have Hr := H.rem V
  have e9 := V.2.2.2.2.2.2.2.2.2
  by_cases hq : zp_cdip L C re P Pu (zp_cost cd cf ct (zp_en hr (zp_left P) dp 0 0 0)) y
  · obtain ⟨⟨y1, y2⟩, hT0, hcp⟩ := hq
    obtain ⟨c, rfl⟩ := Int.eq_ofNat_of_zero_le y1
    have hc : c < C := by omega
    have hT0' : 0 < zp_tot L re P c := hT0
    have hcp' : zp_cost cd cf ct (zp_en hr (zp_left P) dp 0 0 0) ≤ Pu c := hcp
    have hcoq : zp_cost cd cf ct (zp_en hr (zp_left P) dp 0 0 0) ≤ Qu c := by rw [V.2.2.2.1 c hc]; exact hcp'
    have hco : 0 ≤ zp_cost cd cf ct (zp_en hr (zp_left P) dp 0 0 0) ∧ zp_cost cd cf ct (zp_en hr (zp_left P) dp 0 0 0) ≤ 99 := by unfold zp_cost; omega
    have hsb := zp_dq_b (cd := cd) (pf := qf) (pt := qt) B V.1.1 hT0' hr dp x
    have Vd := Vr.dip B hc hT0' hco hcp' (by decide) (by omega) hsb rfl
    rw [(V.2.2.1.rem U20).2] at Vd
    exact zx_y R.1 st Vd (Hr.me (Nat.le_succ e)) (by omega) (s_30y k1 B Y V (by omega) hc hT0' rfl hcp' rfl rfl) (fun g1 f1 => s_246y (k2.hi f1) B Y V (by omega) hc hT0' rfl hcp' rfl rfl)
  · exact zx_n (w := 2) R (by decide) (by omega) (fun n hn hb => s_30n k1.1 B V.1 k1.2.1 Y rfl hn hb hq) (fun n g1 f1 hn hb => s_246n (k2.hi f1).1 B V.2.1 (k2.hi f1).2.1 Y rfl hn hb (fun q => hq ((zp_cdip_q V.2.2.2.1).mp q)))
theorem zx_o21 (R : zx_R h m) (hm : m < 512) (y : Int) : zx_pr (fun h => zc 41 [zm_A 4, zm_I y] h) (fun h => zc 257 [zm_A 146, zm_I y] h) h m := by
  obtain ⟨t, pf, b, K, L, C, N, cf, ct, qf, qt, U, nx, uf, d, e, wo, sz, re, fe, ru, cd, lk, nk, nc, F0, pu, P, Pu, Qu, Hd, hr, dp, x, sl, sP, sU, sQ, sH, sh, sd, lc, lkk, lh, lo, st, k1, k2, V, H, he⟩ := R.2
  have B := st.2.1
  have K8 := B.1
  have L5 := B.2.1
  have C8 := B.2.2.1
  have Y := st.2.2.1
  have U20 : U ≤ 20 := k1.2.2.2.2.2.2.1
  have Vr := V.rem U20
  have Hr := H.rem V
  have e9 := V.2.2.2.2.2.2.2.2.2
  by_cases hq : 1 ≤ y ∧ y ≤ 20
  · obtain ⟨n, rfl⟩ := Int.eq_ofNat_of_zero_le (show 0 ≤ y by omega)
    have hn : 1 ≤ n ∧ n ≤ 20 := by omega
    obtain ⟨a0, uf0, P0, Pu0, Qu0, Hd0, hr0, dp0, x0, sl0, lc0, lkk0, lh0, lo0, _, _, ⟨v1, g1, e1, z1, rfl, rfl, f1, _⟩, _⟩ := s_noon (nx := nx) (uf := uf) B Y hn k1 k2 V (by omega)
    obtain ⟨a, uf2, P', Pu', Qu', Hd', hr', dp', x', sl', lc', lkk', lh', lo', ha, V', hc, hr2⟩ := s_noon (nx := nx) (uf := uf) B Y hn k1 (k2.hi (zf_CA_hi f1)) V (by omega)
    obtain ⟨v2, g2, e2, z2, rfl, rfl, f2, k1'⟩ := hc
    rw [e1] at e2
    cases e2
    obtain ⟨v3, g3, e3, z3, rfl, rfl, f3, k2'⟩ := hr2
    refine ⟨_, g1, e1, g3, e3, (R.1.kx (Nat.le_refl _) (zf_CA_X f1)).kx (Nat.le_succ _) (zf_DA_X f3), ?_⟩
    exact ⟨t, pf, b, K, L, C, N, cf, ct, qf, qt, _, _, uf2, a0, e + a0, wo, sz, re, fe, ru, cd, lk, nk, nc, F0, pu, P', Pu', Qu', Hd', hr', dp', x', sl', _, _, _, _, _, _, lc', lkk', lh', lo', (st.kx (zf_CA_X f1)).kx (zf_DA_X f3), k1'.low (zf_DA_lo f3), k2', V', Hr.me (by omega), by omega⟩
  · exact zx_n (w := 3) R (by decide) (by omega) (fun n hn hb => zi_m (s_41n hn hb hq) (fun z g q => ⟨q.1, _, zq_F_rf, q.2⟩)) (fun n g1 f1 hn hb => zi_m (s_257n hn hb hq) (fun z g q => ⟨q.1, _, zq_F_rf, q.2⟩))
theorem zx_o22 (R : zx_R h m) (hm : m < 512) : zx_pr (fun h => zc 43 [zm_A 4] h) (fun h => zc 200 [zm_A 146] h) h m := by
  obtain ⟨t, pf, b, K, L, C, N, cf, ct, qf, qt, U, nx, uf, d, e, wo, sz, re, fe, ru, cd, lk, nk, nc, F0, pu, P, Pu, Qu, Hd, hr, dp, x, sl, sP, sU, sQ, sH, sh, sd, lc, lkk, lh, lo, st, k1, k2, V, H, he⟩ := R.2
  have B := st.2.1
  have K8 := B.1
  have L5 := B.2.1
  have C8 := B.2.2.1
  have Y := st.2.2.1
  have U20 : U ≤ 20 := k1.2.2.2.2.2.2.1
  have Vr := V.rem U20
  have Hr := H.rem V
  have e9 := V.2.2.2.2.2.2.2.2.2
  by_cases hU : 0 < U
  · have Hu := H (U - 1) (by omega)
    obtain ⟨w1, w2, w3, w4, w5, w6⟩ := Hu
    obtain ⟨v1, v2, ⟨z1, z2, z3, z4, z5⟩, v4, v5, v6, v7, v8, v9, v10⟩ := V
    have zu := z2 (U - 1) (by omega)
    refine zx_y (d' := 160) (e' := e) R.1 st ⟨w1, w2, ⟨fun i j hij hj => z1 i j hij (by omega), fun i hi => ?_, by decide, by omega, z5⟩, w3, w4, v6, w5, w6, by omega, v10⟩ (fun i hi => H i (by omega)) (by omega) (s_43y k1 ⟨z1, z2, z3, z4, z5⟩ hU) (fun g1 f1 => ⟨uf, s_200z (k2.hi f1) hU⟩)
    have a := z1 i (U - 1) (by omega) (by omega)
    refine ⟨a.1, ?_⟩
    have e1 : U - 1 - i = U - 1 - 1 - i + 1 := by omega
    have := a.2
    rw [e1, Nat.mul_add] at this
    exact this
  · have U0 : U = 0 := by omega
    subst U0
    exact zx_n (w := 4) R (by decide) (by omega) (fun n hn hb => zi_m (s_43n k1.2.2.2.1 hn hb) (fun z g q => ⟨q.1, _, zq_F_rf, q.2⟩)) (fun n g1 f1 hn hb => zi_m (s_200n (k2.hi f1).2.2.2.1 hn hb) (fun z g q => ⟨q.1, _, zq_F_rf, q.2⟩))
theorem zx_o23 (R : zx_R h m) (hm : m < 512) (y : Int) (hy : y ≤ 2147483647) : zx_pr (fun h => zc 44 [zm_A 4, zm_I y] h) (fun h => zc 258 [zm_A 146, zm_I y] h) h m := by
  obtain ⟨t, pf, b, K, L, C, N, cf, ct, qf, qt, U, nx, uf, d, e, wo, sz, re, fe, ru, cd, lk, nk, nc, F0, pu, P, Pu, Qu, Hd, hr, dp, x, sl, sP, sU, sQ, sH, sh, sd, lc, lkk, lh, lo, st, k1, k2, V, H, he⟩ := R.2
  have B := st.2.1
  have K8 := B.1
  have L5 := B.2.1
  have C8 := B.2.2.1
  have Y := st.2.2.1
  have U20 : U ≤ 20 := k1.2.2.2.2.2.2.1
  have Vr := V.rem U20
  have Hr := H.rem V
  have e9 := V.2.2.2.2.2.2.2.2.2
  by_cases hq : 0 ≤ y
  · refine zx_y (Z := 1) (d' := d) (e' := e) (U' := U) (nx' := nx) (P' := P) (Pu' := Pu) (Qu' := Qu) (Hd' := Hd) (hr' := hr) (dp' := dp) (x' := y) (sl' := sl) (sP' := sP) (sU' := sU) (sQ' := sQ) (sH' := sH) (sh' := sh) (sd' := sd) (lc' := lc) (lkk' := lkk) (lh' := lh) (lo' := lo) R.1 st ⟨V.1, V.2.1, V.2.2.1, V.2.2.2.1, V.2.2.2.2.1, ⟨hq, hy⟩, V.2.2.2.2.2.2⟩ H (by omega) ?_ (fun g1 f1 => ⟨uf, ?_⟩)
    · obtain ⟨tn, tb, Sr, fa, fp, rk, R', imn, im, a1, b1, tb255, s, fl, rw', im'⟩ := R.1
      obtain ⟨s1, s2, s3, s4⟩ := s 5 (by decide)
      refine zi_m (s_44 (m := Sr 5) s1 ⟨s3, by omega⟩) (fun z g r => ?_)
      rcases r with ⟨r, _⟩ | ⟨_, rfl, rfl⟩
      · omega
      · refine ⟨rfl, zq_F_wr (by unfold zf_CA; omega), ?_⟩
        obtain ⟨⟨c1, c2, c3, c4, c5⟩, hI, hx, hL⟩ := k1
        have k : ∀ a : Nat, a ≠ 4 → zm_wr h 4 16 y a = h a := fun a ha => by funext i; exact zq_wr_n ha
        exact ⟨⟨by rw [zq_wr_i (by decide)]; exact c1, c2.k7 (fun a h1 h2 => k a (by omega)), c3.kq (k _ (by decide)) (k _ (by decide)) (k _ (by decide)), by rw [k 32 (by decide)]; exact c4, by rw [k 32 (by decide)]; exact c5⟩, hI.k7 c2.1 (fun a h1 h2 => k a (by omega)), zq_wr_e, hL.kp (fun i _ _ => by rw [k 44 (by decide)]) (fun a h1 _ => k a (by omega))⟩
    · obtain ⟨tn, tb, Sr, fa, fp, rk, R', imn, im, a1, b1, tb255, s, fl, rw', im'⟩ := R.1
      obtain ⟨s1, s2, s3, s4⟩ := s 5 (by decide)
      refine zi_m (s_258 (m := Sr 5) (by rw [f1 173 (by decide)]; exact s2) ⟨s3, by omega⟩) (fun z g r => ?_)
      rcases r with ⟨r, _⟩ | ⟨_, rfl, rfl⟩
      · omega
      · refine ⟨rfl, zq_F_wr (by unfold zf_DA; omega), ?_⟩
        have k3 := k2.hi f1
        obtain ⟨⟨d1, d2, d3, d4⟩, hJ, hx, M1, M2, M3, M4, M5, M6⟩ := k3
        have k : ∀ a : Nat, a ≠ 146 → zm_wr g1 146 58 y a = g1 a := fun a ha => by funext i; exact zq_wr_n ha
        refine ⟨⟨d1.kp (by rw [zq_wr_i (by decide)]) (fun a q1 q2 => k a (by omega)), d2.kp (fun a q1 q2 => k a (by omega)), by rw [k 174 (by decide)]; exact d3, by rw [k 175 (by decide)]; exact d4⟩, hJ.kp (fun a q1 q2 => k a (by omega)), zq_wr_e, by rw [zq_wr_i (by decide)]; exact M1, by rw [zq_wr_i (by decide)]; exact M2, M3, M4, M5.kp (fun a q1 q2 => k a (by omega)), fun i v hi hv => ?_⟩
        obtain ⟨r1, r2, r3, r4⟩ := M6 i v hi hv
        exact ⟨r1.kp (fun a q1 q2 => k a (by omega)), by rw [k 174 (by decide)]; exact r2, by rw [k 175 (by decide)]; exact r3, r4.kp (fun a q1 q2 => k a (by omega))⟩
  · refine zx_n (w := 5) (Z := 0) R (by decide) (by omega) (fun n hn hb => zi_m (s_44 hn hb) (fun z g r => ?_)) (fun n g1 f1 hn hb => zi_m (s_258 hn hb) (fun z g r => ?_))
    · rcases r with ⟨_, r1, r2⟩ | ⟨r, _⟩
      · exact ⟨r1, _, zq_F_rf, r2⟩
      · omega
    · rcases r with ⟨_, r1, r2⟩ | ⟨r, _⟩
      · exact ⟨r1, _, zq_F_rf, r2⟩
      · omega
end
