/-! THE LAW: fete -/
section
variable {h g : zm_H} {m t pf b b' K L C N cf ct qf qt U nx uf d e tn : Nat} {wo sz re fe ru cd tb : Nat → Int} {lk : Nat → Nat → Int} {nk nc : Nat → List Nat} {F0 : Nat → Int} {pu : Int} {P Pu Qu Hd : Nat → Int} {hr dp x : Int} {sl : Nat → Nat} {sP sU sQ sH : Nat → Nat → Int} {sh sd lc lkk lh lo : Nat → Int}
theorem zx_det {a : Option (zm_V × zm_H)} {v w : zm_V} {g k : zm_H} (h1 : a = some (v, g)) (h2 : a = some (w, k)) : v = w ∧ g = k := by
  have q : (v, g) = (w, k) := Option.some.inj (h1.symm.trans h2)
  exact ⟨congrArg Prod.fst q, congrArg Prod.snd q⟩
theorem zv_F.kt (hF : zv_F h t K L C wo sz re fe ru lk) (e : ∀ a : Nat, t ≤ a → a ≤ t + 10 → g a = h a) : zv_F g t K L C wo sz re fe ru lk := by
  obtain ⟨f0, f1, f2, f3, f4, f5, f6⟩ := hF
  refine ⟨f0, ?_, ?_, ?_, ?_, ?_, ?_⟩
  · rw [e t (by omega) (by omega)]; exact f1
  · rw [e t (by omega) (by omega)]; exact f2
  · rw [e t (by omega) (by omega)]; exact f3
  · rw [e (t + 2) (by omega) (by omega), e (t + 3) (by omega) (by omega)]; exact f4
  · rw [e (t + 6) (by omega) (by omega), e (t + 7) (by omega) (by omega), e (t + 8) (by omega) (by omega)]; exact f5
  · rw [e (t + 9) (by omega) (by omega)]; exact f6
theorem zv_I.kt (hI : zv_I h t N cd cf ct qf qt) (e : ∀ a : Nat, t ≤ a → a ≤ t + 10 → g a = h a) : zv_I g t N cd cf ct qf qt := by
  unfold zv_I at hI ⊢
  rw [e t (by omega) (by omega), e (t + 10) (by omega) (by omega)]; exact hI
theorem zv_Nc.kt (hI : zv_Nc h t K C nk nc) (e : ∀ a : Nat, t ≤ a → a ≤ t + 10 → g a = h a) : zv_Nc g t K C nk nc := by
  unfold zv_Nc at hI ⊢
  rw [e (t + 1) (by omega) (by omega), e (t + 5) (by omega) (by omega)]; exact hI
theorem zv_G.kb (hG : zv_G h b K L C wo sz re fe ru lk) (hb' : b' + b = 1) (hK : K ≤ 8) (hC : C ≤ 8) (f : zq_F (zf_6f b') h g) : zv_G g b K L C wo sz re fe ru lk := by
  obtain ⟨hb, e0, e1, e2, e3, h1, h2, h3⟩ := hG
  refine ⟨hb, ?_, ?_, ?_, ?_, fun k hk j hj => ?_, fun k hk j hj => ?_, fun c k hc hk j hj => ?_⟩
  · rw [f 146 13 (by unfold zf_6f zf_Pr; omega)]; exact e0
  · rw [f 148 b (by unfold zf_6f zf_Pr; omega)]; exact e1
  · rw [f 151 b (by unfold zf_6f zf_Pr; omega)]; exact e2
  · rw [f 153 b (by unfold zf_6f zf_Pr; omega)]; exact e3
  · rw [f 149 j (by unfold zf_6f zf_Pr; omega), f 150 j (by unfold zf_6f zf_Pr; omega)]; exact h1 k hk j hj
  · rw [f 154 j (by unfold zf_6f zf_Pr; omega), f 155 j (by unfold zf_6f zf_Pr; omega), f 156 j (by unfold zf_6f zf_Pr; omega)]; exact h2 k hk j hj
  · rw [f 157 j (by unfold zf_6f zf_Pr; omega)]; exact h3 c k hc hk j hj
theorem zv_J.kb (hJ : zv_J h b N cd cf ct qf qt) (hb' : b' + b = 1) (hN : N ≤ 1600) (f : zq_F (zf_6f b') h g) : zv_J g b N cd cf ct qf qt := by
  obtain ⟨j1, j2, j3, j4, j5⟩ := hJ
  have k : ∀ a : Nat, 159 ≤ a → a ≤ 162 → g a b = h a b := fun a h1 h2 => f a b (by unfold zf_6f zf_Pr; omega)
  refine ⟨?_, ?_, ?_, ?_, fun i hi => ?_⟩
  · rw [k 159 (by decide) (by decide)]; exact j1
  · rw [k 159 (by decide) (by decide), k 160 (by decide) (by decide)]; exact j2
  · rw [k 161 (by decide) (by decide)]; exact j3
  · rw [k 161 (by decide) (by decide), k 162 (by decide) (by decide)]; exact j4
  · rw [f 163 ((1600 * b + i : Nat) : Int) (by unfold zf_6f zf_Pr; omega), f 164 ((1600 * b + i : Nat) : Int) (by unfold zf_6f zf_Pr; omega)]; exact j5 i hi
theorem zv_Nd.kb (hD : zv_Nd h b K C nk nc) (hb' : b' + b = 1) (hK : K ≤ 8) (hC : C ≤ 8) (f : zq_F (zf_6f b') h g) : zv_Nd g b K C nk nc := by
  obtain ⟨h1, h2⟩ := hD
  refine ⟨fun k hk j hj => ?_, fun c hc j hj => ?_⟩
  · rw [f 165 j (by unfold zf_6f zf_Pr; omega)]; exact h1 k hk j hj
  · rw [f 166 j (by unfold zf_6f zf_Pr; omega)]; exact h2 c hc j hj
theorem zw_PD_Y {l : List Int} {n : Nat} (D : zw_PD K L C wo sz re fe ru lk nk nc F0 pu l cf ct qf qt n) (hn : n ≤ 1600) : zv_Y l.length (fun i => l.getD i 0) cf ct qf qt := by
  obtain ⟨_, _, _, _, _, d1, ⟨d2, d3, d4, d5⟩, r1, r2⟩ := D
  have hrun : ∀ (en : Nat → Int) (f u : Nat), f ≤ u → u ≤ l.length → zp_run (fun i => l.getD i 0) en f (u - f) [] = zw_rn en ((l.drop f).take (u - f)) [] := by
    intro en f u h1 h2
    have e : ((l.drop f).take (u - f)).length = u - f := by rw [List.length_take, List.length_drop]; omega
    have q := zw_rn_run (fun i => l.getD i 0) en ((l.drop f).take (u - f)) f [] (fun i hi => by
      rw [e] at hi
      show l.getD (f + i) 0 = _
      rw [List.getD_eq_getElem?_getD, List.getD_eq_getElem?_getD, List.getElem?_take_of_lt hi, List.getElem?_drop])
    rw [e] at q
    exact q
  refine ⟨by omega, d2, d3, d4, d5, fun en _ => ⟨fun q => ?_, fun q => ?_⟩⟩
  · rw [hrun en cf ct d2 d3]; exact r1 q en
  · rw [hrun en qf qt d4 d5]; exact r2 q en
/-- fete -/
theorem zx_o2 (R : zx_R h m) (hm : m < 512) : zx_pr (fun h => zc 5 [zm_A 4] h) (fun h => zc 158 [zm_A 146] h) h m := by
  obtain ⟨⟨tn, tb, T⟩, ⟨S, s⟩, Ft, Ro, Im⟩ := R.1.i
  obtain ⟨t, pf, b, K, L, C, N, cf, ct, qf, qt, U, nx, uf, d, e, wo, sz, re, fe, ru, cd, lk, nk, nc, F0, pu, P, Pu, Qu, Hd, hr, dp, x, sl, sP, sU, sQ, sH, sh, sd, lc, lkk, lh, lo, st, k1, k2, V, H, he⟩ := R.2
  obtain ⟨s1, s2, s3, s4⟩ := s 1 (by decide)
  obtain ⟨⟨t1, t2, t3, b2⟩, B, Y, Nn, z0, e42, nc1, nd1, ⟨p1, p2⟩, ow⟩ := st
  obtain ⟨bn, hbn⟩ : ∃ bn, bn = 1 - b := ⟨_, rfl⟩
  have hb : bn < 2 := by omega
  have h13 : h 146 13 = 1 - (bn : Int) := by rw [k2.1.1.2.1]; omega
  have hz1 := t1
  have hz2 := t2
  unfold zf_F at hz1 hz2
  have hA : ∃ v g1, zc 5 [zm_A 4] h = some (v, g1) ∧ ∀ a : Nat, 146 ≤ a → g1 a = h a := by
    rcases zw_fete (h1 := h) (h2 := h) (m := S 1) (m' := S 1) t2 t1 t3 k1.1.1 e42 T.1 T.2.1 T.2.2 ow s1 s2 ⟨s3, by omega⟩ ⟨s3, by omega⟩ hb h13 with ⟨k, a, X, _⟩ | ⟨N1, K1, L1, C1, wo1, sz1, re1, fe1, ru1, lk1, nk1, nc1, F1, pu1, l1, cf1, ct1, qf1, qt1, hN, PD, X, _⟩
    · obtain ⟨v, g1, e1, z, _, _, f, _⟩ := X
      exact ⟨v, g1, e1, fun a ha => by funext i; exact f a i (by unfold zf_5f zf_Pd; omega)⟩
    · obtain ⟨v, g1, e1, z, _, _, f, _⟩ := X
      exact ⟨v, g1, e1, fun a ha => by funext i; exact f a i (by unfold zf_5k zf_Pd zf_To; omega)⟩
  obtain ⟨v1, g1, e1, kh⟩ := hA
  have Tb1 : zv_Tb g1 tn tb := by
    obtain ⟨b1, b2, b3⟩ := T.2.1
    exact ⟨by rw [kh 146 (by decide)]; exact b1, b2, fun i hi => by rw [kh 147 (by decide)]; exact b3 i hi⟩
  have k2' := k2.hi kh
  rcases zw_fete (h1 := h) (h2 := g1) (m := S 1) (m' := S 1) t2 t1 t3 k1.1.1 e42 T.1 Tb1 T.2.2 ow s1 (by rw [kh 173 (by decide)]; exact s2) ⟨s3, by omega⟩ ⟨s3, by omega⟩ hb (by rw [kh 146 (by decide)]; exact h13) with ⟨k, a, X, Y'⟩ | ⟨N1, K1, L1, C1, wo1, sz1, re1, fe1, ru1, lk1, nk1, nc2, F1, pu1, l1, cf1, ct1, qf1, qt1, hN, PD, X, Y'⟩
  · obtain ⟨v, g, eg, z, hv, hz, f1, a1, a2, a3, a4⟩ := X
    obtain ⟨ev, ek⟩ := zx_det eg e1
    rw [ek] at f1 a1 a2 a3 a4
    obtain ⟨w, g2, r2, z2, hw, hz2', f2, c1, c2, c3, c4⟩ := Y'
    rw [← ev, hv, hz] at e1
    rw [hw, hz2'] at r2
    have k12 : ∀ (a : Nat) (i : Int), ¬ zf_5f pf a i → ¬ zf_6f bn a i → g2 a i = h a i := fun a i q1 q2 => by rw [f2 a i q2, f1 a i q1]
    have kt : ∀ a : Nat, t ≤ a → a ≤ t + 10 → g2 a = h a := fun a q1 q2 => by
      funext i; exact k12 a i (by unfold zf_5f zf_Pd; omega) (by unfold zf_6f zf_Pr; omega)
    have k31 : ∀ a : Nat, a = 4 ∨ (31 ≤ a ∧ a ≤ 127) → g2 a = h a := fun a q => by
      funext i; exact k12 a i (by unfold zf_5f zf_Pd; omega) (by unfold zf_6f zf_Pr; omega)
    refine ⟨_, g1, e1, g2, r2, zx_M_of ⟨0, tb, ⟨?_, Nat.zero_le _, fun i hi => absurd hi (Nat.not_lt_zero _)⟩, ⟨c3, Nat.zero_le _, fun i hi => absurd hi (Nat.not_lt_zero _)⟩, T.2.2⟩ (zx_Rf.up (w := 1) ⟨S, s⟩ (by decide) s1 s2 (fun a i q1 q2 => k12 a i (by unfold zf_5f zf_Pd; omega) (by unfold zf_6f zf_Pr; omega)) ?_ c4) ⟨k, a, ?_, ?_, c1, c2⟩ (Ro.kp (fun a i q => k12 a i (by unfold zf_5f zf_Pd; omega) (by unfold zf_6f zf_Pr; omega))) (Im.kp (fun a i q => k12 a i (by unfold zf_5f zf_Pd; omega) (by unfold zf_6f zf_Pr; omega))), t, pf, b, K, L, C, N, cf, ct, qf, qt, U, nx, uf, d, e, wo, sz, re, fe, ru, cd, lk, nk, nc, F0, pu, P, Pu, Qu, Hd, hr, dp, x, sl, sP, sU, sQ, sH, sh, sd, lc, lkk, lh, lo, ⟨⟨t1, t2, t3, b2⟩, B, Y, Nn, z0, ?_, nc1.kt kt, ?_, ⟨?_, ?_⟩, ?_⟩, ?_, ?_, V, H, by omega⟩
    · rw [f2 5 1 (by unfold zf_6f zf_Pr; omega)]; exact a3
    · rw [f2 145 ((1 : Nat) : Int) (by unfold zf_6f zf_Pr; omega)]; exact a4
    · rw [f2 29 2 (by unfold zf_6f zf_Pr; omega)]; exact a1
    · rw [f2 29 3 (by unfold zf_6f zf_Pr; omega)]; exact a2
    · rw [k31 4 (by decide)]; exact e42
    · have q : zv_Nd g1 b K C nk nc := by unfold zv_Nd; rw [kh 165 (by decide), kh 166 (by decide)]; exact nd1
      exact q.kb (by omega) B.1 B.2.2.1 f2
    · rw [kt t (by omega) (by omega)]; exact p1
    · rw [kt (t + 4) (by omega) (by omega)]; exact p2
    · rw [k31 31 (by decide)]; exact ow
    · obtain ⟨⟨i1, i2, i3, i4, i5⟩, hI, hx, hL⟩ := k1
      exact ⟨⟨by rw [k31 4 (by decide)]; exact i1, i2.kt kt, i3.kq (k31 _ (by decide)) (k31 _ (by decide)) (k31 _ (by decide)), by rw [k31 32 (by decide)]; exact i4, by rw [k31 32 (by decide)]; exact i5⟩, hI.kt kt, by rw [k31 4 (by decide)]; exact hx, hL.kp (fun i _ _ => by rw [k31 44 (by decide)]) (fun a h1 h2 => k31 a (by omega))⟩
    · obtain ⟨⟨i1, i2, i3, i4⟩, hJ, hx, hM⟩ := k2'
      exact ⟨⟨i1.kb (by omega) B.1 B.2.2.1 f2, i2.kp (fun a q1 q2 => by funext i; exact f2 a i (by unfold zf_6f zf_Pr; omega)), by rw [f2 174 0 (by unfold zf_6f zf_Pr; omega)]; exact i3, by rw [f2 175 0 (by unfold zf_6f zf_Pr; omega)]; exact i4⟩, hJ.kb (by omega) Y.1 f2, by rw [f2 146 58 (by unfold zf_6f zf_Pr; omega)]; exact hx, hM.kp (f2 146 57 (by unfold zf_6f zf_Pr; omega)) (f2 146 56 (by unfold zf_6f zf_Pr; omega)) (fun a q1 q2 => by funext i; exact f2 a i (by unfold zf_6f zf_Pr; omega))⟩
  · obtain ⟨v, g, eg, z, hv, hz, f1, ⟨a1, a2, a3⟩, ⟨a4, a5⟩, a6, CD, TT, ⟨a7, a8⟩, ⟨a9, a10, a11⟩⟩ := X
    obtain ⟨ev, ek⟩ := zx_det eg e1
    rw [ek] at f1 a1 a2 a3 a4 a5 a6 CD TT a7 a8 a9 a10 a11
    obtain ⟨w, g2, r2, z2, hw, hz2', f2, c13, ⟨c1, c2⟩, c3, RD, WW, ⟨c4, c5, c6⟩, c7, c8, c9⟩ := Y'
    rw [← ev, hv, hz] at e1
    rw [hw, hz2'] at r2
    have k12 : ∀ (a : Nat) (i : Int), ¬ zf_5k pf a i → ¬ zf_6k bn a i → g2 a i = h a i := fun a i q1 q2 => by rw [f2 a i q2, f1 a i q1]
    have kl : ∀ a : Nat, a ≤ 127 → g2 a = g1 a := fun a q => by
      funext i; exact f2 a i (by unfold zf_6k zf_6f zf_Pr zf_Ve; omega)
    have B' := PD.1
    have Y2 := zw_PD_Y PD T.1.2.1
    obtain ⟨v1, v2, v3, v4, v5, v6, v7, v8, v9, v10⟩ := V
    obtain ⟨_, Nn1, F30, F0z, hpu, llen, hcf, _, _⟩ := PD
    have X1 : ∀ Pv : Nat → Int, (∀ c, c < 8 → 0 ≤ Pv c ∧ Pv c ≤ 999) → zv_X K1 L1 C1 F1 Pv (fun _ => 0) 0 0 := fun Pv hP => ⟨⟨fun i hi => by have := F30 i hi; omega, F0z⟩, ⟨fun i _ => show (0 : Int) ≤ 0 ∧ (0 : Int) ≤ 100000 by decide, fun i _ _ => rfl⟩, hP, by decide, by decide, by decide, by decide⟩
    have K1' : zv_K1 g1 pf K1 L1 C1 l1.length cf1 ct1 qf1 qt1 0 0 wo1 sz1 re1 fe1 ru1 (fun i => l1.getD i 0) lk1 F1 (fun c => if c < C1 then pu1 else 0) (fun _ => 0) 0 0 x (fun _ => 0) sP sU sH sh sd lc lkk lh lo := by
      refine ⟨⟨a1, CD.1, TT, a7, a8⟩, ⟨CD.2.2.2.2.2.1.1, CD.2.2.2.2.2.1.2.1, CD.2.2.2.2.2.1.2.2.1, CD.2.2.2.2.2.1.2.2.2, CD.2.2.2.2.1.2⟩, ?_, a11, a9, a10, by decide, by decide, fun i _ hi => absurd hi (Nat.not_lt_zero _), fun j _ hj => absurd hj (Nat.not_lt_zero _)⟩
      rw [f1 4 16 (by unfold zf_5k zf_Pd zf_To; omega)]
      exact k1.2.2.1
    have K2' : zv_K2 g2 bn K1 L1 C1 l1.length cf1 ct1 qf1 qt1 0 uf wo1 sz1 re1 fe1 ru1 (fun i => l1.getD i 0) lk1 F1 (fun _ => pu1) (fun _ => 0) 0 0 x (fun _ => 0) sP sQ sH sh sd lc lkk lh lo := by
      obtain ⟨R1, R2, R3, R4, R5, R6, R7, R8, R9, R10, R11, R12⟩ := RD
      refine ⟨⟨⟨hb, c13, R1.1, R1.2.1, R1.2.2, R2, R3, R4⟩, WW, c4, c5⟩, ⟨R9, R10, R11, R12, fun i hi => R8.2 i hi _ (by omega)⟩, ?_, c7, ?_, by decide, k2.2.2.2.2.2.2.1, ?_, fun i v hi => absurd hi (Nat.not_lt_zero _)⟩
      · rw [f2 146 58 (by unfold zf_6k zf_6f zf_Pr zf_Ve; omega)]; exact k2'.2.2.1
      · rw [f2 146 56 (by unfold zf_6k zf_6f zf_Pr zf_Ve; omega)]; exact k2'.2.2.2.2.1
      · show zv_E g2 0 0 (zp_kp lc 0) (zp_kp lkk 0) (zp_kp lh 0) (zp_kp lo 0)
        exact ⟨c6, by decide, fun i hi => absurd hi (Nat.not_lt_zero _)⟩
    refine ⟨_, g1, e1, g2, r2, zx_M_of ⟨0, tb, ⟨?_, Nat.zero_le _, fun i hi => absurd hi (Nat.not_lt_zero _)⟩, ⟨c3, Nat.zero_le _, fun i hi => absurd hi (Nat.not_lt_zero _)⟩, T.2.2⟩ ⟨S, fun i hi => ?_⟩ ⟨0, -1, ?_, ?_, c1, c2⟩ ⟨0, fun _ => 0, ?_, c8, fun q => absurd rfl q⟩ (Im.kp (fun a i q => k12 a i (by unfold zf_5k zf_Pd zf_To; omega) (by unfold zf_6k zf_6f zf_Pr zf_Ve; omega))), pf, t, bn, K1, L1, C1, l1.length, cf1, ct1, qf1, qt1, 0, 0, uf, 0, e, wo1, sz1, re1, fe1, ru1, (fun i => l1.getD i 0), lk1, nk1, nc2, F1, pu1, F1, (fun c => if c < C1 then pu1 else 0), (fun _ => pu1), (fun _ => 0), 0, 0, x, (fun _ => 0), sP, sU, sQ, sH, sh, sd, lc, lkk, lh, lo, ⟨⟨t2, t1, Ne.symm t3, hb⟩, B', Y2, Nn1, F0z, ?_, ?_, RD.2.2.2.2.1, ⟨?_, ?_⟩, ?_⟩, K1'.low kl, K2', ⟨X1 _ (fun c _ => ?_), X1 _ (fun c _ => hpu), ⟨fun i j _ hj => absurd hj (Nat.not_lt_zero _), fun i hi => absurd hi (Nat.not_lt_zero _), by decide, by decide, v3.2.2.2.2⟩, fun c hc => (if_pos hc).symm, fun c hc _ => if_neg (by omega), v6, fun i _ => show (0 : Int) ≤ (e : Int) by omega, show (0 : Int) ≤ (e : Int) by omega, show 0 + 9999 ≤ e by omega, v10⟩, fun i hi => absurd hi (Nat.not_lt_zero _), by omega⟩
    · rw [kl 5 (by decide)]; exact a6
    · obtain ⟨q1, q2, q3, q4⟩ := s i hi
      refine ⟨?_, ?_, q3, by omega⟩
      · rw [f2 145 i (by unfold zf_6k zf_6f zf_Pr zf_Ve; omega), f1 145 i (by unfold zf_5k zf_Pd zf_To; omega)]; exact q1
      · by_cases q : i = 1
        · subst q; exact c9
        · rw [f2 173 i (by unfold zf_6k zf_6f zf_Pr zf_Ve; omega), kh 173 (by decide)]; exact q2
    · rw [kl 29 (by decide)]; exact a4
    · rw [kl 29 (by decide)]; exact a5
    · rw [kl 4 (by decide)]; exact a3
    · rw [kl 4 (by decide)]; exact a2
    · have q := CD.2.1
      unfold zv_Nc at q ⊢
      rw [kl (pf + 1) (by omega), kl (pf + 5) (by omega)]; exact q
    · rw [kl pf (by omega)]; exact CD.2.2.2.1
    · rw [kl (pf + 4) (by omega)]; exact CD.2.2.1
    · rw [kl 31 (by decide), show g1 31 = h 31 from by funext i; exact f1 31 i (by unfold zf_5k zf_Pd zf_To; omega)]; exact ow
    · show 0 ≤ (if c < C1 then pu1 else 0) ∧ (if c < C1 then pu1 else 0) ≤ 999
      split
      · exact hpu
      · omega
end
