/-! THE LAW: what holds of both sides between two calls -/
/-- what the told fete fixes -/
def zx_st (h : zm_H) (t pf b K L C N cf ct qf qt : Nat) (wo sz re fe ru cd : Nat → Int) (lk : Nat → Nat → Int) (nk nc : Nat → List Nat) (F0 : Nat → Int) (pu : Int) : Prop :=
  (zf_F t ∧ zf_F pf ∧ t ≠ pf ∧ b < 2) ∧ zv_B K L C wo sz re fe ru lk ∧ zv_Y N cd cf ct qf qt ∧ zv_Nn K C nk nc ∧ (∀ i, i < 40 → (L ≤ i / 8 ∨ K ≤ i % 8) → F0 i = 0) ∧ h 4 2 = pf ∧ zv_Nc h t K C nk nc ∧ zv_Nd h b K C nk nc ∧ (h t 4 = pu ∧ ∀ i : Nat, i < 40 → h (t + 4) i = F0 i) ∧ ∀ w : Nat, w < 25 → h 31 w = zp_p5 (zy_w w)
/-- what is held for undo -/
def zx_hi (K L C U e : Nat) (sP sU sQ sH : Nat → Nat → Int) (sh sd : Nat → Int) : Prop := ∀ i, i < U → zv_X K L C (sP i) (sU i) (sH i) (sh i) (sd i) ∧ zv_X K L C (sP i) (sQ i) (sH i) (sh i) (sd i) ∧ (∀ c, c < C → sQ i c = sU i c) ∧ (∀ c, C ≤ c → c < 8 → sU i c = 0) ∧ (∀ j, j < 64 → sH i j ≤ e) ∧ sd i ≤ e
def zx_S (h : zm_H) (m : Nat) : Prop := ∃ (t pf b K L C N cf ct qf qt U nx uf d e : Nat) (wo sz re fe ru cd : Nat → Int) (lk : Nat → Nat → Int) (nk nc : Nat → List Nat) (F0 : Nat → Int) (pu : Int) (P Pu Qu Hd : Nat → Int) (hr dp x : Int) (sl : Nat → Nat) (sP sU sQ sH : Nat → Nat → Int) (sh sd lc lkk lh lo : Nat → Int),
  zx_st h t pf b K L C N cf ct qf qt wo sz re fe ru cd lk nk nc F0 pu ∧ zv_K1 h t K L C N cf ct qf qt U nx wo sz re fe ru cd lk P Pu Hd hr dp x sl sP sU sH sh sd lc lkk lh lo ∧ zv_K2 h b K L C N cf ct qf qt U uf wo sz re fe ru cd lk P Qu Hd hr dp x sl sP sQ sH sh sd lc lkk lh lo ∧ zv_V K L C U d e P Pu Qu Hd hr dp x sl lc lkk lh lo ∧ zx_hi K L C U e sP sU sQ sH sh sd ∧ e ≤ 9999 + 160 * m
def zx_M (h : zm_H) (m : Nat) : Prop := ∃ (tn : Nat) (tb S : Nat → Int) (fa fp rk : Int) (R : Nat → Int) (imn : Nat) (im : Nat → Int),
  zv_Ta h tn tb ∧ zv_Tb h tn tb ∧ (∀ i, 0 ≤ tb i ∧ tb i ≤ 255) ∧ (∀ i : Nat, i < 6 → h 145 i = S i ∧ h 173 i = S i ∧ 0 ≤ S i ∧ S i ≤ m) ∧ (h 29 2 = fa ∧ h 29 3 = fp ∧ h 146 10 = fa ∧ h 146 11 = fp) ∧ (h 4 17 = rk ∧ h 146 70 = rk ∧ (rk ≠ 0 → ∀ i : Nat, i < 40 → h 41 i = R i ∧ h 188 i = R i)) ∧ h 139 1 = imn ∧ h 146 77 = imn ∧ imn ≤ 188 ∧ ∀ i : Nat, i < imn → h 140 i = im i ∧ h 193 i = im i
def zx_R (h : zm_H) (m : Nat) : Prop := zx_M h m ∧ zx_S h m
/-- both sides tell the same, and go on -/
def zx_pr (c r : zm_H → Option (zm_V × zm_H)) (h : zm_H) (m : Nat) : Prop := ∃ z g1, c h = some (zm_I z, g1) ∧ ∃ g2, r g1 = some (zm_I z, g2) ∧ zx_R g2 (m + 1)
def zf_X (a : Nat) (i : Int) : Prop := zf_CA a i ∨ zf_DA a i
section
variable {h g : zm_H} {m t pf b K L C N cf ct qf qt U nx uf d e : Nat} {wo sz re fe ru cd : Nat → Int} {lk : Nat → Nat → Int} {nk nc : Nat → List Nat} {F0 : Nat → Int} {pu : Int} {P Pu Qu Hd : Nat → Int} {hr dp x : Int} {sl : Nat → Nat} {sP sU sQ sH : Nat → Nat → Int} {sh sd lc lkk lh lo : Nat → Int}
theorem zv_K1.low (k : zv_K1 h t K L C N cf ct qf qt U nx wo sz re fe ru cd lk P Pu Hd hr dp x sl sP sU sH sh sd lc lkk lh lo) (f : ∀ a : Nat, a ≤ 127 → g a = h a) : zv_K1 g t K L C N cf ct qf qt U nx wo sz re fe ru cd lk P Pu Hd hr dp x sl sP sU sH sh sd lc lkk lh lo := by
  obtain ⟨⟨c1, c2, c3, c4, c5⟩, hI, hx, hL⟩ := k
  exact ⟨⟨by rw [f 4 (by decide)]; exact c1, c2.kp (fun a ha => f a (by omega)), c3.kp (fun a ha => f a (by omega)), by rw [f 32 (by decide)]; exact c4, by rw [f 32 (by decide)]; exact c5⟩, hI.kp c2.1 (fun a ha => f a (by omega)), by rw [f 4 (by decide)]; exact hx, hL.kp (fun i _ _ => by rw [f 44 (by decide)]) (fun a _ h2 => f a h2)⟩
theorem zv_K2.hi (k : zv_K2 h b K L C N cf ct qf qt U uf wo sz re fe ru cd lk P Qu Hd hr dp x sl sP sQ sH sh sd lc lkk lh lo) (f : ∀ a : Nat, 146 ≤ a → g a = h a) : zv_K2 g b K L C N cf ct qf qt U uf wo sz re fe ru cd lk P Qu Hd hr dp x sl sP sQ sH sh sd lc lkk lh lo := by
  obtain ⟨⟨d1, d2, d3, d4⟩, hJ, hx, M1, M2, M3, M4, M5, M6⟩ := k
  refine ⟨⟨d1.kp (by rw [f 146 (by decide)]) (fun a q1 q2 => f a (by omega)), d2.kp (fun a q1 q2 => f a (by omega)), by rw [f 174 (by decide)]; exact d3, by rw [f 175 (by decide)]; exact d4⟩, hJ.kp (fun a q1 q2 => f a (by omega)), by rw [f 146 (by decide)]; exact hx, by rw [f 146 (by decide)]; exact M1, by rw [f 146 (by decide)]; exact M2, M3, M4, M5.kp (fun a q1 q2 => f a (by omega)), fun i v hi hv => ?_⟩
  obtain ⟨r1, r2, r3, r4⟩ := M6 i v hi hv
  exact ⟨r1.kp (fun a q1 q2 => f a (by omega)), by rw [f 174 (by decide)]; exact r2, by rw [f 175 (by decide)]; exact r3, r4.kp (fun a q1 q2 => f a (by omega))⟩
theorem zx_st.kp (s : zx_st h t pf b K L C N cf ct qf qt wo sz re fe ru cd lk nk nc F0 pu) (h4 : g 4 2 = h 4 2) (f : ∀ a : Nat, (7 ≤ a ∧ a ≤ 28) ∨ a = 31 ∨ a = 165 ∨ a = 166 → g a = h a) : zx_st g t pf b K L C N cf ct qf qt wo sz re fe ru cd lk nk nc F0 pu := by
  obtain ⟨⟨t1, t2, t3, b2⟩, B, Y, Nn, z, e2, ⟨c1, c2⟩, ⟨r1, r2⟩, ⟨p1, p2⟩, ow⟩ := s
  have hz := t1
  unfold zf_F at hz
  refine ⟨⟨t1, t2, t3, b2⟩, B, Y, Nn, z, h4.trans e2, ⟨?_, ?_⟩, ⟨?_, ?_⟩, ⟨?_, ?_⟩, ?_⟩
  · rw [f (t + 1) (by omega)]; exact c1
  · rw [f (t + 5) (by omega)]; exact c2
  · rw [f 165 (by omega)]; exact r1
  · rw [f 166 (by omega)]; exact r2
  · rw [f t (by omega)]; exact p1
  · rw [f (t + 4) (by omega)]; exact p2
  · rw [f 31 (by omega)]; exact ow
theorem zx_st.kx (s : zx_st h t pf b K L C N cf ct qf qt wo sz re fe ru cd lk nk nc F0 pu) (f : zq_F zf_X h g) : zx_st g t pf b K L C N cf ct qf qt wo sz re fe ru cd lk nk nc F0 pu := s.kp (f 4 2 (by unfold zf_X zf_CA zf_DA; omega)) (fun a ha => by funext i; exact f a i (by unfold zf_X zf_CA zf_DA; omega))
theorem zx_M.kp {m' : Nat} (M : zx_M h m) (hm : m ≤ m') (f : ∀ (a : Nat) (i : Int), (a = 5 ∧ i = 1) ∨ a = 6 ∨ a = 145 ∨ (a = 29 ∧ (i = 2 ∨ i = 3)) ∨ (a = 4 ∧ i = 17) ∨ a = 41 ∨ (a = 139 ∧ i = 1) ∨ a = 140 ∨ (a = 146 ∧ (i = 1 ∨ i = 10 ∨ i = 11 ∨ i = 70 ∨ i = 77)) ∨ a = 147 ∨ a = 173 ∨ a = 188 ∨ a = 193 → g a i = h a i) : zx_M g m' := by
  obtain ⟨tn, tb, S, fa, fp, rk, R, imn, im, ⟨a1, a2, a3⟩, ⟨b1, b2, b3⟩, tb255, s, ⟨f1, f2, f3, f4⟩, ⟨r1, r2, r3⟩, i1, i2, i3, i4⟩ := M
  refine ⟨tn, tb, S, fa, fp, rk, R, imn, im, ⟨?_, a2, fun i hi => ?_⟩, ⟨?_, b2, fun i hi => ?_⟩, tb255, fun i hi => ?_, ⟨?_, ?_, ?_, ?_⟩, ⟨?_, ?_, fun q i hi => ?_⟩, ?_, ?_, i3, fun i hi => ?_⟩
  · rw [f 5 1 (by omega)]; exact a1
  · rw [f 6 i (by omega)]; exact a3 i hi
  · rw [f 146 1 (by omega)]; exact b1
  · rw [f 147 i (by omega)]; exact b3 i hi
  · rw [f 145 i (by omega), f 173 i (by omega)]
    have := s i hi
    exact ⟨this.1, this.2.1, this.2.2.1, by omega⟩
  · rw [f 29 2 (by omega)]; exact f1
  · rw [f 29 3 (by omega)]; exact f2
  · rw [f 146 10 (by omega)]; exact f3
  · rw [f 146 11 (by omega)]; exact f4
  · rw [f 4 17 (by omega)]; exact r1
  · rw [f 146 70 (by omega)]; exact r2
  · rw [f 41 i (by omega), f 188 i (by omega)]; exact r3 q i hi
  · rw [f 139 1 (by omega)]; exact i1
  · rw [f 146 77 (by omega)]; exact i2
  · rw [f 140 i (by omega), f 193 i (by omega)]; exact i4 i hi
theorem zx_M.kx {m' : Nat} (M : zx_M h m) (hm : m ≤ m') (f : zq_F zf_X h g) : zx_M g m' := M.kp hm (fun a i q => f a i (by unfold zf_X zf_CA zf_DA; omega))
theorem zf_CA_X (f : zq_F zf_CA h g) : zq_F zf_X h g := zq_F_wk f (fun a i q => Or.inl q)
theorem zf_DA_X (f : zq_F zf_DA h g) : zq_F zf_X h g := zq_F_wk f (fun a i q => Or.inr q)
theorem zf_CA_hi (f : zq_F zf_CA h g) : ∀ a : Nat, 146 ≤ a → g a = h a := fun a ha => by funext i; exact f a i (by unfold zf_CA; omega)
theorem zf_DA_lo (f : zq_F zf_DA h g) : ∀ a : Nat, a ≤ 127 → g a = h a := fun a ha => by funext i; exact f a i (by unfold zf_DA; omega)
theorem zv_V.me {e' : Nat} (V : zv_V K L C U d e P Pu Qu Hd hr dp x sl lc lkk lh lo) (h1 : e ≤ e') (h2 : e' ≤ 99000) : zv_V K L C U d e' P Pu Qu Hd hr dp x sl lc lkk lh lo := by
  obtain ⟨v1, v2, v3, v4, v5, v6, v7, v8, v9, v10⟩ := V
  exact ⟨v1, v2, v3, v4, v5, v6, fun i hi => by have := v7 i hi; omega, by omega, by omega, h2⟩
theorem zx_hi.me {e' : Nat} (H : zx_hi K L C U e sP sU sQ sH sh sd) (h1 : e ≤ e') : zx_hi K L C U e' sP sU sQ sH sh sd := fun i hi => by
  obtain ⟨v1, v2, v3, v4, v5, v6⟩ := H i hi
  exact ⟨v1, v2, v3, v4, fun j hj => by have := v5 j hj; omega, by omega⟩
/-- what is remembered -/
theorem zx_hi.rem (H : zx_hi K L C U e sP sU sQ sH sh sd) (V : zv_V K L C U d e P Pu Qu Hd hr dp x sl lc lkk lh lo) : zx_hi K L C (U + 1 - zp_sft U) e (zp_sx U sP P) (zp_sx U sU Pu) (zp_sx U sQ Qu) (zp_sx U sH Hd) (zp_sx U sh hr) (zp_sx U sd dp) := by
  intro i hi
  obtain ⟨v1, v2, v3, v4, v5, v6, v7, v8, v9, v10⟩ := V
  unfold zp_sx
  by_cases q : i + zp_sft U < U
  · rw [if_pos q, if_pos q, if_pos q, if_pos q, if_pos q, if_pos q]
    exact H _ q
  · rw [if_neg q, if_neg q, if_neg q, if_neg q, if_neg q, if_neg q]
    exact ⟨v1, v2, v4, v5, v7, v8⟩
theorem zx_S.x0 {m' : Nat} (S : zx_S h m) (hm : m ≤ m') (f1 : zq_F zf_Cs h g) : zx_S g m' := by
  obtain ⟨t, pf, b, K, L, C, N, cf, ct, qf, qt, U, nx, uf, d, e, wo, sz, re, fe, ru, cd, lk, nk, nc, F0, pu, P, Pu, Qu, Hd, hr, dp, x, sl, sP, sU, sQ, sH, sh, sd, lc, lkk, lh, lo, st, k1, k2, V, H, he⟩ := S
  refine ⟨t, pf, b, K, L, C, N, cf, ct, qf, qt, U, nx, uf, d, e, wo, sz, re, fe, ru, cd, lk, nk, nc, F0, pu, P, Pu, Qu, Hd, hr, dp, x, sl, sP, sU, sQ, sH, sh, sd, lc, lkk, lh, lo, st.kx (zf_CA_X (zf_Cs_CA f1)), k1.cs f1, k2.hi (zf_CA_hi (zf_Cs_CA f1)), V, H, by omega⟩
theorem zx_S.x1 {m' : Nat} (S : zx_S h m) (hm : m ≤ m') (f1 : zq_F zf_Ds h g) : zx_S g m' := by
  obtain ⟨t, pf, b, K, L, C, N, cf, ct, qf, qt, U, nx, uf, d, e, wo, sz, re, fe, ru, cd, lk, nk, nc, F0, pu, P, Pu, Qu, Hd, hr, dp, x, sl, sP, sU, sQ, sH, sh, sd, lc, lkk, lh, lo, st, k1, k2, V, H, he⟩ := S
  refine ⟨t, pf, b, K, L, C, N, cf, ct, qf, qt, U, nx, uf, d, e, wo, sz, re, fe, ru, cd, lk, nk, nc, F0, pu, P, Pu, Qu, Hd, hr, dp, x, sl, sP, sU, sQ, sH, sh, sd, lc, lkk, lh, lo, st.kx (zf_DA_X (zf_Ds_DA f1)), k1.low (zf_DA_lo (zf_Ds_DA f1)), k2.ds f1, V, H, by omega⟩
/-- a call that tells something and changes nothing -/
theorem zx_q {c r : zm_H → Option (zm_V × zm_H)} {Z : Int} (R : zx_R h m) (hc : zi (c h) (fun z g => z = Z ∧ zq_F zf_Cs h g)) (hr : ∀ g1, zq_F zf_Cs h g1 → zx_R g1 m → zi (r g1) (fun z g => z = Z ∧ zq_F zf_Ds g1 g)) : zx_pr c r h m := by
  obtain ⟨v, g1, e1, z, rfl, rfl, f1⟩ := hc
  have R1 : zx_R g1 m := ⟨R.1.kx (Nat.le_refl _) (zf_CA_X (zf_Cs_CA f1)), R.2.x0 (Nat.le_refl _) f1⟩
  obtain ⟨v2, g2, e2, z2, rfl, rfl, f2⟩ := hr g1 f1 R1
  exact ⟨_, g1, e1, g2, e2, R1.1.kx (Nat.le_succ _) (zf_DA_X (zf_Ds_DA f2)), R1.2.x1 (Nat.le_succ _) f2⟩
/-- a call refused -/
theorem zx_n {c r : zm_H → Option (zm_V × zm_H)} {Z : Int} {w : Nat} (R : zx_R h m) (hw : w < 6) (hm : m < 1000000) (hc : ∀ n : Int, h 145 w = n → 0 ≤ n ∧ n ≤ 1000000 → zi (c h) (fun z g => z = Z ∧ ∃ g0, zq_F zf_Cs h g0 ∧ g = zm_wr g0 145 w (n + 1))) (hr : ∀ (n : Int) g1, (∀ a : Nat, 146 ≤ a → g1 a = h a) → g1 173 w = n → 0 ≤ n ∧ n ≤ 1000000 → zi (r g1) (fun z g => z = Z ∧ ∃ g0, zq_F zf_Ds g1 g0 ∧ g = zm_wr g0 173 w (n + 1))) : zx_pr c r h m := by
  obtain ⟨M, S⟩ := R
  have M' := M
  obtain ⟨tn, tb, Sr, fa, fp, rk, R, imn, im, a1, b1, tb255, s, fl, rw', im'⟩ := M'
  obtain ⟨s1, s2, s3, s4⟩ := s w hw
  obtain ⟨v, g1, e1, z, rfl, rfl, g0, f0, hg1⟩ := hc (Sr w) s1 ⟨s3, by omega⟩
  have hi1 : ∀ a : Nat, 146 ≤ a → g1 a = h a := fun a ha => by
    funext i
    rw [hg1, zq_wr_n (by omega), f0 a i (by unfold zf_Cs; omega)]
  obtain ⟨v2, g2, e2, z2, rfl, rfl, g3, f3, hg2⟩ := hr (Sr w) g1 hi1 (by rw [hi1 173 (by decide)]; exact s2) ⟨s3, by omega⟩
  refine ⟨_, g1, e1, g2, e2, ?_, ?_⟩
  · have k : ∀ (a : Nat) (i : Int), a ≠ 145 → a ≠ 173 → (a = 5 ∧ i = 1) ∨ a = 6 ∨ (a = 29 ∧ (i = 2 ∨ i = 3)) ∨ (a = 4 ∧ i = 17) ∨ a = 41 ∨ (a = 139 ∧ i = 1) ∨ a = 140 ∨ (a = 146 ∧ (i = 1 ∨ i = 10 ∨ i = 11 ∨ i = 70 ∨ i = 77)) ∨ a = 147 ∨ a = 188 ∨ a = 193 → g2 a i = h a i := by
      intro a i q1 q2 q
      rw [hg2, zq_wr_n q2, f3 a i (by unfold zf_Ds; omega), hg1, zq_wr_n q1, f0 a i (by unfold zf_Cs; omega)]
    have k145 : ∀ i : Int, i ≠ w → g2 145 i = h 145 i := fun i hi => by
      rw [hg2, zq_wr_n (by decide), f3 145 i (by unfold zf_Ds; omega), hg1, zq_wr_i hi, f0 145 i (by unfold zf_Cs; omega)]
    have k173 : ∀ i : Int, i ≠ w → g2 173 i = h 173 i := fun i hi => by
      rw [hg2, zq_wr_i hi, f3 173 i (by unfold zf_Ds; omega), hi1 173 (by decide)]
    obtain ⟨a1, a2, a3⟩ := a1
    obtain ⟨b1, b2, b3⟩ := b1
    obtain ⟨f1, f2, f3', f4⟩ := fl
    obtain ⟨r1, r2, r3⟩ := rw'
    obtain ⟨i1, i2, i3, i4⟩ := im'
    refine ⟨tn, tb, fun i => if i = w then Sr w + 1 else Sr i, fa, fp, rk, R, imn, im, ⟨?_, a2, fun i hi => ?_⟩, ⟨?_, b2, fun i hi => ?_⟩, tb255, fun i hi => ?_, ⟨?_, ?_, ?_, ?_⟩, ⟨?_, ?_, fun q i hi => ?_⟩, ?_, ?_, i3, fun i hi => ?_⟩
    · rw [k 5 1 (by decide) (by decide) (by omega)]; exact a1
    · rw [k 6 i (by decide) (by decide) (by omega)]; exact a3 i hi
    · rw [k 146 1 (by decide) (by decide) (by omega)]; exact b1
    · rw [k 147 i (by decide) (by decide) (by omega)]; exact b3 i hi
    · show g2 145 i = (if i = w then Sr w + 1 else Sr i) ∧ g2 173 i = (if i = w then Sr w + 1 else Sr i) ∧ 0 ≤ (if i = w then Sr w + 1 else Sr i) ∧ (if i = w then Sr w + 1 else Sr i) ≤ ((m + 1 : Nat) : Int)
      by_cases q : i = w
      · subst q
        rw [if_pos rfl]
        refine ⟨?_, ?_, by omega, by omega⟩
        · rw [hg2, zq_wr_n (by decide), f3 145 i (by unfold zf_Ds; omega), hg1, zq_wr_e]
        · rw [hg2, zq_wr_e]
      · rw [if_neg q, k145 i (by omega), k173 i (by omega)]
        have := s i hi
        exact ⟨this.1, this.2.1, this.2.2.1, by omega⟩
    · rw [k 29 2 (by decide) (by decide) (by omega)]; exact f1
    · rw [k 29 3 (by decide) (by decide) (by omega)]; exact f2
    · rw [k 146 10 (by decide) (by decide) (by omega)]; exact f3'
    · rw [k 146 11 (by decide) (by decide) (by omega)]; exact f4
    · rw [k 4 17 (by decide) (by decide) (by omega)]; exact r1
    · rw [k 146 70 (by decide) (by decide) (by omega)]; exact r2
    · rw [k 41 i (by decide) (by decide) (by omega), k 188 i (by decide) (by decide) (by omega)]; exact r3 q i hi
    · rw [k 139 1 (by decide) (by decide) (by omega)]; exact i1
    · rw [k 146 77 (by decide) (by decide) (by omega)]; exact i2
    · rw [k 140 i (by decide) (by decide) (by omega), k 193 i (by decide) (by decide) (by omega)]; exact i4 i hi
  · have S0 := S.x0 (Nat.le_refl _) f0
    obtain ⟨t, pf, b, K, L, C, N, cf, ct, qf, qt, U, nx, uf, d, e, wo, sz, re, fe, ru, cd, lk, nk, nc, F0, pu, P, Pu, Qu, Hd, hr, dp, x, sl, sP, sU, sQ, sH, sh, sd, lc, lkk, lh, lo, st, k1, k2, V, H, he⟩ := S0
    have S1 : zx_S g1 m := ⟨t, pf, b, K, L, C, N, cf, ct, qf, qt, U, nx, uf, d, e, wo, sz, re, fe, ru, cd, lk, nk, nc, F0, pu, P, Pu, Qu, Hd, hr, dp, x, sl, sP, sU, sQ, sH, sh, sd, lc, lkk, lh, lo, st.kp (by rw [hg1, zq_wr_n (by decide)]) (fun a ha => by funext i; rw [hg1, zq_wr_n (by omega)]), k1.low (fun a ha => by funext i; rw [hg1, zq_wr_n (by omega)]), k2.hi (fun a ha => by funext i; rw [hg1, zq_wr_n (by omega)]), V, H, he⟩
    have S3 := S1.x1 (Nat.le_refl _) f3
    obtain ⟨t, pf, b, K, L, C, N, cf, ct, qf, qt, U, nx, uf, d, e, wo, sz, re, fe, ru, cd, lk, nk, nc, F0, pu, P, Pu, Qu, Hd, hr, dp, x, sl, sP, sU, sQ, sH, sh, sd, lc, lkk, lh, lo, st, k1, k2, V, H, he⟩ := S3
    refine ⟨t, pf, b, K, L, C, N, cf, ct, qf, qt, U, nx, uf, d, e, wo, sz, re, fe, ru, cd, lk, nk, nc, F0, pu, P, Pu, Qu, Hd, hr, dp, x, sl, sP, sU, sQ, sH, sh, sd, lc, lkk, lh, lo, st.kp (by rw [hg2, zq_wr_n (by decide)]) (fun a ha => by funext i; rw [hg2, zq_wr_n (by omega)]), k1.low (fun a ha => by funext i; rw [hg2, zq_wr_n (by omega)]), ?_, V, H, by omega⟩
    obtain ⟨⟨d1, d2, d3, d4⟩, hJ, hx, M1, M2, M3, M4, M5, M6⟩ := k2
    have k : ∀ a : Nat, a ≠ 173 → g2 a = g3 a := fun a ha => by funext i; rw [hg2, zq_wr_n ha]
    refine ⟨⟨d1.kp (by rw [k 146 (by decide)]) (fun a q1 q2 => k a (by omega)), d2.kp (fun a q1 q2 => k a (by omega)), by rw [k 174 (by decide)]; exact d3, by rw [k 175 (by decide)]; exact d4⟩, hJ.kp (fun a q1 q2 => k a (by omega)), by rw [k 146 (by decide)]; exact hx, by rw [k 146 (by decide)]; exact M1, by rw [k 146 (by decide)]; exact M2, M3, M4, M5.kp (fun a q1 q2 => k a (by omega)), fun i v hi hv => ?_⟩
    obtain ⟨r1, r2, r3, r4⟩ := M6 i v hi hv
    exact ⟨r1.kp (fun a q1 q2 => k a (by omega)), by rw [k 174 (by decide)]; exact r2, by rw [k 175 (by decide)]; exact r3, r4.kp (fun a q1 q2 => k a (by omega))⟩
end
