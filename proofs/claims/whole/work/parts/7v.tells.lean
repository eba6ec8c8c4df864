/-! THE LAW: calls that tell something -/
section
variable {h : zm_H} {m : Nat}
theorem zp_img_q {K L C : Nat} {P Pu Qu Hd : Nat → Int} {hr dp : Int} (hq : ∀ c, c < C → Qu c = Pu c) : zp_img K L C P Qu Hd hr dp = zp_img K L C P Pu Hd hr dp := by
  unfold zp_img zp_im0
  rw [zp_imc_q C hq]
theorem zx_o4 (R : zx_R h m) (w : Int) : zx_pr (fun h => zc 7 [zm_A 4, zm_I w] h) (fun h => zc 203 [zm_A 146, zm_I w] h) h m := by
  obtain ⟨t, pf, b, K, L, C, N, cf, ct, qf, qt, U, nx, uf, d, e, wo, sz, re, fe, ru, cd, lk, nk, nc, F0, pu, P, Pu, Qu, Hd, hr, dp, x, sl, sP, sU, sQ, sH, sh, sd, lc, lkk, lh, lo, st, k1, k2, V, H, he⟩ := R.2
  have hV4 := V.2.2.2.1
  have hZ := V.2.2.1
  refine zx_q R (s_7 k1 V.1 st.2.2.1 w) (fun g1 f1 R1 => ?_)
  have k3 := k2.hi (zf_CA_hi (zf_Cs_CA f1))
  exact s_203 k3 st.2.1 V st.2.2.1 w
theorem zx_o5 (R : zx_R h m) (y z w : Int) : zx_pr (fun h => zc 10 [zm_A 4, zm_I y, zm_I z, zm_I w] h) (fun h => zc 216 [zm_A 146, zm_I y, zm_I z, zm_I w] h) h m := by
  obtain ⟨t, pf, b, K, L, C, N, cf, ct, qf, qt, U, nx, uf, d, e, wo, sz, re, fe, ru, cd, lk, nk, nc, F0, pu, P, Pu, Qu, Hd, hr, dp, x, sl, sP, sU, sQ, sH, sh, sd, lc, lkk, lh, lo, st, k1, k2, V, H, he⟩ := R.2
  have hV4 := V.2.2.2.1
  have hZ := V.2.2.1
  refine zx_q R (zi_m (s_10 k1.1 st.2.1 st.2.2.2.2.2.2.1 st.2.2.2.1 y z w) (fun z g q => ⟨q.1, by rw [q.2]; exact zq_F_rf⟩)) (fun g1 f1 R1 => ?_)
  have k3 := k2.hi (zf_CA_hi (zf_Cs_CA f1))
  exact zi_m (s_216 k3.1 st.2.1 (by have := st.2.2.2.2.2.2.2.1; exact ⟨fun k hk j hj => by rw [zf_CA_hi (zf_Cs_CA f1) 165 (by decide)]; exact this.1 k hk j hj, fun k hk j hj => by rw [zf_CA_hi (zf_Cs_CA f1) 166 (by decide)]; exact this.2 k hk j hj⟩) st.2.2.2.1 y z w) (fun z g q => ⟨q.1, by rw [q.2]; exact zq_F_rf⟩)
theorem zx_o6 (R : zx_R h m) (y z : Int) : zx_pr (fun h => zc 13 [zm_A 4, zm_I y, zm_I z] h) (fun h => zc 217 [zm_A 146, zm_I y, zm_I z] h) h m := by
  obtain ⟨t, pf, b, K, L, C, N, cf, ct, qf, qt, U, nx, uf, d, e, wo, sz, re, fe, ru, cd, lk, nk, nc, F0, pu, P, Pu, Qu, Hd, hr, dp, x, sl, sP, sU, sQ, sH, sh, sd, lc, lkk, lh, lo, st, k1, k2, V, H, he⟩ := R.2
  have hV4 := V.2.2.2.1
  have hZ := V.2.2.1
  refine zx_q R (zi_m (s_13 k1.1 st.2.1 V.1 y z) (fun z g q => ⟨q.1, by rw [q.2]; exact zq_F_rf⟩)) (fun g1 f1 R1 => ?_)
  have k3 := k2.hi (zf_CA_hi (zf_Cs_CA f1))
  exact zi_m (s_217 k3.1 st.2.1 V.2.1 y z) (fun z g q => ⟨q.1, by rw [q.2]; exact zq_F_rf⟩)
theorem zx_o7 (R : zx_R h m) (y z : Int) : zx_pr (fun h => zc 14 [zm_A 4, zm_I y, zm_I z] h) (fun h => zc 220 [zm_A 146, zm_I y, zm_I z] h) h m := by
  obtain ⟨t, pf, b, K, L, C, N, cf, ct, qf, qt, U, nx, uf, d, e, wo, sz, re, fe, ru, cd, lk, nk, nc, F0, pu, P, Pu, Qu, Hd, hr, dp, x, sl, sP, sU, sQ, sH, sh, sd, lc, lkk, lh, lo, st, k1, k2, V, H, he⟩ := R.2
  have hV4 := V.2.2.2.1
  have hZ := V.2.2.1
  refine zx_q R (zi_m (s_14 k1.1 st.2.1 V.1.1 y z) (fun z g q => ⟨q.1, by rw [q.2]; exact zq_F_rf⟩)) (fun g1 f1 R1 => ?_)
  have k3 := k2.hi (zf_CA_hi (zf_Cs_CA f1))
  exact zi_m (s_220 k3.1 st.2.1 V.2.1.1 y z) (fun z g q => ⟨q.1, by rw [q.2]; exact zq_F_rf⟩)
theorem zx_o8 (R : zx_R h m) (y z : Int) : zx_pr (fun h => zc 16 [zm_A 4, zm_I y, zm_I z] h) (fun h => zc 222 [zm_A 146, zm_I y, zm_I z] h) h m := by
  obtain ⟨t, pf, b, K, L, C, N, cf, ct, qf, qt, U, nx, uf, d, e, wo, sz, re, fe, ru, cd, lk, nk, nc, F0, pu, P, Pu, Qu, Hd, hr, dp, x, sl, sP, sU, sQ, sH, sh, sd, lc, lkk, lh, lo, st, k1, k2, V, H, he⟩ := R.2
  have hV4 := V.2.2.2.1
  have hZ := V.2.2.1
  refine zx_q R (s_16 k1.1 st.2.1 V.1 y z) (fun g1 f1 R1 => ?_)
  have k3 := k2.hi (zf_CA_hi (zf_Cs_CA f1))
  exact zi_m (s_222 k3.1 st.2.1 V.2.1 y z) (fun z g q => ⟨q.1.trans (zp_q1_q (fun c hc => zp_child_q (hV4 c hc))), q.2⟩)
theorem zx_o9 (R : zx_R h m) (y z w : Int) : zx_pr (fun h => zc 19 [zm_A 4, zm_I y, zm_I z, zm_I w] h) (fun h => zc 229 [zm_A 146, zm_I y, zm_I z, zm_I w] h) h m := by
  obtain ⟨t, pf, b, K, L, C, N, cf, ct, qf, qt, U, nx, uf, d, e, wo, sz, re, fe, ru, cd, lk, nk, nc, F0, pu, P, Pu, Qu, Hd, hr, dp, x, sl, sP, sU, sQ, sH, sh, sd, lc, lkk, lh, lo, st, k1, k2, V, H, he⟩ := R.2
  have hV4 := V.2.2.2.1
  have hZ := V.2.2.1
  refine zx_q R (s_19 k1.1 st.2.1 V.1 y z w) (fun g1 f1 R1 => ?_)
  have k3 := k2.hi (zf_CA_hi (zf_Cs_CA f1))
  exact s_229 k3.1 st.2.1 V.2.1.1 y z w
theorem zx_o10 (R : zx_R h m) (y z : Int) : zx_pr (fun h => zc 20 [zm_A 4, zm_I y, zm_I z] h) (fun h => zc 230 [zm_A 146, zm_I y, zm_I z] h) h m := by
  obtain ⟨t, pf, b, K, L, C, N, cf, ct, qf, qt, U, nx, uf, d, e, wo, sz, re, fe, ru, cd, lk, nk, nc, F0, pu, P, Pu, Qu, Hd, hr, dp, x, sl, sP, sU, sQ, sH, sh, sd, lc, lkk, lh, lo, st, k1, k2, V, H, he⟩ := R.2
  have hV4 := V.2.2.2.1
  have hZ := V.2.2.1
  refine zx_q R (s_20 k1.1 st.2.1 V.1 y z) (fun g1 f1 R1 => ?_)
  have k3 := k2.hi (zf_CA_hi (zf_Cs_CA f1))
  exact s_230 k3.1 st.2.1 V.2.1.1 y z
theorem zx_o11 (R : zx_R h m) (y z : Int) : zx_pr (fun h => zc 22 [zm_A 4, zm_I y, zm_I z] h) (fun h => zc 232 [zm_A 146, zm_I y, zm_I z] h) h m := by
  obtain ⟨t, pf, b, K, L, C, N, cf, ct, qf, qt, U, nx, uf, d, e, wo, sz, re, fe, ru, cd, lk, nk, nc, F0, pu, P, Pu, Qu, Hd, hr, dp, x, sl, sP, sU, sQ, sH, sh, sd, lc, lkk, lh, lo, st, k1, k2, V, H, he⟩ := R.2
  have hV4 := V.2.2.2.1
  have hZ := V.2.2.1
  refine zx_q R (s_22 k1.1 st.2.1 V.1 y z) (fun g1 f1 R1 => ?_)
  have k3 := k2.hi (zf_CA_hi (zf_Cs_CA f1))
  exact s_232 k3.1 st.2.1 V.2.1.1 y z
theorem zx_o12 (R : zx_R h m) (y : Int) : zx_pr (fun h => zc 23 [zm_A 4, zm_I y] h) (fun h => zc 238 [zm_A 146, zm_I y] h) h m := by
  obtain ⟨t, pf, b, K, L, C, N, cf, ct, qf, qt, U, nx, uf, d, e, wo, sz, re, fe, ru, cd, lk, nk, nc, F0, pu, P, Pu, Qu, Hd, hr, dp, x, sl, sP, sU, sQ, sH, sh, sd, lc, lkk, lh, lo, st, k1, k2, V, H, he⟩ := R.2
  have hV4 := V.2.2.2.1
  have hZ := V.2.2.1
  refine zx_q R (s_23 k1.1 st.2.1 V.1 y) (fun g1 f1 R1 => ?_)
  have k3 := k2.hi (zf_CA_hi (zf_Cs_CA f1))
  exact s_238 k3.1 st.2.1 V.2.1.1 y
theorem zx_o13 (R : zx_R h m) (y z : Int) : zx_pr (fun h => zc 24 [zm_A 4, zm_I y, zm_I z] h) (fun h => zc 240 [zm_A 146, zm_I y, zm_I z] h) h m := by
  obtain ⟨t, pf, b, K, L, C, N, cf, ct, qf, qt, U, nx, uf, d, e, wo, sz, re, fe, ru, cd, lk, nk, nc, F0, pu, P, Pu, Qu, Hd, hr, dp, x, sl, sP, sU, sQ, sH, sh, sd, lc, lkk, lh, lo, st, k1, k2, V, H, he⟩ := R.2
  have hV4 := V.2.2.2.1
  have hZ := V.2.2.1
  refine zx_q R (s_24 k1.1 st.2.1 V.1 y z) (fun g1 f1 R1 => ?_)
  have k3 := k2.hi (zf_CA_hi (zf_Cs_CA f1))
  exact zi_m (s_240 k3.1 st.2.1 V.2.1.1 y z) (fun z g q => ⟨q.1.trans (zp_comes_q hV4), q.2⟩)
theorem zx_o14 (R : zx_R h m) (y : Int) : zx_pr (fun h => zc 27 [zm_A 4, zm_I y] h) (fun h => zc 243 [zm_A 146, zm_I y] h) h m := by
  obtain ⟨t, pf, b, K, L, C, N, cf, ct, qf, qt, U, nx, uf, d, e, wo, sz, re, fe, ru, cd, lk, nk, nc, F0, pu, P, Pu, Qu, Hd, hr, dp, x, sl, sP, sU, sQ, sH, sh, sd, lc, lkk, lh, lo, st, k1, k2, V, H, he⟩ := R.2
  have hV4 := V.2.2.2.1
  have hZ := V.2.2.1
  refine zx_q R (s_27 k1.1 st.2.1 V.1 y) (fun g1 f1 R1 => ?_)
  have k3 := k2.hi (zf_CA_hi (zf_Cs_CA f1))
  exact zi_m (s_243 k3.1 st.2.1 V.2.1.1 y) (fun z g q => ⟨q.1.trans (zp_price_q hV4), q.2⟩)
theorem zx_o15 (R : zx_R h m) (y z : Int) : zx_pr (fun h => zc 29 [zm_A 4, zm_I y, zm_I z] h) (fun h => zc 244 [zm_A 146, zm_I y, zm_I z] h) h m := by
  obtain ⟨t, pf, b, K, L, C, N, cf, ct, qf, qt, U, nx, uf, d, e, wo, sz, re, fe, ru, cd, lk, nk, nc, F0, pu, P, Pu, Qu, Hd, hr, dp, x, sl, sP, sU, sQ, sH, sh, sd, lc, lkk, lh, lo, st, k1, k2, V, H, he⟩ := R.2
  have hV4 := V.2.2.2.1
  have hZ := V.2.2.1
  refine zx_q R (s_29 k1.1 st.2.1 V.1 y z) (fun g1 f1 R1 => ?_)
  have k3 := k2.hi (zf_CA_hi (zf_Cs_CA f1))
  exact s_244 k3.1 st.2.1 V.2.1 y z
theorem zx_o24 (R : zx_R h m) (y z : Int) : zx_pr (fun h => zc 45 [zm_A 4, zm_I y, zm_I z] h) (fun h => zc 259 [zm_A 146, zm_I y, zm_I z] h) h m := by
  obtain ⟨t, pf, b, K, L, C, N, cf, ct, qf, qt, U, nx, uf, d, e, wo, sz, re, fe, ru, cd, lk, nk, nc, F0, pu, P, Pu, Qu, Hd, hr, dp, x, sl, sP, sU, sQ, sH, sh, sd, lc, lkk, lh, lo, st, k1, k2, V, H, he⟩ := R.2
  have hV4 := V.2.2.2.1
  have hZ := V.2.2.1
  refine zx_q R (zi_m (s_45 k1.2.2.2 hZ y z) (fun z g q => ⟨q.1, by rw [q.2]; exact zq_F_rf⟩)) (fun g1 f1 R1 => ?_)
  have k3 := k2.hi (zf_CA_hi (zf_Cs_CA f1))
  exact zi_m (s_259 k3.2.2.2.2.2.2.2.1 y z) (fun z g q => ⟨q.1, by rw [q.2]; exact zq_F_rf⟩)
theorem zx_o27 (R : zx_R h m) (y z : Int) : zx_pr (fun h => zc 50 [zm_A 4, zm_I y, zm_I z] h) (fun h => zc 263 [zm_A 146, zm_I y, zm_I z] h) h m := by
  obtain ⟨t, pf, b, K, L, C, N, cf, ct, qf, qt, U, nx, uf, d, e, wo, sz, re, fe, ru, cd, lk, nk, nc, F0, pu, P, Pu, Qu, Hd, hr, dp, x, sl, sP, sU, sQ, sH, sh, sd, lc, lkk, lh, lo, st, k1, k2, V, H, he⟩ := R.2
  have hV4 := V.2.2.2.1
  have hZ := V.2.2.1
  refine zx_q R (s_50 k1.1 st.2.1 V.1 y z) (fun g1 f1 R1 => ?_)
  have k3 := k2.hi (zf_CA_hi (zf_Cs_CA f1))
  exact s_263 k3.1 st.2.1 V.2.1 y z
theorem zx_o3 (R : zx_R h m) (y : Int) : zx_pr (fun h => zc 6 [zm_A 4, zm_I y] h) (fun h => zc 198 [zm_A 146, zm_I y] h) h m := by
  obtain ⟨tn, tb, S, fa, fp, rk, RR, imn, im, ⟨a1, a2, a3⟩, ⟨b1, b2, b3⟩, tb255, s, ⟨f1, f2, f3, f4⟩, ⟨r1, r2, r3⟩, i1, i2, i3, i4⟩ := R.1
  obtain ⟨t, pf, b, K, L, C, N, cf, ct, qf, qt, U, nx, uf, d, e, wo, sz, re, fe, ru, cd, lk, nk, nc, F0, pu, P, Pu, Qu, Hd, hr, dp, x, sl, sP, sU, sQ, sH, sh, sd, lc, lkk, lh, lo, st, k1, k2, V, H, he⟩ := R.2
  refine zx_q R (zi_m (s_6 f1 f2 y) (fun z g q => ⟨q.1, by rw [q.2]; exact zq_F_rf⟩)) (fun g1 ff R1 => ?_)
  have kk := zf_CA_hi (zf_Cs_CA ff)
  have k3 := k2.hi kk
  exact zi_m (s_198 (by rw [kk 146 (by decide)]; exact f3) (by rw [kk 146 (by decide)]; exact f4) y) (fun z g q => ⟨q.1, by rw [q.2]; exact zq_F_rf⟩)
theorem zx_o26 (R : zx_R h m) (y z : Int) : zx_pr (fun h => zc 49 [zm_A 4, zm_I y, zm_I z] h) (fun h => zc 262 [zm_A 146, zm_I y, zm_I z] h) h m := by
  obtain ⟨tn, tb, S, fa, fp, rk, RR, imn, im, ⟨a1, a2, a3⟩, ⟨b1, b2, b3⟩, tb255, s, ⟨f1, f2, f3, f4⟩, ⟨r1, r2, r3⟩, i1, i2, i3, i4⟩ := R.1
  obtain ⟨t, pf, b, K, L, C, N, cf, ct, qf, qt, U, nx, uf, d, e, wo, sz, re, fe, ru, cd, lk, nk, nc, F0, pu, P, Pu, Qu, Hd, hr, dp, x, sl, sP, sU, sQ, sH, sh, sd, lc, lkk, lh, lo, st, k1, k2, V, H, he⟩ := R.2
  refine zx_q R (zi_m (s_49 k1.1 st.2.1 r1 (fun q i hi => (r3 q i hi).1) y z) (fun z g q => ⟨q.1, by rw [q.2]; exact zq_F_rf⟩)) (fun g1 ff R1 => ?_)
  have kk := zf_CA_hi (zf_Cs_CA ff)
  have k3 := k2.hi kk
  exact zi_m (s_262 k3.1 st.2.1 (by rw [kk 146 (by decide)]; exact r2) (fun q i hi => by rw [kk 188 (by decide)]; exact (r3 q i hi).2) y z) (fun z g q => ⟨q.1, by rw [q.2]; exact zq_F_rf⟩)
theorem zx_o29 (R : zx_R h m) (y : Int) : zx_pr (fun h => zc 52 [zm_A 4, zm_I y] h) (fun h => zc 271 [zm_A 146, zm_I y] h) h m := by
  obtain ⟨tn, tb, S, fa, fp, rk, RR, imn, im, ⟨a1, a2, a3⟩, ⟨b1, b2, b3⟩, tb255, s, ⟨f1, f2, f3, f4⟩, ⟨r1, r2, r3⟩, i1, i2, i3, i4⟩ := R.1
  obtain ⟨t, pf, b, K, L, C, N, cf, ct, qf, qt, U, nx, uf, d, e, wo, sz, re, fe, ru, cd, lk, nk, nc, F0, pu, P, Pu, Qu, Hd, hr, dp, x, sl, sP, sU, sQ, sH, sh, sd, lc, lkk, lh, lo, st, k1, k2, V, H, he⟩ := R.2
  refine zx_q R (zi_m (s_52 i1 i3 (fun i hi => (i4 i hi).1) y) (fun z g q => ⟨q.1, by rw [q.2]; exact zq_F_rf⟩)) (fun g1 ff R1 => ?_)
  have kk := zf_CA_hi (zf_Cs_CA ff)
  have k3 := k2.hi kk
  exact zi_m (s_271 (by rw [kk 146 (by decide)]; exact i2) i3 (fun i hi => by rw [kk 193 (by decide)]; exact (i4 i hi).2) y) (fun z g q => ⟨q.1, by rw [q.2]; exact zq_F_rf⟩)
theorem zx_o31 (R : zx_R h m) (y : Int) : zx_pr (fun h => zc 54 [zm_A 4, zm_I y] h) (fun h => zc 199 [zm_A 146, zm_I y] h) h m := by
  obtain ⟨tn, tb, S, fa, fp, rk, RR, imn, im, ⟨a1, a2, a3⟩, ⟨b1, b2, b3⟩, tb255, s, ⟨f1, f2, f3, f4⟩, ⟨r1, r2, r3⟩, i1, i2, i3, i4⟩ := R.1
  obtain ⟨t, pf, b, K, L, C, N, cf, ct, qf, qt, U, nx, uf, d, e, wo, sz, re, fe, ru, cd, lk, nk, nc, F0, pu, P, Pu, Qu, Hd, hr, dp, x, sl, sP, sU, sQ, sH, sh, sd, lc, lkk, lh, lo, st, k1, k2, V, H, he⟩ := R.2
  refine zx_q R (zi_m (s_54 (fun i hi => (s i hi).1) y) (fun z g q => ⟨q.1, by rw [q.2]; exact zq_F_rf⟩)) (fun g1 ff R1 => ?_)
  have kk := zf_CA_hi (zf_Cs_CA ff)
  have k3 := k2.hi kk
  exact zi_m (s_199 (fun i hi => by rw [kk 173 (by decide)]; exact (s i hi).2.1) y) (fun z g q => ⟨q.1, by rw [q.2]; exact zq_F_rf⟩)
end
