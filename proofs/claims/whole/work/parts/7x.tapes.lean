/-! THE LAW: calls that change the tape, the row, the image, what was refused -/
def zx_T (h : zm_H) (tn : Nat) (tb : Nat → Int) : Prop := zv_Ta h tn tb ∧ zv_Tb h tn tb ∧ ∀ i, 0 ≤ tb i ∧ tb i ≤ 255
def zx_Rf (h : zm_H) (m : Nat) : Prop := ∃ S : Nat → Int, ∀ i : Nat, i < 6 → h 145 i = S i ∧ h 173 i = S i ∧ 0 ≤ S i ∧ S i ≤ m
def zx_Ft (h : zm_H) : Prop := ∃ fa fp : Int, h 29 2 = fa ∧ h 29 3 = fp ∧ h 146 10 = fa ∧ h 146 11 = fp
def zx_Ro (h : zm_H) : Prop := ∃ (rk : Int) (R : Nat → Int), h 4 17 = rk ∧ h 146 70 = rk ∧ (rk ≠ 0 → ∀ i : Nat, i < 40 → h 41 i = R i ∧ h 188 i = R i)
def zx_Im (h : zm_H) : Prop := ∃ (imn : Nat) (im : Nat → Int), h 139 1 = imn ∧ h 146 77 = imn ∧ imn ≤ 188 ∧ ∀ i : Nat, i < imn → h 140 i = im i ∧ h 193 i = im i
/-- what zx_S does not read -/
def zf_Y (a : Nat) (i : Int) : Prop := a = 5 ∨ a = 6 ∨ a = 29 ∨ a = 30 ∨ (36 ≤ a ∧ a ≤ 43) ∨ (a = 4 ∧ i = 17) ∨ (128 ≤ a ∧ a ≤ 145) ∨ (a = 146 ∧ i ≠ 13 ∧ i ≠ 56 ∧ i ≠ 57 ∧ i ≠ 58) ∨ a = 147 ∨ (167 ≤ a ∧ a ≤ 173) ∨ zf_Ve 1 a i ∨ 184 ≤ a
theorem zf_Y_a {a : Nat} {i : Int} (h : a = 5 ∨ a = 6 ∨ a = 29 ∨ a = 30 ∨ (36 ≤ a ∧ a ≤ 43) ∨ (128 ≤ a ∧ a ≤ 145) ∨ a = 147 ∨ (167 ≤ a ∧ a ≤ 173) ∨ 184 ≤ a) : zf_Y a i := by
  rcases h with h | h | h | h | h | h | h | h | h
  · exact Or.inl h
  · exact Or.inr (Or.inl h)
  · exact Or.inr (Or.inr (Or.inl h))
  · exact Or.inr (Or.inr (Or.inr (Or.inl h)))
  · exact Or.inr (Or.inr (Or.inr (Or.inr (Or.inl h))))
  · exact Or.inr (Or.inr (Or.inr (Or.inr (Or.inr (Or.inr (Or.inl h))))))
  · exact Or.inr (Or.inr (Or.inr (Or.inr (Or.inr (Or.inr (Or.inr (Or.inr (Or.inl h))))))))
  · exact Or.inr (Or.inr (Or.inr (Or.inr (Or.inr (Or.inr (Or.inr (Or.inr (Or.inr (Or.inl h)))))))))
  · exact Or.inr (Or.inr (Or.inr (Or.inr (Or.inr (Or.inr (Or.inr (Or.inr (Or.inr (Or.inr (Or.inr h))))))))))
theorem zf_Y_4 {a : Nat} {i : Int} (h : a = 4) (hi : i = 17) : zf_Y a i := Or.inr (Or.inr (Or.inr (Or.inr (Or.inr (Or.inl ⟨h, hi⟩)))))
theorem zf_Y_6 {a : Nat} {i : Int} (h : a = 146) (hi : i = 1 ∨ i = 70 ∨ i = 77) : zf_Y a i := Or.inr (Or.inr (Or.inr (Or.inr (Or.inr (Or.inr (Or.inr (Or.inl ⟨h, by omega, by omega, by omega, by omega⟩)))))))
theorem zf_Y_V {a : Nat} {i : Int} (h : zf_Ve 1 a i) : zf_Y a i := Or.inr (Or.inr (Or.inr (Or.inr (Or.inr (Or.inr (Or.inr (Or.inr (Or.inr (Or.inr (Or.inl h))))))))))
section
variable {h g : zm_H} {m m' t pf b K L C N cf ct qf qt U nx uf d e tn : Nat} {wo sz re fe ru cd tb : Nat → Int} {lk : Nat → Nat → Int} {nk nc : Nat → List Nat} {F0 : Nat → Int} {pu : Int} {P Pu Qu Hd : Nat → Int} {hr dp x : Int} {sl : Nat → Nat} {sP sU sQ sH : Nat → Nat → Int} {sh sd lc lkk lh lo : Nat → Int}
theorem zx_M.i (M : zx_M h m) : (∃ tn tb, zx_T h tn tb) ∧ zx_Rf h m ∧ zx_Ft h ∧ zx_Ro h ∧ zx_Im h := by
  obtain ⟨tn, tb, S, fa, fp, rk, R, imn, im, a1, b1, tb255, s, fl, rw', im'⟩ := M
  exact ⟨⟨tn, tb, a1, b1, tb255⟩, ⟨S, s⟩, ⟨fa, fp, fl⟩, ⟨rk, R, rw'⟩, ⟨imn, im, im'⟩⟩
theorem zx_M_of (T : ∃ tn tb, zx_T h tn tb) (Rf : zx_Rf h m) (Ft : zx_Ft h) (Ro : zx_Ro h) (Im : zx_Im h) : zx_M h m := by
  obtain ⟨tn, tb, a1, b1, tb255⟩ := T
  obtain ⟨S, s⟩ := Rf
  obtain ⟨fa, fp, fl⟩ := Ft
  obtain ⟨rk, R, rw'⟩ := Ro
  obtain ⟨imn, im, im'⟩ := Im
  exact ⟨tn, tb, S, fa, fp, rk, R, imn, im, a1, b1, tb255, s, fl, rw', im'⟩
theorem zx_T.kp (T : zx_T h tn tb) (f : ∀ (a : Nat) (i : Int), (a = 5 ∧ i = 1) ∨ a = 6 ∨ (a = 146 ∧ i = 1) ∨ a = 147 → g a i = h a i) : zx_T g tn tb := by
  obtain ⟨⟨a1, a2, a3⟩, ⟨b1, b2, b3⟩, c⟩ := T
  exact ⟨⟨by rw [f 5 1 (by omega)]; exact a1, a2, fun i hi => by rw [f 6 i (by omega)]; exact a3 i hi⟩, ⟨by rw [f 146 1 (by omega)]; exact b1, b2, fun i hi => by rw [f 147 i (by omega)]; exact b3 i hi⟩, c⟩
theorem zx_Rf.kp (T : zx_Rf h m) (hm : m ≤ m') (f : ∀ (a : Nat) (i : Int), a = 145 ∨ a = 173 → g a i = h a i) : zx_Rf g m' := by
  obtain ⟨S, s⟩ := T
  refine ⟨S, fun i hi => ?_⟩
  rw [f 145 i (by omega), f 173 i (by omega)]
  have := s i hi
  exact ⟨this.1, this.2.1, this.2.2.1, by omega⟩
theorem zx_Rf.up {w : Nat} (T : zx_Rf h m) (hw : w < 6) {n1 n2 : Int} (h1 : h 145 w = n1) (h2 : h 173 w = n2) (f : ∀ (a : Nat) (i : Int), (a = 145 ∨ a = 173) → i ≠ w → g a i = h a i) (g1 : g 145 w = n1 + 1) (g2 : g 173 w = n2 + 1) : zx_Rf g (m + 1) := by
  obtain ⟨S, s⟩ := T
  refine ⟨fun i => if i = w then S w + 1 else S i, fun i hi => ?_⟩
  show g 145 i = (if i = w then S w + 1 else S i) ∧ g 173 i = (if i = w then S w + 1 else S i) ∧ 0 ≤ (if i = w then S w + 1 else S i) ∧ (if i = w then S w + 1 else S i) ≤ ((m + 1 : Nat) : Int)
  by_cases q : i = w
  · subst q
    have := s i hi
    rw [if_pos rfl, g1, g2]
    omega
  · rw [if_neg q, f 145 i (by omega) (by omega), f 173 i (by omega) (by omega)]
    have := s i hi
    exact ⟨this.1, this.2.1, this.2.2.1, by omega⟩
theorem zx_Ft.kp (T : zx_Ft h) (f : ∀ (a : Nat) (i : Int), (a = 29 ∧ (i = 2 ∨ i = 3)) ∨ (a = 146 ∧ (i = 10 ∨ i = 11)) → g a i = h a i) : zx_Ft g := by
  obtain ⟨fa, fp, f1, f2, f3, f4⟩ := T
  exact ⟨fa, fp, by rw [f 29 2 (by omega)]; exact f1, by rw [f 29 3 (by omega)]; exact f2, by rw [f 146 10 (by omega)]; exact f3, by rw [f 146 11 (by omega)]; exact f4⟩
theorem zx_Ro.kp (T : zx_Ro h) (f : ∀ (a : Nat) (i : Int), (a = 4 ∧ i = 17) ∨ (a = 146 ∧ i = 70) ∨ a = 41 ∨ a = 188 → g a i = h a i) : zx_Ro g := by
  obtain ⟨rk, R, r1, r2, r3⟩ := T
  exact ⟨rk, R, by rw [f 4 17 (by omega)]; exact r1, by rw [f 146 70 (by omega)]; exact r2, fun q i hi => by rw [f 41 i (by omega), f 188 i (by omega)]; exact r3 q i hi⟩
theorem zx_Im.kp (T : zx_Im h) (f : ∀ (a : Nat) (i : Int), (a = 139 ∧ i = 1) ∨ (a = 146 ∧ i = 77) ∨ a = 140 ∨ a = 193 → g a i = h a i) : zx_Im g := by
  obtain ⟨imn, im, i1, i2, i3, i4⟩ := T
  exact ⟨imn, im, by rw [f 139 1 (by omega)]; exact i1, by rw [f 146 77 (by omega)]; exact i2, i3, fun i hi => by rw [f 140 i (by omega), f 193 i (by omega)]; exact i4 i hi⟩
theorem zv_K1.y (k : zv_K1 h t K L C N cf ct qf qt U nx wo sz re fe ru cd lk P Pu Hd hr dp x sl sP sU sH sh sd lc lkk lh lo) (f : zq_F zf_Y h g) : zv_K1 g t K L C N cf ct qf qt U nx wo sz re fe ru cd lk P Pu Hd hr dp x sl sP sU sH sh sd lc lkk lh lo := by
  obtain ⟨⟨c1, c2, c3, c4, c5⟩, hI, hx, hL⟩ := k
  have k : ∀ a : Nat, (7 ≤ a ∧ a < 29) ∨ (32 ≤ a ∧ a ≤ 35) ∨ (44 ≤ a ∧ a ≤ 127) → g a = h a := fun a ha => by funext i; exact f a i (by unfold zf_Y zf_Ve; omega)
  exact ⟨⟨by rw [f 4 1 (by unfold zf_Y zf_Ve; omega)]; exact c1, c2.k7 (fun a h1 h2 => k a (by omega)), c3.kq (k _ (by decide)) (k _ (by decide)) (k _ (by decide)), by rw [k 32 (by decide)]; exact c4, by rw [k 32 (by decide)]; exact c5⟩, hI.k7 c2.1 (fun a h1 h2 => k a (by omega)), by rw [f 4 16 (by unfold zf_Y zf_Ve; omega)]; exact hx, hL.kp (fun i _ _ => by rw [k 44 (by decide)]) (fun a h1 h2 => k a (by omega))⟩
theorem zv_K2.y (k : zv_K2 h b K L C N cf ct qf qt U uf wo sz re fe ru cd lk P Qu Hd hr dp x sl sP sQ sH sh sd lc lkk lh lo) (f : zq_F zf_Y h g) : zv_K2 g b K L C N cf ct qf qt U uf wo sz re fe ru cd lk P Qu Hd hr dp x sl sP sQ sH sh sd lc lkk lh lo := by
  obtain ⟨⟨⟨gb, g13, gK, gL, gC, gw, gc, gl⟩, d2, d3, d4⟩, hJ, hx, M1, M2, M3, M4, M5, M6⟩ := k
  have k : ∀ a : Nat, 148 ≤ a → a ≤ 166 → g a = h a := fun a h1 h2 => by funext i; exact f a i (by unfold zf_Y zf_Ve; omega)
  have k6 : ∀ i : Int, i = 13 ∨ i = 56 ∨ i = 57 ∨ i = 58 → g 146 i = h 146 i := fun i hi => f 146 i (by unfold zf_Y zf_Ve; omega)
  have kw : ∀ (v : Nat) {P Q H : Nat → Int}, v ≠ 1 → zv_W h v P Q H → zv_W g v P Q H := fun v P Q H hv w => w.kv (fun i q1 q2 => f 176 i (by unfold zf_Y zf_Ve; omega)) (fun i q1 q2 => f 177 i (by unfold zf_Y zf_Ve; omega)) (fun i q1 q2 => f 178 i (by unfold zf_Y zf_Ve; omega))
  have kn : ∀ (v n : Nat), v ≠ 1 → zv_N h v n lc lkk lh lo → zv_N g v n lc lkk lh lo := fun v n hv w => zv_E.kv w (f 179 v (by unfold zf_Y zf_Ve; omega)) (fun a i q1 q2 q3 q4 => f a i (by unfold zf_Y zf_Ve; omega))
  refine ⟨⟨⟨gb, by rw [k6 13 (by omega)]; exact g13, by rw [k 148 (by decide) (by decide)]; exact gK, by rw [k 151 (by decide) (by decide)]; exact gL, by rw [k 153 (by decide) (by decide)]; exact gC, by rw [k 149 (by decide) (by decide), k 150 (by decide) (by decide)]; exact gw, by rw [k 154 (by decide) (by decide), k 155 (by decide) (by decide), k 156 (by decide) (by decide)]; exact gc, by rw [k 157 (by decide) (by decide)]; exact gl⟩, kw 0 (by decide) d2, by rw [f 174 0 (by unfold zf_Y zf_Ve; omega)]; exact d3, by rw [f 175 0 (by unfold zf_Y zf_Ve; omega)]; exact d4⟩, hJ.kp (fun a q1 q2 => k a (by omega) (by omega)), by rw [k6 58 (by omega)]; exact hx, by rw [k6 57 (by omega)]; exact M1, by rw [k6 56 (by omega)]; exact M2, M3, M4, kn 0 _ (by decide) M5, fun i v hi hv => ?_⟩
  obtain ⟨r1, r2, r3, r4⟩ := M6 i v hi hv
  exact ⟨kw v (by omega) r1, by rw [f 174 v (by unfold zf_Y zf_Ve; omega)]; exact r2, by rw [f 175 v (by unfold zf_Y zf_Ve; omega)]; exact r3, kn v _ (by omega) r4⟩
theorem zx_S.y {m' : Nat} (S : zx_S h m) (hm : m ≤ m') (f : zq_F zf_Y h g) : zx_S g m' := by
  obtain ⟨t, pf, b, K, L, C, N, cf, ct, qf, qt, U, nx, uf, d, e, wo, sz, re, fe, ru, cd, lk, nk, nc, F0, pu, P, Pu, Qu, Hd, hr, dp, x, sl, sP, sU, sQ, sH, sh, sd, lc, lkk, lh, lo, st, k1, k2, V, H, he⟩ := S
  exact ⟨t, pf, b, K, L, C, N, cf, ct, qf, qt, U, nx, uf, d, e, wo, sz, re, fe, ru, cd, lk, nk, nc, F0, pu, P, Pu, Qu, Hd, hr, dp, x, sl, sP, sU, sQ, sH, sh, sd, lc, lkk, lh, lo, st.kp (f 4 2 (by unfold zf_Y zf_Ve; omega)) (fun a ha => by funext i; exact f a i (by unfold zf_Y zf_Ve; omega)), k1.y f, k2.y f, V, H, by omega⟩
/-- feed -/
theorem zx_o0 (R : zx_R h m) (hm : m < 512) {a1 a2 a3 a4 a5 : Int} (i1 : zm_i32 a1) (i2 : zm_i32 a2) (i3 : zm_i32 a3) (i4 : zm_i32 a4) (i5 : zm_i32 a5) : zx_pr (fun h => zc 1 [zm_A 4, zm_I a1, zm_I a2, zm_I a3, zm_I a4, zm_I a5] h) (fun h => zc 154 [zm_A 146, zm_I a1, zm_I a2, zm_I a3, zm_I a4, zm_I a5] h) h m := by
  obtain ⟨⟨tn, tb, T⟩, Rf, Ft, Ro, Im⟩ := R.1.i
  by_cases q : tn + 20 ≤ 1600
  · obtain ⟨v, g1, e1, z, rfl, rfl, f1, T1⟩ := s_1y (a := a1) (b := a2) (c := a3) (d := a4) (e := a5) T.1 q
    have T2 : zv_Tb g1 tn tb := by
      obtain ⟨b1, b2, b3⟩ := T.2.1
      exact ⟨by rw [f1 146 1 (by omega)]; exact b1, b2, fun i hi => by rw [f1 147 i (by omega)]; exact b3 i hi⟩
    obtain ⟨v2, g2, e2, z2, rfl, rfl, f2, T3⟩ := s_154y i1 i2 i3 i4 i5 T2 q
    refine ⟨_, g1, e1, g2, e2, zx_M_of ⟨tn + 20, zp_fed tb tn a1 a2 a3 a4 a5, ⟨?_, T1.2.1, fun i hi => ?_⟩, T3, ?_⟩ (Rf.kp (Nat.le_succ _) (fun a i q => by rw [f2 a i (by omega), f1 a i (by omega)])) (Ft.kp (fun a i q => by rw [f2 a i (by omega), f1 a i (by omega)])) (Ro.kp (fun a i q => by rw [f2 a i (by omega), f1 a i (by omega)])) (Im.kp (fun a i q => by rw [f2 a i (by omega), f1 a i (by omega)])), R.2.y (Nat.le_succ _) (zq_F_tr (zq_F_wk f1 (fun a i q => zf_Y_a (by omega))) (zq_F_wk f2 (fun a i q => q.elim (fun q => zf_Y_a (by omega)) (fun q => zf_Y_6 q.1 (by omega)))))⟩
    · rw [f2 5 1 (by omega)]; exact T1.1
    · rw [f2 6 i (by omega)]; exact T1.2.2 i hi
    · have step : ∀ (tb : Nat → Int) (n : Nat) (x : Int), (∀ i, 0 ≤ tb i ∧ tb i ≤ 255) → ∀ i, 0 ≤ zp_ad tb n x i ∧ zp_ad tb n x i ≤ 255 := by
        intro tb n x hb i
        unfold zp_ad
        split
        · exact hb i
        · unfold zp_by; omega
      exact step _ _ _ (step _ _ _ (step _ _ _ (step _ _ _ (step _ _ _ T.2.2))))
  · refine zx_n (w := 0) R (by decide) (by omega) (fun n hn hb => zi_m (s_1n T.1 q hn hb) (fun z g r => ⟨r.1, _, zq_F_rf, r.2⟩)) (fun n g1 f1 hn hb => zi_m (s_154n (tb := tb) (n := tn) ?_ q hn hb) (fun z g r => ⟨r.1, _, zq_F_rf, r.2⟩))
    obtain ⟨b1, b2, b3⟩ := T.2.1
    exact ⟨by rw [f1 146 (by decide)]; exact b1, b2, fun i hi => by rw [f1 147 (by decide)]; exact b3 i hi⟩
/-- end -/
theorem zx_o1 (R : zx_R h m) (hm : m < 512) (y : Int) : zx_pr (fun h => zc 3 [zm_A 4, zm_I y] h) (fun h => zc 157 [zm_A 146, zm_I y] h) h m := by
  obtain ⟨⟨tn, tb, T⟩, Rf, Ft, Ro, Im⟩ := R.1.i
  by_cases q : y < 0 ∨ tn < y
  · refine zx_n (w := 0) R (by decide) (by omega) (fun n hn hb => zi_m (s_3n T.1 q hn hb) (fun z g r => ⟨r.1, _, zq_F_rf, r.2⟩)) (fun n g1 f1 hn hb => zi_m (s_157n (tb := tb) (n := tn) ?_ q hn hb) (fun z g r => ⟨r.1, _, zq_F_rf, r.2⟩))
    obtain ⟨b1, b2, b3⟩ := T.2.1
    exact ⟨by rw [f1 146 (by decide)]; exact b1, b2, fun i hi => by rw [f1 147 (by decide)]; exact b3 i hi⟩
  · obtain ⟨k, rfl⟩ := Int.eq_ofNat_of_zero_le (show 0 ≤ y by omega)
    have hk : k ≤ tn := by omega
    obtain ⟨v, g1, e1, z, rfl, rfl, hg1⟩ := s_3y T.1 hk
    have T2 : zv_Tb g1 tn tb := by
      obtain ⟨b1, b2, b3⟩ := T.2.1
      exact ⟨by rw [hg1, zq_wr_n (by decide)]; exact b1, b2, fun i hi => by rw [hg1, zq_wr_n (by decide)]; exact b3 i hi⟩
    obtain ⟨v2, g2, e2, z2, rfl, rfl, hg2⟩ := s_157y T2 hk
    have f12 : zq_F (fun a i => (a = 5 ∨ a = 146) ∧ i = 1) h g2 := by
      rw [hg2, hg1]
      exact zq_F_tr (zq_F_wr ⟨Or.inl rfl, rfl⟩) (zq_F_wr ⟨Or.inr rfl, rfl⟩)
    refine ⟨_, g1, e1, g2, e2, zx_M_of ⟨k, tb, ⟨?_, by have := T.1.2.1; omega, fun i hi => ?_⟩, ⟨?_, by have := T.1.2.1; omega, fun i hi => ?_⟩, T.2.2⟩ (Rf.kp (Nat.le_succ _) (fun a i q => f12 a i (by omega))) (Ft.kp (fun a i q => f12 a i (by omega))) (Ro.kp (fun a i q => f12 a i (by omega))) (Im.kp (fun a i q => f12 a i (by omega))), R.2.y (Nat.le_succ _) (zq_F_wk f12 (fun a i q => q.1.elim (fun e => zf_Y_a (by omega)) (fun e => zf_Y_6 e (by omega))))⟩
    · rw [hg2, zq_wr_n (by decide), hg1, zq_wr_e]
    · rw [f12 6 i (by omega)]; exact T.1.2.2 i (by omega)
    · rw [hg2, zq_wr_e]
    · rw [f12 147 i (by omega)]; exact T.2.1.2.2 i (by omega)
/-- row -/
theorem zx_o25 (R : zx_R h m) (hm : m < 512) : zx_pr (fun h => zc 46 [zm_A 4] h) (fun h => zc 260 [zm_A 146] h) h m := by
  obtain ⟨⟨tn, tb, T⟩, Rf, Ft, Ro, Im⟩ := R.1.i
  obtain ⟨t, pf, b, K, L, C, N, cf, ct, qf, qt, U, nx, uf, d, e, wo, sz, re, fe, ru, cd, lk, nk, nc, F0, pu, P, Pu, Qu, Hd, hr, dp, x, sl, sP, sU, sQ, sH, sh, sd, lc, lkk, lh, lo, st, k1, k2, V, H, he⟩ := R.2
  have B := st.2.1
  by_cases q : zp_crow C K tn tb
  · obtain ⟨v, g1, e1, z, rfl, rfl, f1, r1, r2, r3⟩ := s_46y k1.1 B V.1.1 T.1 T.2.2 q
    have f1y : zq_F zf_Y h g1 := zq_F_wk f1 (fun a i q => by
      unfold zf_Rw at q
      rcases q with q | q | q | q
      · exact zf_Y_a (by omega)
      · exact zf_Y_4 q.1 q.2
      · exact zf_Y_a (by omega)
      · exact zf_Y_a (by omega))
    have k2' := k2.y f1y
    have T2 : zv_Tb g1 tn tb := by
      obtain ⟨b1, b2, b3⟩ := T.2.1
      exact ⟨by rw [f1 146 1 (by unfold zf_Rw; omega)]; exact b1, b2, fun i hi => by rw [f1 147 i (by unfold zf_Rw; omega)]; exact b3 i hi⟩
    obtain ⟨v2, g2, e2, z2, rfl, rfl, f2, s1, s2, s3⟩ := s_260y k2'.1 B V.2.1.1 k2'.2.2.2.2.2.2.2.1 T2 T.2.2 q
    have f2y : zq_F zf_Y g1 g2 := zq_F_wk f2 (fun a i q => by
      unfold zf_Ry at q
      rcases q with q | q | q | q
      · exact zf_Y_6 q.1 (by omega)
      · exact zf_Y_V q
      · exact zf_Y_a (by omega)
      · exact zf_Y_a (by omega))
    have k12 : ∀ (a : Nat) (i : Int), ¬ zf_Rw a i → ¬ zf_Ry a i → g2 a i = h a i := fun a i q1 q2 => by rw [f2 a i q2, f1 a i q1]
    refine ⟨_, g1, e1, g2, e2, zx_M_of ⟨0, tb, ⟨?_, Nat.zero_le _, fun i hi => absurd hi (Nat.not_lt_zero _)⟩, ⟨s3, Nat.zero_le _, fun i hi => absurd hi (Nat.not_lt_zero _)⟩, T.2.2⟩ (Rf.kp (Nat.le_succ _) (fun a i q => k12 a i (by unfold zf_Rw; omega) (by unfold zf_Ry zf_Ve; omega))) (Ft.kp (fun a i q => k12 a i (by unfold zf_Rw; omega) (by unfold zf_Ry zf_Ve; omega))) ⟨1, (zp_rw L re tb (tn / 2) 0 P).2, ?_, s2, fun _ i hi => ⟨?_, s1 i hi⟩⟩ (Im.kp (fun a i q => k12 a i (by unfold zf_Rw; omega) (by unfold zf_Ry zf_Ve; omega))), R.2.y (Nat.le_succ _) (zq_F_tr f1y f2y)⟩
    · rw [f2 5 1 (by unfold zf_Ry zf_Ve; omega)]; exact r3
    · rw [f2 4 17 (by unfold zf_Ry zf_Ve; omega)]; exact r2
    · rw [f2 41 i (by unfold zf_Ry zf_Ve; omega)]; exact r1 i hi
  · obtain ⟨S, s⟩ := Rf
    obtain ⟨s1, s2, s3, s4⟩ := s 5 (by decide)
    obtain ⟨v, g1, e1, z, rfl, rfl, hg1⟩ := s_46n k1.1 T.1 T.2.2 s1 ⟨s3, by omega⟩ q
    have f1 : zq_F (fun a i => (a = 5 ∧ i = 1) ∨ (a = 145 ∧ i = 5)) h g1 := by rw [hg1]; exact zq_F_tr (zq_F_wr (by omega)) (zq_F_wr (by omega))
    have T2 : zv_Tb g1 tn tb := by
      obtain ⟨b1, b2, b3⟩ := T.2.1
      exact ⟨by rw [f1 146 1 (by omega)]; exact b1, b2, fun i hi => by rw [f1 147 i (by omega)]; exact b3 i hi⟩
    have k2' := k2.y (zq_F_wk f1 (fun a i q => zf_Y_a (by omega)))
    obtain ⟨v2, g2, e2, z2, rfl, rfl, hg2⟩ := s_260n k2'.1 T2 T.2.2 (m := S 5) (by rw [f1 173 5 (by omega)]; exact s2) ⟨s3, by omega⟩ q
    have f2 : zq_F (fun a i => (a = 146 ∧ i = 1) ∨ (a = 173 ∧ i = 5)) g1 g2 := by rw [hg2]; exact zq_F_tr (zq_F_wr (by omega)) (zq_F_wr (by omega))
    have f12 : zq_F (fun a i => ((a = 5 ∨ a = 146) ∧ i = 1) ∨ ((a = 145 ∨ a = 173) ∧ i = 5)) h g2 := zq_F_tr (zq_F_wk f1 (fun a i q => by omega)) (zq_F_wk f2 (fun a i q => by omega))
    refine ⟨_, g1, e1, g2, e2, zx_M_of ⟨0, tb, ⟨?_, Nat.zero_le _, fun i hi => absurd hi (Nat.not_lt_zero _)⟩, ⟨?_, Nat.zero_le _, fun i hi => absurd hi (Nat.not_lt_zero _)⟩, T.2.2⟩ (zx_Rf.up (w := 5) ⟨S, s⟩ (by decide) s1 s2 (fun a i q1 q2 => f12 a i (by omega)) ?_ ?_) (Ft.kp (fun a i q => f12 a i (by omega))) (Ro.kp (fun a i q => f12 a i (by omega))) (Im.kp (fun a i q => f12 a i (by omega))), R.2.y (Nat.le_succ _) (zq_F_wk f12 (fun a i q => q.elim (fun q => q.1.elim (fun e => zf_Y_a (by omega)) (fun e => zf_Y_6 e (by omega))) (fun q => zf_Y_a (by omega))))⟩
    · rw [f2 5 1 (by omega), hg1, zq_wr_n (by decide), zq_wr_e]; rfl
    · rw [hg2, zq_wr_n (by decide), zq_wr_e]; rfl
    · rw [f2 145 _ (by omega), hg1]; exact zq_wr_e
    · rw [hg2]; exact zq_wr_e
/-- image -/
theorem zx_o28 (R : zx_R h m) : zx_pr (fun h => zc 51 [zm_A 4] h) (fun h => zc 268 [zm_A 146] h) h m := by
  obtain ⟨⟨tn, tb, T⟩, Rf, Ft, Ro, Im⟩ := R.1.i
  obtain ⟨t, pf, b, K, L, C, N, cf, ct, qf, qt, U, nx, uf, d, e, wo, sz, re, fe, ru, cd, lk, nk, nc, F0, pu, P, Pu, Qu, Hd, hr, dp, x, sl, sP, sU, sQ, sH, sh, sd, lc, lkk, lh, lo, st, k1, k2, V, H, he⟩ := R.2
  have B := st.2.1
  obtain ⟨v, g1, e1, z, rfl, rfl, f1, O1⟩ := s_51 k1.1 B V.1
  have f1y : zq_F zf_Y h g1 := zq_F_wk f1 (fun a i q => zf_Y_a (by unfold zf_O at q; omega))
  have k2' := k2.y f1y
  obtain ⟨v2, g2, e2, z2, rfl, rfl, f2, O2⟩ := s_268 k2'.1 B V.2.1
  rw [zp_img_q V.2.2.2.1] at O2
  have f2y : zq_F zf_Y g1 g2 := zq_F_wk f2 (fun a i q => Or.elim (show (a = 146 ∧ i = 77) ∨ a = 193 from q) (fun q => zf_Y_6 q.1 (by omega)) (fun q => zf_Y_a (by omega)))
  have k12 : ∀ (a : Nat) (i : Int), ¬ zf_O a i → ¬ zf_Q a i → g2 a i = h a i := fun a i q1 q2 => by rw [f2 a i q2, f1 a i q1]
  have nb : zp_imn K L C + 1 ≤ 188 := by
    obtain ⟨b1, b2, b3, _⟩ := B
    have h1 : L * K ≤ 5 * 8 := Nat.mul_le_mul b2 b1
    have h2 : C * (2 + 2 * K) ≤ 8 * 18 := Nat.mul_le_mul b3 (by omega)
    unfold zp_imn
    omega
  refine ⟨_, g1, e1, g2, e2, zx_M_of ⟨tn, tb, T.kp (fun a i q => k12 a i (by unfold zf_O; omega) (by unfold zf_Q; omega))⟩ (Rf.kp (Nat.le_succ _) (fun a i q => k12 a i (by unfold zf_O; omega) (by unfold zf_Q; omega))) (Ft.kp (fun a i q => k12 a i (by unfold zf_O; omega) (by unfold zf_Q; omega))) (Ro.kp (fun a i q => k12 a i (by unfold zf_O; omega) (by unfold zf_Q; omega))) ⟨zp_imn K L C + 1, zp_img K L C P Pu Hd hr dp, ?_, O2.1, nb, fun i hi => ⟨?_, O2.2 i hi⟩⟩, R.2.y (Nat.le_succ _) (zq_F_tr f1y f2y)⟩
  · rw [f2 139 1 (by unfold zf_Q; omega)]; exact O1.1
  · rw [f2 140 i (by unfold zf_Q; omega)]; exact O1.2 i hi
/-- on -/
theorem zx_o30 (R : zx_R h m) (hm : m < 512) : zx_pr (fun h => zc 53 [zm_A 4] h) (fun h => zc 272 [zm_A 146] h) h m := by
  obtain ⟨⟨tn, tb, T⟩, Rf, Ft, Ro, Im⟩ := R.1.i
  obtain ⟨t, pf, b, K, L, C, N, cf, ct, qf, qt, U, nx, uf, d, e, wo, sz, re, fe, ru, cd, lk, nk, nc, F0, pu, P, Pu, Qu, Hd, hr, dp, x, sl, sP, sU, sQ, sH, sh, sd, lc, lkk, lh, lo, st, k1, k2, V, H, he⟩ := R.2
  have B := st.2.1
  have e9 := V.2.2.2.2.2.2.2.2.2
  obtain ⟨S, s⟩ := Rf
  obtain ⟨s1, s2, s3, s4⟩ := s 5 (by decide)
  obtain ⟨v, g1, e1, z, rfl, c1⟩ := s_53 k1 T.1 T.2.2 B st.2.2.2.2.2.2.2.2.1.1 st.2.2.2.2.2.2.2.2.1.2 st.2.2.2.2.1 s1 ⟨s3, by omega⟩
  rcases c1 with ⟨rfl, hc, f1, t1, k1'⟩ | ⟨rfl, hc, g0, f0, hg1⟩
  · have k2' := k2.hi (g := g1) (fun a ha => by funext i; exact f1 a i (by unfold zf_53; omega))
    have T2 : zv_Tb g1 tn tb := by
      obtain ⟨b1, b2, b3⟩ := T.2.1
      exact ⟨by rw [f1 146 1 (by unfold zf_53; omega)]; exact b1, b2, fun i hi => by rw [f1 147 i (by unfold zf_53; omega)]; exact b3 i hi⟩
    obtain ⟨v2, g2, e2, z2, rfl, c2⟩ := s_272 k2' T2 T.2.2 B V.2.1 (m := S 5) (by rw [f1 173 5 (by unfold zf_53; omega)]; exact s2) ⟨s3, by omega⟩
    rcases c2 with ⟨rfl, _, f2, t2, k2''⟩ | ⟨_, hn, _⟩
    rotate_left
    · exact absurd hc hn
    have k12 : ∀ (a : Nat) (i : Int), ¬ zf_53 a i → ¬ zf_72 a i → g2 a i = h a i := fun a i q1 q2 => by rw [f2 a i q2, f1 a i q1]
    obtain ⟨n1, n2, n3, n4, n5, n6⟩ := hc
    have b255 := T.2.2
    have hw : ∀ j, 0 ≤ zp_two tb j := fun j => by have := b255 j; have := b255 (j + 1); unfold zp_two; omega
    have hP : zv_P K L (zp_onP K L tb) := by
      refine ⟨fun i hi => ?_, fun i hi q => ?_⟩
      · unfold zp_onP
        split
        · next q => have := b255 (3 + (i / 8) * K + i % 8); have := n5 (i / 8) (i % 8) q.1 q.2; omega
        · omega
      · unfold zp_onP
        rw [if_neg (by omega)]
    have hH : zv_H K C (zp_onH K L C tb) ∧ ∀ i, i < 64 → zp_onH K L C tb i ≤ e := by
      have a : ∀ i, i < 64 → 0 ≤ zp_onH K L C tb i ∧ zp_onH K L C tb i ≤ 9999 := by
        intro i hi
        unfold zp_onH
        split
        · next q => exact ⟨hw _, (n6 (i / 8) q.1).2 (i % 8) q.2⟩
        · omega
      have ee := V.2.2.2.2.2.2.2.2.1
      refine ⟨⟨fun i hi => by have := a i hi; omega, fun i hi q => ?_⟩, fun i hi => by have := a i hi; omega⟩
      unfold zp_onH
      rw [if_neg (by omega)]
    have b0 := b255 0
    have hd := hw 1
    have ee := V.2.2.2.2.2.2.2.2.1
    have V' : zv_V K L C 0 0 e (zp_onP K L tb) (zp_onU K L C tb (fun _ => 0)) (zp_onU K L C tb Qu) (zp_onH K L C tb) (tb 0) (zp_two tb 1) x (fun _ => 0) lc lkk lh lo := by
      refine ⟨⟨hP, hH.1, fun c hc => ?_, by omega, n3, hd, by omega⟩, ⟨hP, hH.1, fun c hc => ?_, by omega, n3, hd, by omega⟩, ⟨fun i j _ hj => absurd hj (Nat.not_lt_zero _), fun i hi => absurd hi (Nat.not_lt_zero _), by decide, by decide, V.2.2.1.2.2.2.2⟩, fun c hc => ?_, fun c hc hc2 => ?_, V.2.2.2.2.2.1, hH.2, by omega, show 0 + 9999 ≤ e by omega, e9⟩
      · unfold zp_onU
        split
        · next q => have := hw (zp_at K L c); have := (n6 c q).1; omega
        · exact ⟨Int.le_refl 0, (show (0 : Int) ≤ 999 by decide)⟩
      · unfold zp_onU
        split
        · next q => have := hw (zp_at K L c); have := (n6 c q).1; omega
        · exact V.2.1.2.2.1 c hc
      · unfold zp_onU
        rw [if_pos hc, if_pos hc]
      · unfold zp_onU
        rw [if_neg (by omega)]
    refine ⟨_, g1, e1, g2, e2, zx_M_of ⟨0, tb, ⟨?_, Nat.zero_le _, fun i hi => absurd hi (Nat.not_lt_zero _)⟩, ⟨t2, Nat.zero_le _, fun i hi => absurd hi (Nat.not_lt_zero _)⟩, T.2.2⟩ (zx_Rf.kp ⟨S, s⟩ (Nat.le_succ _) (fun a i q => k12 a i (by unfold zf_53; omega) (by unfold zf_72 zf_Ve; omega))) (Ft.kp (fun a i q => k12 a i (by unfold zf_53; omega) (by unfold zf_72 zf_Ve; omega))) (Ro.kp (fun a i q => k12 a i (by unfold zf_53; omega) (by unfold zf_72 zf_Ve; omega))) (Im.kp (fun a i q => k12 a i (by unfold zf_53; omega) (by unfold zf_72 zf_Ve; omega))), ?_⟩
    · rw [f2 5 1 (by unfold zf_72 zf_Ve; omega)]; exact t1
    · exact ⟨t, pf, b, K, L, C, N, cf, ct, qf, qt, 0, 0, uf, 0, e, wo, sz, re, fe, ru, cd, lk, nk, nc, F0, pu, zp_onP K L tb, zp_onU K L C tb (fun _ => 0), zp_onU K L C tb Qu, zp_onH K L C tb, tb 0, zp_two tb 1, x, fun _ => 0, sP, sU, sQ, sH, sh, sd, lc, lkk, lh, lo, st.kp (k12 4 2 (by unfold zf_53; omega) (by unfold zf_72 zf_Ve; omega)) (fun a ha => by funext i; exact k12 a i (by unfold zf_53; omega) (by unfold zf_72 zf_Ve; omega)), k1'.low (fun a ha => by funext i; exact f2 a i (by unfold zf_72 zf_Ve; omega)), k2'', V', fun i hi => absurd hi (Nat.not_lt_zero _), by omega⟩
  · have f1 : zq_F (fun a i => (36 ≤ a ∧ a ≤ 39) ∨ (a = 5 ∧ i = 1) ∨ (a = 145 ∧ i = 5)) h g1 := by
      rw [hg1]
      exact zq_F_tr (zq_F_wk f0 (fun a i q => by unfold zf_on at q; omega)) (zq_F_tr (zq_F_wr (by omega)) (zq_F_wr (by omega)))
    have f1y : zq_F zf_Y h g1 := zq_F_wk f1 (fun a i q => zf_Y_a (by omega))
    have k2' := k2.y f1y
    have T2 : zv_Tb g1 tn tb := by
      obtain ⟨b1, b2, b3⟩ := T.2.1
      exact ⟨by rw [f1 146 1 (by omega)]; exact b1, b2, fun i hi => by rw [f1 147 i (by omega)]; exact b3 i hi⟩
    obtain ⟨v2, g2, e2, z2, rfl, c2⟩ := s_272 k2' T2 T.2.2 B V.2.1 (m := S 5) (by rw [f1 173 5 (by omega)]; exact s2) ⟨s3, by omega⟩
    rcases c2 with ⟨_, hn, _⟩ | ⟨rfl, _, g3, f3, hg2⟩
    · exact absurd hn hc
    have f2 : zq_F (fun a i => (a = 146 ∧ i = 1) ∨ zf_Ve 1 a i ∨ (a = 173 ∧ i = 5)) g1 g2 := by
      rw [hg2]
      exact zq_F_tr (zq_F_wr (by omega)) (zq_F_tr (zq_F_wk f3 (fun a i q => Or.inr (Or.inl q))) (zq_F_wr (by omega)))
    have k12 : ∀ (a : Nat) (i : Int), ¬ ((36 ≤ a ∧ a ≤ 39) ∨ (a = 5 ∧ i = 1) ∨ (a = 145 ∧ i = 5)) → ¬ ((a = 146 ∧ i = 1) ∨ zf_Ve 1 a i ∨ (a = 173 ∧ i = 5)) → g2 a i = h a i := fun a i q1 q2 => by rw [f2 a i q2, f1 a i q1]
    refine ⟨_, g1, e1, g2, e2, zx_M_of ⟨0, tb, ⟨?_, Nat.zero_le _, fun i hi => absurd hi (Nat.not_lt_zero _)⟩, ⟨?_, Nat.zero_le _, fun i hi => absurd hi (Nat.not_lt_zero _)⟩, T.2.2⟩ (zx_Rf.up (w := 5) ⟨S, s⟩ (by decide) s1 s2 (fun a i q1 q2 => k12 a i (by omega) (by unfold zf_Ve; omega)) ?_ ?_) (Ft.kp (fun a i q => k12 a i (by omega) (by unfold zf_Ve; omega))) (Ro.kp (fun a i q => k12 a i (by omega) (by unfold zf_Ve; omega))) (Im.kp (fun a i q => k12 a i (by omega) (by unfold zf_Ve; omega))), R.2.y (Nat.le_succ _) (zq_F_tr f1y (zq_F_wk f2 (fun a i q => q.elim (fun q => zf_Y_6 q.1 (by omega)) (fun q => q.elim (fun q => zf_Y_V q) (fun q => zf_Y_a (by omega))))))⟩
    · rw [f2 5 1 (by unfold zf_Ve; omega), hg1, zq_wr_n (by decide), zq_wr_e]; rfl
    · rw [hg2, zq_wr_n (by decide), f3 146 1 (by unfold zf_Ve; omega), zq_wr_e]; rfl
    · rw [f2 145 _ (by unfold zf_Ve; omega), hg1]; exact zq_wr_e
    · rw [hg2]; exact zq_wr_e
end
