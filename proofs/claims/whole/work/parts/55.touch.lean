/-! A TOUCH of both sides -/
def zp_nx (x : Int) : Int := (1103515245 * x + 12345) % 2147483648
def zp_find (P : Nat → Int) : Nat → Nat → Int → Nat
  | 0, s, _ => s
  | m + 1, s, n => if n < P s then s else zp_find P m (s + 1) (n - P s)
def zp_tch (P : Nat → Int) (f e : Nat) (T x : Int) : Nat := zp_find P (8 * (e - f)) (8 * f) (zp_nx x / 64 % T)
theorem zp_nx_b (x : Int) : 0 ≤ zp_nx x ∧ zp_nx x ≤ 2147483647 := by unfold zp_nx; omega
theorem zq_S_front (m : Nat) (f : Nat → Int) : zq_S (m + 1) f = f 0 + zq_S m (fun i => f (i + 1)) := by
  have := zq_S_app 1 m f
  rw [Nat.add_comm m 1, this]
  simp only [zq_S]
  have e : (fun i => f (1 + i)) = (fun i => f (i + 1)) := by funext i; rw [Nat.add_comm]
  rw [e]; omega
theorem zp_find_b {P : Nat → Int} : ∀ (m s : Nat) (n : Int), (∀ i, i < m → 0 ≤ P (s + i)) → 0 ≤ n → n < zq_S m (fun i => P (s + i)) → s ≤ zp_find P m s n ∧ zp_find P m s n < s + m ∧ 0 < P (zp_find P m s n) := by
  intro m
  induction m with
  | zero => intro s n _ h0 h1; simp only [zq_S] at h1; omega
  | succ m ih =>
    intro s n hP h0 h1
    rw [zq_S_front] at h1
    simp only [Nat.add_zero] at h1
    unfold zp_find
    split
    · next hq => exact ⟨Nat.le_refl _, by omega, by omega⟩
    · next hq =>
      have e : (fun i => P (s + (i + 1))) = (fun i => P (s + 1 + i)) := by funext i; congr 1; omega
      rw [e] at h1
      have := ih (s + 1) (n - P s) (fun i hi => by have := hP (i + 1) (by omega); rwa [show s + (i + 1) = s + 1 + i by omega] at this) (by omega) (by omega)
      omega
theorem zp_find_skip {P : Nat → Int} {m : Nat} : ∀ (j s : Nat) (n : Int), (∀ i, i < j → P (s + i) = 0) → 0 ≤ n → zp_find P (j + m) s n = zp_find P m (s + j) n := by
  intro j
  induction j with
  | zero => intro s n _ _; rw [Nat.zero_add, Nat.add_zero]
  | succ j ih =>
    intro s n hP h0
    have h1 := hP 0 (by omega)
    rw [Nat.add_zero] at h1
    rw [show j + 1 + m = (j + m) + 1 by omega]
    unfold zp_find
    rw [if_neg (by omega), h1, Int.sub_zero, ih (s + 1) n (fun i hi => by have := hP (i + 1) (by omega); rwa [show s + (i + 1) = s + 1 + i by omega] at this) h0]
    rw [show s + 1 + j = s + (j + 1) by omega]
    cases m with
    | zero => rfl
    | succ m => rfl
theorem zp_tot_s (P : Nat → Int) (f e : Nat) : zq_S 8 (zp_cnt P zp_id f e) = zq_S (8 * (e - f)) (fun i => P (8 * f + i)) := by
  rw [zq_S_block]
  unfold zp_cnt
  rw [zq_S_swap]
  refine zq_S_congr (fun i hi => zq_S_congr (fun k hk => ?_))
  show P (8 * (f + i) + k) = P (8 * f + (8 * i + k))
  congr 1; omega
section
variable {h : zm_H} {t b K L C : Nat} {wo sz re fe ru : Nat → Int} {lk : Nat → Nat → Int} {P Pu Qu Hd : Nat → Int} {hr dp : Int}
theorem zp_tch_b (hB : zv_B K L C wo sz re fe ru lk) (hP : zv_P K L P) {c : Nat} {f e : Nat} (hf : f = zp_up L P zp_id) (he : e = zp_to L P zp_id re c) {T : Int} (hT : T = zq_S 8 (zp_cn L re P zp_id c)) (hT0 : 0 < T) (x : Int) : 8 * f ≤ zp_tch P f e T x ∧ zp_tch P f e T x < 8 * e ∧ e ≤ L ∧ 0 < P (zp_tch P f e T x) ∧ zp_tch P f e T x < 40 ∧ zp_tch P f e T x % 8 < K ∧ 0 ≤ zp_nx x / 64 % T ∧ zp_nx x / 64 % T < zq_S (8 * (e - f)) (fun i => P (8 * f + i)) := by
  have hle := zp_to_le L P zp_id re c
  rw [← hf, ← he] at hle
  have hL := hB.2.1
  have h0 := Int.emod_nonneg (zp_nx x / 64) (b := T) (by omega)
  have h1 := Int.emod_lt_of_pos (zp_nx x / 64) hT0
  have hs : T = zq_S (8 * (e - f)) (fun i => P (8 * f + i)) := by
    rw [hT, ← zp_tot_s, hf, he]; rfl
  have hb := zp_find_b (P := P) (8 * (e - f)) (8 * f) (zp_nx x / 64 % T) (fun i hi => (hP.1 _ (by omega)).1) h0 (by omega)
  unfold zp_tch
  generalize zp_find P (8 * (e - f)) (8 * f) (zp_nx x / 64 % T) = s at hb
  refine ⟨by omega, by omega, by omega, hb.2.2, by omega, ?_, h0, by omega⟩
  rcases Nat.lt_or_ge (s % 8) K with hk | hk
  · exact hk
  · have := hP.2 s (by omega) (Or.inr hk); omega
theorem s_34 {x m : Int} (hx : h 4 16 = x) (hxb : 0 ≤ x ∧ x ≤ 2147483647) (hm : 0 < m ∧ m ≤ 100000) : zi (zc 34 [zm_A 4, zm_I m] h) (fun z g => z = zp_nx x / 64 % m ∧ g = zm_wr h 4 16 (zp_nx x)) := by
  refine zt_l e_34 ?_
  rw [hx, zb_l31]
  have e : (1103515245 * x + 12345) % 2147483648 = zp_nx x := rfl
  have hb := zp_nx_b x
  rw [e]
  have e2 : zm_wr h 4 16 (zp_nx x) 4 16 = zp_nx x := zq_wr_e
  rw [e2, zq_tdiv hb.1]
  have h0 := Int.emod_nonneg (zp_nx x / 64) (b := m) (by omega)
  have h1 := Int.emod_lt_of_pos (zp_nx x / 64) hm.1
  have h2 : 0 ≤ zp_nx x / 64 / m := Int.ediv_nonneg (by omega) (by omega)
  have h3 : zp_nx x / 64 / m ≤ zp_nx x / 64 := Int.ediv_le_self _ (by omega)
  rw [zq_tdiv (by omega), zq_tmod (by omega)]
  exact zt_c (by omega) (zt_c (by omega) (zt_c (by omega) (zt_t hm.1 (zt_c ⟨by decide, by omega⟩ (zt_c ⟨by omega, by omega, by omega⟩ (zi_e ⟨rfl, rfl⟩))))))
theorem s_250 {x m : Int} (hx : h 146 58 = x) (hxb : 0 ≤ x ∧ x ≤ 2147483647) (hm : 0 < m ∧ m ≤ 100000) : zi (zc 250 [zm_A 146, zm_I m] h) (fun z g => z = zp_nx x / 64 % m ∧ g = zm_wr h 146 58 (zp_nx x)) := by
  refine zt_l e_250 ?_
  rw [hx, zq_tmod (a := 1103515245 * x + 12345) (by omega), zq_tdiv (a := 1103515245 * x + 12345) (by omega)]
  have e : (1103515245 * x + 12345) % 2147483648 = zp_nx x := rfl
  have hb := zp_nx_b x
  rw [e]
  have e2 : zm_wr h 146 58 (zp_nx x) 146 58 = zp_nx x := zq_wr_e
  rw [e2, zq_tdiv hb.1]
  have h0 := Int.emod_nonneg (zp_nx x / 64) (b := m) (by omega)
  have h1 := Int.emod_lt_of_pos (zp_nx x / 64) hm.1
  have h2 : 0 ≤ zp_nx x / 64 / m := Int.ediv_nonneg (by omega) (by omega)
  have h3 : zp_nx x / 64 / m ≤ zp_nx x / 64 := Int.ediv_le_self _ (by omega)
  rw [zq_tdiv (by omega), zq_tmod (by omega)]
  exact zt_c (by omega) (zt_c (by omega) (zt_c ⟨by decide, by omega, by omega⟩ (zt_c ⟨by decide, by omega⟩ (zt_c ⟨by omega, by omega, by omega⟩ (zt_c (by omega) (zi_e ⟨rfl, rfl⟩))))))
theorem s_118 {f e : Nat} (hT : zv_T h 32 P Pu Hd) (hP : ∀ i, i < 40 → 0 ≤ P i ∧ P i ≤ 99) (hf : h 128 4 = f) (he : h 128 5 = e) (hfe : f ≤ e) (he5 : e ≤ 5) {n : Int} (hn : 0 ≤ n ∧ n ≤ 100000) (hn2 : n < zq_S (8 * (e - f)) (fun i => P (8 * f + i))) : zi (zc 118 [zm_A 128, zm_A 32, zm_I n] h) (fun z g => z = zp_find P (8 * (e - f)) (8 * f) n ∧ g = h) := by
  have key : ∀ (m s : Nat) (n' : Int), s + m = 8 * e → 8 * f ≤ s → 0 ≤ n' → n' ≤ 100000 → n' < zq_S m (fun i => P (s + i)) → zi (zr none 1 118 11 [zm_A 128, zm_A 32, zm_I n, zm_I n', zm_I s] [] h) (fun z g => z = zp_find P m s n' ∧ g = h) := by
    intro m
    induction m with
    | zero => intro s n' _ _ h0 _ h1; simp only [zq_S] at h1; omega
    | succ m ih =>
      intro s n' hs hfs h0 h100 h1
      rw [zq_S_front] at h1
      simp only [Nat.add_zero] at h1
      have e1 : (fun i => P (s + (i + 1))) = (fun i => P (s + 1 + i)) := by funext i; congr 1; omega
      rw [e1] at h1
      have hPs := hP s (by omega)
      have hv : h (32 + 1) (s : Int) = P s := hT.2.1 s (by omega)
      refine zt_l (e_118_11 zf_T_32 (w2 := zm_I n) (zm_cat_I _)) ?_
      rw [he, hv]
      refine zt_c (by omega) (zt_t (by omega) (zt_c (by omega) ?_))
      unfold zp_find
      refine zt_p (fun q => zi_e ⟨by rw [if_pos q], rfl⟩) (fun q => ?_)
      rw [if_neg q]
      refine zt_c (by omega) (zt_c (by omega) (zt_c (by omega) ?_))
      exact ih (s + 1) (n' - P s) (by omega) (by omega) (by omega) (by omega) (by omega)
  refine zt_l (e_118 zf_T_32) ?_
  rw [hf]
  refine zt_c (by omega) ?_
  rw [show (f : Int) * 8 = ((8 * f : Nat) : Int) by omega]
  exact key (8 * (e - f)) (8 * f) n (by omega) (Nat.le_refl _) hn.1 hn.2 hn2
theorem zv_T.wr {o a : Nat} {i v : Int} (hT : zv_T h o P Pu Hd) (ha : a ≠ o + 1 ∧ a ≠ o + 2 ∧ a ≠ o + 3) : zv_T (zm_wr h a i v) o P Pu Hd :=
  hT.kq (by funext j; exact zq_wr_n (by omega)) (by funext j; exact zq_wr_n (by omega)) (by funext j; exact zq_wr_n (by omega))
theorem s_33 (hC : zv_C h t K L C wo sz re fe ru lk P Pu Hd hr dp) (hB : zv_B K L C wo sz re fe ru lk) (hX : zv_X K L C P Pu Hd hr dp) {c : Nat} (hR : zv_R h K L sz re fe ru lk P zp_id c) {f e : Nat} (hf : f = zp_up L P zp_id) (he : e = zp_to L P zp_id re c) {T x : Int} (hT : T = zq_S 8 (zp_cn L re P zp_id c)) (hT0 : 0 < T) (hx : h 4 16 = x) (hxb : 0 ≤ x ∧ x ≤ 2147483647) : zi (zc 33 [zm_A 4] h) (fun z g => z = ((zp_tch P f e T x : Nat) : Int) ∧ g = zm_wr h 4 16 (zp_nx x)) := by
  obtain ⟨r4, r5, r6, r3, r7⟩ := hR
  have hb := zp_tch_b hB hX.1 hf he hT hT0 x
  have bc := zp_cn_b (re := re) hB hX.1 zp_id_b c
  have bt := zp_tot_b bc
  have hle := zp_to_le L P zp_id re c
  have hL := hB.2.1
  have r3' : h 128 3 = T := by rw [r3, hT]; rfl
  refine zt_l e_33 ?_
  rw [r3']
  refine zt_I (s_34 hx hxb ⟨hT0, by omega⟩) ?_
  rintro z g ⟨rfl, rfl⟩
  have k128 : ∀ i, zm_wr h 4 16 (zp_nx x) 128 i = h 128 i := fun i => zq_wr_n (by decide)
  refine zt_I (s_118 (f := f) (e := e) (hC.2.2.1.wr (by decide)) hX.1.1 (by rw [k128, r4, hf]) (by rw [k128, r5, he]) (by omega) (by omega) ⟨hb.2.2.2.2.2.2.1, by have := Int.emod_lt_of_pos (zp_nx x / 64) hT0; omega⟩ hb.2.2.2.2.2.2.2) ?_
  rintro z g ⟨rfl, rfl⟩
  exact zi_e ⟨rfl, rfl⟩
theorem s_249 (hD : zv_D h b K L C wo sz re fe ru lk P Qu Hd hr dp) (hB : zv_B K L C wo sz re fe ru lk) (hP : zv_P K L P) {c : Nat} (hc : c < C) (hS : zv_S h L re P zp_id c) (hQ : ∀ p : Nat, p < 5 → h 185 p = p) {f e : Nat} (hf : f = zp_up L P zp_id) (he : e = zp_to L P zp_id re c) {T x : Int} (hT : T = zq_S 8 (zp_cn L re P zp_id c)) (hT0 : 0 < T) (hx : h 146 58 = x) (hxb : 0 ≤ x ∧ x ≤ 2147483647) : zi (zc 249 [zm_A 146, zm_I c] h) (fun z g => z = ((zp_tch P f e T x : Nat) : Int) ∧ g = zm_wr h 146 58 (zp_nx x)) := by
  have hb := zp_tch_b hB hP hf he hT hT0 x
  have bc := zp_cn_b (re := re) hB hP zp_id_b c
  have bt := zp_tot_b bc
  have hle := zp_to_le L P zp_id re c
  have hL := hB.2.1
  have hK8 := hB.1
  have hb2 := hD.1.1
  have r3' : h 146 68 = T := by rw [hS.1, hT]; rfl
  refine zt_l e_249 ?_
  rw [r3']
  refine zt_I (s_250 hx hxb ⟨hT0, by omega⟩) ?_
  rintro z g ⟨rfl, rfl⟩
  have fg : zq_F (fun a i => a = 146 ∧ i = 58) h (zm_wr h 146 58 (zp_nx x)) := zq_F_wr ⟨rfl, rfl⟩
  generalize zm_wr h 146 58 (zp_nx x) = g at fg
  have kg : ∀ a : Nat, a ≠ 146 → g a = h a := fun a ha => by funext i; exact fg a i (fun q => ha q.1)
  have hG : zv_G g b K L C wo sz re fe ru lk := hD.1.kp (fg 146 13 (by omega)) (fun a h1 h2 => kg a (by omega))
  have hW : zv_W g 0 P Qu Hd := hD.2.1.kp (fun a h1 h2 => kg a (by omega))
  have hQg : ∀ p : Nat, p < L → g 185 p = (zp_id p : Nat) := fun p hp => by rw [kg 185 (by decide)]; exact hQ p (by omega)
  refine zt_I (s_227 (v := 0) zp_id_b hQg hG hB hW hP) ?_
  rintro z g' ⟨rfl, rfl⟩
  rw [← hf]
  -- the inner loop, and the outer
  have inner : ∀ (p : Nat), p < e → (∀ (n' : Int) (w : zm_V), 0 ≤ n' → n' ≤ 100000 → n' < zq_S (8 * e - 8 * (p + 1)) (fun i => P (8 * (p + 1) + i)) → zi (zr none 5 249 15 [zm_A 146, zm_I c, zm_I n', zm_I ((p + 1 : Nat) : Int), w] [] g') (fun z g => z = ((zp_find P (8 * e - 8 * (p + 1)) (8 * (p + 1)) n' : Nat) : Int) ∧ g = g')) →
      ∀ (m k : Nat) (n' : Int), k + m = K → 0 ≤ n' → n' ≤ 100000 → n' < zq_S (8 * e - (8 * p + k)) (fun i => P (8 * p + k + i)) → zi (zr none 5 249 28 [zm_A 146, zm_I c, zm_I n', zm_I p, zm_I k] [] g') (fun z g => z = ((zp_find P (8 * e - (8 * p + k)) (8 * p + k) n' : Nat) : Int) ∧ g = g') := by
    intro p hp nxt m
    induction m with
    | zero =>
      intro k n' hk h0 h100 h1
      refine zt_l e_249_28 ?_
      rw [hG.2.1, hG.2.2.1]
      refine zt_c (by omega) (zt_f (by omega) (zt_c (by omega) ?_))
      have hz : ∀ i, i < 8 - k → P (8 * p + k + i) = 0 := fun i hi => hP.2 _ (by omega) (Or.inr (by omega))
      have e1 : 8 * e - (8 * p + k) = (8 - k) + (8 * e - 8 * (p + 1)) := by omega
      rw [e1, zp_find_skip (8 - k) (8 * p + k) n' hz h0, show 8 * p + k + (8 - k) = 8 * (p + 1) by omega]
      rw [e1, zq_S_app, zq_S_zero hz] at h1
      have e2 : (fun i => P (8 * p + k + (8 - k + i))) = (fun i => P (8 * (p + 1) + i)) := by funext i; congr 1; omega
      rw [e2] at h1
      rw [show ((p : Nat) : Int) + 1 = ((p + 1 : Nat) : Int) by omega]
      exact nxt n' _ h0 h100 (by omega)
    | succ m ih =>
      intro k n' hk h0 h100 h1
      have e1 : 8 * e - (8 * p + k) = (8 * e - (8 * p + (k + 1))) + 1 := by omega
      rw [e1, zq_S_front] at h1
      simp only [Nat.add_zero] at h1
      have e2 : (fun i => P (8 * p + k + (i + 1))) = (fun i => P (8 * p + (k + 1) + i)) := by funext i; congr 1; omega
      rw [e2] at h1
      have hPs := hP.1 (8 * p + k) (by omega)
      refine zt_l e_249_28 ?_
      rw [hG.2.1, hG.2.2.1]
      refine zt_c (by omega) (zt_t (by omega) (zt_I (s_206 (v := 0) (l := p) (k := k) hW (by omega) (by omega)) ?_))
      rintro z g2 ⟨rfl, rfl⟩
      rw [e1]
      unfold zp_find
      refine zt_p (fun q => zt_c (by omega) (zt_c (by omega) (zi_e ⟨by rw [if_pos q]; omega, rfl⟩))) (fun q => ?_)
      rw [if_neg q]
      refine zt_I (s_206 (v := 0) (l := p) (k := k) hW (by omega) (by omega)) ?_
      rintro z g2 ⟨rfl, rfl⟩
      refine zt_c (by omega) (zt_c (by omega) ?_)
      exact ih (k + 1) (n' - P (8 * p + k)) (by omega) (by omega) (by omega) (by omega)
  have outer : ∀ (m p : Nat) (n' : Int) (w : zm_V), p + m = e → f ≤ p → 0 ≤ n' → n' ≤ 100000 → n' < zq_S (8 * e - 8 * p) (fun i => P (8 * p + i)) → zi (zr none 5 249 15 [zm_A 146, zm_I c, zm_I n', zm_I p, w] [] g') (fun z g => z = ((zp_find P (8 * e - 8 * p) (8 * p) n' : Nat) : Int) ∧ g = g') := by
    intro m
    induction m with
    | zero =>
      intro p n' w hp _ h0 _ h1
      rw [show 8 * e - 8 * p = 0 by omega] at h1
      simp only [zq_S] at h1
      omega
    | succ m ih =>
      intro p n' w hp hfp h0 h100 h1
      refine zt_l e_249_15 (zt_I (s_228 (v := 0) zp_id_b hQg hG hB hW hP hc) ?_)
      rintro z g2 ⟨rfl, rfl⟩
      rw [← he]
      refine zt_t (by omega) ?_
      exact inner p (by omega) (fun n2 w2 a1 a2 a3 => ih (p + 1) n2 w2 (by omega) (by omega) a1 a2 a3) K 0 n' (by omega) h0 h100 h1
  have hfin := outer (e - f) f (zp_nx x / 64 % T) zm_U (by omega) (Nat.le_refl _) hb.2.2.2.2.2.2.1 (by have := Int.emod_lt_of_pos (zp_nx x / 64) hT0; omega) (by rw [show 8 * e - 8 * f = 8 * (e - f) by omega]; exact hb.2.2.2.2.2.2.2)
  rw [show 8 * e - 8 * f = 8 * (e - f) by omega] at hfin
  exact hfin
end
