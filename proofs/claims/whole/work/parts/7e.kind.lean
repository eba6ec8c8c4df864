/-! STATEMENTS: what has been told so far, both sides; a kind -/
def zw_CD (h : zm_H) (pf K L C : Nat) (wo sz re fe ru : Nat → Int) (lk : Nat → Nat → Int) (nk nc : Nat → List Nat) (F0 : Nat → Int) (pu : Int) (l : List Int) (cf ct qf qt : Nat) : Prop :=
  zv_F h pf K L C wo sz re fe ru lk ∧ zv_Nc h pf K C nk nc ∧ (∀ i : Nat, i < 40 → h (pf + 4) i = F0 i) ∧ h pf 4 = pu ∧ (h pf 15 = l.length ∧ ∀ i : Nat, i < l.length → h (pf + 10) i = l.getD i 0) ∧ (h pf 16 = cf ∧ h pf 17 = ct ∧ h pf 18 = qf ∧ h pf 19 = qt) ∧ ∀ c k : Nat, c < 8 → k < 8 → (C ≤ c ∨ K ≤ k) → ∀ j : Int, j = 8 * c + k → h (pf + 9) j = -1
def zw_RD (h : zm_H) (b K L C : Nat) (wo sz re fe ru : Nat → Int) (lk : Nat → Nat → Int) (nk nc : Nat → List Nat) (F0 : Nat → Int) (pu : Int) (l : List Int) (cf ct qf qt : Nat) : Prop :=
  (h 148 b = K ∧ h 151 b = L ∧ h 153 b = C) ∧ (∀ k : Nat, k < K → ∀ j : Int, j = 8 * b + k → h 149 j = wo k ∧ h 150 j = sz k) ∧ (∀ c : Nat, c < C → ∀ j : Int, j = 8 * b + c → h 154 j = re c ∧ h 155 j = fe c ∧ h 156 j = ru c) ∧ (∀ c k : Nat, c < C → k < K → ∀ j : Int, j = 8 * (8 * b + c) + k → h 157 j = lk c k) ∧ zv_Nd h b K C nk nc ∧ (∀ i : Nat, i < 8 * L → ∀ j : Int, j = 40 * b + i → h 152 j = F0 i) ∧ h 158 b = pu ∧ (h 146 33 = l.length ∧ ∀ i : Nat, i < l.length → ∀ j : Int, j = 1600 * b + i → zp_cr (l.getD i 0) (h 163 j) (h 164 j)) ∧ (ct = 0 → h 159 b = -1) ∧ (ct ≠ 0 → h 159 b = cf ∧ h 160 b = ct) ∧ (qt = 0 → h 161 b = -1) ∧ (qt ≠ 0 → h 161 b = qf ∧ h 162 b = qt)
def zw_PD (K L C : Nat) (wo sz re fe ru : Nat → Int) (lk : Nat → Nat → Int) (nk nc : Nat → List Nat) (F0 : Nat → Int) (pu : Int) (l : List Int) (cf ct qf qt p : Nat) : Prop :=
  zv_B K L C wo sz re fe ru lk ∧ zv_Nn K C nk nc ∧ (∀ i, i < 40 → 0 ≤ F0 i ∧ F0 i ≤ 30) ∧ (∀ i, i < 40 → (L ≤ i / 8 ∨ K ≤ i % 8) → F0 i = 0) ∧ (0 ≤ pu ∧ pu ≤ 999) ∧ l.length ≤ p ∧ (cf ≤ ct ∧ ct ≤ l.length ∧ qf ≤ qt ∧ qt ≤ l.length) ∧ (ct ≠ 0 → ∀ en, ∃ v, zw_rn en ((l.drop cf).take (ct - cf)) [] = some [v]) ∧ (qt ≠ 0 → ∀ en, ∃ v, zw_rn en ((l.drop qf).take (qt - qf)) [] = some [v] ∧ zm_bit v)
/-- all that the class's parser writes -/
def zf_Pc (pf : Nat) (a : Nat) (i : Int) : Prop := (a = 30 ∧ 2 ≤ i ∧ i ≤ 7) ∨ (a = 29 ∧ 2 ≤ i ∧ i ≤ 3) ∨ (pf ≤ a ∧ a ≤ pf + 10 ∧ (a ≠ pf ∨ i ≠ 0))
/-- all that the reference's writes of bank b -/
def zf_Pr (b : Nat) (a : Nat) (i : Int) : Prop := (a = 146 ∧ ((3 ≤ i ∧ i ≤ 9) ∨ i = 12 ∨ i = 33 ∨ (40 ≤ i ∧ i ≤ 44))) ∨ ((a = 148 ∨ a = 151 ∨ a = 153 ∨ (158 ≤ a ∧ a ≤ 162)) ∧ i = b) ∨ ((a = 149 ∨ a = 150 ∨ a = 154 ∨ a = 155 ∨ a = 156 ∨ a = 165 ∨ a = 166) ∧ 8 * (b : Int) ≤ i ∧ i < 8 * (b : Int) + 8) ∨ (a = 152 ∧ 40 * (b : Int) ≤ i ∧ i < 40 * (b : Int) + 40) ∨ (a = 157 ∧ 64 * (b : Int) ≤ i ∧ i < 64 * (b : Int) + 64) ∨ ((a = 163 ∨ a = 164) ∧ 1600 * (b : Int) ≤ i ∧ i < 1600 * (b : Int) + 1600) ∨ (167 ≤ a ∧ a ≤ 172)
def zw_kd (T : Nat → Int) (n K C : Nat) (nk nc : Nat → List Nat) (p : Nat) (g : Bool) : zw_S := zw_th (zw_th (zw_th (zw_th (zw_new T n K C nk nc p g) (zw_own T n 1)) (zw_num T n 0 99)) (zw_own T n 2)) (zw_num T n 1 9)
def zw_upd (nk : Nat → List Nat) (K : Nat) (s : List Nat) : Nat → List Nat := fun k => if k = K then s else nk k
def zw_lkK (lk : Nat → Nat → Int) (K : Nat) (v : Int) : Nat → Nat → Int := fun c k => if k = K then v else lk c k
theorem zw_th_r {o : zw_S} {k : Nat → Bool → zw_S} {q : Nat × Bool} (h : zw_th o k = .inr q) : ∃ p g, o = .inr (p, g) ∧ k p g = .inr q := by
  rcases o with e | ⟨p, g⟩
  · cases h
  · exact ⟨p, g, rfl, h⟩
section
variable {h g : zm_H} {T : Nat → Int} {n p b pf K L C cf ct qf qt : Nat} {gl : Bool} {wo sz re fe ru : Nat → Int} {lk : Nat → Nat → Int} {nk nc : Nat → List Nat} {F0 : Nat → Int} {pu : Int} {l : List Int} {q : Nat × Bool}
theorem zw_own_r {w : Int} (e : zw_own T n w p gl = .inr q) : zy_ow T n p gl = w ∧ q = (zy_en T n p, zy_ng T n p gl) := by
  unfold zw_own at e
  split at e
  · next r => cases e; exact ⟨r, rfl⟩
  · cases e
theorem zw_num_r {lo hi : Int} (e : zw_num T n lo hi p gl = .inr q) : zy_ty T n p gl = 2 ∧ (lo ≤ zy_nu T n p ∧ zy_nu T n p ≤ hi) ∧ q = (zy_en T n p, zy_ng T n p gl) := by
  unfold zw_num at e
  split at e
  · next r =>
    split at e
    · next r2 => cases e; exact ⟨r, r2, rfl⟩
    · cases e
  · cases e
theorem zw_new_r (e : zw_new T n K C nk nc p gl = .inr q) : zw_nam T n p gl ∧ q = (zy_en T n p, zy_ng T n p gl) := by
  unfold zw_new at e
  split at e
  · next r =>
    split at e
    · cases e; exact ⟨r, rfl⟩
    · cases e
  · cases e
theorem zw_lk_r {N : Nat} {nm : Nat → List Nat} (e : zw_lk T n N nm p gl = .inr q) : zw_nam T n p gl ∧ (∃ k : Nat, zw_fd N nm (zy_ls T n p) = k ∧ k < N) ∧ q = (p, gl) := by
  unfold zw_lk at e
  split at e
  · next r =>
    split at e
    · cases e
    · next r2 =>
      cases e
      rcases zw_fd_c N nm (zy_ls T n p) with x | x
      · exact absurd x r2
      · exact ⟨r, x, rfl⟩
  · cases e
/-- the class's words alone have changed -/
theorem zw_CD.kp (hD : zw_CD h pf K L C wo sz re fe ru lk nk nc F0 pu l cf ct qf qt) (e : ∀ a, pf ≤ a → a ≤ pf + 10 → g a = h a) : zw_CD g pf K L C wo sz re fe ru lk nk nc F0 pu l cf ct qf qt := by
  obtain ⟨⟨f1, f2, f3, f4, f5, f6, f7⟩, ⟨n1, n2⟩, d3, d4, d5, d6, d7⟩ := hD
  refine ⟨⟨f1, ?_, ?_, ?_, ?_, ?_, ?_⟩, ⟨?_, ?_⟩, ?_, ?_, ?_, ?_, ?_⟩
  · rw [e pf (by omega) (by omega)]; exact f2
  · rw [e pf (by omega) (by omega)]; exact f3
  · rw [e pf (by omega) (by omega)]; exact f4
  · rw [e (pf + 2) (by omega) (by omega), e (pf + 3) (by omega) (by omega)]; exact f5
  · rw [e (pf + 6) (by omega) (by omega), e (pf + 7) (by omega) (by omega), e (pf + 8) (by omega) (by omega)]; exact f6
  · rw [e (pf + 9) (by omega) (by omega)]; exact f7
  · rw [e (pf + 1) (by omega) (by omega)]; exact n1
  · rw [e (pf + 5) (by omega) (by omega)]; exact n2
  · rw [e (pf + 4) (by omega) (by omega)]; exact d3
  · rw [e pf (by omega) (by omega)]; exact d4
  · rw [e pf (by omega) (by omega), e (pf + 10) (by omega) (by omega)]; exact d5
  · rw [e pf (by omega) (by omega)]; exact d6
  · rw [e (pf + 9) (by omega) (by omega)]; exact d7
theorem zw_CD.sc (hpf : zf_F pf) (hD : zw_CD h pf K L C wo sz re fe ru lk nk nc F0 pu l cf ct qf qt) (f : zq_F zf_Sc h g) : zw_CD g pf K L C wo sz re fe ru lk nk nc F0 pu l cf ct qf qt := hD.kp (fun a h1 h2 => by funext i; exact f a i (by have := zf_F_ne hpf; unfold zf_Sc; omega))
theorem zw_CD.Cn (hD : zw_CD h pf K L C wo sz re fe ru lk nk nc F0 pu l cf ct qf qt) (hB : zv_B K L C wo sz re fe ru lk) (hN : zv_Nn K C nk nc) : zw_Cn h pf K C nk nc := ⟨hB.1, hB.2.2.1, hD.1.2.1, hD.1.2.2.2.1, hD.2.1, hN⟩
theorem zf_Sc_Pc (f : zq_F zf_Sc h g) : zq_F (zf_Pc pf) h g := zq_F_wk f (fun a i q => by unfold zf_Sc at q; unfold zf_Pc; omega)
/-- a fault told by the class -/
theorem zw_flt {h0 : zm_H} {k a : Nat} (f : zq_F (zf_Pc pf) h0 h) (q : zy_ft k a h g) : zq_F (zf_Pc pf) h0 g ∧ g 29 2 = k ∧ g 29 3 = a := by
  have q' : g = zm_wr (zm_wr h 29 2 (k : Int)) 29 3 (a : Int) := q
  subst q'
  refine ⟨zq_F_tr f (zq_F_tr (zq_F_wr (by unfold zf_Pc; omega)) (zq_F_wr (by unfold zf_Pc; omega))), ?_, zq_wr_e⟩
  rw [zq_wr_i (by decide), zq_wr_e]
/-- the class's outcome of a piece of a statement -/
def zw_cO (h : zm_H) (pf : Nat) (T : Nat → Int) (n : Nat) (o : zw_S) (D : zm_H → Prop) (z : Int) (g : zm_H) : Prop := zq_F (zf_Pc pf) h g ∧ ((∃ k a : Nat, o = .inl (k, a) ∧ z = 0 ∧ g 29 2 = k ∧ g 29 3 = a) ∨ ∃ p' g', o = .inr (p', g') ∧ z = 1 ∧ zw_K g pf T n p' g' ∧ D g)
theorem zw_cO_f {h0 : zm_H} {k a : Nat} {o : zw_S} {D : zm_H → Prop} (f : zq_F (zf_Pc pf) h0 h) (e : o = .inl (k, a)) (q : zy_ft k a h g) : zw_cO h0 pf T n o D 0 g := by
  have r := zw_flt f q
  exact ⟨r.1, Or.inl ⟨k, a, e, rfl, r.2⟩⟩
theorem zw_CD_kind (hpf : zf_F pf) (hD : zw_CD h pf K L C wo sz re fe ru lk nk nc F0 pu l cf ct qf qt) (hB : zv_B K L C wo sz re fe ru lk) (hK8 : K < 8) {s : List Nat} {W S : Int} (hg : g = zm_wr (zm_wr (zm_wr (zm_wr h (pf + 1) K (zp_p5 s : Nat)) (pf + 2) K W) (pf + 3) K S) pf 1 ((K : Int) + 1)) : zw_CD g pf (K + 1) L C (zp_set wo K W) (zp_set sz K S) re fe ru (zw_lkK lk K W) (zw_upd nk K s) nc F0 pu l cf ct qf qt := by
  obtain ⟨⟨f1, f2, f3, f4, f5, f6, f7⟩, ⟨n1, n2⟩, d3, d4, d5, d6, d7⟩ := hD
  have ka : ∀ a : Nat, a ≠ pf → a ≠ pf + 1 → a ≠ pf + 2 → a ≠ pf + 3 → g a = h a := fun a h1 h2 h3 h4 => by
    funext i
    rw [hg, zq_wr_n h1, zq_wr_n h4, zq_wr_n h3, zq_wr_n h2]
  have k0 : ∀ i : Int, i ≠ 1 → g pf i = h pf i := fun i hi => by
    rw [hg, zq_wr_i hi, zq_wr_n (by omega), zq_wr_n (by omega), zq_wr_n (by omega)]
  have k1 : ∀ i : Int, g (pf + 1) i = zm_wr h (pf + 1) K (zp_p5 s : Nat) (pf + 1) i := fun i => by
    rw [hg, zq_wr_n (by omega), zq_wr_n (by omega), zq_wr_n (by omega)]
  have k2 : ∀ i : Int, g (pf + 2) i = zm_wr h (pf + 2) K W (pf + 2) i := fun i => by
    rw [hg, zq_wr_n (by omega), zq_wr_n (by omega)]
    by_cases q : i = K
    · rw [q, zq_wr_e, zq_wr_e]
    · rw [zq_wr_i q, zq_wr_i q, zq_wr_n (by omega)]
  have k3 : ∀ i : Int, g (pf + 3) i = zm_wr h (pf + 3) K S (pf + 3) i := fun i => by
    rw [hg, zq_wr_n (by omega)]
    by_cases q : i = K
    · rw [q, zq_wr_e, zq_wr_e]
    · rw [zq_wr_i q, zq_wr_i q, zq_wr_n (by omega), zq_wr_n (by omega)]
  refine ⟨⟨f1, ?_, ?_, ?_, ?_, ?_, ?_⟩, ⟨?_, ?_⟩, ?_, ?_, ?_, ?_, ?_⟩
  · rw [hg, zq_wr_e]; omega
  · rw [k0 2 (by decide)]; exact f3
  · rw [k0 3 (by decide)]; exact f4
  · intro k hk
    rw [k2, k3]
    unfold zp_set
    by_cases q : k = K
    · subst q; rw [zq_wr_e, zq_wr_e, if_pos rfl, if_pos rfl]; exact ⟨rfl, rfl⟩
    · rw [zq_wr_i (by omega), zq_wr_i (by omega), if_neg q, if_neg q]; exact f5 k (by omega)
  · rw [ka (pf + 6) (by omega) (by omega) (by omega) (by omega), ka (pf + 7) (by omega) (by omega) (by omega) (by omega), ka (pf + 8) (by omega) (by omega) (by omega) (by omega)]; exact f6
  · intro c k hc hk j hj
    rw [ka (pf + 9) (by omega) (by omega) (by omega) (by omega)]
    unfold zp_set zw_lkK
    by_cases q : k = K
    · rw [if_pos q, if_pos q]
      have := d7 c k (by have := hB.2.2.1; omega) (by omega) (Or.inr (by omega)) j hj
      rw [if_pos this]
    · rw [if_neg q, if_neg q]; exact f7 c k hc (by omega) j hj
  · intro k hk
    rw [k1]
    unfold zw_upd
    by_cases q : k = K
    · subst q; rw [zq_wr_e, if_pos rfl]
    · rw [zq_wr_i (by omega), if_neg q]; exact n1 k (by omega)
  · rw [ka (pf + 5) (by omega) (by omega) (by omega) (by omega)]; exact n2
  · rw [ka (pf + 4) (by omega) (by omega) (by omega) (by omega)]; exact d3
  · rw [k0 4 (by decide)]; exact d4
  · rw [k0 15 (by decide), ka (pf + 10) (by omega) (by omega) (by omega) (by omega)]; exact d5
  · rw [k0 16 (by decide), k0 17 (by decide), k0 18 (by decide), k0 19 (by decide)]; exact d6
  · intro c k hc hk hq j hj
    rw [ka (pf + 9) (by omega) (by omega) (by omega) (by omega)]
    exact d7 c k hc hk (by omega) j hj
/-- a kind, told by the class -/
theorem s_80w (hpf : zf_F pf) (hK : zw_K h pf T n p gl) (hD : zw_CD h pf K L C wo sz re fe ru lk nk nc F0 pu l cf ct qf qt) (hB : zv_B K L C wo sz re fe ru lk) (hN : zv_Nn K C nk nc) (hK8 : K < 8) : zi (zc 80 [zm_A 29] h) (zw_cO h pf T n (zw_kd T n K C nk nc p gl) (fun g => zw_CD g pf (K + 1) L C (zp_set wo K (zy_nu T n (zy_en T n (zy_en T n p)))) (zp_set sz K (zy_nu T n (zy_en T n (zy_en T n (zy_en T n (zy_en T n p)))))) re fe ru (zw_lkK lk K (zy_nu T n (zy_en T n (zy_en T n p)))) (zw_upd nk K (zy_ls T n p)) nc F0 pu l cf ct qf qt)) := by
  have pf18 := zf_F_ne hpf
  refine zt_l (e_80 hpf) (zt_I (s_81w hpf hK (hD.Cn hB hN)) ?_)
  rintro z g1 ⟨Q1, r⟩
  rcases r with ⟨rfl, k, a, e⟩ | ⟨rfl, hnm, e⟩
  · refine zt_t rfl (zt_c (Or.inl rfl) (zi_e (zw_cO_f zq_F_rf ?_ (Q1.1 k a e))))
    unfold zw_kd; rw [e]; rfl
  obtain ⟨F1, K1⟩ := Q1.2 _ _ e
  refine zt_f (zw_p5_nn _) (zt_I (s_83w K1 (w := 1) (by decide)) ?_)
  rintro z g2 ⟨Q2, r⟩
  rcases r with ⟨rfl, k, a, e2⟩ | ⟨rfl, e2⟩
  · refine zt_t rfl (zt_c (Or.inl rfl) (zi_e (zw_cO_f (zf_Sc_Pc F1) ?_ (Q2.1 k a e2))))
    unfold zw_kd; rw [e]
    show zw_th (zw_th (zw_th (zw_own T n 1 _ _) _) _) _ = _
    rw [show zw_own T n 1 (zy_en T n p) (zy_ng T n p gl) = .inl (k, a) from e2]; rfl
  obtain ⟨F2, K2⟩ := Q2.2 _ _ e2
  have F2' := zq_F_tr F1 F2
  refine zt_f (by decide) (zt_I (s_84w K2 0 99 (by decide)) ?_)
  rintro z g3 ⟨Q3, r⟩
  rcases r with ⟨rfl, k, a, e3⟩ | ⟨rfl, v1, v2, e3⟩
  · refine zt_t rfl (zt_c (Or.inl rfl) (zi_e (zw_cO_f (zf_Sc_Pc F2') ?_ (Q3.1 k a e3))))
    unfold zw_kd; rw [e]
    show zw_th (zw_th (zw_th (zw_own T n 1 _ _) _) _) _ = _
    rw [show zw_own T n 1 (zy_en T n p) (zy_ng T n p gl) = _ from e2]
    show zw_th (zw_th (zw_num T n 0 99 _ _) _) _ = _
    rw [e3]; rfl
  obtain ⟨F3, K3⟩ := Q3.2 _ _ e3
  have F3' := zq_F_tr F2' F3
  refine zt_f (by omega) (zt_I (s_83w K3 (w := 2) (by decide)) ?_)
  rintro z g4 ⟨Q4, r⟩
  rcases r with ⟨rfl, k, a, e4⟩ | ⟨rfl, e4⟩
  · refine zt_t rfl (zt_c (Or.inl rfl) (zi_e (zw_cO_f (zf_Sc_Pc F3') ?_ (Q4.1 k a e4))))
    unfold zw_kd; rw [e]
    show zw_th (zw_th (zw_th (zw_own T n 1 _ _) _) _) _ = _
    rw [show zw_own T n 1 (zy_en T n p) (zy_ng T n p gl) = _ from e2]
    show zw_th (zw_th (zw_num T n 0 99 _ _) _) _ = _
    rw [e3]
    show zw_th (zw_own T n 2 _ _) _ = _
    rw [show zw_own T n 2 _ _ = .inl (k, a) from e4]; rfl
  obtain ⟨F4, K4⟩ := Q4.2 _ _ e4
  have F4' := zq_F_tr F3' F4
  refine zt_f (by decide) (zt_I (s_84w K4 1 9 (by decide)) ?_)
  rintro z g5 ⟨Q5, r⟩
  have oo : zw_kd T n K C nk nc p gl = zw_num T n 1 9 (zy_en T n (zy_en T n (zy_en T n (zy_en T n p)))) (zy_ng T n (zy_en T n (zy_en T n (zy_en T n p))) (zy_ng T n (zy_en T n (zy_en T n p)) (zy_ng T n (zy_en T n p) (zy_ng T n p gl)))) := by
    unfold zw_kd; rw [e]
    show zw_th (zw_th (zw_th (zw_own T n 1 _ _) _) _) _ = _
    rw [show zw_own T n 1 (zy_en T n p) (zy_ng T n p gl) = _ from e2]
    show zw_th (zw_th (zw_num T n 0 99 _ _) _) _ = _
    rw [e3]
    show zw_th (zw_own T n 2 _ _) _ = _
    rw [show zw_own T n 2 _ _ = _ from e4]; rfl
  rcases r with ⟨rfl, k, a, e5⟩ | ⟨rfl, v3, v4, e5⟩
  · exact zt_t rfl (zt_c (Or.inl rfl) (zi_e (zw_cO_f (zf_Sc_Pc F4') (oo.trans e5) (Q5.1 k a e5))))
  obtain ⟨F5, K5⟩ := Q5.2 _ _ e5
  have F5' := zq_F_tr F4' F5
  have D5 := hD.sc hpf F5'
  have k29 := K5.1
  have k1 := D5.1.2.1
  have w29 : ∀ (x : zm_H) (a : Nat) (i v : Int), a ≤ 28 → zm_wr x a i v 29 1 = x 29 1 := fun x a i v ha => zq_wr_n (by omega)
  have wp1 : ∀ (x : zm_H) (a : Nat) (i v : Int), a ≠ pf → zm_wr x a i v pf 1 = x pf 1 := fun x a i v ha => zq_wr_n (Ne.symm ha)
  rw [w29 _ (pf + 3) _ _ (by omega), w29 _ (pf + 2) _ _ (by omega), w29 _ (pf + 1) _ _ (by omega), wp1 _ (pf + 3) _ _ (by omega), wp1 _ (pf + 2) _ _ (by omega), wp1 _ (pf + 1) _ _ (by omega), k1]
  refine zt_f (by omega) (zt_c k29 (zt_c k29 (zt_c (by omega) (zt_c k29 (zt_c k29 (zt_c (by omega) (zt_c k29 (zt_c k29 (zt_c (by omega) (zt_c k29 (zt_c (by omega) (zt_c (Or.inr rfl) (zi_e ⟨?_, Or.inr ⟨_, _, oo.trans e5, rfl, ?_, ?_⟩⟩)))))))))))))
  · refine zq_F_tr (zf_Sc_Pc F5') (zq_F_tr (zq_F_wr ?_) (zq_F_tr (zq_F_wr ?_) (zq_F_tr (zq_F_wr ?_) (zq_F_wr ?_)))) <;> unfold zf_Pc <;> omega
  · refine K5.kp ?_ ?_ ?_ ?_ ?_
    · funext i; rw [zq_wr_n (by omega), zq_wr_n (by omega), zq_wr_n (by omega), zq_wr_n (by omega)]
    · have := hpf
      unfold zf_F at this
      rw [zq_wr_n (by omega), zq_wr_n (by omega), zq_wr_n (by omega), zq_wr_n (by omega)]
    · have := hpf
      unfold zf_F at this
      funext i; rw [zq_wr_n (by omega), zq_wr_n (by omega), zq_wr_n (by omega), zq_wr_n (by omega)]
    · funext i; rw [zq_wr_n (by omega), zq_wr_n (by omega), zq_wr_n (by omega), zq_wr_n (by omega)]
    · funext i; rw [zq_wr_n (by omega), zq_wr_n (by omega), zq_wr_n (by omega), zq_wr_n (by omega)]
  · exact zw_CD_kind hpf D5 hB hK8 rfl
end
