/-! STATEMENTS: a child, told by the class -/
def zw_rul (T : Nat → Int) (n p : Nat) (g : Bool) : zw_S := if 7 ≤ zy_ow T n p g ∧ zy_ow T n p g ≤ 10 then zw_go T n p g else .inl (1, zy_bd T n p g)
/-- which rule the word at p is -/
def zw_rv (T : Nat → Int) (n p : Nat) : Int := zy_fi (zy_ls T n p) 25 0 - 7
def zw_lkC (lk : Nat → Nat → Int) (C : Nat) (wo : Nat → Int) : Nat → Nat → Int := fun c k => if c = C then wo k else lk c k
def zw_ch (T : Nat → Int) (n K C : Nat) (nk nc : Nat → List Nat) (p : Nat) (g : Bool) : zw_S := zw_th (zw_th (zw_th (zw_th (zw_th (zw_new T n K C nk nc p g) (zw_own T n 5)) (zw_num T n 1 5)) (zw_own T n 6)) (zw_num T n 0 3)) (zw_rul T n)
section
variable {h g : zm_H} {T : Nat → Int} {n p b pf K L C cf ct qf qt : Nat} {gl : Bool} {wo sz re fe ru : Nat → Int} {lk : Nat → Nat → Int} {nk nc : Nat → List Nat} {F0 : Nat → Int} {pu : Int} {l : List Int} {q : Nat × Bool} {o : zw_S}
theorem zw_rul_r (e : zw_rul T n p gl = .inr q) : (7 ≤ zy_ow T n p gl ∧ zy_ow T n p gl ≤ 10) ∧ q = (zy_en T n p, zy_ng T n p gl) := by
  unfold zw_rul at e
  split at e
  · next r => cases e; exact ⟨r, rfl⟩
  · cases e
theorem zw_rv_ow (h1 : zy_ow T n p gl ≠ -1) : zw_rv T n p = zy_ow T n p gl - 7 := by
  have := zy_ow_ty h1
  unfold zw_rv zy_ow
  rw [if_pos this]
theorem zw_CD_child (hpf : zf_F pf) (hD : zw_CD h pf K L C wo sz re fe ru lk nk nc F0 pu l cf ct qf qt) (hB : zv_B K L C wo sz re fe ru lk) (hC8 : C < 8) {s : List Nat} {R F U : Int} (hg : g = zm_wr (zm_wr (zm_wr (zm_wr (zm_wr h (pf + 5) C (zp_p5 s : Nat)) (pf + 6) C R) (pf + 7) C F) (pf + 8) C U) pf 3 ((C : Int) + 1)) : zw_CD g pf K L (C + 1) wo sz (zp_set re C R) (zp_set fe C F) (zp_set ru C U) (zw_lkC lk C wo) nk (zw_upd nc C s) F0 pu l cf ct qf qt := by
  obtain ⟨⟨f1, f2, f3, f4, f5, f6, f7⟩, ⟨n1, n2⟩, d3, d4, d5, d6, d7⟩ := hD
  have ka : ∀ a : Nat, a ≠ pf → a ≠ pf + 5 → a ≠ pf + 6 → a ≠ pf + 7 → a ≠ pf + 8 → g a = h a := fun a h1 h2 h3 h4 h5 => by
    funext i
    rw [hg, zq_wr_n h1, zq_wr_n h5, zq_wr_n h4, zq_wr_n h3, zq_wr_n h2]
  have k0 : ∀ i : Int, i ≠ 3 → g pf i = h pf i := fun i hi => by
    rw [hg, zq_wr_i hi, zq_wr_n (by omega), zq_wr_n (by omega), zq_wr_n (by omega), zq_wr_n (by omega)]
  have k5 : ∀ i : Int, g (pf + 5) i = zm_wr h (pf + 5) C (zp_p5 s : Nat) (pf + 5) i := fun i => by
    rw [hg, zq_wr_n (by omega), zq_wr_n (by omega), zq_wr_n (by omega), zq_wr_n (by omega)]
  have k6 : ∀ i : Int, g (pf + 6) i = zm_wr h (pf + 6) C R (pf + 6) i := fun i => by
    rw [hg, zq_wr_n (by omega), zq_wr_n (by omega), zq_wr_n (by omega)]
    by_cases q : i = C
    · rw [q, zq_wr_e, zq_wr_e]
    · rw [zq_wr_i q, zq_wr_i q, zq_wr_n (by omega)]
  have k7 : ∀ i : Int, g (pf + 7) i = zm_wr h (pf + 7) C F (pf + 7) i := fun i => by
    rw [hg, zq_wr_n (by omega), zq_wr_n (by omega)]
    by_cases q : i = C
    · rw [q, zq_wr_e, zq_wr_e]
    · rw [zq_wr_i q, zq_wr_i q, zq_wr_n (by omega), zq_wr_n (by omega)]
  have k8 : ∀ i : Int, g (pf + 8) i = zm_wr h (pf + 8) C U (pf + 8) i := fun i => by
    rw [hg, zq_wr_n (by omega)]
    by_cases q : i = C
    · rw [q, zq_wr_e, zq_wr_e]
    · rw [zq_wr_i q, zq_wr_i q, zq_wr_n (by omega), zq_wr_n (by omega), zq_wr_n (by omega)]
  refine ⟨⟨f1, ?_, ?_, ?_, ?_, ?_, ?_⟩, ⟨?_, ?_⟩, ?_, ?_, ?_, ?_, ?_⟩
  · rw [k0 1 (by decide)]; exact f2
  · rw [k0 2 (by decide)]; exact f3
  · rw [hg, zq_wr_e]; omega
  · rw [ka (pf + 2) (by omega) (by omega) (by omega) (by omega) (by omega), ka (pf + 3) (by omega) (by omega) (by omega) (by omega) (by omega)]; exact f5
  · intro c hc
    rw [k6, k7, k8]
    unfold zp_set
    by_cases q : c = C
    · subst q; rw [zq_wr_e, zq_wr_e, zq_wr_e, if_pos rfl, if_pos rfl, if_pos rfl]; exact ⟨rfl, rfl, rfl⟩
    · rw [zq_wr_i (by omega), zq_wr_i (by omega), zq_wr_i (by omega), if_neg q, if_neg q, if_neg q]; exact f6 c (by omega)
  · intro c k hc hk j hj
    rw [ka (pf + 9) (by omega) (by omega) (by omega) (by omega) (by omega)]
    unfold zw_lkC
    by_cases q : c = C
    · rw [if_pos q]
      have := d7 c k (by omega) (by have := hB.1; omega) (Or.inl (by omega)) j hj
      rw [if_pos this]
    · rw [if_neg q]; exact f7 c k (by omega) hk j hj
  · rw [ka (pf + 1) (by omega) (by omega) (by omega) (by omega) (by omega)]; exact n1
  · intro c hc
    rw [k5]
    unfold zw_upd
    by_cases q : c = C
    · subst q; rw [zq_wr_e, if_pos rfl]
    · rw [zq_wr_i (by omega), if_neg q]; exact n2 c (by omega)
  · rw [ka (pf + 4) (by omega) (by omega) (by omega) (by omega) (by omega)]; exact d3
  · rw [k0 4 (by decide)]; exact d4
  · rw [k0 15 (by decide), ka (pf + 10) (by omega) (by omega) (by omega) (by omega) (by omega)]; exact d5
  · rw [k0 16 (by decide), k0 17 (by decide), k0 18 (by decide), k0 19 (by decide)]; exact d6
  · intro c k hc hk hq j hj
    rw [ka (pf + 9) (by omega) (by omega) (by omega) (by omega) (by omega)]
    exact d7 c k hc hk (by omega) j hj
/-- a child, told by the class -/
theorem s_87w (hpf : zf_F pf) (hK : zw_K h pf T n p gl) (hD : zw_CD h pf K L C wo sz re fe ru lk nk nc F0 pu l cf ct qf qt) (hB : zv_B K L C wo sz re fe ru lk) (hN : zv_Nn K C nk nc) (hC8 : C < 8) : zi (zc 87 [zm_A 29] h) (zw_cO h pf T n (zw_ch T n K C nk nc p gl) (fun g => zw_CD g pf K L (C + 1) wo sz (zp_set re C (zy_nu T n (zy_en T n (zy_en T n p)))) (zp_set fe C (zy_nu T n (zy_en T n (zy_en T n (zy_en T n (zy_en T n p)))))) (zp_set ru C (zw_rv T n (zy_en T n (zy_en T n (zy_en T n (zy_en T n (zy_en T n p))))))) (zw_lkC lk C wo) nk (zw_upd nc C (zy_ls T n p)) F0 pu l cf ct qf qt)) := by
  have pf18 := zf_F_ne hpf
  refine zt_l (e_87 hpf) (zt_I (s_81w hpf hK (hD.Cn hB hN)) ?_)
  rintro z g1 ⟨Q1, r⟩
  rcases r with ⟨rfl, k, a, e⟩ | ⟨rfl, hnm, e⟩
  · refine zt_t rfl (zt_c (Or.inl rfl) (zi_e (zw_cO_f zq_F_rf ?_ (Q1.1 k a e))))
    unfold zw_ch; rw [e]; rfl
  obtain ⟨F1, K1⟩ := Q1.2 _ _ e
  refine zt_f (zw_p5_nn _) (zt_I (s_83w K1 (w := 5) (by decide)) ?_)
  rintro z g2 ⟨Q2, r⟩
  rcases r with ⟨rfl, k, a, e2⟩ | ⟨rfl, e2⟩
  · refine zt_t rfl (zt_c (Or.inl rfl) (zi_e (zw_cO_f (zf_Sc_Pc F1) ?_ (Q2.1 k a e2))))
    unfold zw_ch; rw [e]
    show zw_th (zw_th (zw_th (zw_th (zw_own T n 5 _ _) _) _) _) _ = _
    rw [show zw_own T n 5 (zy_en T n p) (zy_ng T n p gl) = .inl (k, a) from e2]; rfl
  obtain ⟨F2, K2⟩ := Q2.2 _ _ e2
  have G2 := zq_F_tr F1 F2
  refine zt_f (by decide) (zt_I (s_84w K2 1 5 (by decide)) ?_)
  rintro z g3 ⟨Q3, r⟩
  rcases r with ⟨rfl, k, a, e3⟩ | ⟨rfl, v3a, v3b, e3⟩
  · refine zt_t rfl (zt_c (Or.inl rfl) (zi_e (zw_cO_f (zf_Sc_Pc G2) ?_ (Q3.1 k a e3))))
    unfold zw_ch; rw [e]
    show zw_th (zw_th (zw_th (zw_th (zw_own T n 5 _ _) _) _) _) _ = _
    rw [show zw_own T n 5 (zy_en T n p) (zy_ng T n p gl) = _ from e2]
    show zw_th (zw_th (zw_th (zw_num T n 1 5 _ _) _) _) _ = _
    rw [show zw_num T n 1 5 (zy_en T n (zy_en T n p)) (zy_ng T n (zy_en T n p) (zy_ng T n p gl)) = .inl (k, a) from e3]; rfl
  obtain ⟨F3, K3⟩ := Q3.2 _ _ e3
  have G3 := zq_F_tr G2 F3
  refine zt_f (by omega) (zt_I (s_83w K3 (w := 6) (by decide)) ?_)
  rintro z g4 ⟨Q4, r⟩
  rcases r with ⟨rfl, k, a, e4⟩ | ⟨rfl, e4⟩
  · refine zt_t rfl (zt_c (Or.inl rfl) (zi_e (zw_cO_f (zf_Sc_Pc G3) ?_ (Q4.1 k a e4))))
    unfold zw_ch; rw [e]
    show zw_th (zw_th (zw_th (zw_th (zw_own T n 5 _ _) _) _) _) _ = _
    rw [show zw_own T n 5 (zy_en T n p) (zy_ng T n p gl) = _ from e2]
    show zw_th (zw_th (zw_th (zw_num T n 1 5 _ _) _) _) _ = _
    rw [show zw_num T n 1 5 (zy_en T n (zy_en T n p)) (zy_ng T n (zy_en T n p) (zy_ng T n p gl)) = _ from e3]
    show zw_th (zw_th (zw_own T n 6 _ _) _) _ = _
    rw [show zw_own T n 6 (zy_en T n (zy_en T n (zy_en T n p))) (zy_ng T n (zy_en T n (zy_en T n p)) (zy_ng T n (zy_en T n p) (zy_ng T n p gl))) = .inl (k, a) from e4]; rfl
  obtain ⟨F4, K4⟩ := Q4.2 _ _ e4
  have G4 := zq_F_tr G3 F4
  refine zt_f (by decide) (zt_I (s_84w K4 0 3 (by decide)) ?_)
  rintro z g5 ⟨Q5, r⟩
  rcases r with ⟨rfl, k, a, e5⟩ | ⟨rfl, v5a, v5b, e5⟩
  · refine zt_t rfl (zt_c (Or.inl rfl) (zi_e (zw_cO_f (zf_Sc_Pc G4) ?_ (Q5.1 k a e5))))
    unfold zw_ch; rw [e]
    show zw_th (zw_th (zw_th (zw_th (zw_own T n 5 _ _) _) _) _) _ = _
    rw [show zw_own T n 5 (zy_en T n p) (zy_ng T n p gl) = _ from e2]
    show zw_th (zw_th (zw_th (zw_num T n 1 5 _ _) _) _) _ = _
    rw [show zw_num T n 1 5 (zy_en T n (zy_en T n p)) (zy_ng T n (zy_en T n p) (zy_ng T n p gl)) = _ from e3]
    show zw_th (zw_th (zw_own T n 6 _ _) _) _ = _
    rw [show zw_own T n 6 (zy_en T n (zy_en T n (zy_en T n p))) (zy_ng T n (zy_en T n (zy_en T n p)) (zy_ng T n (zy_en T n p) (zy_ng T n p gl))) = _ from e4]
    show zw_th (zw_num T n 0 3 _ _) _ = _
    rw [show zw_num T n 0 3 (zy_en T n (zy_en T n (zy_en T n (zy_en T n p)))) (zy_ng T n (zy_en T n (zy_en T n (zy_en T n p))) (zy_ng T n (zy_en T n (zy_en T n p)) (zy_ng T n (zy_en T n p) (zy_ng T n p gl)))) = .inl (k, a) from e5]; rfl
  obtain ⟨F5, K5⟩ := Q5.2 _ _ e5
  have G5 := zq_F_tr G4 F5
  have oo : zw_ch T n K C nk nc p gl = zw_rul T n (zy_en T n (zy_en T n (zy_en T n (zy_en T n (zy_en T n p))))) (zy_ng T n (zy_en T n (zy_en T n (zy_en T n (zy_en T n p)))) (zy_ng T n (zy_en T n (zy_en T n (zy_en T n p))) (zy_ng T n (zy_en T n (zy_en T n p)) (zy_ng T n (zy_en T n p) (zy_ng T n p gl))))) := by
    unfold zw_ch; rw [e]
    show zw_th (zw_th (zw_th (zw_th (zw_own T n 5 _ _) _) _) _) _ = _
    rw [show zw_own T n 5 (zy_en T n p) (zy_ng T n p gl) = _ from e2]
    show zw_th (zw_th (zw_th (zw_num T n 1 5 _ _) _) _) _ = _
    rw [show zw_num T n 1 5 (zy_en T n (zy_en T n p)) (zy_ng T n (zy_en T n p) (zy_ng T n p gl)) = _ from e3]
    show zw_th (zw_th (zw_own T n 6 _ _) _) _ = _
    rw [show zw_own T n 6 (zy_en T n (zy_en T n (zy_en T n p))) (zy_ng T n (zy_en T n (zy_en T n p)) (zy_ng T n (zy_en T n p) (zy_ng T n p gl))) = _ from e4]
    show zw_th (zw_num T n 0 3 _ _) _ = _
    rw [show zw_num T n 0 3 (zy_en T n (zy_en T n (zy_en T n (zy_en T n p)))) (zy_ng T n (zy_en T n (zy_en T n (zy_en T n p))) (zy_ng T n (zy_en T n (zy_en T n p)) (zy_ng T n (zy_en T n p) (zy_ng T n p gl)))) = _ from e5]; rfl
  have D5 := hD.sc hpf G5
  have ow5 := K5.2.2.2.2.2.2.1
  refine zt_f (by omega) ?_
  rw [ow5]
  have bad : ¬ (7 ≤ zy_ow T n (zy_en T n (zy_en T n (zy_en T n (zy_en T n (zy_en T n p))))) (zy_ng T n (zy_en T n (zy_en T n (zy_en T n (zy_en T n p)))) (zy_ng T n (zy_en T n (zy_en T n (zy_en T n p))) (zy_ng T n (zy_en T n (zy_en T n p)) (zy_ng T n (zy_en T n p) (zy_ng T n p gl))))) ∧ zy_ow T n (zy_en T n (zy_en T n (zy_en T n (zy_en T n (zy_en T n p))))) (zy_ng T n (zy_en T n (zy_en T n (zy_en T n (zy_en T n p)))) (zy_ng T n (zy_en T n (zy_en T n (zy_en T n p))) (zy_ng T n (zy_en T n (zy_en T n p)) (zy_ng T n (zy_en T n p) (zy_ng T n p gl))))) ≤ 10) → zi (zk_I (zc 79 [zm_A 29] g5) (fun v11 h12 => zm_ck (zm_bit v11) (some (zm_I v11, h12)))) (zw_cO h pf T n (zw_ch T n K C nk nc p gl) (fun g => zw_CD g pf K L (C + 1) wo sz (zp_set re C (zy_nu T n (zy_en T n (zy_en T n p)))) (zp_set fe C (zy_nu T n (zy_en T n (zy_en T n (zy_en T n (zy_en T n p)))))) (zp_set ru C (zw_rv T n (zy_en T n (zy_en T n (zy_en T n (zy_en T n (zy_en T n p))))))) (zw_lkC lk C wo) nk (zw_upd nc C (zy_ls T n p)) F0 pu l cf ct qf qt)) := by
    intro q
    refine zt_I (s_79 K5.2.2.2) ?_
    rintro z g6 ⟨rfl, hg6⟩
    exact zt_c (Or.inl rfl) (zi_e (zw_cO_f (zf_Sc_Pc G5) (oo.trans (by unfold zw_rul; rw [if_neg q])) hg6))
  refine zt_p (fun q => bad (by omega)) (fun q1 => zt_p (fun q2 => ?_) (fun q => bad (by omega)))
  have q : 7 ≤ zy_ow T n (zy_en T n (zy_en T n (zy_en T n (zy_en T n (zy_en T n p))))) (zy_ng T n (zy_en T n (zy_en T n (zy_en T n (zy_en T n p)))) (zy_ng T n (zy_en T n (zy_en T n (zy_en T n p))) (zy_ng T n (zy_en T n (zy_en T n p)) (zy_ng T n (zy_en T n p) (zy_ng T n p gl))))) ∧ zy_ow T n (zy_en T n (zy_en T n (zy_en T n (zy_en T n (zy_en T n p))))) (zy_ng T n (zy_en T n (zy_en T n (zy_en T n (zy_en T n p)))) (zy_ng T n (zy_en T n (zy_en T n (zy_en T n p))) (zy_ng T n (zy_en T n (zy_en T n p)) (zy_ng T n (zy_en T n p) (zy_ng T n p gl))))) ≤ 10 := by omega
  have t1 := zy_ow_ty (T := T) (n := n) (p := (zy_en T n (zy_en T n (zy_en T n (zy_en T n (zy_en T n p)))))) (g := (zy_ng T n (zy_en T n (zy_en T n (zy_en T n (zy_en T n p)))) (zy_ng T n (zy_en T n (zy_en T n (zy_en T n p))) (zy_ng T n (zy_en T n (zy_en T n p)) (zy_ng T n (zy_en T n p) (zy_ng T n p gl)))))) (by omega)
  have k29 := K5.1
  have k3 := D5.1.2.2.2.1
  have w29 : ∀ (x : zm_H) (a : Nat) (i v : Int), a ≤ 28 → zm_wr x a i v 29 1 = x 29 1 := fun x a i v ha => zq_wr_n (by omega)
  have w30 : ∀ (x : zm_H) (a : Nat) (i v : Int), a ≤ 28 → zm_wr x a i v 30 5 = x 30 5 := fun x a i v ha => zq_wr_n (by omega)
  have wp3 : ∀ (x : zm_H) (a : Nat) (i v : Int), a ≠ pf → zm_wr x a i v pf 3 = x pf 3 := fun x a i v ha => zq_wr_n (Ne.symm ha)
  rw [w29 _ (pf + 8) _ _ (by omega), w29 _ (pf + 7) _ _ (by omega), w29 _ (pf + 6) _ _ (by omega), w29 _ (pf + 5) _ _ (by omega), w30 _ (pf + 7) _ _ (by omega), w30 _ (pf + 6) _ _ (by omega), w30 _ (pf + 5) _ _ (by omega), wp3 _ (pf + 8) _ _ (by omega), wp3 _ (pf + 7) _ _ (by omega), wp3 _ (pf + 6) _ _ (by omega), wp3 _ (pf + 5) _ _ (by omega), k3, ow5]
  have hg9 : ∃ g9, g9 = zm_wr (zm_wr (zm_wr (zm_wr (zm_wr g5 (pf + 5) C (zp_p5 (zy_ls T n p) : Nat)) (pf + 6) C (zy_nu T n (zy_en T n (zy_en T n p)))) (pf + 7) C (zy_nu T n (zy_en T n (zy_en T n (zy_en T n (zy_en T n p)))))) (pf + 8) C (zy_ow T n (zy_en T n (zy_en T n (zy_en T n (zy_en T n (zy_en T n p))))) (zy_ng T n (zy_en T n (zy_en T n (zy_en T n (zy_en T n p)))) (zy_ng T n (zy_en T n (zy_en T n (zy_en T n p))) (zy_ng T n (zy_en T n (zy_en T n p)) (zy_ng T n (zy_en T n p) (zy_ng T n p gl))))) - 7)) pf 3 ((C : Int) + 1) := ⟨_, rfl⟩
  obtain ⟨g9, hg9⟩ := hg9
  rw [← hg9]
  have D9 := zw_CD_child hpf D5 hB hC8 hg9
  have F9 : zq_F (zf_Pc pf) h g9 := by
    rw [hg9]
    refine zq_F_tr (zf_Sc_Pc G5) (zq_F_tr (zq_F_wr ?_) (zq_F_tr (zq_F_wr ?_) (zq_F_tr (zq_F_wr ?_) (zq_F_tr (zq_F_wr ?_) (zq_F_wr ?_))))) <;> unfold zf_Pc <;> omega
  have K9 : zw_K g9 pf T n (zy_en T n (zy_en T n (zy_en T n (zy_en T n (zy_en T n p))))) (zy_ng T n (zy_en T n (zy_en T n (zy_en T n (zy_en T n p)))) (zy_ng T n (zy_en T n (zy_en T n (zy_en T n p))) (zy_ng T n (zy_en T n (zy_en T n p)) (zy_ng T n (zy_en T n p) (zy_ng T n p gl))))) := by
    have hz := hpf
    unfold zf_F at hz
    refine K5.kp ?_ ?_ ?_ ?_ ?_
    · funext i; rw [hg9, zq_wr_n (by omega), zq_wr_n (by omega), zq_wr_n (by omega), zq_wr_n (by omega), zq_wr_n (by omega)]
    · rw [hg9, zq_wr_n (by omega), zq_wr_n (by omega), zq_wr_n (by omega), zq_wr_n (by omega), zq_wr_n (by omega)]
    · funext i; rw [hg9, zq_wr_n (by omega), zq_wr_n (by omega), zq_wr_n (by omega), zq_wr_n (by omega), zq_wr_n (by omega)]
    · funext i; rw [hg9, zq_wr_n (by omega), zq_wr_n (by omega), zq_wr_n (by omega), zq_wr_n (by omega), zq_wr_n (by omega)]
    · funext i; rw [hg9, zq_wr_n (by omega), zq_wr_n (by omega), zq_wr_n (by omega), zq_wr_n (by omega), zq_wr_n (by omega)]
  rw [← zw_rv_ow (show zy_ow T n (zy_en T n (zy_en T n (zy_en T n (zy_en T n (zy_en T n p))))) (zy_ng T n (zy_en T n (zy_en T n (zy_en T n (zy_en T n p)))) (zy_ng T n (zy_en T n (zy_en T n (zy_en T n p))) (zy_ng T n (zy_en T n (zy_en T n p)) (zy_ng T n (zy_en T n p) (zy_ng T n p gl))))) ≠ -1 by omega)] at D9
  refine zt_c k29 (zt_c k29 (zt_c (by omega) (zt_c k29 (zt_c k29 (zt_c (by omega) (zt_c k29 (zt_c k29 (zt_c (by omega) (zt_c k29 (zt_c k29 (zt_c (by omega) (zt_c (by omega) (zt_c k29 (zt_c (by omega) (zt_V (s_133w K9 (by omega)) ?_)))))))))))))))
  rintro g10 ⟨F10, K10⟩
  refine zt_c (Or.inr rfl) (zi_e ⟨zq_F_tr F9 (zf_Sc_Pc F10), Or.inr ⟨_, _, oo.trans (by unfold zw_rul; rw [if_pos q]; rfl), rfl, K10, D9.sc hpf F10⟩⟩)
end
