/-! STATEMENTS: a layer, told by the class -/
abbrev zw_T : Type := (Nat × Nat) ⊕ (Nat × Bool × (Nat → Int))
def zw_kk (T : Nat → Int) (n K : Nat) (nk : Nat → List Nat) (p : Nat) : Nat := (zw_fd K nk (zy_ls T n p)).toNat
def zw_pc (T : Nat → Int) (n K L : Nat) (nk : Nat → List Nat) (F : Nat → Int) (p : Nat) (g : Bool) : zw_T :=
  if zw_nam T n p g then (if zw_fd K nk (zy_ls T n p) = -1 then .inl (3, zy_at T n p) else if 0 < F (8 * L + zw_kk T n K nk p) then .inl (3, zy_at T n p) else
    if zy_ty T n (zy_en T n p) (zy_ng T n p g) = 2 then (if 1 ≤ zy_nu T n (zy_en T n p) ∧ zy_nu T n (zy_en T n p) ≤ 30 then .inr (zy_en T n (zy_en T n p), zy_ng T n (zy_en T n p) (zy_ng T n p g), zp_set F (8 * L + zw_kk T n K nk p) (zy_nu T n (zy_en T n p))) else .inl (4, zy_at T n (zy_en T n p))) else .inl (1, zy_bd T n (zy_en T n p) (zy_ng T n p g)))
  else .inl (1, zy_bd T n p g)
def zw_tt : zw_T → (Nat → Bool → (Nat → Int) → zw_T) → zw_T
  | .inl e, _ => .inl e
  | .inr (p, g, F), k => k p g F
def zw_ly (T : Nat → Int) (n K L : Nat) (nk : Nat → List Nat) : Nat → Nat → Bool → (Nat → Int) → zw_T
  | 0, _, _, _ => .inl (0, 0)
  | f + 1, p, g, F => zw_tt (zw_pc T n K L nk F p g) (fun p2 g2 F2 => if zy_sg T n p2 g2 59 = true then .inr (p2, g2, F2) else zw_ly T n K L nk f p2 g2 F2)
/-- how many kinds the layer L has -/
def zw_ct (L : Nat) (F : Nat → Int) : Int := zq_S 8 (fun k => if 0 < F (8 * L + k) then 1 else 0)
theorem zw_ct_le (L : Nat) (F : Nat → Int) : 0 ≤ zw_ct L F ∧ zw_ct L F ≤ 8 := by
  have := zq_S_le (n := 8) (f := fun k => if 0 < F (8 * L + k) then (1 : Int) else 0) (m := 1) (fun i _ => by
    show 0 ≤ (if 0 < F (8 * L + i) then (1 : Int) else 0) ∧ (if 0 < F (8 * L + i) then (1 : Int) else 0) ≤ 1
    split <;> omega)
  unfold zw_ct; omega
theorem zw_S1 {f f' : Nat → Int} {k : Nat} (h1 : f k = 0) (h2 : f' k = 1) (h3 : ∀ i, i ≠ k → f' i = f i) : ∀ n, k < n → zq_S n f' = zq_S n f + 1 := by
  intro n
  induction n with
  | zero => intro h; omega
  | succ n ih =>
    intro h
    simp only [zq_S]
    by_cases e : k = n
    · subst e
      rw [h1, h2, zq_S_congr (fun i hi => h3 i (by omega))]; omega
    · rw [ih (by omega), h3 n (Ne.symm e)]; omega
theorem zw_ct_s {L k : Nat} {F : Nat → Int} {v : Int} (hk : k < 8) (h0 : ¬ 0 < F (8 * L + k)) (hv : 0 < v) : zw_ct L (zp_set F (8 * L + k) v) = zw_ct L F + 1 := by
  unfold zw_ct
  refine zw_S1 (k := k) ?_ ?_ ?_ 8 hk
  · show (if 0 < F (8 * L + k) then (1 : Int) else 0) = 0
    rw [if_neg h0]
  · show (if 0 < zp_set F (8 * L + k) v (8 * L + k) then (1 : Int) else 0) = 1
    unfold zp_set
    rw [if_pos rfl, if_pos hv]
  · intro i hi
    show (if 0 < zp_set F (8 * L + k) v (8 * L + i) then (1 : Int) else 0) = (if 0 < F (8 * L + i) then (1 : Int) else 0)
    unfold zp_set
    rw [if_neg (show ¬ 8 * L + i = 8 * L + k by omega)]
section
variable {h g : zm_H} {T : Nat → Int} {n p b pf K L C cf ct qf qt : Nat} {gl : Bool} {wo sz re fe ru : Nat → Int} {lk : Nat → Nat → Int} {nk nc : Nat → List Nat} {F F0 : Nat → Int} {pu : Int} {l : List Int} {q : Nat × Bool} {o : zw_S}
theorem zw_kk_fd (h1 : ¬ zw_fd K nk (zy_ls T n p) = -1) : zw_fd K nk (zy_ls T n p) = zw_kk T n K nk p ∧ zw_kk T n K nk p < K := by
  rcases zw_fd_c K nk (zy_ls T n p) with e | ⟨k, e, hk⟩
  · exact absurd e h1
  · unfold zw_kk; rw [e]; exact ⟨by omega, by omega⟩
/-- the class's outcome with parcels -/
def zw_cT (h : zm_H) (pf : Nat) (T : Nat → Int) (n : Nat) (o : zw_T) (D : (Nat → Int) → zm_H → Prop) (z : Int) (g : zm_H) : Prop := zq_F (zf_Pc pf) h g ∧ ((∃ k a : Nat, o = .inl (k, a) ∧ z = 0 ∧ g 29 2 = k ∧ g 29 3 = a) ∨ ∃ p' g' F', o = .inr (p', g', F') ∧ z = 1 ∧ zw_K g pf T n p' g' ∧ D F' g)
theorem zw_cT_f {h0 : zm_H} {k a : Nat} {o : zw_T} {D : (Nat → Int) → zm_H → Prop} (f : zq_F (zf_Pc pf) h0 h) (e : o = .inl (k, a)) (q : zy_ft k a h g) : zw_cT h0 pf T n o D 0 g := by
  have r := zw_flt f q
  exact ⟨r.1, Or.inl ⟨k, a, e, rfl, r.2⟩⟩
theorem zw_CD_F (hD : zw_CD h pf K L C wo sz re fe ru lk nk nc F pu l cf ct qf qt) {i : Nat} {v : Int} {j : Int} (hj : j = i) : zw_CD (zm_wr h (pf + 4) j v) pf K L C wo sz re fe ru lk nk nc (zp_set F i v) pu l cf ct qf qt := by
  obtain ⟨⟨f1, f2, f3, f4, f5, f6, f7⟩, ⟨n1, n2⟩, d3, d4, d5, d6, d7⟩ := hD
  have e : ∀ a : Nat, a ≠ pf + 4 → zm_wr h (pf + 4) j v a = h a := fun a ha => by funext x; exact zq_wr_n ha
  refine ⟨⟨f1, ?_, ?_, ?_, ?_, ?_, ?_⟩, ⟨?_, ?_⟩, ?_, ?_, ?_, ?_, ?_⟩
  · rw [e pf (by omega)]; exact f2
  · rw [e pf (by omega)]; exact f3
  · rw [e pf (by omega)]; exact f4
  · rw [e (pf + 2) (by omega), e (pf + 3) (by omega)]; exact f5
  · rw [e (pf + 6) (by omega), e (pf + 7) (by omega), e (pf + 8) (by omega)]; exact f6
  · rw [e (pf + 9) (by omega)]; exact f7
  · rw [e (pf + 1) (by omega)]; exact n1
  · rw [e (pf + 5) (by omega)]; exact n2
  · intro x hx
    unfold zp_set
    by_cases q : x = i
    · subst q; rw [hj, zq_wr_e, if_pos rfl]
    · rw [zq_wr_i (by omega), if_neg q]; exact d3 x hx
  · rw [e pf (by omega)]; exact d4
  · rw [e pf (by omega), e (pf + 10) (by omega)]; exact d5
  · rw [e pf (by omega)]; exact d6
  · rw [e (pf + 9) (by omega)]; exact d7
theorem zw_K.wpf (hpf : zf_F pf) (hK : zw_K h pf T n p gl) {a : Nat} {i v : Int} (h1 : pf ≤ a) (h2 : a ≤ pf + 10) : zw_K (zm_wr h a i v) pf T n p gl := by
  have hz := hpf
  unfold zf_F at hz
  refine hK.kp ?_ ?_ ?_ ?_ ?_
  · funext x; rw [zq_wr_n (by omega)]
  · rw [zq_wr_n (by omega)]
  · funext x; rw [zq_wr_n (by omega)]
  · funext x; rw [zq_wr_n (by omega)]
  · funext x; rw [zq_wr_n (by omega)]
/-- one kind's parcels, told by the class -/
theorem s_86w (hpf : zf_F pf) (hK : zw_K h pf T n p gl) (hD : zw_CD h pf K L C wo sz re fe ru lk nk nc F pu l cf ct qf qt) (hB : zv_B K L C wo sz re fe ru lk) (hN : zv_Nn K C nk nc) (hL5 : L < 5) : zi (zc 86 [zm_A 29] h) (zw_cT h pf T n (zw_pc T n K L nk F p gl) (fun F' g => zw_CD g pf K L C wo sz re fe ru lk nk nc F' pu l cf ct qf qt)) := by
  have pf18 := zf_F_ne hpf
  have c := hK.2.2.2
  have hK8 := hB.1
  unfold zw_pc
  refine zt_l (e_86 hpf) (zt_I (s_82w hK) ?_)
  rintro z g ⟨rfl, rfl⟩
  by_cases q : zw_nam T n p gl
  · have nmls := zy_ls_nm q.1
    rw [if_pos q, if_pos q, c.2.2.2.2.2.1 q.1]
    refine zt_f (by decide) (zt_c hK.1 (zt_I (s_61 hpf hB.1 hD.1.2.1 hD.2.1.1 hN.1 nmls) ?_))
    rintro z g2 ⟨rfl, rfl⟩
    by_cases q1 : zw_fd K nk (zy_ls T n p) = -1
    · refine zt_t q1 ?_
      rw [if_pos q1, c.2.1]
      refine zt_I (s_76 3 _) ?_
      rintro z g4 ⟨rfl, hg⟩
      exact zt_c (Or.inl rfl) (zi_e (zw_cT_f zq_F_rf rfl hg))
    · obtain ⟨e1, e2⟩ := zw_kk_fd q1
      refine zt_f q1 ?_
      rw [if_neg q1, e1, hD.1.2.2.1]
      generalize hkk : zw_kk T n K nk p = kk at e1 e2
      have ei : (L : Int) * 8 + kk = ((8 * L + kk : Nat) : Int) := by omega
      rw [ei, hD.2.2.1 _ (by omega)]
      refine zt_c hK.1 (zt_c (by omega) (zt_c (by omega) (zt_c hK.1 (zt_c (by omega) ?_))))
      by_cases q2 : 0 < F (8 * L + kk)
      · rw [if_pos q2, c.2.1]
        refine zt_f (by omega) (zt_I (s_76 3 _) ?_)
        rintro z g4 ⟨rfl, hg⟩
        exact zt_c (Or.inl rfl) (zi_e (zw_cT_f zq_F_rf rfl hg))
      · rw [if_neg q2]
        refine zt_t (by omega) (zt_V (s_133w hK (by have := q.1; omega)) ?_)
        rintro g4 ⟨F4, K4⟩
        refine zt_I (s_84w K4 1 30 (by decide)) ?_
        rintro z g5 ⟨Q5, r⟩
        unfold zw_num at Q5 r
        by_cases t2 : zy_ty T n (zy_en T n p) (zy_ng T n p gl) = 2
        · rw [if_pos t2] at Q5 r ⊢
          by_cases q3 : 1 ≤ zy_nu T n (zy_en T n p) ∧ zy_nu T n (zy_en T n p) ≤ 30
          · rw [if_pos q3] at Q5 r ⊢
            rcases r with ⟨rfl, k, a, e5⟩ | ⟨rfl, v3, v4, e5⟩
            · exact absurd e5 (by unfold zw_go; intro x; cases x)
            · obtain ⟨F5, K5⟩ := Q5.2 _ _ rfl
              have D5 := hD.sc hpf (zq_F_tr F4 F5)
              refine zt_f (by omega) (zt_c K5.1 (zt_c (by omega) (zt_c (Or.inr rfl) (zi_e ⟨?_, Or.inr ⟨_, _, _, rfl, rfl, K5.wpf hpf (by omega) (by omega), zw_CD_F D5 rfl⟩⟩))))
              exact zq_F_tr (zf_Sc_Pc (zq_F_tr F4 F5)) (zq_F_wr (by unfold zf_Pc; omega))
          · rw [if_neg q3] at Q5 r ⊢
            rcases r with ⟨rfl, k, a, e5⟩ | ⟨rfl, v3, v4, e5⟩
            · exact zt_t rfl (zt_c (Or.inl rfl) (zi_e (zw_cT_f (zf_Sc_Pc F4) rfl (Q5.1 _ _ rfl))))
            · exact absurd e5 (by unfold zw_go; intro x; cases x)
        · rw [if_neg t2] at Q5 r ⊢
          rcases r with ⟨rfl, k, a, e5⟩ | ⟨rfl, v3, v4, e5⟩
          · exact zt_t rfl (zt_c (Or.inl rfl) (zi_e (zw_cT_f (zf_Sc_Pc F4) rfl (Q5.1 _ _ rfl))))
          · exact absurd e5 (by unfold zw_go; intro x; cases x)
  · rw [if_neg q, if_neg q]
    refine zt_t rfl (zt_I (s_79 c) ?_)
    rintro z g2 ⟨rfl, hg⟩
    exact zt_c (Or.inl rfl) (zi_e (zw_cT_f zq_F_rf rfl hg))
theorem zw_CD_L (hpf : zf_F pf) (hD : zw_CD h pf K L C wo sz re fe ru lk nk nc F pu l cf ct qf qt) : zw_CD (zm_wr h pf 2 ((L : Int) + 1)) pf K (L + 1) C wo sz re fe ru lk nk nc F pu l cf ct qf qt := by
  obtain ⟨⟨f1, f2, f3, f4, f5, f6, f7⟩, ⟨n1, n2⟩, d3, d4, d5, d6, d7⟩ := hD
  have e : ∀ a : Nat, a ≠ pf → zm_wr h pf 2 ((L : Int) + 1) a = h a := fun a ha => by funext x; exact zq_wr_n ha
  have e0 : ∀ i : Int, i ≠ 2 → zm_wr h pf 2 ((L : Int) + 1) pf i = h pf i := fun i hi => zq_wr_i hi
  refine ⟨⟨f1, ?_, ?_, ?_, ?_, ?_, ?_⟩, ⟨?_, ?_⟩, ?_, ?_, ?_, ?_, ?_⟩
  · rw [e0 1 (by decide)]; exact f2
  · rw [zq_wr_e]; omega
  · rw [e0 3 (by decide)]; exact f4
  · rw [e (pf + 2) (by omega), e (pf + 3) (by omega)]; exact f5
  · rw [e (pf + 6) (by omega), e (pf + 7) (by omega), e (pf + 8) (by omega)]; exact f6
  · rw [e (pf + 9) (by omega)]; exact f7
  · rw [e (pf + 1) (by omega)]; exact n1
  · rw [e (pf + 5) (by omega)]; exact n2
  · rw [e (pf + 4) (by omega)]; exact d3
  · rw [e0 4 (by decide)]; exact d4
  · rw [e0 15 (by decide), e (pf + 10) (by omega)]; exact d5
  · rw [e0 16 (by decide), e0 17 (by decide), e0 18 (by decide), e0 19 (by decide)]; exact d6
  · rw [e (pf + 9) (by omega)]; exact d7
theorem zw_pc_r {p2 : Nat} {g2 : Bool} {F2 : Nat → Int} (e : zw_pc T n K L nk F p gl = .inr (p2, g2, F2)) : p2 = zy_en T n (zy_en T n p) ∧ zy_ty T n p gl = 1 ∧ zy_ty T n (zy_en T n p) (zy_ng T n p gl) = 2 ∧ ∃ k v, k < K ∧ ¬ 0 < F (8 * L + k) ∧ (1 ≤ v ∧ v ≤ 30) ∧ F2 = zp_set F (8 * L + k) v := by
  unfold zw_pc at e
  split at e
  · next q =>
    split at e
    · cases e
    · next q1 =>
      split at e
      · cases e
      · next q2 =>
        split at e
        · next t2 =>
          split at e
          · next q3 =>
            cases e
            exact ⟨rfl, q.1, t2, _, _, (zw_kk_fd q1).2, q2, q3, rfl⟩
          · cases e
        · cases e
  · cases e
/-- a layer, told by the class -/
theorem s_85w (hpf : zf_F pf) (hB : zv_B K L C wo sz re fe ru lk) (hN : zv_Nn K C nk nc) (hL5 : L < 5) : ∀ (m i p : Nat) (gl : Bool) (F : Nat → Int) (h : zm_H), i + m = 9 → (i : Int) ≤ zw_ct L F → zw_K h pf T n p gl → zw_CD h pf K L C wo sz re fe ru lk nk nc F pu l cf ct qf qt → zi (zr none 5 85 2 [zm_A 29, zm_I i] [] h) (zw_cT h pf T n (zw_ly T n K L nk m p gl F) (fun F' g => zw_CD g pf K (L + 1) C wo sz re fe ru lk nk nc F' pu l cf ct qf qt)) := by
  have pf18 := zf_F_ne hpf
  have hK8 := hB.1
  intro m
  induction m with
  | zero => intro i p gl F h hi hc; have := zw_ct_le L F; omega
  | succ m ih =>
    intro i p gl F h hi hc hK hD
    refine zt_l (e_85_2 hpf) (zt_f (by omega) (zt_I (s_86w hpf hK hD hB hN hL5) ?_))
    rintro z g1 ⟨F1, r⟩
    show zt _ (fun v g => ∃ z, v = zm_I z ∧ zw_cT h pf T n (zw_tt (zw_pc T n K L nk F p gl) _) _ z g)
    rcases r with ⟨k, a, e, rfl, r2, r3⟩ | ⟨p2, g2, F2, e, rfl, K2, D2⟩
    · rw [e]
      exact zt_t rfl (zt_c (Or.inl rfl) (zi_e ⟨F1, Or.inl ⟨k, a, rfl, rfl, r2, r3⟩⟩))
    · have pr := zw_pc_r e
      obtain ⟨_, _, _, kk, v, hkk, h0, hv, rfl⟩ := pr
      have ec := zw_ct_s (L := L) (k := kk) (F := F) (v := v) (by omega) h0 (by omega)
      rw [e]
      refine zt_f (by decide) (zt_I (s_139s K2.2.2.2 59) ?_)
      rintro z g3 ⟨rfl, rfl⟩
      show zt _ (fun v' g => ∃ z, v' = zm_I z ∧ zw_cT h pf T n (if zy_sg T n p2 g2 59 = true then .inr (p2, g2, zp_set F (8 * L + kk) v) else zw_ly T n K L nk m p2 g2 (zp_set F (8 * L + kk) v)) _ z g)
      by_cases q : zy_sg T n p2 g2 59 = true
      · rw [if_pos q, if_pos q, D2.1.2.2.1]
        exact zt_f (by decide) (zt_c K2.1 (zt_c (by omega) (zt_c (Or.inr rfl) (zi_e ⟨zq_F_tr F1 (zq_F_wr (by unfold zf_Pc; omega)), Or.inr ⟨_, _, _, rfl, rfl, K2.wpf hpf (by omega) (by omega), zw_CD_L hpf D2⟩⟩))))
      · rw [if_neg q, if_neg q]
        refine zt_t rfl (zt_c (by omega) ?_)
        rw [show (i : Int) + 1 = ((i + 1 : Nat) : Int) by omega]
        refine zi_m (ih (i + 1) p2 g2 _ g3 (by omega) (by omega) K2 D2) (fun z g r => ⟨zq_F_tr F1 r.1, r.2⟩)
end
