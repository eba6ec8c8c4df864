/-! SUMS AND TESTS: operands told in the reference; all its levels -/
section
variable {h h0 g : zm_H} {T : Nat → Int} {n p b : Nat} {gl : Bool} {l : List Int} {k B d e c : Nat} {ts : List Int} {r : Int} {w : zm_V}
/-- a number, or what is seen -/
theorem zy_val {x : Int} (hw : zm_cat w ≠ 2) (hO : zy_Op h T n p gl b l k B ts d c) (hc : c ≤ 5) (hsp : zy_sp h T n p gl k) (q40 : ¬ zy_sg T n p gl 40 = true) (q23 : zy_ow T n p gl ≠ 23) (q24 : zy_ow T n p gl ≠ 24) (hx : (zy_ty T n p gl = 2 ∧ x = zy_nu T n p) ∨ (zy_ty T n p gl ≠ 2 ∧ zy_se (zy_ow T n p gl) ≠ 0 ∧ x = zy_se (zy_ow T n p gl))) : zy_St w h (zy_Es h T n b k B ts d 7 0 (fun _ _ => True) (zy_en T n p) (zy_ng T n p gl) (l ++ [x])) := by
  have t12 : zy_ty T n p gl = 1 ∨ zy_ty T n p gl = 2 := by
    rcases hx with q | q
    · exact Or.inr q.1
    · exact Or.inl (zy_ow_ty (fun e => q.2.1 (by rw [e]; rfl)))
  have on := zy_en_gt (g := gl) hO.2.2.1 (show zy_ty T n p gl ≠ 4 ∧ zy_ty T n p gl ≠ 0 by omega)
  obtain ⟨hF, o44, op, od, ok, ol, oB⟩ := hO
  have n16 := hF.1.1.1
  refine zy_St0 hw o44 (s_184e hF.1 (by omega) hF.2.1 (by omega) hsp.2 (fun y => s_184_171v (w1 := zm_I k) (w2 := zm_I y) (w3 := zm_U) (zm_cat_I _) (zy_L_169 hF.1 0) op (by omega) (by omega) q40 q23 q24)) ?_
  rintro z g ⟨rfl, r⟩
  rcases r with ⟨c2, r1, r2, r3⟩ | r
  · have e : c2 = x := by omega
    rw [e] at r3
    have f : zq_F (zf_Vl b k) h g := zq_F_tr (zq_F_wr (by unfold zf_Vl; omega)) (zq_F_wk r2 (fun a i q => by unfold zf_Cd zf_Sr at q; unfold zf_Vl; omega))
    refine ⟨Or.inr rfl, r3.2.2.1, zy_E_0 hF f r3 on.2 ?_ ok od (by omega), ?_, ?_, trivial⟩
    · rw [List.length_append]; show l.length + 1 + _ < _; omega
    · rw [zq_wr_n (by decide), r2 168 k (by unfold zf_Cd zf_Sr; omega), zq_wr_n (by decide)]
    · rw [zq_wr_n (by decide), r2 169 k (by unfold zf_Cd zf_Sr; omega), zq_wr_e]
  · exfalso
    rcases hx with q | q
    · exact r.1 q.1
    · exact q.2.1 r.2.1
theorem zy_valf (hw : zm_cat w ≠ 2) (hO : zy_Op h T n p gl b l k B ts d c) (hsp : zy_sp h T n p gl k) (q40 : ¬ zy_sg T n p gl 40 = true) (q23 : zy_ow T n p gl ≠ 23) (q24 : zy_ow T n p gl ≠ 24) (q2 : zy_ty T n p gl ≠ 2) (qs : zy_se (zy_ow T n p gl) = 0) : zy_Fl b w h 1 (zy_bd T n p gl) := by
  obtain ⟨hF, o44, op, od, ok, ol, oB⟩ := hO
  have n16 := hF.1.1.1
  by_cases t4 : zy_ty T n p gl = 4
  · refine zy_Fl0 hw o44 (s_184x hF.1 t4) (by decide) ?_
    rintro z g ⟨rfl, rfl⟩
    exact ⟨Or.inr rfl, zf_Pz_89 _ _, by rw [zq_wr_i (by decide), zq_wr_e]; rfl, zq_wr_e⟩
  · rw [zy_bd_at t4]
    refine zy_Fl0 hw o44 (s_184e hF.1 t4 hF.2.1 (by omega) hsp.2 (fun y => s_184_171v (w1 := zm_I k) (w2 := zm_I y) (w3 := zm_U) (zm_cat_I _) (zy_L_169 hF.1 0) op t4 (by omega) q40 q23 q24)) (by decide) ?_
    rintro z g ⟨rfl, r⟩
    rcases r with ⟨c2, r1, _⟩ | ⟨_, _, rfl⟩
    · exfalso
      rcases r1 with q | q
      · exact q2 q.1
      · exact q.2.1 qs
    · exact ⟨Or.inr rfl, zq_F_tr (zq_F_wr (by unfold zf_Pz; omega)) (zf_Pz_89 _ _), by rw [zq_wr_i (by decide), zq_wr_e]; rfl, zq_wr_e⟩
/-- all -/
theorem zy_als (hw : zm_cat w ≠ 2) (hO : zy_Op h T n p gl b l k B ts d c) (hc : c ≤ 5) (hfs : zy_fs h k) (hs : zy_ow T n p gl = 22) : zy_St w h (zy_Et h T n b k B ts d 3 3 (fun _ _ => True) (zy_en T n p) (zy_ng T n p gl) (l ++ [1])) := by
  have t1 := zy_ow_ty (T := T) (n := n) (p := p) (g := gl) (by omega)
  have on := zy_en_gt (g := gl) hO.2.2.1 (show zy_ty T n p gl ≠ 4 ∧ zy_ty T n p gl ≠ 0 by omega)
  obtain ⟨hF, o44, op, od, ok, ol, oB⟩ := hO
  have n16 := hF.1.1.1
  refine zy_St0 hw o44 (s_184a hF.1 op (by omega) hF.2.1 (by omega) hfs hs) ?_
  rintro z g ⟨rfl, r1, r2, r3⟩
  have f : zq_F (zf_Vl b k) h g := zq_F_wk r1 (fun a i q => by unfold zf_Cd zf_Sr at q; unfold zf_Vl; omega)
  refine ⟨Or.inr rfl, r3.2.2.1, zy_E_0 hF f r3 on.2 ?_ ok od (by omega), Or.inl ?_, trivial⟩
  · rw [List.length_append]; show l.length + 1 + _ < _; omega
  · rw [zq_wr_n (by decide)]; exact r2
/-- not -/
theorem zy_nos (hw : zm_cat w ≠ 2) (hO : zy_Op h T n p gl b l k B ts d 2) (hd : d < 7) (hfs : zy_fs h k) (hs : zy_ow T n p gl = 21) : zy_St w h (fun g => zy_Op g T n (zy_en T n p) (zy_ng T n p gl) b l k B (22 :: ts) (d + 1) 2 ∧ zq_F (zf_Lv b k B) h g ∧ g 168 k = h 168 k ∧ g 169 k = h 169 k) := by
  have t1 := zy_ow_ty (T := T) (n := n) (p := p) (g := gl) (by omega)
  have on := zy_en_gt (g := gl) hO.2.2.1 (show zy_ty T n p gl ≠ 4 ∧ zy_ty T n p gl ≠ 0 by omega)
  obtain ⟨hF, o44, op, od, ok, ol, oB⟩ := hO
  refine zy_St0 hw o44 (s_184n (o := d) (M := B + ts.length) hF.1 op hF.2.1 (by omega) hfs hs hF.2.2.2.1.1 (by omega) hF.2.2.2.2.1 od) ?_
  rintro z g (r | ⟨_, rfl, r1, r2, r3, r4, r5⟩)
  · omega
  refine ⟨Or.inl rfl, r2.2.2.1, ⟨⟨?_, ?_, ?_, ⟨?_, ?_⟩, ?_, ?_⟩, zq_wr_e, on.2, by omega, by omega, ?_, ?_⟩, ?_, ?_, ?_⟩
  · exact r2.kp (fun i hi => zq_wr_i (by omega)) (fun a ha => by funext j; exact zq_wr_n (by omega))
  · rw [zq_wr_i (by decide), r1 146 40 (by unfold zf_Sr; omega)]; exact hF.2.1
  · rw [zq_wr_n (by decide), r1 171 k (by unfold zf_Sr; omega)]; exact hF.2.2.1
  · rw [zq_wr_i (by decide), r4, List.length_cons]; rfl
  · intro i hi j hj
    rw [List.length_cons] at hi hj
    rw [zq_wr_n (by decide)]
    cases i with
    | zero =>
      have e : j = ((B + ts.length : Nat) : Int) := by omega
      rw [e, r5]; rfl
    | succ i =>
      rw [r1 172 j (by unfold zf_Sr; omega)]
      exact hF.2.2.2.1.2 i (by omega) j (by omega)
  · rw [zq_wr_i (by decide)]; exact r3
  · intro x hx
    rcases List.mem_cons.mp hx with q | q
    · omega
    · exact hF.2.2.2.2.2 x q
  · rw [List.length_cons]; omega
  · rw [List.length_cons]; omega
  · exact zq_F_tr (zq_F_wk r1 (fun a i q => by unfold zf_Sr at q; unfold zf_Lv; omega)) (zq_F_wr (by unfold zf_Lv; omega))
  · rw [zq_wr_n (by decide), r1 168 k (by unfold zf_Sr; omega)]
  · rw [zq_wr_n (by decide), r1 169 k (by unfold zf_Sr; omega)]
theorem zy_nosf (hw : zm_cat w ≠ 2) (hO : zy_Op h T n p gl b l k B ts d 2) (hd : d = 7) (hfs : zy_fs h k) (hs : zy_ow T n p gl = 21) : zy_Fl b w h 5 (zy_at T n p) := by
  obtain ⟨hF, o44, op, od, ok, ol, oB⟩ := hO
  refine zy_Fl0 hw o44 (s_184n (o := d) (M := B + ts.length) hF.1 op hF.2.1 (by omega) hfs hs hF.2.2.2.1.1 (by omega) hF.2.2.2.2.1 od) (by decide) ?_
  rintro z g (⟨_, rfl, rfl⟩ | r)
  · exact ⟨Or.inr rfl, zf_Pz_89 _ _, by rw [zq_wr_i (by decide), zq_wr_e]; rfl, zq_wr_e⟩
  · omega
theorem zy_on.op {s ph bg : Int} {c : Nat} (ho : zy_on h0 h T n p gl b l k B ts d s ph bg g) (hp : p < zy_en T n p ∧ zy_en T n p ≤ n) (hd : d ≤ 7) (hk : k ≤ d) (hl : l.length + ts.length < p) (hB : B + ts.length + 1 ≤ 7 * d + c) : zy_Op g T n (zy_en T n p) (zy_ng T n p gl) b l k B (s :: ts) d c := ⟨ho.1, ho.2.1, hp.2, hd, hk, by rw [List.length_cons]; omega, by rw [List.length_cons]; omega⟩
/-- a comparison wanting: FAULT 1 -/
theorem zy_E.nc (hw : zm_cat w ≠ 2) (hE : zy_E h g T n p gl b l k B ts d r e) (hd : d ≤ 7) (he : e ≤ 5) (hph : g 168 k = 0) (hk : zy_tk g k) (ham : zy_am T n p gl = 0) (hcm : zy_cm T n p gl = 0) : zy_Fl b w g 1 (zy_bd T n p gl) := by
  obtain ⟨lr, tt, o, hG⟩ := hE.go hd he
  by_cases t4 : zy_ty T n p gl = 4
  · exact zy_Fl1 hw hE.2.2.2.2.2.1 (s_190x hG.1 t4)
  · rw [zy_bd_at t4]
    exact zy_Fl1 hw hE.2.2.2.2.2.1 (s_190f hG t4 hph hk ham hcm)
theorem zy_mu_ad (hm : zy_mu T n p gl ≠ 0) : zy_ad T n p gl = 0 ∧ zy_am T n p gl = zy_mu T n p gl ∧ 12 ≤ -zy_mu T n p gl - 1 ∧ -zy_mu T n p gl - 1 ≤ 14 := by
  have a : zy_ad T n p gl = 0 := by
    refine Classical.byContradiction (fun q => ?_)
    unfold zy_mu at hm
    unfold zy_ad at q
    have x : ∀ c d : Int, zy_sg T n p gl c = true → zy_sg T n p gl d = true → c = d := fun c d h1 h2 => (zy_sg_ty h1).2.symm.trans (zy_sg_ty h2).2
    have y : ∃ c, zy_sg T n p gl c = true ∧ (c = 43 ∨ c = 45) := by
      split at q
      · next q1 => exact ⟨_, q1, Or.inl rfl⟩
      · split at q
        · next q1 => exact ⟨_, q1, Or.inr rfl⟩
        · exact absurd rfl q
    obtain ⟨c, y1, y2⟩ := y
    split at hm
    · next q1 => have := x _ _ y1 q1; omega
    · split at hm
      · next q1 => have := x _ _ y1 q1; omega
      · split at hm
        · next q1 => have := x _ _ y1 q1; omega
        · exact absurd rfl hm
  refine ⟨a, by unfold zy_am; rw [if_pos a], ?_⟩
  revert hm
  unfold zy_mu
  split
  · omega
  · split
    · omega
    · split <;> omega
theorem zy_ad_am (hm : zy_ad T n p gl ≠ 0) : zy_am T n p gl = zy_ad T n p gl ∧ 10 ≤ -zy_ad T n p gl - 1 ∧ -zy_ad T n p gl - 1 ≤ 11 := by
  refine ⟨by unfold zy_am; rw [if_neg hm], ?_⟩
  revert hm
  unfold zy_ad
  split
  · omega
  · split <;> omega
theorem zy_cm_b (hm : zy_cm T n p gl ≠ 0) : 17 ≤ -zy_cm T n p gl - 1 ∧ -zy_cm T n p gl - 1 ≤ 19 := by
  revert hm
  unfold zy_cm
  split
  · omega
  · split
    · omega
    · split <;> omega
theorem zy_cc_n {x : Int} (h : 10 ≤ -x - 1 ∧ -x - 1 ≤ 19) : zy_cc (-x - 1) = x := by unfold zy_cc; omega
end
