/-! SUMS AND TESTS: an operand in the reference, as a whole -/
section
variable {h : zm_H} {T : Nat → Int} {n p b : Nat} {gl : Bool} {l : List Int}
theorem s_184x (hL : zy_L h T n p gl b l) (ht : zy_ty T n p gl = 4) : zi (zc 184 [zm_A 146] h) (fun z g => z = 1 ∧ g = zm_wr (zm_wr h 146 8 1) 146 9 (zy_bd T n p gl)) := by
  refine zt_l e_184 (zt_V (s_163x hL.2.1 ht hL.2.2.1) ?_)
  rintro g rfl
  exact zt_f (by rw [zq_wr_i (by decide), zq_wr_e]; decide) (zt_c (Or.inr rfl) (zi_e ⟨rfl, rfl⟩))
/-- at the beginning of a fact -/
def zy_fs (h : zm_H) (k : Nat) : Prop := (h 167 k = 1 ∨ h 167 k = 5) ∧ h 169 k ≠ 0
theorem s_184h {k : Nat} {R : Int → zm_H → Prop} (hL : zy_L h T n p gl b l) (ht : zy_ty T n p gl ≠ 4) (h40 : h 146 40 = ((k + 1 : Nat) : Int)) (hk : k < 20)
    (c1 : zy_fs h k → zy_ow T n p gl = 21 → zi (if h 146 41 = 7 then (zk_V (zc 164 [zm_A 146, zm_I 5, zm_I (h 146 4)] h) (fun h6 => zr none 4 184 79 [zm_A 146, zm_I k, zm_I 1, zm_U] [] h6)) else (zr none 4 184 79 [zm_A 146, zm_I k, zm_I 1, zm_U] [] h)) R)
    (c2 : zy_fs h k → zy_ow T n p gl ≠ 21 → zi (zr none 4 184 110 [zm_A 146, zm_I k, zm_I 1, zm_U] [] h) R)
    (c3 : ¬ zy_fs h k → zi (zr none 4 184 110 [zm_A 146, zm_I k, zm_I 0, zm_U] [] h) R) : zi (zc 184 [zm_A 146] h) R := by
  have f8 := hL.2.2.1
  have ek : h 146 40 - 1 = (k : Int) := by omega
  refine zt_l e_184 (zt_V (s_163 hL.2.1 ht) ?_)
  rintro g rfl
  rw [ek]
  refine zt_t (by omega) (zt_c (by omega) (zt_c (by omega) (zt_I (s_185 _) ?_)))
  rintro z g2 ⟨rfl, rfl⟩
  by_cases q : g2 167 k = 1 ∨ g2 167 k = 5
  · rw [if_pos q]
    refine zt_f (by decide) (zt_c (by omega) (zt_p (fun q2 => ?_) (fun q2 => ?_)))
    · exact zt_l e_184_45 (zt_t rfl (c3 (fun r => r.2 q2)))
    · refine zt_f (by decide) (zt_I (s_165 (w := 21) hL.2.1 ht (by decide) (by decide)) ?_)
      rintro z g3 ⟨rfl, rfl⟩
      by_cases w : zy_ow T n p gl = ((21 : Nat) : Int)
      · rw [if_pos w]
        exact zt_f (by decide) (c1 ⟨q, q2⟩ w)
      · rw [if_neg w]
        exact zt_t rfl (c2 ⟨q, q2⟩ w)
  · rw [if_neg q]
    exact zt_t rfl (zt_l e_184_45 (zt_t rfl (c3 (fun r => q r.1))))
/-- not -/
theorem s_184n {k o M : Nat} (hL : zy_L h T n p gl b l) (hp : p ≤ n) (h40 : h 146 40 = ((k + 1 : Nat) : Int)) (hk : k < 20) (hf : zy_fs h k) (hw : zy_ow T n p gl = 21) (h43 : h 146 43 = M) (hM : M < 500) (h41 : h 146 41 = o) (ho : o ≤ 7) : zi (zc 184 [zm_A 146] h) (fun z g => (o = 7 ∧ z = 1 ∧ g = zm_wr (zm_wr h 146 8 5) 146 9 (zy_at T n p)) ∨ (o < 7 ∧ z = 0 ∧ zq_F (fun a i => zf_Sr a i ∨ (a = 146 ∧ (i = 41 ∨ i = 43)) ∨ (a = 172 ∧ i = M)) h g ∧ zy_L g T n (zy_en T n p) (zy_ng T n p gl) b l ∧ g 146 41 = ((o + 1 : Nat) : Int) ∧ g 146 43 = ((M + 1 : Nat) : Int) ∧ g 172 M = 22)) := by
  have t1 := zy_ow_ty (T := T) (n := n) (p := p) (g := gl) (by rw [hw]; decide)
  have f8 := hL.2.2.1
  refine s_184h hL (by omega) h40 hk (fun _ _ => ?_) (fun _ q => absurd hw q) (fun q => absurd hf q)
  rw [h41]
  refine zt_p (fun q => ?_) (fun q => ?_)
  · rw [hL.2.1.1]
    refine zt_V (s_164y 5 _ f8) ?_
    rintro g rfl
    exact zt_l e_184_79 (zt_f (by rw [zq_wr_i (by decide), zq_wr_e]; decide) (zt_c (Or.inr rfl) (zi_e (Or.inl ⟨by omega, rfl, rfl⟩))))
  · refine zt_l e_184_79 (zt_t (by omega) ?_)
    rw [h41]
    refine zt_c (by omega) (zt_V (s_186 (m := M) 22 (by rw [zq_wr_i (by decide)]; exact h43) hM) ?_)
    rintro g rfl
    have fw : zq_F (fun a i => (a = 146 ∧ (i = 41 ∨ i = 43)) ∨ (a = 172 ∧ i = M)) h (zm_wr (zm_wr (zm_wr h 146 41 ((o : Int) + 1)) 172 M 22) 146 43 ((M : Int) + 1)) := zq_F_tr (zq_F_wr (Or.inl ⟨rfl, by omega⟩)) (zq_F_tr (zq_F_wr (Or.inr ⟨rfl, rfl⟩)) (zq_F_wr (Or.inl ⟨rfl, by omega⟩)))
    have Lw : zy_L (zm_wr (zm_wr (zm_wr h 146 41 ((o : Int) + 1)) 172 M 22) 146 43 ((M : Int) + 1)) T n p gl b l := hL.kp (fun i hi => fw 146 i (by omega)) (fun a ha => by funext i; exact fw a i (by omega))
    refine zt_V (s_159L Lw hp (by omega)) ?_
    rintro g2 ⟨f2, L2⟩
    refine zt_c (Or.inl rfl) (zi_e (Or.inr ⟨by omega, rfl, zq_F_tr (zq_F_wk fw (fun a i q => Or.inr q)) (zq_F_wk f2 (fun a i q => Or.inl q)), L2, ?_, ?_, ?_⟩))
    · rw [f2 146 41 (by unfold zf_Sr; omega), zq_wr_i (by decide), zq_wr_n (by decide), zq_wr_e]; omega
    · rw [f2 146 43 (by unfold zf_Sr; omega), zq_wr_e]; omega
    · rw [f2 172 M (by unfold zf_Sr; omega), zq_wr_n (by decide), zq_wr_e]
theorem zy_L_169 {k : Nat} (hL : zy_L h T n p gl b l) (v : Int) : zy_L (zm_wr h 169 k v) T n p gl b l := hL.kp (fun i _ => zq_wr_n (by decide)) (fun a ha => by funext j; exact zq_wr_n (by omega))
/-- [ -/
theorem s_184b {k o : Nat} {M : Int} (hL : zy_L h T n p gl b l) (hp : p ≤ n) (h40 : h 146 40 = ((k + 1 : Nat) : Int)) (hk : k + 1 < 20) (hf : zy_fs h k) (hw : zy_sg T n p gl 91 = true) (h43 : h 146 43 = M) (h41 : h 146 41 = o) (ho : o ≤ 7) : zi (zc 184 [zm_A 146] h) (fun z g => z = 0 ∧ ((o = 7 ∧ g = zm_wr (zm_wr (zm_wr h 169 k 0) 146 8 5) 146 9 (zy_at T n p)) ∨ (o < 7 ∧ zq_F (fun a i => zf_Sr a i ∨ zf_Pu (k + 1) a i ∨ (a = 146 ∧ i = 41)) (zm_wr h 169 k 0) g ∧ zy_L g T n (zy_en T n p) (zy_ng T n p gl) b l ∧ g 146 41 = ((o + 1 : Nat) : Int) ∧ g 167 ((k + 1 : Nat) : Int) = 5 ∧ g 168 ((k + 1 : Nat) : Int) = 0 ∧ g 169 ((k + 1 : Nat) : Int) = 1 ∧ g 171 ((k + 1 : Nat) : Int) = M ∧ g 146 40 = ((k + 1 + 1 : Nat) : Int)))) := by
  have t3 := (zy_sg_ty hw).1
  have n1 : zy_ow T n p gl = -1 := Classical.byContradiction (fun q => by have := zy_ow_ty q; omega)
  refine s_184h hL (by omega) h40 (by omega) (fun _ q => by omega) (fun _ _ => ?_) (fun q => absurd hf q)
  have L9 := zy_L_169 (k := k) hL 0
  refine zt_l e_184_110 (zt_c ⟨by omega, Or.inl rfl⟩ (zt_f (by decide) (zt_I (s_187s L9.2.1 (by omega) 91) ?_)))
  rintro z g ⟨rfl, rfl⟩
  rw [if_pos hw]
  refine zt_f (by decide) (zt_V (s_188 (k := k + 1) (M := M) 5 L9 hp (by omega) (by rw [zq_wr_n (by decide)]; exact h40) hk (by rw [zq_wr_n (by decide)]; exact h43) (by rw [zq_wr_n (by decide)]; exact h41) ho) ?_)
  intro g2 r
  exact zt_c (Or.inl rfl) (zi_e ⟨rfl, r⟩)
/-- all -/
theorem s_184a {k : Nat} (hL : zy_L h T n p gl b l) (hp : p ≤ n) (hl : l.length < 1600) (h40 : h 146 40 = ((k + 1 : Nat) : Int)) (hk : k < 20) (hf : zy_fs h k) (hw : zy_ow T n p gl = 22) : zi (zc 184 [zm_A 146] h) (fun z g => z = 1 ∧ zq_F (fun a i => zf_Sr a i ∨ zf_Cd b a i ∨ ((a = 168 ∨ a = 169) ∧ i = k)) h g ∧ g 168 k = 2 ∧ zy_L g T n (zy_en T n p) (zy_ng T n p gl) b (l ++ [1])) := by
  have t1 := zy_ow_ty (T := T) (n := n) (p := p) (g := gl) (by rw [hw]; decide)
  have ns : ¬ zy_sg T n p gl 91 = true := fun q => by have := (zy_sg_ty q).1; omega
  refine s_184h hL (by omega) h40 hk (fun _ q => by omega) (fun _ _ => ?_) (fun q => absurd hf q)
  have L9 := zy_L_169 (k := k) hL 0
  refine zt_l e_184_110 (zt_c ⟨by omega, Or.inl rfl⟩ (zt_f (by decide) (zt_I (s_187s L9.2.1 (by omega) 91) ?_)))
  rintro z g ⟨rfl, rfl⟩
  rw [if_neg ns]
  refine zt_t rfl (zt_l e_184_137 (zt_f (by decide) (zt_I (s_165 (w := 22) L9.2.1 (by omega) (by decide) (by decide)) ?_)))
  rintro z g ⟨rfl, rfl⟩
  rw [if_pos (show zy_ow T n p gl = ((22 : Nat) : Int) from hw)]
  refine zt_f (by decide) (zt_V (s_189 (c := 1) L9 hl (by unfold zp_cr; omega)) ?_)
  rintro g2 ⟨f2, L2⟩
  have L3 : zy_L (zm_wr g2 168 k 2) T n p gl b (l ++ [1]) := L2.kp (fun i _ => zq_wr_n (by decide)) (fun a ha => by funext j; exact zq_wr_n (by omega))
  refine zt_c (by omega) (zt_V (s_159L L3 hp (by omega)) ?_)
  rintro g3 ⟨f3, L3'⟩
  refine zt_c (Or.inr rfl) (zi_e ⟨rfl, ?_, ?_, L3'⟩)
  · exact zq_F_tr (zq_F_wr (Or.inr (Or.inr ⟨by omega, rfl⟩))) (zq_F_tr (zq_F_wk f2 (fun a i q => Or.inr (Or.inl q))) (zq_F_tr (zq_F_wr (Or.inr (Or.inr ⟨by omega, rfl⟩))) (zq_F_wk f3 (fun a i q => Or.inl q))))
  · rw [f3 168 k (by unfold zf_Sr; omega), zq_wr_e]
/-- what is left -/
theorem s_184e {k : Nat} {R : Int → zm_H → Prop} (hL : zy_L h T n p gl b l) (ht : zy_ty T n p gl ≠ 4) (h40 : h 146 40 = ((k + 1 : Nat) : Int)) (hk : k < 20) (hf : zy_fs h k → zy_ow T n p gl ≠ 21 ∧ ¬ zy_sg T n p gl 91 = true ∧ zy_ow T n p gl ≠ 22) (c : ∀ x : Int, zi (zr none 4 184 171 [zm_A 146, zm_I k, zm_I x, zm_U] [] (zm_wr h 169 k 0)) R) : zi (zc 184 [zm_A 146] h) R := by
  have L9 := zy_L_169 (k := k) hL 0
  refine s_184h hL ht h40 hk (fun q1 q2 => absurd q2 (hf q1).1) (fun q _ => ?_) (fun q => ?_)
  · refine zt_l e_184_110 (zt_c ⟨by omega, Or.inl rfl⟩ (zt_f (by decide) (zt_I (s_187s L9.2.1 ht 91) ?_)))
    rintro z g ⟨rfl, rfl⟩
    rw [if_neg (hf q).2.1]
    refine zt_t rfl (zt_l e_184_137 (zt_f (by decide) (zt_I (s_165 (w := 22) L9.2.1 ht (by decide) (by decide)) ?_)))
    rintro z g ⟨rfl, rfl⟩
    rw [if_neg (show ¬ zy_ow T n p gl = ((22 : Nat) : Int) from (hf q).2.2)]
    exact zt_t rfl (c 1)
  · exact zt_l e_184_110 (zt_c ⟨by omega, Or.inl rfl⟩ (zt_t rfl (zt_l e_184_137 (zt_t rfl (c 0)))))
end
