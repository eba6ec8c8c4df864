/-! SMALL READERS OF THE TEXT, both sides -/
/-- on to the next -/
def zy_ng (T : Nat → Int) (n p : Nat) (g : Bool) : Bool := decide (zy_ty T n p g = 1 ∨ zy_ty T n p g = 2)
theorem zy_fi_lt {l : List Nat} : ∀ (m i : Nat) (w : Nat), zy_fi l m i = (w : Int) → zy_w w = l ∧ i ≤ w ∧ w < i + m := by
  intro m
  induction m with
  | zero => intro i w h; unfold zy_fi at h; omega
  | succ m ih =>
    intro i w h
    unfold zy_fi at h
    split at h
    · next q =>
      have : i = w := by omega
      subst this; exact ⟨q, by omega, by omega⟩
    · have := ih (i + 1) w h; exact ⟨this.1, by omega, by omega⟩
theorem zy_w_inj : ∀ i j, i < 25 → j < 25 → zy_w i = zy_w j → i = j := by
  have h : (List.range 25).all (fun i => (List.range 25).all (fun j => decide (zy_w i = zy_w j → i = j))) = true := by decide
  intro i j hi hj
  exact of_decide_eq_true (List.all_eq_true.mp (List.all_eq_true.mp h i (List.mem_range.mpr hi)) j (List.mem_range.mpr hj))
theorem zy_fi_w {w : Nat} (hw : w < 25) : ∀ (m i : Nat), i ≤ w → w < i + m → i + m ≤ 25 → zy_fi (zy_w w) m i = w := by
  intro m
  induction m with
  | zero => intro i h1 h2 _; omega
  | succ m ih =>
    intro i h1 h2 h3
    unfold zy_fi
    by_cases q : zy_w i = zy_w w
    · rw [if_pos q, zy_w_inj i w (by omega) hw q]
    · rw [if_neg q]
      have : i ≠ w := fun e => q (by rw [e])
      exact ih (i + 1) (by omega) (by omega) (by omega)
theorem zy_ow_iff {T : Nat → Int} {n p : Nat} {g : Bool} {w : Nat} (hw : w < 25) : zy_ow T n p g = w ↔ zy_ty T n p g = 1 ∧ zy_ls T n p = zy_w w := by
  unfold zy_ow
  by_cases q : zy_ty T n p g = 1
  · rw [if_pos q]
    exact ⟨fun h => ⟨q, (zy_fi_lt 25 0 w h).1.symm⟩, fun h => by rw [h.2]; exact zy_fi_w hw 25 0 (by omega) (by omega) (by omega)⟩
  · rw [if_neg q]
    exact ⟨fun h => by omega, fun h => absurd h.1 q⟩
theorem zy_ls_nm {T : Nat → Int} {n p : Nat} {g : Bool} (h : zy_ty T n p g = 1) : zp_nm (zy_ls T n p) := by
  unfold zy_ls
  unfold zy_ty at h
  refine zy_lt_nm ?_ (fun i hi => (zy_rn_in T n 97 122 (n - zy_at T n p) (zy_at T n p) i hi).2)
  split at h
  · cases h
  split at h
  · split at h
    · cases h
    · next q => exact Classical.byContradiction (fun r => q (Or.inr (by omega)))
  split at h
  · split at h <;> cases h
  · cases h
section
variable {h : zm_H} {T : Nat → Int} {n p : Nat} {gl : Bool}
theorem s_138 (hC : zy_C h T n p gl) (w : Int) : zi (zc 138 [zm_A 30, zm_I w] h) (fun z g => z = (if zy_ow T n p gl = w then 1 else 0) ∧ g = h) := by
  refine zt_l e_138 ?_
  rw [hC.2.2.2.1]
  exact zt_p (fun q => zt_c (Or.inr rfl) (zi_e ⟨by rw [if_pos q], rfl⟩)) (fun q => zt_c (Or.inl rfl) (zi_e ⟨by rw [if_neg q], rfl⟩))
theorem s_139 (hC : zy_C h T n p gl) (c : Int) : zi (zc 139 [zm_A 30, zm_I c] h) (fun z g => z = (if zy_ty T n p gl = 3 ∧ T (zy_at T n p) = c then 1 else 0) ∧ g = h) := by
  refine zt_l e_139 ?_
  rw [hC.1]
  refine zt_p (fun q => ?_) (fun q => zt_c (Or.inl rfl) (zi_e ⟨by rw [if_neg (fun r => by have := r.1; omega)], rfl⟩))
  have h3 : zy_ty T n p gl = 3 := by omega
  rw [hC.2.2.2.2.2.2.2 h3]
  exact zt_p (fun q => zt_c (Or.inr rfl) (zi_e ⟨by rw [if_pos ⟨h3, q⟩], rfl⟩)) (fun q => zt_c (Or.inl rfl) (zi_e ⟨by rw [if_neg (fun r => q r.2)], rfl⟩))
theorem s_82 (hC : zy_C h T n p gl) : zi (zc 82 [zm_A 29] h) (fun z g => z = (if zy_ty T n p gl = 1 ∧ zy_ow T n p gl = -1 then 1 else 0) ∧ g = h) := by
  refine zt_l e_82 ?_
  rw [hC.1, hC.2.2.2.1]
  exact zt_p (fun q => zt_p (fun q2 => zt_c (Or.inr rfl) (zi_e ⟨by rw [if_pos ⟨by omega, q2⟩], rfl⟩)) (fun q2 => zt_c (Or.inl rfl) (zi_e ⟨by rw [if_neg (fun r => q2 r.2)], rfl⟩))) (fun q => zt_c (Or.inl rfl) (zi_e ⟨by rw [if_neg (fun r => by have := r.1; omega)], rfl⟩))
theorem s_133a (hT : zy_CT h T n) (hC : zy_C h T n p gl) (hp : p ≤ n) (ht : zy_ty T n p gl ≠ 4 ∧ zy_ty T n p gl ≠ 0) : zu (zc 133 [zm_A 30] h) (fun g => zq_F zf_Sc h g ∧ zy_C g T n (zy_en T n p) (zy_ng T n p gl)) := by
  refine s_133 hT (zy_gl_n hp ht).2 (hC.2.2.2.2.1 ht.1) ?_
  rw [hC.1]
  unfold zy_ng
  rw [decide_eq_true_iff]
  exact ⟨fun r => by omega, fun r => by omega⟩
/-- a FAULT k at a -/
theorem s_76 (k a : Int) : zi (zc 76 [zm_A 29, zm_I k, zm_I a] h) (fun z g => z = 0 ∧ g = zm_wr (zm_wr h 29 2 k) 29 3 a) := zt_l e_76 (zt_c (Or.inl rfl) (zi_e ⟨rfl, rfl⟩))
theorem s_79 (hC : zy_C h T n p gl) : zi (zc 79 [zm_A 29] h) (fun z g => z = 0 ∧ g = zm_wr (zm_wr h 29 2 1) 29 3 (zy_bd T n p gl)) := by
  refine zt_l e_79 ?_
  rw [hC.2.2.1]
  refine zt_I (s_76 1 _) ?_
  rintro z g ⟨rfl, rfl⟩
  exact zt_c (Or.inl rfl) (zi_e ⟨rfl, rfl⟩)
/-- what the class tells of a fault: nothing else but its two cells changed since g0 -/
def zy_ft (k : Int) (a : Nat) (g0 g : zm_H) : Prop := g = zm_wr (zm_wr g0 29 2 k) 29 3 a
theorem s_83 (hT : zy_CT h T n) (hC : zy_C h T n p gl) (hp : p ≤ n) {w : Nat} (hw : w < 25) : zi (zc 83 [zm_A 29, zm_I w] h) (fun z g => (z = 1 ∧ zy_ow T n p gl = w ∧ zq_F zf_Sc h g ∧ zy_C g T n (zy_en T n p) (zy_ng T n p gl)) ∨ (z = 0 ∧ zy_ow T n p gl ≠ w ∧ zy_ft 1 (zy_bd T n p gl) h g)) := by
  refine zt_l e_83 (zt_I (s_138 hC w) ?_)
  rintro z g ⟨rfl, rfl⟩
  by_cases q : zy_ow T n p gl = w
  · rw [if_pos q]
    have h1 := ((zy_ow_iff hw).mp q).1
    refine zt_f (by decide) (zt_V (s_133a hT hC hp (by omega)) ?_)
    rintro g2 ⟨f2, c2⟩
    exact zt_c (Or.inr rfl) (zi_e (Or.inl ⟨rfl, q, f2, c2⟩))
  · rw [if_neg q]
    refine zt_t rfl (zt_I (s_79 hC) ?_)
    rintro z g2 ⟨rfl, rfl⟩
    exact zt_c (Or.inl rfl) (zi_e (Or.inr ⟨rfl, q, rfl⟩))
theorem s_94 (hT : zy_CT h T n) (hC : zy_C h T n p gl) (hp : p ≤ n) (c : Int) : zi (zc 94 [zm_A 29, zm_I c] h) (fun z g => (z = 1 ∧ (zy_ty T n p gl = 3 ∧ T (zy_at T n p) = c) ∧ zq_F zf_Sc h g ∧ zy_C g T n (zy_en T n p) (zy_ng T n p gl)) ∨ (z = 0 ∧ ¬ (zy_ty T n p gl = 3 ∧ T (zy_at T n p) = c) ∧ zy_ft 1 (zy_bd T n p gl) h g)) := by
  refine zt_l e_94 (zt_I (s_139 hC c) ?_)
  rintro z g ⟨rfl, rfl⟩
  by_cases q : zy_ty T n p gl = 3 ∧ T (zy_at T n p) = c
  · rw [if_pos q]
    refine zt_f (by decide) (zt_V (s_133a hT hC hp (by omega)) ?_)
    rintro g2 ⟨f2, c2⟩
    exact zt_c (Or.inr rfl) (zi_e (Or.inl ⟨rfl, q, f2, c2⟩))
  · rw [if_neg q]
    refine zt_t rfl (zt_I (s_79 hC) ?_)
    rintro z g2 ⟨rfl, rfl⟩
    exact zt_c (Or.inl rfl) (zi_e (Or.inr ⟨rfl, q, rfl⟩))
/-- the reference -/
theorem s_163 (hR : zy_R h T n p gl) (ht : zy_ty T n p gl ≠ 4) : zu (zc 163 [zm_A 146] h) (fun g => g = h) := zt_l e_163 (zt_t (hR.2.2.1 ht).1 (zu_e rfl))
theorem s_164y (k a : Int) (h8 : h 146 8 = 0) : zu (zc 164 [zm_A 146, zm_I k, zm_I a] h) (fun g => g = zm_wr (zm_wr h 146 8 k) 146 9 a) := zt_l e_164 (zt_t (by omega) (zu_e rfl))
theorem s_164n (k a : Int) (h8 : 0 < h 146 8) : zu (zc 164 [zm_A 146, zm_I k, zm_I a] h) (fun g => g = h) := zt_l e_164 (zt_f (by omega) (zu_e rfl))
theorem s_163x (hR : zy_R h T n p gl) (ht : zy_ty T n p gl = 4) (h8 : h 146 8 = 0) : zu (zc 163 [zm_A 146] h) (fun g => g = zm_wr (zm_wr h 146 8 1) 146 9 (zy_bd T n p gl)) := by
  refine zt_l e_163 (zt_f (by rw [hR.2.1 ht]; omega) ?_)
  rw [hR.2.1 ht]
  refine zt_V (s_164y 1 _ h8) ?_
  rintro g rfl
  exact zu_e rfl
theorem s_165 (hR : zy_R h T n p gl) (ht : zy_ty T n p gl ≠ 4) {w : Nat} {L : Int} (hw : w < 25) (hL : L = (zp_q8 (zy_w w).reverse : Nat)) : zi (zc 165 [zm_A 146, zm_L L] h) (fun z g => z = (if zy_ow T n p gl = w then 1 else 0) ∧ g = h) := by
  refine zt_l e_165 ?_
  rw [(hR.2.2.1 ht).2.1]
  refine zt_p (fun q => ?_) (fun q => zt_c (Or.inl rfl) (zi_e ⟨by rw [if_neg (fun r => by have := ((zy_ow_iff hw).mp r).1; omega)], rfl⟩))
  have h1 : zy_ty T n p gl = 1 := by omega
  have hn := zy_ls_nm h1
  have e : ((if h 146 7 < L then (-1 : Int) else if h 146 7 = L then 0 else 1) = 0) ↔ zy_ow T n p gl = w := by
    rw [zy_ow_iff hw, hR.2.2.2.1 h1, hL]
    constructor
    · intro r
      refine ⟨h1, ?_⟩
      have : zp_q8 (zy_ls T n p).reverse = zp_q8 (zy_w w).reverse := by
        split at r
        · omega
        · split at r <;> omega
      exact List.reverse_inj.mp (zp_q8_inj _ _ (zp_nm_r hn).2 (zp_nm_r (zy_w_nm w hw)).2 this)
    · intro r
      rw [r.2, if_neg (by omega), if_pos rfl]
  exact zt_p (fun q => zt_c (Or.inr rfl) (zi_e ⟨by rw [if_pos (e.mp q)], rfl⟩)) (fun q => zt_c (Or.inl rfl) (zi_e ⟨by rw [if_neg (fun r => q (e.mpr r))], rfl⟩))
theorem s_187 (hR : zy_R h T n p gl) (ht : zy_ty T n p gl ≠ 4) (c : Int) : zi (zc 187 [zm_A 146, zm_I c] h) (fun z g => z = (if zy_ty T n p gl = 3 ∧ T (zy_at T n p) = c then 1 else 0) ∧ g = h) := by
  refine zt_l e_187 ?_
  rw [(hR.2.2.1 ht).2.1]
  refine zt_p (fun q => ?_) (fun q => zt_c (Or.inl rfl) (zi_e ⟨by rw [if_neg (fun r => by have := r.1; omega)], rfl⟩))
  have h3 : zy_ty T n p gl = 3 := by omega
  rw [hR.2.2.2.2.2 h3]
  exact zt_p (fun q => zt_c (Or.inr rfl) (zi_e ⟨by rw [if_pos ⟨h3, q⟩], rfl⟩)) (fun q => zt_c (Or.inl rfl) (zi_e ⟨by rw [if_neg (fun r => q r.2)], rfl⟩))
theorem s_159a (hT : zy_RT h T n) (hR : zy_R h T n p gl) (hp : p ≤ n) (ht : zy_ty T n p gl ≠ 4 ∧ zy_ty T n p gl ≠ 0) : zu (zc 159 [zm_A 146] h) (fun g => zq_F zf_Sr h g ∧ zy_R g T n (zy_en T n p) (zy_ng T n p gl)) :=
  s_159 hT (zy_gl_n hp ht).2 (hR.2.2.1 ht.1).2.2 (zy_gl_n hp ht).1
end
