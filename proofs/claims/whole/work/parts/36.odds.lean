/-! ODDS: both sides -/
def zp_al (ke cn : Nat → Int) (k n : Nat) : Int := zq_S n (fun j => if ke j = ke k then cn j else 0)
theorem zp_ut_al {ke cn : Nat → Int} {k : Nat} (n : Nat) : zp_ut ke cn k n = zp_be ke cn k n + zp_al ke cn k n := by
  unfold zp_ut zp_be zp_al
  rw [← zq_S_plus]
  refine zq_S_congr (fun i _ => ?_)
  by_cases h1 : ke k < ke i
  · rw [if_pos h1, if_neg (by omega), if_neg (by omega)]; rfl
  · rw [if_neg h1]
    by_cases h2 : ke i < ke k
    · rw [if_pos h2, if_neg (by omega)]; omega
    · rw [if_neg h2, if_pos (by omega)]; omega
theorem zp_al_b {ke cn : Nat → Int} {k n : Nat} (hk : k < n) (hc : ∀ j, j < n → 0 ≤ cn j ∧ cn j ≤ 495) : cn k ≤ zp_al ke cn k n := by
  have := zq_S_one (n := n) (f := fun j => if ke j = ke k then cn j else 0) (fun i hi => by
    have := hc i hi
    split <;> omega) hk
  simpa [zp_al] using this
theorem zp_ut_tot {ke cn : Nat → Int} {k n : Nat} (hc : ∀ j, j < n → 0 ≤ cn j ∧ cn j ≤ 495) : zp_ut ke cn k n ≤ zq_S n cn := by
  induction n with
  | zero => exact Int.le_refl _
  | succ n ih =>
    have h1 := ih (fun j hj => hc j (by omega))
    have h2 := hc n (by omega)
    unfold zp_ut at h1 ⊢
    simp only [zq_S]
    split <;> omega
/-- a kind's ways are no more than all ways -/
theorem zp_ways_b {ke cn : Nat → Int} {k t : Nat} (hk : k < 8) (hc : ∀ j, j < 8 → 0 ≤ cn j ∧ cn j ≤ 495) (ht : t ≤ 4) : 0 ≤ zp_ways ke cn k t ∧ zp_ways ke cn k t ≤ zp_pw (zq_S 8 cn) t := by
  have b1 := zp_be_ut (ke := ke) (k := k) hc (Nat.le_refl 8)
  have b2 := zp_each_b b1.1 b1.2.1 b1.2.2 ht
  have b3 := zp_al_b (ke := ke) hk hc
  have b4 := zp_ut_al (ke := ke) (cn := cn) (k := k) 8
  have b5 := zp_each_id (zp_ut ke cn k 8) (zp_be ke cn k 8) t
  have b6 := zp_ut_tot (ke := ke) (k := k) hc
  have b7 := zp_pw_b (b := zp_ut ke cn k 8) (m := zq_S 8 cn) (by omega) b6 t
  have b8 := zp_pw_b (b := zp_be ke cn k 8) (m := 3960) b1.1 (by omega) t
  have b9 := (hc k hk).1
  unfold zp_ways
  refine ⟨Int.mul_nonneg b2.1 b9, ?_⟩
  have h1 : zp_each (zp_ut ke cn k 8) (zp_be ke cn k 8) t * cn k ≤ zp_each (zp_ut ke cn k 8) (zp_be ke cn k 8) t * (zp_ut ke cn k 8 - zp_be ke cn k 8) := Int.mul_le_mul_of_nonneg_left (by omega) b2.1
  rw [Int.mul_comm _ (zp_ut ke cn k 8 - zp_be ke cn k 8), b5] at h1
  omega
def zp_wo (ke cn wv : Nat → Int) (t : Nat) : Int := zq_S 8 (fun k => zp_ways ke cn k t * wv k)
def zp_th (n a : Int) : Int := n / a * 1000 + n % a * 1000 / a
theorem zp_wo_b {ke cn wv : Nat → Int} {t n : Nat} (hn : n ≤ 8) (hc : ∀ j, j < 8 → 0 ≤ cn j ∧ cn j ≤ 495) (hw : ∀ j, j < 8 → 0 ≤ wv j ∧ wv j ≤ 99) (ht : t ≤ 4) : 0 ≤ zq_S n (fun k => zp_ways ke cn k t * wv k) ∧ zq_S n (fun k => zp_ways ke cn k t * wv k) ≤ 792 * zp_pw (zq_S 8 cn) t := by
  have hA : 0 ≤ zp_pw (zq_S 8 cn) t := (zp_pw_b (m := zq_S 8 cn) (zq_S_nn (fun i hi => (hc i hi).1)) (Int.le_refl _) t).1
  have := zq_S_le (n := n) (f := fun k => zp_ways ke cn k t * wv k) (m := 99 * zp_pw (zq_S 8 cn) t) (fun i hi => ?_)
  · refine ⟨this.1, Int.le_trans this.2 ?_⟩
    have h8 : (n : Int) * (99 * zp_pw (zq_S 8 cn) t) ≤ 8 * (99 * zp_pw (zq_S 8 cn) t) := Int.mul_le_mul_of_nonneg_right (by omega) (by omega)
    omega
  · have b1 := zp_ways_b (ke := ke) (k := i) (by omega) hc ht
    have b2 := hw i (by omega)
    refine ⟨Int.mul_nonneg b1.1 b2.1, ?_⟩
    rw [Int.mul_comm 99]
    exact Int.mul_le_mul b1.2 b2.2 b2.1 hA
section
variable {h : zm_H} {t b K L C : Nat} {wo sz re fe ru : Nat → Int} {lk : Nat → Nat → Int} {P Pu Hd : Nat → Int}
theorem zp_tot_b {cn : Nat → Int} (hc : ∀ j, j < 8 → 0 ≤ cn j ∧ cn j ≤ 495) : 0 ≤ zq_S 8 cn ∧ zq_S 8 cn ≤ 3960 := by
  have := zq_S_le (n := 8) (f := cn) (m := 495) hc
  omega
theorem s_116 {cn : Nat → Int} {t : Nat} (ht : 1 ≤ t ∧ t ≤ 4) (h6 : h 128 6 = t) (h3 : h 128 3 = zq_S 8 cn) (hc : ∀ j, j < 8 → 0 ≤ cn j ∧ cn j ≤ 495) : zj (zc 116 [zm_A 128] h) (fun z g => z = zp_pw (zq_S 8 cn) t ∧ g = h) := by
  refine zt_l e_116 ?_
  rw [h6, h3]
  refine zt_L (s_115 (zp_tot_b hc) ht.2) ?_
  rintro z g ⟨rfl, rfl⟩
  exact zj_e ⟨rfl, rfl⟩
theorem s_117 {ke cn wv : Nat → Int} {t : Nat} (ht : 1 ≤ t ∧ t ≤ 4) (h6 : h 128 6 = t) (h129 : ∀ j : Nat, j < 8 → h 129 j = cn j) (h131 : ∀ j : Nat, j < 8 → h 131 j = ke j) (h130 : ∀ j : Nat, j < 8 → h 130 j = wv j) (hc : ∀ j, j < 8 → 0 ≤ cn j ∧ cn j ≤ 495) (hw : ∀ j, j < 8 → 0 ≤ wv j ∧ wv j ≤ 99) : zj (zc 117 [zm_A 128] h) (fun z g => z = zp_wo ke cn wv t ∧ g = h) := by
  have bA := zp_pw_b (zp_tot_b hc).1 (zp_tot_b hc).2 t
  have bM := zp_pw_m (n := t) ht.2
  have key : ∀ (m i : Nat), i + m = 8 → zj (zr none 3 117 4 [zm_A 128, zm_L (zq_S i (fun k => zp_ways ke cn k t * wv k)), zm_U, zm_I i] [] h) (fun z g => z = zp_wo ke cn wv t ∧ g = h) := by
    intro m
    induction m with
    | zero =>
      intro i hi
      exact zt_l e_117_4 (zt_f (by omega) (zj_e ⟨by rw [show i = 8 by omega]; rfl, rfl⟩))
    | succ m ih =>
      intro i hi
      have b1 := zp_wo_b (ke := ke) (n := i) (by omega) hc hw ht.2
      have b2 := zp_wo_b (ke := ke) (n := i + 1) (by omega) hc hw ht.2
      have b3 : zq_S (i + 1) (fun k => zp_ways ke cn k t * wv k) = zq_S i (fun k => zp_ways ke cn k t * wv k) + zp_ways ke cn i t * wv i := rfl
      have b4 : 0 ≤ zp_ways ke cn i t * wv i := Int.mul_nonneg (zp_ways_b (by omega) hc ht.2).1 (hw i (by omega)).1
      refine zt_l e_117_4 (zt_t (by omega) (zt_L (s_114 (by omega) ht h6 h129 h131 hc) ?_))
      rintro z g ⟨rfl, rfl⟩
      rw [h130 i (by omega)]
      exact zt_c (by omega) (zt_c (by omega) (zt_c (by omega) (zt_c (by omega) (ih (i + 1) (by omega)))))
  exact zt_l e_117 (key 8 0 (by omega))
theorem zp_th_b {n a : Int} (h0 : 0 ≤ n) (ha : 0 < a) (hn : n ≤ 792 * a) (ha2 : a ≤ 245912578560000) : 0 ≤ n / a ∧ n / a ≤ 792 ∧ 0 ≤ n % a ∧ n % a < a ∧ 0 ≤ n % a * 1000 / a ∧ n % a * 1000 / a ≤ 1000 ∧ n % a * 1000 ≤ 245912578560000000 := by
  have h1 := Int.ediv_nonneg h0 (Int.le_of_lt ha)
  have h2 : n / a ≤ 792 := Int.ediv_le_of_le_mul ha hn
  have h3 := Int.emod_nonneg n (by omega : a ≠ 0)
  have h4 := Int.emod_lt_of_pos n ha
  refine ⟨h1, h2, h3, h4, Int.ediv_nonneg (by omega) (by omega), ?_, by omega⟩
  exact Int.ediv_le_of_le_mul ha (by omega)
theorem s_21 {n a : Int} (h0 : 0 ≤ n) (ha : 0 < a) (hn : n ≤ 792 * a) (ha2 : a ≤ 245912578560000) : zi (zc 21 [zm_L n, zm_L a] h) (fun z g => z = zp_th n a ∧ g = h) := by
  have b := zp_th_b h0 ha hn ha2
  refine zt_l e_21 (zt_t (by rw [if_neg (by omega), if_neg (by omega)]; decide) ?_)
  rw [zq_tdiv h0, zq_tmod h0, zq_tdiv (by omega)]
  exact zt_c (by omega) (zt_c (by omega) (zt_c (by omega) (zt_c (by omega) (zt_c (by omega) (zt_c (by omega) (zt_c (by omega) (zi_e ⟨rfl, rfl⟩)))))))
theorem s_21z {n a : Int} (ha : a ≤ 0) : zi (zc 21 [zm_L n, zm_L a] h) (fun z g => z = -1 ∧ g = h) := by
  refine zt_l e_21 (zt_f ?_ (zi_e ⟨rfl, rfl⟩))
  by_cases h0 : a < 0
  · rw [if_pos h0]; decide
  · rw [if_neg h0, if_pos (by omega)]; decide
theorem s_237 {n a : Int} (h0 : 0 ≤ n) (ha : 0 < a) (hn : n ≤ 792 * a) (ha2 : a ≤ 245912578560000) : zi (zc 237 [zm_L n, zm_L a] h) (fun z g => z = zp_th n a ∧ g = h) := by
  have b := zp_th_b h0 ha hn ha2
  refine zt_l e_237 ?_
  rw [zq_tdiv h0, zq_tmod h0, zq_tdiv (by omega)]
  exact zt_c (by omega) (zt_c (by omega) (zt_c (by omega) (zt_c (by omega) (zt_c (by omega) (zt_c (by omega) (zt_c (by omega) (zi_e ⟨rfl, rfl⟩)))))))
/-! the reference's -/
theorem s_234 (hG : zv_G h b K L C wo sz re fe ru lk) (hB : zv_B K L C wo sz re fe ru lk) {c k : Nat} (hc : c < C) (hk : k < K) {r : Int} (hr : r = ru c) : zi (zc 234 [zm_A 146, zm_I c, zm_I k, zm_I r] h) (fun z g => z = zp_key sz ru lk c k ∧ g = h) := by
  subst hr
  have hzb := hB.2.2.2.1 k hk
  refine zt_l e_234 ?_
  unfold zp_key
  refine zt_p (fun hq => ?_) (fun hq => zt_p (fun hq2 => ?_) (fun hq2 => zt_p (fun hq3 => ?_) (fun hq3 => ?_)))
  · rw [if_pos hq]
    refine zt_I (s_224 hG hB hc hk) ?_
    rintro z g ⟨rfl, rfl⟩
    exact zi_e ⟨rfl, rfl⟩
  · rw [if_neg hq, if_pos hq2]
    refine zt_I (s_219 hG hB hk) ?_
    rintro z g ⟨rfl, rfl⟩
    exact zi_e ⟨rfl, rfl⟩
  · rw [if_neg hq, if_neg hq2, if_pos hq3]
    refine zt_I (s_219 hG hB hk) ?_
    rintro z g ⟨rfl, rfl⟩
    exact zt_c (by omega) (zi_e ⟨rfl, rfl⟩)
  · rw [if_neg hq, if_neg hq2, if_neg hq3]
    exact zi_e ⟨rfl, rfl⟩
theorem s_235 (hG : zv_G h b K L C wo sz re fe ru lk) (hB : zv_B K L C wo sz re fe ru lk) {c : Nat} (hc : c < C) : zi (zc 235 [zm_A 146, zm_I c] h) (fun z g => z = fe c + 1 ∧ g = h) := by
  have hC8 := hB.2.2.1
  have hb := hG.1
  have hf := hB.2.2.2.2.1 c hc
  have e := (hG.2.2.2.2.2.2.1 c hc (8 * (b : Int) + c) rfl).2.1
  refine zt_l e_235 ?_
  rw [hG.2.1]
  refine zt_c (by omega) (zt_c (by omega) (zt_c (by omega) ?_))
  rw [e]
  exact zt_c (by omega) (zi_e ⟨by omega, rfl⟩)
end
