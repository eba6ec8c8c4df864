/-! WAYS OF TOUCHING -/
def zp_pw (b : Int) : Nat → Int
  | 0 => 1
  | n + 1 => zp_pw b n * b
def zp_each (u b : Int) (t : Nat) : Int := zq_S t (fun i => zp_pw u (t - 1 - i) * zp_pw b i)
theorem zp_pw_b {b m : Int} (h0 : 0 ≤ b) (h1 : b ≤ m) (n : Nat) : 0 ≤ zp_pw b n ∧ zp_pw b n ≤ zp_pw m n := by
  induction n with
  | zero => exact ⟨by show (0 : Int) ≤ 1; decide, Int.le_refl _⟩
  | succ n ih =>
    simp only [zp_pw]
    exact ⟨Int.mul_nonneg ih.1 h0, Int.mul_le_mul ih.2 h1 h0 (Int.le_trans ih.1 ih.2)⟩
theorem zp_pw_add (b : Int) (m n : Nat) : zp_pw b (m + n) = zp_pw b m * zp_pw b n := by
  induction n with
  | zero => simp [zp_pw]
  | succ n ih => rw [← Nat.add_assoc]; simp only [zp_pw]; rw [ih, Int.mul_assoc]
theorem zp_pw_m {n : Nat} (hn : n ≤ 4) : zp_pw 3960 n ≤ 245912578560000 ∧ 1 ≤ zp_pw 3960 n := by
  match n, hn with
  | 0, _ => decide
  | 1, _ => decide
  | 2, _ => decide
  | 3, _ => decide
  | 4, _ => decide
theorem zp_each_succ (u b : Int) (t : Nat) : zp_each u b (t + 1) = u * zp_each u b t + zp_pw b t := by
  unfold zp_each
  simp only [zq_S]
  have e : zq_S t (fun i => zp_pw u (t + 1 - 1 - i) * zp_pw b i) = zq_S t (fun i => (zp_pw u (t - 1 - i) * zp_pw b i) * u) := by
    refine zq_S_congr (fun i hi => ?_)
    have : t + 1 - 1 - i = (t - 1 - i) + 1 := by omega
    rw [this]; simp only [zp_pw]
    rw [Int.mul_assoc, Int.mul_comm u, ← Int.mul_assoc]
  rw [e, zq_S_mul, show t + 1 - 1 - t = 0 by omega]
  simp only [zp_pw, Int.one_mul]
  rw [Int.mul_comm u]
theorem zp_each_id (u b : Int) (t : Nat) : (u - b) * zp_each u b t = zp_pw u t - zp_pw b t := by
  induction t with
  | zero => simp [zp_each, zq_S, zp_pw]
  | succ t ih =>
    rw [zp_each_succ, Int.mul_add]
    have e1 : (u - b) * (u * zp_each u b t) = u * (zp_pw u t - zp_pw b t) := by
      rw [← ih, ← Int.mul_assoc, ← Int.mul_assoc, Int.mul_comm (u - b) u]
    rw [e1]
    simp only [zp_pw]
    rw [Int.mul_sub, Int.sub_mul, Int.mul_comm u, Int.mul_comm u, Int.mul_comm b]
    omega
theorem zp_each_b {u b : Int} (hb : 0 ≤ b) (hbu : b ≤ u) (hu : u ≤ 3960) {t : Nat} (ht : t ≤ 4) : 0 ≤ zp_each u b t ∧ zp_each u b t ≤ 983650314240000 := by
  have := zq_S_le (n := t) (f := fun i => zp_pw u (t - 1 - i) * zp_pw b i) (m := 245912578560000) (fun i hi => ?_)
  · unfold zp_each; omega
  · have h1 := zp_pw_b (b := u) (m := 3960) (by omega) hu (t - 1 - i)
    have h2 := zp_pw_b (b := b) (m := 3960) hb (by omega) i
    refine ⟨Int.mul_nonneg h1.1 h2.1, ?_⟩
    refine Int.le_trans (Int.mul_le_mul h1.2 h2.2 h2.1 (by have := zp_pw_m (n := t - 1 - i) (by omega); omega)) ?_
    have : t - 1 - i + i ≤ 3 := by omega
    rw [← zp_pw_add]
    exact (zp_pw_m (by omega)).1
section
variable {h : zm_H}
theorem s_115 {n : Nat} {x : Int} (hx : 0 ≤ x ∧ x ≤ 3960) (hn : n ≤ 4) : zj (zc 115 [zm_I x, zm_I n] h) (fun z g => z = zp_pw x n ∧ g = h) := by
  have key : ∀ (m i : Nat), i + m = n → zj (zr none 1 115 5 [zm_I x, zm_I n, zm_L (zp_pw x i), zm_U, zm_I i] [] h) (fun z g => z = zp_pw x n ∧ g = h) := by
    intro m
    induction m with
    | zero =>
      intro i hi
      refine zt_l e_115_5 (zt_f (by omega) (zj_e ⟨by rw [show i = n by omega], rfl⟩))
    | succ m ih =>
      intro i hi
      have b1 := zp_pw_b hx.1 hx.2 (i + 1)
      have b2 := zp_pw_m (n := i + 1) (by omega)
      have b3 : zp_pw x (i + 1) = zp_pw x i * x := rfl
      rw [b3] at b1
      refine zt_l e_115_5 (zt_t (by omega) (zt_c (by omega) (zt_c (by omega) ?_)))
      exact ih (i + 1) (by omega)
  exact zt_l e_115 (key n 0 (by omega))
theorem s_236 {n : Nat} {x : Int} (hx : 0 ≤ x ∧ x ≤ 3960) (hn : n ≤ 4) : zj (zc 236 [zm_L x, zm_I n] h) (fun z g => z = zp_pw x n ∧ g = h) := by
  have key : ∀ (m i : Nat), i + m = n → zj (zr none 1 236 5 [zm_L x, zm_U, zm_I n, zm_L (zp_pw x i), zm_U, zm_I i] [] h) (fun z g => z = zp_pw x n ∧ g = h) := by
    intro m
    induction m with
    | zero =>
      intro i hi
      refine zt_l e_236_5 (zt_f (by omega) (zj_e ⟨by rw [show i = n by omega], rfl⟩))
    | succ m ih =>
      intro i hi
      have b1 := zp_pw_b hx.1 hx.2 (i + 1)
      have b2 := zp_pw_m (n := i + 1) (by omega)
      have b3 : zp_pw x (i + 1) = zp_pw x i * x := rfl
      rw [b3] at b1
      refine zt_l e_236_5 (zt_t (by omega) (zt_c (by omega) (zt_c (by omega) ?_)))
      exact ih (i + 1) (by omega)
  exact zt_l e_236 (key n 0 (by omega))
/-- ways by which a kind is taken: by keys and counts -/
def zp_be (ke cn : Nat → Int) (k n : Nat) : Int := zq_S n (fun j => if ke j < ke k then cn j else 0)
def zp_ut (ke cn : Nat → Int) (k n : Nat) : Int := zq_S n (fun j => if ke k < ke j then 0 else cn j)
def zp_ways (ke cn : Nat → Int) (k t : Nat) : Int := zp_each (zp_ut ke cn k 8) (zp_be ke cn k 8) t * cn k
theorem zp_be_ut {ke cn : Nat → Int} {k n : Nat} (hc : ∀ j, j < n → 0 ≤ cn j ∧ cn j ≤ 495) (hn : n ≤ 8) : 0 ≤ zp_be ke cn k n ∧ zp_be ke cn k n ≤ zp_ut ke cn k n ∧ zp_ut ke cn k n ≤ 3960 := by
  have b1 : ∀ m, m ≤ n → 0 ≤ zp_be ke cn k m ∧ zp_be ke cn k m ≤ zp_ut ke cn k m ∧ zp_ut ke cn k m ≤ m * 495 := by
    intro m
    induction m with
    | zero => intro _; simp [zp_be, zp_ut, zq_S]
    | succ m ih =>
      intro hm
      have i1 := ih (by omega)
      have i2 := hc m (by omega)
      unfold zp_be zp_ut at i1 ⊢
      simp only [zq_S]
      have e : ((m + 1 : Nat) : Int) * 495 = (m : Int) * 495 + 495 := by omega
      rw [e]
      split <;> split <;> omega
  have := b1 n (Nat.le_refl _)
  have hn8 : (n : Int) ≤ 8 := by omega
  omega
theorem s_114 {ke cn : Nat → Int} {k t : Nat} (hk : k < 8) (ht : 1 ≤ t ∧ t ≤ 4) (h6 : h 128 6 = t) (hc : ∀ j : Nat, j < 8 → h 129 j = cn j) (hke : ∀ j : Nat, j < 8 → h 131 j = ke j) (hb : ∀ j, j < 8 → 0 ≤ cn j ∧ cn j ≤ 495) : zj (zc 114 [zm_A 128, zm_I k] h) (fun z g => z = zp_ways ke cn k t ∧ g = h) := by
  have bu := zp_be_ut (k := k) (ke := ke) hb (Nat.le_refl 8)
  have be := zp_each_b bu.1 bu.2.1 bu.2.2 ht.2
  have bk := hb k hk
  -- the sum of products
  have prods : ∀ (m i : Nat), i + m = t → zj (zr none 2 114 78 [zm_A 128, zm_I k, zm_I (zp_be ke cn k 8), zm_I (zp_ut ke cn k 8), zm_L (zq_S i (fun i => zp_pw (zp_ut ke cn k 8) (t - 1 - i) * zp_pw (zp_be ke cn k 8) i)), zm_U, zm_I i] [] h) (fun z g => z = zp_ways ke cn k t ∧ g = h) := by
    intro m
    induction m with
    | zero =>
      intro i hi
      refine zt_l e_114_78 ?_
      rw [h6, hc k hk]
      have hit : i = t := by omega
      subst hit
      have hbm : 0 ≤ zp_each (zp_ut ke cn k 8) (zp_be ke cn k 8) i * cn k := Int.mul_nonneg be.1 bk.1
      have hbm2 : zp_each (zp_ut ke cn k 8) (zp_be ke cn k 8) i * cn k ≤ 983650314240000 * 495 := Int.mul_le_mul be.2 bk.2 bk.1 (by decide)
      unfold zp_each at hbm hbm2
      exact zt_f (by omega) (zt_c (by omega) (zt_c (by omega) (zj_e ⟨rfl, rfl⟩)))
    | succ m ih =>
      intro i hi
      refine zt_l e_114_78 ?_
      rw [h6]
      have e1 : (t : Int) - 1 - i = ((t - 1 - i : Nat) : Int) := by omega
      refine zt_t (by omega) (zt_c (by omega) (zt_c (by omega) ?_))
      rw [e1]
      refine zt_L (s_115 ⟨by omega, bu.2.2⟩ (by omega)) ?_
      rintro z g ⟨rfl, rfl⟩
      refine zt_L (s_115 ⟨bu.1, by omega⟩ (by omega)) ?_
      rintro z g ⟨rfl, rfl⟩
      have p1 := zp_pw_b (b := zp_ut ke cn k 8) (m := 3960) (by omega) bu.2.2 (t - 1 - i)
      have p2 := zp_pw_b (b := zp_be ke cn k 8) (m := 3960) bu.1 (by omega) i
      have q1 := zq_S_nn (n := i) (f := fun i => zp_pw (zp_ut ke cn k 8) (t - 1 - i) * zp_pw (zp_be ke cn k 8) i) (fun j hj => Int.mul_nonneg (zp_pw_b (m := 3960) (by omega) bu.2.2 _).1 (zp_pw_b (m := 3960) bu.1 (by omega) _).1)
      have q2 := zq_S_nn (n := i + 1) (f := fun i => zp_pw (zp_ut ke cn k 8) (t - 1 - i) * zp_pw (zp_be ke cn k 8) i) (fun j hj => Int.mul_nonneg (zp_pw_b (m := 3960) (by omega) bu.2.2 _).1 (zp_pw_b (m := 3960) bu.1 (by omega) _).1)
      have q3 : zq_S (i + 1) (fun i => zp_pw (zp_ut ke cn k 8) (t - 1 - i) * zp_pw (zp_be ke cn k 8) i) ≤ zp_each (zp_ut ke cn k 8) (zp_be ke cn k 8) t := by
        unfold zp_each
        have e2 : t = i + 1 + m := by omega
        have := zq_S_app (i + 1) m (fun i => zp_pw (zp_ut ke cn k 8) (t - 1 - i) * zp_pw (zp_be ke cn k 8) i)
        have q4 := zq_S_nn (n := m) (f := fun j => zp_pw (zp_ut ke cn k 8) (t - 1 - (i + 1 + j)) * zp_pw (zp_be ke cn k 8) (i + 1 + j)) (fun j hj => Int.mul_nonneg (zp_pw_b (m := 3960) (by omega) bu.2.2 _).1 (zp_pw_b (m := 3960) bu.1 (by omega) _).1)
        rw [← e2] at this
        omega
      have q5 : 0 ≤ zp_pw (zp_ut ke cn k 8) (t - 1 - i) * zp_pw (zp_be ke cn k 8) i := Int.mul_nonneg p1.1 p2.1
      have q6 : zq_S (i + 1) (fun i => zp_pw (zp_ut ke cn k 8) (t - 1 - i) * zp_pw (zp_be ke cn k 8) i) = zq_S i (fun i => zp_pw (zp_ut ke cn k 8) (t - 1 - i) * zp_pw (zp_be ke cn k 8) i) + zp_pw (zp_ut ke cn k 8) (t - 1 - i) * zp_pw (zp_be ke cn k 8) i := rfl
      refine zt_c (by omega) (zt_c (by omega) (zt_c (by omega) ?_))
      exact ih (i + 1) (by omega)
  -- the two sums
  have sums : ∀ (m i : Nat) (w5 w6 : zm_V), i + m = 8 → zj (zr none 2 114 7 [zm_A 128, zm_I k, zm_I (zp_be ke cn k i), zm_I (zp_ut ke cn k i), zm_I i, w5, w6] [] h) (fun z g => z = zp_ways ke cn k t ∧ g = h) := by
    intro m
    induction m with
    | zero =>
      intro i w5 w6 hi
      have hi8 : i = 8 := by omega
      subst hi8
      exact zt_l e_114_7 (zt_f (by omega) (prods t 0 (by omega)))
    | succ m ih =>
      intro i w5 w6 hi
      have c1 := zp_be_ut (k := k) (ke := ke) (n := i) (fun j hj => hb j (by omega)) (by omega)
      have c2 := hb i (by omega)
      have e1 : zp_be ke cn k (i + 1) = zp_be ke cn k i + (if ke i < ke k then cn i else 0) := rfl
      have e2 : zp_ut ke cn k (i + 1) = zp_ut ke cn k i + (if ke k < ke i then 0 else cn i) := rfl
      have step : ∀ x : Int, x = zp_be ke cn k (i + 1) → zj (zr none 2 114 40 [zm_A 128, zm_I k, zm_I x, zm_I (zp_ut ke cn k i), zm_I i, w5, w6] [] h) (fun z g => z = zp_ways ke cn k t ∧ g = h) := by
        intro x hx
        subst hx
        refine zt_l e_114_40 (zt_c (by omega) (zt_c (by omega) ?_))
        rw [hke k hk, hke i (by omega), hc i (by omega)]
        refine zt_p (fun hq => zt_c (by omega) ?_) (fun hq => zt_c (by omega) (zt_c (by omega) (zt_c (by omega) ?_)))
        · have := ih (i + 1) w5 w6 (by omega)
          rw [e2, if_pos hq, Int.add_zero] at this
          exact this
        · have := ih (i + 1) w5 w6 (by omega)
          rw [e2, if_neg hq] at this
          exact this
      refine zt_l e_114_7 (zt_t (by omega) (zt_c (by omega) (zt_c (by omega) ?_)))
      rw [hke k hk, hke i (by omega), hc i (by omega)]
      refine zt_p (fun hq => zt_c (by omega) (zt_c (by omega) ?_)) (fun hq => ?_)
      · exact step _ (by rw [e1, if_pos hq])
      · exact step _ (by rw [e1, if_neg hq, Int.add_zero])
  exact zt_l e_114 (sums 8 0 _ _ (by omega))
end
