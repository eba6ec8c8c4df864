/-! SUMS AND TESTS: what a text says -/
abbrev zy_O : Type := (Nat × Nat) ⊕ (Nat × Bool × List Int)
def zy_th : zy_O → (Nat → Bool → List Int → zy_O) → zy_O
  | .inl e, _ => .inl e
  | .inr (p, g, l), k => k p g l
/-- the sign c stands there -/
def zy_sg (T : Nat → Int) (n p : Nat) (g : Bool) (c : Int) : Bool := decide (zy_ty T n p g = 3 ∧ T (zy_at T n p) = c)
def zy_cm (T : Nat → Int) (n p : Nat) (g : Bool) : Int := if zy_sg T n p g 60 = true then -18 else if zy_sg T n p g 62 = true then -19 else if zy_sg T n p g 61 = true then -20 else 0
def zy_ad (T : Nat → Int) (n p : Nat) (g : Bool) : Int := if zy_sg T n p g 43 = true then -11 else if zy_sg T n p g 45 = true then -12 else 0
def zy_mu (T : Nat → Int) (n p : Nat) (g : Bool) : Int := if zy_sg T n p g 42 = true then -13 else if zy_sg T n p g 47 = true then -14 else if zy_sg T n p g 37 = true then -15 else 0
/-- what is seen: hour left dips worth size mean as -1 .. -6; 0 none -/
def zy_se (w : Int) : Int := if w = 15 then -1 else if w = 16 then -2 else if w = 17 then -3 else if w = 1 then -4 else if w = 2 then -5 else if w = 18 then -6 else 0
/-- levels: 0 test 1 its rest, 2 both 3 its rest, 4 fact, 5 sum 6 its rest, 7 product 8 its rest, 9 part; 10 11: of two, less, more -/
def zy_X (T : Nat → Int) (n : Nat) : Nat → Nat → Nat → Nat → Bool → List Int → zy_O
  | 0, _, _, _, _, _ => .inl (0, 0)
  | f + 1, lv, d, p, g, l =>
    match lv with
    | 0 => zy_th (zy_X T n f 2 d p g l) (zy_X T n f 1 d)
    | 1 => if zy_ow T n p g = 19 then zy_th (zy_X T n f 2 d (zy_en T n p) (zy_ng T n p g) l) (fun p g l => zy_X T n f 1 d p g (l ++ [-23])) else .inr (p, g, l)
    | 2 => zy_th (zy_X T n f 4 d p g l) (zy_X T n f 3 d)
    | 3 => if zy_ow T n p g = 20 then zy_th (zy_X T n f 4 d (zy_en T n p) (zy_ng T n p g) l) (fun p g l => zy_X T n f 3 d p g (l ++ [-22])) else .inr (p, g, l)
    | 4 =>
      if zy_ow T n p g = 21 then (if 7 ≤ d then .inl (5, zy_at T n p) else zy_th (zy_X T n f 4 (d + 1) (zy_en T n p) (zy_ng T n p g) l) (fun p g l => .inr (p, g, l ++ [-21])))
      else if zy_sg T n p g 91 = true then (if 7 ≤ d then .inl (5, zy_at T n p) else zy_th (zy_X T n f 0 (d + 1) (zy_en T n p) (zy_ng T n p g) l) (fun p g l => if zy_sg T n p g 93 = true then .inr (zy_en T n p, zy_ng T n p g, l) else .inl (1, zy_bd T n p g)))
      else if zy_ow T n p g = 22 then .inr (zy_en T n p, zy_ng T n p g, l ++ [1])
      else zy_th (zy_X T n f 5 d p g l) (fun p g l => if zy_cm T n p g = 0 then .inl (1, zy_bd T n p g) else zy_th (zy_X T n f 5 d (zy_en T n p) (zy_ng T n p g) l) (fun p2 g2 l2 => .inr (p2, g2, l2 ++ [zy_cm T n p g])))
    | 5 => zy_th (zy_X T n f 7 d p g l) (zy_X T n f 6 d)
    | 6 => if zy_ad T n p g = 0 then .inr (p, g, l) else zy_th (zy_X T n f 7 d (zy_en T n p) (zy_ng T n p g) l) (fun p2 g2 l2 => zy_X T n f 6 d p2 g2 (l2 ++ [zy_ad T n p g]))
    | 7 => zy_th (zy_X T n f 9 d p g l) (zy_X T n f 8 d)
    | 8 => if zy_mu T n p g = 0 then .inr (p, g, l) else zy_th (zy_X T n f 9 d (zy_en T n p) (zy_ng T n p g) l) (fun p2 g2 l2 => zy_X T n f 8 d p2 g2 (l2 ++ [zy_mu T n p g]))
    | 9 =>
      if zy_sg T n p g 40 = true then (if 7 ≤ d then .inl (5, zy_at T n p) else zy_th (zy_X T n f 5 (d + 1) (zy_en T n p) (zy_ng T n p g) l) (fun p g l => if zy_sg T n p g 41 = true then .inr (zy_en T n p, zy_ng T n p g, l) else .inl (1, zy_bd T n p g)))
      else if zy_ow T n p g = 23 then zy_X T n f 10 d p g l
      else if zy_ow T n p g = 24 then zy_X T n f 11 d p g l
      else if zy_ty T n p g = 2 then .inr (zy_en T n p, zy_ng T n p g, l ++ [zy_nu T n p])
      else if zy_se (zy_ow T n p g) = 0 then .inl (1, zy_bd T n p g)
      else .inr (zy_en T n p, zy_ng T n p g, l ++ [zy_se (zy_ow T n p g)])
    | lv =>
      if zy_sg T n (zy_en T n p) (zy_ng T n p g) 40 = true then
        (if 7 ≤ d then .inl (5, zy_at T n (zy_en T n p)) else zy_th (zy_X T n f 5 (d + 1) (zy_en T n (zy_en T n p)) (zy_ng T n (zy_en T n p) (zy_ng T n p g)) l) (fun p g l => if zy_sg T n p g 44 = true then zy_th (zy_X T n f 5 (d + 1) (zy_en T n p) (zy_ng T n p g) l) (fun p g l => if zy_sg T n p g 41 = true then .inr (zy_en T n p, zy_ng T n p g, l ++ [if lv = 10 then -16 else -17]) else .inl (1, zy_bd T n p g)) else .inl (1, zy_bd T n p g)))
      else .inl (1, zy_bd T n (zy_en T n p) (zy_ng T n p g))
theorem zy_en_gt {T : Nat → Int} {n p : Nat} {g : Bool} (hp : p ≤ n) (ht : zy_ty T n p g ≠ 4 ∧ zy_ty T n p g ≠ 0) : p < zy_en T n p ∧ zy_en T n p ≤ n := by
  have hle := (zy_gl_n hp ht).2
  have hpa : p ≤ zy_at T n p := (zy_sk_le T n (n - p) p).1
  refine ⟨?_, hle⟩
  have hgl := (zy_gl_n hp ht).1
  unfold zy_ty at ht
  unfold zy_en
  generalize zy_at T n p = a at ht hpa
  by_cases h1 : n ≤ a
  · rw [if_pos h1] at ht; exact absurd rfl ht.2
  rw [if_neg h1]
  by_cases h2 : 97 ≤ T a ∧ T a ≤ 122
  · rw [if_pos h2]
    have := zy_rn_out T n 97 122 (n - a) a (by omega)
    have hpos : 0 < zy_lr T n a := by
      refine Classical.byContradiction (fun q => this ?_)
      have e : zy_rn T n 97 122 (n - a) a = 0 := by have : ¬ 0 < zy_rn T n 97 122 (n - a) a := q; omega
      rw [e, Nat.add_zero]; exact ⟨by omega, h2⟩
    omega
  rw [if_neg h2]
  by_cases h3 : 48 ≤ T a ∧ T a ≤ 57
  · rw [if_pos h3]
    have := zy_rn_out T n 48 57 (n - a) a (by omega)
    have hpos : 0 < zy_dr T n a := by
      refine Classical.byContradiction (fun q => this ?_)
      have e : zy_rn T n 48 57 (n - a) a = 0 := by have : ¬ 0 < zy_rn T n 48 57 (n - a) a := q; omega
      rw [e, Nat.add_zero]; exact ⟨by omega, h3⟩
    omega
  rw [if_neg h3]
  omega
theorem zy_th_r {o : zy_O} {k : Nat → Bool → List Int → zy_O} {p : Nat} {g : Bool} {l : List Int} (h : zy_th o k = .inr (p, g, l)) : ∃ p1 g1 l1, o = .inr (p1, g1, l1) ∧ k p1 g1 l1 = .inr (p, g, l) := by
  rcases o with e | ⟨p1, g1, l1⟩
  · cases h
  · exact ⟨p1, g1, l1, rfl, h⟩
theorem zy_sg_ty {T : Nat → Int} {n p : Nat} {g : Bool} {c : Int} (h : zy_sg T n p g c = true) : zy_ty T n p g = 3 ∧ T (zy_at T n p) = c := of_decide_eq_true h
theorem zy_ad_ty {T : Nat → Int} {n p : Nat} {g : Bool} (h : zy_ad T n p g ≠ 0) : zy_ty T n p g = 3 := by
  unfold zy_ad at h
  split at h
  · next q => exact (zy_sg_ty q).1
  · split at h
    · next q => exact (zy_sg_ty q).1
    · exact absurd rfl h
theorem zy_mu_ty {T : Nat → Int} {n p : Nat} {g : Bool} (h : zy_mu T n p g ≠ 0) : zy_ty T n p g = 3 := by
  unfold zy_mu at h
  split at h
  · next q => exact (zy_sg_ty q).1
  · split at h
    · next q => exact (zy_sg_ty q).1
    · split at h
      · next q => exact (zy_sg_ty q).1
      · exact absurd rfl h
theorem zy_cm_ty {T : Nat → Int} {n p : Nat} {g : Bool} (h : zy_cm T n p g ≠ 0) : zy_ty T n p g = 3 := by
  unfold zy_cm at h
  split at h
  · next q => exact (zy_sg_ty q).1
  · split at h
    · next q => exact (zy_sg_ty q).1
    · split at h
      · next q => exact (zy_sg_ty q).1
      · exact absurd rfl h
theorem zy_ow_ty {T : Nat → Int} {n p : Nat} {g : Bool} (h : zy_ow T n p g ≠ -1) : zy_ty T n p g = 1 := by
  unfold zy_ow at h
  split at h
  · assumption
  · exact absurd rfl h
/-- on, and not more steps than bytes -/
def zy_pr (n p : Nat) (l : List Int) (lv p2 : Nat) (l2 : List Int) : Prop := p2 ≤ n ∧ l2.length + p ≤ l.length + p2 ∧ (lv = 1 ∨ lv = 3 ∨ lv = 6 ∨ lv = 8 ∨ p < p2) ∧ p ≤ p2
