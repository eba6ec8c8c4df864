/-! SUMS AND TESTS: the codes of a text can be run -/
def zw_rn (en : Nat → Int) : List Int → List Int → Option (List Int)
  | [], st => some st
  | c :: r, st => (zp_one en c st).bind (zw_rn en r)
theorem zw_rn_app (en : Nat → Int) : ∀ (a b st : List Int), zw_rn en (a ++ b) st = (zw_rn en a st).bind (zw_rn en b) := by
  intro a
  induction a with
  | nil => intro b st; rfl
  | cons c r ih =>
    intro b st
    show (zp_one en c st).bind (zw_rn en (r ++ b)) = ((zp_one en c st).bind (zw_rn en r)).bind (zw_rn en b)
    cases zp_one en c st with
    | none => rfl
    | some s => exact ih b s
/-- a list run from the stack st -/
theorem zw_rn_run (cd en : Nat → Int) : ∀ (l : List Int) (f : Nat) (st : List Int), (∀ i, i < l.length → cd (f + i) = l.getD i 0) → zp_run cd en f l.length st = zw_rn en l st := by
  intro l
  induction l with
  | nil => intro f st _; rfl
  | cons c r ih =>
    intro f st h
    have h0 := h 0 (by rw [List.length_cons]; omega)
    have e0 : cd f = c := h0
    show (zp_one en (cd f) st).bind (zp_run cd en (f + 1) r.length) = (zp_one en c st).bind (zw_rn en r)
    rw [e0]
    cases zp_one en c st with
    | none => rfl
    | some s =>
      refine ih (f + 1) s (fun i hi => ?_)
      have := h (i + 1) (by rw [List.length_cons]; omega)
      rw [show f + 1 + i = f + (i + 1) by omega]; exact this
def zw_Gb (m : Nat) (en : Nat → Int) (w : List Int) : Prop := ∀ st : List Int, st.length ≤ m → ∃ v, zw_rn en w st = some (v :: st) ∧ zm_bit v
def zw_Hb (m : Nat) (en : Nat → Int) (w : List Int) : Prop := ∀ (v : Int) (st : List Int), zm_bit v → st.length ≤ m → ∃ v', zw_rn en w (v :: st) = some (v' :: st) ∧ zm_bit v'
def zw_Gn (m : Nat) (en : Nat → Int) (w : List Int) : Prop := ∀ st : List Int, st.length ≤ m → ∃ v, zw_rn en w st = some (v :: st)
def zw_Hn (m : Nat) (en : Nat → Int) (w : List Int) : Prop := ∀ (v : Int) (st : List Int), st.length ≤ m → ∃ v', zw_rn en w (v :: st) = some (v' :: st)
def zw_G (d : Nat) (en : Nat → Int) (w : List Int) : Nat → Prop
  | 0 => zw_Gb (6 * d) en w
  | 1 => zw_Hb (6 * d) en w
  | 2 => zw_Gb (6 * d + 1) en w
  | 3 => zw_Hb (6 * d + 1) en w
  | 4 => zw_Gb (6 * d + 2) en w
  | 5 => zw_Gn (6 * d + 3) en w
  | 6 => zw_Hn (6 * d + 3) en w
  | 7 => zw_Gn (6 * d + 4) en w
  | 8 => zw_Hn (6 * d + 4) en w
  | _ => zw_Gn (6 * d + 5) en w
section
variable {en : Nat → Int} {m m' : Nat} {w w1 w2 : List Int} {c x : Int}
theorem zw_two (hc : ∀ a b : Int, ∃ v, zp_op c a b = some v) (hn : c < -6 ∧ c ≠ -21) (a b : Int) (st : List Int) : ∃ v, zp_one en c (b :: a :: st) = some (v :: st) := by
  obtain ⟨v, e⟩ := hc a b
  refine ⟨v, ?_⟩
  unfold zp_one
  rw [if_neg (by omega), if_neg (by omega), if_neg hn.2]
  show (zp_op c a b).map (· :: st) = _
  rw [e]; rfl
theorem zw_op_ad (hc : c = -11 ∨ c = -12) (a b : Int) : ∃ v, zp_op c a b = some v := by
  rcases hc with rfl | rfl <;> exact ⟨_, rfl⟩
theorem zw_op_mu (hc : c = -13 ∨ c = -14 ∨ c = -15) (a b : Int) : ∃ v, zp_op c a b = some v := by
  rcases hc with rfl | rfl | rfl <;> exact ⟨_, rfl⟩
theorem zw_op_mm (hc : c = -16 ∨ c = -17) (a b : Int) : ∃ v, zp_op c a b = some v := by
  rcases hc with rfl | rfl <;> exact ⟨_, rfl⟩
theorem zw_op_cm (hc : c = -18 ∨ c = -19 ∨ c = -20) (a b : Int) : ∃ v, zp_op c a b = some v ∧ zm_bit v := by
  rcases hc with rfl | rfl | rfl
  · refine ⟨if a < b then 1 else 0, rfl, ?_⟩
    split
    · exact Or.inr rfl
    · exact Or.inl rfl
  · refine ⟨if b < a then 1 else 0, rfl, ?_⟩
    split
    · exact Or.inr rfl
    · exact Or.inl rfl
  · refine ⟨if a = b then 1 else 0, rfl, ?_⟩
    split
    · exact Or.inr rfl
    · exact Or.inl rfl
theorem zw_op_bi (hc : c = -22 ∨ c = -23) {a b : Int} (ha : zm_bit a) (hb : zm_bit b) : ∃ v, zp_op c a b = some v ∧ zm_bit v := by
  rcases hc with rfl | rfl
  · exact ⟨min a b, (show zp_op (-22) a b = (if zm_bit a ∧ zm_bit b then some (min a b) else none) from rfl).trans (if_pos ⟨ha, hb⟩), by unfold zm_bit at ha hb ⊢; omega⟩
  · exact ⟨max a b, (show zp_op (-23) a b = (if zm_bit a ∧ zm_bit b then some (max a b) else none) from rfl).trans (if_pos ⟨ha, hb⟩), by unfold zm_bit at ha hb ⊢; omega⟩
theorem zw_one2 (hn : c < -6 ∧ c ≠ -21) {a b v : Int} (e : zp_op c a b = some v) (st : List Int) : zp_one en c (b :: a :: st) = some (v :: st) := by
  unfold zp_one
  rw [if_neg (by omega), if_neg (by omega), if_neg hn.2]
  show (zp_op c a b).map (· :: st) = _
  rw [e]; rfl
theorem zw_rn_one (c : Int) (w st : List Int) : zw_rn en ([c] ++ w) st = (zp_one en c st).bind (zw_rn en w) := rfl
/-- something, then its rest -/
theorem zw_Gb_H (G : zw_Gb m en w1) (H : zw_Hb m en w2) : zw_Gb m en (w1 ++ w2) := by
  intro st hs
  obtain ⟨v, e, b⟩ := G st hs
  obtain ⟨v2, e2, b2⟩ := H v st b hs
  exact ⟨v2, by rw [zw_rn_app, e]; exact e2, b2⟩
theorem zw_Gn_H (G : zw_Gn m en w1) (H : zw_Hn m en w2) : zw_Gn m en (w1 ++ w2) := by
  intro st hs
  obtain ⟨v, e⟩ := G st hs
  obtain ⟨v2, e2⟩ := H v st hs
  exact ⟨v2, by rw [zw_rn_app, e]; exact e2⟩
theorem zw_Hb_0 : zw_Hb m en [] := fun v st b _ => ⟨v, rfl, b⟩
theorem zw_Hn_0 : zw_Hn m en [] := fun v st _ => ⟨v, rfl⟩
theorem zw_Hb_s (hc : c = -22 ∨ c = -23) (G : zw_Gb (m + 1) en w1) (H : zw_Hb m en w2) : zw_Hb m en (w1 ++ ([c] ++ w2)) := by
  intro v st b hs
  obtain ⟨v1, e1, b1⟩ := G (v :: st) (by rw [List.length_cons]; omega)
  obtain ⟨v2, e2, b2⟩ := zw_op_bi hc b b1
  obtain ⟨v3, e3, b3⟩ := H v2 st b2 hs
  refine ⟨v3, ?_, b3⟩
  rw [zw_rn_app, e1]
  show zw_rn en ([c] ++ w2) (v1 :: v :: st) = _
  rw [zw_rn_one, zw_one2 (by omega) e2]; exact e3
theorem zw_Hn_s (hc : ∀ a b : Int, ∃ v, zp_op c a b = some v) (hn : c < -6 ∧ c ≠ -21) (G : zw_Gn (m + 1) en w1) (H : zw_Hn m en w2) : zw_Hn m en (w1 ++ ([c] ++ w2)) := by
  intro v st hs
  obtain ⟨v1, e1⟩ := G (v :: st) (by rw [List.length_cons]; omega)
  obtain ⟨v2, e2⟩ := hc v v1
  obtain ⟨v3, e3⟩ := H v2 st hs
  refine ⟨v3, ?_⟩
  rw [zw_rn_app, e1]
  show zw_rn en ([c] ++ w2) (v1 :: v :: st) = _
  rw [zw_rn_one, zw_one2 hn e2]; exact e3
theorem zw_Gn_le (G : zw_Gn m en w) (h : m' ≤ m) : zw_Gn m' en w := fun st hs => G st (by omega)
theorem zw_Gb_le (G : zw_Gb m en w) (h : m' ≤ m) : zw_Gb m' en w := fun st hs => G st (by omega)
/-- a comparison -/
theorem zw_Gb_c (hc : c = -18 ∨ c = -19 ∨ c = -20) (G : zw_Gn (m + 1) en w1) (G2 : zw_Gn (m + 1) en w2) : zw_Gb m en (w1 ++ (w2 ++ [c])) := by
  intro st hs
  obtain ⟨v1, e1⟩ := G st (by omega)
  obtain ⟨v2, e2⟩ := G2 (v1 :: st) (by rw [List.length_cons]; omega)
  obtain ⟨v3, e3, b3⟩ := zw_op_cm hc v1 v2
  refine ⟨v3, ?_, b3⟩
  rw [zw_rn_app, e1]
  show zw_rn en (w2 ++ [c]) (v1 :: st) = _
  rw [zw_rn_app, e2]
  show (zp_one en c (v2 :: v1 :: st)).bind (zw_rn en []) = _
  rw [zw_one2 (by omega) e3]; rfl
theorem zw_Gn_2 (hc : c = -16 ∨ c = -17) (G : zw_Gn (m + 1) en w1) (G2 : zw_Gn (m + 1) en w2) : zw_Gn m en (w1 ++ (w2 ++ [c])) := by
  intro st hs
  obtain ⟨v1, e1⟩ := G st (by omega)
  obtain ⟨v2, e2⟩ := G2 (v1 :: st) (by rw [List.length_cons]; omega)
  obtain ⟨v3, e3⟩ := zw_op_mm hc v1 v2
  refine ⟨v3, ?_⟩
  rw [zw_rn_app, e1]
  show zw_rn en (w2 ++ [c]) (v1 :: st) = _
  rw [zw_rn_app, e2]
  show (zp_one en c (v2 :: v1 :: st)).bind (zw_rn en []) = _
  rw [zw_one2 (by omega) e3]; rfl
theorem zw_Gb_n (G : zw_Gb m en w) : zw_Gb m en (w ++ [-21]) := by
  intro st hs
  obtain ⟨v1, e1, b1⟩ := G st hs
  refine ⟨1 - v1, ?_, by unfold zm_bit at b1 ⊢; omega⟩
  rw [zw_rn_app, e1]
  show (zp_one en (-21) (v1 :: st)).bind (zw_rn en []) = _
  have : zp_one en (-21) (v1 :: st) = some ((1 - v1) :: st) := (show zp_one en (-21) (v1 :: st) = (if zm_bit v1 then some ((1 - v1) :: st) else none) from rfl).trans (if_pos b1)
  rw [this]; rfl
theorem zw_Gb_1 (hm : m < 60) : zw_Gb m en [1] := by
  intro st hs
  refine ⟨1, ?_, Or.inr rfl⟩
  have : zp_one en 1 st = some (1 :: st) := (show zp_one en 1 st = (if st.length < 60 then some (1 :: st) else none) from rfl).trans (if_pos (by omega))
  show (zp_one en 1 st).bind (zw_rn en []) = _
  rw [this]; rfl
theorem zw_Gn_1 (hm : m < 60) (hx : -6 ≤ x ∧ x ≤ 9999) : zw_Gn m en [x] := by
  intro st hs
  show ∃ v, (zp_one en x st).bind (zw_rn en []) = _
  unfold zp_one zp_psh
  by_cases h0 : 0 ≤ x
  · rw [if_pos h0, if_pos hx.2, if_pos (by omega)]; exact ⟨_, rfl⟩
  · rw [if_neg h0, if_pos hx.1, if_pos (by omega)]; exact ⟨_, rfl⟩
end
theorem zw_adb {T : Nat → Int} {n p : Nat} {g : Bool} (h : zy_ad T n p g ≠ 0) : zy_ad T n p g = -11 ∨ zy_ad T n p g = -12 := by
  revert h
  unfold zy_ad
  split
  · intro _; exact Or.inl rfl
  · split
    · intro _; exact Or.inr rfl
    · intro h; exact absurd rfl h
theorem zw_mub {T : Nat → Int} {n p : Nat} {g : Bool} (h : zy_mu T n p g ≠ 0) : zy_mu T n p g = -13 ∨ zy_mu T n p g = -14 ∨ zy_mu T n p g = -15 := by
  revert h
  unfold zy_mu
  split
  · intro _; exact Or.inl rfl
  · split
    · intro _; exact Or.inr (Or.inl rfl)
    · split
      · intro _; exact Or.inr (Or.inr rfl)
      · intro h; exact absurd rfl h
theorem zw_cmb {T : Nat → Int} {n p : Nat} {g : Bool} (h : zy_cm T n p g ≠ 0) : zy_cm T n p g = -18 ∨ zy_cm T n p g = -19 ∨ zy_cm T n p g = -20 := by
  revert h
  unfold zy_cm
  split
  · intro _; exact Or.inl rfl
  · split
    · intro _; exact Or.inr (Or.inl rfl)
    · split
      · intro _; exact Or.inr (Or.inr rfl)
      · intro h; exact absurd rfl h
theorem zw_seb {w : Int} (h : zy_se w ≠ 0) : -6 ≤ zy_se w ∧ zy_se w ≤ 9999 := by
  unfold zy_se at h ⊢; omega
/-- what a level adds can be run -/
theorem zw_X {T : Nat → Int} {n : Nat} : ∀ (f lv d p : Nat) (g : Bool) (l : List Int) (p2 : Nat) (g2 : Bool) (l2 : List Int), lv < 12 → d ≤ 7 → zy_X T n f lv d p g l = .inr (p2, g2, l2) → ∃ w, l2 = l ++ w ∧ ∀ en, zw_G d en w lv := by
  intro f
  induction f with
  | zero => intro lv d p g l p2 g2 l2 _ _ h; cases h
  | succ f ih =>
    intro lv d p g l p2 g2 l2 hlv hd h
    have hc : lv = 0 ∨ lv = 1 ∨ lv = 2 ∨ lv = 3 ∨ lv = 4 ∨ lv = 5 ∨ lv = 6 ∨ lv = 7 ∨ lv = 8 ∨ lv = 9 ∨ lv = 10 ∨ lv = 11 := by omega
    rcases hc with rfl | rfl | rfl | rfl | rfl | rfl | rfl | rfl | rfl | rfl | rfl | rfl
    · rw [zy_X0] at h
      obtain ⟨p1, g1, l1, e1, e2⟩ := zy_th_r h
      obtain ⟨w1, q1, r1⟩ := ih 2 d p g l p1 g1 l1 (by decide) hd e1
      obtain ⟨w2, q2, r2⟩ := ih 1 d p1 g1 l1 p2 g2 l2 (by decide) hd e2
      exact ⟨w1 ++ w2, by rw [q2, q1, List.append_assoc], fun en => zw_Gb_H (zw_Gb_le (r1 en) (by omega)) (r2 en)⟩
    · rw [zy_X1] at h
      split at h
      · obtain ⟨p1, g1, l1, e1, e2⟩ := zy_th_r h
        obtain ⟨w1, q1, r1⟩ := ih 2 d _ _ l p1 g1 l1 (by decide) hd e1
        obtain ⟨w2, q2, r2⟩ := ih 1 d p1 g1 _ p2 g2 l2 (by decide) hd e2
        exact ⟨w1 ++ ([-23] ++ w2), by rw [q2, q1]; simp only [List.append_assoc], fun en => zw_Hb_s (Or.inr rfl) (r1 en) (r2 en)⟩
      · cases h; exact ⟨[], (List.append_nil _).symm, fun en => zw_Hb_0⟩
    · rw [zy_X2] at h
      obtain ⟨p1, g1, l1, e1, e2⟩ := zy_th_r h
      obtain ⟨w1, q1, r1⟩ := ih 4 d p g l p1 g1 l1 (by decide) hd e1
      obtain ⟨w2, q2, r2⟩ := ih 3 d p1 g1 l1 p2 g2 l2 (by decide) hd e2
      exact ⟨w1 ++ w2, by rw [q2, q1, List.append_assoc], fun en => zw_Gb_H (zw_Gb_le (r1 en) (by omega)) (r2 en)⟩
    · rw [zy_X3] at h
      split at h
      · obtain ⟨p1, g1, l1, e1, e2⟩ := zy_th_r h
        obtain ⟨w1, q1, r1⟩ := ih 4 d _ _ l p1 g1 l1 (by decide) hd e1
        obtain ⟨w2, q2, r2⟩ := ih 3 d p1 g1 _ p2 g2 l2 (by decide) hd e2
        exact ⟨w1 ++ ([-22] ++ w2), by rw [q2, q1]; simp only [List.append_assoc], fun en => zw_Hb_s (Or.inl rfl) (r1 en) (r2 en)⟩
      · cases h; exact ⟨[], (List.append_nil _).symm, fun en => zw_Hb_0⟩
    · rw [zy_X4] at h
      split at h
      · split at h
        · cases h
        · next hd7 =>
          obtain ⟨p1, g1, l1, e1, e2⟩ := zy_th_r h
          obtain ⟨w1, q1, r1⟩ := ih 4 (d + 1) _ _ l p1 g1 l1 (by decide) (by omega) e1
          cases e2
          exact ⟨w1 ++ [-21], by rw [q1, List.append_assoc], fun en => zw_Gb_n (zw_Gb_le (r1 en) (by omega))⟩
      split at h
      · split at h
        · cases h
        · next hd7 =>
          obtain ⟨p1, g1, l1, e1, e2⟩ := zy_th_r h
          obtain ⟨w1, q1, r1⟩ := ih 0 (d + 1) _ _ l p1 g1 l1 (by decide) (by omega) e1
          split at e2
          · cases e2
            exact ⟨w1, q1, fun en => zw_Gb_le (r1 en) (by omega)⟩
          · cases e2
      split at h
      · cases h
        exact ⟨[1], rfl, fun en => zw_Gb_1 (by omega)⟩
      · obtain ⟨p1, g1, l1, e1, e2⟩ := zy_th_r h
        obtain ⟨w1, q1, r1⟩ := ih 5 d p g l p1 g1 l1 (by decide) hd e1
        split at e2
        · cases e2
        · next q =>
          obtain ⟨p3, g3, l3, e3, e4⟩ := zy_th_r e2
          obtain ⟨w2, q2, r2⟩ := ih 5 d _ _ l1 p3 g3 l3 (by decide) hd e3
          cases e4
          exact ⟨w1 ++ (w2 ++ [_]), by rw [q2, q1]; simp only [List.append_assoc], fun en => zw_Gb_c (zw_cmb q) (r1 en) (r2 en)⟩
    · rw [zy_X5] at h
      obtain ⟨p1, g1, l1, e1, e2⟩ := zy_th_r h
      obtain ⟨w1, q1, r1⟩ := ih 7 d p g l p1 g1 l1 (by decide) hd e1
      obtain ⟨w2, q2, r2⟩ := ih 6 d p1 g1 l1 p2 g2 l2 (by decide) hd e2
      exact ⟨w1 ++ w2, by rw [q2, q1, List.append_assoc], fun en => zw_Gn_H (zw_Gn_le (r1 en) (by omega)) (r2 en)⟩
    · rw [zy_X6] at h
      split at h
      · cases h; exact ⟨[], (List.append_nil _).symm, fun en => zw_Hn_0⟩
      · next q =>
        obtain ⟨p1, g1, l1, e1, e2⟩ := zy_th_r h
        obtain ⟨w1, q1, r1⟩ := ih 7 d _ _ l p1 g1 l1 (by decide) hd e1
        obtain ⟨w2, q2, r2⟩ := ih 6 d p1 g1 _ p2 g2 l2 (by decide) hd e2
        have b := zw_adb q
        exact ⟨w1 ++ ([zy_ad T n p g] ++ w2), by rw [q2, q1]; simp only [List.append_assoc], fun en => zw_Hn_s (zw_op_ad b) (by omega) (r1 en) (r2 en)⟩
    · rw [zy_X7] at h
      obtain ⟨p1, g1, l1, e1, e2⟩ := zy_th_r h
      obtain ⟨w1, q1, r1⟩ := ih 9 d p g l p1 g1 l1 (by decide) hd e1
      obtain ⟨w2, q2, r2⟩ := ih 8 d p1 g1 l1 p2 g2 l2 (by decide) hd e2
      exact ⟨w1 ++ w2, by rw [q2, q1, List.append_assoc], fun en => zw_Gn_H (zw_Gn_le (r1 en) (by omega)) (r2 en)⟩
    · rw [zy_X8] at h
      split at h
      · cases h; exact ⟨[], (List.append_nil _).symm, fun en => zw_Hn_0⟩
      · next q =>
        obtain ⟨p1, g1, l1, e1, e2⟩ := zy_th_r h
        obtain ⟨w1, q1, r1⟩ := ih 9 d _ _ l p1 g1 l1 (by decide) hd e1
        obtain ⟨w2, q2, r2⟩ := ih 8 d p1 g1 _ p2 g2 l2 (by decide) hd e2
        have b := zw_mub q
        exact ⟨w1 ++ ([zy_mu T n p g] ++ w2), by rw [q2, q1]; simp only [List.append_assoc], fun en => zw_Hn_s (zw_op_mu b) (by omega) (r1 en) (r2 en)⟩
    · rw [zy_X9] at h
      split at h
      · split at h
        · cases h
        · next hd7 =>
          obtain ⟨p1, g1, l1, e1, e2⟩ := zy_th_r h
          obtain ⟨w1, q1, r1⟩ := ih 5 (d + 1) _ _ l p1 g1 l1 (by decide) (by omega) e1
          split at e2
          · cases e2
            exact ⟨w1, q1, fun en => zw_Gn_le (r1 en) (by omega)⟩
          · cases e2
      split at h
      · exact ih 10 d p g l p2 g2 l2 (by decide) hd h
      split at h
      · exact ih 11 d p g l p2 g2 l2 (by decide) hd h
      split at h
      · next q =>
        cases h
        have := zy_nu_b q
        exact ⟨[_], rfl, fun en => zw_Gn_1 (by omega) (by omega)⟩
      split at h
      · cases h
      · next q =>
        cases h
        exact ⟨[_], rfl, fun en => zw_Gn_1 (by omega) (zw_seb q)⟩
    · rw [zy_X10] at h
      split at h
      · split at h
        · cases h
        · next hd7 =>
          obtain ⟨p1, g1, l1, e1, e2⟩ := zy_th_r h
          obtain ⟨w1, q1, r1⟩ := ih 5 (d + 1) _ _ l p1 g1 l1 (by decide) (by omega) e1
          split at e2
          · obtain ⟨p3, g3, l3, e3, e4⟩ := zy_th_r e2
            obtain ⟨w2, q2, r2⟩ := ih 5 (d + 1) _ _ l1 p3 g3 l3 (by decide) (by omega) e3
            split at e4
            · cases e4
              exact ⟨w1 ++ (w2 ++ [-16]), by rw [q2, q1]; simp only [List.append_assoc], fun en => zw_Gn_2 (Or.inl rfl) (zw_Gn_le (r1 en) (by omega)) (zw_Gn_le (r2 en) (by omega))⟩
            · cases e4
          · cases e2
      · cases h
    · rw [zy_X11] at h
      split at h
      · split at h
        · cases h
        · next hd7 =>
          obtain ⟨p1, g1, l1, e1, e2⟩ := zy_th_r h
          obtain ⟨w1, q1, r1⟩ := ih 5 (d + 1) _ _ l p1 g1 l1 (by decide) (by omega) e1
          split at e2
          · obtain ⟨p3, g3, l3, e3, e4⟩ := zy_th_r e2
            obtain ⟨w2, q2, r2⟩ := ih 5 (d + 1) _ _ l1 p3 g3 l3 (by decide) (by omega) e3
            split at e4
            · cases e4
              exact ⟨w1 ++ (w2 ++ [-17]), by rw [q2, q1]; simp only [List.append_assoc], fun en => zw_Gn_2 (Or.inr rfl) (zw_Gn_le (r1 en) (by omega)) (zw_Gn_le (r2 en) (by omega))⟩
            · cases e4
          · cases e2
      · cases h
