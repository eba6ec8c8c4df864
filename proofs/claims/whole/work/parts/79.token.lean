/-! THE TEXT OF A FETE: its words, numbers and signs; the class's scanner -/
/-- ahead over blanks -/
def zy_sk (T : Nat → Int) (n : Nat) : Nat → Nat → Nat
  | 0, p => p
  | m + 1, p => if p < n ∧ (T p = 10 ∨ T p = 32) then zy_sk T n m (p + 1) else p
def zy_at (T : Nat → Int) (n p : Nat) : Nat := zy_sk T n (n - p) p
/-- how many from p on lie in lo .. hi -/
def zy_rn (T : Nat → Int) (n : Nat) (lo hi : Int) : Nat → Nat → Nat
  | 0, _ => 0
  | m + 1, p => if p < n ∧ lo ≤ T p ∧ T p ≤ hi then zy_rn T n lo hi m (p + 1) + 1 else 0
def zy_lr (T : Nat → Int) (n a : Nat) : Nat := zy_rn T n 97 122 (n - a) a
def zy_dr (T : Nat → Int) (n a : Nat) : Nat := zy_rn T n 48 57 (n - a) a
/-- the first j letters from a on -/
def zy_lt (T : Nat → Int) (a j : Nat) : List Nat := (List.range j).map (fun i => (T (a + i) - 96).toNat)
def zy_nv (T : Nat → Int) (a : Nat) : Nat → Int
  | 0 => 0
  | j + 1 => zy_nv T a j * 10 + (T (a + j) - 48)
/-- 0 end, 1 word, 2 number, 3 sign, 4 none of these -/
def zy_ty (T : Nat → Int) (n p : Nat) (g : Bool) : Nat :=
  if n ≤ zy_at T n p then 0
  else if 97 ≤ T (zy_at T n p) ∧ T (zy_at T n p) ≤ 122 then (if (g = true ∧ zy_at T n p = p) ∨ 6 < zy_lr T n (zy_at T n p) then 4 else 1)
  else if 48 ≤ T (zy_at T n p) ∧ T (zy_at T n p) ≤ 57 then (if (g = true ∧ zy_at T n p = p) ∨ 4 < zy_dr T n (zy_at T n p) then 4 else 2)
  else 3
/-- where FAULT 1 lies if it can't stand here -/
def zy_bd (T : Nat → Int) (n p : Nat) (g : Bool) : Nat :=
  if n ≤ zy_at T n p then zy_at T n p
  else if 97 ≤ T (zy_at T n p) ∧ T (zy_at T n p) ≤ 122 then (if g = true ∧ zy_at T n p = p then zy_at T n p else if 6 < zy_lr T n (zy_at T n p) then zy_at T n p + 6 else zy_at T n p)
  else if 48 ≤ T (zy_at T n p) ∧ T (zy_at T n p) ≤ 57 then (if g = true ∧ zy_at T n p = p then zy_at T n p else if 4 < zy_dr T n (zy_at T n p) then zy_at T n p + 4 else zy_at T n p)
  else zy_at T n p
/-- where it ends -/
def zy_en (T : Nat → Int) (n p : Nat) : Nat :=
  if n ≤ zy_at T n p then zy_at T n p
  else if 97 ≤ T (zy_at T n p) ∧ T (zy_at T n p) ≤ 122 then zy_at T n p + zy_lr T n (zy_at T n p)
  else if 48 ≤ T (zy_at T n p) ∧ T (zy_at T n p) ≤ 57 then zy_at T n p + zy_dr T n (zy_at T n p)
  else zy_at T n p + 1
def zy_W : List (List Nat) := [[11, 9, 14, 4], [23, 15, 18, 20, 8], [19, 9, 26, 5], [12, 1, 25, 5, 18], [3, 8, 9, 12, 4], [18, 5, 1, 3, 8], [6, 5, 5, 12, 19], [6, 9, 18, 19, 20], [2, 5, 19, 20], [12, 1, 18, 7, 5], [19, 13, 1, 12, 12], [12, 9, 11, 5, 19], [3, 15, 19, 20, 19], [16, 21, 20, 19], [16, 21, 18, 19, 5], [8, 15, 21, 18], [12, 5, 6, 20], [4, 9, 16, 19], [13, 5, 1, 14], [15, 18], [1, 14, 4], [14, 15, 20], [1, 12, 12], [13, 9, 14], [13, 1, 24]]
def zy_w (i : Nat) : List Nat := zy_W.getD i []
def zy_fi (l : List Nat) : Nat → Nat → Int
  | 0, _ => -1
  | m + 1, i => if zy_w i = l then i else zy_fi l m (i + 1)
/-- the word's letters; which OWN WORD it is -/
def zy_ls (T : Nat → Int) (n p : Nat) : List Nat := zy_lt T (zy_at T n p) (zy_lr T n (zy_at T n p))
def zy_ow (T : Nat → Int) (n p : Nat) (g : Bool) : Int := if zy_ty T n p g = 1 then zy_fi (zy_ls T n p) 25 0 else -1
def zy_nu (T : Nat → Int) (n p : Nat) : Int := zy_nv T (zy_at T n p) (zy_dr T n (zy_at T n p))
theorem zy_w_nm : ∀ i, i < 25 → zp_nm (zy_w i) := by
  have h : (List.range 25).all (fun i => decide ((zy_w i).length ≤ 6) && (zy_w i).all (fun a => decide (1 ≤ a ∧ a ≤ 26))) = true := by decide
  intro i hi
  have h1 := List.all_eq_true.mp h i (List.mem_range.mpr hi)
  rw [Bool.and_eq_true] at h1
  exact ⟨of_decide_eq_true h1.1, fun a ha => of_decide_eq_true (List.all_eq_true.mp h1.2 a ha)⟩
theorem zy_sk_le (T : Nat → Int) (n : Nat) : ∀ m p, p ≤ zy_sk T n m p ∧ (p ≤ n → zy_sk T n m p ≤ n) := by
  intro m
  induction m with
  | zero => intro p; exact ⟨Nat.le_refl _, fun h => h⟩
  | succ m ih =>
    intro p
    unfold zy_sk
    split
    · next q => have := ih (p + 1); exact ⟨by omega, fun _ => this.2 (by omega)⟩
    · exact ⟨Nat.le_refl _, fun h => h⟩
theorem zy_sk_b (T : Nat → Int) (n : Nat) : ∀ m p, p + m = n → p < zy_sk T n m p → T (zy_sk T n m p - 1) = 10 ∨ T (zy_sk T n m p - 1) = 32 := by
  intro m
  induction m with
  | zero => intro p _ h; unfold zy_sk at h; omega
  | succ m ih =>
    intro p hp h
    unfold zy_sk at h ⊢
    by_cases q : p < n ∧ (T p = 10 ∨ T p = 32)
    · rw [if_pos q] at h ⊢
      by_cases h2 : p + 1 < zy_sk T n m (p + 1)
      · exact ih (p + 1) (by omega) h2
      · have := (zy_sk_le T n m (p + 1)).1
        have e : zy_sk T n m (p + 1) = p + 1 := by omega
        rw [e]; exact q.2
    · rw [if_neg q] at h; omega
theorem zy_rn_le (T : Nat → Int) (n : Nat) (lo hi : Int) : ∀ m p, p + m = n → p + zy_rn T n lo hi m p ≤ n := by
  intro m
  induction m with
  | zero => intro p h; unfold zy_rn; omega
  | succ m ih =>
    intro p h
    unfold zy_rn
    split
    · have := ih (p + 1) (by omega); omega
    · omega
theorem zy_rn_in (T : Nat → Int) (n : Nat) (lo hi : Int) : ∀ m p i, i < zy_rn T n lo hi m p → p + i < n ∧ lo ≤ T (p + i) ∧ T (p + i) ≤ hi := by
  intro m
  induction m with
  | zero => intro p i h; unfold zy_rn at h; omega
  | succ m ih =>
    intro p i h
    unfold zy_rn at h
    split at h
    · next q =>
      cases i with
      | zero => exact q
      | succ i =>
        have := ih (p + 1) i (by omega)
        rw [show p + 1 + i = p + (i + 1) by omega] at this
        exact this
    · omega
theorem zy_rn_out (T : Nat → Int) (n : Nat) (lo hi : Int) : ∀ m p, p + m = n → ¬ (p + zy_rn T n lo hi m p < n ∧ lo ≤ T (p + zy_rn T n lo hi m p) ∧ T (p + zy_rn T n lo hi m p) ≤ hi) := by
  intro m
  induction m with
  | zero => intro p h q; unfold zy_rn at q; omega
  | succ m ih =>
    intro p h
    unfold zy_rn
    split
    · next q =>
      have := ih (p + 1) (by omega)
      rw [show p + (zy_rn T n lo hi m (p + 1) + 1) = p + 1 + zy_rn T n lo hi m (p + 1) by omega]
      exact this
    · next q => rw [Nat.add_zero]; exact q
theorem zy_lt_s (T : Nat → Int) (a j : Nat) : zy_lt T a (j + 1) = zy_lt T a j ++ [(T (a + j) - 96).toNat] := by
  unfold zy_lt
  rw [List.range_succ, List.map_append]; rfl
theorem zy_lt_l (T : Nat → Int) (a j : Nat) : (zy_lt T a j).length = j := by unfold zy_lt; rw [List.length_map, List.length_range]
theorem zp_p5_a : ∀ (l : List Nat) (x : Nat), zp_p5 (l ++ [x]) = zp_p5 l + 32 ^ l.length * x := by
  intro l
  induction l with
  | nil => intro x; show x + 32 * 0 = 0 + 32 ^ 0 * x; rw [Nat.pow_zero]; omega
  | cons a l ih =>
    intro x
    show a + 32 * zp_p5 (l ++ [x]) = a + 32 * zp_p5 l + 32 ^ (l.length + 1) * x
    rw [ih, Nat.pow_succ', Nat.mul_assoc]; omega
theorem zy_lt_nm {T : Nat → Int} {a j : Nat} (hj : j ≤ 6) (h : ∀ i, i < j → 97 ≤ T (a + i) ∧ T (a + i) ≤ 122) : zp_nm (zy_lt T a j) := by
  refine ⟨by rw [zy_lt_l]; exact hj, fun x hx => ?_⟩
  unfold zy_lt at hx
  obtain ⟨i, hi, he⟩ := List.mem_map.mp hx
  have := h i (List.mem_range.mp hi)
  have he' : (T (a + i) - 96).toNat = x := he
  omega
theorem zb_ior_comm (a b : Int) : zb_ior a b = zb_ior b a := by
  show (Int32.ofInt a ||| Int32.ofInt b).toInt = (Int32.ofInt b ||| Int32.ofInt a).toInt
  rw [Int32.or_comm]
/-- a text on the class's tape -/
def zy_CT (h : zm_H) (T : Nat → Int) (n : Nat) : Prop := n ≤ 1600 ∧ (∀ i, i < n → 0 ≤ T i ∧ T i ≤ 255) ∧ h 5 1 = n ∧ (∀ i : Nat, i < n → h 6 i = T i) ∧ ∀ w : Nat, w < 25 → h 31 w = zp_p5 (zy_w w)
/-- the class's scanner at the word behind p -/
def zy_C (h : zm_H) (T : Nat → Int) (n p : Nat) (g : Bool) : Prop :=
  h 30 3 = zy_ty T n p g ∧ h 30 6 = zy_at T n p ∧ h 30 7 = zy_bd T n p g ∧ h 30 5 = zy_ow T n p g ∧ (zy_ty T n p g ≠ 4 → h 30 2 = zy_en T n p) ∧ (zy_ty T n p g = 1 → h 30 4 = zp_p5 (zy_ls T n p)) ∧ (zy_ty T n p g = 2 → h 30 4 = zy_nu T n p) ∧ (zy_ty T n p g = 3 → h 30 4 = T (zy_at T n p))
def zf_Sc (a : Nat) (i : Int) : Prop := a = 30 ∧ 2 ≤ i ∧ i ≤ 7
section
variable {h : zm_H} {T : Nat → Int} {n : Nat}
theorem zy_CT.kp {g : zm_H} (hT : zy_CT h T n) (f : zq_F zf_Sc h g) : zy_CT g T n := by
  obtain ⟨h1, h2, h3, h4, h5⟩ := hT
  exact ⟨h1, h2, by rw [f 5 1 (by unfold zf_Sc; omega)]; exact h3, fun i hi => by rw [f 6 i (by unfold zf_Sc; omega)]; exact h4 i hi, fun w hw => by rw [f 31 w (by unfold zf_Sc; omega)]; exact h5 w hw⟩
theorem s_137 {l : List Nat} (hT : zy_CT h T n) (hl : zp_nm l) : zi (zc 137 [zm_A 30, zm_I (zp_p5 l : Nat)] h) (fun z g => z = zy_fi l 25 0 ∧ g = h) := by
  have key : ∀ (m i : Nat), i + m = 25 → zi (zr none 1 137 2 [zm_A 30, zm_I (zp_p5 l : Nat), zm_I i] [] h) (fun z g => z = zy_fi l m i ∧ g = h) := by
    intro m
    induction m with
    | zero => intro i hi; exact zt_l e_137_2 (zt_f (by omega) (zi_e ⟨rfl, rfl⟩))
    | succ m ih =>
      intro i hi
      unfold zy_fi
      refine zt_l e_137_2 ?_
      rw [hT.2.2.2.2 i (by omega), show (i : Int) + 1 = ((i + 1 : Nat) : Int) by omega]
      refine zt_t (by omega) (zt_c (by omega) (zt_p (fun q => zi_e ⟨?_, rfl⟩) (fun q => zt_c (by omega) ?_)))
      · rw [if_pos (zp_p5_inj _ _ (zy_w_nm i (by omega)).2 hl.2 (by omega))]
      · rw [if_neg (fun e => q (by rw [e]))]
        exact ih (i + 1) (by omega)
  exact zt_l e_137 (key 25 0 (by omega))
/-- a word -/
theorem s_134 {a : Nat} (hT : zy_CT h T n) (ha : a < n) (h2 : h 30 2 = a) (h6 : h 30 6 = a) (h4 : h 30 4 = 0) (h7 : h 30 7 = a) : zu (zc 134 [zm_A 30] h) (fun g => zq_F zf_Sc h g ∧ g 30 6 = a ∧ ((zy_lr T n a ≤ 6 ∧ g 30 3 = 1 ∧ g 30 2 = ((a + zy_lr T n a : Nat) : Int) ∧ g 30 4 = zp_p5 (zy_lt T a (zy_lr T n a)) ∧ g 30 7 = a) ∨ (6 < zy_lr T n a ∧ g 30 3 = 4 ∧ g 30 7 = ((a + 6 : Nat) : Int)))) := by
  have hle := zy_rn_le T n 97 122 (n - a) a (by omega)
  have hin := zy_rn_in T n 97 122 (n - a) a
  have hout := zy_rn_out T n 97 122 (n - a) a (by omega)
  have key : ∀ (m j : Nat) (g : zm_H) (w1 : zm_V), j + m = min 6 (zy_lr T n a) → zq_F zf_Sc h g → g 30 3 = 1 → g 30 2 = ((a + j : Nat) : Int) → g 30 6 = a → g 30 4 = zp_p5 (zy_lt T a j) → g 30 7 = a → zu (zr none 1 134 5 [zm_A 30, w1] [] g) (fun g => zq_F zf_Sc h g ∧ g 30 6 = a ∧ ((zy_lr T n a ≤ 6 ∧ g 30 3 = 1 ∧ g 30 2 = ((a + zy_lr T n a : Nat) : Int) ∧ g 30 4 = zp_p5 (zy_lt T a (zy_lr T n a)) ∧ g 30 7 = a) ∨ (6 < zy_lr T n a ∧ g 30 3 = 4 ∧ g 30 7 = ((a + 6 : Nat) : Int)))) := by
    intro m
    induction m with
    | zero =>
      intro j g w1 hj fg g3 g2 g6 g4 g7
      have hTg := hT.kp fg
      have hle' : a + zy_lr T n a ≤ n := hle
      refine zt_l e_134_5 ?_
      rw [g2, hTg.2.2.1, g6]
      by_cases h6 : zy_lr T n a ≤ 6
      · have hj' : j = zy_lr T n a := by omega
        subst hj'
        have fin : zq_F zf_Sc h g ∧ g 30 6 = a ∧ ((zy_lr T n a ≤ 6 ∧ g 30 3 = 1 ∧ g 30 2 = ((a + zy_lr T n a : Nat) : Int) ∧ g 30 4 = zp_p5 (zy_lt T a (zy_lr T n a)) ∧ g 30 7 = a) ∨ (6 < zy_lr T n a ∧ g 30 3 = 4 ∧ g 30 7 = ((a + 6 : Nat) : Int))) := ⟨fg, g6, Or.inl ⟨h6, g3, g2, g4, g7⟩⟩
        refine zt_p (fun q => ?_) (fun q => zu_e fin)
        have hn : a + zy_lr T n a < n := by omega
        rw [hTg.2.2.2.1 _ hn]
        refine zt_c (by have := hT.1; omega) (zt_p (fun q1 => zu_e fin) (fun q1 => zt_c (by have := hT.1; omega) (zt_p (fun q2 => zu_e fin) (fun q2 => ?_))))
        exact absurd ⟨hn, show 97 ≤ T (a + zy_lr T n a) by omega, show T (a + zy_lr T n a) ≤ 122 by omega⟩ hout
      · have hj' : j = 6 := by omega
        subst hj'
        have h1 := hin 6 (show 6 < zy_lr T n a by omega)
        rw [hTg.2.2.2.1 _ h1.1]
        have := hT.1
        refine zt_t (by omega) (zt_c (by omega) (zt_f (by omega) (zt_c (by omega) (zt_f (by omega) (zt_c (by omega) (zt_t (by omega) (zu_e ⟨zq_F_tr fg (zq_F_tr (zq_F_wr ⟨rfl, by decide, by decide⟩) (zq_F_wr ⟨rfl, by decide, by decide⟩)), ?_, Or.inr ⟨by omega, ?_, ?_⟩⟩)))))))
        · rw [zq_wr_i (by decide), zq_wr_i (by decide)]; exact g6
        · rw [zq_wr_i (by decide), zq_wr_e]
        · rw [zq_wr_e, zq_wr_i (by decide)]; exact g2
    | succ m ih =>
      intro j g w1 hj fg g3 g2 g6 g4 g7
      have hTg := hT.kp fg
      have h1 := hin j (show j < zy_lr T n a by omega)
      have hnm := zy_lt_nm (T := T) (a := a) (j := j) (by omega) (fun i hi => (hin i (show i < zy_lr T n a by omega)).2)
      have hb5 := zp_p5_b (zy_lt T a j) (fun x hx => (hnm.2 x hx).2)
      rw [zy_lt_l] at hb5
      have hp5 := zp_p5_30 (zy_lt_nm (T := T) (a := a) (j := j + 1) (by omega) (fun i hi => (hin i (show i < zy_lr T n a by omega)).2))
      rw [zy_lt_s, zp_p5_a, zy_lt_l] at hp5
      obtain ⟨c, hc⟩ : ∃ c : Nat, c = (T (a + j) - 96).toNat := ⟨_, rfl⟩
      rw [← hc] at hp5
      have ec : T (a + j) - 97 + 1 = (c : Int) := by omega
      have e5 : 5 * (((a + j : Nat) : Int) - (a : Int)) = ((5 * j : Nat) : Int) := by omega
      have ep : (2 : Nat) ^ (5 * j) = 32 ^ j := by rw [Nat.pow_mul]
      have hmul : ((c : Nat) : Int) * ((32 ^ j : Nat) : Int) = ((32 ^ j * c : Nat) : Int) := by rw [Int.natCast_mul, Int.mul_comm]
      have esh : zb_ishl (c : Int) ((5 * j : Nat) : Int) = ((32 ^ j * c : Nat) : Int) := by
        rw [zb_shl (by omega) (by omega) (by rw [ep, hmul]; omega), ep, hmul]
      have eor : zb_ior ((zp_p5 (zy_lt T a j) : Nat) : Int) ((32 ^ j * c : Nat) : Int) = ((zp_p5 (zy_lt T a j) + 32 ^ j * c : Nat) : Int) := by
        rw [zb_ior_comm, zb_or (i := 5 * j) (c := c) (by rw [ep]) ⟨by omega, by rw [ep]; omega⟩ (by omega)]; omega
      refine zt_l e_134_5 ?_
      rw [g2, hTg.2.2.1, g6, hTg.2.2.2.1 _ h1.1, g4, ec, e5, esh, eor]
      have := hT.1
      have e2 : zm_wr g 30 4 ((zp_p5 (zy_lt T a j) + 32 ^ j * c : Nat) : Int) 30 2 = ((a + j : Nat) : Int) := by rw [zq_wr_i (by decide)]; exact g2
      rw [e2]
      refine zt_t (by omega) (zt_c (by omega) (zt_f (by omega) (zt_c (by omega) (zt_f (by omega) (zt_c (by omega) (zt_f (by omega) (zt_c (by omega) (zt_c (by omega) (zt_c (by omega) (zt_c (by omega) (zt_c (by omega) ?_)))))))))))
      refine ih (j + 1) _ _ (by omega) (zq_F_tr fg (zq_F_tr (zq_F_wr ⟨rfl, by decide, by decide⟩) (zq_F_wr ⟨rfl, by decide, by decide⟩))) ?_ ?_ ?_ ?_ ?_
      · rw [zq_wr_i (by decide), zq_wr_i (by decide)]; exact g3
      · rw [zq_wr_e]; omega
      · rw [zq_wr_i (by decide), zq_wr_i (by decide)]; exact g6
      · rw [zq_wr_i (by decide), zq_wr_e, zy_lt_s, zp_p5_a, zy_lt_l, ← hc]
      · rw [zq_wr_i (by decide), zq_wr_i (by decide)]; exact g7
  refine zt_l e_134 (key (min 6 (zy_lr T n a)) 0 _ _ (by omega) (zq_F_wr ⟨rfl, by decide, by decide⟩) zq_wr_e ?_ ?_ ?_ ?_)
  · rw [zq_wr_i (by decide)]; exact h2
  · rw [zq_wr_i (by decide)]; exact h6
  · rw [zq_wr_i (by decide)]; exact h4
  · rw [zq_wr_i (by decide)]; exact h7
end
