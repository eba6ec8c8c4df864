/-! THE REFERENCE'S SCANNER -/
def zy_RT (h : zm_H) (T : Nat → Int) (n : Nat) : Prop := n ≤ 1600 ∧ (∀ i, i < n → 0 ≤ T i ∧ T i ≤ 255) ∧ h 146 2 = n ∧ ∀ i : Nat, i < n → h 147 i = T i
def zy_R (h : zm_H) (T : Nat → Int) (n p : Nat) (g : Bool) : Prop :=
  h 146 4 = zy_at T n p ∧ (zy_ty T n p g = 4 → h 146 12 = zy_bd T n p g) ∧ (zy_ty T n p g ≠ 4 → h 146 12 = -1 ∧ h 146 3 = zy_ty T n p g ∧ h 146 5 = zy_en T n p) ∧ (zy_ty T n p g = 1 → h 146 7 = zp_q8 (zy_ls T n p).reverse) ∧ (zy_ty T n p g = 2 → h 146 6 = zy_nu T n p) ∧ (zy_ty T n p g = 3 → h 146 6 = T (zy_at T n p))
def zf_Sr (a : Nat) (i : Int) : Prop := a = 146 ∧ ((3 ≤ i ∧ i ≤ 7) ∨ i = 12)
/-- behind p a word or number would stand side by side with another -/
def zy_gl (T : Nat → Int) (p : Nat) (g : Bool) : Prop := g = true ↔ 0 < p ∧ ((97 ≤ T (p - 1) ∧ T (p - 1) ≤ 122) ∨ (48 ≤ T (p - 1) ∧ T (p - 1) ≤ 57))
theorem zy_gl_n {T : Nat → Int} {n p : Nat} {g : Bool} (hp : p ≤ n) (ht : zy_ty T n p g ≠ 4 ∧ zy_ty T n p g ≠ 0) : zy_gl T (zy_en T n p) (decide (zy_ty T n p g = 1 ∨ zy_ty T n p g = 2)) ∧ zy_en T n p ≤ n := by
  have han : zy_at T n p ≤ n := (zy_sk_le T n (n - p) p).2 hp
  unfold zy_gl
  rw [decide_eq_true_iff]
  unfold zy_ty at ht ⊢
  unfold zy_en
  generalize zy_at T n p = a at han ht ⊢
  by_cases h1 : n ≤ a
  · rw [if_pos h1] at ht; exact absurd rfl ht.2
  rw [if_neg h1] at ht ⊢
  rw [if_neg h1]
  by_cases h2 : 97 ≤ T a ∧ T a ≤ 122
  · rw [if_pos h2] at ht ⊢
    rw [if_pos h2]
    by_cases h3 : (g = true ∧ a = p) ∨ 6 < zy_lr T n a
    · rw [if_pos h3] at ht; exact absurd rfl ht.1
    · rw [if_neg h3]
      have hle : a + zy_lr T n a ≤ n := zy_rn_le T n 97 122 (n - a) a (by omega)
      have hpos : 0 < zy_lr T n a := by
        have := zy_rn_out T n 97 122 (n - a) a (by omega)
        refine Classical.byContradiction (fun q => this ?_)
        have e : zy_rn T n 97 122 (n - a) a = 0 := by have : ¬ 0 < zy_rn T n 97 122 (n - a) a := q; omega
        rw [e, Nat.add_zero]; exact ⟨by omega, h2⟩
      have := zy_rn_in T n 97 122 (n - a) a (zy_lr T n a - 1) (show zy_lr T n a - 1 < zy_lr T n a by omega)
      rw [show a + (zy_lr T n a - 1) = a + zy_lr T n a - 1 by omega] at this
      exact ⟨⟨fun _ => ⟨by omega, Or.inl this.2⟩, fun _ => Or.inl rfl⟩, hle⟩
  · rw [if_neg h2] at ht ⊢
    rw [if_neg h2]
    by_cases h3 : 48 ≤ T a ∧ T a ≤ 57
    · rw [if_pos h3] at ht ⊢
      rw [if_pos h3]
      by_cases h4 : (g = true ∧ a = p) ∨ 4 < zy_dr T n a
      · rw [if_pos h4] at ht; exact absurd rfl ht.1
      · rw [if_neg h4]
        have hle : a + zy_dr T n a ≤ n := zy_rn_le T n 48 57 (n - a) a (by omega)
        have hpos : 0 < zy_dr T n a := by
          have := zy_rn_out T n 48 57 (n - a) a (by omega)
          refine Classical.byContradiction (fun q => this ?_)
          have e : zy_rn T n 48 57 (n - a) a = 0 := by have : ¬ 0 < zy_rn T n 48 57 (n - a) a := q; omega
          rw [e, Nat.add_zero]; exact ⟨by omega, h3⟩
        have := zy_rn_in T n 48 57 (n - a) a (zy_dr T n a - 1) (show zy_dr T n a - 1 < zy_dr T n a by omega)
        rw [show a + (zy_dr T n a - 1) = a + zy_dr T n a - 1 by omega] at this
        exact ⟨⟨fun _ => ⟨by omega, Or.inr this.2⟩, fun _ => Or.inr rfl⟩, hle⟩
    · rw [if_neg h3]
      rw [if_neg h3]
      refine ⟨⟨fun s => by omega, fun s => ?_⟩, by omega⟩
      rw [show a + 1 - 1 = a by omega] at s
      exact absurd s.2 (fun r => r.elim h2 h3)
section
variable {h : zm_H} {T : Nat → Int} {n : Nat}
theorem zy_RT.kp {g : zm_H} (hT : zy_RT h T n) (f : zq_F zf_Sr h g) : zy_RT g T n := by
  obtain ⟨h1, h2, h3, h4⟩ := hT
  exact ⟨h1, h2, by rw [f 146 2 (by unfold zf_Sr; omega)]; exact h3, fun i hi => by rw [f 147 i (by unfold zf_Sr; omega)]; exact h4 i hi⟩
theorem s_160 (x : Int) : zi (zc 160 [zm_I x] h) (fun z g => z = (if 97 ≤ x ∧ x ≤ 122 then 1 else 0) ∧ g = h) := by
  refine zt_l e_160 (zt_p (fun q => zt_c (Or.inl rfl) (zi_e ⟨by rw [if_neg (by omega)], rfl⟩)) (fun q => zt_p (fun q2 => zt_c (Or.inl rfl) (zi_e ⟨by rw [if_neg (by omega)], rfl⟩)) (fun q2 => zt_c (Or.inr rfl) (zi_e ⟨by rw [if_pos (by omega)], rfl⟩))))
theorem s_161 (x : Int) : zi (zc 161 [zm_I x] h) (fun z g => z = (if 48 ≤ x ∧ x ≤ 57 then 1 else 0) ∧ g = h) := by
  refine zt_l e_161 (zt_p (fun q => zt_c (Or.inl rfl) (zi_e ⟨by rw [if_neg (by omega)], rfl⟩)) (fun q => zt_p (fun q2 => zt_c (Or.inl rfl) (zi_e ⟨by rw [if_neg (by omega)], rfl⟩)) (fun q2 => zt_c (Or.inr rfl) (zi_e ⟨by rw [if_pos (by omega)], rfl⟩))))
/-- the letters -/
theorem s_159_L {a : Nat} {lx : Int} (hT : zy_RT h T n) (ha : a < n) (hlx : lx = -1 ∨ lx = a) (h7 : h 146 7 = 0) (h12 : h 146 12 = lx) : zu (zr none 2 159 204 [zm_A 146, zm_I a, zm_I 1, zm_I 0, zm_I 6, zm_I 0] [] h) (fun g => zq_F (fun a i => a = 146 ∧ (i = 5 ∨ i = 7 ∨ i = 12)) h g ∧ g 146 5 = ((a + zy_lr T n a : Nat) : Int) ∧ (zy_lr T n a ≤ 6 → g 146 7 = zp_q8 (zy_lt T a (zy_lr T n a)).reverse) ∧ g 146 12 = (if lx = -1 ∧ 6 < zy_lr T n a then ((a + 6 : Nat) : Int) else lx)) := by
  have hn16 := hT.1
  have hle : a + zy_lr T n a ≤ n := zy_rn_le T n 97 122 (n - a) a (by omega)
  have hin : ∀ i, i < zy_lr T n a → a + i < n ∧ 97 ≤ T (a + i) ∧ T (a + i) ≤ 122 := zy_rn_in T n 97 122 (n - a) a
  have hout : ¬ (a + zy_lr T n a < n ∧ 97 ≤ T (a + zy_lr T n a) ∧ T (a + zy_lr T n a) ≤ 122) := zy_rn_out T n 97 122 (n - a) a (by omega)
  generalize zy_lr T n a = r at hle hin hout ⊢
  have key : ∀ (m j : Nat) (k : zm_H), j + m = r → zq_F (fun a i => a = 146 ∧ (i = 5 ∨ i = 7 ∨ i = 12)) h k → (j ≤ 6 → k 146 7 = zp_q8 (zy_lt T a j).reverse) → k 146 12 = (if lx = -1 ∧ 6 < j then ((a + 6 : Nat) : Int) else lx) → zu (zr none 2 159 204 [zm_A 146, zm_I ((a + j : Nat) : Int), zm_I 1, zm_I 0, zm_I 6, zm_I j] [] k) (fun g => zq_F (fun a i => a = 146 ∧ (i = 5 ∨ i = 7 ∨ i = 12)) h g ∧ g 146 5 = ((a + r : Nat) : Int) ∧ (r ≤ 6 → g 146 7 = zp_q8 (zy_lt T a r).reverse) ∧ g 146 12 = (if lx = -1 ∧ 6 < r then ((a + 6 : Nat) : Int) else lx)) := by
    intro m
    induction m with
    | zero =>
      intro j k hj fk k7 k12
      obtain rfl : j = r := by omega
      have hTk := hT.kp (zq_F_wk fk (fun a i q => by unfold zf_Sr; omega))
      have fin : zu (some (zm_U, zm_wr k 146 5 ((a + j : Nat) : Int))) (fun g => zq_F (fun a i => a = 146 ∧ (i = 5 ∨ i = 7 ∨ i = 12)) h g ∧ g 146 5 = ((a + j : Nat) : Int) ∧ (j ≤ 6 → g 146 7 = zp_q8 (zy_lt T a j).reverse) ∧ g 146 12 = (if lx = -1 ∧ 6 < j then ((a + 6 : Nat) : Int) else lx)) :=
        zu_e ⟨zq_F_tr fk (zq_F_wr ⟨rfl, Or.inl rfl⟩), zq_wr_e, fun q => by rw [zq_wr_i (by decide)]; exact k7 q, by rw [zq_wr_i (by decide)]; exact k12⟩
      refine zt_l e_159_204 ?_
      rw [hTk.2.2.1]
      refine zt_p (fun c1 => zt_f (by decide) (zt_c (by omega) ?_)) (fun c1 => fin)
      refine zt_I (s_160 _) ?_
      rintro z g ⟨rfl, rfl⟩
      rw [hTk.2.2.2 _ (by omega), if_neg (fun s => hout ⟨by omega, s⟩)]
      exact zt_t rfl fin
    | succ m ih =>
      intro j k hj fk k7 k12
      have hTk := hT.kp (zq_F_wk fk (fun a i q => by unfold zf_Sr; omega))
      obtain ⟨i1, i2, i3⟩ := hin j (by omega)
      have nxt : ∀ k' : zm_H, zq_F (fun a i => a = 146 ∧ (i = 5 ∨ i = 7 ∨ i = 12)) h k' → (j + 1 ≤ 6 → k' 146 7 = zp_q8 (zy_lt T a (j + 1)).reverse) → k' 146 12 = (if lx = -1 ∧ 6 < j + 1 then ((a + 6 : Nat) : Int) else lx) → zu (zr none 2 159 293 [zm_A 146, zm_I ((a + j : Nat) : Int), zm_I 1, zm_I 0, zm_I 6, zm_I j] [] k') (fun g => zq_F (fun a i => a = 146 ∧ (i = 5 ∨ i = 7 ∨ i = 12)) h g ∧ g 146 5 = ((a + r : Nat) : Int) ∧ (r ≤ 6 → g 146 7 = zp_q8 (zy_lt T a r).reverse) ∧ g 146 12 = (if lx = -1 ∧ 6 < r then ((a + 6 : Nat) : Int) else lx)) := by
        intro k' f' q7 q12
        have i' := ih (j + 1) k' (by omega) f' q7 q12
        refine zt_l e_159_293 ?_
        rw [show ((a + j : Nat) : Int) + 1 = ((a + (j + 1) : Nat) : Int) by omega, show (j : Int) + 1 = ((j + 1 : Nat) : Int) by omega]
        exact zt_p (fun c => zt_t rfl (zt_c (by omega) (zt_c (by omega) i'))) (fun c => zt_c (by omega) (zt_c (by omega) i'))
      have lett : ∀ k' : zm_H, zq_F (fun a i => a = 146 ∧ (i = 5 ∨ i = 7 ∨ i = 12)) h k' → (j ≤ 6 → k' 146 7 = zp_q8 (zy_lt T a j).reverse) → k' 146 12 = (if lx = -1 ∧ 6 < j + 1 then ((a + 6 : Nat) : Int) else lx) → zu (zr none 2 159 263 [zm_A 146, zm_I ((a + j : Nat) : Int), zm_I 1, zm_I 0, zm_I 6, zm_I j] [] k') (fun g => zq_F (fun a i => a = 146 ∧ (i = 5 ∨ i = 7 ∨ i = 12)) h g ∧ g 146 5 = ((a + r : Nat) : Int) ∧ (r ≤ 6 → g 146 7 = zp_q8 (zy_lt T a r).reverse) ∧ g 146 12 = (if lx = -1 ∧ 6 < r then ((a + 6 : Nat) : Int) else lx)) := by
        intro k' f' q7 q12
        have hTk' := hT.kp (zq_F_wk f' (fun a i q => by unfold zf_Sr; omega))
        refine zt_l e_159_263 (zt_p (fun c => zt_f (by decide) (zt_c (by omega) ?_)) (fun c => nxt k' f' (fun s => by omega) q12))
        have hnm := zp_nm_r (zy_lt_nm (T := T) (a := a) (j := j) (by omega) (fun i hi => (hin i (by omega)).2))
        have hb := zp_q8_b _ (fun x hx => (hnm.2 x hx).2)
        rw [List.length_reverse, zy_lt_l] at hb
        have h5 : 256 ^ j ≤ 256 ^ 5 := Nat.pow_le_pow_right (by decide) (by omega)
        have h55 : (256 : Nat) ^ 5 = 1099511627776 := by decide
        obtain ⟨c1, hc1⟩ : ∃ c1 : Nat, c1 = (T (a + j) - 96).toNat := ⟨_, rfl⟩
        have eT : T (a + j) = ((c1 + 96 : Nat) : Int) := by omega
        have hc26 : c1 ≤ 26 := by omega
        have e8 : zb_lshl ((zp_q8 (zy_lt T a j).reverse : Nat) : Int) 8 = ((256 * zp_q8 (zy_lt T a j).reverse : Nat) : Int) := by
          have := zb_lsl (x := ((zp_q8 (zy_lt T a j).reverse : Nat) : Int)) (s := 8) (by omega) (by decide) (by omega)
          rw [show ((8 : Nat) : Int) = 8 from rfl] at this
          rw [this]; omega
        have eq8 : zp_q8 (zy_lt T a (j + 1)).reverse = c1 + 96 + 256 * zp_q8 (zy_lt T a j).reverse := by
          rw [zy_lt_s, List.reverse_append, ← hc1]; rfl
        have eor : zb_lor ((256 * zp_q8 (zy_lt T a j).reverse : Nat) : Int) ((c1 + 96 : Nat) : Int) = ((zp_q8 (zy_lt T a (j + 1)).reverse : Nat) : Int) := by
          rw [zb_lor_a (i := 8) (c := zp_q8 (zy_lt T a j).reverse) rfl ⟨by omega, by omega⟩ (by omega), eq8]; omega
        rw [q7 (by omega), e8, hTk'.2.2.2 _ i1, eT, eor]
        exact nxt _ (zq_F_tr f' (zq_F_wr ⟨rfl, by omega⟩)) (fun _ => zq_wr_e) (by rw [zq_wr_i (by decide)]; exact q12)
      refine zt_l e_159_204 ?_
      rw [hTk.2.2.1]
      refine zt_t (by omega) (zt_f (by decide) (zt_c (by omega) (zt_I (s_160 _) ?_)))
      rintro z g ⟨rfl, rfl⟩
      rw [hTk.2.2.2 _ i1, if_pos (show 97 ≤ T (a + j) ∧ T (a + j) ≤ 122 from ⟨i2, i3⟩)]
      refine zt_f (by decide) (zt_l e_159_243 (zt_p (fun c6 => ?_) (fun c6 => ?_)))
      · rw [k12]
        by_cases hl : lx = -1
        · rw [if_neg (show ¬ (lx = -1 ∧ 6 < j) by omega)]
          refine zt_t hl (lett _ (zq_F_tr fk (zq_F_wr ⟨rfl, by omega⟩)) (fun s => by rw [zq_wr_i (by decide)]; exact k7 s) ?_)
          rw [zq_wr_e, if_pos (show lx = -1 ∧ 6 < j + 1 by omega)]; omega
        · rw [if_neg (show ¬ (lx = -1 ∧ 6 < j) from fun s => hl s.1)]
          refine zt_f hl (lett _ fk k7 ?_)
          rw [k12, if_neg (show ¬ (lx = -1 ∧ 6 < j) from fun s => hl s.1), if_neg (show ¬ (lx = -1 ∧ 6 < j + 1) from fun s => hl s.1)]
      · refine lett _ fk k7 ?_
        rw [k12]
        by_cases hl : lx = -1 ∧ 6 < j
        · rw [if_pos hl, if_pos ⟨hl.1, by omega⟩]
        · rw [if_neg hl, if_neg (show ¬ (lx = -1 ∧ 6 < j + 1) from fun s => hl ⟨s.1, by omega⟩)]
  exact key r 0 h (by omega) zq_F_rf (fun _ => h7) (by rw [if_neg (fun s => by omega)]; exact h12)
/-- the digits -/
theorem s_159_D {a : Nat} {lx : Int} (hT : zy_RT h T n) (ha : a < n) (hlx : lx = -1 ∨ lx = a) (h6 : h 146 6 = 0) (h12 : h 146 12 = lx) : zu (zr none 2 159 204 [zm_A 146, zm_I a, zm_I 0, zm_I 1, zm_I 4, zm_I 0] [] h) (fun g => zq_F (fun a i => a = 146 ∧ (i = 5 ∨ i = 6 ∨ i = 12)) h g ∧ g 146 5 = ((a + zy_dr T n a : Nat) : Int) ∧ (zy_dr T n a ≤ 4 → g 146 6 = zy_nv T a (zy_dr T n a)) ∧ g 146 12 = (if lx = -1 ∧ 4 < zy_dr T n a then ((a + 4 : Nat) : Int) else lx)) := by
  have hn16 := hT.1
  have hle : a + zy_dr T n a ≤ n := zy_rn_le T n 48 57 (n - a) a (by omega)
  have hin : ∀ i, i < zy_dr T n a → a + i < n ∧ 48 ≤ T (a + i) ∧ T (a + i) ≤ 57 := zy_rn_in T n 48 57 (n - a) a
  have hout : ¬ (a + zy_dr T n a < n ∧ 48 ≤ T (a + zy_dr T n a) ∧ T (a + zy_dr T n a) ≤ 57) := zy_rn_out T n 48 57 (n - a) a (by omega)
  generalize zy_dr T n a = r at hle hin hout ⊢
  have key : ∀ (m j : Nat) (k : zm_H), j + m = r → zq_F (fun a i => a = 146 ∧ (i = 5 ∨ i = 6 ∨ i = 12)) h k → (j ≤ 4 → k 146 6 = zy_nv T a j) → k 146 12 = (if lx = -1 ∧ 4 < j then ((a + 4 : Nat) : Int) else lx) → zu (zr none 2 159 204 [zm_A 146, zm_I ((a + j : Nat) : Int), zm_I 0, zm_I 1, zm_I 4, zm_I j] [] k) (fun g => zq_F (fun a i => a = 146 ∧ (i = 5 ∨ i = 6 ∨ i = 12)) h g ∧ g 146 5 = ((a + r : Nat) : Int) ∧ (r ≤ 4 → g 146 6 = zy_nv T a r) ∧ g 146 12 = (if lx = -1 ∧ 4 < r then ((a + 4 : Nat) : Int) else lx)) := by
    intro m
    induction m with
    | zero =>
      intro j k hj fk k6 k12
      obtain rfl : j = r := by omega
      have hTk := hT.kp (zq_F_wk fk (fun a i q => by unfold zf_Sr; omega))
      have fin : zu (some (zm_U, zm_wr k 146 5 ((a + j : Nat) : Int))) (fun g => zq_F (fun a i => a = 146 ∧ (i = 5 ∨ i = 6 ∨ i = 12)) h g ∧ g 146 5 = ((a + j : Nat) : Int) ∧ (j ≤ 4 → g 146 6 = zy_nv T a j) ∧ g 146 12 = (if lx = -1 ∧ 4 < j then ((a + 4 : Nat) : Int) else lx)) :=
        zu_e ⟨zq_F_tr fk (zq_F_wr ⟨rfl, Or.inl rfl⟩), zq_wr_e, fun q => by rw [zq_wr_i (by decide)]; exact k6 q, by rw [zq_wr_i (by decide)]; exact k12⟩
      refine zt_l e_159_204 ?_
      rw [hTk.2.2.1]
      refine zt_p (fun c1 => zt_t rfl (zt_c (by omega) ?_)) (fun c1 => fin)
      refine zt_I (s_161 _) ?_
      rintro z g ⟨rfl, rfl⟩
      rw [hTk.2.2.2 _ (by omega), if_neg (show ¬ (48 ≤ T (a + j) ∧ T (a + j) ≤ 57) from fun s => hout ⟨by omega, s⟩)]
      exact zt_t rfl fin
    | succ m ih =>
      intro j k hj fk k6 k12
      have hTk := hT.kp (zq_F_wk fk (fun a i q => by unfold zf_Sr; omega))
      obtain ⟨i1, i2, i3⟩ := hin j (by omega)
      have digit : ∀ k' : zm_H, zq_F (fun a i => a = 146 ∧ (i = 5 ∨ i = 6 ∨ i = 12)) h k' → (j ≤ 4 → k' 146 6 = zy_nv T a j) → k' 146 12 = (if lx = -1 ∧ 4 < j + 1 then ((a + 4 : Nat) : Int) else lx) → zu (zr none 2 159 263 [zm_A 146, zm_I ((a + j : Nat) : Int), zm_I 0, zm_I 1, zm_I 4, zm_I j] [] k') (fun g => zq_F (fun a i => a = 146 ∧ (i = 5 ∨ i = 6 ∨ i = 12)) h g ∧ g 146 5 = ((a + r : Nat) : Int) ∧ (r ≤ 4 → g 146 6 = zy_nv T a r) ∧ g 146 12 = (if lx = -1 ∧ 4 < r then ((a + 4 : Nat) : Int) else lx)) := by
        intro k' f' q6 q12
        have hTk' := hT.kp (zq_F_wk f' (fun a i q => by unfold zf_Sr; omega))
        have i' := ih (j + 1)
        have go : zu (zr none 2 159 293 [zm_A 146, zm_I ((a + j : Nat) : Int), zm_I 0, zm_I 1, zm_I 4, zm_I j] [] k') (fun g => zq_F (fun a i => a = 146 ∧ (i = 5 ∨ i = 6 ∨ i = 12)) h g ∧ g 146 5 = ((a + r : Nat) : Int) ∧ (r ≤ 4 → g 146 6 = zy_nv T a r) ∧ g 146 12 = (if lx = -1 ∧ 4 < r then ((a + 4 : Nat) : Int) else lx)) := by
          refine zt_l e_159_293 ?_
          rw [show ((a + j : Nat) : Int) + 1 = ((a + (j + 1) : Nat) : Int) by omega, show (j : Int) + 1 = ((j + 1 : Nat) : Int) by omega]
          refine zt_p (fun c => zt_f (by decide) ?_) (fun c => zt_c (by omega) (zt_c (by omega) (i' k' (by omega) f' (fun s => by omega) q12)))
          have hb := zy_nv_b (T := T) (a := a) j (by omega) (fun i hi => (hin i (by omega)).2)
          rw [q6 (by omega), hTk'.2.2.2 _ i1]
          have ev : 10 * zy_nv T a j + T (a + j) - 48 = zy_nv T a (j + 1) := by
            show _ = zy_nv T a j * 10 + (T (a + j) - 48); omega
          refine zt_c (by omega) (zt_c (by omega) (zt_c (by omega) (zt_c (by omega) (zt_c (by omega) (zt_c (by omega) ?_)))))
          rw [ev]
          exact i' _ (by omega) (zq_F_tr f' (zq_F_wr ⟨rfl, by omega⟩)) (fun _ => zq_wr_e) (by rw [zq_wr_i (by decide)]; exact q12)
        exact zt_l e_159_263 (zt_p (fun c => zt_t rfl go) (fun c => go))
      refine zt_l e_159_204 ?_
      rw [hTk.2.2.1]
      refine zt_t (by omega) (zt_t rfl (zt_c (by omega) (zt_I (s_161 _) ?_)))
      rintro z g ⟨rfl, rfl⟩
      rw [hTk.2.2.2 _ i1, if_pos (show 48 ≤ T (a + j) ∧ T (a + j) ≤ 57 from ⟨i2, i3⟩)]
      refine zt_f (by decide) (zt_l e_159_243 (zt_p (fun c6 => ?_) (fun c6 => ?_)))
      · rw [k12]
        by_cases hl : lx = -1
        · rw [if_neg (show ¬ (lx = -1 ∧ 4 < j) by omega)]
          refine zt_t hl (digit _ (zq_F_tr fk (zq_F_wr ⟨rfl, by omega⟩)) (fun s => by rw [zq_wr_i (by decide)]; exact k6 s) ?_)
          rw [zq_wr_e, if_pos (show lx = -1 ∧ 4 < j + 1 by omega)]; omega
        · rw [if_neg (show ¬ (lx = -1 ∧ 4 < j) from fun s => hl s.1)]
          refine zt_f hl (digit _ fk k6 ?_)
          rw [k12, if_neg (show ¬ (lx = -1 ∧ 4 < j) from fun s => hl s.1), if_neg (show ¬ (lx = -1 ∧ 4 < j + 1) from fun s => hl s.1)]
      · refine digit _ fk k6 ?_
        rw [k12]
        by_cases hl : lx = -1 ∧ 4 < j
        · rw [if_pos hl, if_pos ⟨hl.1, by omega⟩]
        · rw [if_neg hl, if_neg (show ¬ (lx = -1 ∧ 4 < j + 1) from fun s => hl ⟨s.1, by omega⟩)]
  exact key r 0 h (by omega) zq_F_rf (fun _ => h6) (by rw [if_neg (fun s => by omega)]; exact h12)
end
