/-! THE REFERENCE'S SCANNER: ahead -/
section
variable {h : zm_H} {T : Nat → Int} {n : Nat}
theorem s_159 {q : Nat} {gl : Bool} (hT : zy_RT h T n) (hq : q ≤ n) (h5 : h 146 5 = q) (hg : zy_gl T q gl) : zu (zc 159 [zm_A 146] h) (fun g => zq_F zf_Sr h g ∧ zy_R g T n q gl) := by
  have hn16 := hT.1
  obtain ⟨a, ha⟩ : ∃ a, a = zy_at T n q := ⟨_, rfl⟩
  have han : a ≤ n := by rw [ha]; exact (zy_sk_le T n (n - q) q).2 hq
  have hqa : q ≤ a := by rw [ha]; exact (zy_sk_le T n (n - q) q).1
  -- a word or number, from 176 on
  have wl : ∀ (k : zm_H) (lx : Int) (w4 w5 : zm_V), a < n → (97 ≤ T a ∧ T a ≤ 122) → zq_F zf_Sr h k → k 146 4 = a → lx = (if gl = true ∧ a = q then (a : Int) else -1) → k 146 12 = lx → k 146 7 = 0 → zu (zr none 2 159 176 [zm_A 146, zm_I a, zm_I 1, zm_I 0, w4, w5] [] k) (fun g => zq_F zf_Sr h g ∧ zy_R g T n q gl) := by
    intro k lx w4 w5 hna hl fk k4 hlx k12 k7
    have hTk := hT.kp fk
    have f3 : zq_F zf_Sr k (zm_wr k 146 3 1) := zq_F_wr ⟨rfl, by omega⟩
    refine zt_l e_159_176 (zt_f (by decide) (zt_f (by decide) (zu_m (s_159_L (lx := lx) (hTk.kp f3) hna (by rw [hlx]; split <;> omega) (by rw [zq_wr_i (by decide)]; exact k7) (by rw [zq_wr_i (by decide)]; exact k12)) (fun g r => ?_))))
    obtain ⟨fr, r5, r7, r12⟩ := r
    have ety : zy_ty T n q gl = if (gl = true ∧ a = q) ∨ 6 < zy_lr T n a then 4 else 1 := by unfold zy_ty; rw [if_neg (by omega), if_pos (by rw [← ha]; omega), ← ha]
    have ebd : zy_bd T n q gl = if gl = true ∧ a = q then a else if 6 < zy_lr T n a then a + 6 else a := by unfold zy_bd; rw [if_neg (by omega), if_pos (by rw [← ha]; omega), ← ha]
    have een : zy_en T n q = a + zy_lr T n a := by unfold zy_en; rw [if_neg (by omega), if_pos (by rw [← ha]; omega), ← ha]
    refine ⟨zq_F_tr fk (zq_F_tr f3 (zq_F_wk fr (fun a i s => by unfold zf_Sr; omega))), ?_⟩
    unfold zy_R
    rw [ety, ebd]
    refine ⟨by rw [fr 146 4 (by omega), zq_wr_i (by decide), ← ha]; exact k4, fun e => ?_, fun e => ?_, fun e => ?_, fun e => ?_, fun e => ?_⟩
    · rw [r12, hlx]
      by_cases s : gl = true ∧ a = q
      · rw [if_pos s, if_pos s, if_neg (show ¬ ((a : Int) = -1 ∧ 6 < zy_lr T n a) by omega)]
      · rw [if_neg s, if_neg s]
        have h6 : 6 < zy_lr T n a := Classical.byContradiction (fun h6 => by rw [if_neg (fun r => r.elim s h6)] at e; cases e)
        rw [if_pos ⟨rfl, h6⟩, if_pos h6]
    · have s : ¬ ((gl = true ∧ a = q) ∨ 6 < zy_lr T n a) := fun s => e (if_pos s)
      rw [if_neg s]
      refine ⟨?_, by rw [fr 146 3 (by omega), zq_wr_e]; rfl, by rw [een]; exact r5⟩
      rw [r12, hlx, if_neg (show ¬ (gl = true ∧ a = q) from fun r => s (Or.inl r)), if_neg (fun r => s (Or.inr r.2))]
    · have s : ¬ ((gl = true ∧ a = q) ∨ 6 < zy_lr T n a) := fun s => by rw [if_pos s] at e; cases e
      unfold zy_ls
      rw [← ha]
      exact r7 (Classical.byContradiction (fun r => s (Or.inr (by omega))))
    · exfalso; split at e <;> cases e
    · exfalso; split at e <;> cases e
  have wd : ∀ (k : zm_H) (lx : Int) (w4 w5 : zm_V), a < n → (48 ≤ T a ∧ T a ≤ 57) → zq_F zf_Sr h k → k 146 4 = a → lx = (if gl = true ∧ a = q then (a : Int) else -1) → k 146 12 = lx → k 146 6 = 0 → zu (zr none 2 159 176 [zm_A 146, zm_I a, zm_I 0, zm_I 1, w4, w5] [] k) (fun g => zq_F zf_Sr h g ∧ zy_R g T n q gl) := by
    intro k lx w4 w5 hna hl fk k4 hlx k12 k6
    have hTk := hT.kp fk
    have f3 : zq_F zf_Sr k (zm_wr k 146 3 2) := zq_F_wr ⟨rfl, by omega⟩
    refine zt_l e_159_176 (zt_t rfl (zt_t rfl (zu_m (s_159_D (lx := lx) (hTk.kp f3) hna (by rw [hlx]; split <;> omega) (by rw [zq_wr_i (by decide)]; exact k6) (by rw [zq_wr_i (by decide)]; exact k12)) (fun g r => ?_))))
    obtain ⟨fr, r5, r6, r12⟩ := r
    have ety : zy_ty T n q gl = if (gl = true ∧ a = q) ∨ 4 < zy_dr T n a then 4 else 2 := by unfold zy_ty; rw [if_neg (by omega), if_neg (by rw [← ha]; omega), if_pos (by rw [← ha]; omega), ← ha]
    have ebd : zy_bd T n q gl = if gl = true ∧ a = q then a else if 4 < zy_dr T n a then a + 4 else a := by unfold zy_bd; rw [if_neg (by omega), if_neg (by rw [← ha]; omega), if_pos (by rw [← ha]; omega), ← ha]
    have een : zy_en T n q = a + zy_dr T n a := by unfold zy_en; rw [if_neg (by omega), if_neg (by rw [← ha]; omega), if_pos (by rw [← ha]; omega), ← ha]
    refine ⟨zq_F_tr fk (zq_F_tr f3 (zq_F_wk fr (fun a i s => by unfold zf_Sr; omega))), ?_⟩
    unfold zy_R
    rw [ety, ebd]
    refine ⟨by rw [fr 146 4 (by omega), zq_wr_i (by decide), ← ha]; exact k4, fun e => ?_, fun e => ?_, fun e => ?_, fun e => ?_, fun e => ?_⟩
    · rw [r12, hlx]
      by_cases s : gl = true ∧ a = q
      · rw [if_pos s, if_pos s, if_neg (show ¬ ((a : Int) = -1 ∧ 4 < zy_dr T n a) by omega)]
      · rw [if_neg s, if_neg s]
        have h6 : 4 < zy_dr T n a := Classical.byContradiction (fun h6 => by rw [if_neg (fun r => r.elim s h6)] at e; cases e)
        rw [if_pos ⟨rfl, h6⟩, if_pos h6]
    · have s : ¬ ((gl = true ∧ a = q) ∨ 4 < zy_dr T n a) := fun s => e (if_pos s)
      rw [if_neg s]
      refine ⟨?_, by rw [fr 146 3 (by omega), zq_wr_e]; rfl, by rw [een]; exact r5⟩
      rw [r12, hlx, if_neg (show ¬ (gl = true ∧ a = q) from fun r => s (Or.inl r)), if_neg (fun r => s (Or.inr r.2))]
    · exfalso; split at e <;> cases e
    · have s : ¬ ((gl = true ∧ a = q) ∨ 4 < zy_dr T n a) := fun s => by rw [if_pos s] at e; cases e
      unfold zy_nu
      rw [← ha]
      exact r6 (Classical.byContradiction (fun r => s (Or.inr (by omega))))
    · exfalso; split at e <;> cases e
  -- from 135 on
  have c135 : ∀ (k : zm_H) (w4 w5 : zm_V), a < n → zq_F zf_Sr h k → k 146 4 = a → k 146 12 = (if gl = true ∧ a = q ∧ ((97 ≤ T a ∧ T a ≤ 122) ∨ (48 ≤ T a ∧ T a ≤ 57)) then (a : Int) else -1) → zu (zr none 2 159 135 [zm_A 146, zm_I a, zm_I (if 97 ≤ T a ∧ T a ≤ 122 then 1 else 0), zm_I (if 48 ≤ T a ∧ T a ≤ 57 then 1 else 0), w4, w5] [] k) (fun g => zq_F zf_Sr h g ∧ zy_R g T n q gl) := by
    intro k w4 w5 hna fk k4 k12
    refine zt_l e_159_135 (zt_c (by omega) ?_)
    generalize hk1 : zm_wr (zm_wr (zm_wr (zm_wr k 146 6 0) 146 7 0) 146 3 3) 146 5 ((a : Int) + 1) = k1
    have f1 : zq_F zf_Sr h k1 := by
      rw [← hk1]
      exact zq_F_tr fk (zq_F_tr (zq_F_wr ⟨rfl, by omega⟩) (zq_F_tr (zq_F_wr ⟨rfl, by omega⟩) (zq_F_tr (zq_F_wr ⟨rfl, by omega⟩) (zq_F_wr ⟨rfl, by omega⟩))))
    have g4 : k1 146 4 = a := by rw [← hk1, zq_wr_i (by decide), zq_wr_i (by decide), zq_wr_i (by decide), zq_wr_i (by decide)]; exact k4
    have g12 : k1 146 12 = k 146 12 := by rw [← hk1, zq_wr_i (by decide), zq_wr_i (by decide), zq_wr_i (by decide), zq_wr_i (by decide)]
    have g6 : k1 146 6 = 0 := by rw [← hk1, zq_wr_i (by decide), zq_wr_i (by decide), zq_wr_i (by decide), zq_wr_e]
    have g7 : k1 146 7 = 0 := by rw [← hk1, zq_wr_i (by decide), zq_wr_i (by decide), zq_wr_e]
    have g3 : k1 146 3 = 3 := by rw [← hk1, zq_wr_i (by decide), zq_wr_e]
    have g5 : k1 146 5 = (a : Int) + 1 := by rw [← hk1, zq_wr_e]
    clear hk1
    by_cases hl : 97 ≤ T a ∧ T a ≤ 122
    · have hd : ¬ (48 ≤ T a ∧ T a ≤ 57) := by omega
      rw [if_pos hl, if_neg hd]
      refine zt_f (by decide) (wl k1 _ w4 w5 hna hl f1 g4 rfl ?_ g7)
      rw [g12, k12]
      by_cases s : gl = true ∧ a = q
      · rw [if_pos s, if_pos ⟨s.1, s.2, Or.inl hl⟩]
      · rw [if_neg s, if_neg (fun r => s ⟨r.1, r.2.1⟩)]
    · rw [if_neg hl]
      refine zt_t rfl ?_
      by_cases hd : 48 ≤ T a ∧ T a ≤ 57
      · rw [if_pos hd]
        refine zt_f (by decide) (wd k1 _ w4 w5 hna hd f1 g4 rfl ?_ g6)
        rw [g12, k12]
        by_cases s : gl = true ∧ a = q
        · rw [if_pos s, if_pos ⟨s.1, s.2, Or.inr hd⟩]
        · rw [if_neg s, if_neg (fun r => s ⟨r.1, r.2.1⟩)]
      · rw [if_neg hd]
        refine zt_t rfl (zt_c (by omega) ?_)
        rw [(hT.kp f1).2.2.2 a hna]
        have ety : zy_ty T n q gl = 3 := by unfold zy_ty; rw [if_neg (by omega), if_neg (by rw [← ha]; omega), if_neg (by rw [← ha]; omega)]
        have een : zy_en T n q = a + 1 := by unfold zy_en; rw [if_neg (by omega), if_neg (by rw [← ha]; omega), if_neg (by rw [← ha]; omega), ← ha]
        refine zu_e ⟨zq_F_tr f1 (zq_F_wr ⟨rfl, by omega⟩), ?_⟩
        unfold zy_R
        rw [ety]
        refine ⟨by rw [zq_wr_i (by decide), ← ha]; exact g4, fun e => absurd e (by decide), fun _ => ⟨?_, ?_, ?_⟩, fun e => absurd e (by decide), fun e => absurd e (by decide), fun _ => ?_⟩
        · rw [zq_wr_i (by decide), g12, k12, if_neg (fun r => r.2.2.elim hl hd)]
        · rw [zq_wr_i (by decide), g3]; rfl
        · rw [zq_wr_i (by decide), g5, een]; omega
        · rw [zq_wr_e, ← ha]
  -- from 98 on: is there a word or number right ahead?
  have c98 : ∀ (k : zm_H) (w4 w5 : zm_V), a < n → ((97 ≤ T a ∧ T a ≤ 122) ∨ (48 ≤ T a ∧ T a ≤ 57)) → zq_F zf_Sr h k → k 146 4 = a → k 146 12 = -1 → zu (zr none 2 159 98 [zm_A 146, zm_I a, zm_I (if 97 ≤ T a ∧ T a ≤ 122 then 1 else 0), zm_I (if 48 ≤ T a ∧ T a ≤ 57 then 1 else 0), w4, w5] [] k) (fun g => zq_F zf_Sr h g ∧ zy_R g T n q gl) := by
    intro k w4 w5 hna hw fk k4 k12
    have hTk := hT.kp fk
    have no : ¬ (gl = true ∧ a = q) → zu (zr none 2 159 135 [zm_A 146, zm_I a, zm_I (if 97 ≤ T a ∧ T a ≤ 122 then 1 else 0), zm_I (if 48 ≤ T a ∧ T a ≤ 57 then 1 else 0), w4, w5] [] k) (fun g => zq_F zf_Sr h g ∧ zy_R g T n q gl) := fun s =>
      c135 k w4 w5 hna fk k4 (by rw [if_neg (fun r => s ⟨r.1, r.2.1⟩)]; exact k12)
    have yes : (gl = true ∧ a = q) → zu (zr none 2 159 130 [zm_A 146, zm_I a, zm_I (if 97 ≤ T a ∧ T a ≤ 122 then 1 else 0), zm_I (if 48 ≤ T a ∧ T a ≤ 57 then 1 else 0), w4, w5] [] k) (fun g => zq_F zf_Sr h g ∧ zy_R g T n q gl) := fun s =>
      zt_l e_159_130 (c135 _ w4 w5 hna (zq_F_tr fk (zq_F_wr ⟨rfl, by omega⟩)) (by rw [zq_wr_i (by decide)]; exact k4) (by rw [zq_wr_e, if_pos ⟨s.1, s.2, hw⟩]))
    -- what lies ahead of a
    have prev : 0 < a → (((97 ≤ T (a - 1) ∧ T (a - 1) ≤ 122) ∨ (48 ≤ T (a - 1) ∧ T (a - 1) ≤ 57)) ↔ (gl = true ∧ a = q)) := by
      intro h0
      by_cases e : a = q
      · rw [e]
        exact ⟨fun r => ⟨hg.mpr ⟨by omega, r⟩, rfl⟩, fun r => (hg.mp r.1).2⟩
      · have := zy_sk_b T n (n - q) q (by omega) (show q < zy_sk T n (n - q) q by have : a = zy_sk T n (n - q) q := ha; omega)
        rw [show zy_sk T n (n - q) q = a from ha.symm] at this
        exact ⟨fun r => by omega, fun r => absurd r.2 e⟩
    refine zt_l e_159_98 (zt_p (fun c0 => no (fun s => ?_)) (fun c0 => ?_))
    · have := hg.mp s.1; omega
    · have p1 : (a : Int) - 1 = ((a - 1 : Nat) : Int) := by omega
      rw [p1, hTk.2.2.2 (a - 1) (by omega)]
      have pr := prev (by omega)
      refine zt_c (by omega) (zt_c (by omega) (zt_I (s_160 _) ?_))
      rintro z g ⟨rfl, rfl⟩
      by_cases s1 : 97 ≤ T (a - 1) ∧ T (a - 1) ≤ 122
      · rw [if_pos s1]
        exact zt_f (by decide) (yes (pr.mp (Or.inl s1)))
      · rw [if_neg s1]
        refine zt_t rfl (zt_c (by omega) (zt_c (by omega) ?_))
        rw [hTk.2.2.2 (a - 1) (by omega)]
        refine zt_I (s_161 _) ?_
        rintro z g ⟨rfl, rfl⟩
        by_cases s2 : 48 ≤ T (a - 1) ∧ T (a - 1) ≤ 57
        · rw [if_pos s2]
          exact zt_f (by decide) (yes (pr.mp (Or.inr s2)))
        · rw [if_neg s2]
          exact zt_t rfl (no (fun r => (pr.mpr r).elim s1 s2))
  have c41 : ∀ (w2 w3 w4 w5 : zm_V), zu (zr none 2 159 41 [zm_A 146, zm_I a, w2, w3, w4, w5] [] h) (fun g => zq_F zf_Sr h g ∧ zy_R g T n q gl) := by
    intro w2 w3 w4 w5
    refine zt_l e_159_41 ?_
    generalize hk1 : zm_wr (zm_wr (zm_wr (zm_wr h 146 4 (a : Int)) 146 5 (a : Int)) 146 3 0) 146 12 (-1) = k1
    have f1 : zq_F zf_Sr h k1 := by
      rw [← hk1]
      exact zq_F_tr (zq_F_wr ⟨rfl, by omega⟩) (zq_F_tr (zq_F_wr ⟨rfl, by omega⟩) (zq_F_tr (zq_F_wr ⟨rfl, by omega⟩) (zq_F_wr ⟨rfl, by omega⟩)))
    have g4 : k1 146 4 = a := by rw [← hk1, zq_wr_i (by decide), zq_wr_i (by decide), zq_wr_i (by decide), zq_wr_e]
    have g5 : k1 146 5 = a := by rw [← hk1, zq_wr_i (by decide), zq_wr_i (by decide), zq_wr_e]
    have g3 : k1 146 3 = 0 := by rw [← hk1, zq_wr_i (by decide), zq_wr_e]
    have g12 : k1 146 12 = -1 := by rw [← hk1, zq_wr_e]
    clear hk1
    have hT1 := hT.kp f1
    rw [hT1.2.2.1]
    refine zt_p (fun c0 => ?_) (fun c0 => ?_)
    · have hna : a < n := by omega
      rw [hT1.2.2.2 a hna]
      refine zt_c (by omega) (zt_I (s_160 _) ?_)
      rintro z g ⟨rfl, rfl⟩
      rw [hT1.2.2.2 a hna]
      refine zt_c (by omega) (zt_I (s_161 _) ?_)
      rintro z g ⟨rfl, rfl⟩
      refine zt_p (fun c1 => zt_p (fun c2 => c135 _ w4 w5 hna f1 g4 ?_) (fun c2 => c98 _ w4 w5 hna ?_ f1 g4 g12)) (fun c1 => c98 _ w4 w5 hna ?_ f1 g4 g12)
      · rw [g12, if_neg]
        rintro ⟨-, -, r | r⟩
        · rw [if_pos r] at c1; omega
        · rw [if_pos r] at c2; omega
      · exact Or.inr (Classical.byContradiction (fun r => by rw [if_neg r] at c2; exact c2 rfl))
      · exact Or.inl (Classical.byContradiction (fun r => by rw [if_neg r] at c1; exact c1 rfl))
    · have ety : zy_ty T n q gl = 0 := by unfold zy_ty; rw [if_pos (by omega)]
      have een : zy_en T n q = a := by unfold zy_en; rw [if_pos (by omega)]; exact ha.symm
      refine zu_e ⟨f1, ?_⟩
      unfold zy_R
      rw [ety]
      exact ⟨by rw [← ha]; exact g4, fun e => absurd e (by decide), fun _ => ⟨g12, by rw [g3]; rfl, by rw [een]; exact g5⟩, fun e => absurd e (by decide), fun e => absurd e (by decide), fun e => absurd e (by decide)⟩
  have skip : ∀ (m p : Nat) (w2 w3 w4 w5 : zm_V), p + m = n → zy_sk T n m p = a → zu (zr none 2 159 5 [zm_A 146, zm_I p, w2, w3, w4, w5] [] h) (fun g => zq_F zf_Sr h g ∧ zy_R g T n q gl) := by
    intro m
    induction m with
    | zero =>
      intro p w2 w3 w4 w5 hp hs
      obtain rfl : p = a := hs
      refine zt_l e_159_5 ?_
      rw [hT.2.2.1]
      exact zt_f (by omega) (c41 w2 w3 w4 w5)
    | succ m ih =>
      intro p w2 w3 w4 w5 hp hs
      unfold zy_sk at hs
      refine zt_l e_159_5 ?_
      rw [hT.2.2.1, hT.2.2.2 p (by omega), show (p : Int) + 1 = ((p + 1 : Nat) : Int) by omega]
      refine zt_t (by omega) (zt_c (by omega) (zt_p (fun c1 => ?_) (fun c1 => zt_c (by omega) (zt_p (fun c2 => ?_) (fun c2 => ?_)))))
      · rw [if_pos ⟨by omega, Or.inr c1⟩] at hs
        exact zt_c (by omega) (ih (p + 1) w2 w3 w4 w5 (by omega) hs)
      · rw [if_pos ⟨by omega, Or.inl c2⟩] at hs
        exact zt_c (by omega) (ih (p + 1) w2 w3 w4 w5 (by omega) hs)
      · rw [if_neg (fun s => s.2.elim c2 c1)] at hs
        subst hs
        exact c41 w2 w3 w4 w5
  refine zt_l e_159 ?_
  rw [h5]
  exact skip (n - q) q _ _ _ _ (by omega) ha.symm
end
