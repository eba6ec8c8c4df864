/-! RECKONING, the reference -/
def zp_cr (n s v : Int) : Prop := (0 ≤ n ∧ s = 0 ∧ v = n) ∨ (n = 1 ∧ s = 9) ∨ (-6 ≤ n ∧ n ≤ -1 ∧ s = -n) ∨ (-20 ≤ n ∧ n ≤ -11 ∧ s = -n - 1) ∨ (n = -21 ∧ s = 22) ∨ (n = -22 ∧ s = 20) ∨ (n = -23 ∧ s = 21)
def zf_Ls (a : Nat) (_ : Int) : Prop := a = 184
section
variable {h : zm_H}
theorem s_212 {v : Int} : zj (zc 212 [zm_L v] h) (fun z g => z = zp_lim v ∧ g = h) := by
  unfold zp_lim
  exact zt_l e_212 (zt_p (fun q => zt_p (fun q2 => zj_e ⟨by omega, rfl⟩) (fun q2 => zj_e ⟨by omega, rfl⟩)) (fun q => zj_e ⟨by omega, rfl⟩))
theorem s_213 {a b : Int} (ha : zp_mil a) (hb : zp_mil b) : zj (zc 213 [zm_L a, zm_L b] h) (fun z g => z = (if b = 0 then 0 else a.fdiv b) ∧ g = h) := by
  have h1 := zp_tdiv_b (b := b) ha
  have h2 : zm_i64 (a.tmod b) := by
    have h3 := Int.natAbs_tmod a b
    have h4 := Nat.mod_le a.natAbs b.natAbs
    omega
  refine zt_l e_213 ?_
  by_cases h0 : b = 0
  · exact zt_t (by omega) (zj_e ⟨by rw [if_pos h0], rfl⟩)
  · have e : (if b = 0 then 0 else a.fdiv b) = (if a.tmod b = 0 then a.tdiv b else if (a < 0 ∧ 0 < b) ∨ (0 ≤ a ∧ b < 0) then a.tdiv b - 1 else a.tdiv b) := by rw [if_neg h0, zp_fd h0]
    refine zt_f (by omega) (zt_c ⟨h0, by omega⟩ (zt_c ⟨h0, by omega, h2⟩ ?_))
    refine zt_p (fun q => zj_e ⟨by rw [e, if_pos (by omega)], rfl⟩) (fun q => ?_)
    refine zt_p (fun q1 => ?_) (fun q1 => ?_)
    · refine zt_p (fun q2 => ?_) (fun q2 => ?_)
      · exact zt_t rfl (zj_e ⟨by rw [e, if_neg (by omega), if_neg (by omega)], rfl⟩)
      · exact zt_f (by decide) (zt_c (by omega) (zj_e ⟨by rw [e, if_neg (by omega), if_pos (by omega)], rfl⟩))
    · refine zt_p (fun q2 => ?_) (fun q2 => ?_)
      · exact zt_f (by decide) (zt_c (by omega) (zj_e ⟨by rw [e, if_neg (by omega), if_pos (by omega)], rfl⟩))
      · exact zt_t rfl (zj_e ⟨by rw [e, if_neg (by omega), if_neg (by omega)], rfl⟩)
theorem s_211 {n s w a b v : Int} (hc : zp_cr n s w) (ha : zp_mil a) (hb : zp_mil b) (ho : zp_op n a b = some v) : zj (zc 211 [zm_I s, zm_L a, zm_L b] h) (fun z g => z = v ∧ g = h) := by
  have hm' : zm_i64 (a * b) := by
    have h3 : (a * b).natAbs = a.natAbs * b.natAbs := Int.natAbs_mul a b
    have h4 : a.natAbs * b.natAbs ≤ 1000000 * 1000000 := Nat.mul_le_mul (by omega) (by omega)
    omega
  refine zt_l e_211 ?_
  unfold zp_op at ho
  by_cases c1 : n = -11
  · obtain rfl : s = 10 := by unfold zp_cr at hc; omega
    subst c1
    simp only [Int.reduceNeg, Int.reduceEq, if_false, if_true] at ho ⊢
    cases ho
    exact zt_c (by omega) (zt_L s_212 (by rintro z g ⟨rfl, rfl⟩; exact zj_e ⟨rfl, rfl⟩))
  by_cases c2 : n = -12
  · obtain rfl : s = 11 := by unfold zp_cr at hc; omega
    subst c2
    simp only [Int.reduceNeg, Int.reduceEq, if_false, if_true] at ho ⊢
    cases ho
    exact zt_c (by omega) (zt_L s_212 (by rintro z g ⟨rfl, rfl⟩; exact zj_e ⟨rfl, rfl⟩))
  by_cases c3 : n = -13
  · obtain rfl : s = 12 := by unfold zp_cr at hc; omega
    subst c3
    simp only [Int.reduceNeg, Int.reduceEq, if_false, if_true] at ho ⊢
    cases ho
    exact zt_c hm' (zt_L s_212 (by rintro z g ⟨rfl, rfl⟩; exact zj_e ⟨rfl, rfl⟩))
  have hlim : ∀ x : Int, zp_mil x → zp_lim x = x := fun x hx => by unfold zp_lim; omega
  by_cases c4 : n = -14
  · obtain rfl : s = 13 := by unfold zp_cr at hc; omega
    subst c4
    simp only [Int.reduceNeg, Int.reduceEq, if_false, if_true] at ho ⊢
    cases ho
    refine zt_L (s_213 ha hb) ?_
    rintro z g ⟨rfl, rfl⟩
    refine zt_L s_212 ?_
    rintro z g ⟨rfl, rfl⟩
    refine zj_e ⟨hlim _ ?_, rfl⟩
    split
    · omega
    · exact zp_fdiv_b ha
  by_cases c5 : n = -15
  · obtain rfl : s = 14 := by unfold zp_cr at hc; omega
    subst c5
    simp only [Int.reduceNeg, Int.reduceEq, if_false, if_true] at ho ⊢
    cases ho
    refine zt_p (fun q => zj_e ⟨by rw [if_pos (by omega)], rfl⟩) (fun q => ?_)
    have hb0 : b ≠ 0 := by omega
    refine zt_L (s_213 ha hb) ?_
    rintro z g ⟨rfl, rfl⟩
    rw [if_neg hb0, if_neg hb0]
    have e := Int.fmod_def a b
    have bm := zp_fmod_b (a := a) hb0 hb
    refine zt_c (by omega) (zt_c (by omega) (zt_L s_212 ?_))
    rintro z g ⟨rfl, rfl⟩
    refine zj_e ⟨?_, rfl⟩
    rw [← e]
    exact hlim _ bm
  by_cases c6 : n = -16
  · obtain rfl : s = 15 := by unfold zp_cr at hc; omega
    subst c6
    simp only [Int.reduceNeg, Int.reduceEq, if_false, if_true] at ho ⊢
    cases ho
    exact zt_p (fun q => zj_e ⟨by omega, rfl⟩) (fun q => zj_e ⟨by omega, rfl⟩)
  by_cases c7 : n = -17
  · obtain rfl : s = 16 := by unfold zp_cr at hc; omega
    subst c7
    simp only [Int.reduceNeg, Int.reduceEq, if_false, if_true] at ho ⊢
    cases ho
    exact zt_p (fun q => zj_e ⟨by omega, rfl⟩) (fun q => zj_e ⟨by omega, rfl⟩)
  by_cases c8 : n = -18
  · obtain rfl : s = 17 := by unfold zp_cr at hc; omega
    subst c8
    simp only [Int.reduceNeg, Int.reduceEq, if_false, if_true] at ho ⊢
    cases ho
    exact zt_p (fun q => zj_e ⟨by rw [if_pos (by omega)], rfl⟩) (fun q => zj_e ⟨by rw [if_neg (by omega)], rfl⟩)
  by_cases c9 : n = -19
  · obtain rfl : s = 18 := by unfold zp_cr at hc; omega
    subst c9
    simp only [Int.reduceNeg, Int.reduceEq, if_false, if_true] at ho ⊢
    cases ho
    exact zt_p (fun q => zj_e ⟨by rw [if_neg (by omega)], rfl⟩) (fun q => zj_e ⟨by rw [if_pos (by omega)], rfl⟩)
  by_cases c10 : n = -20
  · obtain rfl : s = 19 := by unfold zp_cr at hc; omega
    subst c10
    simp only [Int.reduceNeg, Int.reduceEq, if_false, if_true] at ho ⊢
    cases ho
    exact zt_p (fun q => zj_e ⟨by rw [if_pos (by omega)], rfl⟩) (fun q => zj_e ⟨by rw [if_neg (by omega)], rfl⟩)
  by_cases c11 : n = -22
  · obtain rfl : s = 20 := by unfold zp_cr at hc; omega
    subst c11
    simp only [Int.reduceNeg, Int.reduceEq, if_false, if_true] at ho ⊢
    split at ho
    · next q => cases ho; exact zj_e ⟨(zp_bits q.1 q.2).2.2.1, rfl⟩
    · cases ho
  by_cases c12 : n = -23
  · obtain rfl : s = 21 := by unfold zp_cr at hc; omega
    subst c12
    simp only [Int.reduceNeg, Int.reduceEq, if_false, if_true] at ho ⊢
    split at ho
    · next q => cases ho; exact zj_e ⟨(zp_bits q.1 q.2).2.2.2, rfl⟩
    · cases ho
  rw [if_neg c1, if_neg c2, if_neg c3, if_neg c4, if_neg c5, if_neg c6, if_neg c7, if_neg c8, if_neg c9, if_neg c10, if_neg c11, if_neg c12] at ho
  cases ho
theorem s_210 {en : Nat → Int} {n s w : Int} (hen : ∀ w : Nat, w < 6 → h 146 ((60 + w : Nat) : Int) = en w) (hc : zp_cr n s w) (hn : -6 ≤ n) : zj (zc 210 [zm_A 146, zm_I s, zm_I w] h) (fun z g => z = (if 0 ≤ n then n else en (-1 - n).toNat) ∧ g = h) := by
  refine zt_l e_210 ?_
  unfold zp_cr at hc
  refine zt_p (fun q => zj_e ⟨by rw [if_pos (by omega)]; omega, rfl⟩) (fun q => ?_)
  by_cases h0 : 0 ≤ n
  · rw [if_pos h0]
    exact zt_f (by omega) (zt_f (by omega) (zt_f (by omega) (zt_f (by omega) (zt_f (by omega) (zt_f (by omega) (zj_e ⟨by omega, rfl⟩))))))
  · rw [if_neg h0]
    have hs : s = -n := by omega
    refine zt_p (fun q1 => zj_e ⟨?_, rfl⟩) (fun q1 => ?_)
    · rw [show (-1 - n).toNat = 0 by omega]; exact hen 0 (by omega)
    refine zt_p (fun q2 => zj_e ⟨?_, rfl⟩) (fun q2 => ?_)
    · rw [show (-1 - n).toNat = 1 by omega]; exact hen 1 (by omega)
    refine zt_p (fun q3 => zj_e ⟨?_, rfl⟩) (fun q3 => ?_)
    · rw [show (-1 - n).toNat = 2 by omega]; exact hen 2 (by omega)
    refine zt_p (fun q4 => zj_e ⟨?_, rfl⟩) (fun q4 => ?_)
    · rw [show (-1 - n).toNat = 3 by omega]; exact hen 3 (by omega)
    refine zt_p (fun q5 => zj_e ⟨?_, rfl⟩) (fun q5 => ?_)
    · rw [show (-1 - n).toNat = 4 by omega]; exact hen 4 (by omega)
    refine zt_t (by omega) (zj_e ⟨?_, rfl⟩)
    rw [show (-1 - n).toNat = 5 by omega]; exact hen 5 (by omega)
theorem s_209 {b : Nat} {cd en : Nat → Int} {f n : Nat} {v0 : Int} (hb : b < 2) (h13 : h 146 13 = b) (hfn : f + n ≤ 1600) (hcd : ∀ i : Nat, f ≤ i → i < f + n → zp_cr (cd i) (h 163 ((1600 * b + i : Nat) : Int)) (h 164 ((1600 * b + i : Nat) : Int))) (hen : ∀ w : Nat, w < 6 → h 146 ((60 + w : Nat) : Int) = en w) (he : ∀ w, w < 6 → zp_mil (en w)) (hr : zp_run cd en f n [] = some [v0]) {x1 x2 : Int} (hx1 : x1 = f) (hx2 : x2 = ((f + n : Nat) : Int)) : zj (zc 209 [zm_A 146, zm_I x1, zm_I x2] h) (fun z g => z = v0 ∧ zq_F zf_Ls h g) := by
  subst hx1
  subst hx2
  have key : ∀ (m i : Nat) (st : List Int) (g : zm_H) (w5 : zm_V), i + m = f + n → f ≤ i → zp_run cd en i m st = some [v0] → st.length ≤ 60 → (∀ v ∈ st, zp_mil v) → zp_mem (g 184) st → zq_F zf_Ls h g →
      zj (zr none 3 209 14 [zm_A 146, zm_I f, zm_I ((f + n : Nat) : Int), zm_I st.length, zm_I ((1600 * b + i : Nat) : Int), w5] [] g) (fun z g => z = v0 ∧ zq_F zf_Ls h g) := by
    intro m
    induction m with
    | zero =>
      intro i st g w5 hi hfi hr hl hv hm hg
      cases hr
      have g13 : g 146 13 = b := by rw [hg 146 13 (by unfold zf_Ls; omega)]; exact h13
      refine zt_l e_209_14 ?_
      rw [g13]
      exact zt_c (by omega) (zt_c (by omega) (zt_f (by omega) (zt_c (by omega) (zj_e ⟨hm.1, hg⟩))))
    | succ m ih =>
      intro i st g w5 hi hfi hr hl hv hm hg
      rw [zp_run] at hr
      cases ho : zp_one en (cd i) st with
      | none => rw [ho] at hr; cases hr
      | some st2 =>
        rw [ho] at hr
        have hr2 : zp_run cd en (i + 1) m st2 = some [v0] := hr
        have hb2 := zp_one_b he hv ho
        have g13 : g 146 13 = b := by rw [hg 146 13 (by unfold zf_Ls; omega)]; exact h13
        have hci : zp_cr (cd i) (g 163 ((1600 * b + i : Nat) : Int)) (g 164 ((1600 * b + i : Nat) : Int)) := by
          rw [hg 163 _ (by unfold zf_Ls; omega), hg 164 _ (by unfold zf_Ls; omega)]; exact hcd i hfi (by omega)
        have hen2 : ∀ w : Nat, w < 6 → g 146 ((60 + w : Nat) : Int) = en w := fun w hw => by rw [hg 146 _ (by unfold zf_Ls; omega)]; exact hen w hw
        refine zt_l e_209_14 ?_
        rw [g13]
        refine zt_c (by omega) (zt_c (by omega) (zt_t (by omega) (zt_c (by omega) ?_)))
        generalize hs : g 163 ((1600 * b + i : Nat) : Int) = s at hci
        generalize hw : g 164 ((1600 * b + i : Nat) : Int) = w at hci
        have en1 : ((1600 * b + i : Nat) : Int) + 1 = ((1600 * b + (i + 1) : Nat) : Int) := by omega
        rw [en1]
        unfold zp_one at ho
        by_cases c1 : -6 ≤ cd i
        · have hs9 : s ≤ 9 := by unfold zp_cr at hci; omega
          have ho2 : zp_psh (if 0 ≤ cd i then cd i else en (-1 - cd i).toNat) st = some st2 := by
            by_cases c0 : 0 ≤ cd i
            · rw [if_pos c0] at ho ⊢
              split at ho
              · exact ho
              · cases ho
            · rw [if_neg c0] at ho ⊢
              rw [if_pos c1] at ho
              exact ho
          unfold zp_psh at ho2
          split at ho2
          · next hl60 =>
            cases ho2
            refine zt_f (by omega) (zt_c (by omega) (zt_L (s_210 hen2 hci c1) ?_))
            rintro z g2 ⟨rfl, rfl⟩
            refine zt_c (by omega) (zt_c (by omega) (zt_c (by omega) ?_))
            have := ih (i + 1) _ (zm_wr g2 184 st.length (if 0 ≤ cd i then cd i else en (-1 - cd i).toNat)) (zm_I s) (by omega) (by omega) hr2 (hb2.2 hl) hb2.1 ⟨zq_wr_e, zp_mem_congr (fun j hj => zq_wr_i (by omega)) hm⟩ (zq_F_tr hg (zq_F_wr rfl))
            rw [show ((List.length ((if 0 ≤ cd i then cd i else en (-1 - cd i).toNat) :: st) : Nat) : Int) = (st.length : Int) + 1 by simp] at this
            exact this
          · cases ho2
        · rw [if_neg (by omega), if_neg c1] at ho
          have hs10 : 10 ≤ s := by
            by_cases c3 : cd i = -21
            · unfold zp_cr at hci; omega
            · rw [if_neg c3] at ho
              unfold zp_cr at hci; omega
          refine zt_t (by omega) ?_
          by_cases c3 : cd i = -21
          · rw [if_pos c3] at ho
            have hs22 : s = 22 := by unfold zp_cr at hci; omega
            refine zt_t hs22 ?_
            cases st with
            | nil => cases ho
            | cons a r =>
              dsimp only at ho
              split at ho
              · next hbit =>
                cases ho
                have ea : g 184 (r.length : Int) = a := hm.1
                have el : (((a :: r).length : Nat) : Int) - 1 = (r.length : Int) := by simp
                simp only [List.length_cons] at hl
                rw [el, ea]
                refine zt_c (by omega) (zt_c (by omega) (zt_c (by omega) (zt_c (by omega) (zt_c (by omega) (zt_c (by omega) ?_)))))
                exact ih (i + 1) ((1 - a) :: r) (zm_wr g 184 r.length (1 - a)) (zm_I s) (by omega) (by omega) hr2 (hb2.2 hl) hb2.1 ⟨zq_wr_e, zp_mem_congr (fun j hj => zq_wr_i (by omega)) hm.2⟩ (zq_F_tr hg (zq_F_wr rfl))
              · cases ho
          · rw [if_neg c3] at ho
            have hs22 : s ≠ 22 := by unfold zp_cr at hci; omega
            refine zt_f hs22 ?_
            match st, ho, hl, hv, hm with
            | [], ho, _, _, _ => cases ho
            | [_], ho, _, _, _ => cases ho
            | bb :: a :: r, ho, hl, hv, hm =>
              dsimp only at ho
              cases hop : zp_op (cd i) a bb with
              | none => rw [hop] at ho; cases ho
              | some v =>
                rw [hop] at ho; cases ho
                simp only [List.length_cons] at hl
                have el : (((bb :: a :: r).length : Nat) : Int) + (-1) = ((r.length + 1 : Nat) : Int) := by simp only [List.length_cons]; omega
                have el2 : ((r.length + 1 : Nat) : Int) - 1 = (r.length : Int) := by omega
                have eb : g 184 ((r.length + 1 : Nat) : Int) = bb := hm.1
                have ea : g 184 (r.length : Int) = a := hm.2.1
                rw [el, el2, ea, eb]
                refine zt_c (by omega) (zt_c (by omega) (zt_c (by omega) (zt_c (by omega) (zt_c (by omega) (zt_L (s_211 hci (hv a (List.mem_cons_of_mem _ List.mem_cons_self)) (hv bb List.mem_cons_self) hop) ?_)))))
                rintro z g2 ⟨rfl, rfl⟩
                refine zt_c (by omega) (zt_c (by omega) ?_)
                exact ih (i + 1) (z :: r) (zm_wr g2 184 r.length z) (zm_I s) (by omega) (by omega) hr2 (hb2.2 hl) hb2.1 ⟨zq_wr_e, zp_mem_congr (fun j hj => zq_wr_i (by omega)) hm.2.2⟩ (zq_F_tr hg (zq_F_wr rfl))
  refine zt_l e_209 ?_
  rw [h13]
  refine zt_c (by omega) (zt_c (by omega) ?_)
  have e0 : 1600 * (b : Int) + (f : Int) = ((1600 * b + f : Nat) : Int) := by omega
  rw [e0]
  exact key n f [] h zm_U (by omega) (by omega) hr (by simp) (fun v hv => absurd hv List.not_mem_nil) trivial zq_F_rf
end
