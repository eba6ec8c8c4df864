/-! RECKONING: a stack machine of plain numbers, and both sides -/
def zp_lim (v : Int) : Int := max (-1000000) (min 1000000 v)
def zp_op (n a b : Int) : Option Int :=
  if n = -11 then some (zp_lim (a + b)) else if n = -12 then some (zp_lim (a - b)) else if n = -13 then some (zp_lim (a * b))
  else if n = -14 then some (if b = 0 then 0 else a.fdiv b) else if n = -15 then some (if b = 0 then 0 else a.fmod b)
  else if n = -16 then some (min a b) else if n = -17 then some (max a b) else if n = -18 then some (if a < b then 1 else 0)
  else if n = -19 then some (if b < a then 1 else 0) else if n = -20 then some (if a = b then 1 else 0)
  else if n = -22 then (if zm_bit a ∧ zm_bit b then some (min a b) else none) else if n = -23 then (if zm_bit a ∧ zm_bit b then some (max a b) else none) else none
def zp_psh (v : Int) (st : List Int) : Option (List Int) := if st.length < 60 then some (v :: st) else none
def zp_one (en : Nat → Int) (n : Int) (st : List Int) : Option (List Int) :=
  if 0 ≤ n then (if n ≤ 9999 then zp_psh n st else none)
  else if -6 ≤ n then zp_psh (en (-1 - n).toNat) st
  else if n = -21 then (match st with | a :: r => if zm_bit a then some ((1 - a) :: r) else none | [] => none)
  else match st with | b :: a :: r => (zp_op n a b).map (· :: r) | _ => none
def zp_run (cd en : Nat → Int) : Nat → Nat → List Int → Option (List Int)
  | _, 0, st => some st
  | f, n + 1, st => (zp_one en (cd f) st).bind (zp_run cd en (f + 1) n)
def zp_mem (f : Int → Int) : List Int → Prop
  | [] => True
  | v :: r => f (r.length : Int) = v ∧ zp_mem f r
def zp_hd : List Int → Int
  | [] => 0
  | v :: _ => v
abbrev zp_mil (v : Int) : Prop := -1000000 ≤ v ∧ v ≤ 1000000
theorem zp_mem_congr {f g : Int → Int} : ∀ {st : List Int}, (∀ i : Nat, i < st.length → g i = f i) → zp_mem f st → zp_mem g st
  | [], _, _ => trivial
  | v :: r, h, q => ⟨by rw [h r.length (by simp)]; exact q.1, zp_mem_congr (fun i hi => h i (by simp only [List.length_cons]; omega)) q.2⟩
theorem zp_lim_b (v : Int) : zp_mil (zp_lim v) := by unfold zp_lim; omega
theorem zp_fdiv_b {a b : Int} (ha : zp_mil a) : zp_mil (a.fdiv b) := by
  have := Int.natAbs_fdiv_le_natAbs a b
  omega
theorem zp_fmod_b {a b : Int} (hb0 : b ≠ 0) (hb : zp_mil b) : zp_mil (a.fmod b) := by
  rcases Int.lt_or_gt_of_ne hb0 with h | h
  · have h1 : a.fmod b = -((-a).fmod (-b)) := by rw [Int.neg_fmod_neg]; omega
    have h2 := Int.fmod_nonneg_of_pos (-a) (b := -b) (by omega)
    have h3 := Int.fmod_lt_of_pos (-a) (b := -b) (by omega)
    omega
  · have h2 := Int.fmod_nonneg_of_pos a (b := b) h
    have h3 := Int.fmod_lt_of_pos a (b := b) h
    omega
theorem zp_op_b {n a b v : Int} (ha : zp_mil a) (hb : zp_mil b) (h : zp_op n a b = some v) : zp_mil v := by
  have h1 := zp_lim_b (a + b)
  have h2 := zp_lim_b (a - b)
  have h3 := zp_lim_b (a * b)
  have h4 := zp_fdiv_b (b := b) ha
  have h5 : b ≠ 0 → zp_mil (a.fmod b) := fun q => zp_fmod_b q hb
  unfold zp_op at h
  by_cases c0 : n = -11
  · rw [if_pos c0] at h
    cases h
    exact h1
  rw [if_neg c0] at h
  by_cases c1 : n = -12
  · rw [if_pos c1] at h
    cases h
    exact h2
  rw [if_neg c1] at h
  by_cases c2 : n = -13
  · rw [if_pos c2] at h
    cases h
    exact h3
  rw [if_neg c2] at h
  by_cases c3 : n = -14
  · rw [if_pos c3] at h
    cases h
    split
    · omega
    · exact h4
  rw [if_neg c3] at h
  by_cases c4 : n = -15
  · rw [if_pos c4] at h
    cases h
    split
    · omega
    · exact h5 (by assumption)
  rw [if_neg c4] at h
  by_cases c5 : n = -16
  · rw [if_pos c5] at h
    cases h
    omega
  rw [if_neg c5] at h
  by_cases c6 : n = -17
  · rw [if_pos c6] at h
    cases h
    omega
  rw [if_neg c6] at h
  by_cases c7 : n = -18
  · rw [if_pos c7] at h
    cases h
    split <;> omega
  rw [if_neg c7] at h
  by_cases c8 : n = -19
  · rw [if_pos c8] at h
    cases h
    split <;> omega
  rw [if_neg c8] at h
  by_cases c9 : n = -20
  · rw [if_pos c9] at h
    cases h
    split <;> omega
  rw [if_neg c9] at h
  by_cases c11 : n = -22
  · rw [if_pos c11] at h
    split at h
    · cases h; omega
    · cases h
  rw [if_neg c11] at h
  by_cases c12 : n = -23
  · rw [if_pos c12] at h
    split at h
    · cases h; omega
    · cases h
  rw [if_neg c12] at h
  cases h
theorem zp_one_b {en : Nat → Int} {n : Int} {st st' : List Int} (he : ∀ w, w < 6 → zp_mil (en w)) (hs : ∀ v ∈ st, zp_mil v) (h : zp_one en n st = some st') : (∀ v ∈ st', zp_mil v) ∧ (st.length ≤ 60 → st'.length ≤ 60) := by
  unfold zp_one zp_psh at h
  split at h
  · split at h
    · split at h
      · cases h
        refine ⟨fun v hv => ?_, fun _ => by simp only [List.length_cons]; omega⟩
        rcases List.mem_cons.mp hv with rfl | hv
        · omega
        · exact hs v hv
      · cases h
    · cases h
  · split at h
    · split at h
      · cases h
        refine ⟨fun v hv => ?_, fun _ => by simp only [List.length_cons]; omega⟩
        rcases List.mem_cons.mp hv with rfl | hv
        · exact he _ (by omega)
        · exact hs v hv
      · cases h
    · split at h
      · split at h
        · next a r =>
          split at h
          · cases h
            refine ⟨fun v hv => ?_, fun q => by simp only [List.length_cons] at q ⊢; exact q⟩
            rcases List.mem_cons.mp hv with rfl | hv
            · omega
            · exact hs v (List.mem_cons_of_mem _ hv)
          · cases h
        · cases h
      · split at h
        · next b a r =>
          cases ho : zp_op n a b with
          | none => rw [ho] at h; cases h
          | some v =>
            rw [ho] at h; cases h
            have h1 := zp_op_b (hs a (List.mem_cons_of_mem _ List.mem_cons_self)) (hs b List.mem_cons_self) ho
            refine ⟨fun w hw => ?_, fun q => by simp only [List.length_cons] at q ⊢; omega⟩
            rcases List.mem_cons.mp hw with rfl | hw
            · exact h1
            · exact hs w (List.mem_cons_of_mem _ (List.mem_cons_of_mem _ hw))
        · cases h
theorem zp_bits {a b : Int} (ha : zm_bit a) (hb : zm_bit b) : zb_iand a b = min a b ∧ zb_ior a b = max a b ∧ zb_land a b = min a b ∧ zb_lor a b = max a b := by
  rcases ha with rfl | rfl <;> rcases hb with rfl | rfl <;> decide +kernel
theorem zp_tdiv_b {a b : Int} (ha : zp_mil a) : zp_mil (a.tdiv b) := by
  have := Int.natAbs_tdiv_le_natAbs a b
  omega
theorem zp_i64 {v : Int} (h : zp_mil v) : zm_i64 v := by omega
theorem zp_fd {a b : Int} (hb : b ≠ 0) : a.fdiv b = (if a.tmod b = 0 then a.tdiv b else if (a < 0 ∧ 0 < b) ∨ (0 ≤ a ∧ b < 0) then a.tdiv b - 1 else a.tdiv b) := by
  rw [Int.fdiv_eq_tdiv]
  by_cases hd : b ∣ a
  · rw [if_pos hd, if_pos (Int.tmod_eq_zero_of_dvd hd)]; omega
  · rw [if_neg hd, if_neg (fun q => hd (Int.dvd_of_tmod_eq_zero q))]
    rcases Int.lt_or_gt_of_ne hb with h | h
    · rw [Int.sign_eq_neg_one_of_neg h]
      by_cases ha : 0 ≤ a
      · rw [if_pos ha, if_neg (by omega), if_pos (by omega)]
      · rw [if_neg ha, if_neg (by omega), if_neg (by omega)]; omega
    · rw [Int.sign_eq_one_of_pos h]
      by_cases ha : 0 ≤ a
      · rw [if_pos ha, if_pos (by omega), if_neg (by omega)]; omega
      · rw [if_neg ha, if_pos (by omega), if_pos (by omega)]
section
variable {h : zm_H}
theorem s_125 {v : Int} : zi (zc 125 [zm_L v] h) (fun z g => z = zp_lim v ∧ g = h) := by
  have := zp_lim_b v
  unfold zp_lim at this ⊢
  exact zt_l e_125 (zt_c (by omega) (zi_e ⟨rfl, rfl⟩))
theorem s_124 {n a b v : Int} (ha : zp_mil a) (hb : zp_mil b) (ho : zp_op n a b = some v) : zi (zc 124 [zm_I n, zm_I a, zm_I b] h) (fun z g => z = v ∧ g = h) := by
  have hm : zp_mil a → zp_mil b → zm_i64 (a * b) := fun h1 h2 => by
    have h3 : (a * b).natAbs = a.natAbs * b.natAbs := Int.natAbs_mul a b
    have h4 : a.natAbs * b.natAbs ≤ 1000000 * 1000000 := Nat.mul_le_mul (by omega) (by omega)
    omega
  have hm' := hm ha hb
  refine zt_l e_124 ?_
  unfold zp_op at ho
  by_cases c1 : n = -11
  · subst c1
    simp only [if_pos] at ho
    cases ho
    simp only [Int.reduceNeg, Int.reduceEq, if_false, if_true]
    exact zt_c (by omega) (zt_I s_125 (by rintro z g ⟨rfl, rfl⟩; exact zi_e ⟨rfl, rfl⟩))
  by_cases c2 : n = -12
  · subst c2
    simp only [Int.reduceNeg, Int.reduceEq, if_false, if_true] at ho ⊢
    cases ho
    exact zt_c (by omega) (zt_I s_125 (by rintro z g ⟨rfl, rfl⟩; exact zi_e ⟨rfl, rfl⟩))
  by_cases c3 : n = -13
  · subst c3
    simp only [Int.reduceNeg, Int.reduceEq, if_false, if_true] at ho ⊢
    cases ho
    exact zt_c hm' (zt_I s_125 (by rintro z g ⟨rfl, rfl⟩; exact zi_e ⟨rfl, rfl⟩))
  by_cases c4 : n = -14
  · subst c4
    simp only [Int.reduceNeg, Int.reduceEq, if_false, if_true] at ho ⊢
    cases ho
    exact zt_p (fun q => zi_e ⟨by rw [if_pos q], rfl⟩) (fun q => zt_c ⟨q, by omega, by omega⟩ (zi_e ⟨by rw [if_neg q], rfl⟩))
  by_cases c5 : n = -15
  · subst c5
    simp only [Int.reduceNeg, Int.reduceEq, if_false, if_true] at ho ⊢
    cases ho
    exact zt_p (fun q => zi_e ⟨by rw [if_pos q], rfl⟩) (fun q => zt_c ⟨q, by omega, by omega⟩ (zi_e ⟨by rw [if_neg q], rfl⟩))
  by_cases c6 : n = -16
  · subst c6
    simp only [Int.reduceNeg, Int.reduceEq, if_false, if_true] at ho ⊢
    cases ho
    exact zi_e ⟨rfl, rfl⟩
  by_cases c7 : n = -17
  · subst c7
    simp only [Int.reduceNeg, Int.reduceEq, if_false, if_true] at ho ⊢
    cases ho
    exact zi_e ⟨rfl, rfl⟩
  by_cases c8 : n = -18
  · subst c8
    simp only [Int.reduceNeg, Int.reduceEq, if_false, if_true] at ho ⊢
    cases ho
    exact zt_p (fun q => zi_e ⟨by rw [if_pos q], rfl⟩) (fun q => zi_e ⟨by rw [if_neg q], rfl⟩)
  by_cases c9 : n = -19
  · subst c9
    simp only [Int.reduceNeg, Int.reduceEq, if_false, if_true] at ho ⊢
    cases ho
    exact zt_p (fun q => zi_e ⟨by rw [if_neg (by omega)], rfl⟩) (fun q => zi_e ⟨by rw [if_pos (by omega)], rfl⟩)
  by_cases c10 : n = -20
  · subst c10
    simp only [Int.reduceNeg, Int.reduceEq, if_false, if_true] at ho ⊢
    cases ho
    exact zt_p (fun q => zi_e ⟨by rw [if_pos q], rfl⟩) (fun q => zi_e ⟨by rw [if_neg q], rfl⟩)
  by_cases c11 : n = -22
  · subst c11
    simp only [Int.reduceNeg, Int.reduceEq, if_false, if_true] at ho ⊢
    split at ho
    · next q => cases ho; exact zi_e ⟨(zp_bits q.1 q.2).1, rfl⟩
    · cases ho
  by_cases c12 : n = -23
  · subst c12
    simp only [Int.reduceNeg, Int.reduceEq, if_false, if_true] at ho ⊢
    split at ho
    · next q => cases ho; exact zi_e ⟨(zp_bits q.1 q.2).2.1, rfl⟩
    · cases ho
  rw [if_neg c1, if_neg c2, if_neg c3, if_neg c4, if_neg c5, if_neg c6, if_neg c7, if_neg c8, if_neg c9, if_neg c10, if_neg c11, if_neg c12] at ho
  cases ho
theorem s_122 {v : Int} {n : Nat} (h1 : h 141 1 = n) (hn : n < 60) : zu (zc 122 [zm_A 141, zm_I v] h) (fun g => g = zm_wr (zm_wr h 141 1 ((n + 1 : Nat) : Int)) 142 n v) := by
  refine zt_l e_122 ?_
  rw [h1]
  exact zt_t (by omega) (zt_c (by omega) (zt_c (by omega) (zu_e (by rw [show ((n + 1 : Nat) : Int) = (n : Int) + 1 by omega]))))
theorem s_123 {n : Nat} (h1 : h 141 1 = ((n + 1 : Nat) : Int)) (hn : n < 60) : zi (zc 123 [zm_A 141] h) (fun z g => z = h 142 n ∧ g = zm_wr h 141 1 n) := by
  refine zt_l e_123 ?_
  rw [h1]
  have e : ((n + 1 : Nat) : Int) - 1 = n := by omega
  rw [e]
  exact zt_f (by omega) (zt_c (by omega) (zt_c (by omega) (zi_e ⟨zq_wr_n (by decide), rfl⟩)))
theorem s_123z (h1 : h 141 1 = 0) : zi (zc 123 [zm_A 141] h) (fun z g => z = 0 ∧ g = h) := by
  refine zt_l e_123 ?_
  rw [h1]
  exact zt_t (by omega) (zi_e ⟨rfl, rfl⟩)
def zf_Ks (a : Nat) (_ : Int) : Prop := a = 141 ∨ a = 142
theorem s_121 {t : Nat} {cd en : Nat → Int} {f n : Nat} {st' : List Int} (ht : zf_F t) (hfn : f + n ≤ 1600) (hcd : ∀ i : Nat, f ≤ i → i < f + n → h (t + 10) i = cd i) (hen : ∀ w : Nat, w < 6 → h 143 w = en w) (he : ∀ w, w < 6 → zp_mil (en w)) (hr : zp_run cd en f n [] = some st') {x2 x3 : Int} (hx2 : x2 = f) (hx3 : x3 = ((f + n : Nat) : Int)) : zi (zc 121 [zm_A 141, zm_A (t + 10), zm_I x2, zm_I x3, zm_A 143] h) (fun z g => z = zp_hd st' ∧ zq_F zf_Ks h g) := by
  subst hx2
  subst hx3
  have htb := zf_F_ne ht
  have key : ∀ (m i : Nat) (st : List Int) (g : zm_H) (w6 w7 w8 : zm_V), i + m = f + n → f ≤ i → zp_run cd en i m st = some st' → st.length ≤ 60 → (∀ v ∈ st, zp_mil v) → g 141 1 = st.length → zp_mem (g 142) st → zq_F zf_Ks h g →
      zi (zr none 3 121 8 [zm_A 141, zm_A (t + 10), zm_I f, zm_I ((f + n : Nat) : Int), zm_A 143, zm_I i, w6, w7, w8] [] g) (fun z g => z = zp_hd st' ∧ zq_F zf_Ks h g) := by
    intro m
    induction m with
    | zero =>
      intro i st g w6 w7 w8 hi hfi hr hl hv h1 hm hg
      cases hr
      refine zt_l (e_121_143_8 (zf_a10 ht)) (zt_f (by omega) ?_)
      cases st' with
      | nil =>
        refine zt_I (s_123z h1) ?_
        rintro z g2 ⟨rfl, rfl⟩
        exact zi_e ⟨rfl, hg⟩
      | cons v r =>
        refine zt_I (s_123 (n := r.length) h1 (by simp only [List.length_cons] at hl; omega)) ?_
        rintro z g2 ⟨rfl, rfl⟩
        exact zi_e ⟨hm.1, zq_F_tr hg (zq_F_wr (Or.inl rfl))⟩
    | succ m ih =>
      intro i st g w6 w7 w8 hi hfi hr hl hv h1 hm hg
      rw [zp_run] at hr
      cases ho : zp_one en (cd i) st with
      | none => rw [ho] at hr; cases hr
      | some st2 =>
        rw [ho] at hr
        have hr2 : zp_run cd en (i + 1) m st2 = some st' := hr
        have hb2 := zp_one_b he hv ho
        have hci : g (t + 10) i = cd i := by rw [hg (t + 10) i (by unfold zf_Ks; omega)]; exact hcd i hfi (by omega)
        have hen2 : ∀ w : Nat, w < 6 → g 143 w = en w := fun w hw => by rw [hg 143 w (by unfold zf_Ks; omega)]; exact hen w hw
        refine zt_l (e_121_143_8 (zf_a10 ht)) (zt_t (by omega) (zt_c (by omega) ?_))
        rw [hci]
        -- a push
        have push : ∀ (v : Int) (w6 : zm_V), zp_psh v st = some st2 → zi (zk_V (zc 122 [zm_A 141, zm_I v] g) (fun h11 => zm_ck (zm_i32 ((i : Int) + 1)) (zr none 3 121 8 [zm_A 141, zm_A (t + 10), zm_I f, zm_I ((f + n : Nat) : Int), zm_A 143, zm_I ((i : Int) + 1), w6, w7, w8] [] h11))) (fun z g => z = zp_hd st' ∧ zq_F zf_Ks h g) := by
          intro v w6 hp
          unfold zp_psh at hp
          split at hp
          · next hl60 =>
            cases hp
            refine zt_V (s_122 (n := st.length) h1 hl60) ?_
            rintro g2 rfl
            refine zt_c (by omega) (ih (i + 1) (v :: st) _ _ _ _ (by omega) (by omega) hr2 (hb2.2 hl) hb2.1 ?_ ⟨zq_wr_e, ?_⟩ ?_)
            · rw [zq_wr_n (by decide), zq_wr_e]; rfl
            · exact zp_mem_congr (fun j hj => by rw [zq_wr_i (by omega), zq_wr_n (by decide)]) hm
            · exact zq_F_tr hg (zq_F_tr (zq_F_wr (Or.inl rfl)) (zq_F_wr (Or.inr rfl)))
          · cases hp
        unfold zp_one at ho
        by_cases c1 : 0 ≤ cd i
        · rw [if_pos c1] at ho
          refine zt_f (by omega) (push _ _ ?_)
          split at ho
          · exact ho
          · cases ho
        · rw [if_neg c1] at ho
          refine zt_t (by omega) ?_
          by_cases c2 : -6 ≤ cd i
          · rw [if_pos c2] at ho
            refine zt_f (by omega) (zt_c (by omega) (zt_c (by omega) ?_))
            obtain ⟨w, hw⟩ := Int.eq_ofNat_of_zero_le (show 0 ≤ -1 - cd i by omega)
            rw [hw, hen2 w (by omega)]
            refine push _ _ ?_
            rw [hw] at ho
            exact ho
          · rw [if_neg c2] at ho
            refine zt_t (by omega) ?_
            by_cases c3 : cd i = -21
            · rw [if_pos c3] at ho
              refine zt_t c3 ?_
              cases st with
              | nil => cases ho
              | cons a r =>
                dsimp only at ho
                split at ho
                · next hbit =>
                  cases ho
                  have hrl : r.length < 60 := by simp only [List.length_cons] at hl; omega
                  refine zt_I (s_123 (n := r.length) h1 hrl) ?_
                  rintro z g2 ⟨rfl, rfl⟩
                  rw [hm.1]
                  have e1 : zm_wr g 141 1 (r.length : Int) 141 1 = (r.length : Int) := zq_wr_e
                  refine zt_c (by omega) (zt_V (s_122 (n := r.length) e1 hrl) ?_)
                  rintro g3 rfl
                  refine zt_c (by omega) (ih (i + 1) ((1 - a) :: r) _ _ _ _ (by omega) (by omega) hr2 (hb2.2 hl) hb2.1 ?_ ⟨zq_wr_e, ?_⟩ ?_)
                  · rw [zq_wr_n (by decide), zq_wr_e]; rfl
                  · exact zp_mem_congr (fun j hj => by rw [zq_wr_i (by omega), zq_wr_n (by decide), zq_wr_n (by decide)]) hm.2
                  · exact zq_F_tr hg (zq_F_tr (zq_F_wr (Or.inl rfl)) (zq_F_tr (zq_F_wr (Or.inl rfl)) (zq_F_wr (Or.inr rfl))))
                · cases ho
            · rw [if_neg c3] at ho
              refine zt_f c3 ?_
              match st, ho, hl, hv, h1, hm with
              | [], ho, _, _, _, _ => cases ho
              | [_], ho, _, _, _, _ => cases ho
              | b :: a :: r, ho, hl, hv, h1, hm =>
                dsimp only at ho
                cases hop : zp_op (cd i) a b with
                | none => rw [hop] at ho; cases ho
                | some v =>
                  rw [hop] at ho; cases ho
                  have hrl : r.length + 1 < 60 := by simp only [List.length_cons] at hl; omega
                  refine zt_I (s_123 (n := r.length + 1) h1 hrl) ?_
                  rintro z g2 ⟨rfl, rfl⟩
                  have eb : g 142 ((r.length + 1 : Nat) : Int) = b := hm.1
                  rw [eb]
                  have e1 : zm_wr g 141 1 ((r.length + 1 : Nat) : Int) 141 1 = ((r.length + 1 : Nat) : Int) := zq_wr_e
                  refine zt_I (s_123 (n := r.length) e1 (by omega)) ?_
                  rintro z g3 ⟨rfl, rfl⟩
                  have ea : zm_wr g 141 1 ((r.length + 1 : Nat) : Int) 142 (r.length : Int) = a := by rw [zq_wr_n (by decide)]; exact hm.2.1
                  rw [ea]
                  refine zt_I (s_124 (hv a (List.mem_cons_of_mem _ List.mem_cons_self)) (hv b List.mem_cons_self) hop) ?_
                  rintro z g4 ⟨rfl, rfl⟩
                  have e2 : zm_wr (zm_wr g 141 1 ((r.length + 1 : Nat) : Int)) 141 1 (r.length : Int) 141 1 = (r.length : Int) := zq_wr_e
                  refine zt_V (s_122 (n := r.length) e2 (by omega)) ?_
                  rintro g5 rfl
                  refine zt_c (by omega) (ih (i + 1) (z :: r) _ _ _ _ (by omega) (by omega) hr2 (hb2.2 hl) hb2.1 ?_ ⟨zq_wr_e, ?_⟩ ?_)
                  · rw [zq_wr_n (by decide), zq_wr_e]; rfl
                  · exact zp_mem_congr (fun j hj => by rw [zq_wr_i (by omega), zq_wr_n (by decide), zq_wr_n (by decide), zq_wr_n (by decide)]) hm.2.2
                  · exact zq_F_tr hg (zq_F_tr (zq_F_wr (Or.inl rfl)) (zq_F_tr (zq_F_wr (Or.inl rfl)) (zq_F_tr (zq_F_wr (Or.inl rfl)) (zq_F_wr (Or.inr rfl)))))
  exact zt_l (e_121_143 (zf_a10 ht)) (key n f [] _ _ _ _ (by omega) (by omega) hr (by simp) (fun v hv => absurd hv List.not_mem_nil) zq_wr_e trivial (zq_F_wr (Or.inl rfl)))
end
