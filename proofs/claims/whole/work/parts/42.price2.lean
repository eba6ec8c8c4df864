/-! PRICE of both sides -/
def zp_tk (fl Pu : Nat → Int) (C : Nat) (p : Int) : Int := p * zq_S C (fun c => zp_com fl Pu c p)
def zp_bp (fl Pu : Nat → Int) (C : Nat) : Nat → Int × Int
  | 0 => (0, 0)
  | n + 1 => if (zp_bp fl Pu C n).2 < zp_tk fl Pu C ((n : Int) + 1) then ((n : Int) + 1, zp_tk fl Pu C ((n : Int) + 1)) else zp_bp fl Pu C n
def zp_price (fl Pu : Nat → Int) (C : Nat) (x : Int) : Int := if x = 0 then (zp_bp fl Pu C 99).1 else if x = 1 then (zp_bp fl Pu C 99).2 else -1
theorem zp_tk_b {fl Pu : Nat → Int} {C n : Nat} {p : Int} (hn : n ≤ C) (hC : C ≤ 8) (hp : 0 ≤ p ∧ p ≤ 99) : 0 ≤ zq_S n (fun c => zp_com fl Pu c p) ∧ zq_S n (fun c => zp_com fl Pu c p) ≤ 8 ∧ 0 ≤ p * zq_S n (fun c => zp_com fl Pu c p) ∧ p * zq_S n (fun c => zp_com fl Pu c p) ≤ 792 := by
  have := zq_S_le (n := n) (f := fun c => zp_com fl Pu c p) (m := 1) (fun i hi => by unfold zp_com; split <;> omega)
  have h8 : zq_S n (fun c => zp_com fl Pu c p) ≤ 8 := by omega
  refine ⟨this.1, h8, Int.mul_nonneg hp.1 this.1, ?_⟩
  have := Int.mul_le_mul hp.2 h8 this.1 (by decide)
  omega
section
variable {h : zm_H} {t b K L C : Nat} {wo sz re fe ru : Nat → Int} {lk : Nat → Nat → Int} {P Pu Qu Hd : Nat → Int} {hr dp : Int}
theorem s_28 {fl : Nat → Int} (hC : zv_C h t K L C wo sz re fe ru lk P Pu Hd hr dp) (hC8 : C ≤ 8) (h144 : ∀ c : Nat, c < C → h 144 c = min (fl c) (Pu c)) {p : Int} (hp : 0 ≤ p ∧ p ≤ 99) : zi (zc 28 [zm_A 4, zm_I p] h) (fun z g => z = zp_tk fl Pu C p ∧ g = h) := by
  have key : ∀ (n i : Nat), i + n = C → zi (zr none 1 28 4 [zm_A 4, zm_I p, zm_I (zq_S i (fun c => zp_com fl Pu c p)), zm_I i] [] h) (fun z g => z = zp_tk fl Pu C p ∧ g = h) := by
    intro n
    induction n with
    | zero =>
      intro i hi
      have hb := zp_tk_b (fl := fl) (Pu := Pu) (C := C) (n := i) (by omega) hC8 hp
      refine zt_l (e_28_4 hC.2.1.1) (zt_c hC.1 ?_)
      rw [hC.2.1.2.2.2.1]
      refine zt_f (by omega) (zt_c (by omega) (zi_e ⟨by rw [show i = C by omega]; rfl, rfl⟩))
    | succ n ih =>
      intro i hi
      have hb := zp_tk_b (fl := fl) (Pu := Pu) (C := C) (n := i) (by omega) hC8 hp
      have nx := ih (i + 1) (by omega)
      have e : zq_S (i + 1) (fun c => zp_com fl Pu c p) = zq_S i (fun c => zp_com fl Pu c p) + zp_com fl Pu i p := rfl
      rw [e] at nx
      unfold zp_com at nx
      refine zt_l (e_28_4 hC.2.1.1) (zt_c hC.1 ?_)
      rw [hC.2.1.2.2.2.1, h144 i (by omega)]
      refine zt_t (by omega) (zt_c (by omega) (zt_p (fun q => ?_) (fun q => ?_)))
      · rw [if_neg (c := p ≤ fl i ∧ p ≤ Pu i) (by omega), Int.add_zero] at nx
        exact zt_c (by omega) nx
      · rw [if_pos (c := p ≤ fl i ∧ p ≤ Pu i) (by omega)] at nx
        exact zt_c (by omega) (zt_c (by omega) nx)
  exact zt_l e_28 (key C 0 (by omega))
theorem zp_bp_b {fl : Nat → Int} (hC : C ≤ 8) : ∀ n, n ≤ 99 → 0 ≤ (zp_bp fl Pu C n).1 ∧ (zp_bp fl Pu C n).1 ≤ 99 ∧ 0 ≤ (zp_bp fl Pu C n).2 ∧ (zp_bp fl Pu C n).2 ≤ 792 := by
  intro n
  induction n with
  | zero =>
    intro _
    show 0 ≤ (0 : Int) ∧ (0 : Int) ≤ 99 ∧ 0 ≤ (0 : Int) ∧ (0 : Int) ≤ 792
    decide
  | succ n ih =>
    intro hn
    have := ih (by omega)
    have h2 := zp_tk_b (fl := fl) (Pu := Pu) (n := C) (p := (n : Int) + 1) (Nat.le_refl _) hC (by omega)
    unfold zp_bp
    split
    · exact ⟨by show 0 ≤ (n : Int) + 1; omega, by show (n : Int) + 1 ≤ 99; omega, h2.2.2.1, h2.2.2.2⟩
    · exact this
theorem s_27 (hC : zv_C h t K L C wo sz re fe ru lk P Pu Hd hr dp) (hB : zv_B K L C wo sz re fe ru lk) (hX : zv_X K L C P Pu Hd hr dp) (x : Int) : zi (zc 27 [zm_A 4, zm_I x] h) (fun z g => z = zp_price (zp_flo K L sz re fe ru lk P zp_id) Pu C x ∧ zq_F zf_Cs h g) := by
  have hC8 := hB.2.2.1
  have second : ∀ (n i : Nat) (w : zm_V) (g : zm_H), i + n = 99 → zq_F zf_Cs h g → (∀ c : Nat, c < C → g 144 c = min (zp_flo K L sz re fe ru lk P zp_id c) (Pu c)) → zi (zr none 7 27 41 [zm_A 4, zm_I x, zm_I (zp_bp (zp_flo K L sz re fe ru lk P zp_id) Pu C i).1, zm_I (zp_bp (zp_flo K L sz re fe ru lk P zp_id) Pu C i).2, zm_I ((i : Int) + 1), w] [] g) (fun z g => z = zp_price (zp_flo K L sz re fe ru lk P zp_id) Pu C x ∧ zq_F zf_Cs h g) := by
    intro n
    induction n with
    | zero =>
      intro i w g hi hf h144
      have hi99 : i = 99 := by omega
      subst hi99
      refine zt_l e_27_41 (zt_t (by omega) ?_)
      unfold zp_price
      refine zt_p (fun q => zi_e ⟨(if_pos q).symm, hf⟩) (fun q => ?_)
      rw [if_neg q]
      exact zt_p (fun q => zi_e ⟨(if_pos q).symm, hf⟩) (fun q => zi_e ⟨(if_neg q).symm, hf⟩)
    | succ n ih =>
      intro i w g hi hf h144
      refine zt_l e_27_41 (zt_f (by omega) (zt_I (s_28 (hC.kp hf) hC8 h144 (by omega)) ?_))
      rintro z g2 ⟨rfl, rfl⟩
      have nx := fun w => ih (i + 1) w g2 (by omega) hf h144
      rw [show ((i + 1 : Nat) : Int) = (i : Int) + 1 by omega] at nx
      refine zt_p (fun q => zt_c (by omega) ?_) (fun q => zt_c (by omega) ?_)
      · have e : zp_bp (zp_flo K L sz re fe ru lk P zp_id) Pu C (i + 1) = zp_bp (zp_flo K L sz re fe ru lk P zp_id) Pu C i := if_neg (by omega)
        rw [e] at nx
        exact nx _
      · have e : zp_bp (zp_flo K L sz re fe ru lk P zp_id) Pu C (i + 1) = ((i : Int) + 1, zp_tk (zp_flo K L sz re fe ru lk P zp_id) Pu C ((i : Int) + 1)) := if_pos (by omega)
        rw [e] at nx
        exact nx _
  have first : ∀ (n i : Nat) (w : zm_V) (g : zm_H), i + n = C → zq_F zf_Cs h g → (∀ c : Nat, c < i → g 144 c = min (zp_flo K L sz re fe ru lk P zp_id c) (Pu c)) → zi (zr none 7 27 7 [zm_A 4, zm_I x, zm_I 0, zm_I 0, zm_I i, w] [] g) (fun z g => z = zp_price (zp_flo K L sz re fe ru lk P zp_id) Pu C x ∧ zq_F zf_Cs h g) := by
    intro n
    induction n with
    | zero =>
      intro i w g hi hf h144
      have hCg := hC.kp hf
      refine zt_l (e_27_7 hCg.2.1.1) (zt_c hCg.1 ?_)
      rw [hCg.2.1.2.2.2.1]
      refine zt_f (by omega) ?_
      exact second 99 0 w g (by omega) hf (fun c hc => h144 c (by omega))
    | succ n ih =>
      intro i w g hi hf h144
      have hCg := hC.kp hf
      refine zt_l (e_27_7 hCg.2.1.1) (zt_c hCg.1 ?_)
      rw [hCg.2.1.2.2.2.1]
      refine zt_t (by omega) (zt_I (s_25 hCg hB hX (by omega)) ?_)
      rintro z g2 ⟨rfl, f2⟩
      refine zt_c (by omega) (zt_c (by omega) ?_)
      refine ih (i + 1) w _ (by omega) (zq_F_tr (zq_F_tr hf (zf_Rs_Cs f2)) (zq_F_wr (by unfold zf_Cs; omega))) (fun c hc => ?_)
      rw [zq_wr]
      by_cases hci : c = i
      · subst hci; rw [if_pos ⟨rfl, rfl⟩]
      · rw [if_neg (by omega), f2 144 c (by unfold zf_Rs; omega)]
        exact h144 c (by omega)
  exact zt_l e_27 (first C 0 _ h (by omega) zq_F_rf (fun c hc => by omega))
theorem s_243 (hD : zv_D h b K L C wo sz re fe ru lk P Pu Hd hr dp) (hB : zv_B K L C wo sz re fe ru lk) (hP : zv_P K L P) (x : Int) : zi (zc 243 [zm_A 146, zm_I x] h) (fun z g => z = zp_price (zp_flo K L sz re fe ru lk P zp_id) Pu C x ∧ zq_F zf_Ds h g) := by
  have hC8 := hB.2.2.1
  refine zt_l e_243 (zt_I (s_175 x 0 1) ?_)
  rintro z g ⟨rfl, rfl⟩
  by_cases hx : 0 ≤ x ∧ x ≤ 1
  · rw [if_pos hx]
    refine zt_f (by decide) (zt_V s_225 ?_)
    rintro g1 ⟨f1, o1⟩
    have f1' : zq_F zf_Ds g g1 := zq_F_wk f1 (fun a i q => by unfold zf_Ds; omega)
    have outer : ∀ (n i : Nat) (w5 w6 : zm_V) (g2 : zm_H), i + n = 99 → zq_F zf_Ds g g2 → (∀ p : Nat, p < 5 → g2 185 p = p) → zi (zr none 8 243 22 [zm_A 146, zm_I x, zm_I (zp_bp (zp_flo K L sz re fe ru lk P zp_id) Pu C i).1, zm_I (zp_bp (zp_flo K L sz re fe ru lk P zp_id) Pu C i).2, zm_I ((i : Int) + 1), w5, w6] [] g2) (fun z g2 => z = zp_price (zp_flo K L sz re fe ru lk P zp_id) Pu C x ∧ zq_F zf_Ds g g2) := by
      intro n
      induction n with
      | zero =>
        intro i w5 w6 g2 hi hf ho
        have hi99 : i = 99 := by omega
        subst hi99
        refine zt_l e_243_22 (zt_t (by omega) ?_)
        unfold zp_price
        refine zt_p (fun q => zi_e ⟨(if_pos q).symm, hf⟩) (fun q => ?_)
        rw [if_neg q, if_pos (c := x = 1) (by omega)]
        exact zi_e ⟨rfl, hf⟩
      | succ n ih =>
        intro i w5 w6 g2 hi hf ho
        refine zt_l e_243_22 (zt_f (by omega) ?_)
        have inner : ∀ (m j : Nat) (g3 : zm_H), j + m = C → zq_F zf_Ds g g3 → (∀ p : Nat, p < 5 → g3 185 p = p) → zi (zr none 8 243 35 [zm_A 146, zm_I x, zm_I (zp_bp (zp_flo K L sz re fe ru lk P zp_id) Pu C i).1, zm_I (zp_bp (zp_flo K L sz re fe ru lk P zp_id) Pu C i).2, zm_I ((i : Int) + 1), zm_I (((i : Int) + 1) * zq_S j (fun c => zp_com (zp_flo K L sz re fe ru lk P zp_id) Pu c ((i : Int) + 1))), zm_I j] [] g3) (fun z g2 => z = zp_price (zp_flo K L sz re fe ru lk P zp_id) Pu C x ∧ zq_F zf_Ds g g2) := by
          intro m
          induction m with
          | zero =>
            intro j g3 hj hf3 ho3
            have hDg := hD.kp hf3
            have hb := hDg.1.1
            have hjC : j = C := by omega
            have nx := fun w5 w6 => ih (i + 1) w5 w6 g3 (by omega) hf3 ho3
            rw [show ((i + 1 : Nat) : Int) = (i : Int) + 1 by omega] at nx
            refine zt_l e_243_35 ?_
            rw [hDg.1.2.1, hDg.1.2.2.2.2.1]
            refine zt_c (by omega) (zt_f (by omega) ?_)
            rw [hjC]
            show zi (if (zp_bp (zp_flo K L sz re fe ru lk P zp_id) Pu C i).2 < zp_tk (zp_flo K L sz re fe ru lk P zp_id) Pu C ((i : Int) + 1) then _ else _) _
            refine zt_p (fun q => zt_c (by omega) ?_) (fun q => zt_c (by omega) ?_)
            · have e : zp_bp (zp_flo K L sz re fe ru lk P zp_id) Pu C (i + 1) = ((i : Int) + 1, zp_tk (zp_flo K L sz re fe ru lk P zp_id) Pu C ((i : Int) + 1)) := if_pos q
              rw [e] at nx
              exact nx _ _
            · have e : zp_bp (zp_flo K L sz re fe ru lk P zp_id) Pu C (i + 1) = zp_bp (zp_flo K L sz re fe ru lk P zp_id) Pu C i := if_neg q
              rw [e] at nx
              exact nx _ _
          | succ m ihm =>
            intro j g3 hj hf3 ho3
            have hDg := hD.kp hf3
            have hb := hDg.1.1
            have tb := zp_tk_b (fl := zp_flo K L sz re fe ru lk P zp_id) (Pu := Pu) (C := C) (n := j) (p := (i : Int) + 1) (by omega) hC8 (by omega)
            refine zt_l e_243_35 ?_
            rw [hDg.1.2.1, hDg.1.2.2.2.2.1]
            refine zt_c (by omega) (zt_t (by omega) (zt_I (s_241 (p := (i : Int) + 1) (by omega) zp_id_b (fun p hp => ho3 p (by have := hB.2.1; omega)) hDg.1 hB hDg.2.1 hP (by omega)) ?_))
            rintro z g4 ⟨rfl, f4⟩
            have nx := ihm (j + 1) g4 (by omega) (zq_F_tr hf3 (zf_Gs_Ds f4)) (fun p hp => by rw [zf_Gs_kp f4 (by decide) (by decide)]; exact ho3 p hp)
            have e : ((i : Int) + 1) * zq_S (j + 1) (fun c => zp_com (zp_flo K L sz re fe ru lk P zp_id) Pu c ((i : Int) + 1)) = ((i : Int) + 1) * zq_S j (fun c => zp_com (zp_flo K L sz re fe ru lk P zp_id) Pu c ((i : Int) + 1)) + ((i : Int) + 1) * zp_com (zp_flo K L sz re fe ru lk P zp_id) Pu j ((i : Int) + 1) := by
              rw [← Int.mul_add]; rfl
            rw [e] at nx
            refine zt_p (fun q => ?_) (fun q => ?_)
            · rw [q, Int.mul_zero] at nx
              exact zt_c (by omega) (zt_c (by omega) nx)
            · have e1 : zp_com (zp_flo K L sz re fe ru lk P zp_id) Pu j ((i : Int) + 1) = 1 := by
                unfold zp_com at q ⊢
                split at q <;> simp_all
              rw [e1, Int.mul_one] at nx
              exact zt_c (by omega) (zt_c (by omega) nx)
        have := inner C 0 g2 (by omega) hf ho
        simp only [zq_S, Int.mul_zero] at this
        exact this
    exact outer 99 0 _ _ g1 (by omega) f1' o1
  · rw [if_neg hx]
    refine zt_t rfl (zi_e ⟨?_, zq_F_rf⟩)
    unfold zp_price
    rw [if_neg (by omega), if_neg (by omega)]
end
