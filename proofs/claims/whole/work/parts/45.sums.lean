/-! SUMS of parcels and of what is had -/
theorem zm_cat_I (v : Int) : zm_cat (zm_I v) ≠ 2 := fun e => absurd (show (1 : Nat) = 2 from e) (by decide)
def zp_hb (Hd : Nat → Int) (c : Nat) : Int := zq_S 8 (fun k => Hd (8 * c + k))
def zp_kb (P : Nat → Int) (k : Nat) : Int := zq_S 5 (fun l => P (8 * l + k))
def zp_kh (Hd : Nat → Int) (k : Nat) : Int := zq_S 8 (fun c => Hd (8 * c + k))
section
variable {h : zm_H} {t b K L C : Nat} {wo sz re fe ru : Nat → Int} {lk : Nat → Nat → Int} {P Pu Qu Hd : Nat → Int} {hr dp : Int}
theorem s_148 {o k : Nat} (hT : zv_T h o P Pu Hd) (hP : ∀ i, i < 40 → 0 ≤ P i ∧ P i ≤ 99) (hk : k < 8) : zi (zc 148 [zm_A o, zm_I k] h) (fun z g => z = zp_kb P k ∧ g = h) := by
  have key : ∀ (n i : Nat), i + n = 5 → zi (zr none 1 148 4 [zm_A o, zm_I k, zm_I (zq_S i (fun l => P (8 * l + k))), zm_I ((8 * i + k : Nat) : Int)] [] h) (fun z g => z = zp_kb P k ∧ g = h) := by
    intro n
    induction n with
    | zero =>
      intro i hi
      exact zt_l (e_148_4 hT.1 (w1 := zm_I k) (zm_cat_I _)) (zt_f (by omega) (zi_e ⟨by rw [show i = 5 by omega]; rfl, rfl⟩))
    | succ n ih =>
      intro i hi
      have b1 := zq_S_le (n := i) (f := fun l => P (8 * l + k)) (m := 99) (fun j hj => hP _ (by omega))
      have b2 := hP (8 * i + k) (by omega)
      refine zt_l (e_148_4 hT.1 (w1 := zm_I k) (zm_cat_I _)) (zt_t (by omega) ?_)
      rw [hT.2.1 _ (by omega)]
      have nx := ih (i + 1) (by omega)
      rw [show ((8 * (i + 1) + k : Nat) : Int) = ((8 * i + k : Nat) : Int) + 8 by omega] at nx
      exact zt_c (by omega) (zt_c (by omega) (zt_c (by omega) nx))
  have := key 5 0 (by omega)
  rw [show ((8 * 0 + k : Nat) : Int) = (k : Int) by omega] at this
  exact zt_l (e_148 hT.1) this
theorem s_149 {o k : Nat} (hT : zv_T h o P Pu Hd) (hH : ∀ i, i < 64 → 0 ≤ Hd i ∧ Hd i ≤ 100000) (hk : k < 8) : zi (zc 149 [zm_A o, zm_I k] h) (fun z g => z = zp_kh Hd k ∧ g = h) := by
  have key : ∀ (n i : Nat), i + n = 8 → zi (zr none 1 149 4 [zm_A o, zm_I k, zm_I (zq_S i (fun c => Hd (8 * c + k))), zm_I ((8 * i + k : Nat) : Int)] [] h) (fun z g => z = zp_kh Hd k ∧ g = h) := by
    intro n
    induction n with
    | zero =>
      intro i hi
      exact zt_l (e_149_4 hT.1 (w1 := zm_I k) (zm_cat_I _)) (zt_f (by omega) (zi_e ⟨by rw [show i = 8 by omega]; rfl, rfl⟩))
    | succ n ih =>
      intro i hi
      have b1 := zq_S_le (n := i) (f := fun c => Hd (8 * c + k)) (m := 100000) (fun j hj => hH _ (by omega))
      have b2 := hH (8 * i + k) (by omega)
      refine zt_l (e_149_4 hT.1 (w1 := zm_I k) (zm_cat_I _)) (zt_t (by omega) ?_)
      rw [hT.2.2.2 _ (by omega)]
      have nx := ih (i + 1) (by omega)
      rw [show ((8 * (i + 1) + k : Nat) : Int) = ((8 * i + k : Nat) : Int) + 8 by omega] at nx
      exact zt_c (by omega) (zt_c (by omega) (zt_c (by omega) nx))
  have := key 8 0 (by omega)
  rw [show ((8 * 0 + k : Nat) : Int) = (k : Int) by omega] at this
  exact zt_l (e_149 hT.1) this
theorem s_214 {c : Nat} (hG : zv_G h b K L C wo sz re fe ru lk) (hB : zv_B K L C wo sz re fe ru lk) (hW : zv_W h 0 P Pu Hd) (hH : zv_H K C Hd) (hc : c < C) : zi (zc 214 [zm_A 146, zm_I c] h) (fun z g => z = zp_hb Hd c ∧ g = h) := by
  have hK8 := hB.1
  have hC8 := hB.2.2.1
  have hb := hG.1
  have key : ∀ (n i : Nat), i + n = K → zi (zr none 2 214 4 [zm_A 146, zm_I c, zm_I (zq_S i (fun k => Hd (8 * c + k))), zm_I i] [] h) (fun z g => z = zp_hb Hd c ∧ g = h) := by
    intro n
    induction n with
    | zero =>
      intro i hi
      refine zt_l e_214_4 ?_
      rw [hG.2.1, hG.2.2.1]
      refine zt_c (by omega) (zt_f (by omega) (zi_e ⟨?_, rfl⟩))
      rw [show i = K by omega]
      exact (zq_S_ext hK8 (fun j h1 h2 => hH.2 _ (by omega) (by omega))).symm
    | succ n ih =>
      intro i hi
      have b1 := zq_S_le (n := i) (f := fun k => Hd (8 * c + k)) (m := 100000) (fun j hj => hH.1 _ (by omega))
      have b2 := hH.1 (8 * c + i) (by omega)
      refine zt_l e_214_4 ?_
      rw [hG.2.1, hG.2.2.1]
      refine zt_c (by omega) (zt_t (by omega) (zt_I (s_215 (v := 0) (c := c) (k := i) hW (by omega) (by omega)) ?_))
      rintro z g ⟨rfl, rfl⟩
      exact zt_c (by omega) (zt_c (by omega) (ih (i + 1) (by omega)))
  exact zt_l e_214 (key K 0 (by omega))
end
