/-! SUMS AND TESTS: the reference's frames -/
def zf_Pu (k : Nat) (a : Nat) (i : Int) : Prop := ((a = 167 ∨ a = 168 ∨ a = 169 ∨ a = 171) ∧ i = k) ∨ (a = 146 ∧ i = 40)
section
variable {h : zm_H} {T : Nat → Int} {n p b : Nat} {gl : Bool} {l : List Int}
theorem s_183 {k : Nat} {M : Int} (kd : Int) (h40 : h 146 40 = k) (hk : k < 20) (h43 : h 146 43 = M) : zu (zc 183 [zm_A 146, zm_I kd] h) (fun g => zq_F (zf_Pu k) h g ∧ g 167 k = kd ∧ g 168 k = 0 ∧ g 169 k = 1 ∧ g 171 k = M ∧ g 146 40 = ((k + 1 : Nat) : Int)) := by
  refine zt_l e_183 ?_
  simp only [zq_wr_n (show (146 : Nat) ≠ 167 by decide), zq_wr_n (show (146 : Nat) ≠ 168 by decide), zq_wr_n (show (146 : Nat) ≠ 169 by decide), zq_wr_n (show (146 : Nat) ≠ 171 by decide)]
  rw [h40, h43]
  refine zt_c (by omega) (zt_c (by omega) (zt_c ⟨by omega, Or.inr rfl⟩ (zt_c (by omega) (zt_c (by omega) (zu_e ⟨?_, ?_, ?_, ?_, ?_, ?_⟩)))))
  · exact zq_F_tr (zq_F_wr (Or.inl ⟨by omega, rfl⟩)) (zq_F_tr (zq_F_wr (Or.inl ⟨by omega, rfl⟩)) (zq_F_tr (zq_F_wr (Or.inl ⟨by omega, rfl⟩)) (zq_F_tr (zq_F_wr (Or.inl ⟨by omega, rfl⟩)) (zq_F_wr (Or.inr ⟨rfl, rfl⟩)))))
  · rw [zq_wr_n (show (167 : Nat) ≠ 146 by decide), zq_wr_n (show (167 : Nat) ≠ 171 by decide), zq_wr_n (show (167 : Nat) ≠ 169 by decide), zq_wr_n (show (167 : Nat) ≠ 168 by decide), zq_wr_e]
  · rw [zq_wr_n (show (168 : Nat) ≠ 146 by decide), zq_wr_n (show (168 : Nat) ≠ 171 by decide), zq_wr_n (show (168 : Nat) ≠ 169 by decide), zq_wr_e]
  · rw [zq_wr_n (show (169 : Nat) ≠ 146 by decide), zq_wr_n (show (169 : Nat) ≠ 171 by decide), zq_wr_e]
  · rw [zq_wr_n (show (171 : Nat) ≠ 146 by decide), zq_wr_e]
  · rw [zq_wr_e]; omega
theorem s_185 (x : Int) : zi (zc 185 [zm_I x] h) (fun z g => z = (if x = 1 ∨ x = 5 then 1 else 0) ∧ g = h) := by
  refine zt_l e_185 (zt_p (fun q => zt_c (Or.inr rfl) (zi_e ⟨by rw [if_pos (Or.inl q)], rfl⟩)) (fun q => zt_p (fun q2 => zt_c (Or.inr rfl) (zi_e ⟨by rw [if_pos (Or.inr q2)], rfl⟩)) (fun q2 => zt_c (Or.inl rfl) (zi_e ⟨by rw [if_neg (fun r => r.elim q q2)], rfl⟩))))
/-- ahead, with the codes as they were -/
theorem s_159L (hL : zy_L h T n p gl b l) (hp : p ≤ n) (ht : zy_ty T n p gl ≠ 4 ∧ zy_ty T n p gl ≠ 0) : zu (zc 159 [zm_A 146] h) (fun g => zq_F zf_Sr h g ∧ zy_L g T n (zy_en T n p) (zy_ng T n p gl) b l) := by
  obtain ⟨hT, hR, f8, hb, f34, f33, cd⟩ := hL
  refine zu_m (s_159a hT hR hp ht) (fun g r => ⟨r.1, hT.kp r.1, r.2, by rw [r.1 146 8 (by unfold zf_Sr; omega)]; exact f8, hb, by rw [r.1 146 34 (by unfold zf_Sr; omega)]; exact f34, by rw [r.1 146 33 (by unfold zf_Sr; omega)]; exact f33, fun i hi j hj => by rw [r.1 163 j (by unfold zf_Sr; omega), r.1 164 j (by unfold zf_Sr; omega)]; exact cd i hi j hj⟩)
/-- opens a frame, or tells FAULT 5 -/
theorem s_188 {k o : Nat} {M : Int} (kd : Int) (hL : zy_L h T n p gl b l) (hp : p ≤ n) (ht : zy_ty T n p gl ≠ 4 ∧ zy_ty T n p gl ≠ 0) (h40 : h 146 40 = k) (hk : k < 20) (h43 : h 146 43 = M) (h41 : h 146 41 = o) (ho : o ≤ 7) : zu (zc 188 [zm_A 146, zm_I kd] h) (fun g => (o = 7 ∧ g = zm_wr (zm_wr h 146 8 5) 146 9 (zy_at T n p)) ∨ (o < 7 ∧ zq_F (fun a i => zf_Sr a i ∨ zf_Pu k a i ∨ (a = 146 ∧ i = 41)) h g ∧ zy_L g T n (zy_en T n p) (zy_ng T n p gl) b l ∧ g 146 41 = ((o + 1 : Nat) : Int) ∧ g 167 k = kd ∧ g 168 k = 0 ∧ g 169 k = 1 ∧ g 171 k = M ∧ g 146 40 = ((k + 1 : Nat) : Int))) := by
  have f8 := hL.2.2.1
  refine zt_l e_188 ?_
  rw [h41]
  refine zt_p (fun q => ?_) (fun q => ?_)
  · rw [hL.2.1.1]
    refine zt_V (s_164y 5 _ f8) ?_
    rintro g rfl
    refine zt_l e_188_18 (zt_f (by rw [zq_wr_i (by decide), zq_wr_e]; decide) (zu_e (Or.inl ⟨by omega, rfl⟩)))
  · refine zt_l e_188_18 (zt_t (by omega) ?_)
    rw [h41]
    have L1 : zy_L (zm_wr h 146 41 ((o : Int) + 1)) T n p gl b l := hL.kp (fun i hi => zq_wr_i (by omega)) (fun a ha => by funext j; exact zq_wr_n (by omega))
    refine zt_c (by omega) (zt_V (s_159L L1 hp ht) ?_)
    rintro g2 ⟨f2, L2⟩
    have e40 : g2 146 40 = k := by rw [f2 146 40 (by unfold zf_Sr; omega), zq_wr_i (by decide)]; exact h40
    have e43 : g2 146 43 = M := by rw [f2 146 43 (by unfold zf_Sr; omega), zq_wr_i (by decide)]; exact h43
    have e41 : g2 146 41 = (o : Int) + 1 := by rw [f2 146 41 (by unfold zf_Sr; omega), zq_wr_e]
    refine zt_V (s_183 kd e40 hk e43) ?_
    rintro g3 ⟨f3, r1, r2, r3, r4, r5⟩
    refine zu_e (Or.inr ⟨by omega, ?_, L2.kp (fun i hi => f3 146 i (by unfold zf_Pu; omega)) (fun a ha => by funext j; exact f3 a j (by unfold zf_Pu; omega)), ?_, r1, r2, r3, r4, r5⟩)
    · exact zq_F_tr (zq_F_wr (Or.inr (Or.inr ⟨rfl, rfl⟩))) (zq_F_tr (zq_F_wk f2 (fun a i q => Or.inl q)) (zq_F_wk f3 (fun a i q => Or.inr (Or.inl q))))
    · rw [f3 146 41 (by unfold zf_Pu; omega), e41]; omega
end
