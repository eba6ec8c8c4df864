/-! SUMS AND TESTS: min and max in the reference -/
/-- all that the reference's reader of a text writes -/
def zf_Pz (b : Nat) (a : Nat) (i : Int) : Prop := (a = 146 ∧ ((3 ≤ i ∧ i ≤ 9) ∨ i = 12 ∨ i = 33 ∨ (40 ≤ i ∧ i ≤ 44))) ∨ ((a = 163 ∨ a = 164) ∧ 1600 * (b : Int) ≤ i ∧ i < 1600 * (b : Int) + 1600) ∨ (167 ≤ a ∧ a ≤ 172)
section
variable {h : zm_H} {T : Nat → Int} {n p b : Nat} {gl : Bool} {l : List Int}
/-- with a FAULT already told nothing more is -/
theorem s_188f {kd : Int} (f8 : 0 < h 146 8) : zu (zc 188 [zm_A 146, zm_I kd] h) (fun g => g = h) := by
  refine zt_l e_188 (zt_p (fun q => ?_) (fun q => zt_l e_188_18 (zt_f (by omega) (zu_e rfl))))
  refine zt_V (s_164n 5 _ f8) ?_
  rintro g rfl
  exact zt_l e_188_18 (zt_f (by omega) (zu_e rfl))
theorem s_187f (c : Int) : zi (zc 187 [zm_A 146, zm_I c] h) (fun z g => g = h) := by
  refine zt_l e_187 (zt_p (fun q => zt_p (fun q2 => zt_c (Or.inr rfl) (zi_e rfl)) (fun q2 => zt_c (Or.inl rfl) (zi_e rfl))) (fun q => zt_c (Or.inl rfl) (zi_e rfl)))
theorem s_184_251 {k o : Nat} {M : Int} {w1 w2 : zm_V} (x : Int) (hL : zy_L h T n p gl b l) (hp : p ≤ n) (q40 : zy_sg T n p gl 40 = true) (h40 : h 146 40 = k) (hk : k < 20) (h43 : h 146 43 = M) (h41 : h 146 41 = o) (ho : o ≤ 7) : zi (zr none 4 184 251 [zm_A 146, w1, w2, zm_I x] [] h) (fun z g => z = 0 ∧ zq_F (zf_Pz b) h g ∧ ((o = 7 ∧ g 146 8 = 5 ∧ g 146 9 = zy_at T n p) ∨ (o < 7 ∧ zy_L g T n (zy_en T n p) (zy_ng T n p gl) b l ∧ g 146 41 = ((o + 1 : Nat) : Int) ∧ g 167 k = 3 ∧ g 168 k = 0 ∧ g 169 k = 1 ∧ g 170 k = x ∧ g 171 k = M ∧ g 146 40 = ((k + 1 : Nat) : Int) ∧ zq_F (fun a i => zf_Sr a i ∨ zf_Pu k a i ∨ (a = 146 ∧ i = 41) ∨ (a = 170 ∧ i = k)) h g))) := by
  have t3 := (zy_sg_ty q40).1
  refine zt_l e_184_251 (zt_V (s_188 3 hL hp (by omega) h40 hk h43 h41 ho) ?_)
  rintro g (⟨o7, rfl⟩ | ⟨o7, f, L, r41, r167, r168, r169, r171, r40⟩)
  · refine zt_f (by rw [zq_wr_i (by decide), zq_wr_e]; decide) (zt_c (Or.inl rfl) (zi_e ⟨rfl, ?_, Or.inl ⟨o7, ?_, zq_wr_e⟩⟩))
    · exact zq_F_tr (zq_F_wr (Or.inl ⟨rfl, by omega⟩)) (zq_F_wr (Or.inl ⟨rfl, by omega⟩))
    · rw [zq_wr_i (by decide), zq_wr_e]
  · refine zt_t L.2.2.1 ?_
    have ek : g 146 40 - 1 = (k : Int) := by omega
    rw [ek]
    have hb : zq_F (fun a i => zf_Sr a i ∨ zf_Pu k a i ∨ (a = 146 ∧ i = 41) ∨ (a = 170 ∧ i = k)) h (zm_wr g 170 k x) := zq_F_tr (zq_F_wk f (fun a i q => by rcases q with q | q | q; exact Or.inl q; exact Or.inr (Or.inl q); exact Or.inr (Or.inr (Or.inl q)))) (zq_F_wr (Or.inr (Or.inr (Or.inr ⟨rfl, rfl⟩))))
    have k2 : ∀ (a : Nat) (i : Int), a ≠ 170 → zm_wr g 170 k x a i = g a i := fun a i ha => zq_wr_n ha
    refine zt_c (by omega) (zt_c (by omega) (zt_c (Or.inl rfl) (zi_e ⟨rfl, ?_, Or.inr ⟨o7, L.kp (fun i _ => k2 146 i (by decide)) (fun a ha => by funext i; exact k2 a i (by omega)), ?_, ?_, ?_, ?_, zq_wr_e, ?_, ?_, hb⟩⟩)))
    · exact zq_F_wk hb (fun a i q => by unfold zf_Sr zf_Pu at q; unfold zf_Pz; omega)
    · rw [k2 146 41 (by decide)]; exact r41
    · rw [k2 167 k (by decide)]; exact r167
    · rw [k2 168 k (by decide)]; exact r168
    · rw [k2 169 k (by decide)]; exact r169
    · rw [k2 171 k (by decide)]; exact r171
    · rw [k2 146 40 (by decide)]; exact r40
end
