/-! FETE of both sides, told together: the whole -/
def zf_5f (pf : Nat) (a : Nat) (i : Int) : Prop := zf_Pd pf a i ∨ (a = 29 ∧ i = 1) ∨ (a = 5 ∧ i = 1) ∨ (a = 145 ∧ i = 1)
def zf_5k (pf : Nat) (a : Nat) (i : Int) : Prop := zf_Pd pf a i ∨ (a = 29 ∧ i = 1) ∨ (a = 5 ∧ i = 1) ∨ (a = 4 ∧ (i = 1 ∨ i = 2 ∨ i = 17)) ∨ zf_To 32 a i ∨ (a = 44 ∧ 3 ≤ i ∧ i ≤ 5)
def zf_6f (b : Nat) (a : Nat) (i : Int) : Prop := zf_Pr b a i ∨ (a = 146 ∧ (i = 1 ∨ i = 2 ∨ i = 5 ∨ i = 8 ∨ i = 9 ∨ i = 33 ∨ i = 34 ∨ i = 10 ∨ i = 11)) ∨ (a = 173 ∧ i = 1)
def zf_6k (b : Nat) (a : Nat) (i : Int) : Prop := zf_6f b a i ∨ (a = 146 ∧ (i = 13 ∨ i = 57 ∨ i = 70)) ∨ zf_Ve 0 a i
section
variable {h g h1 h2 : zm_H} {T : Nat → Int} {n p b pf t K L C cf ct qf qt : Nat} {gl : Bool} {wo sz re fe ru : Nat → Int} {lk : Nat → Nat → Int} {nk nc : Nat → List Nat} {F : Nat → Int} {pu : Int} {l : List Int}
/-- the reference begins an afternoon's state -/
theorem s_197 (hb : b < 2) (h13 : h 146 13 = b) (hK : h 148 b = K) (hL : h 151 b = L) (hK8 : K ≤ 8) (hL5 : L ≤ 5) (hpu : h 158 b = pu) (hF : ∀ i : Nat, i < 8 * L → ∀ j : Int, j = 40 * b + i → h 152 j = F i) (hz : ∀ i, i < 40 → (L ≤ i / 8 ∨ K ≤ i % 8) → F i = 0) : zu (zc 197 [zm_A 146] h) (fun g => zq_F (fun a i => (a = 146 ∧ (i = 57 ∨ i = 70)) ∨ zf_Ve 0 a i) h g ∧ zv_W g 0 F (fun _ => pu) (fun _ => 0) ∧ g 174 0 = 0 ∧ g 175 0 = 0 ∧ g 179 0 = 0 ∧ g 146 57 = 0 ∧ g 146 70 = 0) := by
  obtain ⟨k0, hk0⟩ : ∃ k0, k0 = zm_wr (zm_wr (zm_wr (zm_wr (zm_wr h 174 0 0) 175 0 0) 179 0 0) 146 57 0) 146 70 0 := ⟨_, rfl⟩
  have P0 : zq_F (fun a i => (a = 146 ∧ (i = 57 ∨ i = 70)) ∨ zf_Ve 0 a i) h k0 := by
    rw [hk0]
    refine zq_F_tr (zq_F_wr ?_) (zq_F_tr (zq_F_wr ?_) (zq_F_tr (zq_F_wr ?_) (zq_F_tr (zq_F_wr ?_) (zq_F_wr ?_)))) <;> unfold zf_Ve <;> omega
  have z0 : k0 174 0 = 0 ∧ k0 175 0 = 0 ∧ k0 179 0 = 0 ∧ k0 146 57 = 0 ∧ k0 146 70 = 0 := by
    rw [hk0]
    refine ⟨?_, ?_, ?_, ?_, ?_⟩
    · rw [zq_wr_n (by decide), zq_wr_n (by decide), zq_wr_n (by decide), zq_wr_n (by decide), zq_wr_e]
    · rw [zq_wr_n (by decide), zq_wr_n (by decide), zq_wr_n (by decide), zq_wr_e]
    · rw [zq_wr_n (by decide), zq_wr_n (by decide), zq_wr_e]
    · rw [zq_wr_i (by decide), zq_wr_e]
    · rw [zq_wr_e]
  have rd : ∀ g : zm_H, zq_F (fun a i => (a = 176 ∧ 0 ≤ i ∧ i < 40) ∨ (a = 177 ∧ 0 ≤ i ∧ i < 8) ∨ (a = 178 ∧ 0 ≤ i ∧ i < 64)) k0 g → g 146 13 = b ∧ g 148 b = K ∧ g 151 b = L ∧ g 158 b = pu ∧ (∀ i : Nat, i < 8 * L → ∀ j : Int, j = 40 * b + i → g 152 j = F i) := by
    intro g f
    have e : ∀ (a : Nat) (i : Int), a = 148 ∨ a = 151 ∨ a = 158 ∨ a = 152 ∨ (a = 146 ∧ i = 13) → g a i = h a i := fun a i ha => by
      rw [f a i (by omega), P0 a i (by unfold zf_Ve; omega)]
    refine ⟨?_, ?_, ?_, ?_, fun i hi j hj => ?_⟩
    · rw [e 146 13 (by omega)]; exact h13
    · rw [e 148 b (by omega)]; exact hK
    · rw [e 151 b (by omega)]; exact hL
    · rw [e 158 b (by omega)]; exact hpu
    · rw [e 152 j (by omega)]; exact hF i hi j hj
  have fin : ∀ g : zm_H, zq_F (fun a i => (a = 176 ∧ 0 ≤ i ∧ i < 40) ∨ (a = 177 ∧ 0 ≤ i ∧ i < 8) ∨ (a = 178 ∧ 0 ≤ i ∧ i < 64)) k0 g → (∀ i : Nat, i < 40 → g 176 i = F i) → (∀ i : Nat, i < 8 → g 177 i = pu) → (∀ i : Nat, i < 64 → g 178 i = 0) → zq_F (fun a i => (a = 146 ∧ (i = 57 ∨ i = 70)) ∨ zf_Ve 0 a i) h g ∧ zv_W g 0 F (fun _ => pu) (fun _ => 0) ∧ g 174 0 = 0 ∧ g 175 0 = 0 ∧ g 179 0 = 0 ∧ g 146 57 = 0 ∧ g 146 70 = 0 := by
    intro g f a1 a2 a3
    refine ⟨zq_F_tr P0 (zq_F_wk f (fun a i q => by unfold zf_Ve; omega)), ⟨by decide, fun i hi j hj => ?_, fun i hi j hj => ?_, fun i hi j hj => ?_⟩, ?_, ?_, ?_, ?_, ?_⟩
    · rw [show j = (i : Int) by omega]; exact a1 i hi
    · rw [show j = (i : Int) by omega]; exact a2 i hi
    · rw [show j = (i : Int) by omega]; exact a3 i hi
    · rw [f 174 0 (by omega)]; exact z0.1
    · rw [f 175 0 (by omega)]; exact z0.2.1
    · rw [f 179 0 (by omega)]; exact z0.2.2.1
    · rw [f 146 57 (by omega)]; exact z0.2.2.2.1
    · rw [f 146 70 (by omega)]; exact z0.2.2.2.2
  have key3 : ∀ (m i : Nat) (g : zm_H), i + m = 64 → zq_F (fun a i => (a = 176 ∧ 0 ≤ i ∧ i < 40) ∨ (a = 177 ∧ 0 ≤ i ∧ i < 8) ∨ (a = 178 ∧ 0 ≤ i ∧ i < 64)) k0 g → (∀ i : Nat, i < 40 → g 176 i = F i) → (∀ i : Nat, i < 8 → g 177 i = pu) → (∀ k : Nat, k < i → g 178 k = 0) → zu (zr none 1 197 132 [zm_A 146, zm_I i] [] g) (fun g => zq_F (fun a i => (a = 146 ∧ (i = 57 ∨ i = 70)) ∨ zf_Ve 0 a i) h g ∧ zv_W g 0 F (fun _ => pu) (fun _ => 0) ∧ g 174 0 = 0 ∧ g 175 0 = 0 ∧ g 179 0 = 0 ∧ g 146 57 = 0 ∧ g 146 70 = 0) := by
    intro m
    induction m with
    | zero => intro i g hi f a1 a2 a3; exact zt_l e_197_132 (zt_f (by omega) (zu_e (fin g f a1 a2 (fun k hk => a3 k (by omega)))))
    | succ m ih =>
      intro i g hi f a1 a2 a3
      refine zt_l e_197_132 (zt_t (by omega) (zt_c (by omega) (zt_c (by omega) ?_)))
      rw [show (i : Int) + 1 = ((i + 1 : Nat) : Int) by omega]
      refine ih (i + 1) _ (by omega) (zq_F_tr f (zq_F_wr (by omega))) (fun k hk => ?_) (fun k hk => ?_) (fun k hk => ?_)
      · rw [zq_wr_n (by decide)]; exact a1 k hk
      · rw [zq_wr_n (by decide)]; exact a2 k hk
      · by_cases e : k = i
        · subst e; rw [zq_wr_e]
        · rw [zq_wr_i (by omega)]; exact a3 k (by omega)
  have key2 : ∀ (m i : Nat) (g : zm_H), i + m = 8 → zq_F (fun a i => (a = 176 ∧ 0 ≤ i ∧ i < 40) ∨ (a = 177 ∧ 0 ≤ i ∧ i < 8) ∨ (a = 178 ∧ 0 ≤ i ∧ i < 64)) k0 g → (∀ i : Nat, i < 40 → g 176 i = F i) → (∀ k : Nat, k < i → g 177 k = pu) → zu (zr none 1 197 103 [zm_A 146, zm_I i] [] g) (fun g => zq_F (fun a i => (a = 146 ∧ (i = 57 ∨ i = 70)) ∨ zf_Ve 0 a i) h g ∧ zv_W g 0 F (fun _ => pu) (fun _ => 0) ∧ g 174 0 = 0 ∧ g 175 0 = 0 ∧ g 179 0 = 0 ∧ g 146 57 = 0 ∧ g 146 70 = 0) := by
    intro m
    induction m with
    | zero => intro i g hi f a1 a2; exact zt_l e_197_103 (zt_f (by omega) (key3 64 0 g (by decide) f a1 (fun k hk => a2 k (by omega)) (fun k hk => absurd hk (Nat.not_lt_zero _))))
    | succ m ih =>
      intro i g hi f a1 a2
      obtain ⟨r1, r2, r3, r4, r5⟩ := rd g f
      refine zt_l e_197_103 (zt_t (by omega) ?_)
      rw [r1, r4, show (i : Int) + 1 = ((i + 1 : Nat) : Int) by omega]
      refine zt_c (by omega) (zt_c (by omega) (zt_c (by omega) (ih (i + 1) _ (by omega) (zq_F_tr f (zq_F_wr (by omega))) (fun k hk => ?_) (fun k hk => ?_))))
      · rw [zq_wr_n (by decide)]; exact a1 k hk
      · by_cases e : k = i
        · subst e; rw [zq_wr_e]
        · rw [zq_wr_i (by omega)]; exact a2 k (by omega)
  have key : ∀ (m i : Nat) (g : zm_H), i + m = 40 → zq_F (fun a i => (a = 176 ∧ 0 ≤ i ∧ i < 40) ∨ (a = 177 ∧ 0 ≤ i ∧ i < 8) ∨ (a = 178 ∧ 0 ≤ i ∧ i < 64)) k0 g → (∀ k : Nat, k < i → g 176 k = F k) → zu (zr none 1 197 33 [zm_A 146, zm_I i] [] g) (fun g => zq_F (fun a i => (a = 146 ∧ (i = 57 ∨ i = 70)) ∨ zf_Ve 0 a i) h g ∧ zv_W g 0 F (fun _ => pu) (fun _ => 0) ∧ g 174 0 = 0 ∧ g 175 0 = 0 ∧ g 179 0 = 0 ∧ g 146 57 = 0 ∧ g 146 70 = 0) := by
    intro m
    induction m with
    | zero => intro i g hi f a1; exact zt_l e_197_33 (zt_f (by omega) (key2 8 0 g (by decide) f (fun k hk => a1 k (by omega)) (fun k hk => absurd hk (Nat.not_lt_zero _))))
    | succ m ih =>
      intro i g hi f a1
      obtain ⟨r1, r2, r3, r4, r5⟩ := rd g f
      have go : ∀ v : Int, v = F i → zu (zr none 1 197 33 [zm_A 146, zm_I ((i + 1 : Nat) : Int)] [] (zm_wr g 176 i v)) (fun g => zq_F (fun a i => (a = 146 ∧ (i = 57 ∨ i = 70)) ∨ zf_Ve 0 a i) h g ∧ zv_W g 0 F (fun _ => pu) (fun _ => 0) ∧ g 174 0 = 0 ∧ g 175 0 = 0 ∧ g 179 0 = 0 ∧ g 146 57 = 0 ∧ g 146 70 = 0) := by
        intro v hv
        refine ih (i + 1) _ (by omega) (zq_F_tr f (zq_F_wr (by omega))) (fun k hk => ?_)
        by_cases e : k = i
        · subst e; rw [zq_wr_e]; exact hv
        · rw [zq_wr_i (by omega)]; exact a1 k (by omega)
      have ed : (i : Int).tdiv 8 = ((i / 8 : Nat) : Int) := by rw [zq_tdiv (by omega)]; omega
      have em : (i : Int).tmod 8 = ((i % 8 : Nat) : Int) := by rw [zq_tmod (by omega)]; omega
      refine zt_l e_197_33 (zt_t (by omega) ?_)
      rw [r1, r2, r3, ed, em, show (i : Int) + 1 = ((i + 1 : Nat) : Int) by omega]
      refine zt_c (by omega) (zt_c (by omega) (zt_p (fun q1 => zt_c (by omega) (zt_c (by omega) (zt_p (fun q2 => zt_c (by omega) (zt_c (by omega) (zt_c (by omega) (zt_c (by omega) (zt_c (by omega) ?_))))) (fun q2 => zt_c (by omega) (zt_c (by omega) ?_))))) (fun q1 => zt_c (by omega) (zt_c (by omega) ?_))))
      · rw [r5 i (by omega) _ rfl]; exact go _ rfl
      · exact go 0 (hz i (by omega) (Or.inr (by omega))).symm
      · exact go 0 (hz i (by omega) (Or.inl (by omega))).symm
  refine zt_l e_197 (zt_c (by decide) (zt_c (by decide) (zt_c (by decide) (zt_c (Or.inl rfl) ?_))))
  rw [← hk0]
  exact key 40 0 k0 (by decide) zq_F_rf (fun k hk => absurd hk (Nat.not_lt_zero _))
theorem zw_RD_0 {wo sz re fe ru : Nat → Int} {lk : Nat → Nat → Int} {nk nc : Nat → List Nat} (e33 : h 146 33 = 0) (e : h 148 b = 0 ∧ h 151 b = 0 ∧ h 153 b = 0 ∧ h 158 b = 50 ∧ h 159 b = -1 ∧ h 161 b = -1) : zw_RD h b 0 0 0 wo sz re fe ru lk nk nc (fun _ => 0) 50 [] 0 0 0 0 :=
  ⟨⟨e.1, e.2.1, e.2.2.1⟩, fun k hk => absurd hk (Nat.not_lt_zero _), fun k hk => absurd hk (Nat.not_lt_zero _), fun c k hc => absurd hc (Nat.not_lt_zero _), ⟨fun k hk => absurd hk (Nat.not_lt_zero _), fun k hk => absurd hk (Nat.not_lt_zero _)⟩, fun i hi => absurd hi (Nat.not_lt_zero _), e.2.2.2.1, ⟨e33, fun i hi => absurd hi (Nat.not_lt_zero _)⟩, fun _ => e.2.2.2.2.1, fun q => absurd rfl q, fun _ => e.2.2.2.2.2, fun q => absurd rfl q⟩
/-- how fete ends on the class's side with a FAULT -/
theorem zw_5f {m : Int} {k a : Nat} (hpf : zf_F pf) (ht : zf_F t) (h42 : h1 4 2 = pf) (hm : h1 145 1 = m) (hmb : 0 ≤ m ∧ m ≤ 1000000) (X : zi (zc 74 [zm_A 29, zm_A pf] h1) (fun z g => z = 0 ∧ zq_F (fun a i => zf_Pd pf a i ∨ (a = 29 ∧ i = 1)) h1 g ∧ g 29 2 = k ∧ g 29 3 = a)) : zi (zc 5 [zm_A 4] h1) (fun z g => z = -1 ∧ zq_F (zf_5f pf) h1 g ∧ g 29 2 = k ∧ g 29 3 = a ∧ g 5 1 = 0 ∧ g 145 1 = m + 1) := by
  have pf18 := zf_F_ne hpf
  have t18 := zf_F_ne ht
  have hz := hpf
  have hzt := ht
  unfold zf_F at hz hzt
  refine zt_l (e_5s hpf ht) (zt_c h42 (zt_I X ?_))
  rintro z g ⟨rfl, f', r2, r3⟩
  have e145 : (zm_wr g 5 1 0) 145 ((1 : Nat) : Int) = m := by rw [zq_wr_n (by decide), f' 145 _ (by unfold zf_Pd; omega)]; exact hm
  refine zt_t rfl (zt_I (s_2 (w := 1) (n := m) (by decide) e145 hmb) ?_)
  rintro z g' ⟨rfl, rfl⟩
  refine zi_e ⟨rfl, ?_, ?_, ?_, ?_, ?_⟩
  · exact zq_F_tr (zq_F_wk f' (fun a i q => by unfold zf_Pd at q; unfold zf_5f zf_Pd; omega)) (zq_F_tr (zq_F_wr (by unfold zf_5f; omega)) (zq_F_wr (by unfold zf_5f; omega)))
  · rw [zq_wr_n (by decide), zq_wr_n (by decide)]; exact r2
  · rw [zq_wr_n (by decide), zq_wr_n (by decide)]; exact r3
  · rw [zq_wr_n (by decide), zq_wr_e]
  · exact zq_wr_e
/-- ... when all is told -/
theorem zw_5k {N : Nat} (hpf : zf_F pf) (ht : zf_F t) (htp : t ≠ pf) (h41 : h1 4 1 = t) (h42 : h1 4 2 = pf) (X : zi (zc 74 [zm_A 29, zm_A pf] h1) (fun z g => z = 1 ∧ zq_F (fun a i => zf_Pd pf a i ∨ (a = 29 ∧ i = 1)) h1 g ∧ g pf 0 = N ∧ (g 29 2 = 0 ∧ g 29 3 = -1) ∧ zw_CD g pf K L C wo sz re fe ru lk nk nc F pu l cf ct qf qt)) : zi (zc 5 [zm_A 4] h1) (fun z g => z = N ∧ zq_F (zf_5k pf) h1 g ∧ (g 4 1 = pf ∧ g 4 2 = t ∧ g 4 17 = 0) ∧ (g 29 2 = 0 ∧ g 29 3 = -1) ∧ g 5 1 = 0 ∧ zw_CD g pf K L C wo sz re fe ru lk nk nc F pu l cf ct qf qt ∧ zv_T g 32 F (fun c => if c < C then pu else 0) (fun _ => 0) ∧ (g 32 0 = 0 ∧ g 32 1 = 0) ∧ (g 44 3 = 0 ∧ g 44 4 = 0 ∧ g 44 5 = 0)) := by
  have pf18 := zf_F_ne hpf
  have t18 := zf_F_ne ht
  have hz := hpf
  have hzt := ht
  unfold zf_F at hz hzt
  refine zt_l (e_5s hpf ht) (zt_c h42 (zt_I X ?_))
  rintro z g ⟨rfl, f', r0, r1, D⟩
  have g4 : ∀ i : Int, g 4 i = h1 4 i := fun i => f' 4 i (by unfold zf_Pd; omega)
  obtain ⟨ga, hga⟩ : ∃ ga, ga = zm_wr (zm_wr (zm_wr g 5 1 0) 4 1 (pf : Int)) 4 2 (t : Int) := ⟨_, rfl⟩
  rw [← hga]
  have kga : ∀ a : Nat, a ≠ 4 → a ≠ 5 → ga a = g a := fun a q1 q2 => by funext i; rw [hga, zq_wr_n q1, zq_wr_n q1, zq_wr_n q2]
  have Da : zw_CD ga pf K L C wo sz re fe ru lk nk nc F pu l cf ct qf qt := D.kp (fun a q1 q2 => kga a (by omega) (by omega))
  refine zt_f (by decide) (zt_c (by rw [zq_wr_n (by decide), g4]; exact h41) (zt_c (by rw [zq_wr_n (by decide), g4]; exact h42) (zt_c (by rw [hga, zq_wr_i (by decide), zq_wr_e]) (zt_V (s_143 zf_T_32 hpf Da.1.2.2.2.1 Da.2.2.2.1 Da.2.2.1) ?_))))
  rintro gb ⟨fb, Tb, b0, b1⟩
  refine zt_V (s_67 (sP := fun _ _ => 0) (sU := fun _ _ => 0) (sH := fun _ _ => 0) (sh := fun _ => 0) (sd := fun _ => 0) (lc := fun _ => 0) (lk := fun _ => 0) (lh := fun _ => 0) (lo := fun _ => 0)) ?_
  rintro gc ⟨fc, Lc⟩
  have kb : ∀ a : Nat, a < 32 → gb a = ga a := fun a ha => by funext i; exact fb a i (by unfold zf_To; omega)
  have kc : ∀ a : Nat, a ≠ 44 → gc a = gb a := fun a ha => by funext i; exact fc a i (by omega)
  obtain ⟨gd, hgd⟩ : ∃ gd, gd = zm_wr gc 4 17 0 := ⟨_, rfl⟩
  rw [← hgd]
  have kd : ∀ a : Nat, a ≠ 4 → gd a = gc a := fun a ha => by funext i; rw [hgd, zq_wr_n ha]
  have kall : ∀ a : Nat, a < 32 → a ≠ 4 → a ≠ 5 → gd a = g a := fun a q1 q2 q3 => by rw [kd a q2, kc a (by omega), kb a q1, kga a q2 q3]
  have gd4 : ∀ i : Int, i ≠ 17 → gd 4 i = ga 4 i := fun i hi => by rw [hgd, zq_wr_i hi, kc 4 (by decide), kb 4 (by decide)]
  refine zt_c (Or.inl rfl) (zt_c (by rw [gd4 1 (by decide), hga, zq_wr_i (by decide), zq_wr_e]) (zi_e ⟨?_, ?_, ⟨?_, ?_, ?_⟩, ?_, ?_, ?_, ?_, ?_, ?_⟩))
  · rw [kall pf (by omega) (by omega) (by omega)]; exact r0
  · rw [hgd]
    refine zq_F_tr (zq_F_wk f' (fun a i q => by unfold zf_Pd at q; unfold zf_5k zf_Pd; omega)) (zq_F_tr (g := gc) ?_ (zq_F_wr (by unfold zf_5k; omega)))
    refine zq_F_tr (zq_F_tr (g := ga) ?_ (zq_F_wk fb (fun a i q => by unfold zf_To at q; unfold zf_5k zf_To; omega))) (zq_F_wk fc (fun a i q => by unfold zf_5k zf_To; omega))
    rw [hga]
    exact zq_F_tr (zq_F_wr (by unfold zf_5k; omega)) (zq_F_tr (zq_F_wr (by unfold zf_5k; omega)) (zq_F_wr (by unfold zf_5k; omega)))
  · rw [gd4 1 (by decide), hga, zq_wr_i (by decide), zq_wr_e]
  · rw [gd4 2 (by decide), hga, zq_wr_e]
  · rw [hgd, zq_wr_e]
  · rw [kall 29 (by decide) (by decide) (by decide)]; exact r1
  · rw [kd 5 (by decide), kc 5 (by decide), kb 5 (by decide), hga, zq_wr_n (by decide), zq_wr_n (by decide), zq_wr_e]
  · exact D.kp (fun a q1 q2 => kall a (by omega) (by omega) (by omega))
  · obtain ⟨t1, t2, t3, t4⟩ := Tb
    refine ⟨t1, ?_, ?_, ?_⟩
    · rw [kd _ (by decide), kc _ (by decide)]; exact t2
    · rw [kd _ (by decide), kc _ (by decide)]; exact t3
    · rw [kd _ (by decide), kc _ (by decide)]; exact t4
  · rw [kd 32 (by decide), kc 32 (by decide)]; exact ⟨b0, b1⟩
  · rw [kd 44 (by decide)]; exact ⟨Lc.2.1, Lc.2.2.1, Lc.1⟩
/-- on the reference's side with a FAULT -/
theorem zw_6f {m' : Int} {k a : Nat} {x : Int} (hmb' : 0 ≤ m' ∧ m' ≤ 1000000) (q1 : zq_F (zf_6f b) h2 g) (q2 : g 146 1 = 0) (q3 : g 173 1 = m') (v : zw_lv g T n b (.inl (k, a))) : zi (zr none 8 158 139 [zm_A 146, zm_I x] [] g) (fun z g => z = -1 ∧ zq_F (zf_6f b) h2 g ∧ g 146 10 = k ∧ g 146 11 = a ∧ g 146 1 = 0 ∧ g 173 1 = m' + 1) := by
  have d := v.dead
  have e8 : (zm_wr (zm_wr g 146 10 (g 146 8)) 146 11 ((zm_wr g 146 10 (g 146 8)) 146 9)) 146 8 = k := by rw [zq_wr_i (by decide), zq_wr_i (by decide)]; exact d.2.1
  have e173 : (zm_wr (zm_wr g 146 10 (g 146 8)) 146 11 ((zm_wr g 146 10 (g 146 8)) 146 9)) 173 ((1 : Nat) : Int) = m' := by rw [zq_wr_n (by decide), zq_wr_n (by decide)]; exact q3
  refine zt_l e_158_139 (zt_f (by rw [e8]; omega) (zi_m (zt_rn (w := 1) (by decide) e173 hmb') (fun z g' r => ?_)))
  obtain ⟨rfl, rfl⟩ := r
  refine ⟨rfl, ?_, ?_, ?_, ?_, ?_⟩
  · exact zq_F_tr q1 (zq_F_tr (zq_F_wr (by unfold zf_6f; omega)) (zq_F_tr (zq_F_wr (by unfold zf_6f; omega)) (zq_F_wr (by unfold zf_6f; omega))))
  · rw [zq_wr_n (by decide), zq_wr_i (by decide), zq_wr_e]; exact d.2.1
  · rw [zq_wr_n (by decide), zq_wr_e, zq_wr_i (by decide)]; exact d.2.2
  · rw [zq_wr_n (by decide), zq_wr_i (by decide), zq_wr_i (by decide)]; exact q2
  · exact zq_wr_e
/-- ... when all is told -/
theorem zw_6k {m' : Int} {N : Nat} (hb : b < 2) (PD : zw_PD K L C wo sz re fe ru lk nk nc F pu l cf ct qf qt n) (q1 : zq_F (zf_6f b) h2 g) (q2 : g 146 1 = 0) (q3 : g 173 1 = m') (e8 : g 146 8 = 0) (e9 : g 146 9 = -1) (e34 : g 146 34 = b) (D : zw_RD g b K L C wo sz re fe ru lk nk nc F pu l cf ct qf qt) : zi (zr none 8 158 139 [zm_A 146, zm_I N] [] g) (fun z g => z = N ∧ zq_F (zf_6k b) h2 g ∧ g 146 13 = b ∧ (g 146 10 = 0 ∧ g 146 11 = -1) ∧ g 146 1 = 0 ∧ zw_RD g b K L C wo sz re fe ru lk nk nc F pu l cf ct qf qt ∧ zv_W g 0 F (fun _ => pu) (fun _ => 0) ∧ (g 174 0 = 0 ∧ g 175 0 = 0 ∧ g 179 0 = 0) ∧ g 146 57 = 0 ∧ g 146 70 = 0 ∧ g 173 1 = m') := by
  obtain ⟨ga, hga⟩ : ∃ ga, ga = zm_wr (zm_wr g 146 10 (g 146 8)) 146 11 ((zm_wr g 146 10 (g 146 8)) 146 9) := ⟨_, rfl⟩
  refine zt_l e_158_139 ?_
  rw [← hga]
  have ga8 : ga 146 8 = 0 := by rw [hga, zq_wr_i (by decide), zq_wr_i (by decide)]; exact e8
  have ga34 : ga 146 34 = b := by rw [hga, zq_wr_i (by decide), zq_wr_i (by decide)]; exact e34
  have ga1 : ga 146 1 = 0 := by rw [hga, zq_wr_i (by decide), zq_wr_i (by decide)]; exact q2
  have ga10 : ga 146 10 = 0 ∧ ga 146 11 = -1 := by
    rw [hga]
    exact ⟨by rw [zq_wr_i (by decide), zq_wr_e]; exact e8, by rw [zq_wr_e, zq_wr_i (by decide)]; exact e9⟩
  have ka : ∀ a : Nat, a ≠ 146 → ga a = g a := fun a ha => by funext i; rw [hga, zq_wr_n ha, zq_wr_n ha]
  rw [ga34]
  obtain ⟨gb, hgb⟩ : ∃ gb, gb = zm_wr ga 146 13 (b : Int) := ⟨_, rfl⟩
  rw [← hgb]
  have kb : ∀ a : Nat, a ≠ 146 → gb a = ga a := fun a ha => by funext i; rw [hgb, zq_wr_n ha]
  have kb6 : ∀ i : Int, i ≠ 13 → gb 146 i = ga 146 i := fun i hi => by rw [hgb, zq_wr_i hi]
  have Db : zw_RD gb b K L C wo sz re fe ru lk nk nc F pu l cf ct qf qt := D.kp (fun a p1 p2 => by rw [kb a (by omega), ka a (by omega)]) (by rw [kb6 33 (by decide), hga, zq_wr_i (by decide), zq_wr_i (by decide)])
  have Fb : zq_F (zf_6k b) h2 gb := by
    rw [hgb, hga]
    exact zq_F_tr (zq_F_wk q1 (fun a i q => Or.inl q)) (zq_F_tr (zq_F_wr (by unfold zf_6k zf_6f; omega)) (zq_F_tr (zq_F_wr (by unfold zf_6k zf_6f; omega)) (zq_F_wr (by unfold zf_6k; omega))))
  refine zt_t (by omega) (zt_V (s_197 (K := K) (L := L) (F := F) (pu := pu) hb (by rw [hgb, zq_wr_e]) Db.1.1 Db.1.2.1 PD.1.1 PD.1.2.1 Db.2.2.2.2.2.2.1 Db.2.2.2.2.2.1 PD.2.2.2.1) ?_)
  rintro gc ⟨fc, Wc, c1, c2, c3, c4, c5⟩
  have kc6 : ∀ i : Int, i ≠ 57 → i ≠ 70 → gc 146 i = gb 146 i := fun i i1 i2 => fc 146 i (by unfold zf_Ve; omega)
  refine zi_e ⟨rfl, ?_, ?_, ⟨?_, ?_⟩, ?_, ?_, Wc, ⟨c1, c2, c3⟩, c4, c5, by rw [fc 173 1 (by unfold zf_Ve; omega), kb 173 (by decide), ka 173 (by decide)]; exact q3⟩
  · exact zq_F_tr Fb (zq_F_wk fc (fun a i q => by unfold zf_Ve at q; unfold zf_6k zf_Ve; omega))
  · rw [kc6 13 (by decide) (by decide), hgb, zq_wr_e]
  · rw [kc6 10 (by decide) (by decide), kb6 10 (by decide)]; exact ga10.1
  · rw [kc6 11 (by decide) (by decide), kb6 11 (by decide)]; exact ga10.2
  · rw [kc6 1 (by decide) (by decide), kb6 1 (by decide)]; exact ga1
  · exact Db.kp (fun a p1 p2 => by funext i; exact fc a i (by unfold zf_Ve; omega)) (kc6 33 (by decide) (by decide))
/-- how fete goes on both sides -/
theorem zw_fete {m m' : Int} (hpf : zf_F pf) (ht : zf_F t) (htp : t ≠ pf) (h41 : h1 4 1 = t) (h42 : h1 4 2 = pf) (hTa : zv_Ta h1 n T) (hTb : zv_Tb h2 n T) (hb255 : ∀ i, 0 ≤ T i ∧ T i ≤ 255) (hW : ∀ w : Nat, w < 25 → h1 31 w = zp_p5 (zy_w w)) (hm : h1 145 1 = m) (hm' : h2 173 1 = m') (hmb : 0 ≤ m ∧ m ≤ 1000000) (hmb' : 0 ≤ m' ∧ m' ≤ 1000000) (hb : b < 2) (h13 : h2 146 13 = 1 - (b : Int)) :
    (∃ k a : Nat, zi (zc 5 [zm_A 4] h1) (fun z g => z = -1 ∧ zq_F (zf_5f pf) h1 g ∧ g 29 2 = k ∧ g 29 3 = a ∧ g 5 1 = 0 ∧ g 145 1 = m + 1) ∧ zi (zc 158 [zm_A 146] h2) (fun z g => z = -1 ∧ zq_F (zf_6f b) h2 g ∧ g 146 10 = k ∧ g 146 11 = a ∧ g 146 1 = 0 ∧ g 173 1 = m' + 1)) ∨
    ∃ (N K L C : Nat) (wo sz re fe ru : Nat → Int) (lk : Nat → Nat → Int) (nk nc : Nat → List Nat) (F : Nat → Int) (pu : Int) (l : List Int) (cf ct qf qt : Nat), N ≤ 80 ∧ zw_PD K L C wo sz re fe ru lk nk nc F pu l cf ct qf qt n ∧
      zi (zc 5 [zm_A 4] h1) (fun z g => z = N ∧ zq_F (zf_5k pf) h1 g ∧ (g 4 1 = pf ∧ g 4 2 = t ∧ g 4 17 = 0) ∧ (g 29 2 = 0 ∧ g 29 3 = -1) ∧ g 5 1 = 0 ∧ zw_CD g pf K L C wo sz re fe ru lk nk nc F pu l cf ct qf qt ∧ zv_T g 32 F (fun c => if c < C then pu else 0) (fun _ => 0) ∧ (g 32 0 = 0 ∧ g 32 1 = 0) ∧ (g 44 3 = 0 ∧ g 44 4 = 0 ∧ g 44 5 = 0)) ∧
      zi (zc 158 [zm_A 146] h2) (fun z g => z = N ∧ zq_F (zf_6k b) h2 g ∧ g 146 13 = b ∧ (g 146 10 = 0 ∧ g 146 11 = -1) ∧ g 146 1 = 0 ∧ zw_RD g b K L C wo sz re fe ru lk nk nc F pu l cf ct qf qt ∧ zv_W g 0 F (fun _ => pu) (fun _ => 0) ∧ (g 174 0 = 0 ∧ g 175 0 = 0 ∧ g 179 0 = 0) ∧ g 146 57 = 0 ∧ g 146 70 = 0 ∧ g 173 1 = m') := by
  have pf18 := zf_F_ne hpf
  have t18 := zf_F_ne ht
  have hz := hpf
  have hzt := ht
  unfold zf_F at hz hzt
  have CT : zy_CT h1 T n := ⟨hTa.2.1, fun i _ => hb255 i, hTa.1, hTa.2.2, hW⟩
  obtain ⟨g1, f1, K1, e1, D1, z1⟩ := s_74 (n := n) (T := T) (h := h1) hpf CT
  obtain ⟨k0, fk0, ⟨a1, a2, a3, a4, a5, a6, a7⟩, ab, zk0⟩ := s_158_0 (h := h2) hb h13
  have RT0 : zy_RT k0 T n := ⟨hTb.2.1, fun i _ => hb255 i, a1.trans hTb.1, fun i hi => by rw [fk0 147 i (by omega)]; exact hTb.2.2 i hi⟩
  obtain ⟨v3, g2, x3, rfl, ⟨f3, R3⟩, S3⟩ := zu_and (s_159 (q := 0) (gl := false) RT0 (Nat.zero_le _) a3 ⟨fun q => absurd q (by decide), fun q => absurd q.1 (by decide)⟩) (s_159_3 (q := 0) RT0 (Nat.zero_le _) a3)
  have k9 : ∀ (a : Nat) (i : Int), ¬ zf_Sr a i → g2 a i = k0 a i := fun a i q => f3 a i q
  have V0 : zw_lv g2 T n b (.inr (0, false)) := zw_lv_r (RT0.kp f3) (by rw [k9 146 34 (by unfold zf_Sr; omega)]; exact a7) hb (by rw [k9 146 8 (by unfold zf_Sr; omega)]; exact a4) (Nat.zero_le _) R3 (by rw [k9 146 9 (by unfold zf_Sr; omega)]; exact a5)
  have RD0 : zw_RD g2 b 0 0 0 (fun _ => 0) (fun _ => 0) (fun _ => 0) (fun _ => 0) (fun _ => 0) (fun _ _ => 0) (fun _ => []) (fun _ => []) (fun _ => 0) 50 [] 0 0 0 0 := zw_RD_0 (by rw [k9 146 33 (by unfold zf_Sr; omega)]; exact a6) (by
    rw [k9 148 b (by unfold zf_Sr; omega), k9 151 b (by unfold zf_Sr; omega), k9 153 b (by unfold zf_Sr; omega), k9 158 b (by unfold zf_Sr; omega), k9 159 b (by unfold zf_Sr; omega), k9 161 b (by unfold zf_Sr; omega)]
    exact ab)
  have LP := zw_loop (T := T) (n := n) (b := b) hpf (w1 := zm_A pf) (by show zm_cat (zm_A pf) ≠ 2; exact fun e => absurd (show (1 : Nat) = 2 from e) (by decide)) (n + 1) 0 false 0 g1 g2 0 0 0 (fun _ => 0) (fun _ => 0) (fun _ => 0) (fun _ => 0) (fun _ => 0) (fun _ _ => 0) (fun _ => []) (fun _ => []) (fun _ => 0) 50 [] 0 0 0 0 (by omega) K1 e1 (by decide) zw_PD_0 (D1 _ _ _ _ _ _ _ _) (Or.inl ⟨V0, RD0, Or.inl (by decide), S3⟩)
  have clas : ∀ {Q : Int → zm_H → Prop}, zi (zr none 93 74 31 [zm_A 29, zm_A pf, zm_I ((0 : Nat) : Int)] [] g1) Q → zi (zc 74 [zm_A 29, zm_A pf] h1) Q := fun q => zt_l z1 q
  have refe : ∀ {Q : Int → zm_H → Prop}, zi (zr none 8 158 110 [zm_A 146, zm_I ((0 : Nat) : Int)] [] g2) Q → zi (zc 158 [zm_A 146] h2) Q := fun q => zk0 _ (zt_V (show zu (zc 159 [zm_A 146] k0) (fun g => g = g2) from ⟨_, g2, x3, rfl, rfl⟩) (fun g hg => by rw [hg]; exact q))
  have F12 : zq_F (fun a i => zf_Pd pf a i ∨ (a = 29 ∧ i = 1)) h1 g1 := f1
  have F02 : zq_F (zf_6f b) h2 g2 := by
    refine zq_F_tr (zq_F_wk fk0 (fun a i q => ?_)) (zq_F_wk f3 (fun a i q => ?_))
    · rcases q with ⟨q1, q2⟩ | ⟨q1, q2⟩
      · exact Or.inr (Or.inl ⟨q1, by omega⟩)
      · exact Or.inl (Or.inr (Or.inl ⟨by omega, q2⟩))
    · unfold zf_Sr at q
      exact Or.inl (Or.inl ⟨by omega, by omega⟩)
  have h2k : ∀ g : zm_H, zq_F (zf_Pr b) g2 g → zq_F (zf_6f b) h2 g ∧ g 146 1 = 0 ∧ g 173 1 = m' ∧ g 146 13 = 1 - (b : Int) := fun g f => by
    refine ⟨zq_F_tr F02 (zq_F_wk f (fun a i q => Or.inl q)), ?_, ?_, ?_⟩
    · rw [f 146 1 (by unfold zf_Pr; omega), k9 146 1 (by unfold zf_Sr; omega)]; exact a2
    · rw [f 173 1 (by unfold zf_Pr; omega), k9 173 1 (by unfold zf_Sr; omega), fk0 173 1 (by omega)]; exact hm'
    · rw [f 146 13 (by unfold zf_Pr; omega), k9 146 13 (by unfold zf_Sr; omega), fk0 146 13 (by omega)]; exact h13
  have tra : ∀ g : zm_H, zq_F (zf_Pd pf) g1 g → zq_F (fun a i => zf_Pd pf a i ∨ (a = 29 ∧ i = 1)) h1 g := fun g f => zq_F_tr f1 (zq_F_wk f (fun a i q => Or.inl q))
  rcases LP with ⟨k, a, X, Y⟩ | ⟨N, K, L, C, wo, sz, re, fe, ru, lk, nk, nc, F, pu, l, cf, ct, qf, qt, hN, PD, X, Y⟩
  · exact Or.inl ⟨k, a, zw_5f hpf ht h42 hm hmb (zi_m (clas X) (fun z g r => ⟨r.1, tra g r.2.1, r.2.2⟩)), refe (Y _ (fun x g f v => zw_6f hmb' (h2k g f).1 (h2k g f).2.1 (h2k g f).2.2.1 v))⟩
  · exact Or.inr ⟨N, K, L, C, wo, sz, re, fe, ru, lk, nk, nc, F, pu, l, cf, ct, qf, qt, hN, PD, zw_5k hpf ht htp h41 h42 (zi_m (clas X) (fun z g r => ⟨r.1, tra g r.2.1, r.2.2⟩)), refe (Y _ (fun g f e8 e9 e34 D => zw_6k hb PD (h2k g f).1 (h2k g f).2.1 (h2k g f).2.2.1 e8 e9 e34 D))⟩
end
