/-! COPIES: a Tub, a state of the reference -/
def zf_To (o : Nat) (a : Nat) (i : Int) : Prop := (a = o ∧ (i = 0 ∨ i = 1)) ∨ a = o + 1 ∨ a = o + 2 ∨ a = o + 3
def zf_Ve (v : Nat) (a : Nat) (i : Int) : Prop := ((a = 174 ∨ a = 175 ∨ a = 179) ∧ i = v) ∨ (a = 176 ∧ 40 * (v : Int) ≤ i ∧ i < 40 * (v : Int) + 40) ∨ (a = 177 ∧ 8 * (v : Int) ≤ i ∧ i < 8 * (v : Int) + 8) ∨ (a = 178 ∧ 64 * (v : Int) ≤ i ∧ i < 64 * (v : Int) + 64) ∨ (180 ≤ a ∧ a ≤ 183 ∧ 60 * (v : Int) ≤ i ∧ i < 60 * (v : Int) + 60)
/-- what is kept: of the reference's state v -/
def zv_E (h : zm_H) (v m : Nat) (kc kk kh ko : Nat → Int) : Prop := h 179 v = m ∧ m ≤ 60 ∧ ∀ i : Nat, i < m → ∀ j : Int, j = 60 * v + i → h 180 j = kc i ∧ h 181 j = kk i ∧ h 182 j = kh i ∧ h 183 j = ko i
section
variable {h : zm_H} {P Pu Hd : Nat → Int}
theorem zf_T_4 {o : Nat} (h : zf_T o) : o % 4 = 0 := by
  have := zt_of (f := fun o => decide (o % 4 = 0)) (by decide +kernel) h
  exact of_decide_eq_true this
theorem s_152 {o o2 : Nat} (ho : zf_T o) (hT : zv_T h o2 P Pu Hd) (hne : o ≠ o2) : zu (zc 152 [zm_A o, zm_A o2] h) (fun g => zq_F (zf_To o) h g ∧ zv_T g o P Pu Hd ∧ g o 0 = h o2 0 ∧ g o 1 = h o2 1) := by
  have ho2 := hT.1
  have m1 := zf_T_4 ho
  have m2 := zf_T_4 ho2
  have keep : ∀ g, zq_F (zf_To o) h g → ∀ k : Nat, k < 4 → g (o2 + k) = h (o2 + k) := fun g hg k hk => by
    funext i; exact hg _ i (by unfold zf_To; omega)
  have loop3 : ∀ (n i : Nat) (g : zm_H), i + n = 64 → zq_F (zf_To o) h g → (∀ j : Nat, j < 40 → g (o + 1) j = P j) → (∀ j : Nat, j < 8 → g (o + 2) j = Pu j) → (∀ j : Nat, j < i → g (o + 3) j = Hd j) → g o 0 = h o2 0 → g o 1 = h o2 1 → zu (zr none 1 152 76 [zm_A o, zm_A o2, zm_I i] [] g) (fun g => zq_F (zf_To o) h g ∧ zv_T g o P Pu Hd ∧ g o 0 = h o2 0 ∧ g o 1 = h o2 1) := by
    intro n
    induction n with
    | zero =>
      intro i g hi hg h1 h2 h3 h4 h5
      exact zt_l (e_152_76 ho ho2) (zt_f (by omega) (zu_e ⟨hg, ⟨ho, h1, h2, fun j hj => h3 j (by omega)⟩, h4, h5⟩))
    | succ n ih =>
      intro i g hi hg h1 h2 h3 h4 h5
      refine zt_l (e_152_76 ho ho2) (zt_t (by omega) (zt_c (by omega) (zt_c (by omega) (zt_c (by omega) ?_))))
      have e : g (o2 + 3) (i : Int) = Hd i := by rw [keep g hg 3 (by omega)]; exact hT.2.2.2 i (by omega)
      rw [e]
      refine ih (i + 1) _ (by omega) (zq_F_tr hg (zq_F_wr (by unfold zf_To; omega))) (fun j hj => by rw [zq_wr_n (by omega)]; exact h1 j hj) (fun j hj => by rw [zq_wr_n (by omega)]; exact h2 j hj) (fun j hj => ?_) (by rw [zq_wr_n (by omega)]; exact h4) (by rw [zq_wr_n (by omega)]; exact h5)
      by_cases hji : j = i
      · subst hji; exact zq_wr_e
      · rw [zq_wr_i (by omega)]; exact h3 j (by omega)
  have loop2 : ∀ (n i : Nat) (g : zm_H), i + n = 8 → zq_F (zf_To o) h g → (∀ j : Nat, j < 40 → g (o + 1) j = P j) → (∀ j : Nat, j < i → g (o + 2) j = Pu j) → g o 0 = h o2 0 → g o 1 = h o2 1 → zu (zr none 1 152 47 [zm_A o, zm_A o2, zm_I i] [] g) (fun g => zq_F (zf_To o) h g ∧ zv_T g o P Pu Hd ∧ g o 0 = h o2 0 ∧ g o 1 = h o2 1) := by
    intro n
    induction n with
    | zero =>
      intro i g hi hg h1 h2 h4 h5
      exact zt_l (e_152_47 ho ho2) (zt_f (by omega) (loop3 64 0 g (by omega) hg h1 (fun j hj => h2 j (by omega)) (fun j hj => by omega) h4 h5))
    | succ n ih =>
      intro i g hi hg h1 h2 h4 h5
      refine zt_l (e_152_47 ho ho2) (zt_t (by omega) (zt_c (by omega) (zt_c (by omega) (zt_c (by omega) ?_))))
      have e : g (o2 + 2) (i : Int) = Pu i := by rw [keep g hg 2 (by omega)]; exact hT.2.2.1 i (by omega)
      rw [e]
      refine ih (i + 1) _ (by omega) (zq_F_tr hg (zq_F_wr (by unfold zf_To; omega))) (fun j hj => by rw [zq_wr_n (by omega)]; exact h1 j hj) (fun j hj => ?_) (by rw [zq_wr_n (by omega)]; exact h4) (by rw [zq_wr_n (by omega)]; exact h5)
      by_cases hji : j = i
      · subst hji; exact zq_wr_e
      · rw [zq_wr_i (by omega)]; exact h2 j (by omega)
  have loop1 : ∀ (n i : Nat) (g : zm_H), i + n = 40 → zq_F (zf_To o) h g → (∀ j : Nat, j < i → g (o + 1) j = P j) → g o 0 = h o2 0 → g o 1 = h o2 1 → zu (zr none 1 152 18 [zm_A o, zm_A o2, zm_I i] [] g) (fun g => zq_F (zf_To o) h g ∧ zv_T g o P Pu Hd ∧ g o 0 = h o2 0 ∧ g o 1 = h o2 1) := by
    intro n
    induction n with
    | zero =>
      intro i g hi hg h1 h4 h5
      exact zt_l (e_152_18 ho ho2) (zt_f (by omega) (loop2 8 0 g (by omega) hg (fun j hj => h1 j (by omega)) (fun j hj => by omega) h4 h5))
    | succ n ih =>
      intro i g hi hg h1 h4 h5
      refine zt_l (e_152_18 ho ho2) (zt_t (by omega) (zt_c (by omega) (zt_c (by omega) (zt_c (by omega) ?_))))
      have e : g (o2 + 1) (i : Int) = P i := by rw [keep g hg 1 (by omega)]; exact hT.2.1 i (by omega)
      rw [e]
      refine ih (i + 1) _ (by omega) (zq_F_tr hg (zq_F_wr (by unfold zf_To; omega))) (fun j hj => ?_) (by rw [zq_wr_n (by omega)]; exact h4) (by rw [zq_wr_n (by omega)]; exact h5)
      by_cases hji : j = i
      · subst hji; exact zq_wr_e
      · rw [zq_wr_i (by omega)]; exact h1 j (by omega)
  refine zt_l (e_152 ho ho2) (loop1 40 0 _ (by omega) (zq_F_tr (zq_F_wr (by unfold zf_To; omega)) (zq_F_wr (by unfold zf_To; omega))) (fun j hj => by omega) ?_ ?_)
  · rw [zq_wr_i (by decide), zq_wr_e]
  · rw [zq_wr_e, zq_wr_n (by omega)]
theorem s_202 {w v m : Nat} {kc kk kh ko : Nat → Int} (hw : w < 22) (hW : zv_W h v P Pu Hd) (hE : zv_E h v m kc kk kh ko) (hne : w ≠ v) {x1 x2 : Int} (hx1 : x1 = w) (hx2 : x2 = v) : zu (zc 202 [zm_A 146, zm_I x1, zm_I x2] h) (fun g => zq_F (zf_Ve w) h g ∧ zv_W g w P Pu Hd ∧ zv_E g w m kc kk kh ko ∧ g 174 w = h 174 v ∧ g 175 w = h 175 v) := by
  subst hx1
  subst hx2
  obtain ⟨hv, W1, W2, W3⟩ := hW
  obtain ⟨E1, E2, E3⟩ := hE
  have loop4 : ∀ (n i : Nat) (g : zm_H), i + n = m → zq_F (zf_Ve w) h g → zv_W g w P Pu Hd → g 179 w = m → (∀ q : Nat, q < i → ∀ j : Int, j = 60 * w + q → g 180 j = kc q ∧ g 181 j = kk q ∧ g 182 j = kh q ∧ g 183 j = ko q) → g 174 w = h 174 v → g 175 w = h 175 v → zu (zr none 1 202 146 [zm_A 146, zm_I w, zm_I v, zm_I i] [] g) (fun g => zq_F (zf_Ve w) h g ∧ zv_W g w P Pu Hd ∧ zv_E g w m kc kk kh ko ∧ g 174 w = h 174 v ∧ g 175 w = h 175 v) := by
    intro n
    induction n with
    | zero =>
      intro i g hi hg h1 h2 h3 h4 h5
      have e : g 179 (v : Int) = m := by rw [hg 179 v (by unfold zf_Ve; omega)]; exact E1
      refine zt_l e_202_146 (zt_c (by omega) ?_)
      rw [e]
      exact zt_f (by omega) (zu_e ⟨hg, h1, ⟨h2, E2, fun q hq => h3 q (by omega)⟩, h4, h5⟩)
    | succ n ih =>
      intro i g hi hg h1 h2 h3 h4 h5
      have e : g 179 (v : Int) = m := by rw [hg 179 v (by unfold zf_Ve; omega)]; exact E1
      have hs : ∀ a : Nat, 180 ≤ a → a ≤ 183 → g a (60 * (v : Int) + i) = h a (60 * (v : Int) + i) := fun a ha hb => hg a _ (by unfold zf_Ve; omega)
      obtain ⟨k1, k2, k3, k4⟩ := E3 i (by omega) (60 * (v : Int) + i) rfl
      refine zt_l e_202_146 (zt_c (by omega) ?_)
      rw [e]
      refine zt_t (by omega) ?_
      iterate 24 refine zt_c (by omega) ?_
      refine zt_c (by omega) ?_
      have r1 : ∀ x : Int, zm_wr g 180 (60 * (w : Int) + i) x 181 (60 * (v : Int) + i) = kk i := fun x => by rw [zq_wr_n (by decide), hs 181 (by omega) (by omega)]; exact k2
      have r2 : ∀ x y : Int, zm_wr (zm_wr g 180 (60 * (w : Int) + i) x) 181 (60 * (w : Int) + i) y 182 (60 * (v : Int) + i) = kh i := fun x y => by rw [zq_wr_n (by decide), zq_wr_n (by decide), hs 182 (by omega) (by omega)]; exact k3
      have r3 : ∀ x y z : Int, zm_wr (zm_wr (zm_wr g 180 (60 * (w : Int) + i) x) 181 (60 * (w : Int) + i) y) 182 (60 * (w : Int) + i) z 183 (60 * (v : Int) + i) = ko i := fun x y z => by rw [zq_wr_n (by decide), zq_wr_n (by decide), zq_wr_n (by decide), hs 183 (by omega) (by omega)]; exact k4
      rw [r3, r2, r1, hs 180 (by omega) (by omega), k1]
      refine ih (i + 1) _ (by omega) (zq_F_tr hg (zq_F_tr (zq_F_wr (by unfold zf_Ve; omega)) (zq_F_tr (zq_F_wr (by unfold zf_Ve; omega)) (zq_F_tr (zq_F_wr (by unfold zf_Ve; omega)) (zq_F_wr (by unfold zf_Ve; omega)))))) ?_ ?_ (fun q hq j hj => ?_) ?_ ?_
      · exact h1.kp (fun a ha hb => by funext j; rw [zq_wr_n (by omega), zq_wr_n (by omega), zq_wr_n (by omega), zq_wr_n (by omega)])
      · rw [zq_wr_n (by decide), zq_wr_n (by decide), zq_wr_n (by decide), zq_wr_n (by decide)]; exact h2
      · by_cases hqi : q = i
        · subst hqi
          subst hj
          refine ⟨?_, ?_, ?_, ?_⟩
          · rw [zq_wr_n (by decide), zq_wr_n (by decide), zq_wr_n (by decide), zq_wr_e]
          · rw [zq_wr_n (by decide), zq_wr_n (by decide), zq_wr_e]
          · rw [zq_wr_n (by decide), zq_wr_e]
          · rw [zq_wr_e]
        · obtain ⟨t1, t2, t3, t4⟩ := h3 q (by omega) j hj
          refine ⟨?_, ?_, ?_, ?_⟩
          · rw [zq_wr_n (by decide), zq_wr_n (by decide), zq_wr_n (by decide), zq_wr_i (by omega)]; exact t1
          · rw [zq_wr_n (by decide), zq_wr_n (by decide), zq_wr_i (by omega), zq_wr_n (by decide)]; exact t2
          · rw [zq_wr_n (by decide), zq_wr_i (by omega), zq_wr_n (by decide), zq_wr_n (by decide)]; exact t3
          · rw [zq_wr_i (by omega), zq_wr_n (by decide), zq_wr_n (by decide), zq_wr_n (by decide)]; exact t4
      · rw [zq_wr_n (by decide), zq_wr_n (by decide), zq_wr_n (by decide), zq_wr_n (by decide)]; exact h4
      · rw [zq_wr_n (by decide), zq_wr_n (by decide), zq_wr_n (by decide), zq_wr_n (by decide)]; exact h5
  have loop3 : ∀ (n i : Nat) (g : zm_H), i + n = 64 → zq_F (zf_Ve w) h g → (∀ q : Nat, q < 40 → ∀ j : Int, j = 40 * w + q → g 176 j = P q) → (∀ q : Nat, q < 8 → ∀ j : Int, j = 8 * w + q → g 177 j = Pu q) → (∀ q : Nat, q < i → ∀ j : Int, j = 64 * w + q → g 178 j = Hd q) → g 174 w = h 174 v → g 175 w = h 175 v → zu (zr none 1 202 98 [zm_A 146, zm_I w, zm_I v, zm_I i] [] g) (fun g => zq_F (zf_Ve w) h g ∧ zv_W g w P Pu Hd ∧ zv_E g w m kc kk kh ko ∧ g 174 w = h 174 v ∧ g 175 w = h 175 v) := by
    intro n
    induction n with
    | zero =>
      intro i g hi hg h1 h2 h3 h4 h5
      have e : g 179 (v : Int) = m := by rw [hg 179 v (by unfold zf_Ve; omega)]; exact E1
      refine zt_l e_202_98 (zt_f (by omega) (zt_c (by omega) (zt_c (by omega) ?_)))
      rw [e]
      refine loop4 m 0 _ (by omega) (zq_F_tr hg (zq_F_wr (by unfold zf_Ve; omega))) ⟨hw, ?_, ?_, ?_⟩ zq_wr_e (fun q hq => by omega) (by rw [zq_wr_n (by decide)]; exact h4) (by rw [zq_wr_n (by decide)]; exact h5)
      · intro q hq j hj; rw [zq_wr_n (by decide)]; exact h1 q hq j hj
      · intro q hq j hj; rw [zq_wr_n (by decide)]; exact h2 q hq j hj
      · intro q hq j hj; rw [zq_wr_n (by decide)]; exact h3 q (by omega) j hj
    | succ n ih =>
      intro i g hi hg h1 h2 h3 h4 h5
      refine zt_l e_202_98 (zt_t (by omega) (zt_c (by omega) (zt_c (by omega) (zt_c (by omega) (zt_c (by omega) (zt_c (by omega) (zt_c (by omega) (zt_c (by omega) ?_))))))))
      have e : g 178 (64 * (v : Int) + i) = Hd i := by rw [hg 178 _ (by unfold zf_Ve; omega)]; exact W3 i (by omega) _ rfl
      rw [e]
      refine ih (i + 1) _ (by omega) (zq_F_tr hg (zq_F_wr (by unfold zf_Ve; omega))) (fun q hq j hj => by rw [zq_wr_n (by decide)]; exact h1 q hq j hj) (fun q hq j hj => by rw [zq_wr_n (by decide)]; exact h2 q hq j hj) (fun q hq j hj => ?_) (by rw [zq_wr_n (by decide)]; exact h4) (by rw [zq_wr_n (by decide)]; exact h5)
      by_cases hqi : q = i
      · subst hqi; subst hj; exact zq_wr_e
      · rw [zq_wr_i (by omega)]; exact h3 q (by omega) j hj
  have loop2 : ∀ (n i : Nat) (g : zm_H), i + n = 8 → zq_F (zf_Ve w) h g → (∀ q : Nat, q < 40 → ∀ j : Int, j = 40 * w + q → g 176 j = P q) → (∀ q : Nat, q < i → ∀ j : Int, j = 8 * w + q → g 177 j = Pu q) → g 174 w = h 174 v → g 175 w = h 175 v → zu (zr none 1 202 62 [zm_A 146, zm_I w, zm_I v, zm_I i] [] g) (fun g => zq_F (zf_Ve w) h g ∧ zv_W g w P Pu Hd ∧ zv_E g w m kc kk kh ko ∧ g 174 w = h 174 v ∧ g 175 w = h 175 v) := by
    intro n
    induction n with
    | zero =>
      intro i g hi hg h1 h2 h4 h5
      exact zt_l e_202_62 (zt_f (by omega) (loop3 64 0 g (by omega) hg h1 (fun q hq => h2 q (by omega)) (fun q hq => by omega) h4 h5))
    | succ n ih =>
      intro i g hi hg h1 h2 h4 h5
      refine zt_l e_202_62 (zt_t (by omega) (zt_c (by omega) (zt_c (by omega) (zt_c (by omega) (zt_c (by omega) (zt_c (by omega) (zt_c (by omega) (zt_c (by omega) ?_))))))))
      have e : g 177 (8 * (v : Int) + i) = Pu i := by rw [hg 177 _ (by unfold zf_Ve; omega)]; exact W2 i (by omega) _ rfl
      rw [e]
      refine ih (i + 1) _ (by omega) (zq_F_tr hg (zq_F_wr (by unfold zf_Ve; omega))) (fun q hq j hj => by rw [zq_wr_n (by decide)]; exact h1 q hq j hj) (fun q hq j hj => ?_) (by rw [zq_wr_n (by decide)]; exact h4) (by rw [zq_wr_n (by decide)]; exact h5)
      by_cases hqi : q = i
      · subst hqi; subst hj; exact zq_wr_e
      · rw [zq_wr_i (by omega)]; exact h2 q (by omega) j hj
  have loop1 : ∀ (n i : Nat) (g : zm_H), i + n = 40 → zq_F (zf_Ve w) h g → (∀ q : Nat, q < i → ∀ j : Int, j = 40 * w + q → g 176 j = P q) → g 174 w = h 174 v → g 175 w = h 175 v → zu (zr none 1 202 26 [zm_A 146, zm_I w, zm_I v, zm_I i] [] g) (fun g => zq_F (zf_Ve w) h g ∧ zv_W g w P Pu Hd ∧ zv_E g w m kc kk kh ko ∧ g 174 w = h 174 v ∧ g 175 w = h 175 v) := by
    intro n
    induction n with
    | zero =>
      intro i g hi hg h1 h4 h5
      exact zt_l e_202_26 (zt_f (by omega) (loop2 8 0 g (by omega) hg (fun q hq => h1 q (by omega)) (fun q hq => by omega) h4 h5))
    | succ n ih =>
      intro i g hi hg h1 h4 h5
      refine zt_l e_202_26 (zt_t (by omega) (zt_c (by omega) (zt_c (by omega) (zt_c (by omega) (zt_c (by omega) (zt_c (by omega) (zt_c (by omega) (zt_c (by omega) ?_))))))))
      have e : g 176 (40 * (v : Int) + i) = P i := by rw [hg 176 _ (by unfold zf_Ve; omega)]; exact W1 i (by omega) _ rfl
      rw [e]
      refine ih (i + 1) _ (by omega) (zq_F_tr hg (zq_F_wr (by unfold zf_Ve; omega))) (fun q hq j hj => ?_) (by rw [zq_wr_n (by decide)]; exact h4) (by rw [zq_wr_n (by decide)]; exact h5)
      by_cases hqi : q = i
      · subst hqi; subst hj; exact zq_wr_e
      · rw [zq_wr_i (by omega)]; exact h1 q (by omega) j hj
  refine zt_l e_202 (zt_c (by omega) (zt_c (by omega) (zt_c (by omega) (zt_c (by omega) (loop1 40 0 _ (by omega) (zq_F_tr (zq_F_wr (by unfold zf_Ve; omega)) (zq_F_wr (by unfold zf_Ve; omega))) (fun j hj => by omega) ?_ ?_)))))
  · rw [zq_wr_n (by decide), zq_wr_e]
  · rw [zq_wr_e, zq_wr_n (by decide)]
end
