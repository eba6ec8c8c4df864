/-! FETE of both sides, told together -/
section
variable {h g h1 h2 : zm_H} {T : Nat → Int} {n p b pf t K L C cf ct qf qt : Nat} {gl : Bool} {wo sz re fe ru : Nat → Int} {lk : Nat → Nat → Int} {nk nc : Nat → List Nat} {F : Nat → Int} {pu : Int} {l : List Int}
/-- a clean fete -/
theorem s_60 (hpf : zf_F pf) : zu (zc 60 [zm_A pf] h) (fun g => zq_F (fun a _ => a = pf ∨ a = pf + 4 ∨ a = pf + 9) h g ∧ g pf 0 = 0 ∧ ∀ (wo sz re fe ru : Nat → Int) (lk : Nat → Nat → Int) (nk nc : Nat → List Nat), zw_CD g pf 0 0 0 wo sz re fe ru lk nk nc (fun _ => 0) 50 [] 0 0 0 0) := by
  have key2 : ∀ (m i : Nat) (g : zm_H), i + m = 64 → zq_F (fun a _ => a = pf ∨ a = pf + 4 ∨ a = pf + 9) h g → (g pf 0 = 0 ∧ g pf 1 = 0 ∧ g pf 2 = 0 ∧ g pf 3 = 0 ∧ g pf 4 = 50) → (∀ k : Nat, k < 40 → g (pf + 4) k = 0) → (∀ k : Nat, k < i → g (pf + 9) k = -1) → zu (zr none 1 60 52 [zm_A pf, zm_I i] [] g) (fun g => zq_F (fun a _ => a = pf ∨ a = pf + 4 ∨ a = pf + 9) h g ∧ g pf 0 = 0 ∧ ∀ (wo sz re fe ru : Nat → Int) (lk : Nat → Nat → Int) (nk nc : Nat → List Nat), zw_CD g pf 0 0 0 wo sz re fe ru lk nk nc (fun _ => 0) 50 [] 0 0 0 0) := by
    intro m
    induction m with
    | zero =>
      intro i g hi f ⟨e0, e1, e2, e3, e4⟩ p4 p9
      refine zt_l (e_60_52 hpf) (zt_f (by omega) ?_)
      obtain ⟨g2, hg2⟩ : ∃ g2, g2 = zm_wr (zm_wr (zm_wr (zm_wr (zm_wr g pf 15 0) pf 16 0) pf 17 0) pf 18 0) pf 19 0 := ⟨_, rfl⟩
      rw [← hg2]
      have w : ∀ a : Nat, a ≠ pf → g2 a = g a := fun a ha => by funext x; rw [hg2, zq_wr_n ha, zq_wr_n ha, zq_wr_n ha, zq_wr_n ha, zq_wr_n ha]
      have w0 : ∀ x : Int, x < 15 → g2 pf x = g pf x := fun x hx => by rw [hg2, zq_wr_i (by omega), zq_wr_i (by omega), zq_wr_i (by omega), zq_wr_i (by omega), zq_wr_i (by omega)]
      refine zu_e ⟨?_, ?_, fun wo sz re fe ru lk nk nc => ⟨⟨hpf, ?_, ?_, ?_, fun k hk => absurd hk (Nat.not_lt_zero _), fun k hk => absurd hk (Nat.not_lt_zero _), fun c k hc => absurd hc (Nat.not_lt_zero _)⟩, ⟨fun k hk => absurd hk (Nat.not_lt_zero _), fun k hk => absurd hk (Nat.not_lt_zero _)⟩, ?_, ?_, ⟨?_, fun k hk => absurd hk (Nat.not_lt_zero _)⟩, ⟨?_, ?_, ?_, ?_⟩, ?_⟩⟩
      · rw [hg2]
        exact zq_F_tr f (zq_F_tr (zq_F_wr (Or.inl rfl)) (zq_F_tr (zq_F_wr (Or.inl rfl)) (zq_F_tr (zq_F_wr (Or.inl rfl)) (zq_F_tr (zq_F_wr (Or.inl rfl)) (zq_F_wr (Or.inl rfl))))))
      · rw [w0 0 (by decide)]; exact e0
      · rw [w0 1 (by decide)]; exact e1
      · rw [w0 2 (by decide)]; exact e2
      · rw [w0 3 (by decide)]; exact e3
      · intro k hk; rw [w (pf + 4) (by omega)]; exact p4 k hk
      · rw [w0 4 (by decide)]; exact e4
      · rw [hg2, zq_wr_i (by decide), zq_wr_i (by decide), zq_wr_i (by decide), zq_wr_i (by decide), zq_wr_e]; rfl
      · rw [hg2, zq_wr_i (by decide), zq_wr_i (by decide), zq_wr_i (by decide), zq_wr_e]; rfl
      · rw [hg2, zq_wr_i (by decide), zq_wr_i (by decide), zq_wr_e]; rfl
      · rw [hg2, zq_wr_i (by decide), zq_wr_e]; rfl
      · rw [hg2, zq_wr_e]; rfl
      · intro c k hc hk _ j hj
        rw [w (pf + 9) (by omega), show j = ((8 * c + k : Nat) : Int) by omega]
        exact p9 (8 * c + k) (by omega)
    | succ m ih =>
      intro i g hi f ⟨e0, e1, e2, e3, e4⟩ p4 p9
      refine zt_l (e_60_52 hpf) (zt_t (by omega) (zt_c (by omega) (zt_c (by omega) ?_)))
      rw [show (i : Int) + 1 = ((i + 1 : Nat) : Int) by omega]
      refine ih (i + 1) _ (by omega) (zq_F_tr f (zq_F_wr (Or.inr (Or.inr rfl)))) ?_ (fun k hk => ?_) (fun k hk => ?_)
      · rw [zq_wr_n (by omega), zq_wr_n (by omega), zq_wr_n (by omega), zq_wr_n (by omega), zq_wr_n (by omega)]; exact ⟨e0, e1, e2, e3, e4⟩
      · rw [zq_wr_n (by omega)]; exact p4 k hk
      · by_cases e : k = i
        · subst e; rw [zq_wr_e]
        · rw [zq_wr_i (by omega)]; exact p9 k (by omega)
  have key : ∀ (m i : Nat) (g : zm_H), i + m = 40 → zq_F (fun a _ => a = pf ∨ a = pf + 4 ∨ a = pf + 9) h g → (g pf 0 = 0 ∧ g pf 1 = 0 ∧ g pf 2 = 0 ∧ g pf 3 = 0 ∧ g pf 4 = 50) → (∀ k : Nat, k < i → g (pf + 4) k = 0) → zu (zr none 1 60 28 [zm_A pf, zm_I i] [] g) (fun g => zq_F (fun a _ => a = pf ∨ a = pf + 4 ∨ a = pf + 9) h g ∧ g pf 0 = 0 ∧ ∀ (wo sz re fe ru : Nat → Int) (lk : Nat → Nat → Int) (nk nc : Nat → List Nat), zw_CD g pf 0 0 0 wo sz re fe ru lk nk nc (fun _ => 0) 50 [] 0 0 0 0) := by
    intro m
    induction m with
    | zero =>
      intro i g hi f e p4
      exact zt_l (e_60_28 hpf) (zt_f (by omega) (key2 64 0 g (by decide) f e (fun k hk => p4 k (by omega)) (fun k hk => absurd hk (Nat.not_lt_zero _))))
    | succ m ih =>
      intro i g hi f ⟨e0, e1, e2, e3, e4⟩ p4
      refine zt_l (e_60_28 hpf) (zt_t (by omega) (zt_c (by omega) (zt_c (by omega) ?_)))
      rw [show (i : Int) + 1 = ((i + 1 : Nat) : Int) by omega]
      refine ih (i + 1) _ (by omega) (zq_F_tr f (zq_F_wr (Or.inr (Or.inl rfl)))) ?_ (fun k hk => ?_)
      · rw [zq_wr_n (by omega), zq_wr_n (by omega), zq_wr_n (by omega), zq_wr_n (by omega), zq_wr_n (by omega)]; exact ⟨e0, e1, e2, e3, e4⟩
      · by_cases e : k = i
        · subst e; rw [zq_wr_e]
        · rw [zq_wr_i (by omega)]; exact p4 k (by omega)
  refine zt_l (e_60 hpf) (key 40 0 _ (by decide) ?_ ⟨?_, ?_, ?_, ?_, ?_⟩ (fun k hk => absurd hk (Nat.not_lt_zero _)))
  · exact zq_F_tr (zq_F_wr (Or.inl rfl)) (zq_F_tr (zq_F_wr (Or.inl rfl)) (zq_F_tr (zq_F_wr (Or.inl rfl)) (zq_F_tr (zq_F_wr (Or.inl rfl)) (zq_F_wr (Or.inl rfl)))))
  · rw [zq_wr_i (by decide), zq_wr_i (by decide), zq_wr_i (by decide), zq_wr_i (by decide), zq_wr_e]
  · rw [zq_wr_i (by decide), zq_wr_i (by decide), zq_wr_i (by decide), zq_wr_e]
  · rw [zq_wr_i (by decide), zq_wr_i (by decide), zq_wr_e]
  · rw [zq_wr_i (by decide), zq_wr_e]
  · rw [zq_wr_e]
theorem zw_PD_0 {wo sz re fe ru : Nat → Int} {lk : Nat → Nat → Int} {nk nc : Nat → List Nat} : zw_PD 0 0 0 wo sz re fe ru lk nk nc (fun _ => 0) 50 [] 0 0 0 0 0 := by
  refine ⟨⟨by decide, by decide, by decide, fun k hk => absurd hk (Nat.not_lt_zero _), fun k hk => absurd hk (Nat.not_lt_zero _), fun c k hc => absurd hc (Nat.not_lt_zero _)⟩, ⟨fun k hk => absurd hk (Nat.not_lt_zero _), fun k hk => absurd hk (Nat.not_lt_zero _)⟩, fun i _ => show (0 : Int) ≤ 0 ∧ (0 : Int) ≤ 30 by decide, fun i _ _ => rfl, by omega, Nat.le_refl _, by omega, fun q => absurd rfl q, fun q => absurd rfl q⟩
/-- the class begins to read: behind it the loop -/
theorem s_74 (hpf : zf_F pf) (hCT : zy_CT h T n) : ∃ g, zq_F (fun a i => zf_Pd pf a i ∨ (a = 29 ∧ i = 1)) h g ∧ zw_K g pf T n 0 false ∧ g pf 0 = 0 ∧ (∀ (wo sz re fe ru : Nat → Int) (lk : Nat → Nat → Int) (nk nc : Nat → List Nat), zw_CD g pf 0 0 0 wo sz re fe ru lk nk nc (fun _ => 0) 50 [] 0 0 0 0) ∧ zl (zr none 93 74 31 [zm_A 29, zm_A pf, zm_I ((0 : Nat) : Int)] [] g) (zc 74 [zm_A 29, zm_A pf] h) := by
  have pf18 := zf_F_ne hpf
  have hz := hpf
  unfold zf_F at hz
  obtain ⟨v1, g1, x1, rfl, f1, e0, d1⟩ := s_60 (h := zm_wr h 29 1 pf) hpf
  have k1 : ∀ a : Nat, a ≠ 29 → a ≠ pf → a ≠ pf + 4 → a ≠ pf + 9 → g1 a = h a := fun a q1 q2 q3 q4 => by
    funext x; rw [f1 a x (by omega), zq_wr_n q1]
  have CT1 : zy_CT (zm_wr (zm_wr g1 29 2 0) 29 3 (-1)) T n := by
    obtain ⟨t1, t2, t3, t4, t5⟩ := hCT
    have kk : ∀ a : Nat, a ≠ 29 → a ≠ pf → a ≠ pf + 4 → a ≠ pf + 9 → (zm_wr (zm_wr g1 29 2 0) 29 3 (-1)) a = h a := fun a q1 q2 q3 q4 => by
      funext x; rw [zq_wr_n q1, zq_wr_n q1, k1 a q1 q2 q3 q4]
    refine ⟨t1, t2, ?_, ?_, ?_⟩
    · rw [kk 5 (by omega) (by omega) (by omega) (by omega)]; exact t3
    · rw [kk 6 (by omega) (by omega) (by omega) (by omega)]; exact t4
    · rw [kk 31 (by omega) (by omega) (by omega) (by omega)]; exact t5
  obtain ⟨v2, g2, x2, rfl, f2, c2⟩ := s_132 CT1
  have f2' : ∀ (a : Nat) (x : Int), a ≠ 30 → g2 a x = zm_wr (zm_wr g1 29 2 0) 29 3 (-1) a x := fun a x ha => f2 a x (by unfold zf_Sc; omega)
  refine ⟨g2, ?_, ⟨?_, ⟨CT1.kp f2, ?_, ?_⟩, Nat.zero_le _, c2⟩, ?_, fun wo sz re fe ru lk nk nc => ?_, fun r hr => e_74 hpf hpf r (zk_ck zq_wr_e (zk_iV x1 (zk_iV x2 hr)))⟩
  · refine zq_F_tr (zq_F_wr (Or.inr ⟨rfl, rfl⟩)) (zq_F_tr (zq_F_wk f1 (fun a i q => by unfold zf_Pd; omega)) (zq_F_tr (zq_F_wr (by unfold zf_Pd; omega)) (zq_F_tr (zq_F_wr (by unfold zf_Pd; omega)) (zq_F_wk f2 (fun a i q => by unfold zf_Sc at q; unfold zf_Pd; omega)))))
  · rw [f2' 29 1 (by decide), zq_wr_i (by decide), zq_wr_i (by decide), f1 29 1 (by omega), zq_wr_e]
  · rw [f2' 29 2 (by decide), zq_wr_i (by decide), zq_wr_e]
  · rw [f2' 29 3 (by decide), zq_wr_e]
  · rw [f2' pf 0 (by omega), zq_wr_n (by omega), zq_wr_n (by omega)]; exact e0
  · refine (d1 wo sz re fe ru lk nk nc).kp (fun a q1 q2 => ?_)
    funext x; rw [f2' a x (by omega), zq_wr_n (by omega), zq_wr_n (by omega)]
end
