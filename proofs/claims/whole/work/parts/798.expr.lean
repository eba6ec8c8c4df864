/-! SUMS AND TESTS: the class -/
def zf_Ex (pf : Nat) (a : Nat) (i : Int) : Prop := (a = 30 ∧ 2 ≤ i ∧ i ≤ 7) ∨ (a = pf ∧ i = 15) ∨ a = pf + 10
/-- with a fault its two cells too -/
def zf_Eo (pf : Nat) (o : zy_O) (a : Nat) (i : Int) : Prop := zf_Ex pf a i ∨ ((∃ e, o = .inl e) ∧ a = 29 ∧ (i = 2 ∨ i = 3))
def zy_K (h : zm_H) (pf : Nat) (T : Nat → Int) (n p : Nat) (g : Bool) (l : List Int) : Prop := h 29 1 = pf ∧ zy_CT h T n ∧ zy_C h T n p g ∧ h pf 15 = l.length ∧ ∀ i : Nat, i < l.length → h (pf + 10) i = l.getD i 0
def zy_Q (pf : Nat) (T : Nat → Int) (n : Nat) (h : zm_H) (o : zy_O) (z : Int) (g : zm_H) : Prop := zq_F (zf_Eo pf o) h g ∧ ((∃ k a : Nat, o = .inl (k, a) ∧ z = 0 ∧ g 29 2 = k ∧ g 29 3 = a) ∨ ∃ p' g' l', o = .inr (p', g', l') ∧ z = 1 ∧ zy_K g pf T n p' g' l')
section
variable {h : zm_H} {T : Nat → Int} {n p pf : Nat} {gl : Bool} {l : List Int}
theorem zy_K.adv {g : zm_H} {p' : Nat} {g' : Bool} (hpf : zf_F pf) (hK : zy_K h pf T n p gl l) (f : zq_F zf_Sc h g) (hC : zy_C g T n p' g') : zy_K g pf T n p' g' l := by
  have hp : pf = 7 ∨ pf = 18 := hpf
  obtain ⟨h1, h2, h3, h4, h5⟩ := hK
  exact ⟨by rw [f 29 1 (by unfold zf_Sc; omega)]; exact h1, h2.kp f, hC, by rw [f pf 15 (by unfold zf_Sc; omega)]; exact h4, fun i hi => by rw [f (pf + 10) i (by unfold zf_Sc; omega)]; exact h5 i hi⟩
theorem zf_Eo_n {g : zm_H} {o : zy_O} (f : zq_F (zf_Eo pf o) h g) {a : Nat} {i : Int} (h1 : ¬ zf_Ex pf a i) (h2 : ¬ (a = 29 ∧ (i = 2 ∨ i = 3))) : g a i = h a i := f a i (fun q => q.elim h1 (fun r => h2 r.2))
theorem zf_Eo_r {g : zm_H} {o : zy_O} {p' : Nat} {g' : Bool} {l' : List Int} (f : zq_F (zf_Eo pf o) h g) (e : o = .inr (p', g', l')) : zq_F (zf_Ex pf) h g := zq_F_wk f (fun a i q => q.elim id (fun r => by
  obtain ⟨⟨x, hx⟩, _⟩ := r
  rw [e] at hx
  cases hx))
theorem zf_Sc_Ex {g : zm_H} (f : zq_F zf_Sc h g) : zq_F (zf_Ex pf) h g := zq_F_wk f (fun a i q => by unfold zf_Sc at q; unfold zf_Ex; omega)
theorem zy_Q_tr {g g2 : zm_H} {o : zy_O} {z : Int} (f : zq_F (zf_Ex pf) h g) (q : zy_Q pf T n g o z g2) : zy_Q pf T n h o z g2 := ⟨zq_F_tr (zq_F_wk f (fun a i q => Or.inl q)) q.1, q.2⟩
theorem zy_Q_r {g : zm_H} {p' : Nat} {g' : Bool} {l' : List Int} (f : zq_F (zf_Ex pf) h g) (k : zy_K g pf T n p' g' l') : zy_Q pf T n h (.inr (p', g', l')) 1 g := ⟨zq_F_wk f (fun a i q => Or.inl q), Or.inr ⟨p', g', l', rfl, rfl, k⟩⟩
theorem zy_Q_l {k a : Nat} {g0 g : zm_H} (f : zq_F (zf_Ex pf) h g0) (q : zy_ft k a g0 g) : zy_Q pf T n h (.inl (k, a)) 0 g := by
  have q' : g = zm_wr (zm_wr g0 29 2 (k : Int)) 29 3 (a : Int) := q
  subst q'
  refine ⟨zq_F_tr (zq_F_wk f (fun a i q => Or.inl q)) (zq_F_tr (zq_F_wr (Or.inr ⟨⟨_, rfl⟩, rfl, Or.inl rfl⟩)) (zq_F_wr (Or.inr ⟨⟨_, rfl⟩, rfl, Or.inr rfl⟩))), Or.inl ⟨k, a, rfl, rfl, ?_, zq_wr_e⟩⟩
  rw [zq_wr_i (by decide), zq_wr_e]
theorem s_139s (hC : zy_C h T n p gl) (c : Int) : zi (zc 139 [zm_A 30, zm_I c] h) (fun z g => z = (if zy_sg T n p gl c = true then 1 else 0) ∧ g = h) := by
  refine zi_m (s_139 hC c) (fun z g q => ⟨?_, q.2⟩)
  rw [q.1]
  unfold zy_sg
  by_cases r : zy_ty T n p gl = 3 ∧ T (zy_at T n p) = c
  · rw [if_pos r, decide_eq_true r, if_pos rfl]
  · rw [if_neg r, decide_eq_false r, if_neg (by decide)]
theorem s_98 (hC : zy_C h T n p gl) : zi (zc 98 [zm_A 29] h) (fun z g => z = zy_ad T n p gl ∧ g = h) := by
  refine zt_l e_98 (zt_I (s_139s hC 43) ?_)
  rintro z g ⟨rfl, rfl⟩
  unfold zy_ad
  by_cases q : zy_sg T n p gl 43 = true
  · rw [if_pos q, if_pos q]; exact zt_f (by decide) (zi_e ⟨rfl, rfl⟩)
  · rw [if_neg q, if_neg q]
    refine zt_t rfl (zt_I (s_139s hC 45) ?_)
    rintro z g ⟨rfl, rfl⟩
    by_cases q2 : zy_sg T n p gl 45 = true
    · rw [if_pos q2, if_pos q2]; exact zt_f (by decide) (zi_e ⟨rfl, rfl⟩)
    · rw [if_neg q2, if_neg q2]; exact zt_t rfl (zi_e ⟨rfl, rfl⟩)
theorem s_97 (hC : zy_C h T n p gl) : zi (zc 97 [zm_A 29] h) (fun z g => z = zy_mu T n p gl ∧ g = h) := by
  refine zt_l e_97 (zt_I (s_139s hC 42) ?_)
  rintro z g ⟨rfl, rfl⟩
  unfold zy_mu
  by_cases q : zy_sg T n p gl 42 = true
  · rw [if_pos q, if_pos q]; exact zt_f (by decide) (zi_e ⟨rfl, rfl⟩)
  · rw [if_neg q, if_neg q]
    refine zt_t rfl (zt_I (s_139s hC 47) ?_)
    rintro z g ⟨rfl, rfl⟩
    by_cases q2 : zy_sg T n p gl 47 = true
    · rw [if_pos q2, if_pos q2]; exact zt_f (by decide) (zi_e ⟨rfl, rfl⟩)
    · rw [if_neg q2, if_neg q2]
      refine zt_t rfl (zt_I (s_139s hC 37) ?_)
      rintro z g ⟨rfl, rfl⟩
      by_cases q3 : zy_sg T n p gl 37 = true
      · rw [if_pos q3, if_pos q3]; exact zt_f (by decide) (zi_e ⟨rfl, rfl⟩)
      · rw [if_neg q3, if_neg q3]; exact zt_t rfl (zi_e ⟨rfl, rfl⟩)
theorem s_102 (hC : zy_C h T n p gl) : zi (zc 102 [zm_A 29] h) (fun z g => z = zy_cm T n p gl ∧ g = h) := by
  refine zt_l e_102 (zt_I (s_139s hC 60) ?_)
  rintro z g ⟨rfl, rfl⟩
  unfold zy_cm
  by_cases q : zy_sg T n p gl 60 = true
  · rw [if_pos q, if_pos q]; exact zt_f (by decide) (zi_e ⟨rfl, rfl⟩)
  · rw [if_neg q, if_neg q]
    refine zt_t rfl (zt_I (s_139s hC 62) ?_)
    rintro z g ⟨rfl, rfl⟩
    by_cases q2 : zy_sg T n p gl 62 = true
    · rw [if_pos q2, if_pos q2]; exact zt_f (by decide) (zi_e ⟨rfl, rfl⟩)
    · rw [if_neg q2, if_neg q2]
      refine zt_t rfl (zt_I (s_139s hC 61) ?_)
      rintro z g ⟨rfl, rfl⟩
      by_cases q3 : zy_sg T n p gl 61 = true
      · rw [if_pos q3, if_pos q3]; exact zt_f (by decide) (zi_e ⟨rfl, rfl⟩)
      · rw [if_neg q3, if_neg q3]; exact zt_t rfl (zi_e ⟨rfl, rfl⟩)
theorem s_96 (w : Int) : zi (zc 96 [zm_I w] h) (fun z g => z = (if zy_se w = 0 then -1 else -1 - zy_se w) ∧ g = h) := by
  unfold zy_se
  refine zt_l e_96 ?_
  refine zt_p (fun q => zi_e ⟨by subst q; rfl, rfl⟩) (fun q1 => zt_p (fun q => zi_e ⟨by subst q; rfl, rfl⟩) (fun q2 => zt_p (fun q => zi_e ⟨by subst q; rfl, rfl⟩) (fun q => zt_p (fun q => zi_e ⟨by subst q; rfl, rfl⟩) (fun q => zt_p (fun q => zi_e ⟨by subst q; rfl, rfl⟩) (fun q => zt_p (fun q => zi_e ⟨by subst q; rfl, rfl⟩) (fun q => zt_p (fun q => zi_e ⟨by subst q; rfl, rfl⟩) (fun q => zt_p (fun q => zi_e ⟨by subst q; rfl, rfl⟩) (fun q => zt_p (fun q => zi_e ⟨by subst q; rfl, rfl⟩) (fun q => zt_p (fun q => zi_e ⟨by subst q; rfl, rfl⟩) (fun q => zt_p (fun q => zi_e ⟨by subst q; rfl, rfl⟩) (fun q => zt_p (fun q => zi_e ⟨by subst q; rfl, rfl⟩) (fun q => zt_p (fun q => zi_e ⟨by subst q; rfl, rfl⟩) (fun q => zt_p (fun q => zi_e ⟨by subst q; rfl, rfl⟩) (fun q => zt_p (fun q => zi_e ⟨by subst q; rfl, rfl⟩) (fun q15 => zt_p (fun q => zi_e ⟨by subst q; rfl, rfl⟩) (fun q16 => zt_p (fun q => zi_e ⟨by subst q; rfl, rfl⟩) (fun q17 => zt_p (fun q => zi_e ⟨by subst q; rfl, rfl⟩) (fun q18 => zi_e ⟨?_, rfl⟩))))))))))))))))))
  rw [if_neg q15, if_neg q16, if_neg q17, if_neg q1, if_neg q2, if_neg q18]; rfl
theorem s_63 (hpf : zf_F pf) (hK : zy_K h pf T n p gl l) (hl : l.length < 1600) (x : Int) : zu (zc 63 [zm_A pf, zm_I x] h) (fun g => zq_F (zf_Ex pf) h g ∧ zy_K g pf T n p gl (l ++ [x])) := by
  have hp : pf = 7 ∨ pf = 18 := hpf
  obtain ⟨h1, h2, h3, h4, h5⟩ := hK
  refine zt_l (e_63 hpf) ?_
  rw [h4]
  have f : zq_F (zf_Ex pf) h (zm_wr (zm_wr h pf 15 ((l.length : Int) + 1)) (pf + 10) l.length x) := zq_F_tr (zq_F_wr (Or.inr (Or.inl ⟨rfl, rfl⟩))) (zq_F_wr (Or.inr (Or.inr rfl)))
  have k : ∀ (a : Nat) (i : Int), a ≠ pf → a ≠ pf + 10 → zm_wr (zm_wr h pf 15 ((l.length : Int) + 1)) (pf + 10) l.length x a i = h a i := fun a i ha hb => by rw [zq_wr_n hb, zq_wr_n ha]
  refine zt_t (by omega) (zt_c (by omega) (zt_c (by omega) (zu_e ⟨f, ?_, ?_, ?_, ?_, ?_⟩)))
  · rw [k 29 1 (by omega) (by omega)]; exact h1
  · obtain ⟨t1, t2, t3, t4, t5⟩ := h2
    exact ⟨t1, t2, by rw [k 5 1 (by omega) (by omega)]; exact t3, fun i hi => by rw [k 6 i (by omega) (by omega)]; exact t4 i hi, fun w hw => by rw [k 31 w (by omega) (by omega)]; exact t5 w hw⟩
  · unfold zy_C at h3 ⊢
    rw [k 30 3 (by omega) (by omega), k 30 6 (by omega) (by omega), k 30 7 (by omega) (by omega), k 30 5 (by omega) (by omega), k 30 2 (by omega) (by omega), k 30 4 (by omega) (by omega)]
    exact h3
  · rw [zq_wr_n (by omega), zq_wr_e, List.length_append]; rfl
  · intro i hi
    rw [List.length_append] at hi
    have hi' : i < l.length + 1 := hi
    by_cases e : i = l.length
    · subst e
      rw [zq_wr_e]; simp
    · rw [zq_wr_i (by omega), zq_wr_n (by omega), h5 i (by omega)]
      rw [List.getD_eq_getElem?_getD, List.getD_eq_getElem?_getD, List.getElem?_append_left (by omega)]
theorem s_93 (hpf : zf_F pf) (hK : zy_K h pf T n p gl l) (hp : p ≤ n) (ht : zy_ty T n p gl ≠ 4 ∧ zy_ty T n p gl ≠ 0) {d : Nat} : zi (zc 93 [zm_A 29, zm_I d] h) (fun z g => (z = 1 ∧ d < 7 ∧ zq_F zf_Sc h g ∧ zy_K g pf T n (zy_en T n p) (zy_ng T n p gl) l) ∨ (z = 0 ∧ 7 ≤ d ∧ zy_ft 5 (zy_at T n p) h g)) := by
  refine zt_l e_93 (zt_p (fun q => ?_) (fun q => ?_))
  · refine zt_V (s_133a hK.2.1 hK.2.2.1 hp ht) ?_
    rintro g ⟨f, c⟩
    exact zt_c (Or.inr rfl) (zi_e (Or.inl ⟨rfl, by omega, f, hK.adv hpf f c⟩))
  · rw [hK.2.2.1.2.1]
    refine zt_I (s_76 5 _) ?_
    rintro z g ⟨rfl, rfl⟩
    exact zt_c (Or.inl rfl) (zi_e (Or.inr ⟨rfl, by omega, rfl⟩))
theorem rk99 (d : Nat) : zm_rk 99 [zm_A 29, zm_I d] = 3 + 10 * (8 - d) + 7 := rfl
theorem rk100 (d : Nat) : zm_rk 100 [zm_A 29, zm_I d] = 3 + 10 * (8 - d) + 6 := rfl
theorem rk101 (d : Nat) : zm_rk 101 [zm_A 29, zm_I d] = 3 + 10 * (8 - d) + 5 := rfl
theorem rk90 (d : Nat) : zm_rk 90 [zm_A 29, zm_I d] = 3 + 10 * (8 - d) + 4 := rfl
theorem rk91 (d : Nat) : zm_rk 91 [zm_A 29, zm_I d] = 3 + 10 * (8 - d) + 3 := rfl
theorem rk92 (d : Nat) : zm_rk 92 [zm_A 29, zm_I d] = 3 + 10 * (8 - d) + 2 := rfl
theorem rk95 (d : Nat) (x : Int) : zm_rk 95 [zm_A 29, zm_I d, zm_I x] = 3 + 10 * (8 - d) + 1 := rfl
end
