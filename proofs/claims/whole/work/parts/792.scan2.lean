/-! THE CLASS'S SCANNER: advance and begin -/
section
variable {h : zm_H} {T : Nat → Int} {n : Nat}
theorem s_133_d {x1 : Int} {q a t bd : Nat} {gl : Bool} {w3 w4 : zm_V} {k : zm_H} (hw3 : zm_cat w3 ≠ 2) (hT : zy_CT h T n) (fk : zq_F zf_Sc h k) (hx : x1 ≠ 0 ↔ gl = true) (ha : a = zy_at T n q) (k6 : k 30 6 = a) (k3 : k 30 3 = t) (k7 : k 30 7 = bd)
    (hty : zy_ty T n q gl = if gl = true ∧ a = q ∧ t ≠ 3 ∧ t ≠ 0 then 4 else t) (hbd : zy_bd T n q gl = if gl = true ∧ a = q ∧ t ≠ 3 ∧ t ≠ 0 then a else bd)
    (k2 : t ≠ 4 → k 30 2 = zy_en T n q) (k1 : t = 1 → k 30 4 = zp_p5 (zy_ls T n q) ∧ zp_nm (zy_ls T n q)) (kn : t = 2 → k 30 4 = zy_nu T n q) (ks : t = 3 → k 30 4 = T (zy_at T n q)) :
    zu (zr none 2 133 183 [zm_A 30, zm_I x1, zm_I q, w3, w4] [] k) (fun g => zq_F zf_Sc h g ∧ zy_C g T n q gl) := by
  refine zu_m (s_133_183 (l := zy_ls T n q) hw3 (hT.kp fk) (fun e => ⟨(k1 (by omega)).2, (k1 (by omega)).1⟩)) (fun g r => ?_)
  rw [k6, k3] at r
  rcases r with ⟨hn, rfl⟩ | ⟨⟨r1, r2, r3, r4⟩, rfl⟩
  · have hn' : ¬ (gl = true ∧ a = q ∧ t ≠ 3 ∧ t ≠ 0) := fun s => hn ⟨hx.mpr s.1, by omega, by omega, by omega⟩
    rw [if_neg hn'] at hty hbd
    refine ⟨zq_F_tr fk (zq_F_wr ⟨rfl, by decide, by decide⟩), ?_⟩
    unfold zy_C zy_ow
    rw [hty, hbd]
    refine ⟨by rw [zq_wr_i (by decide)]; exact k3, by rw [zq_wr_i (by decide), ← ha]; exact k6, by rw [zq_wr_i (by decide)]; exact k7, ?_, fun e => by rw [zq_wr_i (by decide)]; exact k2 e, fun e => by rw [zq_wr_i (by decide)]; exact (k1 e).1, fun e => by rw [zq_wr_i (by decide)]; exact kn e, fun e => by rw [zq_wr_i (by decide)]; exact ks e⟩
    rw [zq_wr_e]
    by_cases ht : t = 1
    · rw [if_pos (by omega), if_pos ht]
    · rw [if_neg (by omega), if_neg ht]
  · have hn' : gl = true ∧ a = q ∧ t ≠ 3 ∧ t ≠ 0 := ⟨hx.mp r1, by omega, by omega, by omega⟩
    rw [if_pos hn'] at hty hbd
    refine ⟨zq_F_tr fk (zq_F_tr (zq_F_wr ⟨rfl, by decide, by decide⟩) (zq_F_tr (zq_F_wr ⟨rfl, by decide, by decide⟩) (zq_F_wr ⟨rfl, by decide, by decide⟩))), ?_⟩
    unfold zy_C zy_ow
    rw [hty, hbd]
    refine ⟨?_, ?_, ?_, ?_, fun e => absurd rfl e, fun e => absurd e (by decide), fun e => absurd e (by decide), fun e => absurd e (by decide)⟩
    · rw [zq_wr_i (by decide), zq_wr_i (by decide), zq_wr_e]; rfl
    · rw [zq_wr_i (by decide), zq_wr_i (by decide), zq_wr_i (by decide), k6, ha]
    · rw [zq_wr_i (by decide), zq_wr_e]
    · rw [zq_wr_e, if_neg (by decide)]
theorem s_133_88 {x1 : Int} {q a : Nat} {gl : Bool} {w3 w4 : zm_V} (hT : zy_CT h T n) (hx : x1 ≠ 0 ↔ gl = true) (ha : a = zy_at T n q) (hq : q ≤ n) (h2 : h 30 2 = a) : zu (zr none 2 133 88 [zm_A 30, zm_I x1, zm_I q, w3, w4] [] h) (fun g => zq_F zf_Sc h g ∧ zy_C g T n q gl) := by
  have han : a ≤ n := by rw [ha]; exact (zy_sk_le T n (n - q) q).2 hq
  have hn16 := hT.1
  refine zt_l e_133_88 ?_
  have e62 : (zm_wr h 30 6 (h 30 2)) 30 2 = h 30 2 := zq_wr_i (by decide)
  rw [e62, h2]
  generalize hh0 : zm_wr (zm_wr (zm_wr h 30 6 (a : Int)) 30 7 (a : Int)) 30 4 0 = h0
  have f0 : zq_F zf_Sc h h0 := by
    rw [← hh0]
    exact zq_F_tr (zq_F_wr ⟨rfl, by decide, by decide⟩) (zq_F_tr (zq_F_wr ⟨rfl, by decide, by decide⟩) (zq_F_wr ⟨rfl, by decide, by decide⟩))
  have g2 : h0 30 2 = a := by rw [← hh0, zq_wr_i (by decide), zq_wr_i (by decide), zq_wr_i (by decide)]; exact h2
  have g6 : h0 30 6 = a := by rw [← hh0, zq_wr_i (by decide), zq_wr_i (by decide), zq_wr_e]
  have g7 : h0 30 7 = a := by rw [← hh0, zq_wr_i (by decide), zq_wr_e]
  have g4 : h0 30 4 = 0 := by rw [← hh0, zq_wr_e]
  have hT0 := hT.kp f0
  clear hh0 e62
  -- a sign, or the end
  have sgn : ∀ (x3 : Int) (w4 : zm_V), (x3 = -1 ∧ n ≤ a) ∨ (a < n ∧ x3 = T a ∧ (T a < 97 ∨ 122 < T a) ∧ (T a < 48 ∨ 57 < T a)) → zu (zr none 2 133 178 [zm_A 30, zm_I x1, zm_I q, zm_I x3, w4] [] h0) (fun g => zq_F zf_Sc h g ∧ zy_C g T n q gl) := by
    intro x3 w4 hc
    refine zt_l e_133_178 ?_
    rcases hc with ⟨rfl, hna⟩ | ⟨hna, rfl, hl, hd⟩
    · refine zt_V (Q1 := fun g => g = zm_wr (zm_wr h0 30 3 0) 30 4 (-1)) (zt_l e_136 (zt_t rfl (zt_f (by rw [zq_wr_i (by decide), zq_wr_e]; decide) (zu_e rfl)))) ?_
      rintro g rfl
      have ety : ∀ b, zy_ty T n q b = 0 := fun b => by unfold zy_ty; rw [if_pos (by omega)]
      have ebd : ∀ b, zy_bd T n q b = a := fun b => by unfold zy_bd; rw [if_pos (by omega)]; exact ha.symm
      have een : zy_en T n q = a := by unfold zy_en; rw [if_pos (by omega)]; exact ha.symm
      refine s_133_d (t := 0) (bd := a) (zm_cat_I _) hT (zq_F_tr f0 (zq_F_tr (zq_F_wr ⟨rfl, by decide, by decide⟩) (zq_F_wr ⟨rfl, by decide, by decide⟩))) hx ha ?_ ?_ ?_ ?_ ?_ (fun _ => ?_) (fun e => absurd e (by decide)) (fun e => absurd e (by decide)) (fun e => absurd e (by decide))
      · rw [zq_wr_i (by decide), zq_wr_i (by decide)]; exact g6
      · rw [zq_wr_i (by decide), zq_wr_e]; rfl
      · rw [zq_wr_i (by decide), zq_wr_i (by decide)]; exact g7
      · rw [ety, if_neg (fun s => s.2.2.2 rfl)]
      · rw [ebd, if_neg (fun s => s.2.2.2 rfl)]
      · rw [zq_wr_i (by decide), zq_wr_i (by decide), een]; exact g2
    · have hTa := hT.2.1 a hna
      have e2 : zm_wr (zm_wr h0 30 3 3) 30 4 (T a) 30 2 = a := by rw [zq_wr_i (by decide), zq_wr_i (by decide)]; exact g2
      refine zt_V (Q1 := fun g => g = zm_wr (zm_wr (zm_wr h0 30 3 3) 30 4 (T a)) 30 2 ((a : Int) + 1)) (zt_l e_136 (zt_f (by omega) (zt_t (by rw [zq_wr_i (by decide), zq_wr_e]) (by rw [e2]; exact zt_c (by omega) (zu_e rfl))))) ?_
      rintro g rfl
      have ety : ∀ b, zy_ty T n q b = 3 := fun b => by unfold zy_ty; rw [if_neg (by omega), if_neg (by rw [← ha]; omega), if_neg (by rw [← ha]; omega)]
      have ebd : ∀ b, zy_bd T n q b = a := fun b => by unfold zy_bd; rw [if_neg (by omega), if_neg (by rw [← ha]; omega), if_neg (by rw [← ha]; omega)]; exact ha.symm
      have een : zy_en T n q = a + 1 := by unfold zy_en; rw [if_neg (by omega), if_neg (by rw [← ha]; omega), if_neg (by rw [← ha]; omega), ← ha]
      refine s_133_d (t := 3) (bd := a) (zm_cat_I _) hT (zq_F_tr f0 (zq_F_tr (zq_F_wr ⟨rfl, by decide, by decide⟩) (zq_F_tr (zq_F_wr ⟨rfl, by decide, by decide⟩) (zq_F_wr ⟨rfl, by decide, by decide⟩)))) hx ha ?_ ?_ ?_ ?_ ?_ (fun _ => ?_) (fun e => absurd e (by decide)) (fun e => absurd e (by decide)) (fun _ => ?_)
      · rw [zq_wr_i (by decide), zq_wr_i (by decide), zq_wr_i (by decide)]; exact g6
      · rw [zq_wr_i (by decide), zq_wr_i (by decide), zq_wr_e]; rfl
      · rw [zq_wr_i (by decide), zq_wr_i (by decide), zq_wr_i (by decide)]; exact g7
      · rw [ety, if_neg (fun s => s.2.2.1 rfl)]
      · rw [ebd, if_neg (fun s => s.2.2.1 rfl)]
      · rw [zq_wr_e, een]; omega
      · rw [zq_wr_i (by decide), zq_wr_e, ← ha]
  -- no letter
  have nol : ∀ (x3 : Int) (w4 : zm_V), (x3 = -1 ∧ n ≤ a) ∨ (a < n ∧ x3 = T a ∧ (T a < 97 ∨ 122 < T a)) → zu (zr none 2 133 159 [zm_A 30, zm_I x1, zm_I q, zm_I x3, w4] [] h0) (fun g => zq_F zf_Sc h g ∧ zy_C g T n q gl) := by
    intro x3 w4 hc
    refine zt_l e_133_159 (zt_p (fun c1 => sgn x3 w4 ?_) (fun c1 => zt_p (fun c2 => sgn x3 w4 ?_) (fun c2 => ?_)))
    · rcases hc with hc | ⟨r1, r2, r3⟩
      · exact Or.inl hc
      · exact Or.inr ⟨r1, r2, r3, by omega⟩
    · rcases hc with hc | ⟨r1, r2, r3⟩
      · exact Or.inl hc
      · exact Or.inr ⟨r1, r2, r3, by omega⟩
    · rcases hc with hc | ⟨hna, r2, r3⟩
      · omega
      · refine zt_V (s_135 hT0 hna g2 g6 g4 g7) ?_
        rintro k ⟨fk, k6, kk⟩
        have ety : ∀ b, zy_ty T n q b = if (b = true ∧ a = q) ∨ 4 < zy_dr T n a then 4 else 2 := fun b => by unfold zy_ty; rw [if_neg (by omega), if_neg (by rw [← ha]; omega), if_pos (by rw [← ha]; omega), ← ha]
        have ebd : ∀ b, zy_bd T n q b = if b = true ∧ a = q then a else if 4 < zy_dr T n a then a + 4 else a := fun b => by unfold zy_bd; rw [if_neg (by omega), if_neg (by rw [← ha]; omega), if_pos (by rw [← ha]; omega), ← ha]
        have een : zy_en T n q = a + zy_dr T n a := by unfold zy_en; rw [if_neg (by omega), if_neg (by rw [← ha]; omega), if_pos (by rw [← ha]; omega), ← ha]
        rcases kk with ⟨r6, k3, k2, k4, k7⟩ | ⟨r6, k3, k7⟩
        · refine s_133_d (t := 2) (bd := a) (zm_cat_I _) hT (zq_F_tr f0 fk) hx ha k6 k3 k7 ?_ ?_ (fun _ => by rw [een]; exact k2) (fun e => absurd e (by decide)) (fun _ => by unfold zy_nu; rw [← ha]; exact k4) (fun e => absurd e (by decide))
          · rw [ety]
            by_cases s : gl = true ∧ a = q
            · rw [if_pos (Or.inl s), if_pos ⟨s.1, s.2, by decide, by decide⟩]
            · rw [if_neg (fun r => r.elim s (by omega)), if_neg (fun r => s ⟨r.1, r.2.1⟩)]
          · rw [ebd]
            by_cases s : gl = true ∧ a = q
            · rw [if_pos s, if_pos ⟨s.1, s.2, by decide, by decide⟩]
            · rw [if_neg s, if_neg (by omega), if_neg (fun r => s ⟨r.1, r.2.1⟩)]
        · refine s_133_d (t := 4) (bd := a + 4) (zm_cat_I _) hT (zq_F_tr f0 fk) hx ha k6 k3 k7 ?_ ?_ (fun e => absurd rfl e) (fun e => absurd e (by decide)) (fun e => absurd e (by decide)) (fun e => absurd e (by decide))
          · rw [ety, if_pos (Or.inr r6)]; split <;> rfl
          · rw [ebd]
            by_cases s : gl = true ∧ a = q
            · rw [if_pos s, if_pos ⟨s.1, s.2, by decide, by decide⟩]
            · rw [if_neg s, if_pos r6, if_neg (fun r => s ⟨r.1, r.2.1⟩)]
  rw [g2, hT0.2.2.1]
  refine zt_p (fun c0 => ?_) (fun c0 => zt_t (by decide) (nol (-1) _ (Or.inl ⟨rfl, by omega⟩)))
  have hna : a < n := by omega
  rw [hT0.2.2.2.1 a hna]
  refine zt_c (by omega) (zt_p (fun c1 => nol _ _ (Or.inr ⟨hna, rfl, Or.inl c1⟩)) (fun c1 => zt_p (fun c2 => nol _ _ (Or.inr ⟨hna, rfl, Or.inr c2⟩)) (fun c2 => ?_)))
  refine zt_V (s_134 hT0 hna g2 g6 g4 g7) ?_
  rintro k ⟨fk, k6, kk⟩
  have ety : ∀ b, zy_ty T n q b = if (b = true ∧ a = q) ∨ 6 < zy_lr T n a then 4 else 1 := fun b => by unfold zy_ty; rw [if_neg (by omega), if_pos (by rw [← ha]; omega), ← ha]
  have ebd : ∀ b, zy_bd T n q b = if b = true ∧ a = q then a else if 6 < zy_lr T n a then a + 6 else a := fun b => by unfold zy_bd; rw [if_neg (by omega), if_pos (by rw [← ha]; omega), ← ha]
  have een : zy_en T n q = a + zy_lr T n a := by unfold zy_en; rw [if_neg (by omega), if_pos (by rw [← ha]; omega), ← ha]
  rcases kk with ⟨r6, k3, k2, k4, k7⟩ | ⟨r6, k3, k7⟩
  · refine s_133_d (t := 1) (bd := a) (zm_cat_I _) hT (zq_F_tr f0 fk) hx ha k6 k3 k7 ?_ ?_ (fun _ => by rw [een]; exact k2) (fun _ => ⟨by unfold zy_ls; rw [← ha]; exact k4, by unfold zy_ls; rw [← ha]; exact zy_lt_nm r6 (fun i hi => (zy_rn_in T n 97 122 (n - a) a i hi).2)⟩) (fun e => absurd e (by decide)) (fun e => absurd e (by decide))
    · rw [ety]
      by_cases s : gl = true ∧ a = q
      · rw [if_pos (Or.inl s), if_pos ⟨s.1, s.2, by decide, by decide⟩]
      · rw [if_neg (fun r => r.elim s (by omega)), if_neg (fun r => s ⟨r.1, r.2.1⟩)]
    · rw [ebd]
      by_cases s : gl = true ∧ a = q
      · rw [if_pos s, if_pos ⟨s.1, s.2, by decide, by decide⟩]
      · rw [if_neg s, if_neg (by omega), if_neg (fun r => s ⟨r.1, r.2.1⟩)]
  · refine s_133_d (t := 4) (bd := a + 6) (zm_cat_I _) hT (zq_F_tr f0 fk) hx ha k6 k3 k7 ?_ ?_ (fun e => absurd rfl e) (fun e => absurd e (by decide)) (fun e => absurd e (by decide)) (fun e => absurd e (by decide))
    · rw [ety, if_pos (Or.inr r6)]; split <;> rfl
    · rw [ebd]
      by_cases s : gl = true ∧ a = q
      · rw [if_pos s, if_pos ⟨s.1, s.2, by decide, by decide⟩]
      · rw [if_neg s, if_pos r6, if_neg (fun r => s ⟨r.1, r.2.1⟩)]
theorem s_133 {q : Nat} {gl : Bool} (hT : zy_CT h T n) (hq : q ≤ n) (h2 : h 30 2 = q) (h3 : (h 30 3 = 1 ∨ h 30 3 = 2) ↔ gl = true) : zu (zc 133 [zm_A 30] h) (fun g => zq_F zf_Sc h g ∧ zy_C g T n q gl) := by
  have hn16 := hT.1
  have skip : ∀ (m p : Nat) (k : zm_H) (x1 : Int) (w3 w4 : zm_V), p + m = n → (x1 ≠ 0 ↔ gl = true) → zq_F zf_Sc h k → k 30 2 = p → zy_sk T n m p = zy_at T n q → zu (zr none 2 133 27 [zm_A 30, zm_I x1, zm_I q, w3, w4] [] k) (fun g => zq_F zf_Sc h g ∧ zy_C g T n q gl) := by
    intro m
    induction m with
    | zero =>
      intro p k x1 w3 w4 hp hx fk k2 hs
      have hTk := hT.kp fk
      refine zt_l e_133_27 ?_
      rw [k2, hTk.2.2.1]
      refine zt_f (by omega) (zu_m (s_133_88 hTk hx hs hq k2) (fun g r => ⟨zq_F_tr fk r.1, r.2⟩))
    | succ m ih =>
      intro p k x1 w3 w4 hp hx fk k2 hs
      have hTk := hT.kp fk
      unfold zy_sk at hs
      refine zt_l e_133_27 ?_
      rw [k2, hTk.2.2.1, hTk.2.2.2.1 p (by omega), show (p : Int) + 1 = ((p + 1 : Nat) : Int) by omega]
      have fw : zq_F zf_Sc h (zm_wr k 30 2 ((p + 1 : Nat) : Int)) := zq_F_tr fk (zq_F_wr ⟨rfl, by decide, by decide⟩)
      refine zt_t (by omega) (zt_c (by omega) (zt_p (fun c1 => ?_) (fun c1 => zt_c (by omega) (zt_p (fun c2 => ?_) (fun c2 => ?_)))))
      · rw [if_pos ⟨by omega, Or.inl c1⟩] at hs
        exact zt_c (by omega) (ih (p + 1) _ x1 w3 w4 (by omega) hx fw zq_wr_e hs)
      · rw [if_pos ⟨by omega, Or.inr c2⟩] at hs
        exact zt_c (by omega) (ih (p + 1) _ x1 w3 w4 (by omega) hx fw zq_wr_e hs)
      · rw [if_neg (fun s => s.2.elim c1 c2)] at hs
        exact zu_m (s_133_88 hTk hx hs hq k2) (fun g r => ⟨zq_F_tr fk r.1, r.2⟩)
  refine zt_l e_133 ?_
  rw [h2]
  refine zt_p (fun c1 => skip (n - q) q h 1 _ _ (by omega) ⟨fun _ => h3.mp (Or.inl c1), fun _ => by decide⟩ zq_F_rf h2 rfl) (fun c1 => zt_p (fun c2 => skip (n - q) q h 1 _ _ (by omega) ⟨fun _ => h3.mp (Or.inr c2), fun _ => by decide⟩ zq_F_rf h2 rfl) (fun c2 => skip (n - q) q h 0 _ _ (by omega) ⟨fun e => absurd rfl e, fun e => absurd (h3.mpr e) (fun s => s.elim c1 c2)⟩ zq_F_rf h2 rfl))
theorem s_132 (hT : zy_CT h T n) : zu (zc 132 [zm_A 30] h) (fun g => zq_F zf_Sc h g ∧ zy_C g T n 0 false) := by
  have f0 : zq_F zf_Sc h (zm_wr (zm_wr h 30 2 0) 30 3 0) := zq_F_tr (zq_F_wr ⟨rfl, by decide, by decide⟩) (zq_F_wr ⟨rfl, by decide, by decide⟩)
  have e3 : zm_wr (zm_wr h 30 2 0) 30 3 0 30 3 = 0 := zq_wr_e
  refine zt_l e_132 (zt_V (s_133 (q := 0) (gl := false) (hT.kp f0) (Nat.zero_le _) (by rw [zq_wr_i (by decide), zq_wr_e]; rfl) ?_) (fun g r => zu_e ⟨zq_F_tr f0 r.1, r.2⟩))
  rw [e3]
  exact ⟨fun s => by omega, fun s => by cases s⟩
end
