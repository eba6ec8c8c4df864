/-! SUMS AND TESTS: the reference at the end of a frame; its loop -/
def zy_n22 : List Int → Nat
  | [] => 0
  | s :: r => (if s = 22 then 1 else 0) + zy_n22 r
theorem zy_all {m : Int} : ∀ (new ts : List Int), (∀ s, s ∈ new → m ≤ zy_rk s) → (∀ s, s ∈ ts → zy_rk s < m) → zy_popd m (new ++ ts) = new.map zy_cc ∧ zy_rest m (new ++ ts) = ts ∧ zy_nots m (new ++ ts) = zy_n22 new := by
  intro new
  induction new with
  | nil =>
    intro ts _ h2
    cases ts with
    | nil => exact ⟨rfl, rfl, rfl⟩
    | cons s r =>
      have hs := h2 s List.mem_cons_self
      exact ⟨if_neg (by omega), if_neg (by omega), if_neg (by omega)⟩
  | cons s r ih =>
    intro ts h1 h2
    have hs := h1 s List.mem_cons_self
    have r3 := ih ts (fun x hx => h1 x (List.mem_cons_of_mem s hx)) h2
    refine ⟨?_, ?_, ?_⟩
    · show (if m ≤ zy_rk s then zy_cc s :: zy_popd m (r ++ ts) else []) = _
      rw [if_pos hs, r3.1]; rfl
    · show (if m ≤ zy_rk s then zy_rest m (r ++ ts) else _) = _
      rw [if_pos hs]; exact r3.2.1
    · show (if m ≤ zy_rk s then (if s = 22 then 1 else 0) + zy_nots m (r ++ ts) else 0) = _
      rw [if_pos hs, r3.2.2]; rfl
theorem zy_rk1 (s : Int) : 1 ≤ zy_rk s ∧ zy_rk s ≤ 6 := by unfold zy_rk; omega
theorem zy_all1 (ts : List Int) : zy_popd 1 ts = ts.map zy_cc ∧ zy_rest 1 ts = [] ∧ zy_nots 1 ts = zy_n22 ts := by
  have := zy_all (m := 1) ts [] (fun s _ => (zy_rk1 s).1) (fun s hs => by cases hs)
  rw [List.append_nil] at this
  exact this
def zy_cl (x : Int) : Int := if x = 3 then 44 else if x = 5 then 93 else 41
section
variable {h : zm_H} {T : Nat → Int} {n p b : Nat} {gl : Bool} {l : List Int} {k B o : Nat} {ts : List Int}
/-- the outermost: the end -/
theorem s_422_0 {x : Int} {w3 w4 : zm_V} (hG : zy_Go h T n p gl b l k B ts o) (hx : x < 2) (ho : zy_n22 ts ≤ o) : zi (zr none 3 190 422 [zm_A 146, zm_I k, zm_I x, w3, w4] [] h) (fun z g => z = 0 ∧ zq_F (zf_Jo b) h g ∧ zy_L g T n p gl b (l ++ ts.map zy_cc)) := by
  have a1 := zy_all1 ts
  refine zt_l e_190_422 (zt_t hx (zt_t hG.1.2.2.1 (zt_V (hG.jo 1 (by rw [a1.2.2]; exact ho)) ?_)))
  rintro g ⟨f, L, _⟩
  rw [a1.1] at L
  exact zt_c (Or.inl rfl) (zi_e ⟨rfl, f, L⟩)
/-- the first of two is told -/
theorem s_422_3 {w3 w4 : zm_V} (hG : zy_Go h T n p gl b l k B ts o) (hp : p ≤ n) (hs : zy_sg T n p gl 44 = true) (ho : zy_n22 ts ≤ o) : zi (zr none 3 190 422 [zm_A 146, zm_I k, zm_I 3, w3, w4] [] h) (fun z g => z = 1 ∧ zq_F (fun a i => zf_Jo b a i ∨ zf_Sr a i ∨ (a = 167 ∧ i = k) ∨ (a = 146 ∧ i = 44)) h g ∧ zy_L g T n (zy_en T n p) (zy_ng T n p gl) b (l ++ ts.map zy_cc) ∧ g 146 43 = B ∧ g 146 41 = ((o - zy_n22 ts : Nat) : Int) ∧ g 167 k = 4 ∧ g 146 44 = 0) := by
  have a1 := zy_all1 ts
  have t3 := (zy_sg_ty hs).1
  have kk := hG.2.2.2.2.2.1
  refine zt_l e_190_422 (zt_f (by decide) (zt_t rfl (zt_I (s_187s hG.1.2.1 (by omega) 44) ?_)))
  rintro z g ⟨rfl, rfl⟩
  rw [if_pos hs]
  refine zt_f (by decide) (zt_l e_190_464 (zt_t (by rw [hG.1.2.2.1]; decide) (zt_V (hG.jo 1 (by rw [a1.2.2]; exact ho)) ?_)))
  rintro g1 ⟨f1, L1, ts1, e41⟩
  rw [a1.1] at L1
  rw [a1.2.1] at ts1
  rw [a1.2.2] at e41
  have L2 : zy_L (zm_wr g1 167 k 4) T n p gl b (l ++ ts.map zy_cc) := L1.kp (fun i _ => zq_wr_n (by decide)) (fun a ha => by funext j; exact zq_wr_n (by omega))
  refine zt_c (by omega) (zt_V (s_159L L2 hp (by omega)) ?_)
  rintro g2 ⟨f2, L3⟩
  refine zt_c (Or.inl rfl) (zt_c (Or.inr rfl) (zi_e ⟨rfl, ?_, L3.kp (fun i hi => zq_wr_i (by omega)) (fun a ha => by funext j; exact zq_wr_n (by omega)), ?_, ?_, ?_, zq_wr_e⟩))
  · exact zq_F_tr (zq_F_wk f1 (fun a i q => Or.inl q)) (zq_F_tr (zq_F_wr (Or.inr (Or.inr (Or.inl ⟨rfl, rfl⟩)))) (zq_F_tr (zq_F_wk f2 (fun a i q => Or.inr (Or.inl q))) (zq_F_wr (Or.inr (Or.inr (Or.inr ⟨rfl, rfl⟩))))))
  · rw [zq_wr_i (by decide), f2 146 43 (by unfold zf_Sr; omega), zq_wr_n (by decide)]; exact ts1.1
  · rw [zq_wr_i (by decide), f2 146 41 (by unfold zf_Sr; omega), zq_wr_n (by decide)]; exact e41
  · rw [zq_wr_n (by decide), f2 167 k (by unfold zf_Sr; omega), zq_wr_e]
/-- a frame is closed -/
theorem s_422_c {x : Int} {w3 w4 : zm_V} {k' : Nat} (hG : zy_Go h T n p gl b l (k' + 1) B ts o) (hp : p ≤ n) (hx : x = 2 ∨ x = 4 ∨ x = 5) (hs : zy_sg T n p gl (zy_cl x) = true) (ho : zy_n22 ts < o) (hl : l.length + ts.length < 1600) (h170 : x = 4 → 15 ≤ h 170 ((k' + 1 : Nat) : Int) ∧ h 170 ((k' + 1 : Nat) : Int) ≤ 16) : zi (zr none 3 190 422 [zm_A 146, zm_I ((k' + 1 : Nat) : Int), zm_I x, w3, w4] [] h) (fun z g => z = 1 ∧ zq_F (fun a i => zf_Jo b a i ∨ zf_Sr a i ∨ (a = 146 ∧ (i = 40 ∨ i = 41)) ∨ (x = 5 ∧ a = 168 ∧ i = k')) h g ∧ zy_L g T n (zy_en T n p) (zy_ng T n p gl) b (l ++ ts.map zy_cc ++ (if x = 4 then [zy_cc (h 170 ((k' + 1 : Nat) : Int))] else [])) ∧ g 146 43 = B ∧ g 146 41 = ((o - zy_n22 ts - 1 : Nat) : Int) ∧ g 146 40 = ((k' + 1 : Nat) : Int) ∧ (x = 5 → g 168 k' = 2)) := by
  have a1 := zy_all1 ts
  have t3 := (zy_sg_ty hs).1
  have kk := hG.2.2.2.2.2.1
  have h40 := hG.2.1
  have run : zi (zr none 3 190 524 [zm_A 146, zm_I ((k' + 1 : Nat) : Int), zm_I x, w3, w4] [] h) (fun z g => z = 1 ∧ zq_F (fun a i => zf_Jo b a i ∨ zf_Sr a i ∨ (a = 146 ∧ (i = 40 ∨ i = 41)) ∨ (x = 5 ∧ a = 168 ∧ i = k')) h g ∧ zy_L g T n (zy_en T n p) (zy_ng T n p gl) b (l ++ ts.map zy_cc ++ (if x = 4 then [zy_cc (h 170 ((k' + 1 : Nat) : Int))] else [])) ∧ g 146 43 = B ∧ g 146 41 = ((o - zy_n22 ts - 1 : Nat) : Int) ∧ g 146 40 = ((k' + 1 : Nat) : Int) ∧ (x = 5 → g 168 k' = 2)) := by
    refine zt_l e_190_524 (zt_t (by rw [hG.1.2.2.1]; decide) (zt_V (hG.jo 1 (by rw [a1.2.2]; omega)) ?_))
    rintro g1 ⟨f1, L1, ts1, e41⟩
    rw [a1.1] at L1
    rw [a1.2.1] at ts1
    rw [a1.2.2] at e41
    have e40 : g1 146 40 = ((k' + 1 + 1 : Nat) : Int) := by rw [f1 146 40 (by unfold zf_Jo; omega)]; exact h40
    have e41' : zm_wr g1 146 40 (g1 146 40 - 1) 146 41 = ((o - zy_n22 ts : Nat) : Int) := by rw [zq_wr_i (by decide)]; exact e41
    rw [e41', e40, show ((k' + 1 + 1 : Nat) : Int) - 1 = ((k' + 1 : Nat) : Int) by omega]
    have hg2 : ∃ g2, g2 = zm_wr (zm_wr g1 146 40 ((k' + 1 : Nat) : Int)) 146 41 (((o - zy_n22 ts : Nat) : Int) - 1) := ⟨_, rfl⟩
    obtain ⟨g2, hg2⟩ := hg2
    rw [← hg2]
    have f2 : zq_F (fun a i => zf_Jo b a i ∨ zf_Sr a i ∨ (a = 146 ∧ (i = 40 ∨ i = 41)) ∨ (x = 5 ∧ a = 168 ∧ i = k')) h g2 := by
      rw [hg2]
      exact zq_F_tr (zq_F_wk f1 (fun a i q => Or.inl q)) (zq_F_tr (zq_F_wr (Or.inr (Or.inr (Or.inl ⟨rfl, Or.inl rfl⟩)))) (zq_F_wr (Or.inr (Or.inr (Or.inl ⟨rfl, Or.inr rfl⟩)))))
    have L2 : zy_L g2 T n p gl b (l ++ ts.map zy_cc) := by
      rw [hg2]
      exact L1.kp (fun i hi => by rw [zq_wr_i (by omega), zq_wr_i (by omega)]) (fun a ha => by funext j; rw [zq_wr_n (by omega), zq_wr_n (by omega)])
    have r40 : g2 146 40 = ((k' + 1 : Nat) : Int) := by rw [hg2, zq_wr_i (by decide), zq_wr_e]
    have r41 : g2 146 41 = ((o - zy_n22 ts - 1 : Nat) : Int) := by rw [hg2, zq_wr_e]; omega
    have r43 : g2 146 43 = B := by rw [hg2, zq_wr_i (by decide), zq_wr_i (by decide)]; exact ts1.1
    have r170 : g2 170 ((k' + 1 : Nat) : Int) = h 170 ((k' + 1 : Nat) : Int) := by rw [hg2, zq_wr_n (by decide), zq_wr_n (by decide), f1 170 _ (by unfold zf_Jo; omega)]
    have tail : ∀ (g3 : zm_H) (l3 : List Int), zq_F (fun a i => zf_Jo b a i ∨ zf_Sr a i ∨ (a = 146 ∧ (i = 40 ∨ i = 41)) ∨ (x = 5 ∧ a = 168 ∧ i = k')) h g3 → zy_L g3 T n p gl b l3 → g3 146 40 = ((k' + 1 : Nat) : Int) → g3 146 41 = ((o - zy_n22 ts - 1 : Nat) : Int) → g3 146 43 = B → zi (zr none 3 190 574 [zm_A 146, zm_I ((k' + 1 : Nat) : Int), zm_I x, w3, w4] [] g3) (fun z g => z = 1 ∧ zq_F (fun a i => zf_Jo b a i ∨ zf_Sr a i ∨ (a = 146 ∧ (i = 40 ∨ i = 41)) ∨ (x = 5 ∧ a = 168 ∧ i = k')) h g ∧ zy_L g T n (zy_en T n p) (zy_ng T n p gl) b l3 ∧ g 146 43 = B ∧ g 146 41 = ((o - zy_n22 ts - 1 : Nat) : Int) ∧ g 146 40 = ((k' + 1 : Nat) : Int) ∧ (x = 5 → g 168 k' = 2)) := by
      intro g3 l3 f3 L3 s40 s41 s43
      refine zt_l e_190_574 ?_
      rw [s40, show ((k' + 1 : Nat) : Int) - 1 = (k' : Int) by omega]
      refine zt_p (fun x5 => zt_c (by omega) (zt_c (by omega) ?_)) (fun x5 => ?_)
      · have L4 : zy_L (zm_wr g3 168 k' 2) T n p gl b l3 := L3.kp (fun i _ => zq_wr_n (by decide)) (fun a ha => by funext j; exact zq_wr_n (by omega))
        refine zt_V (s_159L L4 hp (by omega)) ?_
        rintro g4 ⟨f4, L5⟩
        refine zt_c (Or.inr rfl) (zi_e ⟨rfl, zq_F_tr f3 (zq_F_tr (zq_F_wr (Or.inr (Or.inr (Or.inr ⟨x5, rfl, rfl⟩)))) (zq_F_wk f4 (fun a i q => Or.inr (Or.inl q)))), L5, ?_, ?_, ?_, fun _ => ?_⟩)
        · rw [f4 146 43 (by unfold zf_Sr; omega), zq_wr_n (by decide)]; exact s43
        · rw [f4 146 41 (by unfold zf_Sr; omega), zq_wr_n (by decide)]; exact s41
        · rw [f4 146 40 (by unfold zf_Sr; omega), zq_wr_n (by decide)]; exact s40
        · rw [f4 168 k' (by unfold zf_Sr; omega), zq_wr_e]
      · refine zt_V (s_159L L3 hp (by omega)) ?_
        rintro g4 ⟨f4, L5⟩
        refine zt_c (Or.inr rfl) (zi_e ⟨rfl, zq_F_tr f3 (zq_F_wk f4 (fun a i q => Or.inr (Or.inl q))), L5, ?_, ?_, ?_, fun q => absurd q x5⟩)
        · rw [f4 146 43 (by unfold zf_Sr; omega)]; exact s43
        · rw [f4 146 41 (by unfold zf_Sr; omega)]; exact s41
        · rw [f4 146 40 (by unfold zf_Sr; omega)]; exact s40
    have o7 := hG.2.2.2.2.2.2.2.2.2
    refine zt_c (by omega) (zt_c (by omega) (zt_p (fun x4 => ?_) (fun x4 => ?_)))
    · have hb := h170 x4
      rw [r170]
      refine zt_c (by omega) (zt_V (s_189 L2 (by rw [List.length_append, List.length_map]; exact hl) (zy_cc_cr (by omega))) ?_)
      rintro g3 ⟨f3, L3⟩
      rw [if_pos x4]
      refine tail g3 _ (zq_F_tr f2 (zq_F_wk f3 (fun a i q => Or.inl (by unfold zf_Cd at q; unfold zf_Jo; omega)))) L3 ?_ ?_ ?_
      · rw [f3 146 40 (by unfold zf_Cd; omega)]; exact r40
      · rw [f3 146 41 (by unfold zf_Cd; omega)]; exact r41
      · rw [f3 146 43 (by unfold zf_Cd; omega)]; exact r43
    · rw [if_neg x4, List.append_nil]
      exact tail g2 _ f2 L2 r40 r41 r43
  refine zt_l e_190_422 (zt_f (by omega) (zt_f (by omega) (zt_p (fun x5 => ?_) (fun x5 => ?_))))
  · have hs' : zy_sg T n p gl 93 = true := by
      unfold zy_cl at hs; rw [if_neg (by omega), if_pos x5] at hs; exact hs
    refine zt_I (s_187s hG.1.2.1 (by omega) 93) ?_
    rintro z g ⟨rfl, rfl⟩
    rw [if_pos hs']
    exact zt_f (by decide) run
  · have hs' : zy_sg T n p gl 41 = true := by
      unfold zy_cl at hs; rw [if_neg (by omega), if_neg x5] at hs; exact hs
    refine zt_I (s_187s hG.1.2.1 (by omega) 41) ?_
    rintro z g ⟨rfl, rfl⟩
    rw [if_pos hs']
    exact zt_f (by decide) run
/-- another sign: FAULT 1 -/
theorem s_422_f {x : Int} {w3 w4 : zm_V} (hL : zy_L h T n p gl b l) (ht : zy_ty T n p gl ≠ 4) (hx : ¬ x < 2) (hs : ¬ zy_sg T n p gl (zy_cl x) = true) : zi (zr none 3 190 422 [zm_A 146, zm_I k, zm_I x, w3, w4] [] h) (fun z g => z = 0 ∧ g = zm_wr (zm_wr h 146 8 1) 146 9 (zy_at T n p)) := by
  have e8 : zm_wr (zm_wr h 146 8 1) 146 9 (zy_at T n p) 146 8 = 1 := by rw [zq_wr_i (by decide), zq_wr_e]
  have e4 := hL.2.1.1
  have f8 := hL.2.2.1
  have b524 : zi (zk_V (zc 164 [zm_A 146, zm_I 1, zm_I (h 146 4)] h) (fun h7 => zr none 3 190 524 [zm_A 146, zm_I k, zm_I x, w3, w4] [] h7)) (fun z g => z = 0 ∧ g = zm_wr (zm_wr h 146 8 1) 146 9 (zy_at T n p)) := by
    rw [e4]
    refine zt_V (s_164y 1 _ f8) ?_
    rintro g rfl
    exact zt_l e_190_524 (zt_f (by rw [e8]; decide) (zt_c (Or.inl rfl) (zi_e ⟨rfl, rfl⟩)))
  refine zt_l e_190_422 (zt_f hx (zt_p (fun x3 => ?_) (fun x3 => zt_p (fun x5 => ?_) (fun x5 => ?_))))
  · have hs' : ¬ zy_sg T n p gl 44 = true := by
      unfold zy_cl at hs; rw [if_pos x3] at hs; exact hs
    refine zt_I (s_187s hL.2.1 ht 44) ?_
    rintro z g ⟨rfl, rfl⟩
    rw [if_neg hs', e4]
    refine zt_t rfl (zt_V (s_164y 1 _ f8) ?_)
    rintro g rfl
    exact zt_l e_190_464 (zt_f (by rw [e8]; decide) (zt_c (Or.inl rfl) (zi_e ⟨rfl, rfl⟩)))
  · have hs' : ¬ zy_sg T n p gl 93 = true := by
      unfold zy_cl at hs; rw [if_neg x3, if_pos x5] at hs; exact hs
    refine zt_I (s_187s hL.2.1 ht 93) ?_
    rintro z g ⟨rfl, rfl⟩
    rw [if_neg hs']
    exact zt_t rfl b524
  · have hs' : ¬ zy_sg T n p gl 41 = true := by
      unfold zy_cl at hs; rw [if_neg x3, if_neg x5] at hs; exact hs
    refine zt_I (s_187s hL.2.1 ht 41) ?_
    rintro z g ⟨rfl, rfl⟩
    rw [if_neg hs']
    exact zt_t rfl b524
/-- the loop: an operand is wanted -/
theorem s_182_0 {w1 : zm_V} {R : Int → zm_H → Prop} {Q : zm_H → Prop} (hw : zm_cat w1 ≠ 2) (h44 : h 146 44 = 0) (c : zi (zc 184 [zm_A 146] h) R) (kq : ∀ z g, R z g → (z = 0 ∨ z = 1) ∧ (g 146 8 = 0 → zu (zr none 5 182 43 [zm_A 146, w1, zm_I 1] [] (zm_wr g 146 44 z)) Q) ∧ (g 146 8 ≠ 0 → Q (zm_wr g 146 44 z))) : zu (zr none 5 182 43 [zm_A 146, w1, zm_I 1] [] h) Q := by
  refine zt_l (e_182_43 hw) (zt_f (by decide) (zt_t h44 (zt_I c ?_)))
  intro z g r
  obtain ⟨r1, r2, r3⟩ := kq z g r
  have e8 : zm_wr g 146 44 z 146 8 = g 146 8 := zq_wr_i (by decide)
  refine zt_c (by unfold zm_bit; omega) (zt_f (by decide) ?_)
  rw [e8]
  exact zt_p (fun q => r2 q) (fun q => zt_l (e_182_43 hw) (zt_t rfl (zu_e (r3 q))))
/-- the loop: behind an operand -/
theorem s_182_1 {w1 : zm_V} {R : Int → zm_H → Prop} {Q : zm_H → Prop} (hw : zm_cat w1 ≠ 2) (h44 : h 146 44 = 1) (c : zi (zc 190 [zm_A 146] h) R) (kq : ∀ z g, R z g → (z = 0 → Q g) ∧ (z ≠ 0 → g 146 8 = 0 → zu (zr none 5 182 43 [zm_A 146, w1, zm_I 1] [] g) Q) ∧ (z ≠ 0 → g 146 8 ≠ 0 → Q g)) : zu (zr none 5 182 43 [zm_A 146, w1, zm_I 1] [] h) Q := by
  refine zt_l (e_182_43 hw) (zt_f (by decide) (zt_f (by omega) (zt_I c ?_)))
  intro z g r
  obtain ⟨r1, r2, r3⟩ := kq z g r
  exact zt_p (fun q => zt_l (e_182_43 hw) (zt_t rfl (zu_e (r1 q)))) (fun q => zt_p (fun q2 => r2 q q2) (fun q2 => zt_l (e_182_43 hw) (zt_t rfl (zu_e (r3 q q2)))))
end
