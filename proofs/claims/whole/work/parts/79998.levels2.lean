/-! SUMS AND TESTS: parts of sums in the reference -/
section
variable {T : Nat → Int} {n b : Nat} {w : zm_V} {f : Nat}
/-- a bracket's end behind a sum -/
theorem zy_brk {h h1 g : zm_H} {p p1 : Nat} {gl g1 : Bool} {l l1 : List Int} {k B d c : Nat} {ts : List Int} {x y : Int} (hw : zm_cat w ≠ 2) (hO : zy_Op h T n p gl b l k B ts d c) (hc : c ≤ 5) (f1 : zq_F (zf_Lv b k (B + ts.length)) h h1) (h68 : h1 168 k = h 168 k) (h69 : h1 169 k = 0) (R : zy_Es h1 T n b (k + 1) (B + ts.length) [] (d + 1) 5 2 (fun p g => zy_am T n p g = 0) p1 g1 l1 g) (hd : d < 7) (hl : l1.length + 1 + ts.length < p1) (hx : (x = 2 ∧ h1 167 ((k + 1 : Nat) : Int) = 2) ∨ (x = 4 ∧ h1 167 ((k + 1 : Nat) : Int) = 4 ∧ 15 ≤ h1 170 ((k + 1 : Nat) : Int) ∧ h1 170 ((k + 1 : Nat) : Int) ≤ 16)) (hy : y = h1 170 ((k + 1 : Nat) : Int)) : zy_Do b w (if zy_sg T n p1 g1 41 = true then .inr (zy_en T n p1, zy_ng T n p1 g1, l1 ++ (if x = 4 then [zy_cc y] else [])) else .inl (1, zy_bd T n p1 g1)) g (zy_Es h T n b k B ts d 7 0 (fun _ _ => True)) := by
  have bd := hO.bd
  have bE := R.1.bd
  have e7 : g 167 ((k + 1 : Nat) : Int) = x := by rw [R.1.k7]; omega
  have cl : zy_cl x = 41 := by unfold zy_cl; omega
  by_cases q : zy_sg T n p1 g1 41 = true
  · rw [if_pos q]
    have t3 := (zy_sg_ty q).1
    have on := zy_en_gt (T := T) (g := g1) bE.1 (by omega)
    have S := zy_shut (r' := 7) (e' := 0) hw hO.1 rfl f1 R.1 (by omega) (by omega) bd.2.2.1 (by omega) (by omega) (by omega) e7 (by rw [cl]; exact q) (fun e => by omega) (fun e => by rw [R.1.k70]; omega)
    refine zy_Do_sr S ?_
    rintro g3 ⟨a1, a2, a3, a4⟩
    rw [R.1.k70, ← hy] at a1
    exact ⟨a1, (a3 (by omega)).trans h68, a4.trans h69, trivial⟩
  · rw [if_neg q]
    exact zy_Do_f (zy_shutf (x := x) hw R.1 (by omega) (by omega) (by omega) e7 (by rw [cl]; exact q) (Or.inr R.2.2.2) (fun e => by omega))
theorem zy_l10 {d p : Nat} {gl : Bool} {l : List Int} {h : zm_H} {k B : Nat} {ts : List Int} {x c : Int} (hw : zm_cat w ≠ 2) (H5 : zy_A5 T n b w f) (hf : 8 * (n - p) ≤ f) (hO : zy_Op h T n p gl b l k B ts d 5) (hsp : zy_sp h T n p gl k) (hx : (zy_ow T n p gl = 23 ∧ x = 15) ∨ (zy_ow T n p gl = 24 ∧ x = 16)) (hc : zy_cc x = c) : zy_Do b w (if zy_sg T n (zy_en T n p) (zy_ng T n p gl) 40 = true then (if 7 ≤ d then .inl (5, zy_at T n (zy_en T n p)) else zy_th (zy_X T n f 5 (d + 1) (zy_en T n (zy_en T n p)) (zy_ng T n (zy_en T n p) (zy_ng T n p gl)) l) (fun p g l => if zy_sg T n p g 44 = true then zy_th (zy_X T n f 5 (d + 1) (zy_en T n p) (zy_ng T n p g) l) (fun p g l => if zy_sg T n p g 41 = true then .inr (zy_en T n p, zy_ng T n p g, l ++ [c]) else .inl (1, zy_bd T n p g)) else .inl (1, zy_bd T n p g))) else .inl (1, zy_bd T n (zy_en T n p) (zy_ng T n p gl))) h (zy_Es h T n b k B ts d 7 0 (fun _ _ => True)) := by
  have bd := hO.bd
  have t1 := zy_ow_ty (T := T) (n := n) (p := p) (g := gl) (by omega)
  have on := zy_en_gt (T := T) (g := gl) bd.1 (by omega)
  by_cases q : zy_sg T n (zy_en T n p) (zy_ng T n p gl) 40 = true
  · rw [if_pos q]
    have t3 := (zy_sg_ty q).1
    have on2 := zy_en_gt (T := T) (g := zy_ng T n p gl) on.2 (by omega)
    by_cases hd : 7 ≤ d
    · rw [if_pos hd]
      exact zy_Do_f (zy_opmf hw hO hsp hx (Or.inr ⟨q, by omega, rfl, rfl⟩))
    rw [if_neg hd]
    refine zy_Do_s (zy_opm hw hO (by omega) (by omega) hsp hx q) ?_
    rintro g ⟨⟨N1, N2, N3, N4, N5, N6, N7⟩, N8⟩
    refine ⟨zf_Pz_Lv N2, ?_⟩
    refine zy_Do_b (H5 (d + 1) _ _ l g (k + 1) _ [] (by omega) (N1.wk (by have := N1.bd; omega)) ⟨by omega, fun q => by unfold zy_fs at q; omega⟩ (fun s hs => by cases hs)) (fun p1 g1 l1 h2 e R => ⟨zf_Pz_Lv R.1.1, ?_⟩)
    have pr := zy_X_pr f 5 (d + 1) _ _ l p1 g1 l1 (by decide) e on2.2 (fun q => by omega)
    unfold zy_pr at pr
    have bE := R.1.bd
    have e7 : h2 167 ((k + 1 : Nat) : Int) = 3 := by rw [R.1.k7]; exact N3
    by_cases q2 : zy_sg T n p1 g1 44 = true
    · rw [if_pos q2]
      have t32 := (zy_sg_ty q2).1
      have on3 := zy_en_gt (T := T) (g := g1) bE.1 (by omega)
      refine zy_Do_s (zy_comma hw R.1 (by omega) (by omega) e7 q2) ?_
      rintro g3 ⟨C1, C2, C3, C4⟩
      refine ⟨zq_F_wk C2 (fun a i q => by unfold zf_Lv at q; unfold zf_Pz; omega), ?_⟩
      have c8 : g3 168 ((k + 1 : Nat) : Int) = 0 := by rw [C4, R.2.1]; exact N4
      have FF : zq_F (zf_Lv b k (B + ts.length)) g g3 := zq_F_tr (zq_F_wk R.1.1 (fun a i q => by unfold zf_Lv at q ⊢; omega)) (zq_F_wk C2 (fun a i q => by unfold zf_Lv at q ⊢; omega))
      have K8 : ∀ a : Nat, a = 168 ∨ a = 169 → g3 a k = g a k := fun a ha => by rw [C2 a k (by unfold zf_Lv; omega), R.1.1 a k (by unfold zf_Lv; omega)]
      refine zy_Do_b (H5 (d + 1) _ _ l1 g3 (k + 1) _ [] (by omega) (C1.wk (by have := N1.bd; omega)) ⟨by omega, fun q => by unfold zy_fs at q; omega⟩ (fun s hs => by cases hs)) (fun p3 g4 l3 h3 e3 R3 => ⟨zf_Pz_Lv R3.1.1, ?_⟩)
      have pr3 := zy_X_pr f 5 (d + 1) _ _ l1 p3 g4 l3 (by decide) e3 on3.2 (fun q => by omega)
      unfold zy_pr at pr3
      have e70 : g3 170 ((k + 1 : Nat) : Int) = x := by rw [C2 170 _ (by unfold zf_Lv; omega), R.1.k70]; exact N8
      have D := zy_brk (x := 4) (y := x) hw hO (by omega) (zq_F_tr N2 FF) (by rw [K8 168 (Or.inl rfl)]; exact N6) (by rw [K8 169 (Or.inr rfl)]; exact N7) R3 (by omega) (by omega) (Or.inr ⟨rfl, C3, by omega, by omega⟩) e70.symm
      rw [if_pos rfl, hc] at D
      exact D
    · rw [if_neg q2]
      exact zy_Do_f (zy_shutf (x := 3) hw R.1 (by omega) (by omega) (by omega) e7 q2 (Or.inr R.2.2.2) (fun e => by omega))
  · rw [if_neg q]
    exact zy_Do_f (zy_opmf hw hO hsp hx (Or.inl ⟨by cases h2 : zy_sg T n (zy_en T n p) (zy_ng T n p gl) 40 with | false => rfl | true => exact absurd h2 q, rfl, rfl⟩))
theorem zy_l9 (hw : zm_cat w ≠ 2) (H5 : zy_A5 T n b w f) (H10 : zy_A10 T n b w f) (H11 : zy_A11 T n b w f) : zy_A9 T n b w (f + 1) := by
  intro d p gl l h k B ts hf hO hsp
  have bd := hO.bd
  rw [zy_X9]
  by_cases q : zy_sg T n p gl 40 = true
  · rw [if_pos q]
    have t3 := (zy_sg_ty q).1
    have on := zy_en_gt (T := T) (g := gl) bd.1 (by omega)
    by_cases hd : 7 ≤ d
    · rw [if_pos hd]
      exact zy_Do_f (zy_oppf hw hO (by omega) (by omega) hsp q)
    rw [if_neg hd]
    refine zy_Do_s (zy_opp hw hO (by omega) (by omega) hsp q) ?_
    rintro g ⟨N1, N2, N3, N4, N5, N6, N7⟩
    refine ⟨zf_Pz_Lv N2, ?_⟩
    refine zy_Do_b (H5 (d + 1) _ _ l g (k + 1) _ [] (by omega) (N1.wk (by have := N1.bd; omega)) ⟨by omega, fun q => by unfold zy_fs at q; omega⟩ (fun s hs => by cases hs)) (fun p1 g1 l1 h2 e R => ⟨zf_Pz_Lv R.1.1, ?_⟩)
    have pr := zy_X_pr f 5 (d + 1) _ _ l p1 g1 l1 (by decide) e on.2 (fun q => by omega)
    unfold zy_pr at pr
    have D := zy_brk (x := 2) (y := g 170 ((k + 1 : Nat) : Int)) hw hO (by omega) N2 N6 N7 R (by omega) (by omega) (Or.inl ⟨rfl, N3⟩) rfl
    rw [if_neg (show ¬ (2 : Int) = 4 by decide), List.append_nil] at D
    exact D
  rw [if_neg q]
  by_cases q1 : zy_ow T n p gl = 23
  · rw [if_pos q1]; exact H10 d p gl l h k B ts (by omega) hO hsp q1
  rw [if_neg q1]
  by_cases q2 : zy_ow T n p gl = 24
  · rw [if_pos q2]; exact H11 d p gl l h k B ts (by omega) hO hsp q2
  rw [if_neg q2]
  by_cases q3 : zy_ty T n p gl = 2
  · rw [if_pos q3]; exact zy_Do_sr (zy_val hw hO (by omega) hsp q q1 q2 (Or.inl ⟨q3, rfl⟩)) (fun g r => r)
  rw [if_neg q3]
  by_cases q4 : zy_se (zy_ow T n p gl) = 0
  · rw [if_pos q4]; exact zy_Do_f (zy_valf hw hO hsp q q1 q2 q3 q4)
  rw [if_neg q4]
  exact zy_Do_sr (zy_val hw hO (by omega) hsp q q1 q2 (Or.inr ⟨q3, q4, rfl⟩)) (fun g r => r)
end
