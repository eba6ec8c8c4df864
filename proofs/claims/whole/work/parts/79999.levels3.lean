/-! SUMS AND TESTS: tests in the reference; all levels -/
section
variable {T : Nat → Int} {n b : Nat} {w : zm_V} {f : Nat}
theorem zy_tk_F {h g : zm_H} {k B : Nat} (f : zq_F (zf_Lv b k B) h g) (hk : zy_tk h k) : zy_tk g k := by
  unfold zy_tk at hk ⊢
  rw [f 167 k (by unfold zf_Lv; omega)]; exact hk
theorem zy_l4 (hw : zm_cat w ≠ 2) (H0 : zy_A0 T n b w f) (H4 : zy_A4 T n b w f) (H5 : zy_A5 T n b w f) : zy_A4 T n b w (f + 1) := by
  intro d p gl l h k B ts hf hO htk h8 h9 hr
  have bd := hO.bd
  have fs : zy_fs h k := ⟨htk, h9⟩
  rw [zy_X4]
  by_cases q : zy_ow T n p gl = 21
  · rw [if_pos q]
    have t1 := zy_ow_ty (T := T) (n := n) (p := p) (g := gl) (by omega)
    have on := zy_en_gt (T := T) (g := gl) bd.1 (by omega)
    by_cases hd : 7 ≤ d
    · rw [if_pos hd]; exact zy_Do_f (zy_nosf hw hO (by omega) fs q)
    rw [if_neg hd]
    refine zy_Do_s (zy_nos hw hO (by omega) fs q) ?_
    rintro g ⟨N1, N2, N3, N4⟩
    refine ⟨zf_Pz_Lv N2, ?_⟩
    refine zy_Do_b (H4 (d + 1) _ _ l g k B (22 :: ts) (by omega) N1 (zy_tk_F N2 htk) (by rw [N3]; exact h8) (by rw [N4]; exact h9) (fun s hs => ?_)) (fun p1 g1 l1 h2 e R => ⟨zf_Pz_Lv R.1.1, zy_Do_r ⟨?_, R.2.1, trivial⟩⟩)
    · rcases List.mem_cons.mp hs with q | q
      · rw [q]; unfold zy_rk; omega
      · exact hr s q
    · have E2 := (zy_E.up (d := d) (c := 1) (r' := 3) (e' := 3) R.1 (by rw [if_pos rfl]) bd.2.2.1 (by omega) (by omega) (by unfold zy_rk; omega) (by omega)).re N2
      rw [show zy_cc 22 = -21 from rfl] at E2
      exact E2
  rw [if_neg q]
  by_cases q1 : zy_sg T n p gl 91 = true
  · rw [if_pos q1]
    have t3 := (zy_sg_ty q1).1
    have on := zy_en_gt (T := T) (g := gl) bd.1 (by omega)
    by_cases hd : 7 ≤ d
    · rw [if_pos hd]; exact zy_Do_f (zy_opbf hw hO (by omega) (by omega) fs q1)
    rw [if_neg hd]
    refine zy_Do_s (zy_opb hw hO (by omega) (by omega) fs q1) ?_
    rintro g ⟨N1, N2, N3, N4, N5, N6, N7⟩
    refine ⟨zf_Pz_Lv N2, ?_⟩
    refine zy_Do_b (H0 (d + 1) _ _ l g (k + 1) _ [] (by omega) N1 (Or.inr N3) N4 (by omega) (fun s hs => by cases hs)) (fun p1 g1 l1 h2 e R => ⟨zf_Pz_Lv R.1.1, ?_⟩)
    have pr := zy_X_pr f 0 (d + 1) _ _ l p1 g1 l1 (by decide) e on.2 (fun q => by omega)
    unfold zy_pr at pr
    have bE := R.1.bd
    have e7 : h2 167 ((k + 1 : Nat) : Int) = 5 := by rw [R.1.k7]; exact N3
    by_cases q2 : zy_sg T n p1 g1 93 = true
    · rw [if_pos q2]
      have t32 := (zy_sg_ty q2).1
      have on2 := zy_en_gt (T := T) (g := g1) bE.1 (by omega)
      have S := zy_shut (x := 5) (r' := 3) (e' := 3) hw hO.1 rfl N2 R.1 (by omega) (by omega) bd.2.2.1 (by omega) (by omega) (by omega) e7 q2 (fun _ => by have := R.2.1; omega) (fun e => absurd e (by decide))
      refine zy_Do_sr S ?_
      rintro g3 ⟨a1, a2, a3, a4⟩
      rw [if_neg (show ¬ (5 : Int) = 4 by decide), List.append_nil] at a1
      exact ⟨a1, Or.inl (a2 rfl), trivial⟩
    · rw [if_neg q2]
      exact zy_Do_f (zy_shutf (x := 5) hw R.1 (by omega) (by omega) (by decide) e7 q2 (by have := R.2.1; omega) (fun _ => ⟨by have := R.2.1; omega, R.2.2⟩))
  rw [if_neg q1]
  by_cases q2 : zy_ow T n p gl = 22
  · rw [if_pos q2]; exact zy_Do_sr (zy_als hw hO (by omega) fs q2) (fun g r => r)
  rw [if_neg q2]
  refine zy_Do_b (H5 d p gl l h k B ts (by omega) (hO.wk (by omega)) ⟨by omega, fun _ => ⟨q, q1, q2⟩⟩ (fun s hs => by have := hr s hs; omega)) (fun p1 g1 l1 h2 e R => ⟨zf_Pz_Lv R.1.1, ?_⟩)
  have pr := zy_X_pr f 5 d _ _ l p1 g1 l1 (by decide) e bd.1 (fun q => by omega)
  unfold zy_pr at pr
  have bE := R.1.bd
  have tk2 := zy_tk_F R.1.1 htk
  have p8 : h2 168 k = 0 := R.2.1.trans h8
  by_cases qc : zy_cm T n p1 g1 = 0
  · rw [if_pos qc]; exact zy_Do_f (zy_E.nc hw R.1 bd.2.1 (by omega) p8 tk2 R.2.2.2 qc)
  rw [if_neg qc]
  have t3 := zy_cm_ty qc
  have cb := zy_cm_b qc
  have og := zy_en_gt (T := T) (g := g1) bE.1 (by omega)
  have S := R.1.on (s := -zy_cm T n p1 g1 - 1) (ph := 1) (bg := h2 169 k) hw (fun s hs => by have := hr s hs; omega) (by omega) bd.2.1 (by omega) (fun lr new hG hn => s_190c hG bE.1 p8 tk2 qc hn)
  refine zy_Do_s S (fun g r => ⟨zf_Pz_Lv r.2.2.2.2.2, ?_⟩)
  have sp : zy_sp g T n (zy_en T n p1) (zy_ng T n p1 g1) k := ⟨by rw [r.2.2.2.1]; decide, fun q => absurd (r.2.2.2.2.1.trans R.2.2.1) q.2⟩
  refine zy_Do_b (H5 d _ _ l1 g k B (_ :: ts) (by omega) (r.op og bd.2.1 bd.2.2.1 (by omega) (by omega)) sp (fun s hs => ?_)) (fun p3 g3 l3 h3 e3 R3 => ⟨zf_Pz_Lv R3.1.1, zy_Do_r ⟨?_, Or.inr ⟨R3.2.1.trans r.2.2.2.1, R3.2.2.2⟩, trivial⟩⟩)
  · rcases List.mem_cons.mp hs with q | q
    · rw [q]; unfold zy_rk; omega
    · have := hr s q; omega
  · have E2 := (zy_E.up (d := d) (c := 0) (r' := 3) (e' := 3) R3.1 (by rw [if_neg (by omega)]) bd.2.2.1 (by omega) (by omega) (by unfold zy_rk; omega) (by omega)).re r.2.2.1
    rw [zy_cc_n (by omega)] at E2
    exact E2
theorem zy_l3 (hw : zm_cat w ≠ 2) (H4 : zy_A4 T n b w f) (H3 : zy_A3 T n b w f) : zy_A3 T n b w (f + 1) := by
  intro d p gl l h0 h k B ts hf hE hd hB htk hr
  rw [zy_X3]
  by_cases q : zy_ow T n p gl = 20
  · rw [if_pos q]
    have t1 := zy_ow_ty (T := T) (n := n) (p := p) (g := gl) (by omega)
    have bd := hE.1.bd
    have og := zy_en_gt (T := T) (g := gl) bd.1 (by omega)
    have S := hE.1.on (s := 20) (ph := 0) (bg := 1) hw hr (by omega) hd (by omega) (fun lr new hG hn => by
      have c := s_190a hG bd.1 (by have := hE.2.1; omega) (zy_tk_F hE.1.1 htk) (Or.inr q) (by rw [if_pos q]; exact hn)
      rw [if_pos q, if_pos q] at c; exact c)
    refine zy_Do_s S (fun g r => ⟨zf_Pz_Lv r.2.2.2.2.2, ?_⟩)
    refine zy_Do_b (H4 d _ _ l g k B (20 :: ts) (by omega) (r.op og hd bd.2.2.1 (by omega) (by omega)) (zy_tk_F r.2.2.1 htk) r.2.2.2.1 (by rw [r.2.2.2.2.1]; decide) (fun s hs => ?_)) (fun p1 g1 l1 h2 e R => ⟨zf_Pz_Lv R.1.1, ?_⟩)
    · rcases List.mem_cons.mp hs with q | q
      · rw [q]; unfold zy_rk; omega
      · have := hr s q; omega
    have pr := zy_X_pr f 4 d _ _ l p1 g1 l1 (by decide) e og.2 (fun q => by omega)
    unfold zy_pr at pr
    have E2 := (zy_E.up (d := d) (c := 0) (r' := 2) (e' := 4) R.1 (by rw [if_neg (by decide)]) bd.2.2.1 (by omega) (by omega) (by unfold zy_rk; omega) (by omega)).re r.2.2.1
    rw [show zy_cc 20 = -22 from rfl] at E2
    exact H3 d p1 g1 _ h0 h2 k B ts (by omega) ⟨E2, R.2.1, trivial⟩ hd hB htk hr
  · rw [if_neg q]; exact zy_Do_r ⟨hE.1, hE.2.1, q⟩
theorem zy_l2 (H4 : zy_A4 T n b w f) (H3 : zy_A3 T n b w f) : zy_A2 T n b w (f + 1) := by
  intro d p gl l h k B ts hf hO htk h8 h9 hr
  rw [zy_X2]
  have bd := hO.bd
  refine zy_Do_b (H4 d p gl l h k B ts (by omega) (hO.wk (by omega)) htk h8 h9 (fun s hs => by have := hr s hs; omega)) (fun p1 g1 l1 h2 e R => ⟨zf_Pz_Lv R.1.1, ?_⟩)
  have pr := zy_X_pr f 4 d _ _ l p1 g1 l1 (by decide) e bd.1 (fun q => by omega)
  unfold zy_pr at pr
  exact H3 d p1 g1 l1 h h2 k B ts (by omega) ⟨R.1.wk (by omega) (by omega), R.2.1, trivial⟩ bd.2.1 bd.2.2.2.2 htk hr
theorem zy_l1 (hw : zm_cat w ≠ 2) (H2 : zy_A2 T n b w f) (H1 : zy_A1 T n b w f) : zy_A1 T n b w (f + 1) := by
  intro d p gl l h0 h k B ts hf hE hd hB htk hr
  rw [zy_X1]
  by_cases q : zy_ow T n p gl = 19
  · rw [if_pos q]
    have t1 := zy_ow_ty (T := T) (n := n) (p := p) (g := gl) (by omega)
    have bd := hE.1.bd
    have og := zy_en_gt (T := T) (g := gl) bd.1 (by omega)
    have S := hE.1.on (s := 21) (ph := 0) (bg := 1) hw hr (by omega) hd (by omega) (fun lr new hG hn => by
      have q' : ¬ zy_ow T n p gl = 20 := by omega
      have c := s_190a hG bd.1 (by have := hE.2.1; omega) (zy_tk_F hE.1.1 htk) (Or.inl q) (by rw [if_neg q']; exact hn)
      rw [if_neg q', if_neg q'] at c; exact c)
    refine zy_Do_s S (fun g r => ⟨zf_Pz_Lv r.2.2.2.2.2, ?_⟩)
    refine zy_Do_b (H2 d _ _ l g k B (21 :: ts) (by omega) (r.op og hd bd.2.2.1 (by omega) (by omega)) (zy_tk_F r.2.2.1 htk) r.2.2.2.1 (by rw [r.2.2.2.2.1]; decide) (fun s hs => ?_)) (fun p1 g1 l1 h2 e R => ⟨zf_Pz_Lv R.1.1, ?_⟩)
    · rcases List.mem_cons.mp hs with q | q
      · rw [q]; unfold zy_rk; omega
      · have := hr s q; omega
    have pr := zy_X_pr f 2 d _ _ l p1 g1 l1 (by decide) e og.2 (fun q => by omega)
    unfold zy_pr at pr
    have E2 := (zy_E.up (d := d) (c := 0) (r' := 1) (e' := 5) R.1 (by rw [if_neg (by decide)]) bd.2.2.1 (by omega) (by omega) (by unfold zy_rk; omega) (by omega)).re r.2.2.1
    rw [show zy_cc 21 = -23 from rfl] at E2
    exact H1 d p1 g1 _ h0 h2 k B ts (by omega) ⟨E2, R.2.1, R.2.2⟩ hd hB htk hr
  · rw [if_neg q]; exact zy_Do_r ⟨hE.1, hE.2.1, q, hE.2.2⟩
theorem zy_l0 (H2 : zy_A2 T n b w f) (H1 : zy_A1 T n b w f) : zy_A0 T n b w (f + 1) := by
  intro d p gl l h k B ts hf hO htk h8 h9 hr
  rw [zy_X0]
  have bd := hO.bd
  refine zy_Do_b (H2 d p gl l h k B ts (by omega) (hO.wk (by omega)) htk h8 h9 (fun s hs => by have := hr s hs; omega)) (fun p1 g1 l1 h2 e R => ⟨zf_Pz_Lv R.1.1, ?_⟩)
  have pr := zy_X_pr f 2 d _ _ l p1 g1 l1 (by decide) e bd.1 (fun q => by omega)
  unfold zy_pr at pr
  exact H1 d p1 g1 l1 h h2 k B ts (by omega) ⟨R.1.wk (by omega) (by omega), R.2.1, R.2.2⟩ bd.2.1 bd.2.2.2.2 htk hr
theorem zy_refer (T : Nat → Int) (n b : Nat) (w : zm_V) (hw : zm_cat w ≠ 2) : ∀ f, zy_A0 T n b w f ∧ zy_A1 T n b w f ∧ zy_A2 T n b w f ∧ zy_A3 T n b w f ∧ zy_A4 T n b w f ∧ zy_A5 T n b w f ∧ zy_A6 T n b w f ∧ zy_A7 T n b w f ∧ zy_A8 T n b w f ∧ zy_A9 T n b w f ∧ zy_A10 T n b w f ∧ zy_A11 T n b w f := by
  intro f
  induction f with
  | zero =>
    refine ⟨?_, ?_, ?_, ?_, ?_, ?_, ?_, ?_, ?_, ?_, ?_, ?_⟩
    · intro _ _ _ _ _ _ _ _ h; omega
    · intro _ _ _ _ _ _ _ _ _ h; omega
    · intro _ _ _ _ _ _ _ _ h; omega
    · intro _ _ _ _ _ _ _ _ _ h; omega
    · intro _ _ _ _ _ _ _ _ h; omega
    · intro _ _ _ _ _ _ _ _ h; omega
    · intro _ _ _ _ _ _ _ _ _ h; omega
    · intro _ _ _ _ _ _ _ _ h; omega
    · intro _ _ _ _ _ _ _ _ _ h; omega
    · intro _ _ _ _ _ _ _ _ h; omega
    · intro _ _ _ _ _ _ _ _ h; omega
    · intro _ _ _ _ _ _ _ _ h; omega
  | succ f ih =>
    obtain ⟨H0, H1, H2, H3, H4, H5, H6, H7, H8, H9, H10, H11⟩ := ih
    refine ⟨zy_l0 H2 H1, zy_l1 hw H2 H1, zy_l2 H4 H3, zy_l3 hw H4 H3, zy_l4 hw H0 H4 H5, zy_l5 H7 H6, zy_l6 hw H7 H6, zy_l7 H9 H8, zy_l8 hw H9 H8, zy_l9 hw H5 H10 H11, ?_, ?_⟩
    · intro d p gl l h k B ts hf hO hsp hx
      rw [zy_X10]
      exact zy_l10 (x := 15) hw H5 (by omega) hO hsp (Or.inl ⟨hx, rfl⟩) rfl
    · intro d p gl l h k B ts hf hO hsp hx
      rw [zy_X11]
      exact zy_l10 (x := 16) hw H5 (by omega) hO hsp (Or.inr ⟨hx, rfl⟩) rfl
end
