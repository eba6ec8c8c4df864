/-! SUMS AND TESTS: the levels of the reference, one by one -/
section
variable (T : Nat → Int) (n b : Nat) (w : zm_V) (f : Nat)
def zy_A0 : Prop := ∀ (d p : Nat) (gl : Bool) (l : List Int) (h : zm_H) (k B : Nat) (ts : List Int), 8 * (n - p) + 6 < f → zy_Op h T n p gl b l k B ts d 0 → zy_tk h k → h 168 k = 0 → h 169 k ≠ 0 → (∀ s, s ∈ ts → zy_rk s < 1) → zy_Do b w (zy_X T n f 0 d p gl l) h (zy_Et h T n b k B ts d 1 5 (fun p g => zy_ow T n p g ≠ 19 ∧ zy_ow T n p g ≠ 20))
def zy_A1 : Prop := ∀ (d p : Nat) (gl : Bool) (l : List Int) (h0 h : zm_H) (k B : Nat) (ts : List Int), 8 * (n - p) + 7 < f → zy_Et h0 T n b k B ts d 1 5 (fun p g => zy_ow T n p g ≠ 20) p gl l h → d ≤ 7 → B + ts.length ≤ 7 * d → zy_tk h0 k → (∀ s, s ∈ ts → zy_rk s < 1) → zy_Do b w (zy_X T n f 1 d p gl l) h (zy_Et h0 T n b k B ts d 1 5 (fun p g => zy_ow T n p g ≠ 19 ∧ zy_ow T n p g ≠ 20))
def zy_A2 : Prop := ∀ (d p : Nat) (gl : Bool) (l : List Int) (h : zm_H) (k B : Nat) (ts : List Int), 8 * (n - p) + 5 < f → zy_Op h T n p gl b l k B ts d 1 → zy_tk h k → h 168 k = 0 → h 169 k ≠ 0 → (∀ s, s ∈ ts → zy_rk s < 2) → zy_Do b w (zy_X T n f 2 d p gl l) h (zy_Et h T n b k B ts d 2 4 (fun p g => zy_ow T n p g ≠ 20))
def zy_A3 : Prop := ∀ (d p : Nat) (gl : Bool) (l : List Int) (h0 h : zm_H) (k B : Nat) (ts : List Int), 8 * (n - p) + 7 < f → zy_Et h0 T n b k B ts d 2 4 (fun _ _ => True) p gl l h → d ≤ 7 → B + ts.length ≤ 7 * d + 1 → zy_tk h0 k → (∀ s, s ∈ ts → zy_rk s < 2) → zy_Do b w (zy_X T n f 3 d p gl l) h (zy_Et h0 T n b k B ts d 2 4 (fun p g => zy_ow T n p g ≠ 20))
def zy_A4 : Prop := ∀ (d p : Nat) (gl : Bool) (l : List Int) (h : zm_H) (k B : Nat) (ts : List Int), 8 * (n - p) + 4 < f → zy_Op h T n p gl b l k B ts d 2 → zy_tk h k → h 168 k = 0 → h 169 k ≠ 0 → (∀ s, s ∈ ts → zy_rk s < 4) → zy_Do b w (zy_X T n f 4 d p gl l) h (zy_Et h T n b k B ts d 3 3 (fun _ _ => True))
def zy_A5 : Prop := ∀ (d p : Nat) (gl : Bool) (l : List Int) (h : zm_H) (k B : Nat) (ts : List Int), 8 * (n - p) + 3 < f → zy_Op h T n p gl b l k B ts d 3 → zy_sp h T n p gl k → (∀ s, s ∈ ts → zy_rk s < 5) → zy_Do b w (zy_X T n f 5 d p gl l) h (zy_Es h T n b k B ts d 5 2 (fun p g => zy_am T n p g = 0))
def zy_A6 : Prop := ∀ (d p : Nat) (gl : Bool) (l : List Int) (h0 h : zm_H) (k B : Nat) (ts : List Int), 8 * (n - p) + 7 < f → zy_Es h0 T n b k B ts d 5 2 (fun p g => zy_mu T n p g = 0) p gl l h → d ≤ 7 → B + ts.length ≤ 7 * d + 3 → h0 168 k < 2 → (∀ s, s ∈ ts → zy_rk s < 5) → zy_Do b w (zy_X T n f 6 d p gl l) h (zy_Es h0 T n b k B ts d 5 2 (fun p g => zy_am T n p g = 0))
def zy_A7 : Prop := ∀ (d p : Nat) (gl : Bool) (l : List Int) (h : zm_H) (k B : Nat) (ts : List Int), 8 * (n - p) + 2 < f → zy_Op h T n p gl b l k B ts d 4 → zy_sp h T n p gl k → (∀ s, s ∈ ts → zy_rk s < 6) → zy_Do b w (zy_X T n f 7 d p gl l) h (zy_Es h T n b k B ts d 6 1 (fun p g => zy_mu T n p g = 0))
def zy_A8 : Prop := ∀ (d p : Nat) (gl : Bool) (l : List Int) (h0 h : zm_H) (k B : Nat) (ts : List Int), 8 * (n - p) + 7 < f → zy_Es h0 T n b k B ts d 6 1 (fun _ _ => True) p gl l h → d ≤ 7 → B + ts.length ≤ 7 * d + 4 → h0 168 k < 2 → (∀ s, s ∈ ts → zy_rk s < 6) → zy_Do b w (zy_X T n f 8 d p gl l) h (zy_Es h0 T n b k B ts d 6 1 (fun p g => zy_mu T n p g = 0))
def zy_A9 : Prop := ∀ (d p : Nat) (gl : Bool) (l : List Int) (h : zm_H) (k B : Nat) (ts : List Int), 8 * (n - p) + 1 < f → zy_Op h T n p gl b l k B ts d 5 → zy_sp h T n p gl k → zy_Do b w (zy_X T n f 9 d p gl l) h (zy_Es h T n b k B ts d 7 0 (fun _ _ => True))
def zy_A10 : Prop := ∀ (d p : Nat) (gl : Bool) (l : List Int) (h : zm_H) (k B : Nat) (ts : List Int), 8 * (n - p) < f → zy_Op h T n p gl b l k B ts d 5 → zy_sp h T n p gl k → zy_ow T n p gl = 23 → zy_Do b w (zy_X T n f 10 d p gl l) h (zy_Es h T n b k B ts d 7 0 (fun _ _ => True))
def zy_A11 : Prop := ∀ (d p : Nat) (gl : Bool) (l : List Int) (h : zm_H) (k B : Nat) (ts : List Int), 8 * (n - p) < f → zy_Op h T n p gl b l k B ts d 5 → zy_sp h T n p gl k → zy_ow T n p gl = 24 → zy_Do b w (zy_X T n f 11 d p gl l) h (zy_Es h T n b k B ts d 7 0 (fun _ _ => True))
end
theorem zy_Op.wk {h : zm_H} {T : Nat → Int} {n p : Nat} {gl : Bool} {b : Nat} {l : List Int} {k B : Nat} {ts : List Int} {d c c' : Nat} (hO : zy_Op h T n p gl b l k B ts d c) (hB : B + ts.length ≤ 7 * d + c') : zy_Op h T n p gl b l k B ts d c' := ⟨hO.1, hO.2.1, hO.2.2.1, hO.2.2.2.1, hO.2.2.2.2.1, hO.2.2.2.2.2.1, hB⟩
theorem zy_Op.bd {h : zm_H} {T : Nat → Int} {n p : Nat} {gl : Bool} {b : Nat} {l : List Int} {k B : Nat} {ts : List Int} {d c : Nat} (hO : zy_Op h T n p gl b l k B ts d c) : p ≤ n ∧ d ≤ 7 ∧ k ≤ d ∧ l.length + ts.length < p ∧ B + ts.length ≤ 7 * d + c := hO.2.2
theorem zy_E.bd {h g : zm_H} {T : Nat → Int} {n p : Nat} {gl : Bool} {b : Nat} {l : List Int} {k B : Nat} {ts : List Int} {d e : Nat} {r : Int} (hE : zy_E h g T n p gl b l k B ts d r e) : p ≤ n ∧ l.length + ts.length < p ∧ k ≤ d ∧ B + ts.length ≤ 7 * d + 5 := ⟨hE.2.1, hE.2.2.1, hE.2.2.2.1, hE.2.2.2.2.1⟩
theorem zy_E.k7 {h g : zm_H} {T : Nat → Int} {n p : Nat} {gl : Bool} {b : Nat} {l : List Int} {k B : Nat} {ts : List Int} {d e : Nat} {r : Int} (hE : zy_E h g T n p gl b l k B ts d r e) : g 167 k = h 167 k := by rw [hE.1 167 k (by unfold zf_Lv; omega)]
theorem zy_E.k70 {h g : zm_H} {T : Nat → Int} {n p : Nat} {gl : Bool} {b : Nat} {l : List Int} {k B : Nat} {ts : List Int} {d e : Nat} {r : Int} (hE : zy_E h g T n p gl b l k B ts d r e) : g 170 k = h 170 k := by rw [hE.1 170 k (by unfold zf_Lv; omega)]
section
variable {T : Nat → Int} {n b : Nat} {w : zm_V} {f : Nat}
theorem zy_l8 (hw : zm_cat w ≠ 2) (H9 : zy_A9 T n b w f) (H8 : zy_A8 T n b w f) : zy_A8 T n b w (f + 1) := by
  intro d p gl l h0 h k B ts hf hE hd hB h168 hr
  rw [zy_X8]
  by_cases q : zy_mu T n p gl = 0
  · rw [if_pos q]; exact zy_Do_r ⟨hE.1, hE.2.1, hE.2.2.1, q⟩
  rw [if_neg q]
  have m := zy_mu_ad q
  have t3 := zy_mu_ty q
  have bd := hE.1.bd
  have og := zy_en_gt (T := T) (g := gl) bd.1 (by omega)
  have S := hE.1.on (s := -zy_mu T n p gl - 1) (ph := h 168 k) (bg := h 169 k) hw (fun s hs => hr s hs) (by omega) hd (by omega) (fun lr new hG hn => by
    have c := s_190m hG bd.1 (by rw [hE.2.1]; exact h168) (by rw [m.2.1]; exact q) (by rw [if_pos m.1]; exact hn)
    rw [if_pos m.1, m.2.1] at c; exact c)
  refine zy_Do_s S (fun g r => ⟨zf_Pz_Lv r.2.2.2.2.2, ?_⟩)
  have sp : zy_sp g T n (zy_en T n p) (zy_ng T n p gl) k := ⟨by rw [r.2.2.2.1, hE.2.1]; exact h168, fun q => absurd (r.2.2.2.2.1.trans hE.2.2.1) q.2⟩
  refine zy_Do_b (H9 d _ _ l g k B (_ :: ts) (by omega) (r.op og hd bd.2.2.1 (by omega) (by omega)) sp) (fun p1 g1 l1 h2 e R => ⟨zf_Pz_Lv R.1.1, ?_⟩)
  have pr := zy_X_pr f 9 d _ _ l p1 g1 l1 (by decide) e og.2 (fun q => by omega)
  unfold zy_pr at pr
  have E2 := (zy_E.up (d := d) (c := 0) (r' := 6) (e' := 1) R.1 (by rw [if_neg (by omega)]) bd.2.2.1 (by omega) (by omega) (by unfold zy_rk; omega) (by omega)).re r.2.2.1
  rw [zy_cc_n (by omega)] at E2
  exact H8 d p1 g1 _ h0 h2 k B ts (by omega) ⟨E2, by rw [R.2.1, r.2.2.2.1, hE.2.1], R.2.2.1, trivial⟩ hd hB h168 hr
theorem zy_l7 (H9 : zy_A9 T n b w f) (H8 : zy_A8 T n b w f) : zy_A7 T n b w (f + 1) := by
  intro d p gl l h k B ts hf hO hsp hr
  rw [zy_X7]
  have bd := hO.bd
  refine zy_Do_b (H9 d p gl l h k B ts (by omega) (hO.wk (by omega)) hsp) (fun p1 g1 l1 h2 e R => ⟨zf_Pz_Lv R.1.1, ?_⟩)
  have pr := zy_X_pr f 9 d _ _ l p1 g1 l1 (by decide) e bd.1 (fun q => by omega)
  unfold zy_pr at pr
  exact H8 d p1 g1 l1 h h2 k B ts (by omega) ⟨R.1.wk (by omega) (by omega), R.2.1, R.2.2.1, trivial⟩ bd.2.1 bd.2.2.2.2 hsp.1 hr
theorem zy_l6 (hw : zm_cat w ≠ 2) (H7 : zy_A7 T n b w f) (H6 : zy_A6 T n b w f) : zy_A6 T n b w (f + 1) := by
  intro d p gl l h0 h k B ts hf hE hd hB h168 hr
  rw [zy_X6]
  by_cases q : zy_ad T n p gl = 0
  · rw [if_pos q]; exact zy_Do_r ⟨hE.1, hE.2.1, hE.2.2.1, by show zy_am T n p gl = 0; unfold zy_am; rw [if_pos q]; exact hE.2.2.2⟩
  rw [if_neg q]
  have m := zy_ad_am q
  have t3 := zy_ad_ty q
  have bd := hE.1.bd
  have og := zy_en_gt (T := T) (g := gl) bd.1 (by omega)
  have S := hE.1.on (s := -zy_ad T n p gl - 1) (ph := h 168 k) (bg := h 169 k) hw (fun s hs => hr s hs) (by omega) hd (by omega) (fun lr new hG hn => by
    have c := s_190m hG bd.1 (by rw [hE.2.1]; exact h168) (by rw [m.1]; exact q) (by rw [if_neg q]; exact hn)
    rw [if_neg q, m.1] at c; exact c)
  refine zy_Do_s S (fun g r => ⟨zf_Pz_Lv r.2.2.2.2.2, ?_⟩)
  have sp : zy_sp g T n (zy_en T n p) (zy_ng T n p gl) k := ⟨by rw [r.2.2.2.1, hE.2.1]; exact h168, fun q => absurd (r.2.2.2.2.1.trans hE.2.2.1) q.2⟩
  refine zy_Do_b (H7 d _ _ l g k B (_ :: ts) (by omega) (r.op og hd bd.2.2.1 (by omega) (by omega)) sp (fun s hs => ?_)) (fun p1 g1 l1 h2 e R => ⟨zf_Pz_Lv R.1.1, ?_⟩)
  · rcases List.mem_cons.mp hs with q | q
    · rw [q]; unfold zy_rk; omega
    · have := hr s q; omega
  have pr := zy_X_pr f 7 d _ _ l p1 g1 l1 (by decide) e og.2 (fun q => by omega)
  unfold zy_pr at pr
  have E2 := (zy_E.up (d := d) (c := 0) (r' := 5) (e' := 2) R.1 (by rw [if_neg (by omega)]) bd.2.2.1 (by omega) (by omega) (by unfold zy_rk; omega) (by omega)).re r.2.2.1
  rw [zy_cc_n (by omega)] at E2
  exact H6 d p1 g1 _ h0 h2 k B ts (by omega) ⟨E2, by rw [R.2.1, r.2.2.2.1, hE.2.1], R.2.2.1, R.2.2.2⟩ hd hB h168 hr
theorem zy_l5 (H7 : zy_A7 T n b w f) (H6 : zy_A6 T n b w f) : zy_A5 T n b w (f + 1) := by
  intro d p gl l h k B ts hf hO hsp hr
  rw [zy_X5]
  have bd := hO.bd
  refine zy_Do_b (H7 d p gl l h k B ts (by omega) (hO.wk (by omega)) hsp (fun s hs => by have := hr s hs; omega)) (fun p1 g1 l1 h2 e R => ⟨zf_Pz_Lv R.1.1, ?_⟩)
  have pr := zy_X_pr f 7 d _ _ l p1 g1 l1 (by decide) e bd.1 (fun q => by omega)
  unfold zy_pr at pr
  exact H6 d p1 g1 l1 h h2 k B ts (by omega) ⟨R.1.wk (by omega) (by omega), R.2.1, R.2.2.1, R.2.2.2⟩ bd.2.1 bd.2.2.2.2 hsp.1 hr
end
