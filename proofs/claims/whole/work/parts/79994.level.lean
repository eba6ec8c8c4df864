/-! SUMS AND TESTS: levels of the reference, what they start from and end in -/
def zy_Fr (h : zm_H) (T : Nat → Int) (n p : Nat) (gl : Bool) (b : Nat) (l : List Int) (k B : Nat) (ts : List Int) (o : Nat) : Prop := zy_L h T n p gl b l ∧ h 146 40 = ((k + 1 : Nat) : Int) ∧ h 171 k = B ∧ zy_ts h B ts ∧ h 146 41 = o ∧ (∀ s, s ∈ ts → 10 ≤ s ∧ s ≤ 22)
/-- an operand is wanted -/
def zy_Op (h : zm_H) (T : Nat → Int) (n p : Nat) (gl : Bool) (b : Nat) (l : List Int) (k B : Nat) (ts : List Int) (d c : Nat) : Prop := zy_Fr h T n p gl b l k B ts d ∧ h 146 44 = 0 ∧ p ≤ n ∧ d ≤ 7 ∧ k ≤ d ∧ l.length + ts.length < p ∧ B + ts.length ≤ 7 * d + c
/-- behind an operand -/
def zy_E (h g : zm_H) (T : Nat → Int) (n p : Nat) (gl : Bool) (b : Nat) (l : List Int) (k B : Nat) (ts : List Int) (d : Nat) (r : Int) (e : Nat) : Prop := zq_F (zf_Lv b k B) h g ∧ p ≤ n ∧ l.length + ts.length < p ∧ k ≤ d ∧ B + ts.length ≤ 7 * d + 5 ∧ g 146 44 = 1 ∧ ∃ lr new, l = lr ++ new.map zy_cc ∧ (∀ s, s ∈ new → r ≤ zy_rk s ∧ 10 ≤ s ∧ s ≤ 22) ∧ zy_Fr g T n p gl b lr k B (new ++ ts) (d + zy_n22 new) ∧ d + zy_n22 new ≤ 7 ∧ new.length ≤ e + zy_n22 new
def zy_Es (h0 : zm_H) (T : Nat → Int) (n b k B : Nat) (ts : List Int) (d : Nat) (r : Int) (e : Nat) (q : Nat → Bool → Prop) (p : Nat) (g : Bool) (l : List Int) (h : zm_H) : Prop := zy_E h0 h T n p g b l k B ts d r e ∧ h 168 k = h0 168 k ∧ h 169 k = 0 ∧ q p g
def zy_Et (h0 : zm_H) (T : Nat → Int) (n b k B : Nat) (ts : List Int) (d : Nat) (r : Int) (e : Nat) (q : Nat → Bool → Prop) (p : Nat) (g : Bool) (l : List Int) (h : zm_H) : Prop := zy_E h0 h T n p g b l k B ts d r e ∧ (h 168 k = 2 ∨ (h 168 k = 1 ∧ zy_am T n p g = 0)) ∧ q p g
/-- what the loop ends in -/
def zy_Do (b : Nat) (w : zm_V) (o : zy_O) (h : zm_H) (P : Nat → Bool → List Int → zm_H → Prop) : Prop := ∀ Q : zm_H → Prop, (∀ kf a : Nat, o = .inl (kf, a) → kf ≠ 0 → ∀ g, zq_F (zf_Pz b) h g → g 146 8 = kf → g 146 9 = a → Q g) → (∀ p g l, o = .inr (p, g, l) → ∀ h2, P p g l h2 → zu (zr none 5 182 43 [zm_A 146, w, zm_I 1] [] h2) Q) → zu (zr none 5 182 43 [zm_A 146, w, zm_I 1] [] h) Q
def zy_St (w : zm_V) (h : zm_H) (R : zm_H → Prop) : Prop := ∀ Q : zm_H → Prop, (∀ g, R g → zu (zr none 5 182 43 [zm_A 146, w, zm_I 1] [] g) Q) → zu (zr none 5 182 43 [zm_A 146, w, zm_I 1] [] h) Q
def zy_Fl (b : Nat) (w : zm_V) (h : zm_H) (kf a : Nat) : Prop := ∀ Q : zm_H → Prop, (∀ g, zq_F (zf_Pz b) h g → g 146 8 = kf → g 146 9 = a → Q g) → zu (zr none 5 182 43 [zm_A 146, w, zm_I 1] [] h) Q
section
variable {b : Nat} {w : zm_V} {h : zm_H} {P P1 : Nat → Bool → List Int → zm_H → Prop}
theorem zy_Do_b {o : zy_O} {k : Nat → Bool → List Int → zy_O} (D : zy_Do b w o h P1) (K : ∀ p g l h2, o = .inr (p, g, l) → P1 p g l h2 → zq_F (zf_Pz b) h h2 ∧ zy_Do b w (k p g l) h2 P) : zy_Do b w (zy_th o k) h P := by
  intro Q hf hs
  refine D Q (fun kf a e hk g f e8 e9 => hf kf a (by rw [e]; rfl) hk g f e8 e9) (fun p g l e h2 r => ?_)
  obtain ⟨f2, D2⟩ := K p g l h2 e r
  exact D2 Q (fun kf a e2 hk g f e8 e9 => hf kf a (by rw [e]; exact e2) hk g (zq_F_tr f2 f) e8 e9) (fun p' g' l' e2 h3 r3 => hs p' g' l' (by rw [e]; exact e2) h3 r3)
theorem zy_Do_r {p : Nat} {g : Bool} {l : List Int} (r : P p g l h) : zy_Do b w (.inr (p, g, l)) h P := fun _ _ hs => hs p g l rfl h r
theorem zy_Do_m {o : zy_O} (D : zy_Do b w o h P1) (m : ∀ p g l h2, o = .inr (p, g, l) → P1 p g l h2 → P p g l h2) : zy_Do b w o h P := fun Q hf hs => D Q hf (fun p g l e h2 r => hs p g l e h2 (m p g l h2 e r))
theorem zy_Do_s {o : zy_O} {R : zm_H → Prop} (S : zy_St w h R) (K : ∀ g, R g → zq_F (zf_Pz b) h g ∧ zy_Do b w o g P) : zy_Do b w o h P := fun Q hf hs => S Q (fun g r => (K g r).2 Q (fun kf a e hk g2 f e8 e9 => hf kf a e hk g2 (zq_F_tr (K g r).1 f) e8 e9) hs)
theorem zy_Do_sr {p : Nat} {g' : Bool} {l : List Int} {R : zm_H → Prop} (S : zy_St w h R) (K : ∀ g, R g → P p g' l g) : zy_Do b w (.inr (p, g', l)) h P := fun Q _ hs => S Q (fun g r => hs p g' l rfl g (K g r))
theorem zy_Do_f {kf a : Nat} (F : zy_Fl b w h kf a) (hk : kf ≠ 0 := by decide) : zy_Do b w (.inl (kf, a)) h P := fun Q hf _ => F Q (fun g f e8 e9 => hf kf a rfl hk g f e8 e9)
theorem zf_Pz_Lv {g : zm_H} {k B : Nat} (f : zq_F (zf_Lv b k B) h g) : zq_F (zf_Pz b) h g := zq_F_wk f (fun a i q => by unfold zf_Lv at q; unfold zf_Pz; omega)
theorem zf_Pz_89 (x y : Int) : zq_F (zf_Pz b) h (zm_wr (zm_wr h 146 8 x) 146 9 y) := zq_F_tr (zq_F_wr (Or.inl ⟨rfl, by omega⟩)) (zq_F_wr (Or.inl ⟨rfl, by omega⟩))
/-- a fault told by goesOn -/
theorem zy_Fl1 {kf a : Nat} (hw : zm_cat w ≠ 2) (h44 : h 146 44 = 1) (c : zi (zc 190 [zm_A 146] h) (fun z g => z = 0 ∧ g = zm_wr (zm_wr h 146 8 kf) 146 9 a)) : zy_Fl b w h kf a := by
  intro Q hf
  refine s_182_1 hw h44 c ?_
  rintro z g ⟨rfl, rfl⟩
  refine ⟨fun _ => hf _ (zf_Pz_89 _ _) ?_ zq_wr_e, fun q => absurd rfl q, fun q => absurd rfl q⟩
  rw [zq_wr_i (by decide), zq_wr_e]
/-- a fault told by operand -/
theorem zy_Fl0 {kf a : Nat} {R : Int → zm_H → Prop} (hw : zm_cat w ≠ 2) (h44 : h 146 44 = 0) (c : zi (zc 184 [zm_A 146] h) R) (hk : kf ≠ 0) (r : ∀ z g, R z g → (z = 0 ∨ z = 1) ∧ zq_F (zf_Pz b) h g ∧ g 146 8 = kf ∧ g 146 9 = a) : zy_Fl b w h kf a := by
  intro Q hf
  refine s_182_0 hw h44 c ?_
  intro z g q
  obtain ⟨r1, r2, r3, r4⟩ := r z g q
  refine ⟨r1, fun e => absurd (r3.symm.trans e) (by omega), fun _ => hf _ (zq_F_tr r2 (zq_F_wr (Or.inl ⟨rfl, by omega⟩))) ?_ ?_⟩
  · rw [zq_wr_i (by decide)]; exact r3
  · rw [zq_wr_i (by decide)]; exact r4
/-- an operand told without a fault -/
theorem zy_St0 {R : Int → zm_H → Prop} {R2 : zm_H → Prop} (hw : zm_cat w ≠ 2) (h44 : h 146 44 = 0) (c : zi (zc 184 [zm_A 146] h) R) (r : ∀ z g, R z g → (z = 0 ∨ z = 1) ∧ g 146 8 = 0 ∧ R2 (zm_wr g 146 44 z)) : zy_St w h R2 := by
  intro Q hk
  refine s_182_0 hw h44 c ?_
  intro z g q
  obtain ⟨r1, r2, r3⟩ := r z g q
  exact ⟨r1, fun _ => hk _ r3, fun e => absurd r2 e⟩
theorem zy_St1 {R : Int → zm_H → Prop} {R2 : zm_H → Prop} (hw : zm_cat w ≠ 2) (h44 : h 146 44 = 1) (c : zi (zc 190 [zm_A 146] h) R) (r : ∀ z g, R z g → z = 1 ∧ g 146 8 = 0 ∧ R2 g) : zy_St w h R2 := by
  intro Q hk
  refine s_182_1 hw h44 c ?_
  intro z g q
  obtain ⟨r1, r2, r3⟩ := r z g q
  exact ⟨fun e => by omega, fun _ _ => hk _ r3, fun _ e => absurd r2 e⟩
end
section
variable {h h0 g : zm_H} {T : Nat → Int} {n p b : Nat} {gl : Bool} {l : List Int} {k B d e : Nat} {ts : List Int} {r : Int} {w : zm_V}
theorem zy_n22_app (a c : List Int) : zy_n22 (a ++ c) = zy_n22 a + zy_n22 c := by
  induction a with
  | nil => exact (Nat.zero_add _).symm
  | cons s t ih =>
    show (if s = 22 then 1 else 0) + zy_n22 (t ++ c) = ((if s = 22 then 1 else 0) + zy_n22 t) + zy_n22 c
    rw [ih]; omega
theorem zy_E.re (hE : zy_E h g T n p gl b l k B ts d r e) (f : zq_F (zf_Lv b k B) h0 h) : zy_E h0 g T n p gl b l k B ts d r e := ⟨zq_F_tr f hE.1, hE.2⟩
theorem zy_E.wk {r' : Int} {e' : Nat} (hE : zy_E h g T n p gl b l k B ts d r e) (hr : r' ≤ r) (he : e ≤ e') : zy_E h g T n p gl b l k B ts d r' e' := by
  obtain ⟨f, a1, a2, a3, a4, a5, lr, new, b1, b2, b3, b4, b5⟩ := hE
  exact ⟨f, a1, a2, a3, a4, a5, lr, new, b1, fun s hs => by have := b2 s hs; omega, b3, b4, by omega⟩
/-- what was held back before is told behind -/
theorem zy_E.up {r' s : Int} {c : Nat} (hE : zy_E h g T n p gl b l k B (s :: ts) (d + c) r e) (hc : c = if s = 22 then 1 else 0) (hk : k ≤ d) (hB : B + ts.length ≤ 7 * d + 5) (hr : r' ≤ r) (hs : r' ≤ zy_rk s) {e' : Nat} (he : e + 1 ≤ e' + c) : zy_E h g T n p gl b (l ++ [zy_cc s]) k B ts d r' e' := by
  obtain ⟨f, a1, a2, a3, a4, a5, lr, new, b1, b2, b3, b4, b5⟩ := hE
  have hn : zy_n22 (new ++ [s]) = zy_n22 new + c := by
    rw [zy_n22_app, hc]; rfl
  have hm := b3.2.2.2.2.2 s (List.mem_append_right _ List.mem_cons_self)
  rw [List.length_cons] at a2
  refine ⟨f, a1, by rw [List.length_append]; show l.length + 1 + ts.length < p; omega, hk, hB, a5, lr, new ++ [s], ?_, ?_, ?_, ?_, ?_⟩
  · rw [b1, List.map_append, List.append_assoc]; rfl
  · intro x hx
    rcases List.mem_append.mp hx with q | q
    · have := b2 x q; omega
    · rw [List.mem_singleton.mp q]; omega
  · rw [hn, List.append_assoc, ← Nat.add_assoc]
    have e1 : d + zy_n22 new + c = d + c + zy_n22 new := by omega
    rw [e1]; exact b3
  · rw [hn]; omega
  · rw [hn, List.length_append]; show new.length + 1 ≤ _; omega
theorem zy_Fr.Go {o : Nat} (hF : zy_Fr h T n p gl b l k B ts o) (hp : p ≤ n) (hl : l.length + ts.length ≤ p) (hk : k < 20) (hB : B + ts.length < 500) (ho : o ≤ 7) : zy_Go h T n p gl b l k B ts o := ⟨hF.1, hF.2.1, hF.2.2.1, hF.2.2.2.1, hF.2.2.2.2.1, hk, hF.2.2.2.2.2, by have := hF.1.1.1; omega, hB, ho⟩
/-- the sign s is held back -/
def zy_on (h0 h : zm_H) (T : Nat → Int) (n p : Nat) (gl : Bool) (b : Nat) (l : List Int) (k B : Nat) (ts : List Int) (d : Nat) (s ph bg : Int) (g : zm_H) : Prop := zy_Fr g T n (zy_en T n p) (zy_ng T n p gl) b l k B (s :: ts) d ∧ g 146 44 = 0 ∧ zq_F (zf_Lv b k B) h0 g ∧ g 168 k = ph ∧ g 169 k = bg ∧ zq_F (zf_Lv b k B) h g
theorem zy_E.on {s ph bg : Int} (hw : zm_cat w ≠ 2) (hE : zy_E h0 h T n p gl b l k B ts d r e) (hr : ∀ s, s ∈ ts → zy_rk s < r) (he : e ≤ 5) (hd : d ≤ 7) (hs : 10 ≤ s ∧ s ≤ 22) (act : ∀ (lr new : List Int), zy_Go h T n p gl b lr k B (new ++ ts) (d + zy_n22 new) → zy_nots r (new ++ ts) ≤ d + zy_n22 new → zi (zc 190 [zm_A 146] h) (fun z g => z = 1 ∧ zy_Lg T n p gl b (lr ++ zy_popd r (new ++ ts)) k B (zy_rest r (new ++ ts)) s ph bg (d + zy_n22 new - zy_nots r (new ++ ts)) h g)) : zy_St w h (zy_on h0 h T n p gl b l k B ts d s ph bg) := by
  obtain ⟨f, a1, a2, a3, a4, a5, lr, new, b1, b2, b3, b4, b5⟩ := hE
  have A := zy_all new ts (fun s hs => (b2 s hs).1) hr
  have hll : l.length = lr.length + new.length := by rw [b1, List.length_append, List.length_map]
  have hG := b3.Go a1 (by rw [List.length_append]; omega) (by omega) (by rw [List.length_append]; omega) b4
  have c := act lr new hG (by rw [A.2.2]; omega)
  rw [A.1, A.2.1, A.2.2, ← b1] at c
  refine zy_St1 hw a5 c ?_
  rintro z g ⟨rfl, r1, r2, r3, r4, r5, r6, r7, r8⟩
  refine ⟨rfl, r2.2.2.1, ⟨r2, r5.trans hG.2.1, ?_, r3, ?_, ?_⟩, r6, zq_F_tr f r1, r7, r8, r1⟩
  · rw [r1 171 k (by unfold zf_Lv; omega)]; exact hG.2.2.1
  · rw [r4]; omega
  · intro x hx
    rcases List.mem_cons.mp hx with q | q
    · rw [q]; exact hs
    · exact hG.2.2.2.2.2.2.1 x (List.mem_append_right _ q)
/-- what an operand alone writes -/
def zf_Vl (b k : Nat) (a : Nat) (i : Int) : Prop := (a = 146 ∧ ((3 ≤ i ∧ i ≤ 7) ∨ i = 12 ∨ i = 33)) ∨ ((a = 163 ∨ a = 164) ∧ 1600 * (b : Int) ≤ i ∧ i < 1600 * (b : Int) + 1600) ∨ ((a = 168 ∨ a = 169) ∧ i = k)
theorem zy_E_0 {p2 : Nat} {gl2 : Bool} {l2 : List Int} (hF : zy_Fr h T n p gl b l k B ts d) (f : zq_F (zf_Vl b k) h g) (L : zy_L g T n p2 gl2 b l2) (hp : p2 ≤ n) (hl : l2.length + ts.length < p2) (hk : k ≤ d) (hd : d ≤ 7) (hB : B + ts.length ≤ 7 * d + 5) : zy_E h (zm_wr g 146 44 1) T n p2 gl2 b l2 k B ts d r e := by
  have fv : zq_F (zf_Lv b k B) h (zm_wr g 146 44 1) := zq_F_tr (zq_F_wk f (fun a i q => by unfold zf_Vl at q; unfold zf_Lv; omega)) (zq_F_wr (Or.inl ⟨rfl, by omega⟩))
  have k146 : ∀ i : Int, i = 40 ∨ i = 41 ∨ i = 43 → zm_wr g 146 44 1 146 i = h 146 i := fun i hi => by rw [zq_wr_i (by omega), f 146 i (by unfold zf_Vl; omega)]
  refine ⟨fv, hp, hl, hk, hB, zq_wr_e, l2, [], (List.append_nil _).symm, (fun s hs => by cases hs), ⟨?_, ?_, ?_, ?_, ?_, hF.2.2.2.2.2⟩, by show d + 0 ≤ 7; omega, Nat.zero_le _⟩
  · exact L.kp (fun i hi => zq_wr_i (by omega)) (fun a ha => by funext j; exact zq_wr_n (by omega))
  · rw [k146 40 (by omega)]; exact hF.2.1
  · rw [zq_wr_n (by decide), f 171 k (by unfold zf_Vl; omega)]; exact hF.2.2.1
  · exact zy_hold2 hF.2.2.2.1 (k146 43 (by omega)) (by funext j; rw [zq_wr_n (by decide), f 172 j (by unfold zf_Vl; omega)])
  · rw [k146 41 (by omega)]; exact hF.2.2.2.2.1
/-- a new frame -/
theorem zy_Fr_n {p2 : Nat} {gl2 : Bool} {M : Nat} (L : zy_L g T n p2 gl2 b l) (h40 : g 146 40 = ((k + 1 + 1 : Nat) : Int)) (h171 : g 171 ((k + 1 : Nat) : Int) = M) (h43 : g 146 43 = M) (h41 : g 146 41 = ((d + 1 : Nat) : Int)) : zy_Fr (zm_wr g 146 44 0) T n p2 gl2 b l (k + 1) M [] (d + 1) := by
  refine ⟨L.kp (fun i hi => zq_wr_i (by omega)) (fun a ha => by funext j; exact zq_wr_n (by omega)), ?_, ?_, ⟨?_, fun i hi => by cases hi⟩, ?_, fun s hs => by cases hs⟩
  · rw [zq_wr_i (by decide)]; exact h40
  · rw [zq_wr_n (by decide)]; exact h171
  · rw [zq_wr_i (by decide)]; exact h43
  · rw [zq_wr_i (by decide)]; exact h41
/-- a frame is closed -/
theorem zy_shut {h1 : zm_H} {p2 : Nat} {gl2 : Bool} {l2 : List Int} {x : Int} {M e' : Nat} {r' : Int} (hw : zm_cat w ≠ 2) (hF : zy_Fr h T n p gl b l k B ts d) (hM : M = B + ts.length) (f1 : zq_F (zf_Lv b k M) h h1) (hE : zy_E h1 g T n p2 gl2 b l2 (k + 1) M [] (d + 1) r e) (hd : d + 1 ≤ 7) (he : e ≤ 5) (hk : k ≤ d) (hl : l2.length + 1 + ts.length < zy_en T n p2) (hB : B + ts.length ≤ 7 * d + 5) (hx : x = 2 ∨ x = 4 ∨ x = 5) (hgx : g 167 ((k + 1 : Nat) : Int) = x) (hs : zy_sg T n p2 gl2 (zy_cl x) = true) (hph : x = 5 → g 168 ((k + 1 : Nat) : Int) ≠ 0) (h170 : x = 4 → 15 ≤ g 170 ((k + 1 : Nat) : Int) ∧ g 170 ((k + 1 : Nat) : Int) ≤ 16) : zy_St w g (fun g3 => zy_E h g3 T n (zy_en T n p2) (zy_ng T n p2 gl2) b (l2 ++ (if x = 4 then [zy_cc (g 170 ((k + 1 : Nat) : Int))] else [])) k B ts d r' e' ∧ (x = 5 → g3 168 k = 2) ∧ (x ≠ 5 → g3 168 k = h1 168 k) ∧ g3 169 k = h1 169 k) := by
  obtain ⟨f, a1, a2, a3, a4, a5, lr, new, b1, b2, b3, b4, b5⟩ := hE
  rw [List.append_nil] at b3
  rw [show ([] : List Int).length = 0 from rfl] at a2 a4
  have t3 := (zy_sg_ty hs).1
  have hll : l2.length = lr.length + new.length := by rw [b1, List.length_append, List.length_map]
  have hG := b3.Go a1 (by omega) (by omega) (by omega) b4
  have hcl : zy_cl x = 93 ∨ zy_cl x = 41 := by unfold zy_cl; omega
  have on := zy_en_gt (g := gl2) a1 (show zy_ty T n p2 gl2 ≠ 4 ∧ zy_ty T n p2 gl2 ≠ 0 by omega)
  have nsg : ∀ c : Int, c ≠ zy_cl x → ¬ zy_sg T n p2 gl2 c = true := fun c hc q => hc ((zy_sg_ty q).2.symm.trans (zy_sg_ty hs).2)
  have am0 : zy_am T n p2 gl2 = 0 := by
    unfold zy_am zy_ad zy_mu
    rw [if_neg (nsg 43 (by omega)), if_neg (nsg 45 (by omega)), if_pos rfl, if_neg (nsg 42 (by omega)), if_neg (nsg 47 (by omega)), if_neg (nsg 37 (by omega))]
  have now : zy_ow T n p2 gl2 = -1 := Classical.byContradiction (fun q => by have := zy_ow_ty q; omega)
  have n1600 := hG.1.1.1
  have hlen1 : lr.length + new.length < 1600 := by omega
  have c := s_190t hG (by omega) (Or.inr am0) (fun q => ⟨by
    have e5 : x = 5 := by unfold zy_tk at q; rw [hgx] at q; omega
    exact hph e5, by omega, by omega⟩) (fun y => by
    have := s_422_c (w3 := zm_I y) (w4 := zm_U) hG a1 hx hs (by omega) hlen1 h170
    rw [hgx]
    exact this)
  refine zy_St1 hw a5 c ?_
  rintro z g3 ⟨rfl, r1, r2, r3, r4, r5, r6⟩
  rw [← b1] at r2
  have f0 : zq_F (zf_Lv b k M) h g := zq_F_tr f1 (zq_F_wk f (fun a i q => by unfold zf_Lv at q ⊢; omega))
  have ff : zq_F (zf_Lv b k M) h g3 := zq_F_tr f0 (zq_F_wk r1 (fun a i q => by unfold zf_Jo zf_Sr at q; unfold zf_Lv; omega))
  refine ⟨rfl, r2.2.2.1, ⟨zq_F_wk ff (fun a i q => by unfold zf_Lv at q ⊢; omega), on.2, ?_, hk, hB, ?_, _, [], (List.append_nil _).symm, (fun s hs => by cases hs), ⟨r2, r5, ?_, ⟨?_, ?_⟩, ?_, hF.2.2.2.2.2⟩, by show d + 0 ≤ 7; omega, Nat.zero_le _⟩, r6, ?_, ?_⟩
  · rw [List.length_append]
    by_cases q : x = 4
    · rw [if_pos q]; exact hl
    · rw [if_neg q]; show l2.length + 0 + ts.length < _; omega
  · rw [r1 146 44 (by unfold zf_Jo zf_Sr; omega)]; exact a5
  · rw [ff 171 k (by unfold zf_Lv; omega)]; exact hF.2.2.1
  · rw [r3, hM]; rfl
  · intro i hi j hj
    have hi' : i < ts.length := hi
    have hj' : j = (B : Int) + ts.length - 1 - i := hj
    rw [ff 172 j (by unfold zf_Lv; omega)]
    exact hF.2.2.2.1.2 i hi j hj
  · rw [r4]
    show ((d + 1 + zy_n22 new - zy_n22 new - 1 : Nat) : Int) = ((d + 0 : Nat) : Int)
    omega
  · intro q
    rw [r1 168 k (by unfold zf_Jo zf_Sr; omega), f 168 k (by unfold zf_Lv; omega)]
  · rw [r1 169 k (by unfold zf_Jo zf_Sr; omega), f 169 k (by unfold zf_Lv; omega)]
/-- another sign there, or something broken: FAULT 1 -/
theorem zy_shutf {h1 : zm_H} {x : Int} (hw : zm_cat w ≠ 2) (hE : zy_E h1 g T n p gl b l k B ts d r e) (hd : d ≤ 7) (he : e ≤ 5) (hx : ¬ x < 2) (hgx : g 167 k = x) (hs : ¬ zy_sg T n p gl (zy_cl x) = true) (ham : ¬ g 168 k < 2 ∨ zy_am T n p gl = 0) (hph : x = 5 → g 168 k ≠ 0 ∧ zy_ow T n p gl ≠ 19 ∧ zy_ow T n p gl ≠ 20) : zy_Fl b w g 1 (zy_bd T n p gl) := by
  obtain ⟨f, a1, a2, a3, a4, a5, lr, new, b1, b2, b3, b4, b5⟩ := hE
  have hll : l.length = lr.length + new.length := by rw [b1, List.length_append, List.length_map]
  have hG := b3.Go a1 (by rw [List.length_append]; omega) (by omega) (by rw [List.length_append]; omega) b4
  by_cases t4 : zy_ty T n p gl = 4
  · exact zy_Fl1 hw a5 (s_190x hG.1 t4)
  · rw [zy_bd_at t4]
    refine zy_Fl1 hw a5 (s_190t hG t4 ham (fun q => hph (by unfold zy_tk at q; omega)) (fun y => ?_))
    rw [hgx]
    exact s_422_f hG.1 t4 hx hs
end
