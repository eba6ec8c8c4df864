/-! SUMS AND TESTS: frames opened in the reference -/
def zy_sp (h : zm_H) (T : Nat → Int) (n p : Nat) (gl : Bool) (k : Nat) : Prop := h 168 k < 2 ∧ (zy_fs h k → zy_ow T n p gl ≠ 21 ∧ ¬ zy_sg T n p gl 91 = true ∧ zy_ow T n p gl ≠ 22)
/-- a frame was opened -/
def zy_nf (h : zm_H) (T : Nat → Int) (n p : Nat) (gl : Bool) (b : Nat) (l : List Int) (k M d : Nat) (kd : Int) (g : zm_H) : Prop := zy_Op g T n p gl b l (k + 1) M [] (d + 1) 0 ∧ zq_F (zf_Lv b k M) h g ∧ g 167 ((k + 1 : Nat) : Int) = kd ∧ g 168 ((k + 1 : Nat) : Int) = 0 ∧ g 169 ((k + 1 : Nat) : Int) = 1 ∧ g 168 k = h 168 k ∧ g 169 k = 0
section
variable {h h0 g : zm_H} {T : Nat → Int} {n p b : Nat} {gl : Bool} {l : List Int} {k B d e c : Nat} {ts : List Int} {r : Int} {w : zm_V}
theorem zy_E.go (hE : zy_E h g T n p gl b l k B ts d r e) (hd : d ≤ 7) (he : e ≤ 5) : ∃ lr tt o, zy_Go g T n p gl b lr k B tt o := by
  obtain ⟨f, a1, a2, a3, a4, a5, lr, new, b1, b2, b3, b4, b5⟩ := hE
  have hll : l.length = lr.length + new.length := by rw [b1, List.length_append, List.length_map]
  exact ⟨lr, new ++ ts, _, b3.Go a1 (by rw [List.length_append]; omega) (by omega) (by rw [List.length_append]; omega) b4⟩
theorem zy_opd {p2 : Nat} {gl2 : Bool} {kd : Int} {M : Nat} (hO : zy_Op h T n p gl b l k B ts d c) (hc : c ≤ 5) (hd : d < 7) (hM : M = B + ts.length) (hp : p2 ≤ n) (hl : p ≤ p2) (f : zq_F (fun a i => zf_Sr a i ∨ zf_Pu (k + 1) a i ∨ (a = 146 ∧ i = 41) ∨ (a = 170 ∧ i = ((k + 1 : Nat) : Int))) (zm_wr h 169 k 0) g) (L : zy_L g T n p2 gl2 b l) (r41 : g 146 41 = ((d + 1 : Nat) : Int)) (r167 : g 167 ((k + 1 : Nat) : Int) = kd) (r168 : g 168 ((k + 1 : Nat) : Int) = 0) (r169 : g 169 ((k + 1 : Nat) : Int) = 1) (r171 : g 171 ((k + 1 : Nat) : Int) = M) (r40 : g 146 40 = ((k + 1 + 1 : Nat) : Int)) : zy_nf h T n p2 gl2 b l k M d kd (zm_wr g 146 44 0) := by
  obtain ⟨hF, o44, op, od, ok, ol, oB⟩ := hO
  have h43 : h 146 43 = M := by rw [hF.2.2.2.1.1, hM]
  have g43 : g 146 43 = M := by rw [f 146 43 (by unfold zf_Sr zf_Pu; omega), zq_wr_n (by decide)]; exact h43
  refine ⟨⟨zy_Fr_n L r40 r171 g43 r41, zq_wr_e, hp, by omega, by omega, ?_, ?_⟩, ?_, ?_, ?_, ?_, ?_, ?_⟩
  · show l.length + 0 < p2; omega
  · show M + 0 ≤ 7 * (d + 1) + 0; omega
  · refine zq_F_tr (zq_F_wr (by unfold zf_Lv; omega)) (zq_F_tr (zq_F_wk f (fun a i q => ?_)) (zq_F_wr (by unfold zf_Lv; omega)))
    unfold zf_Sr zf_Pu at q; unfold zf_Lv; omega
  · rw [zq_wr_n (by decide)]; exact r167
  · rw [zq_wr_n (by decide)]; exact r168
  · rw [zq_wr_n (by decide)]; exact r169
  · rw [zq_wr_n (by decide), f 168 k (by unfold zf_Sr zf_Pu; omega), zq_wr_n (by decide)]
  · rw [zq_wr_n (by decide), f 169 k (by unfold zf_Sr zf_Pu; omega), zq_wr_e]
/-- ( -/
theorem zy_opp (hw : zm_cat w ≠ 2) (hO : zy_Op h T n p gl b l k B ts d c) (hc : c ≤ 5) (hd : d < 7) (hsp : zy_sp h T n p gl k) (hs : zy_sg T n p gl 40 = true) : zy_St w h (zy_nf h T n (zy_en T n p) (zy_ng T n p gl) b l k (B + ts.length) d 2) := by
  have t3 := (zy_sg_ty hs).1
  have on := zy_en_gt (g := gl) hO.2.2.1 (show zy_ty T n p gl ≠ 4 ∧ zy_ty T n p gl ≠ 0 by omega)
  have hO' := hO
  obtain ⟨hF, o44, op, od, ok, ol, oB⟩ := hO'
  refine zy_St0 hw o44 (s_184e hF.1 (by omega) hF.2.1 (by omega) hsp.2 (fun x => s_184_171p (k := k + 1) (o := d) (M := ((B + ts.length : Nat) : Int)) (w1 := zm_I k) (w2 := zm_I x) (w3 := zm_U) (zm_cat_I _) (zy_L_169 hF.1 0) op hs ?_ (by omega) ?_ ?_ od)) ?_
  · rw [zq_wr_n (by decide)]; exact hF.2.1
  · rw [zq_wr_n (by decide)]; exact hF.2.2.2.1.1
  · rw [zq_wr_n (by decide)]; exact hF.2.2.2.2.1
  · rintro z g ⟨rfl, r⟩
    rcases r with r | ⟨_, r1, r2, r3, r4, r5, r6, r7, r8⟩
    · omega
    · exact ⟨Or.inl rfl, r2.2.2.1, zy_opd hO hc hd rfl on.2 (by omega) (zq_F_wk r1 (fun a i q => by rcases q with q | q | q; exact Or.inl q; exact Or.inr (Or.inl q); exact Or.inr (Or.inr (Or.inl q)))) r2 r3 r4 r5 r6 r7 r8⟩
theorem zy_oppf (hw : zm_cat w ≠ 2) (hO : zy_Op h T n p gl b l k B ts d c) (hc : c ≤ 5) (hd : d = 7) (hsp : zy_sp h T n p gl k) (hs : zy_sg T n p gl 40 = true) : zy_Fl b w h 5 (zy_at T n p) := by
  have t3 := (zy_sg_ty hs).1
  obtain ⟨hF, o44, op, od, ok, ol, oB⟩ := hO
  refine zy_Fl0 hw o44 (s_184e hF.1 (by omega) hF.2.1 (by omega) hsp.2 (fun x => s_184_171p (k := k + 1) (o := d) (M := ((B + ts.length : Nat) : Int)) (w1 := zm_I k) (w2 := zm_I x) (w3 := zm_U) (zm_cat_I _) (zy_L_169 hF.1 0) op hs ?_ (by omega) ?_ ?_ od)) (by decide) ?_
  · rw [zq_wr_n (by decide)]; exact hF.2.1
  · rw [zq_wr_n (by decide)]; exact hF.2.2.2.1.1
  · rw [zq_wr_n (by decide)]; exact hF.2.2.2.2.1
  · rintro z g ⟨rfl, r⟩
    rcases r with ⟨_, rfl⟩ | r
    · refine ⟨Or.inl rfl, zq_F_tr (zq_F_wr ?_) (zf_Pz_89 _ _), ?_, zq_wr_e⟩
      · unfold zf_Pz; omega
      · rw [zq_wr_i (by decide), zq_wr_e]; rfl
    · omega
/-- [ -/
theorem zy_opb (hw : zm_cat w ≠ 2) (hO : zy_Op h T n p gl b l k B ts d c) (hc : c ≤ 5) (hd : d < 7) (hfs : zy_fs h k) (hs : zy_sg T n p gl 91 = true) : zy_St w h (zy_nf h T n (zy_en T n p) (zy_ng T n p gl) b l k (B + ts.length) d 5) := by
  have t3 := (zy_sg_ty hs).1
  have on := zy_en_gt (g := gl) hO.2.2.1 (show zy_ty T n p gl ≠ 4 ∧ zy_ty T n p gl ≠ 0 by omega)
  have hO' := hO
  obtain ⟨hF, o44, op, od, ok, ol, oB⟩ := hO'
  refine zy_St0 hw o44 (s_184b (o := d) (M := ((B + ts.length : Nat) : Int)) hF.1 op hF.2.1 (by omega) hfs hs hF.2.2.2.1.1 hF.2.2.2.2.1 od) ?_
  rintro z g ⟨rfl, r⟩
  rcases r with r | ⟨_, r1, r2, r3, r4, r5, r6, r7, r8⟩
  · omega
  · exact ⟨Or.inl rfl, r2.2.2.1, zy_opd hO hc hd rfl on.2 (by omega) (zq_F_wk r1 (fun a i q => by rcases q with q | q | q; exact Or.inl q; exact Or.inr (Or.inl q); exact Or.inr (Or.inr (Or.inl q)))) r2 r3 r4 r5 r6 r7 r8⟩
theorem zy_opbf (hw : zm_cat w ≠ 2) (hO : zy_Op h T n p gl b l k B ts d c) (hc : c ≤ 5) (hd : d = 7) (hfs : zy_fs h k) (hs : zy_sg T n p gl 91 = true) : zy_Fl b w h 5 (zy_at T n p) := by
  have t3 := (zy_sg_ty hs).1
  obtain ⟨hF, o44, op, od, ok, ol, oB⟩ := hO
  refine zy_Fl0 hw o44 (s_184b (o := d) (M := ((B + ts.length : Nat) : Int)) hF.1 op hF.2.1 (by omega) hfs hs hF.2.2.2.1.1 hF.2.2.2.2.1 od) (by decide) ?_
  rintro z g ⟨rfl, r⟩
  rcases r with ⟨_, rfl⟩ | r
  · refine ⟨Or.inl rfl, zq_F_tr (zq_F_wr ?_) (zf_Pz_89 _ _), ?_, zq_wr_e⟩
    · unfold zf_Pz; omega
    · rw [zq_wr_i (by decide), zq_wr_e]; rfl
  · omega
/-- min( max( -/
theorem zy_op2 {x : Int} (hO : zy_Op h T n p gl b l k B ts d c) (hsp : zy_sp h T n p gl k) (hx : (zy_ow T n p gl = 23 ∧ x = 15) ∨ (zy_ow T n p gl = 24 ∧ x = 16)) : zi (zc 184 [zm_A 146] h) (fun z g => z = 0 ∧ zq_F (zf_Pz b) (zm_wr h 169 k 0) g ∧ ((zy_sg T n (zy_en T n p) (zy_ng T n p gl) 40 = false ∧ g 146 8 = 1 ∧ g 146 9 = zy_bd T n (zy_en T n p) (zy_ng T n p gl)) ∨ (zy_sg T n (zy_en T n p) (zy_ng T n p gl) 40 = true ∧ ((d = 7 ∧ g 146 8 = 5 ∧ g 146 9 = zy_at T n (zy_en T n p)) ∨ (d < 7 ∧ zy_L g T n (zy_en T n (zy_en T n p)) (zy_ng T n (zy_en T n p) (zy_ng T n p gl)) b l ∧ g 146 41 = ((d + 1 : Nat) : Int) ∧ g 167 ((k + 1 : Nat) : Int) = 3 ∧ g 168 ((k + 1 : Nat) : Int) = 0 ∧ g 169 ((k + 1 : Nat) : Int) = 1 ∧ g 170 ((k + 1 : Nat) : Int) = x ∧ g 171 ((k + 1 : Nat) : Int) = ((B + ts.length : Nat) : Int) ∧ g 146 40 = ((k + 1 + 1 : Nat) : Int) ∧ zq_F (fun a i => zf_Sr a i ∨ zf_Pu (k + 1) a i ∨ (a = 146 ∧ i = 41) ∨ (a = 170 ∧ i = ((k + 1 : Nat) : Int))) (zm_wr h 169 k 0) g))))) := by
  have t1 := zy_ow_ty (T := T) (n := n) (p := p) (g := gl) (by omega)
  have ns : ¬ zy_sg T n p gl 40 = true := fun q => by have := (zy_sg_ty q).1; omega
  obtain ⟨hF, o44, op, od, ok, ol, oB⟩ := hO
  refine s_184e hF.1 (by omega) hF.2.1 (by omega) hsp.2 (fun y => ?_)
  have L9 := zy_L_169 (k := k) hF.1 0
  have run := s_184_207 (k := k + 1) (o := d) (M := ((B + ts.length : Nat) : Int)) (w1 := zm_I k) (w2 := zm_I y) (w3 := zm_U) (zm_cat_I _) L9 op hx (by rw [zq_wr_n (by decide)]; exact hF.2.1) (by omega) (by rw [zq_wr_n (by decide)]; exact hF.2.2.2.1.1) (by rw [zq_wr_n (by decide)]; exact hF.2.2.2.2.1) od
  refine zt_l (e_184_171 (zm_cat_I _)) (zt_I (s_187s L9.2.1 (by omega) 40) ?_)
  rintro z g ⟨rfl, rfl⟩
  rw [if_neg ns]
  refine zt_t rfl (zt_I (s_165 (w := 23) L9.2.1 (by omega) (by decide) (by decide)) ?_)
  rintro z g ⟨rfl, rfl⟩
  by_cases w1 : zy_ow T n p gl = ((23 : Nat) : Int)
  · rw [if_pos w1]
    exact zt_f (by decide) run
  rw [if_neg w1]
  refine zt_t rfl (zt_I (s_165 (w := 24) L9.2.1 (by omega) (by decide) (by decide)) ?_)
  rintro z g ⟨rfl, rfl⟩
  rw [if_pos (show zy_ow T n p gl = ((24 : Nat) : Int) by omega)]
  exact zt_f (by decide) run
theorem zy_opm {x : Int} (hw : zm_cat w ≠ 2) (hO : zy_Op h T n p gl b l k B ts d c) (hc : c ≤ 5) (hd : d < 7) (hsp : zy_sp h T n p gl k) (hx : (zy_ow T n p gl = 23 ∧ x = 15) ∨ (zy_ow T n p gl = 24 ∧ x = 16)) (hs : zy_sg T n (zy_en T n p) (zy_ng T n p gl) 40 = true) : zy_St w h (fun g => zy_nf h T n (zy_en T n (zy_en T n p)) (zy_ng T n (zy_en T n p) (zy_ng T n p gl)) b l k (B + ts.length) d 3 g ∧ g 170 ((k + 1 : Nat) : Int) = x) := by
  have t1 := zy_ow_ty (T := T) (n := n) (p := p) (g := gl) (by omega)
  have on := zy_en_gt (g := gl) hO.2.2.1 (show zy_ty T n p gl ≠ 4 ∧ zy_ty T n p gl ≠ 0 by omega)
  have t3 := (zy_sg_ty hs).1
  have on2 := zy_en_gt (g := zy_ng T n p gl) on.2 (show zy_ty T n (zy_en T n p) (zy_ng T n p gl) ≠ 4 ∧ zy_ty T n (zy_en T n p) (zy_ng T n p gl) ≠ 0 by omega)
  refine zy_St0 hw hO.2.1 (zy_op2 hO hsp hx) ?_
  rintro z g ⟨rfl, _, r⟩
  rcases r with r | ⟨_, r⟩
  · rw [hs] at r; exact absurd r.1 (by decide)
  rcases r with r | ⟨_, r2, r3, r4, r5, r6, r65, r7, r8, r9⟩
  · omega
  · exact ⟨Or.inl rfl, r2.2.2.1, zy_opd hO hc hd rfl on2.2 (by omega) r9 r2 r3 r4 r5 r6 r7 r8, by rw [zq_wr_n (by decide)]; exact r65⟩
theorem zy_opmf {x : Int} {kf a : Nat} (hw : zm_cat w ≠ 2) (hO : zy_Op h T n p gl b l k B ts d c) (hsp : zy_sp h T n p gl k) (hx : (zy_ow T n p gl = 23 ∧ x = 15) ∨ (zy_ow T n p gl = 24 ∧ x = 16)) (hs : (zy_sg T n (zy_en T n p) (zy_ng T n p gl) 40 = false ∧ kf = 1 ∧ a = zy_bd T n (zy_en T n p) (zy_ng T n p gl)) ∨ (zy_sg T n (zy_en T n p) (zy_ng T n p gl) 40 = true ∧ d = 7 ∧ kf = 5 ∧ a = zy_at T n (zy_en T n p))) : zy_Fl b w h kf a := by
  refine zy_Fl0 hw hO.2.1 (zy_op2 hO hsp hx) (by omega) ?_
  rintro z g ⟨rfl, f, r⟩
  refine ⟨Or.inl rfl, zq_F_tr (zq_F_wr (by unfold zf_Pz; omega)) f, ?_⟩
  rcases hs with ⟨s1, s2, s3⟩ | ⟨s1, s2, s3, s4⟩
  · rcases r with r | r
    · rw [s2, s3]; exact ⟨r.2.1, r.2.2⟩
    · rw [s1] at r; exact absurd r.1 (by decide)
  · rcases r with r | r
    · rw [s1] at r; exact absurd r.1 (by decide)
    · rcases r.2 with r | r
      · rw [s3, s4]; exact ⟨r.2.1, r.2.2⟩
      · omega
/-- , -/
theorem zy_comma (hw : zm_cat w ≠ 2) (hE : zy_E h g T n p gl b l (k + 1) B [] (d + 1) r e) (hd : d + 1 ≤ 7) (he : e ≤ 5) (hgx : g 167 ((k + 1 : Nat) : Int) = 3) (hs : zy_sg T n p gl 44 = true) : zy_St w g (fun g3 => zy_Op g3 T n (zy_en T n p) (zy_ng T n p gl) b l (k + 1) B [] (d + 1) 5 ∧ zq_F (fun a i => zf_Lv b (k + 1) B a i ∨ (a = 167 ∧ i = ((k + 1 : Nat) : Int))) g g3 ∧ g3 167 ((k + 1 : Nat) : Int) = 4 ∧ g3 168 ((k + 1 : Nat) : Int) = g 168 ((k + 1 : Nat) : Int)) := by
  obtain ⟨f, a1, a2, a3, a4, a5, lr, new, b1, b2, b3, b4, b5⟩ := hE
  rw [List.append_nil] at b3
  rw [show ([] : List Int).length = 0 from rfl] at a2 a4
  have t3 := (zy_sg_ty hs).1
  have hll : l.length = lr.length + new.length := by rw [b1, List.length_append, List.length_map]
  have hG := b3.Go a1 (by omega) (by omega) (by omega) b4
  have on := zy_en_gt (g := gl) a1 (show zy_ty T n p gl ≠ 4 ∧ zy_ty T n p gl ≠ 0 by omega)
  have nsg : ∀ c : Int, c ≠ 44 → ¬ zy_sg T n p gl c = true := fun c hc q => hc ((zy_sg_ty q).2.symm.trans (zy_sg_ty hs).2)
  have am0 : zy_am T n p gl = 0 := by
    unfold zy_am zy_ad zy_mu
    rw [if_neg (nsg 43 (by omega)), if_neg (nsg 45 (by omega)), if_pos rfl, if_neg (nsg 42 (by omega)), if_neg (nsg 47 (by omega)), if_neg (nsg 37 (by omega))]
  have c := s_190t hG (by omega) (Or.inr am0) (fun q => by exfalso; unfold zy_tk at q; omega) (fun y => by
    have := s_422_3 (w3 := zm_I y) (w4 := zm_U) hG a1 hs (by omega)
    rw [hgx]
    exact this)
  refine zy_St1 hw a5 c ?_
  rintro z g3 ⟨rfl, r1, r2, r3, r4, r5, r6⟩
  rw [← b1] at r2
  refine ⟨rfl, r2.2.2.1, ⟨⟨r2, ?_, ?_, ⟨r3, fun i hi => by cases hi⟩, ?_, fun s hs => by cases hs⟩, r6, on.2, hd, a3, ?_, ?_⟩, ?_, r5, ?_⟩
  · rw [r1 146 40 (by unfold zf_Jo zf_Sr; omega)]; exact hG.2.1
  · rw [r1 171 _ (by unfold zf_Jo zf_Sr; omega)]; exact hG.2.2.1
  · rw [r4]; omega
  · show l.length + 0 < _; omega
  · show B + 0 ≤ _; omega
  · exact zq_F_wk r1 (fun a i q => by unfold zf_Jo zf_Sr at q; unfold zf_Lv; omega)
  · rw [r1 168 _ (by unfold zf_Jo zf_Sr; omega)]
end
