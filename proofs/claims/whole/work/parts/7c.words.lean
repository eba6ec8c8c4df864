/-! STATEMENTS: the reference's readers of words, numbers and names -/
abbrev zw_S : Type := (Nat × Nat) ⊕ (Nat × Bool)
def zw_th : zw_S → (Nat → Bool → zw_S) → zw_S
  | .inl e, _ => .inl e
  | .inr (p, g), k => k p g
def zw_go (T : Nat → Int) (n p : Nat) (g : Bool) : zw_S := .inr (zy_en T n p, zy_ng T n p g)
def zw_own (T : Nat → Int) (n : Nat) (w : Int) (p : Nat) (g : Bool) : zw_S := if zy_ow T n p g = w then zw_go T n p g else .inl (1, zy_bd T n p g)
def zw_sgn (T : Nat → Int) (n : Nat) (c : Int) (p : Nat) (g : Bool) : zw_S := if zy_sg T n p g c = true then zw_go T n p g else .inl (1, zy_bd T n p g)
def zw_num (T : Nat → Int) (n : Nat) (lo hi : Int) (p : Nat) (g : Bool) : zw_S := if zy_ty T n p g = 2 then (if lo ≤ zy_nu T n p ∧ zy_nu T n p ≤ hi then zw_go T n p g else .inl (4, zy_at T n p)) else .inl (1, zy_bd T n p g)
abbrev zw_nam (T : Nat → Int) (n p : Nat) (g : Bool) : Prop := zy_ty T n p g = 1 ∧ zy_ow T n p g = -1
def zw_fdf (nm : Nat → List Nat) (s : List Nat) : Nat → Nat → Int
  | 0, _ => -1
  | m + 1, i => if nm i = s then i else zw_fdf nm s m (i + 1)
def zw_fd (N : Nat) (nm : Nat → List Nat) (s : List Nat) : Int := zw_fdf nm s N 0
def zw_new (T : Nat → Int) (n K C : Nat) (nk nc : Nat → List Nat) (p : Nat) (g : Bool) : zw_S := if zw_nam T n p g then (if zw_fd K nk (zy_ls T n p) = -1 ∧ zw_fd C nc (zy_ls T n p) = -1 then zw_go T n p g else .inl (2, zy_at T n p)) else .inl (1, zy_bd T n p g)
def zw_lk (T : Nat → Int) (n N : Nat) (nm : Nat → List Nat) (p : Nat) (g : Bool) : zw_S := if zw_nam T n p g then (if zw_fd N nm (zy_ls T n p) = -1 then .inl (3, zy_at T n p) else .inr (p, g)) else .inl (1, zy_bd T n p g)
theorem zw_fdf_c (nm : Nat → List Nat) (s : List Nat) : ∀ m i, zw_fdf nm s m i = -1 ∨ ∃ k : Nat, zw_fdf nm s m i = k ∧ i ≤ k ∧ k < i + m := by
  intro m
  induction m with
  | zero => intro i; exact Or.inl rfl
  | succ m ih =>
    intro i
    unfold zw_fdf
    split
    · exact Or.inr ⟨i, rfl, by omega, by omega⟩
    · rcases ih (i + 1) with e | ⟨k, e, h1, h2⟩
      · exact Or.inl e
      · exact Or.inr ⟨k, e, by omega, by omega⟩
theorem zw_fd_c (N : Nat) (nm : Nat → List Nat) (s : List Nat) : zw_fd N nm s = -1 ∨ ∃ k : Nat, zw_fd N nm s = k ∧ k < N := by
  rcases zw_fdf_c nm s N 0 with e | ⟨k, e, h1, h2⟩
  · exact Or.inl e
  · exact Or.inr ⟨k, e, by omega⟩
theorem zw_fi_c (l : List Nat) : ∀ m i, zy_fi l m i = -1 ∨ ∃ w : Nat, zy_fi l m i = w := by
  intro m
  induction m with
  | zero => intro i; exact Or.inl rfl
  | succ m ih =>
    intro i
    unfold zy_fi
    split
    · exact Or.inr ⟨i, rfl⟩
    · exact ih (i + 1)
theorem zw_cmp {x c : Int} : (if x < c then (-1 : Int) else if x = c then 0 else 1) = 0 ↔ x = c := by
  constructor
  · intro h
    split at h
    · omega
    · split at h <;> omega
  · intro h
    rw [if_neg (by omega), if_pos h]
theorem zw_same {l m : List Nat} (hl : zp_nm l) (hm : zp_nm m) (h : zp_q8 l.reverse = zp_q8 m.reverse) : l = m := List.reverse_inj.mp (zp_q8_inj _ _ (zp_nm_r hl).2 (zp_nm_r hm).2 h)
/-- a kind's or a child's names in the reference -/
def zw_Nm (h : zm_H) (b : Nat) (kd : Int) (N : Nat) (nm : Nat → List Nat) : Prop := (∀ k, k < N → zp_nm (nm k)) ∧ N ≤ 8 ∧ ((kd = 0 ∧ h 148 b = N ∧ ∀ k : Nat, k < N → ∀ j : Int, j = 8 * b + k → h 165 j = zp_q8 (nm k).reverse) ∨ (kd = 1 ∧ h 153 b = N ∧ ∀ k : Nat, k < N → ∀ j : Int, j = 8 * b + k → h 166 j = zp_q8 (nm k).reverse))
/-- the reference's reader alive at (p, g), or dead of a fault -/
def zw_lv (h : zm_H) (T : Nat → Int) (n b : Nat) (o : zw_S) : Prop := zy_RT h T n ∧ h 146 34 = b ∧ b < 2 ∧ (∀ k a : Nat, o = .inl (k, a) → k ≠ 0 ∧ h 146 8 = k ∧ h 146 9 = a) ∧ (∀ (p : Nat) (g : Bool), o = .inr (p, g) → h 146 8 = 0 ∧ p ≤ n ∧ zy_R h T n p g) ∧ ∀ (p : Nat) (g : Bool), o = .inr (p, g) → h 146 9 = -1
def zf_Wd (a : Nat) (i : Int) : Prop := a = 146 ∧ ((3 ≤ i ∧ i ≤ 9) ∨ i = 12)
def zw_P (h : zm_H) (T : Nat → Int) (n b : Nat) (o : zw_S) (g : zm_H) : Prop := zq_F zf_Wd h g ∧ zw_lv g T n b o
section
variable {h : zm_H} {T : Nat → Int} {n b : Nat} {o : zw_S}
theorem zf_Sr_Wd {g : zm_H} (f : zq_F zf_Sr h g) : zq_F zf_Wd h g := zq_F_wk f (fun a i q => by unfold zf_Sr at q; unfold zf_Wd; omega)
theorem zw_lv.dead {k a : Nat} (hv : zw_lv h T n b (.inl (k, a))) : k ≠ 0 ∧ h 146 8 = k ∧ h 146 9 = a := hv.2.2.2.1 k a rfl
theorem zw_lv.live {p : Nat} {g : Bool} (hv : zw_lv h T n b (.inr (p, g))) : h 146 8 = 0 ∧ p ≤ n ∧ zy_R h T n p g := hv.2.2.2.2.1 p g rfl
theorem zw_lv_i {k a : Nat} (hT : zy_RT h T n) (h34 : h 146 34 = b) (hb : b < 2) (hk : k ≠ 0) (h8 : h 146 8 = k) (h9 : h 146 9 = a) : zw_lv h T n b (.inl (k, a)) := ⟨hT, h34, hb, fun k' a' e => (by cases e; exact ⟨hk, h8, h9⟩), fun p g e => (by cases e), fun p g e => (by cases e)⟩
theorem zw_lv_r {p : Nat} {g : Bool} (hT : zy_RT h T n) (h34 : h 146 34 = b) (hb : b < 2) (h8 : h 146 8 = 0) (hp : p ≤ n) (hR : zy_R h T n p g) (h9 : h 146 9 = -1) : zw_lv h T n b (.inr (p, g)) := ⟨hT, h34, hb, fun k a e => (by cases e), fun p' g' e => (by cases e; exact ⟨h8, hp, hR⟩), fun p' g' e => h9⟩
theorem zw_lv.kp {g : zm_H} (hv : zw_lv h T n b o) (h1 : ∀ i : Int, (2 ≤ i ∧ i ≤ 9) ∨ i = 12 ∨ i = 34 → g 146 i = h 146 i) (h2 : g 147 = h 147) : zw_lv g T n b o := by
  obtain ⟨⟨t1, t2, t3, t4⟩, f34, hb, d, a, z⟩ := hv
  refine ⟨⟨t1, t2, by rw [h1 2 (by omega)]; exact t3, fun i hi => by rw [h2]; exact t4 i hi⟩, by rw [h1 34 (by omega)]; exact f34, hb, fun k x e => ?_, fun p gl e => ?_, fun p gl e => by rw [h1 9 (by omega)]; exact z p gl e⟩
  · rw [h1 8 (by omega), h1 9 (by omega)]; exact d k x e
  · obtain ⟨a1, a2, a3⟩ := a p gl e
    refine ⟨by rw [h1 8 (by omega)]; exact a1, a2, ?_⟩
    unfold zy_R at a3 ⊢
    rw [h1 4 (by omega), h1 12 (by omega), h1 3 (by omega), h1 5 (by omega), h1 7 (by omega), h1 6 (by omega)]
    exact a3
theorem zw_P_rf (hv : zw_lv h T n b o) : zw_P h T n b o h := ⟨zq_F_rf, hv⟩
theorem zw_P_tr {g g2 : zm_H} (f : zq_F zf_Wd h g) (q : zw_P g T n b o g2) : zw_P h T n b o g2 := ⟨zq_F_tr f q.1, q.2⟩
/-- a fault is told -/
theorem zw_P_f {p : Nat} {g : Bool} {k a : Nat} (hv : zw_lv h T n b (.inr (p, g))) (hk : k ≠ 0) : zw_P h T n b (.inl (k, a)) (zm_wr (zm_wr h 146 8 k) 146 9 a) := by
  have hT := hv.1
  refine ⟨zq_F_tr (zq_F_wr (by unfold zf_Wd; omega)) (zq_F_wr (by unfold zf_Wd; omega)), zw_lv_i ⟨hT.1, hT.2.1, ?_, fun i hi => ?_⟩ ?_ hv.2.2.1 hk ?_ zq_wr_e⟩
  · rw [zq_wr_i (by decide), zq_wr_i (by decide)]; exact hT.2.2.1
  · rw [zq_wr_n (by decide), zq_wr_n (by decide)]; exact hT.2.2.2 i hi
  · rw [zq_wr_i (by decide), zq_wr_i (by decide)]; exact hv.2.1
  · rw [zq_wr_i (by decide), zq_wr_e]
theorem s_163d (h8 : 0 < h 146 8) : zu (zc 163 [zm_A 146] h) (fun g => g = h) := by
  refine zt_l e_163 (zt_p (fun _ => zu_e rfl) (fun _ => zt_V (s_164n 1 _ h8) ?_))
  rintro g rfl
  exact zu_e rfl
/-- on -/
theorem s_159w {p : Nat} {g : Bool} (hv : zw_lv h T n b (.inr (p, g))) (ht : zy_ty T n p g ≠ 4 ∧ zy_ty T n p g ≠ 0) : zu (zc 159 [zm_A 146] h) (fun g2 => zw_P h T n b (zw_go T n p g) g2) := by
  have L := hv.live
  refine zu_m (s_159a hv.1 L.2.2 L.2.1 ht) (fun g2 r => ⟨zf_Sr_Wd r.1, zw_lv_r (hv.1.kp r.1) ?_ hv.2.2.1 ?_ (zy_gl_n L.2.1 ht).2 r.2 (by rw [r.1 146 9 (by unfold zf_Sr; omega)]; exact hv.2.2.2.2.2 _ _ rfl)⟩)
  · rw [r.1 146 34 (by unfold zf_Sr; omega)]; exact hv.2.1
  · rw [r.1 146 8 (by unfold zf_Sr; omega)]; exact L.1
theorem s_169 {s : List Nat} (hs : zp_nm s) {x : Int} (hx : x = (zp_q8 s.reverse : Nat)) : zi (zc 169 [zm_A 146, zm_L x] h) (fun z g => z = (if zy_fi s 25 0 = -1 then 0 else 1) ∧ g = h) := by
  have yes : ∀ (i : Nat) (c : Int), i < 25 → c = (zp_q8 (zy_w i).reverse : Nat) → (if x < c then (-1 : Int) else if x = c then 0 else 1) = 0 → (if zy_fi s 25 0 = -1 then (0 : Int) else 1) = 1 := by
    intro i c hi hc hq
    have e : s = zy_w i := zw_same hs (zy_w_nm i hi) (by have := zw_cmp.mp hq; omega)
    rw [e, zy_fi_w hi 25 0 (by omega) (by omega) (by omega), if_neg (by omega)]
  have no : ∀ (i : Nat) (c : Int), c = (zp_q8 (zy_w i).reverse : Nat) → ¬ (if x < c then (-1 : Int) else if x = c then 0 else 1) = 0 → zy_w i ≠ s := by
    intro i c hc hq e
    exact hq (zw_cmp.mpr (by rw [hx, hc, e]))
  refine zt_l e_169 ?_
  refine zt_p (fun q => zt_c (Or.inr rfl) (zi_e ⟨(yes 0 1802071652 (by decide) (by decide) q).symm, rfl⟩)) (fun q0 => ?_)
  refine zt_p (fun q => zt_c (Or.inr rfl) (zi_e ⟨(yes 1 512970880104 (by decide) (by decide) q).symm, rfl⟩)) (fun q1 => ?_)
  refine zt_p (fun q => zt_c (Or.inr rfl) (zi_e ⟨(yes 2 1936292453 (by decide) (by decide) q).symm, rfl⟩)) (fun q2 => ?_)
  refine zt_p (fun q => zt_c (Or.inr rfl) (zi_e ⟨(yes 3 465491813746 (by decide) (by decide) q).symm, rfl⟩)) (fun q3 => ?_)
  refine zt_p (fun q => zt_c (Or.inr rfl) (zi_e ⟨(yes 4 426953501796 (by decide) (by decide) q).symm, rfl⟩)) (fun q4 => ?_)
  refine zt_p (fun q => zt_c (Or.inr rfl) (zi_e ⟨(yes 5 491327153000 (by decide) (by decide) q).symm, rfl⟩)) (fun q5 => ?_)
  refine zt_p (fun q => zt_c (Or.inr rfl) (zi_e ⟨(yes 6 439787809907 (by decide) (by decide) q).symm, rfl⟩)) (fun q6 => ?_)
  refine zt_p (fun q => zt_c (Or.inr rfl) (zi_e ⟨(yes 7 439855772532 (by decide) (by decide) q).symm, rfl⟩)) (fun q7 => ?_)
  refine zt_p (fun q => zt_c (Or.inr rfl) (zi_e ⟨(yes 8 1650815860 (by decide) (by decide) q).symm, rfl⟩)) (fun q8 => ?_)
  refine zt_p (fun q => zt_c (Or.inr rfl) (zi_e ⟨(yes 9 465491355493 (by decide) (by decide) q).symm, rfl⟩)) (fun q9 => ?_)
  refine zt_p (fun q => zt_c (Or.inr rfl) (zi_e ⟨(yes 10 495756340332 (by decide) (by decide) q).symm, rfl⟩)) (fun q10 => ?_)
  refine zt_p (fun q => zt_c (Or.inr rfl) (zi_e ⟨(yes 11 465625113971 (by decide) (by decide) q).symm, rfl⟩)) (fun q11 => ?_)
  refine zt_p (fun q => zt_c (Or.inr rfl) (zi_e ⟨(yes 12 427071599731 (by decide) (by decide) q).symm, rfl⟩)) (fun q12 => ?_)
  refine zt_p (fun q => zt_c (Or.inr rfl) (zi_e ⟨(yes 13 1886745715 (by decide) (by decide) q).symm, rfl⟩)) (fun q13 => ?_)
  refine zt_p (fun q => zt_c (Or.inr rfl) (zi_e ⟨(yes 14 483006772069 (by decide) (by decide) q).symm, rfl⟩)) (fun q14 => ?_)
  refine zt_p (fun q => zt_c (Or.inr rfl) (zi_e ⟨(yes 15 1752135026 (by decide) (by decide) q).symm, rfl⟩)) (fun q15 => ?_)
  refine zt_p (fun q => zt_c (Or.inr rfl) (zi_e ⟨(yes 16 1818584692 (by decide) (by decide) q).symm, rfl⟩)) (fun q16 => ?_)
  refine zt_p (fun q => zt_c (Or.inr rfl) (zi_e ⟨(yes 17 1684631667 (by decide) (by decide) q).symm, rfl⟩)) (fun q17 => ?_)
  refine zt_p (fun q => zt_c (Or.inr rfl) (zi_e ⟨(yes 18 1835360622 (by decide) (by decide) q).symm, rfl⟩)) (fun q18 => ?_)
  refine zt_p (fun q => zt_c (Or.inr rfl) (zi_e ⟨(yes 19 28530 (by decide) (by decide) q).symm, rfl⟩)) (fun q19 => ?_)
  refine zt_p (fun q => zt_c (Or.inr rfl) (zi_e ⟨(yes 20 6385252 (by decide) (by decide) q).symm, rfl⟩)) (fun q20 => ?_)
  refine zt_p (fun q => zt_c (Or.inr rfl) (zi_e ⟨(yes 21 7237492 (by decide) (by decide) q).symm, rfl⟩)) (fun q21 => ?_)
  refine zt_p (fun q => zt_c (Or.inr rfl) (zi_e ⟨(yes 22 6384748 (by decide) (by decide) q).symm, rfl⟩)) (fun q22 => ?_)
  refine zt_p (fun q => zt_c (Or.inr rfl) (zi_e ⟨(yes 23 7170414 (by decide) (by decide) q).symm, rfl⟩)) (fun q23 => ?_)
  refine zt_p (fun q => zt_c (Or.inr rfl) (zi_e ⟨(yes 24 7168376 (by decide) (by decide) q).symm, rfl⟩)) (fun q24 => ?_)
  refine zt_c (Or.inl rfl) (zi_e ⟨?_, rfl⟩)
  rw [if_pos]
  rcases zw_fi_c s 25 0 with e | ⟨w, e⟩
  · exact e
  · exfalso
    have hw := zy_fi_lt 25 0 w e
    have hc : w = 0 ∨ w = 1 ∨ w = 2 ∨ w = 3 ∨ w = 4 ∨ w = 5 ∨ w = 6 ∨ w = 7 ∨ w = 8 ∨ w = 9 ∨ w = 10 ∨ w = 11 ∨ w = 12 ∨ w = 13 ∨ w = 14 ∨ w = 15 ∨ w = 16 ∨ w = 17 ∨ w = 18 ∨ w = 19 ∨ w = 20 ∨ w = 21 ∨ w = 22 ∨ w = 23 ∨ w = 24 := by omega
    rcases hc with rfl | rfl | rfl | rfl | rfl | rfl | rfl | rfl | rfl | rfl | rfl | rfl | rfl | rfl | rfl | rfl | rfl | rfl | rfl | rfl | rfl | rfl | rfl | rfl | rfl
    · exact no 0 1802071652 (by decide) q0 hw.1
    · exact no 1 512970880104 (by decide) q1 hw.1
    · exact no 2 1936292453 (by decide) q2 hw.1
    · exact no 3 465491813746 (by decide) q3 hw.1
    · exact no 4 426953501796 (by decide) q4 hw.1
    · exact no 5 491327153000 (by decide) q5 hw.1
    · exact no 6 439787809907 (by decide) q6 hw.1
    · exact no 7 439855772532 (by decide) q7 hw.1
    · exact no 8 1650815860 (by decide) q8 hw.1
    · exact no 9 465491355493 (by decide) q9 hw.1
    · exact no 10 495756340332 (by decide) q10 hw.1
    · exact no 11 465625113971 (by decide) q11 hw.1
    · exact no 12 427071599731 (by decide) q12 hw.1
    · exact no 13 1886745715 (by decide) q13 hw.1
    · exact no 14 483006772069 (by decide) q14 hw.1
    · exact no 15 1752135026 (by decide) q15 hw.1
    · exact no 16 1818584692 (by decide) q16 hw.1
    · exact no 17 1684631667 (by decide) q17 hw.1
    · exact no 18 1835360622 (by decide) q18 hw.1
    · exact no 19 28530 (by decide) q19 hw.1
    · exact no 20 6385252 (by decide) q20 hw.1
    · exact no 21 7237492 (by decide) q21 hw.1
    · exact no 22 6384748 (by decide) q22 hw.1
    · exact no 23 7170414 (by decide) q23 hw.1
    · exact no 24 7168376 (by decide) q24 hw.1
/-- is there a name like this -/
theorem s_170 {kd : Int} {N : Nat} {nm : Nat → List Nat} {s : List Nat} (hb : b < 2) (h34 : h 146 34 = b) (hN : zw_Nm h b kd N nm) (hs : zp_nm s) {x : Int} (hx : x = (zp_q8 s.reverse : Nat)) : zi (zc 170 [zm_A 146, zm_I kd, zm_L x] h) (fun z g => z = zw_fd N nm s ∧ g = h) := by
  obtain ⟨n1, n2, n3⟩ := hN
  have c171 : zi (zc 171 [zm_A 146, zm_I (h 146 34), zm_I kd] h) (fun z g => z = N ∧ g = h) := by
    refine zt_l e_171 ?_
    rw [h34]
    rcases n3 with ⟨k0, e, _⟩ | ⟨k0, e, _⟩
    · exact zt_t k0 (zt_c (by omega) (zi_e ⟨e, rfl⟩))
    · exact zt_f (by omega) (zt_c (by omega) (zi_e ⟨e, rfl⟩))
  have c172 : ∀ i : Nat, i < N → zj (zc 172 [zm_A 146, zm_I (h 146 34), zm_I kd, zm_I i] h) (fun z g => z = (zp_q8 (nm i).reverse : Nat) ∧ g = h) := by
    intro i hi
    refine zt_l e_172 ?_
    rw [h34]
    rcases n3 with ⟨k0, _, e⟩ | ⟨k0, _, e⟩
    · exact zt_t k0 (zt_c (by omega) (zt_c (by omega) (zt_c (by omega) (zj_e ⟨e i hi _ rfl, rfl⟩))))
    · exact zt_f (by omega) (zt_c (by omega) (zt_c (by omega) (zt_c (by omega) (zj_e ⟨e i hi _ rfl, rfl⟩))))
  have key : ∀ (m i : Nat), i + m = N → zi (zr none 2 170 3 [zm_A 146, zm_I kd, zm_L x, zm_U, zm_I i] [] h) (fun z g => z = zw_fdf nm s m i ∧ g = h) := by
    intro m
    induction m with
    | zero =>
      intro i hi
      refine zt_l e_170_3 (zt_I c171 ?_)
      rintro z g ⟨rfl, rfl⟩
      exact zt_f (by omega) (zi_e ⟨rfl, rfl⟩)
    | succ m ih =>
      intro i hi
      refine zt_l e_170_3 (zt_I c171 ?_)
      rintro z g ⟨rfl, rfl⟩
      refine zt_t (by omega) (zt_L (c172 i (by omega)) ?_)
      rintro z g ⟨rfl, rfl⟩
      unfold zw_fdf
      refine zt_p (fun q => zi_e ⟨?_, rfl⟩) (fun q => zt_c (by omega) ?_)
      · rw [if_pos (zw_same (n1 i (by omega)) hs (by have := zw_cmp.mp q; omega))]
      · rw [if_neg (fun e => q (zw_cmp.mpr (by rw [e, hx])))]
        exact ih (i + 1) (by omega)
  exact zt_l e_170 (key N 0 (by omega))
/-- a word of the language's own -/
theorem s_173 (hv : zw_lv h T n b o) {w : Nat} {c : Int} (hw : w < 25) (hc : c = (zp_q8 (zy_w w).reverse : Nat)) : zu (zc 173 [zm_A 146, zm_L c] h) (fun g => zw_P h T n b (zw_th o (zw_own T n w)) g) := by
  rcases o with ⟨k, a⟩ | ⟨p, g⟩
  · have d := hv.dead
    refine zt_l e_173 (zt_V (s_163d (by omega)) ?_)
    rintro g rfl
    exact zt_f (by omega) (zu_e (zw_P_rf hv))
  · have L := hv.live
    show zu _ (fun g2 => zw_P h T n b (zw_own T n w p g) g2)
    unfold zw_own
    by_cases t4 : zy_ty T n p g = 4
    · rw [if_neg (fun e => by have := ((zy_ow_iff hw).mp e).1; omega)]
      refine zt_l e_173 (zt_V (s_163x L.2.2 t4 L.1) ?_)
      rintro g2 rfl
      exact zt_f (by rw [zq_wr_i (by decide), zq_wr_e]; decide) (zu_e (zw_P_f hv (by decide)))
    · refine zt_l e_173 (zt_V (s_163 L.2.2 t4) ?_)
      rintro g2 rfl
      refine zt_t (by omega) (zt_I (s_165 L.2.2 t4 hw hc) ?_)
      rintro z g3 ⟨rfl, rfl⟩
      by_cases q : zy_ow T n p g = w
      · rw [if_pos q, if_pos q]
        have t1 := ((zy_ow_iff hw).mp q).1
        refine zt_f (by decide) (zt_t L.1 (zt_V (s_159w hv (by omega)) (fun g4 r => zu_e r)))
      · rw [if_neg q, if_neg q, zy_bd_at t4, L.2.2.1]
        refine zt_t rfl (zt_V (s_164y 1 _ L.1) ?_)
        rintro g4 rfl
        exact zt_f (by rw [zq_wr_i (by decide), zq_wr_e]; decide) (zu_e (zw_P_f hv (by decide)))
/-- a sign -/
theorem s_196 (hv : zw_lv h T n b o) (c : Int) : zu (zc 196 [zm_A 146, zm_I c] h) (fun g => zw_P h T n b (zw_th o (zw_sgn T n c)) g) := by
  rcases o with ⟨k, a⟩ | ⟨p, g⟩
  · have d := hv.dead
    refine zt_l e_196 (zt_V (s_163d (by omega)) ?_)
    rintro g rfl
    refine zt_I (s_187f c) ?_
    rintro z g2 rfl
    refine zt_p (fun _ => zt_V (s_164n 1 _ (by omega)) ?_) (fun _ => zt_f (by omega) (zu_e (zw_P_rf hv)))
    rintro g3 rfl
    exact zt_f (by omega) (zu_e (zw_P_rf hv))
  · have L := hv.live
    show zu _ (fun g2 => zw_P h T n b (zw_sgn T n c p g) g2)
    unfold zw_sgn
    by_cases t4 : zy_ty T n p g = 4
    · rw [if_neg (fun e => by have := (zy_sg_ty e).1; omega)]
      refine zt_l e_196 (zt_V (s_163x L.2.2 t4 L.1) ?_)
      rintro g2 rfl
      have e8 : zm_wr (zm_wr h 146 8 1) 146 9 (zy_bd T n p g) 146 8 = 1 := by rw [zq_wr_i (by decide), zq_wr_e]
      refine zt_I (s_187f c) ?_
      rintro z g3 rfl
      refine zt_p (fun _ => zt_V (s_164n 1 _ (by rw [e8]; decide)) ?_) (fun _ => zt_f (by rw [e8]; decide) (zu_e (zw_P_f hv (by decide))))
      rintro g4 rfl
      exact zt_f (by rw [e8]; decide) (zu_e (zw_P_f hv (by decide)))
    · refine zt_l e_196 (zt_V (s_163 L.2.2 t4) ?_)
      rintro g2 rfl
      refine zt_I (s_187s L.2.2 t4 c) ?_
      rintro z g3 ⟨rfl, rfl⟩
      by_cases q : zy_sg T n p g c = true
      · rw [if_pos q, if_pos q]
        have t1 := (zy_sg_ty q).1
        refine zt_f (by decide) (zt_t L.1 (zt_V (s_159w hv (by omega)) (fun g4 r => zu_e r)))
      · rw [if_neg q, if_neg q, zy_bd_at t4, L.2.2.1]
        refine zt_t rfl (zt_V (s_164y 1 _ L.1) ?_)
        rintro g4 rfl
        exact zt_f (by rw [zq_wr_i (by decide), zq_wr_e]; decide) (zu_e (zw_P_f hv (by decide)))
/-- a number -/
theorem s_174 (hv : zw_lv h T n b o) (lo hi : Int) : zi (zc 174 [zm_A 146, zm_I lo, zm_I hi] h) (fun z g => zw_P h T n b (zw_th o (zw_num T n lo hi)) g ∧ ∀ p g', o = .inr (p, g') → ∀ q, zw_num T n lo hi p g' = .inr q → z = zy_nu T n p) := by
  rcases o with ⟨k, a⟩ | ⟨p, g⟩
  · have d := hv.dead
    refine zt_l e_174 (zt_V (s_163d (by omega)) ?_)
    rintro g rfl
    exact zt_f (by omega) (zi_e ⟨zw_P_rf hv, fun p g' e => by cases e⟩)
  · have L := hv.live
    suffices hh : zi (zc 174 [zm_A 146, zm_I lo, zm_I hi] h) (fun z g2 => zw_P h T n b (zw_num T n lo hi p g) g2 ∧ ∀ q, zw_num T n lo hi p g = .inr q → z = zy_nu T n p) from zi_m hh (fun z g2 r => ⟨r.1, fun p' g' e => by cases e; exact r.2⟩)
    unfold zw_num
    by_cases t4 : zy_ty T n p g = 4
    · rw [if_neg (by omega)]
      refine zt_l e_174 (zt_V (s_163x L.2.2 t4 L.1) ?_)
      rintro g2 rfl
      exact zt_f (by rw [zq_wr_i (by decide), zq_wr_e]; decide) (zi_e ⟨zw_P_f hv (by decide), fun q e => by cases e⟩)
    · refine zt_l e_174 (zt_V (s_163 L.2.2 t4) ?_)
      rintro g2 rfl
      refine zt_t (by omega) ?_
      rw [(L.2.2.2.2.1 t4).2.1]
      by_cases t2 : zy_ty T n p g = 2
      · rw [if_pos t2]
        refine zt_t (by omega) (zt_l e_174_30 (zt_t L.1 ?_))
        rw [L.2.2.2.2.2.2.1 t2]
        refine zt_I (s_175 _ lo hi) ?_
        rintro z g3 ⟨rfl, rfl⟩
        by_cases q : lo ≤ zy_nu T n p ∧ zy_nu T n p ≤ hi
        · rw [if_pos q, if_pos q]
          exact zt_f (by decide) (zt_t L.1 (zt_V (s_159w hv (by omega)) (fun g4 r => zi_e ⟨r, fun _ _ => L.2.2.2.2.2.2.1 t2⟩)))
        · rw [if_neg q, if_neg q, L.2.2.1]
          refine zt_t rfl (zt_V (s_164y 4 _ L.1) ?_)
          rintro g4 rfl
          exact zt_f (by rw [zq_wr_i (by decide), zq_wr_e]; decide) (zi_e ⟨zw_P_f hv (by decide), fun q e => by cases e⟩)
      · rw [if_neg t2, zy_bd_at t4, L.2.2.1]
        refine zt_f (by omega) (zt_V (s_164y 1 _ L.1) ?_)
        rintro g4 rfl
        have e8 : zm_wr (zm_wr g2 146 8 1) 146 9 (zy_at T n p) 146 8 = 1 := by rw [zq_wr_i (by decide), zq_wr_e]
        exact zt_l e_174_30 (zt_f (by rw [e8]; decide) (zt_f (by rw [e8]; decide) (zi_e ⟨zw_P_f hv (by decide), fun q e => by cases e⟩)))
/-- a name that there is -/
theorem s_177 (hv : zw_lv h T n b o) {kd : Int} {N : Nat} {nm : Nat → List Nat} (hN : zw_Nm h b kd N nm) : zi (zc 177 [zm_A 146, zm_I kd] h) (fun z g => zw_P h T n b (zw_th o (zw_lk T n N nm)) g ∧ (∀ p g', zw_th o (zw_lk T n N nm) = .inr (p, g') → z = zw_fd N nm (zy_ls T n p)) ∧ ∀ e, zw_th o (zw_lk T n N nm) = .inl e → z = 0) := by
  rcases o with ⟨k, a⟩ | ⟨p, g⟩
  · have d := hv.dead
    refine zt_l e_177 (zt_V (s_163d (by omega)) ?_)
    rintro g rfl
    exact zt_f (by omega) (zi_e ⟨zw_P_rf hv, fun p g' e => (by cases e), fun e _ => rfl⟩)
  · have L := hv.live
    show zi (zc 177 [zm_A 146, zm_I kd] h) (fun z g2 => zw_P h T n b (zw_lk T n N nm p g) g2 ∧ (∀ p' g', zw_lk T n N nm p g = .inr (p', g') → z = zw_fd N nm (zy_ls T n p')) ∧ ∀ e, zw_lk T n N nm p g = .inl e → z = 0)
    unfold zw_lk
    by_cases t4 : zy_ty T n p g = 4
    · rw [if_neg (fun e => by have := e.1; omega)]
      refine zt_l e_177 (zt_V (s_163x L.2.2 t4 L.1) ?_)
      rintro g2 rfl
      exact zt_f (by rw [zq_wr_i (by decide), zq_wr_e]; decide) (zi_e ⟨zw_P_f hv (by decide), fun p' g' e => (by cases e), fun e _ => rfl⟩)
    · refine zt_l e_177 (zt_V (s_163 L.2.2 t4) ?_)
      rintro g2 rfl
      refine zt_t (by omega) ?_
      rw [(L.2.2.2.2.1 t4).2.1]
      have bad : ¬ zw_nam T n p g → zi (zr none 3 177 32 [zm_A 146, zm_I kd, zm_U] [] g2) (fun z g2' => zw_P g2 T n b (if zw_nam T n p g then (if zw_fd N nm (zy_ls T n p) = -1 then (.inl (3, zy_at T n p) : zw_S) else .inr (p, g)) else .inl (1, zy_bd T n p g)) g2' ∧ (∀ p' g', (if zw_nam T n p g then (if zw_fd N nm (zy_ls T n p) = -1 then (.inl (3, zy_at T n p) : zw_S) else .inr (p, g)) else .inl (1, zy_bd T n p g)) = .inr (p', g') → z = zw_fd N nm (zy_ls T n p')) ∧ ∀ e, (if zw_nam T n p g then (if zw_fd N nm (zy_ls T n p) = -1 then (.inl (3, zy_at T n p) : zw_S) else .inr (p, g)) else .inl (1, zy_bd T n p g)) = .inl e → z = 0) := by
        intro q
        rw [if_neg q, zy_bd_at t4]
        refine zt_l e_177_32 ?_
        rw [L.2.2.1]
        refine zt_V (s_164y 1 _ L.1) ?_
        rintro g4 rfl
        have e8 : zm_wr (zm_wr g2 146 8 1) 146 9 (zy_at T n p) 146 8 = 1 := by rw [zq_wr_i (by decide), zq_wr_e]
        exact zt_l e_177_41 (zt_f (by rw [e8]; decide) (zt_f (by rw [e8]; decide) (zt_f (by rw [e8]; decide) (zi_e ⟨zw_P_f hv (by decide), fun p' g' e => (by cases e), fun e _ => rfl⟩))))
      by_cases t1 : zy_ty T n p g = 1
      · have nmls := zy_ls_nm t1
        rw [L.2.2.2.2.2.1 t1]
        refine zt_t (by omega) (zt_I (s_169 nmls rfl) ?_)
        rintro z g3 ⟨rfl, rfl⟩
        by_cases q : zy_fi (zy_ls T n p) 25 0 = -1
        · have nm1 : zw_nam T n p g := ⟨t1, by unfold zy_ow; rw [if_pos t1]; exact q⟩
          rw [if_pos q, if_pos nm1]
          refine zt_t rfl (zt_l e_177_41 (zt_t (by omega) ?_))
          rw [L.2.2.2.2.2.1 t1]
          refine zt_I (s_170 hv.2.2.1 hv.2.1 hN nmls rfl) ?_
          rintro z g4 ⟨rfl, rfl⟩
          refine zt_t L.1 ?_
          by_cases q3 : zw_fd N nm (zy_ls T n p) = -1
          · refine zt_t q3 ?_
            rw [if_pos q3, L.2.2.1]
            refine zt_V (s_164y 3 _ L.1) ?_
            rintro g5 rfl
            exact zt_f (by rw [zq_wr_i (by decide), zq_wr_e]; decide) (zi_e ⟨zw_P_f hv (by decide), fun p' g' e => (by cases e), fun e _ => rfl⟩)
          · refine zt_f q3 ?_
            rw [if_neg q3]
            exact zt_t (by omega) (zi_e ⟨zw_P_rf hv, fun p' g' e => (by cases e; rfl), fun e x => (by cases x)⟩)
        · rw [if_neg q]
          exact zt_f (by decide) (bad (fun e => q (by have := e.2; unfold zy_ow at this; rw [if_pos t1] at this; exact this)))
      · exact zt_f (by omega) (bad (fun e => t1 e.1))
theorem s_180 (hv : zw_lv h T n b o) {kd : Int} {N : Nat} {nm : Nat → List Nat} (hN : zw_Nm h b kd N nm) : zi (zc 180 [zm_A 146, zm_I kd] h) (fun z g => zw_P h T n b (zw_th (zw_th o (zw_lk T n N nm)) (zw_go T n)) g ∧ (∀ p g', zw_th o (zw_lk T n N nm) = .inr (p, g') → z = zw_fd N nm (zy_ls T n p)) ∧ ∀ e, zw_th o (zw_lk T n N nm) = .inl e → z = 0) := by
  refine zt_l e_180 (zt_I (s_177 hv hN) ?_)
  rintro z g ⟨r1, r2, r3⟩
  have hn : ∀ p g', zw_th o (zw_lk T n N nm) = .inr (p, g') → zy_ty T n p g' = 1 := by
    intro p g' e
    rcases o with ⟨k, a⟩ | ⟨p0, g0⟩
    · cases e
    · have e' : zw_lk T n N nm p0 g0 = .inr (p, g') := e
      unfold zw_lk at e'
      split at e'
      · next q =>
        split at e'
        · cases e'
        · cases e'; exact q.1
      · cases e'
  generalize zw_th o (zw_lk T n N nm) = o1 at r1 r2 r3 hn
  rcases o1 with ⟨k, a⟩ | ⟨p, g'⟩
  · have d := r1.2.dead
    have z0 := r3 (k, a) rfl
    exact zt_f (by omega) (zt_f (by omega) (zi_e ⟨r1, fun p g' e => (by cases e), fun _ _ => rfl⟩))
  · have L := r1.2.live
    have t1 := hn p g' rfl
    refine zt_t L.1 (zt_V (s_159w r1.2 (by omega)) ?_)
    intro g2 r
    have h8 : g2 146 8 = 0 := r.2.live.1
    exact zt_t (by omega) (zi_e ⟨zw_P_tr r1.1 r, r2, r3⟩)
/-- a name that is given -/
theorem s_168 (hv : zw_lv h T n b o) {K C : Nat} {nk nc : Nat → List Nat} (hK : zw_Nm h b 0 K nk) (hC : zw_Nm h b 1 C nc) : zj (zc 168 [zm_A 146] h) (fun z g => zw_P h T n b (zw_th o (zw_new T n K C nk nc)) g ∧ ∀ p g', o = .inr (p, g') → ∀ q, zw_new T n K C nk nc p g' = .inr q → z = (zp_q8 (zy_ls T n p).reverse : Nat)) := by
  rcases o with ⟨k, a⟩ | ⟨p, g⟩
  · have d := hv.dead
    refine zt_l e_168 (zt_V (s_163d (by omega)) ?_)
    rintro g rfl
    exact zt_f (by omega) (zj_e ⟨zw_P_rf hv, fun p g' e => by cases e⟩)
  · have L := hv.live
    suffices hh : zj (zc 168 [zm_A 146] h) (fun z g2 => zw_P h T n b (zw_new T n K C nk nc p g) g2 ∧ ∀ q, zw_new T n K C nk nc p g = .inr q → z = (zp_q8 (zy_ls T n p).reverse : Nat)) from zj_m hh (fun z g2 r => ⟨r.1, fun p' g' e => by cases e; exact r.2⟩)
    unfold zw_new
    have deadend : ∀ (k a : Nat) (g2 : zm_H) (w : zm_V) (x : Int), k ≠ 0 → g2 = zm_wr (zm_wr h 146 8 k) 146 9 a → zj (zr none 3 168 43 [zm_A 146, zm_I x, w] [] g2) (fun z g3 => zw_P h T n b (.inl (k, a)) g3 ∧ ∀ q, (.inl (k, a) : zw_S) = .inr q → z = (zp_q8 (zy_ls T n p).reverse : Nat)) := by
      intro k a g2 w x hk e
      subst e
      have e8 : zm_wr (zm_wr h 146 8 (k : Int)) 146 9 (a : Int) 146 8 = k := by rw [zq_wr_i (by decide), zq_wr_e]
      have fin : zw_P h T n b (.inl (k, a)) (zm_wr (zm_wr h 146 8 (k : Int)) 146 9 (a : Int)) := zw_P_f hv hk
      refine zt_l e_168_43 (zt_p (fun _ => zt_f (by rw [e8]; omega) (zj_e ⟨fin, fun q e => by cases e⟩)) (fun _ => zt_f (by rw [e8]; omega) (zt_f (by rw [e8]; omega) (zj_e ⟨fin, fun q e => by cases e⟩))))
    by_cases t4 : zy_ty T n p g = 4
    · rw [if_neg (fun e => by have := e.1; omega)]
      refine zt_l e_168 (zt_V (s_163x L.2.2 t4 L.1) ?_)
      rintro g2 rfl
      exact zt_f (by rw [zq_wr_i (by decide), zq_wr_e]; decide) (zj_e ⟨zw_P_f hv (by decide), fun q e => by cases e⟩)
    · refine zt_l e_168 (zt_V (s_163 L.2.2 t4) ?_)
      rintro g2 rfl
      refine zt_t (by omega) ?_
      rw [(L.2.2.2.2.1 t4).2.1]
      by_cases t1 : zy_ty T n p g = 1
      · have nmls := zy_ls_nm t1
        rw [L.2.2.2.2.2.1 t1]
        refine zt_t (by omega) (zt_I (s_169 nmls rfl) ?_)
        rintro z g3 ⟨rfl, rfl⟩
        by_cases q : zy_fi (zy_ls T n p) 25 0 = -1
        · have nm1 : zw_nam T n p g := ⟨t1, by unfold zy_ow; rw [if_pos t1]; exact q⟩
          rw [if_pos q, if_pos nm1]
          refine zt_t rfl (zt_l e_168_43 (zt_f (by decide) (zt_t L.1 ?_)))
          rw [L.2.2.2.2.2.1 t1]
          refine zt_I (s_170 hv.2.2.1 hv.2.1 hK nmls rfl) ?_
          rintro z g4 ⟨rfl, rfl⟩
          by_cases q1 : zw_fd K nk (zy_ls T n p) = -1
          · refine zt_t q1 (zt_c (by decide) (zt_l e_168_43 (zt_f (by decide) (zt_t L.1 ?_))))
            rw [L.2.2.2.2.2.1 t1]
            refine zt_I (s_170 hv.2.2.1 hv.2.1 hC nmls rfl) ?_
            rintro z g5 ⟨rfl, rfl⟩
            by_cases q2 : zw_fd C nc (zy_ls T n p) = -1
            · refine zt_t q2 (zt_c (by decide) ?_)
              rw [if_pos (show zw_fd K nk (zy_ls T n p) = -1 ∧ zw_fd C nc (zy_ls T n p) = -1 from ⟨q1, q2⟩)]
              refine zt_l e_168_43 (zt_t (by decide) (zt_t L.1 (zt_V (s_159w hv (by omega)) ?_)))
              intro g6 r
              exact zj_e ⟨r, fun _ _ => L.2.2.2.2.2.1 t1⟩
            · refine zt_f q2 ?_
              rw [if_neg (show ¬ (zw_fd K nk (zy_ls T n p) = -1 ∧ zw_fd C nc (zy_ls T n p) = -1) from fun e => q2 e.2), L.2.2.1]
              refine zt_V (s_164y 2 _ L.1) ?_
              rintro g6 rfl
              exact zt_c (by decide) (deadend 2 _ _ _ _ (by decide) rfl)
          · refine zt_f q1 ?_
            rw [if_neg (show ¬ (zw_fd K nk (zy_ls T n p) = -1 ∧ zw_fd C nc (zy_ls T n p) = -1) from fun e => q1 e.1), L.2.2.1]
            refine zt_V (s_164y 2 _ L.1) ?_
            rintro g6 rfl
            exact zt_c (by decide) (deadend 2 _ _ _ _ (by decide) rfl)
        · rw [if_neg q, if_neg (show ¬ zw_nam T n p g from fun e => q (by have := e.2; unfold zy_ow at this; rw [if_pos t1] at this; exact this)), zy_bd_at t4, L.2.2.1]
          refine zt_f (by decide) (zt_V (s_164y 1 _ L.1) ?_)
          rintro g4 rfl
          exact deadend 1 _ _ _ _ (by decide) rfl
      · rw [if_neg (show ¬ zw_nam T n p g from fun e => t1 e.1), zy_bd_at t4, L.2.2.1]
        refine zt_f (by omega) (zt_V (s_164y 1 _ L.1) ?_)
        rintro g4 rfl
        exact deadend 1 _ _ _ _ (by decide) rfl
/-- is there room for one more -/
theorem s_167 {p : Nat} {gl : Bool} {x : Int} (hv : zw_lv h T n b (.inr (p, gl))) (ht : zy_ty T n p gl ≠ 4 ∧ zy_ty T n p gl ≠ 0) : zi (zc 167 [zm_A 146, zm_I x] h) (fun z g => (x = 0 ∧ z = 1 ∧ zw_P h T n b (zw_go T n p gl) g) ∨ (x ≠ 0 ∧ z = 0 ∧ zw_P h T n b (.inl (6, zy_at T n p)) g)) := by
  have L := hv.live
  refine zt_l e_167 (zt_t L.1 (zt_p (fun q => zt_t L.1 (zt_V (s_159w hv ht) ?_)) (fun q => ?_)))
  · intro g r
    exact zt_t r.2.live.1 (zt_c (Or.inr rfl) (zi_e (Or.inl ⟨q, rfl, r⟩)))
  · rw [L.2.2.1]
    refine zt_V (s_164y 6 _ L.1) ?_
    rintro g rfl
    have e8 : zm_wr (zm_wr h 146 8 6) 146 9 (zy_at T n p) 146 8 = 6 := by rw [zq_wr_i (by decide), zq_wr_e]
    exact zt_f (by rw [e8]; decide) (zt_f (by rw [e8]; decide) (zt_c (Or.inl rfl) (zi_e (Or.inr ⟨q, rfl, zw_P_f hv (by decide)⟩))))
end
