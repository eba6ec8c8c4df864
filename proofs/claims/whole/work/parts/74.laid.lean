/-! LAID: the orders of the layers; the class -/
def zp_lo (l : List Nat) (p : Nat) : Nat := l.getD p p
def zp_meo (K L : Nat) (sz re fe ru : Nat → Int) (lk : Nat → Nat → Int) (P : Nat → Int) (c : Nat) (l : List Nat) : Int := zp_th (zp_wo (zp_ke K sz ru lk c) (zp_cn L re P (zp_lo l) c) (zp_wv K lk c) (zp_T fe c)) (zp_pw (zq_S 8 (zp_cn L re P (zp_lo l) c)) (zp_T fe c))
def zp_stp (f : List Nat → Int) (s : Int × List Nat) (l : List Nat) : Int × List Nat := if s.1 < f l then (f l, l) else s
def zp_dg (L x p : Nat) : Nat := x / L ^ (L - 1 - p) % L
def zp_mk (o : Nat → Nat) : Nat → Nat → Nat → Nat
  | 0, _, a => a
  | m + 1, i, a => zp_mk o m (i + 1) (a ||| 2 ^ o i)
def zp_ip (L x : Nat) : Bool := zp_mk (zp_dg L x) L 0 0 == 2 ^ L - 1
def zp_dl (L x : Nat) : List Nat := (List.range L).map (zp_dg L x)
def zp_fs (f : List Nat → Int) (L x : Nat) : Int × List Nat := (((List.range x).filter (zp_ip L)).map (zp_dl L)).foldl (zp_stp f) (-1, [])
def zp_pl (L : Nat) : List (List Nat) := ((List.range (L ^ L)).filter (zp_ip L)).map (zp_dl L)
/-- the next order -/
def zp_n1 (o : Nat → Nat) : Nat → Nat → Nat → Nat
  | 0, _, b => b
  | m + 1, i, b => zp_n1 o m (i + 1) (if o i < o (i + 1) then i + 1 else b)
def zp_n2 (o : Nat → Nat) (q : Nat) : Nat → Nat → Nat → Nat
  | 0, _, j => j
  | m + 1, i, j => zp_n2 o q m (i + 1) (if o i ≤ o q then j else i)
def zp_sw (o : Nat → Nat) (a b : Nat) : Nat → Nat := fun i => if i = b then o a else if i = a then o b else o i
def zp_n3 : Nat → (Nat → Nat) → Nat → Nat → (Nat → Nat)
  | 0, o, _, _ => o
  | n + 1, o, a, b => if a < b then zp_n3 n (zp_sw o a b) (a + 1) (b - 1) else o
def zp_nxt (L : Nat) (o : Nat → Nat) : Option (Nat → Nat) :=
  if zp_n1 o (L - 1) 0 0 = 0 then none
  else some (zp_n3 L (zp_sw o (zp_n1 o (L - 1) 0 0 - 1) (zp_n2 o (zp_n1 o (L - 1) 0 0 - 1) (L - zp_n1 o (L - 1) 0 0) (zp_n1 o (L - 1) 0 0) (zp_n1 o (L - 1) 0 0))) (zp_n1 o (L - 1) 0 0) (L - 1))
def zp_okl (L : Nat) (l : List Nat) : Bool := (List.range 5).all (fun p => decide (zp_lo l p < 5)) && (List.range L).all (fun i => (List.range L).any (fun p => zp_lo l p == i))
def zp_same (o : Option (Nat → Nat)) (l : List Nat) : Bool := (List.range 5).all (fun p => o.any (fun o => o p == zp_lo l p))
def zp_chn (L : Nat) : List (List Nat) → List Nat → Bool
  | [], l => zp_okl L l && (zp_nxt L (zp_lo l)).isNone
  | l' :: r, l => zp_okl L l && (zp_same (zp_nxt L (zp_lo l)) l' && zp_chn L r l')
def zp_plok (L : Nat) : List (List Nat) → Bool
  | [] => false
  | l :: r => (l == List.range L) && (decide (r.length < 120) && zp_chn L r l)
theorem zp_plok_1 : zp_plok 1 (zp_pl 1) = true := by decide +kernel
theorem zp_plok_2 : zp_plok 2 (zp_pl 2) = true := by decide +kernel
theorem zp_plok_3 : zp_plok 3 (zp_pl 3) = true := by decide +kernel
theorem zp_plok_4 : zp_plok 4 (zp_pl 4) = true := by decide +kernel
theorem zp_plok_5 : zp_plok 5 (zp_pl 5) = true := by decide +kernel
theorem zp_pl_ok {L : Nat} (h1 : 1 ≤ L) (h5 : L ≤ 5) : zp_plok L (zp_pl L) = true := by
  have h : L = 1 ∨ L = 2 ∨ L = 3 ∨ L = 4 ∨ L = 5 := by omega
  rcases h with rfl | rfl | rfl | rfl | rfl
  · exact zp_plok_1
  · exact zp_plok_2
  · exact zp_plok_3
  · exact zp_plok_4
  · exact zp_plok_5
theorem zp_chn_all {L : Nat} : ∀ (r : List (List Nat)) (l : List Nat), zp_chn L r l = true → ∀ q, q ∈ l :: r → zp_okl L q = true := by
  intro r
  induction r with
  | nil =>
    intro l h q hq
    unfold zp_chn at h
    rw [Bool.and_eq_true] at h
    cases hq with
    | head => exact h.1
    | tail _ hq => cases hq
  | cons l' r ih =>
    intro l h q hq
    unfold zp_chn at h
    rw [Bool.and_eq_true, Bool.and_eq_true] at h
    cases hq with
    | head => exact h.1
    | tail _ hq => exact ih l' h.2.2 q hq
theorem zp_pl_all {L : Nat} (h1 : 1 ≤ L) (h5 : L ≤ 5) {q : List Nat} (hq : q ∈ zp_pl L) : zp_okl L q = true := by
  have h := zp_pl_ok h1 h5
  cases hp : zp_pl L with
  | nil => rw [hp] at hq; cases hq
  | cons l r =>
    rw [hp] at h hq
    unfold zp_plok at h
    rw [Bool.and_eq_true, Bool.and_eq_true] at h
    exact zp_chn_all r l h.2.2 q hq
theorem zp_okl_b {L : Nat} {q : List Nat} (h : zp_okl L q = true) : (∀ p, p < 5 → zp_lo q p < 5) ∧ ∀ i, i < L → ∃ p, p < L ∧ zp_lo q p = i := by
  unfold zp_okl at h
  rw [Bool.and_eq_true, List.all_eq_true, List.all_eq_true] at h
  refine ⟨fun p hp => of_decide_eq_true (h.1 p (List.mem_range.mpr hp)), fun i hi => ?_⟩
  have h2 := h.2 i (List.mem_range.mpr hi)
  rw [List.any_eq_true] at h2
  obtain ⟨p, hp, he⟩ := h2
  exact ⟨p, List.mem_range.mp hp, eq_of_beq he⟩
section
variable {h : zm_H} {t b K L C : Nat} {wo sz re fe ru : Nat → Int} {lk : Nat → Nat → Int} {P Pu Qu Hd : Nat → Int} {hr dp : Int}
theorem zp_upf_hit {ord : Nat → Nat} : ∀ (n p : Nat), p + n = L → (∃ q, p ≤ q ∧ q < L ∧ zp_sl P (ord q) ≠ 0) → zp_upf L P ord n p < L ∧ zp_sl P (ord (zp_upf L P ord n p)) ≠ 0 := by
  intro n
  induction n with
  | zero => intro p hp ⟨q, h1, h2, h3⟩; omega
  | succ n ih =>
    intro p hp ⟨q, h1, h2, h3⟩
    unfold zp_upf
    by_cases hz : zp_sl P (ord p) = 0
    · rw [if_pos ⟨by omega, hz⟩]
      refine ih (p + 1) (by omega) ⟨q, ?_, h2, h3⟩
      have : q ≠ p := fun e => h3 (by rw [e]; exact hz)
      omega
    · rw [if_neg (fun r => hz r.2)]
      exact ⟨by omega, hz⟩
theorem zp_cn_pos (hB : zv_B K L C wo sz re fe ru lk) (hP : zv_P K L P) (hl : zp_left P ≠ 0) {q : List Nat} (hq : zp_okl L q = true) {c : Nat} (hc : c < C) : 0 < zq_S 8 (zp_cn L re P (zp_lo q) c) := by
  obtain ⟨ho, hs⟩ := zp_okl_b hq
  have hL5 := hB.2.1
  have hex : ∃ i, i < L ∧ zp_sl P i ≠ 0 := Classical.byContradiction (fun hn => hl (by
    rw [← zp_left_L hP hL5]
    exact zq_S_zero (fun i hi => Classical.byContradiction (fun r => hn ⟨i, hi, r⟩))))
  obtain ⟨i, hi, hne⟩ := hex
  obtain ⟨p, hp, he⟩ := hs i hi
  have hu := zp_upf_hit (P := P) (L := L) (ord := zp_lo q) L 0 (by omega) ⟨p, by omega, hp, by rw [he]; exact hne⟩
  have hre := (hB.2.2.2.2.1 c hc).1
  have hu1 : zp_up L P (zp_lo q) < L := hu.1
  have hu2 : zp_sl P (zp_lo q (zp_up L P (zp_lo q))) ≠ 0 := hu.2
  have hto : zp_up L P (zp_lo q) < zp_to L P (zp_lo q) re c := by unfold zp_to; omega
  have hto2 := (zp_to_le L P (zp_lo q) re c).2
  show 0 < zq_S 8 (fun k => zq_S (zp_to L P (zp_lo q) re c - zp_up L P (zp_lo q)) (fun i => P (8 * zp_lo q (zp_up L P (zp_lo q) + i) + k)))
  rw [zq_S_swap]
  have hb : ∀ j, j < zp_to L P (zp_lo q) re c - zp_up L P (zp_lo q) → 0 ≤ zq_S 8 (fun k => P (8 * zp_lo q (zp_up L P (zp_lo q) + j) + k)) := fun j hj =>
    zq_S_nn (fun k hk => (hP.1 _ (by have := ho (zp_up L P (zp_lo q) + j) (by omega); omega)).1)
  have h1 := zq_S_one hb (show 0 < zp_to L P (zp_lo q) re c - zp_up L P (zp_lo q) by omega)
  have h0 := hb 0 (by omega)
  have e0 : zq_S 8 (fun k => P (8 * zp_lo q (zp_up L P (zp_lo q) + 0) + k)) = zp_sl P (zp_lo q (zp_up L P (zp_lo q))) := rfl
  rw [e0] at h1 h0
  omega
theorem s_58 {o : Nat → Nat} {a b : Nat} (ha : a < 5) (hb : b < 5) (h133 : ∀ p : Nat, p < 5 → h 133 p = o p) : zu (zc 58 [zm_A 132, zm_I a, zm_I b] h) (fun g => zq_F (fun a _ => a = 133) h g ∧ ∀ p : Nat, p < 5 → g 133 p = zp_sw o a b p) := by
  refine zt_l e_58 (zt_c (by omega) (zt_c (by omega) (zt_c (by omega) (zt_c (by omega) (zu_e ⟨zq_F_tr (zq_F_wr rfl) (zq_F_wr rfl), fun p hp => ?_⟩)))))
  unfold zp_sw
  by_cases h1 : p = b
  · rw [if_pos h1, h1, zq_wr_e, h133 a ha]
  · rw [if_neg h1, zq_wr_i (show (p : Int) ≠ b by omega)]
    by_cases h2 : p = a
    · rw [if_pos h2, h2, zq_wr_e, h133 b hb]
    · rw [if_neg h2, zq_wr_i (show (p : Int) ≠ a by omega), h133 p hp]
theorem s_57 {o : Nat → Nat} (hL : 1 ≤ L ∧ L ≤ 5) (h133 : ∀ p : Nat, p < 5 → h 133 p = o p) : zi (zc 57 [zm_A 132, zm_I L] h) (fun z g => zq_F (fun a _ => a = 133) h g ∧ ((z = 0 ∧ zp_nxt L o = none) ∨ (z = 1 ∧ ∃ o2, zp_nxt L o = some o2 ∧ ∀ p : Nat, p < 5 → g 133 p = o2 p))) := by
  -- turn the tail round
  have turn : ∀ (n : Nat) (o : Nat → Nat) (x y : Nat) (g : zm_H) (w1 w2 w3 : zm_V), zm_cat w3 ≠ 2 → y ≤ x + n → 1 ≤ x → y < 5 → (∀ p : Nat, p < 5 → g 133 p = o p) → zi (zr none 2 57 99 [zm_A 132, w1, w2, w3, zm_I x, zm_I y] [] g) (fun z k => z = 1 ∧ zq_F (fun a _ => a = 133) g k ∧ ∀ p : Nat, p < 5 → k 133 p = zp_n3 n o x y p) := by
    intro n
    induction n with
    | zero =>
      intro o x y g w1 w2 w3 hw3 hyx hx hy hg
      exact zt_l (e_57_99 hw3) (zt_f (by omega) (zt_c (Or.inr rfl) (zi_e ⟨rfl, zq_F_rf, hg⟩)))
    | succ n ih =>
      intro o x y g w1 w2 w3 hw3 hyx hx hy hg
      unfold zp_n3
      refine zt_l (e_57_99 hw3) (zt_p (fun q => ?_) (fun q => zt_c (Or.inr rfl) (zi_e ⟨rfl, zq_F_rf, ?_⟩)))
      · rw [if_pos (show x < y by omega)]
        refine zt_V (s_58 (by omega) hy hg) ?_
        rintro g2 ⟨f2, h2⟩
        rw [show (x : Int) + 1 = ((x + 1 : Nat) : Int) by omega, show (y : Int) + -1 = ((y - 1 : Nat) : Int) by omega]
        refine zt_c (by omega) (zt_c (by omega) (zi_m (ih (zp_sw o x y) (x + 1) (y - 1) g2 w1 w2 w3 hw3 (by omega) (by omega) (by omega) h2) (fun z k r => ⟨r.1, zq_F_tr f2 r.2.1, r.2.2⟩)))
      · rw [if_neg (show ¬ x < y by omega)]; exact hg
  -- the least that is greater
  have find : ∀ (m i j q : Nat) (w5 : zm_V), i + m = L → q < L → j < L → zi (zr none 2 57 52 [zm_A 132, zm_I L, zm_I q, zm_I j, zm_I i, w5] [] h) (fun z g => z = 1 ∧ zq_F (fun a _ => a = 133) h g ∧ ∀ p : Nat, p < 5 → g 133 p = zp_n3 L (zp_sw o q (zp_n2 o q m i j)) (q + 1) (L - 1) p) := by
    intro m
    induction m with
    | zero =>
      intro i j q w5 hi hq hj
      refine zt_l e_57_52 (zt_f (by omega) (zt_V (s_58 (by omega) (by omega) h133) ?_))
      rintro g2 ⟨f2, h2⟩
      rw [show (q : Int) + 1 = ((q + 1 : Nat) : Int) by omega, show (L : Int) - 1 = ((L - 1 : Nat) : Int) by omega]
      refine zt_c (by omega) (zt_c (by omega) (zi_m (turn L (zp_sw o q j) (q + 1) (L - 1) g2 _ _ _ (zm_cat_I _) (by omega) (by omega) (by omega) h2) (fun z k r => ⟨r.1, zq_F_tr f2 r.2.1, r.2.2⟩)))
    | succ m ih =>
      intro i j q w5 hi hq hj
      unfold zp_n2
      refine zt_l e_57_52 ?_
      rw [h133 i (by omega), h133 q (by omega), show (i : Int) + 1 = ((i + 1 : Nat) : Int) by omega]
      refine zt_t (by omega) (zt_c (by omega) (zt_c (by omega) (zt_p (fun r => zt_c (by omega) ?_) (fun r => zt_c (by omega) ?_))))
      · rw [if_pos (show o i ≤ o q by omega)]
        exact ih (i + 1) j q w5 (by omega) hq hj
      · rw [if_neg (show ¬ o i ≤ o q by omega)]
        exact ih (i + 1) i q w5 (by omega) hq (by omega)
  have asc : ∀ (m i bb : Nat) (x2 : Int) (w4 w5 : zm_V), i + m + 1 = L → x2 = bb - 1 → bb < L → zi (zr none 2 57 4 [zm_A 132, zm_I L, zm_I x2, zm_I i, w4, w5] [] h) (fun z g => zq_F (fun a _ => a = 133) h g ∧ ((z = 0 ∧ zp_n1 o m i bb = 0) ∨ (z = 1 ∧ zp_n1 o m i bb ≠ 0 ∧ ∀ p : Nat, p < 5 → g 133 p = zp_n3 L (zp_sw o (zp_n1 o m i bb - 1) (zp_n2 o (zp_n1 o m i bb - 1) (L - zp_n1 o m i bb) (zp_n1 o m i bb) (zp_n1 o m i bb))) (zp_n1 o m i bb) (L - 1) p))) := by
    intro m
    induction m with
    | zero =>
      intro i bb x2 w4 w5 hi hx hbb
      refine zt_l e_57_4 (zt_c (by omega) (zt_f (by omega) (zt_p (fun q => zt_c (Or.inl rfl) (zi_e ⟨zq_F_rf, Or.inl ⟨rfl, show bb = 0 by omega⟩⟩)) (fun q => ?_))))
      obtain ⟨q', rfl⟩ : ∃ q', bb = q' + 1 := ⟨bb - 1, by omega⟩
      obtain rfl : x2 = q' := by omega
      rw [show (q' : Int) + 1 = ((q' + 1 : Nat) : Int) by omega]
      refine zt_c (by omega) (zt_c (by omega) (zi_m (find (L - (q' + 1)) (q' + 1) (q' + 1) q' w5 (by omega) (by omega) hbb) (fun z g r => ⟨r.2.1, Or.inr ⟨r.1, show q' + 1 ≠ 0 by omega, r.2.2⟩⟩)))
    | succ m ih =>
      intro i bb x2 w4 w5 hi hx hbb
      unfold zp_n1
      refine zt_l e_57_4 ?_
      rw [show (i : Int) + 1 = ((i + 1 : Nat) : Int) by omega, h133 i (by omega), h133 (i + 1) (by omega)]
      refine zt_c (by omega) (zt_t (by omega) (zt_c (by omega) (zt_c (by omega) (zt_c (by omega) (zt_p (fun r => zt_c (by omega) ?_) (fun r => zt_c (by omega) ?_))))))
      · rw [if_pos (show o i < o (i + 1) by omega)]
        exact ih (i + 1) (i + 1) i w4 w5 (by omega) (by omega) (by omega)
      · rw [if_neg (show ¬ o i < o (i + 1) by omega)]
        exact ih (i + 1) bb x2 w4 w5 (by omega) hx hbb
  refine zt_l e_57 (zi_m (asc (L - 1) 0 0 (-1) _ _ (by omega) (by omega) (by omega)) (fun z g r => ⟨r.1, ?_⟩))
  unfold zp_nxt
  rcases r.2 with ⟨h1, h2⟩ | ⟨h1, h2, h3⟩
  · exact Or.inl ⟨h1, if_pos h2⟩
  · exact Or.inr ⟨h1, _, if_neg h2, h3⟩
end
