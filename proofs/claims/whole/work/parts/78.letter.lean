/-! NAMES AND THEIR LETTERS -/
def zp_p5 : List Nat → Nat
  | [] => 0
  | a :: l => a + 32 * zp_p5 l
def zp_q8 : List Nat → Nat
  | [] => 0
  | a :: l => a + 96 + 256 * zp_q8 l
def zp_nm (l : List Nat) : Prop := l.length ≤ 6 ∧ ∀ a, a ∈ l → 1 ≤ a ∧ a ≤ 26
def zv_Nn (K C : Nat) (nk nc : Nat → List Nat) : Prop := (∀ k, k < K → zp_nm (nk k)) ∧ ∀ c, c < C → zp_nm (nc c)
def zv_Nc (h : zm_H) (t K C : Nat) (nk nc : Nat → List Nat) : Prop := (∀ k : Nat, k < K → h (t + 1) k = zp_p5 (nk k)) ∧ ∀ c : Nat, c < C → h (t + 5) c = zp_p5 (nc c)
def zv_Nd (h : zm_H) (b K C : Nat) (nk nc : Nat → List Nat) : Prop := (∀ k : Nat, k < K → ∀ j : Int, j = 8 * b + k → h 165 j = zp_q8 (nk k).reverse) ∧ ∀ c : Nat, c < C → ∀ j : Int, j = 8 * b + c → h 166 j = zp_q8 (nc c).reverse
def zp_ltr (K C : Nat) (nk nc : Nat → List Nat) (x y i : Int) : Int :=
  if ¬ (0 ≤ i ∧ i ≤ 5) then -1 else if x = 0 then (if 0 ≤ y ∧ y < K then (((nk y.toNat).getD i.toNat 0 : Nat) : Int) else -1) else if x = 1 then (if 0 ≤ y ∧ y < C then (((nc y.toNat).getD i.toNat 0 : Nat) : Int) else -1) else -1
theorem zp_p5_d : ∀ (l : List Nat) (i : Nat), (∀ a, a ∈ l → a ≤ 26) → zp_p5 l / 32 ^ i % 32 = l.getD i 0 := by
  intro l
  induction l with
  | nil => intro i _; unfold zp_p5; simp
  | cons a l ih =>
    intro i h
    have ha := h a List.mem_cons_self
    have hl := fun b hb => h b (List.mem_cons_of_mem a hb)
    unfold zp_p5
    cases i with
    | zero => simp; omega
    | succ i =>
      have e : (a + 32 * zp_p5 l) / 32 ^ (i + 1) = zp_p5 l / 32 ^ i := by
        rw [Nat.pow_succ', ← Nat.div_div_eq_div_mul, show (a + 32 * zp_p5 l) / 32 = zp_p5 l by omega]
      rw [e, ih i hl]; rfl
theorem zp_p5_b : ∀ (l : List Nat), (∀ a, a ∈ l → a ≤ 26) → zp_p5 l < 32 ^ l.length := by
  intro l
  induction l with
  | nil => intro _; decide
  | cons a l ih =>
    intro h
    have ha := h a List.mem_cons_self
    have := ih (fun b hb => h b (List.mem_cons_of_mem a hb))
    unfold zp_p5
    rw [List.length_cons, Nat.pow_succ]
    omega
theorem zp_p5_30 {l : List Nat} (h : zp_nm l) : zp_p5 l < 1073741824 := by
  have h1 := zp_p5_b l (fun a ha => (h.2 a ha).2)
  have h2 : 32 ^ l.length ≤ 32 ^ 6 := Nat.pow_le_pow_right (by decide) h.1
  have h3 : (32 : Nat) ^ 6 = 1073741824 := by decide
  omega
theorem zp_q8_d : ∀ (l : List Nat) (i : Nat), (∀ a, a ∈ l → a ≤ 26) → i < l.length → zp_q8 l / 256 ^ i % 256 = l.getD i 0 + 96 := by
  intro l
  induction l with
  | nil => intro i _ hi; exact absurd hi (Nat.not_lt_zero _)
  | cons a l ih =>
    intro i h hi
    have ha := h a List.mem_cons_self
    have hl := fun b hb => h b (List.mem_cons_of_mem a hb)
    unfold zp_q8
    cases i with
    | zero => simp; omega
    | succ i =>
      have e : (a + 96 + 256 * zp_q8 l) / 256 ^ (i + 1) = zp_q8 l / 256 ^ i := by
        rw [Nat.pow_succ', ← Nat.div_div_eq_div_mul, show (a + 96 + 256 * zp_q8 l) / 256 = zp_q8 l by omega]
      rw [List.length_cons] at hi
      rw [e, ih i hl (by omega)]; rfl
theorem zp_q8_b : ∀ (l : List Nat), (∀ a, a ∈ l → a ≤ 26) → zp_q8 l < 256 ^ l.length := by
  intro l
  induction l with
  | nil => intro _; decide
  | cons a l ih =>
    intro h
    have ha := h a List.mem_cons_self
    have := ih (fun b hb => h b (List.mem_cons_of_mem a hb))
    unfold zp_q8
    rw [List.length_cons, Nat.pow_succ]
    omega
theorem zp_q8_48 {l : List Nat} (h : zp_nm l) : zp_q8 l < 281474976710656 := by
  have h1 := zp_q8_b l (fun a ha => (h.2 a ha).2)
  have h2 : 256 ^ l.length ≤ 256 ^ 6 := Nat.pow_le_pow_right (by decide) h.1
  have h3 : (256 : Nat) ^ 6 = 281474976710656 := by decide
  omega
theorem zp_p5_inj : ∀ (l m : List Nat), (∀ a, a ∈ l → 1 ≤ a ∧ a ≤ 26) → (∀ a, a ∈ m → 1 ≤ a ∧ a ≤ 26) → zp_p5 l = zp_p5 m → l = m := by
  intro l
  induction l with
  | nil =>
    intro m _ hm h
    cases m with
    | nil => rfl
    | cons b m => have := hm b List.mem_cons_self; unfold zp_p5 at h; omega
  | cons a l ih =>
    intro m hl hm h
    have ha := hl a List.mem_cons_self
    cases m with
    | nil => unfold zp_p5 at h; omega
    | cons b m =>
      have hb := hm b List.mem_cons_self
      unfold zp_p5 at h
      have e1 : a = b := by omega
      have e2 : l = m := ih m (fun c hc => hl c (List.mem_cons_of_mem a hc)) (fun c hc => hm c (List.mem_cons_of_mem b hc)) (by omega)
      rw [e1, e2]
theorem zp_q8_inj : ∀ (l m : List Nat), (∀ a, a ∈ l → 1 ≤ a ∧ a ≤ 26) → (∀ a, a ∈ m → 1 ≤ a ∧ a ≤ 26) → zp_q8 l = zp_q8 m → l = m := by
  intro l
  induction l with
  | nil =>
    intro m _ hm h
    cases m with
    | nil => rfl
    | cons b m => unfold zp_q8 at h; omega
  | cons a l ih =>
    intro m hl hm h
    have ha := hl a List.mem_cons_self
    cases m with
    | nil => unfold zp_q8 at h; omega
    | cons b m =>
      have hb := hm b List.mem_cons_self
      unfold zp_q8 at h
      have e1 : a = b := by omega
      have e2 : l = m := ih m (fun c hc => hl c (List.mem_cons_of_mem a hc)) (fun c hc => hm c (List.mem_cons_of_mem b hc)) (by omega)
      rw [e1, e2]
theorem zp_nm_r {l : List Nat} (h : zp_nm l) : zp_nm l.reverse := ⟨by rw [List.length_reverse]; exact h.1, fun a ha => h.2 a (List.mem_reverse.mp ha)⟩
/-- a name is the same to both sides -/
theorem zp_same_nm {l m : List Nat} (hl : zp_nm l) (hm : zp_nm m) : zp_p5 l = zp_p5 m ↔ zp_q8 l.reverse = zp_q8 m.reverse := by
  constructor
  · intro h; rw [zp_p5_inj l m hl.2 hm.2 h]
  · intro h
    have := zp_q8_inj _ _ (zp_nm_r hl).2 (zp_nm_r hm).2 h
    rw [List.reverse_inj.mp this]
section
variable {h : zm_H} {t b K L C : Nat} {wo sz re fe ru : Nat → Int} {lk : Nat → Nat → Int} {P Pu Qu Hd : Nat → Int} {hr dp : Int} {nk nc : Nat → List Nat}
theorem zp_c5 {l : List Nat} (hl : zp_nm l) {i : Nat} (hi : i < 6) : zb_iand (zb_ishr (zp_p5 l : Nat) (5 * (i : Int))) 31 = (l.getD i 0 : Nat) := by
  have hb := zp_p5_30 hl
  have e5 : (5 : Int) * (i : Int) = ((5 * i : Nat) : Int) := by omega
  have ep : (2 : Nat) ^ (5 * i) = 32 ^ i := by rw [Nat.pow_mul]
  rw [e5, zb_shr (show zm_i32 ((zp_p5 l : Nat) : Int) by omega) (by omega), zb_31, ep, ← zp_p5_d l i (fun a ha => (hl.2 a ha).2)]
  rw [Int.natCast_emod, Int.natCast_ediv]; rfl
theorem s_10 (hC : zv_C h t K L C wo sz re fe ru lk P Pu Hd hr dp) (hB : zv_B K L C wo sz re fe ru lk) (hN : zv_Nc h t K C nk nc) (hNn : zv_Nn K C nk nc) (x y i : Int) : zi (zc 10 [zm_A 4, zm_I x, zm_I y, zm_I i] h) (fun z g => z = zp_ltr K C nk nc x y i ∧ g = h) := by
  have hK8 := hB.1
  have hC8 := hB.2.2.1
  have ht := hC.2.1.1
  refine zt_l (e_10 ht) (zt_p (fun q => zi_e ⟨by unfold zp_ltr; rw [if_pos (by omega)], rfl⟩) (fun q => zt_p (fun q6 => ?_) (fun q6 => zi_e ⟨by unfold zp_ltr; rw [if_pos (by omega)], rfl⟩)))
  obtain ⟨j, rfl⟩ := Int.eq_ofNat_of_zero_le (show 0 ≤ i by omega)
  have hj : j < 6 := by omega
  unfold zp_ltr
  rw [if_neg (show ¬ ¬ (0 ≤ (j : Int) ∧ (j : Int) ≤ 5) by omega)]
  have on : x ≠ 0 → ∀ w4 : zm_V, zi (zr none 2 10 38 [zm_A 4, zm_I x, zm_I y, zm_I j, w4] [] h) (fun z g => z = (if x = 1 then (if 0 ≤ y ∧ y < C then (((nc y.toNat).getD (j : Int).toNat 0 : Nat) : Int) else -1) else -1) ∧ g = h) := by
    intro hx w4
    refine zt_l (e_10_38 ht) (zt_p (fun q1 => ?_) (fun q1 => zi_e ⟨by rw [if_neg q1], rfl⟩))
    rw [if_pos q1]
    refine zt_I (s_12 hC y) ?_
    rintro z g ⟨rfl, rfl⟩
    by_cases hy : 0 ≤ y ∧ y < C
    · rw [if_pos hy, if_pos hy]
      obtain ⟨c, rfl⟩ := Int.eq_ofNat_of_zero_le hy.1
      have hc : c < C := by omega
      refine zt_f (by decide) (zt_c hC.1 (zt_c (by omega) (zt_c (by omega) (zi_e ⟨?_, rfl⟩))))
      rw [hN.2 c hc]; exact zp_c5 (hNn.2 c hc) hj
    · rw [if_neg hy, if_neg hy]
      exact zt_t rfl (zi_e ⟨rfl, rfl⟩)
  refine zt_p (fun q0 => ?_) (fun q0 => ?_)
  · rw [if_pos q0]
    refine zt_I (s_11 hC y) ?_
    rintro z g ⟨rfl, rfl⟩
    by_cases hy : 0 ≤ y ∧ y < K
    · rw [if_pos hy, if_pos hy]
      obtain ⟨k, rfl⟩ := Int.eq_ofNat_of_zero_le hy.1
      have hk : k < K := by omega
      refine zt_f (by decide) (zt_c hC.1 (zt_c (by omega) (zt_c (by omega) (zi_e ⟨?_, rfl⟩))))
      rw [hN.1 k hk]; exact zp_c5 (hNn.1 k hk) hj
    · rw [if_neg hy, if_neg hy]
      exact zt_t rfl (zt_l (e_10_38 ht) (zt_f (by omega) (zi_e ⟨rfl, rfl⟩)))
  · rw [if_neg q0]
    exact on q0 _
theorem s_216_58 {l : List Nat} (hl : zp_nm l) {i : Nat} (hi : i < 6) {w0 w1 w2 : zm_V} : zi (zr none 2 216 58 [w0, w1, w2, zm_I i, zm_L (zp_q8 l.reverse : Nat), zm_U, zm_I 0, zm_L (zp_q8 l.reverse : Nat), zm_U] [] h) (fun z g => z = (l.getD i 0 : Nat) ∧ g = h) := by
  have hr := zp_nm_r hl
  have hb := zp_q8_48 hr
  have hlen : l.reverse.length = l.length := List.length_reverse
  have key : ∀ (r : List Nat) (j : Nat), j + r.length = l.length → zp_q8 r < 281474976710656 → (∀ a, a ∈ r → a ≤ 26) → zi (zr none 2 216 58 [w0, w1, w2, zm_I i, zm_L (zp_q8 l.reverse : Nat), zm_U, zm_I j, zm_L (zp_q8 r : Nat), zm_U] [] h) (fun z g => z = (l.getD i 0 : Nat) ∧ g = h) := by
    intro r
    induction r with
    | nil =>
      intro j hj _ _
      have hj' : j = l.length := hj
      have e0 : zp_q8 [] = 0 := rfl
      refine zt_l e_216_58 (zt_t (by rw [e0]; decide) (zt_p (fun q => ?_) (fun q => zi_e ⟨?_, rfl⟩)))
      · obtain ⟨d, hd⟩ : ∃ d : Nat, d = j - 1 - i := ⟨_, rfl⟩
        have hd6 : d < 6 := by have := hl.1; omega
        have ed : (j : Int) - 1 - (i : Int) = (d : Int) := by omega
        have e8 : (8 : Int) * (d : Int) = ((8 * d : Nat) : Int) := by omega
        have ep : (2 : Nat) ^ (8 * d) = 256 ^ d := by rw [Nat.pow_mul]
        have hdig := zp_q8_d l.reverse d (fun a ha => (hr.2 a ha).2) (by omega)
        have hrev : l.reverse.getD d 0 = l.getD i 0 := by
          rw [List.getD_eq_getElem?_getD, List.getD_eq_getElem?_getD, List.getElem?_reverse (by omega), show l.length - 1 - d = i by omega]
        have hle : l.getD i 0 ≤ 26 := by
          have hil : i < l.length := by omega
          have : l.getD i 0 = l[i] := by simp [hil]
          rw [this]; exact (hl.2 _ (List.getElem_mem hil)).2
        have ev : zb_land (zb_lshr (zp_q8 l.reverse : Nat) (8 * ((j : Int) - 1 - (i : Int)))) 255 = ((l.getD i 0 + 96 : Nat) : Int) := by
          rw [ed, e8, zb_lsr (show zm_i64 ((zp_q8 l.reverse : Nat) : Int) by omega) (by omega), zb_l8, ep, ← hrev, ← hdig]
          rw [Int.natCast_emod, Int.natCast_ediv]; rfl
        rw [ev]
        exact zt_c (by omega) (zt_c (by omega) (zt_c (by omega) (zt_c (by omega) (zt_c (by omega) (zt_c (by omega) (zi_e ⟨by omega, rfl⟩))))))
      · rw [List.getD_eq_getElem?_getD, List.getElem?_eq_none (by omega)]; rfl
    | cons a r ih =>
      intro j hj hq ha
      have hj' : j + (r.length + 1) = l.length := hj
      have e1 : zp_q8 (a :: r) = a + 96 + 256 * zp_q8 r := rfl
      have hsh : zb_lshr (zp_q8 (a :: r) : Nat) 8 = ((zp_q8 (a :: r) / 256 : Nat) : Int) := by
        have := zb_lsr (x := (zp_q8 (a :: r) : Nat)) (s := 8) (by omega) (by decide)
        exact this
      have ha1 := ha a List.mem_cons_self
      have hdv : zp_q8 (a :: r) / 256 = zp_q8 r := by omega
      have hsg : (if ((zp_q8 (a :: r) : Nat) : Int) < 0 then (-1 : Int) else if ((zp_q8 (a :: r) : Nat) : Int) = 0 then 0 else 1) = 1 := by
        rw [if_neg (by omega), if_neg (by omega)]
      refine zt_l e_216_58 ?_
      rw [hsg, hsh, hdv, show (j : Int) + 1 = ((j + 1 : Nat) : Int) by omega]
      have hl6 := hl.1
      exact zt_f (by decide) (zt_c (by omega) (ih (j + 1) (by omega) (by omega) (fun b hb => ha b (List.mem_cons_of_mem a hb))))
  exact key l.reverse 0 (by omega) hb (fun a ha => (hr.2 a ha).2)
theorem s_216 (hD : zv_D h b K L C wo sz re fe ru lk P Qu Hd hr dp) (hB : zv_B K L C wo sz re fe ru lk) (hN : zv_Nd h b K C nk nc) (hNn : zv_Nn K C nk nc) (x y i : Int) : zi (zc 216 [zm_A 146, zm_I x, zm_I y, zm_I i] h) (fun z g => z = zp_ltr K C nk nc x y i ∧ g = h) := by
  have hK8 := hB.1
  have hC8 := hB.2.2.1
  have hb := hD.1.1
  refine zt_l e_216 (zt_I (s_175 x 0 1) ?_)
  rintro z g ⟨rfl, rfl⟩
  by_cases hx : 0 ≤ x ∧ x ≤ 1
  · rw [if_pos hx, hD.1.2.1]
    refine zt_f (by decide) ?_
    have cont : ∀ (n : Nat) (nn : Nat → List Nat) (e : Int), e = n → n ≤ 8 → (∀ k, k < n → zp_nm (nn k)) → (∀ k : Nat, k < n → zj (zc 172 [zm_A 146, zm_I b, zm_I x, zm_I k] g) (fun z g' => z = (zp_q8 (nn k).reverse : Nat) ∧ g' = g)) → zt (zm_ck (zm_i32 (e - 1)) (zk_I (zc 175 [zm_I y, zm_I 0, zm_I (e - 1)] g) (fun v5 h6 => if v5 = 0 then (some (zm_I (-1), h6)) else (zk_I (zc 175 [zm_I i, zm_I 0, zm_I 5] h6) (fun v7 h8 => if v7 = 0 then (some (zm_I (-1), h8)) else (zk_L (zc 172 [zm_A 146, zm_I (h8 146 13), zm_I x, zm_I y] h8) (fun v9 h10 => zr none 2 216 58 [zm_A 146, zm_I x, zm_I y, zm_I i, zm_L v9, zm_U, zm_I 0, zm_L v9, zm_U] [] h10))))))) (fun v g' => ∃ z, v = zm_I z ∧ (fun z g' => z = (if ¬ (0 ≤ i ∧ i ≤ 5) then (-1 : Int) else if 0 ≤ y ∧ y < n then (((nn y.toNat).getD i.toNat 0 : Nat) : Int) else -1) ∧ g' = g) z g') := by
      intro n nn e he hn8 hnm h172
      subst he
      refine zt_c (by omega) (zt_I (s_175 y 0 _) ?_)
      rintro z g2 ⟨rfl, rfl⟩
      by_cases hy : 0 ≤ y ∧ y ≤ (n : Int) - 1
      · rw [if_pos hy]
        refine zt_f (by decide) (zt_I (s_175 i 0 5) ?_)
        rintro z g2 ⟨rfl, rfl⟩
        by_cases hi : 0 ≤ i ∧ i ≤ 5
        · rw [if_pos hi, if_neg (show ¬ ¬ (0 ≤ i ∧ i ≤ 5) by omega), if_pos (show 0 ≤ y ∧ y < (n : Int) by omega)]
          obtain ⟨k, rfl⟩ := Int.eq_ofNat_of_zero_le hy.1
          obtain ⟨j, rfl⟩ := Int.eq_ofNat_of_zero_le hi.1
          rw [hD.1.2.1]
          refine zt_f (by decide) (zt_L (h172 k (by omega)) ?_)
          rintro z g2 ⟨rfl, rfl⟩
          exact s_216_58 (hnm k (by omega)) (by omega)
        · rw [if_neg hi, if_pos hi]
          exact zt_t rfl (zi_e ⟨rfl, rfl⟩)
      · rw [if_neg hy]
        refine zt_t rfl (zi_e ⟨?_, rfl⟩)
        rw [if_neg (show ¬ (0 ≤ y ∧ y < (n : Int)) by omega)]
        split <;> rfl
    by_cases hx0 : x = 0
    · subst hx0
      refine zt_I (Q1 := fun z g' => z = K ∧ g' = g) (zt_l e_171 (zt_t rfl (zt_c (by omega) (zi_e ⟨hD.1.2.2.1, rfl⟩)))) ?_
      rintro z g2 ⟨rfl, rfl⟩
      refine zi_m (cont K nk _ rfl hK8 hNn.1 (fun k hk => zt_l e_172 (zt_t rfl (zt_c (by omega) (zt_c (by omega) (zt_c (by omega) (zj_e ⟨hN.1 k hk _ rfl, rfl⟩))))))) (fun z g' q => ⟨?_, q.2⟩)
      rw [q.1]; unfold zp_ltr
      by_cases hi : 0 ≤ i ∧ i ≤ 5
      · rw [if_neg (show ¬ ¬ (0 ≤ i ∧ i ≤ 5) by omega), if_neg (show ¬ ¬ (0 ≤ i ∧ i ≤ 5) by omega), if_pos rfl]
      · rw [if_pos hi, if_pos hi]
    · obtain rfl : x = 1 := by omega
      refine zt_I (Q1 := fun z g' => z = C ∧ g' = g) (zt_l e_171 (zt_f (by decide) (zt_c (by omega) (zi_e ⟨hD.1.2.2.2.2.1, rfl⟩)))) ?_
      rintro z g2 ⟨rfl, rfl⟩
      refine zi_m (cont C nc _ rfl hC8 hNn.2 (fun k hk => zt_l e_172 (zt_f (by decide) (zt_c (by omega) (zt_c (by omega) (zt_c (by omega) (zj_e ⟨hN.2 k hk _ rfl, rfl⟩))))))) (fun z g' q => ⟨?_, q.2⟩)
      rw [q.1]; unfold zp_ltr
      by_cases hi : 0 ≤ i ∧ i ≤ 5
      · rw [if_neg (show ¬ ¬ (0 ≤ i ∧ i ≤ 5) by omega), if_neg (show ¬ ¬ (0 ≤ i ∧ i ≤ 5) by omega), if_neg (show ¬ (1 : Int) = 0 by decide), if_pos rfl]
      · rw [if_pos hi, if_pos hi]
  · rw [if_neg hx]
    refine zt_t rfl (zi_e ⟨?_, rfl⟩)
    unfold zp_ltr
    rw [if_neg (show ¬ x = 0 by omega), if_neg (show ¬ x = 1 by omega)]
    split <;> rfl
end
