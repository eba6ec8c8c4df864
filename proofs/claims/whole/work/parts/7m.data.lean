/-! STATEMENTS: what is told stays within its bounds -/
section
variable {h g : zm_H} {T : Nat → Int} {n p p' b pf K L C cf ct qf qt : Nat} {gl g' : Bool} {wo sz re fe ru : Nat → Int} {lk : Nat → Nat → Int} {nk nc : Nat → List Nat} {F F0 : Nat → Int} {pu : Int} {l : List Int} {q : Nat × Bool} {o : zw_S}
theorem zw_PD_kind (hP : zw_PD K L C wo sz re fe ru lk nk nc F pu l cf ct qf qt p) (hK : K < 8) {W S : Int} (hW : 0 ≤ W ∧ W ≤ 99) (hS : 1 ≤ S ∧ S ≤ 9) {s : List Nat} (hs : zp_nm s) (hp : p ≤ p') : zw_PD (K + 1) L C (zp_set wo K W) (zp_set sz K S) re fe ru (zw_lkK lk K W) (zw_upd nk K s) nc F pu l cf ct qf qt p' := by
  obtain ⟨⟨b1, b2, b3, b4, b5, b6⟩, ⟨n1, n2⟩, f1, f2, p1, l1, r⟩ := hP
  refine ⟨⟨by omega, b2, b3, fun k hk => ?_, b5, fun c k hc hk => ?_⟩, ⟨fun k hk => ?_, n2⟩, f1, fun i hi hq => f2 i hi (by omega), p1, by omega, r⟩
  · unfold zp_set
    by_cases e : k = K
    · rw [if_pos e, if_pos e]; omega
    · rw [if_neg e, if_neg e]; exact b4 k (by omega)
  · unfold zw_lkK
    by_cases e : k = K
    · rw [if_pos e]; exact hW
    · rw [if_neg e]; exact b6 c k hc (by omega)
  · unfold zw_upd
    by_cases e : k = K
    · rw [if_pos e]; exact hs
    · rw [if_neg e]; exact n1 k (by omega)
theorem zw_PD_child (hP : zw_PD K L C wo sz re fe ru lk nk nc F pu l cf ct qf qt p) (hC : C < 8) {R E U : Int} (hR : 1 ≤ R ∧ R ≤ 5) (hE : 0 ≤ E ∧ E ≤ 3) (hU : 0 ≤ U ∧ U ≤ 3) {s : List Nat} (hs : zp_nm s) (hp : p ≤ p') : zw_PD K L (C + 1) wo sz (zp_set re C R) (zp_set fe C E) (zp_set ru C U) (zw_lkC lk C wo) nk (zw_upd nc C s) F pu l cf ct qf qt p' := by
  obtain ⟨⟨b1, b2, b3, b4, b5, b6⟩, ⟨n1, n2⟩, f1, f2, p1, l1, r⟩ := hP
  refine ⟨⟨b1, b2, by omega, b4, fun c hc => ?_, fun c k hc hk => ?_⟩, ⟨n1, fun c hc => ?_⟩, f1, f2, p1, by omega, r⟩
  · unfold zp_set
    by_cases e : c = C
    · rw [if_pos e, if_pos e, if_pos e]; omega
    · rw [if_neg e, if_neg e, if_neg e]; exact b5 c (by omega)
  · unfold zw_lkC
    by_cases e : c = C
    · rw [if_pos e]; have := b4 k hk; omega
    · rw [if_neg e]; exact b6 c k (by omega) hk
  · unfold zw_upd
    by_cases e : c = C
    · rw [if_pos e]; exact hs
    · rw [if_neg e]; exact n2 c (by omega)
theorem zw_PD_li (hP : zw_PD K L C wo sz re fe ru lk nk nc F pu l cf ct qf qt p) {c0 k0 : Nat} {v : Int} (hv : 0 ≤ v ∧ v ≤ 99) (hp : p ≤ p') : zw_PD K L C wo sz re fe ru (zw_lk1 lk c0 k0 v) nk nc F pu l cf ct qf qt p' := by
  obtain ⟨⟨b1, b2, b3, b4, b5, b6⟩, n, f1, f2, p1, l1, r⟩ := hP
  refine ⟨⟨b1, b2, b3, b4, b5, fun c k hc hk => ?_⟩, n, f1, f2, p1, by omega, r⟩
  unfold zw_lk1
  split
  · exact hv
  · exact b6 c k hc hk
theorem zw_PD_pu (hP : zw_PD K L C wo sz re fe ru lk nk nc F pu l cf ct qf qt p) {v : Int} (hv : 0 ≤ v ∧ v ≤ 999) (hp : p ≤ p') : zw_PD K L C wo sz re fe ru lk nk nc F v l cf ct qf qt p' := by
  obtain ⟨B, n, f1, f2, p1, l1, r⟩ := hP
  exact ⟨B, n, f1, f2, hv, by omega, r⟩
theorem zw_cut {l w : List Int} {a c : Nat} (h : c ≤ l.length) (ha : a ≤ c) : ((l ++ w).drop a).take (c - a) = (l.drop a).take (c - a) := by
  rw [List.drop_append_of_le_length (by omega), List.take_append_of_le_length (by rw [List.length_drop]; omega)]
theorem zw_cut2 {l w : List Int} : ((l ++ w).drop l.length).take ((l ++ w).length - l.length) = w := by
  rw [List.drop_left, List.length_append, Nat.add_sub_cancel_left, List.take_length]
theorem zw_PD_co (hP : zw_PD K L C wo sz re fe ru lk nk nc F pu l cf ct qf qt p) {l' : List Int} {p1 : Nat} (hp : p < p1) (hp1 : p1 ≤ n) (e : zw_oc T n p1 gl l = .inr (p', g', l')) : zw_PD K L C wo sz re fe ru lk nk nc F pu l' l.length l'.length qf qt p' := by
  obtain ⟨B, nn, f1, f2, pb, l1, r1, r2, r3⟩ := hP
  have le := zw_le (lv := 5) (Or.inl rfl) hp1 e
  obtain ⟨ps, w, ew, hw⟩ := zw_pos (lv := 5) (Or.inl rfl) e
  subst ew
  rw [List.length_append] at ps le
  refine ⟨B, nn, f1, f2, pb, by rw [List.length_append]; omega, ⟨by rw [List.length_append]; omega, Nat.le_refl _, r1.2.2.1, by rw [List.length_append]; omega⟩, fun _ en => ?_, fun hq en => ?_⟩
  · rw [zw_cut2]
    obtain ⟨v, q⟩ := hw en [] (Nat.zero_le _)
    exact ⟨v, q⟩
  · rw [zw_cut r1.2.2.2 r1.2.2.1]; exact r3 hq en
theorem zw_PD_pt (hP : zw_PD K L C wo sz re fe ru lk nk nc F pu l cf ct qf qt p) {l' : List Int} {p1 : Nat} (hp : p < p1) (hp1 : p1 ≤ n) (e : zw_op T n p1 gl l = .inr (p', g', l')) : zw_PD K L C wo sz re fe ru lk nk nc F pu l' cf ct l.length l'.length p' := by
  obtain ⟨B, nn, f1, f2, pb, l1, r1, r2, r3⟩ := hP
  have le := zw_le (lv := 0) (Or.inr rfl) hp1 e
  obtain ⟨ps, w, ew, hw⟩ := zw_pos (lv := 0) (Or.inr rfl) e
  subst ew
  rw [List.length_append] at ps le
  refine ⟨B, nn, f1, f2, pb, by rw [List.length_append]; omega, ⟨r1.1, by rw [List.length_append]; omega, by rw [List.length_append]; omega, Nat.le_refl _⟩, fun hq en => ?_, fun _ en => ?_⟩
  · rw [zw_cut r1.2.1 r1.1]; exact r2 hq en
  · rw [zw_cut2]
    obtain ⟨v, q, q2⟩ := hw en [] (Nat.zero_le _)
    exact ⟨v, q, q2⟩
/-- how far a layer goes, and what it leaves -/
theorem zw_ly_r (hK : K ≤ 8) (hL : L < 5) : ∀ (f p : Nat) (gl : Bool) (F : Nat → Int) (p' : Nat) (g' : Bool) (F' : Nat → Int), zw_ly T n K L nk f p gl F = .inr (p', g', F') → p ≤ n → (∀ i, i < 40 → 0 ≤ F i ∧ F i ≤ 30) → (∀ i, i < 40 → (L + 1 ≤ i / 8 ∨ K ≤ i % 8) → F i = 0) → p < p' ∧ p' ≤ n ∧ (∀ i, i < 40 → 0 ≤ F' i ∧ F' i ≤ 30) ∧ ∀ i, i < 40 → (L + 1 ≤ i / 8 ∨ K ≤ i % 8) → F' i = 0 := by
  intro f
  induction f with
  | zero => intro p gl F p' g' F' e; cases e
  | succ f ih =>
    intro p gl F p' g' F' e hp h1 h2
    have e' : zw_tt (zw_pc T n K L nk F p gl) (fun p2 g2 F2 => if zy_sg T n p2 g2 59 = true then .inr (p2, g2, F2) else zw_ly T n K L nk f p2 g2 F2) = .inr (p', g', F') := e
    cases ho : zw_pc T n K L nk F p gl with
    | inl x => rw [ho] at e'; cases e'
    | inr x =>
      obtain ⟨p2, g2, F2⟩ := x
      rw [ho] at e'
      have e2 : (if zy_sg T n p2 g2 59 = true then (.inr (p2, g2, F2) : zw_T) else zw_ly T n K L nk f p2 g2 F2) = .inr (p', g', F') := e'
      obtain ⟨q1, t1, t2, k, v, hk, h0, hv, rfl⟩ := zw_pc_r ho
      have on1 := zy_en_gt (T := T) (g := gl) hp (by omega)
      have on2 := zy_en_gt (T := T) (g := zy_ng T n p gl) on1.2 (by omega)
      have F1 : ∀ i, i < 40 → 0 ≤ zp_set F (8 * L + k) v i ∧ zp_set F (8 * L + k) v i ≤ 30 := by
        intro i hi
        unfold zp_set
        split
        · omega
        · exact h1 i hi
      have F2' : ∀ i, i < 40 → (L + 1 ≤ i / 8 ∨ K ≤ i % 8) → zp_set F (8 * L + k) v i = 0 := by
        intro i hi hq
        unfold zp_set
        rw [if_neg (by omega)]
        exact h2 i hi hq
      split at e2
      · cases e2
        exact ⟨by omega, by omega, F1, F2'⟩
      · have := ih p2 g2 _ p' g' F' e2 (by omega) F1 F2'
        exact ⟨by omega, this.2⟩
theorem zw_PD_ly (hP : zw_PD K L C wo sz re fe ru lk nk nc F pu l cf ct qf qt p) (hL : L < 5) {p1 : Nat} {F' : Nat → Int} (hp : p < p1) (hp1 : p1 ≤ n) (e : zw_ly T n K L nk 9 p1 gl F = .inr (p', g', F')) : zw_PD K (L + 1) C wo sz re fe ru lk nk nc F' pu l cf ct qf qt p' ∧ p < p' ∧ p' ≤ n := by
  obtain ⟨⟨b1, b2, b3, b4, b5, b6⟩, nn, f1, f2, pb, l1, r⟩ := hP
  have R := zw_ly_r b1 hL 9 p1 gl F p' g' F' e hp1 f1 (fun i hi hq => f2 i hi (by omega))
  exact ⟨⟨⟨b1, by omega, b3, b4, b5, b6⟩, nn, R.2.2.1, R.2.2.2, pb, by omega, r⟩, by omega, R.2.1⟩
/-- going on -/
def zw_mo (T : Nat → Int) (n : Nat) (k : Nat → Bool → zw_S) : Prop := ∀ (p : Nat) (g : Bool) (p' : Nat) (g' : Bool), p ≤ n → k p g = .inr (p', g') → p ≤ p' ∧ p' ≤ n
theorem zw_mo_own {w : Int} (hw : w ≠ -1) : zw_mo T n (zw_own T n w) := by
  intro p g p' g' hp e
  obtain ⟨r1, r2⟩ := zw_own_r e
  cases r2
  have := zy_en_gt (T := T) (g := g) hp (by have := zy_ow_ty (T := T) (n := n) (p := p) (g := g) (by omega); omega)
  omega
theorem zw_mo_num {lo hi : Int} : zw_mo T n (zw_num T n lo hi) := by
  intro p g p' g' hp e
  obtain ⟨r1, _, r2⟩ := zw_num_r e
  cases r2
  have := zy_en_gt (T := T) (g := g) hp (by omega)
  omega
theorem zw_mo_new : zw_mo T n (zw_new T n K C nk nc) := by
  intro p g p' g' hp e
  obtain ⟨r1, r2⟩ := zw_new_r e
  cases r2
  have := zy_en_gt (T := T) (g := g) hp (by have := r1.1; omega)
  omega
theorem zw_mo_rul : zw_mo T n (zw_rul T n) := by
  intro p g p' g' hp e
  obtain ⟨r1, r2⟩ := zw_rul_r e
  cases r2
  have := zy_en_gt (T := T) (g := g) hp (by have := zy_ow_ty (T := T) (n := n) (p := p) (g := g) (by omega); omega)
  omega
theorem zw_mo_th {k1 k2 : Nat → Bool → zw_S} (h1 : zw_mo T n k1) (h2 : zw_mo T n k2) : zw_mo T n (fun p g => zw_th (k1 p g) k2) := by
  intro p g p' g' hp e
  obtain ⟨p1, g1, e1, e2⟩ := zw_th_r e
  have r1 := h1 p g p1 g1 hp e1
  have r2 := h2 p1 g1 p' g' r1.2 e2
  omega
theorem zw_mo_kd : zw_mo T n (zw_kd T n K C nk nc) := zw_mo_th (zw_mo_th (zw_mo_th (zw_mo_th zw_mo_new (zw_mo_own (by decide))) zw_mo_num) (zw_mo_own (by decide))) zw_mo_num
theorem zw_mo_ch : zw_mo T n (zw_ch T n K C nk nc) := zw_mo_th (zw_mo_th (zw_mo_th (zw_mo_th (zw_mo_th zw_mo_new (zw_mo_own (by decide))) zw_mo_num) (zw_mo_own (by decide))) zw_mo_num) zw_mo_rul
theorem zw_mo_lg {N : Nat} {nm : Nat → List Nat} : zw_mo T n (fun p g => zw_th (zw_lk T n N nm p g) (zw_go T n)) := by
  intro p g p' g' hp e
  obtain ⟨p1, g1, e1, e2⟩ := zw_th_r e
  obtain ⟨r1, _, r2⟩ := zw_lk_r e1
  cases r2
  cases e2
  have := zy_en_gt (T := T) (g := g) hp (by have := r1.1; omega)
  omega
theorem zw_th_a {o : zw_S} {k1 k2 : Nat → Bool → zw_S} : zw_th (zw_th o k1) k2 = zw_th o (fun p g => zw_th (k1 p g) k2) := by
  rcases o with e | ⟨p, g⟩ <;> rfl
theorem zw_mo_li : zw_mo T n (zw_li T n K C nk nc) := by
  intro p g p' g' hp e
  have e' : zw_th (zw_th (zw_th (zw_lk T n C nc p g) (zw_go T n)) (fun p g => zw_th (zw_lk T n K nk p g) (zw_go T n))) (zw_num T n 0 99) = .inr (p', g') := by
    rw [← zw_th_a]; exact e
  exact zw_mo_th (zw_mo_th zw_mo_lg zw_mo_lg) zw_mo_num p g p' g' hp e'
end
