/-! PICTURES: what cells say; readers of both sides -/
theorem zk_e {v v' : Int} {h : zm_H} (e : v = v') : (some (zm_I v, h) : Option (zm_V × zm_H)) = some (zm_I v', h) := by rw [e]
theorem zk_eL {v v' : Int} {h : zm_H} (e : v = v') : (some (zm_L v, h) : Option (zm_V × zm_H)) = some (zm_L v', h) := by rw [e]
/-- kinds, layers, children; worth, size; reach, feels, rule; likes -/
def zv_B (K L C : Nat) (wo sz re fe ru : Nat → Int) (lk : Nat → Nat → Int) : Prop :=
  K ≤ 8 ∧ L ≤ 5 ∧ C ≤ 8 ∧ (∀ k, k < K → 0 ≤ wo k ∧ wo k ≤ 99 ∧ 1 ≤ sz k ∧ sz k ≤ 9) ∧ (∀ c, c < C → 1 ≤ re c ∧ re c ≤ 5 ∧ 0 ≤ fe c ∧ fe c ≤ 3 ∧ 0 ≤ ru c ∧ ru c ≤ 3) ∧ (∀ c k, c < C → k < K → 0 ≤ lk c k ∧ lk c k ≤ 99)
def zv_F (h : zm_H) (t K L C : Nat) (wo sz re fe ru : Nat → Int) (lk : Nat → Nat → Int) : Prop :=
  zf_F t ∧ h t 1 = K ∧ h t 2 = L ∧ h t 3 = C ∧ (∀ k : Nat, k < K → h (t + 2) k = wo k ∧ h (t + 3) k = sz k) ∧
  (∀ c : Nat, c < C → h (t + 6) c = re c ∧ h (t + 7) c = fe c ∧ h (t + 8) c = ru c) ∧
  (∀ c k : Nat, c < C → k < K → ∀ j : Int, j = 8 * c + k → (if h (t + 9) j = -1 then wo k else h (t + 9) j) = lk c k)
def zv_G (h : zm_H) (b K L C : Nat) (wo sz re fe ru : Nat → Int) (lk : Nat → Nat → Int) : Prop :=
  b < 2 ∧ h 146 13 = b ∧ h 148 b = K ∧ h 151 b = L ∧ h 153 b = C ∧ (∀ k : Nat, k < K → ∀ j : Int, j = 8 * b + k → h 149 j = wo k ∧ h 150 j = sz k) ∧
  (∀ c : Nat, c < C → ∀ j : Int, j = 8 * b + c → h 154 j = re c ∧ h 155 j = fe c ∧ h 156 j = ru c) ∧
  (∀ c k : Nat, c < C → k < K → ∀ j : Int, j = 8 * (8 * b + c) + k → h 157 j = lk c k)
/-- parcels, purses, what is had: of a Tub o, of the reference's state v -/
def zv_T (h : zm_H) (o : Nat) (P Pu Hd : Nat → Int) : Prop := zf_T o ∧ (∀ i : Nat, i < 40 → h (o + 1) i = P i) ∧ (∀ i : Nat, i < 8 → h (o + 2) i = Pu i) ∧ (∀ i : Nat, i < 64 → h (o + 3) i = Hd i)
def zv_W (h : zm_H) (v : Nat) (P Pu Hd : Nat → Int) : Prop := v < 22 ∧ (∀ i : Nat, i < 40 → ∀ j : Int, j = 40 * v + i → h 176 j = P i) ∧ (∀ i : Nat, i < 8 → ∀ j : Int, j = 8 * v + i → h 177 j = Pu i) ∧ (∀ i : Nat, i < 64 → ∀ j : Int, j = 64 * v + i → h 178 j = Hd i)
/-- parcels lie in layers and of kinds that there are -/
def zv_P (K L : Nat) (P : Nat → Int) : Prop := (∀ i, i < 40 → 0 ≤ P i ∧ P i ≤ 99) ∧ ∀ i, i < 40 → (L ≤ i / 8 ∨ K ≤ i % 8) → P i = 0
def zv_H (K C : Nat) (Hd : Nat → Int) : Prop := (∀ i, i < 64 → 0 ≤ Hd i ∧ Hd i ≤ 100000) ∧ ∀ i, i < 64 → (C ≤ i / 8 ∨ K ≤ i % 8) → Hd i = 0
def zp_key (sz ru : Nat → Int) (lk : Nat → Nat → Int) (c k : Nat) : Int := if ru c = 1 then lk c k else if ru c = 2 then sz k else if ru c = 3 then -sz k else 0
def zp_sl (P : Nat → Int) (l : Nat) : Int := zq_S 8 (fun k => P (8 * l + k))
def zp_upf (L : Nat) (P : Nat → Int) (ord : Nat → Nat) : Nat → Nat → Nat
  | 0, p => p
  | n + 1, p => if p < L ∧ zp_sl P (ord p) = 0 then zp_upf L P ord n (p + 1) else p
/-- the first place in the order that is not empty -/
def zp_up (L : Nat) (P : Nat → Int) (ord : Nat → Nat) : Nat := zp_upf L P ord L 0
def zp_to (L : Nat) (P : Nat → Int) (ord : Nat → Nat) (re : Nat → Int) (c : Nat) : Nat := min L (zp_up L P ord + (re c).toNat)
def zp_cnt (P : Nat → Int) (ord : Nat → Nat) (f t k : Nat) : Int := zq_S (t - f) (fun i => P (8 * ord (f + i) + k))
theorem zp_upf_le (L : Nat) (P : Nat → Int) (ord : Nat → Nat) : ∀ n p, p ≤ L → p ≤ zp_upf L P ord n p ∧ zp_upf L P ord n p ≤ L := by
  intro n
  induction n with
  | zero => intro p hp; exact ⟨Nat.le_refl _, hp⟩
  | succ n ih =>
    intro p hp
    unfold zp_upf
    split
    · next hc => have := ih (p + 1) (by omega); omega
    · exact ⟨Nat.le_refl _, hp⟩
theorem zp_up_le (L : Nat) (P : Nat → Int) (ord : Nat → Nat) : zp_up L P ord ≤ L := (zp_upf_le L P ord L 0 (Nat.zero_le _)).2
theorem zp_to_le (L : Nat) (P : Nat → Int) (ord : Nat → Nat) (re : Nat → Int) (c : Nat) : zp_up L P ord ≤ zp_to L P ord re c ∧ zp_to L P ord re c ≤ L := by
  have := zp_up_le L P ord
  unfold zp_to; omega
theorem zp_sl_b {P : Nat → Int} {l : Nat} (hl : l < 5) (hP : ∀ i, i < 40 → 0 ≤ P i ∧ P i ≤ 99) : 0 ≤ zp_sl P l ∧ zp_sl P l ≤ 792 := by
  have := zq_S_le (n := 8) (f := fun k => P (8 * l + k)) (m := 99) (fun i hi => hP _ (by omega))
  unfold zp_sl; omega
theorem zp_cnt_b {P : Nat → Int} {ord : Nat → Nat} {f t k : Nat} (hk : k < 8) (hft : t ≤ 5) (ho : ∀ p, p < 5 → ord p < 5) (hP : ∀ i, i < 40 → 0 ≤ P i ∧ P i ≤ 99) : 0 ≤ zp_cnt P ord f t k ∧ zp_cnt P ord f t k ≤ 495 := by
  unfold zp_cnt
  have := zq_S_le (n := t - f) (f := fun i => P (8 * ord (f + i) + k)) (m := 99) (fun i hi => hP _ (by have := ho (f + i) (by omega); omega))
  have h2 : ((t - f : Nat) : Int) ≤ 5 := by omega
  omega
section
variable {h : zm_H} {t b K L C : Nat} {wo sz re fe ru : Nat → Int} {lk : Nat → Nat → Int} {P Pu Hd : Nat → Int}
/-! the class's readers -/
theorem s_145 {a na f n : Nat} (ha : zm_lay a = .inr (0, na) ∧ 3 < a ∧ a < zm_NX) (hf : f ≤ 10000) (hn : f + n ≤ na) (hn2 : n ≤ 64) (hb : ∀ i : Nat, i < n → 0 ≤ h a ((f + i : Nat) : Int) ∧ h a ((f + i : Nat) : Int) ≤ 1000000) {x y : Int} (hx : x = f) (hy : y = ((f + n : Nat) : Int)) : zi (zc 145 [zm_A a, zm_I x, zm_I y] h) (fun z g => z = zq_S n (fun i => h a ((f + i : Nat) : Int)) ∧ g = h) := by
  subst hx
  subst hy
  have key : ∀ (k i : Nat), i + k = n → zi (zr none 1 145 5 [zm_A a, zm_I f, zm_I ((f + n : Nat) : Int), zm_I (zq_S i (fun i => h a ((f + i : Nat) : Int))), zm_I ((f + i : Nat) : Int)] [] h) (fun z g => z = zq_S n (fun i => h a ((f + i : Nat) : Int)) ∧ g = h) := by
    intro k
    induction k with
    | zero =>
      intro i hi
      refine zt_l (e_145_5 ha) (zt_f (by omega) (zi_e ⟨?_, rfl⟩))
      have : i = n := by omega
      rw [this]
    | succ k ih =>
      intro i hi
      have b1 := zq_S_le (n := i) (f := fun i => h a ((f + i : Nat) : Int)) (m := 1000000) (fun j hj => hb j (by omega))
      have b2 := hb i (by omega)
      have b3 : (i : Int) * 1000000 ≤ 64000000 := by omega
      refine zt_l (e_145_5 ha) (zt_t (by omega) (zt_c (by omega) (zt_c (by omega) (zt_c (by omega) ?_))))
      exact ih (i + 1) (by omega)
  exact zt_l (e_145 ha) (key n 0 (by omega))
theorem s_64 (hF : zv_F h t K L C wo sz re fe ru lk) (hB : zv_B K L C wo sz re fe ru lk) {c k : Nat} (hc : c < C) (hk : k < K) : zi (zc 64 [zm_A t, zm_I c, zm_I k] h) (fun z g => z = lk c k ∧ g = h) := by
  obtain ⟨ht, e1, e2, e3, h1, h2, h3⟩ := hF
  obtain ⟨b1, b2, b3, -⟩ := hB
  refine zt_l (e_64 ht) (zt_c (by omega) (zt_c (by omega) (zt_c (by omega) ?_)))
  have e := h3 c k hc hk ((c : Int) * 8 + k) (by omega)
  refine zt_p (fun hq => ?_) (fun hq => ?_)
  · rw [if_pos hq] at e
    refine zt_c (by omega) (zi_e ⟨?_, rfl⟩)
    rw [(h1 k hk).1]; exact e
  · rw [if_neg hq] at e; exact zi_e ⟨e, rfl⟩
theorem s_65 (hF : zv_F h t K L C wo sz re fe ru lk) (hB : zv_B K L C wo sz re fe ru lk) {c k : Nat} (hc : c < C) (hk : k < K) : zi (zc 65 [zm_A t, zm_I c, zm_I k] h) (fun z g => z = zp_key sz ru lk c k ∧ g = h) := by
  have h64 := s_64 hF hB hc hk
  obtain ⟨ht, e1, e2, e3, h1, h2, h3⟩ := hF
  obtain ⟨b1, b2, b3, b4, b5, b6⟩ := hB
  have hr := (h2 c hc).2.2
  have hz := (h1 k hk).2
  have hzb := b4 k hk
  refine zt_l (e_65 ht) (zt_c (by omega) ?_)
  rw [hr]
  unfold zp_key
  refine zt_p (fun hq => ?_) (fun hq => zt_p (fun hq2 => ?_) (fun hq2 => zt_p (fun hq3 => ?_) (fun hq3 => ?_)))
  · rw [if_pos hq]
    refine zt_I h64 ?_
    rintro z g ⟨rfl, rfl⟩
    exact zi_e ⟨rfl, rfl⟩
  · rw [if_neg hq, if_pos hq2]
    exact zt_c (by omega) (zi_e ⟨hz, rfl⟩)
  · rw [if_neg hq, if_neg hq2, if_pos hq3]
    exact zt_c (by omega) (zt_c (by rw [hz]; omega) (zi_e ⟨by rw [hz], rfl⟩))
  · rw [if_neg hq, if_neg hq2, if_neg hq3]
    exact zi_e ⟨rfl, rfl⟩
theorem s_150 {o l : Nat} (hT : zv_T h o P Pu Hd) (hP : ∀ i, i < 40 → 0 ≤ P i ∧ P i ≤ 99) (hl : l < 5) : zi (zc 150 [zm_A o, zm_I l] h) (fun z g => z = zp_sl P l ∧ g = h) := by
  obtain ⟨ho, p1, p2, p3⟩ := hT
  refine zt_l (e_150 ho) (zt_c (by omega) (zt_c (by omega) (zt_c (by omega) ?_)))
  refine zt_I (s_145 (f := 8 * l) (n := 8) (zt_a1 ho) (by omega) (by omega) (by omega) (fun i hi => ?_) (by omega) (by omega)) ?_
  · rw [p1 _ (by omega)]; have := hP (8 * l + i) (by omega); omega
  · rintro z g ⟨rfl, rfl⟩
    refine zi_e ⟨zq_S_congr (fun i hi => p1 _ (by omega)), rfl⟩
/-- what a look leaves -/
def zf_Rs (a : Nat) (_ : Int) : Prop := a = 128 ∨ a = 129 ∨ a = 130 ∨ a = 131
def zv_R (h : zm_H) (K L : Nat) (sz re fe ru : Nat → Int) (lk : Nat → Nat → Int) (P : Nat → Int) (ord : Nat → Nat) (c : Nat) : Prop :=
  h 128 4 = zp_up L P ord ∧ h 128 5 = zp_to L P ord re c ∧ h 128 6 = fe c + 1 ∧ h 128 3 = zq_S 8 (zp_cnt P ord (zp_up L P ord) (zp_to L P ord re c)) ∧
  ∀ k : Nat, k < 8 → h 129 k = zp_cnt P ord (zp_up L P ord) (zp_to L P ord re c) k ∧ h 130 k = (if k < K then lk c k else 0) ∧ h 131 k = (if k < K then zp_key sz ru lk c k else 0)
end
