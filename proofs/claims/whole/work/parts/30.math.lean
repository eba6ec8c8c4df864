/-! NUMBERS: sums and the like -/
def zq_S : Nat → (Nat → Int) → Int
  | 0, _ => 0
  | n + 1, f => zq_S n f + f n
theorem zq_S_congr {n : Nat} {f g : Nat → Int} (h : ∀ i, i < n → f i = g i) : zq_S n f = zq_S n g := by
  induction n with
  | zero => rfl
  | succ n ih => simp only [zq_S]; rw [ih (fun i hi => h i (by omega)), h n (by omega)]
theorem zq_S_le {n : Nat} {f : Nat → Int} {m : Int} (h : ∀ i, i < n → 0 ≤ f i ∧ f i ≤ m) : 0 ≤ zq_S n f ∧ zq_S n f ≤ n * m := by
  induction n with
  | zero => simp [zq_S]
  | succ n ih =>
    have h1 := ih (fun i hi => h i (by omega))
    have h2 := h n (by omega)
    simp only [zq_S]
    have e : ((n + 1 : Nat) : Int) * m = (n : Int) * m + m := by rw [Int.natCast_succ, Int.add_mul, Int.one_mul]
    rw [e]
    omega
theorem zq_S_nn {n : Nat} {f : Nat → Int} (h : ∀ i, i < n → 0 ≤ f i) : 0 ≤ zq_S n f := by
  induction n with
  | zero => simp [zq_S]
  | succ n ih =>
    have h1 := ih (fun i hi => h i (by omega))
    have h2 := h n (by omega)
    simp only [zq_S]; omega
theorem zq_S_zero {n : Nat} {f : Nat → Int} (h : ∀ i, i < n → f i = 0) : zq_S n f = 0 := by
  induction n with
  | zero => rfl
  | succ n ih => simp only [zq_S]; rw [ih (fun i hi => h i (by omega)), h n (by omega)]; rfl
theorem zq_S_app (m n : Nat) (f : Nat → Int) : zq_S (m + n) f = zq_S m f + zq_S n (fun i => f (m + i)) := by
  induction n with
  | zero => simp [zq_S]
  | succ n ih => rw [← Nat.add_assoc]; simp only [zq_S]; rw [ih]; omega
theorem zq_S_ext {m n : Nat} {f : Nat → Int} (h : m ≤ n) (hz : ∀ i, m ≤ i → i < n → f i = 0) : zq_S n f = zq_S m f := by
  obtain ⟨k, rfl⟩ := Nat.le.dest h
  rw [zq_S_app, zq_S_zero (fun i hi => hz (m + i) (by omega) (by omega))]
  omega
theorem zq_S_plus (n : Nat) (f g : Nat → Int) : zq_S n (fun i => f i + g i) = zq_S n f + zq_S n g := by
  induction n with
  | zero => rfl
  | succ n ih => simp only [zq_S]; rw [ih]; omega
theorem zq_S_mul (n : Nat) (c : Int) (f : Nat → Int) : zq_S n (fun i => f i * c) = zq_S n f * c := by
  induction n with
  | zero => simp [zq_S]
  | succ n ih => simp only [zq_S]; rw [ih, Int.add_mul]
theorem zq_S_eq0 {n : Nat} {f : Nat → Int} (h : ∀ i, i < n → 0 ≤ f i) (h0 : zq_S n f = 0) : ∀ i, i < n → f i = 0 := by
  induction n with
  | zero => intro i hi; omega
  | succ n ih =>
    intro i hi
    simp only [zq_S] at h0
    have h1 := zq_S_nn (fun i hi => h i (by omega) : ∀ i, i < n → 0 ≤ f i)
    have h2 := h n (by omega)
    by_cases hn : i = n
    · subst hn; omega
    · exact ih (fun i hi => h i (by omega)) (by omega) i (by omega)
theorem zq_S_swap (m n : Nat) (f : Nat → Nat → Int) : zq_S m (fun i => zq_S n (fun j => f i j)) = zq_S n (fun j => zq_S m (fun i => f i j)) := by
  induction m with
  | zero => simp only [zq_S]; exact (zq_S_zero (fun _ _ => rfl)).symm
  | succ m ih => simp only [zq_S]; rw [ih, ← zq_S_plus]
theorem zq_S_block (m : Nat) (f : Nat → Int) : zq_S (8 * m) f = zq_S m (fun l => zq_S 8 (fun k => f (8 * l + k))) := by
  induction m with
  | zero => rfl
  | succ m ih =>
    rw [show 8 * (m + 1) = 8 * m + 8 by omega, zq_S_app, ih]; rfl
theorem zq_S_one {n : Nat} {f : Nat → Int} (h : ∀ i, i < n → 0 ≤ f i) {i : Nat} (hi : i < n) : f i ≤ zq_S n f := by
  induction n with
  | zero => omega
  | succ n ih =>
    simp only [zq_S]
    have h1 := zq_S_nn (fun i hi => h i (by omega) : ∀ i, i < n → 0 ≤ f i)
    have h2 := h n (by omega)
    by_cases hn : i = n
    · subst hn; omega
    · have := ih (fun i hi => h i (by omega)) (by omega)
      omega
theorem zq_tdiv {a b : Int} (h : 0 ≤ a) : a.tdiv b = a / b := Int.tdiv_eq_ediv_of_nonneg h
theorem zq_tmod {a b : Int} (h : 0 ≤ a) : a.tmod b = a % b := Int.tmod_eq_emod_of_nonneg h
/-! a heap's places -/
theorem zq_wr {h : zm_H} {a b : Nat} {i j v : Int} : zm_wr h a i v b j = if b = a ∧ j = i then v else h b j := rfl
theorem zq_wr_n {h : zm_H} {a b : Nat} {i j v : Int} (hb : b ≠ a) : zm_wr h a i v b j = h b j := by simp [zm_wr, hb]
theorem zq_wr_i {h : zm_H} {a : Nat} {i j v : Int} (hb : j ≠ i) : zm_wr h a i v a j = h a j := by simp [zm_wr, hb]
theorem zq_wr_e {h : zm_H} {a : Nat} {i v : Int} : zm_wr h a i v a i = v := by simp [zm_wr]
/-- some cells and places alone have changed -/
def zq_F (S : Nat → Int → Prop) (h g : zm_H) : Prop := ∀ a i, ¬ S a i → g a i = h a i
theorem zq_F_rf {S : Nat → Int → Prop} {h : zm_H} : zq_F S h h := fun _ _ _ => rfl
theorem zq_F_tr {S : Nat → Int → Prop} {h g k : zm_H} (h1 : zq_F S h g) (h2 : zq_F S g k) : zq_F S h k := fun a i hs => (h2 a i hs).trans (h1 a i hs)
theorem zq_F_wk {S T : Nat → Int → Prop} {h g : zm_H} (h1 : zq_F S h g) (hST : ∀ a i, S a i → T a i) : zq_F T h g := fun a i hs => h1 a i (fun q => hs (hST a i q))
theorem zq_F_wr {S : Nat → Int → Prop} {h : zm_H} {a : Nat} {i v : Int} (hs : S a i) : zq_F S h (zm_wr h a i v) := fun b j hn => by
  unfold zm_wr
  rw [if_neg]
  rintro ⟨rfl, rfl⟩
  exact hn hs
/-! JUDGEMENTS: a run ends, and of what it leaves Q holds -/
def zt (x : Option (zm_V × zm_H)) (Q : zm_V → zm_H → Prop) : Prop := ∃ v g, x = some (v, g) ∧ Q v g
abbrev zi (x : Option (zm_V × zm_H)) (Q : Int → zm_H → Prop) : Prop := zt x (fun v g => ∃ z, v = zm_I z ∧ Q z g)
abbrev zj (x : Option (zm_V × zm_H)) (Q : Int → zm_H → Prop) : Prop := zt x (fun v g => ∃ z, v = zm_L z ∧ Q z g)
abbrev zu (x : Option (zm_V × zm_H)) (Q : zm_H → Prop) : Prop := zt x (fun v g => v = zm_U ∧ Q g)
section
variable {a b x : Option (zm_V × zm_H)} {Q : zm_V → zm_H → Prop}
theorem zt_l (h : zl a b) (ht : zt a Q) : zt b Q := by
  obtain ⟨v, g, e, hq⟩ := ht
  exact ⟨v, g, h _ e, hq⟩
theorem zt_c {p : Prop} [Decidable p] (hp : p) (h : zt a Q) : zt (zm_ck p a) Q := by rw [zm_ck_t hp]; exact h
theorem zt_p {c : Prop} [Decidable c] (h1 : c → zt a Q) (h2 : ¬ c → zt b Q) : zt (if c then a else b) Q := by
  by_cases h : c
  · rw [if_pos h]; exact h1 h
  · rw [if_neg h]; exact h2 h
theorem zt_t {c : Prop} [Decidable c] (hc : c) (h1 : zt a Q) : zt (if c then a else b) Q := by rw [if_pos hc]; exact h1
theorem zt_f {c : Prop} [Decidable c] (hc : ¬ c) (h1 : zt b Q) : zt (if c then a else b) Q := by rw [if_neg hc]; exact h1
theorem zt_I {Q1 : Int → zm_H → Prop} {k : Int → zm_H → Option (zm_V × zm_H)} (hx : zi x Q1) (h : ∀ z g, Q1 z g → zt (k z g) Q) : zt (zk_I x k) Q := by
  obtain ⟨v, g, e, z, rfl, hq⟩ := hx
  rw [e]; exact h z g hq
theorem zt_L {Q1 : Int → zm_H → Prop} {k : Int → zm_H → Option (zm_V × zm_H)} (hx : zj x Q1) (h : ∀ z g, Q1 z g → zt (k z g) Q) : zt (zk_L x k) Q := by
  obtain ⟨v, g, e, z, rfl, hq⟩ := hx
  rw [e]; exact h z g hq
theorem zt_V {Q1 : zm_H → Prop} {k : zm_H → Option (zm_V × zm_H)} (hx : zu x Q1) (h : ∀ g, Q1 g → zt (k g) Q) : zt (zk_V x k) Q := by
  obtain ⟨v, g, e, rfl, hq⟩ := hx
  rw [e]; exact h g hq
theorem zt_e {v : zm_V} {g : zm_H} (h : Q v g) : zt (some (v, g)) Q := ⟨v, g, rfl, h⟩
theorem zt_m {Q1 : zm_V → zm_H → Prop} (h : zt x Q1) (hm : ∀ v g, Q1 v g → Q v g) : zt x Q := by
  obtain ⟨v, g, e, hq⟩ := h
  exact ⟨v, g, e, hm v g hq⟩
theorem zi_e {z : Int} {g : zm_H} {Q1 : Int → zm_H → Prop} (h : Q1 z g) : zi (some (zm_I z, g)) Q1 := ⟨_, _, rfl, z, rfl, h⟩
theorem zj_e {z : Int} {g : zm_H} {Q1 : Int → zm_H → Prop} (h : Q1 z g) : zj (some (zm_L z, g)) Q1 := ⟨_, _, rfl, z, rfl, h⟩
theorem zu_e {g : zm_H} {Q1 : zm_H → Prop} (h : Q1 g) : zu (some (zm_U, g)) Q1 := ⟨_, _, rfl, rfl, h⟩
theorem zi_m {Q1 Q2 : Int → zm_H → Prop} (h : zi x Q1) (hm : ∀ z g, Q1 z g → Q2 z g) : zi x Q2 := zt_m h (fun _ g ⟨z, e, q⟩ => ⟨z, e, hm z g q⟩)
theorem zj_m {Q1 Q2 : Int → zm_H → Prop} (h : zj x Q1) (hm : ∀ z g, Q1 z g → Q2 z g) : zj x Q2 := zt_m h (fun _ g ⟨z, e, q⟩ => ⟨z, e, hm z g q⟩)
theorem zu_m {Q1 Q2 : zm_H → Prop} (h : zu x Q1) (hm : ∀ g, Q1 g → Q2 g) : zu x Q2 := zt_m h (fun _ g ⟨e, q⟩ => ⟨e, hm g q⟩)
theorem zi_s {z : Int} {g : zm_H} {Q1 : Int → zm_H → Prop} (h : x = some (zm_I z, g)) (hq : Q1 z g) : zi x Q1 := ⟨_, _, h, z, rfl, hq⟩
theorem zj_s {z : Int} {g : zm_H} {Q1 : Int → zm_H → Prop} (h : x = some (zm_L z, g)) (hq : Q1 z g) : zj x Q1 := ⟨_, _, h, z, rfl, hq⟩
end
