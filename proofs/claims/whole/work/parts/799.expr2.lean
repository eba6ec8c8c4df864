/-! SUMS AND TESTS: the class's recursive descent -/
def zy_ok (T : Nat → Int) (n f r d p : Nat) (l : List Int) : Prop := 8 * (n - p) + r < f ∧ p ≤ n ∧ d ≤ 7 ∧ l.length ≤ p
section
variable {T : Nat → Int} {n pf : Nat}
theorem zy_end {p : Nat} {g : Bool} (hp : p = n) : zy_ty T n p g = 0 := by
  have : p ≤ zy_at T n p := (zy_sk_le T n (n - p) p).1
  unfold zy_ty; rw [if_pos (by omega)]
theorem zy_th_l {k a : Nat} {f : Nat → Bool → List Int → zy_O} : zy_th (.inl (k, a)) f = .inl (k, a) := rfl
theorem zy_th_s {p : Nat} {g : Bool} {l : List Int} {f : Nat → Bool → List Int → zy_O} : zy_th (.inr (p, g, l)) f = f p g l := rfl
/-- behind a call that told a level: a fault goes on up, else the rest -/
theorem zy_bind {h : zm_H} {x : Option (zm_V × zm_H)} {o : zy_O} {k : Int → zm_H → Option (zm_V × zm_H)} {kk : Nat → Bool → List Int → zy_O} (hx : zi x (zy_Q pf T n h o)) (hl : ∀ g, zi (k 0 g) (fun z g' => z = 0 ∧ g' = g)) (hr : ∀ p g l h2, o = .inr (p, g, l) → zq_F (zf_Ex pf) h h2 → zy_K h2 pf T n p g l → zi (k 1 h2) (zy_Q pf T n h2 (kk p g l))) : zi (zk_I x k) (zy_Q pf T n h (zy_th o kk)) := by
  refine zt_I hx ?_
  rintro z g ⟨f, ⟨a1, a2, rfl, rfl, q1, q2⟩ | ⟨p, g', l, e, rfl, K⟩⟩
  · rw [zy_th_l]
    refine zi_m (hl g) (fun z g2 q => ?_)
    rw [q.1, q.2]
    exact ⟨f, Or.inl ⟨a1, a2, rfl, rfl, q1, q2⟩⟩
  · rw [e, zy_th_s]
    exact zi_m (hr p g' l g e f K) (fun z g2 q => zy_Q_tr f q)
end
