/-! SOUNDNESS, part 9: a run is a walk, a method's run its contract -/
def zs_end (y pc : Nat) (v : zm_V) (st : List Value) : Prop :=
  (∃ z, v = zm_I z ∧ decode (zm_code y) pc = .ok (.ireturn, 1) ∧ st = [.int (Int32.ofInt z)] ∧ (zm_ret y = 0 ∨ zm_ret y = 1 ∧ zm_bit z)) ∨
  (∃ z, v = zm_L z ∧ decode (zm_code y) pc = .ok (.lreturn, 1) ∧ st = [.long (Int64.ofInt z)] ∧ zm_ret y = 2) ∨
  (v = zm_U ∧ decode (zm_code y) pc = .ok (.return_, 1) ∧ st = [] ∧ (zm_ret y = 3 ∨ zm_ret y = 4))
theorem zs_is_end {X : Option (Nat × (Int → Int))} {md : Bool} {rk y pc : Nat} {loc stk : List zm_V} {nx : Nat} {h : zm_H} {v : zm_V} {i : Instr} {len : Nat} {ρ : Nat → Nat} {st : List Value} (hd : decode (zm_code y) pc = .ok (i, len)) (hlen : zm_len i = none ∨ zm_len i = some len) (hk : zm_kd i = 1) (hs : zm_si X md rk y pc loc stk nx h i = some (.inr (.inl v))) (hst : stk.map (zs_mv ρ) = st.map some) (hw : ∀ u ∈ stk, zs_w nx u) : zs_end y pc v st ∧ zs_w nx v := by
  cases i
  case ireturn =>
    obtain rfl := zs_len hlen (rfl : _ = some 1)
    simp only [zm_si] at hs
    split at hs
    · next z =>
      obtain ⟨hc, hs⟩ := zm_ck_some hs
      cases hs
      obtain ⟨st2, rfl, hst2⟩ := zs_top hst rfl
      cases st2 with
      | nil => exact ⟨Or.inl ⟨z, rfl, hd, rfl, hc⟩, hw _ List.mem_cons_self⟩
      | cons a b => simp at hst2
    · cases hs
  case lreturn =>
    obtain rfl := zs_len hlen (rfl : _ = some 1)
    simp only [zm_si] at hs
    split at hs
    · next z =>
      obtain ⟨hc, hs⟩ := zm_ck_some hs
      cases hs
      obtain ⟨st2, rfl, hst2⟩ := zs_top hst rfl
      cases st2 with
      | nil => exact ⟨Or.inr (Or.inl ⟨z, rfl, hd, rfl, hc⟩), hw _ List.mem_cons_self⟩
      | cons a b => simp at hst2
    · cases hs
  case return_ =>
    obtain rfl := zs_len hlen (rfl : _ = some 1)
    simp only [zm_si] at hs
    split at hs
    · obtain ⟨hc, hs⟩ := zm_ck_some hs
      cases hs
      cases st with
      | nil => exact ⟨Or.inr (Or.inr ⟨rfl, hd, rfl, hc⟩), trivial⟩
      | cons a b => simp at hst
    · cases hs
  all_goals first | exact absurd (show (0 : Nat) = 1 from hk) (by decide) | exact absurd (show (2 : Nat) = 1 from hk) (by decide)
