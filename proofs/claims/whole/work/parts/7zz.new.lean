/-! THE TWO MODELS WHEN THEY ARE MADE -/
/-- what the constructors leave -/
def zi_P (h : zm_H) : Prop :=
  (h 4 1 = 7 ∧ h 4 2 = 18 ∧ h 4 16 = 1 ∧ h 4 17 = 0) ∧ (h 5 1 = 0 ∧ h 146 1 = 0) ∧ (h 29 2 = 0 ∧ h 29 3 = -1 ∧ h 146 10 = 0 ∧ h 146 11 = -1) ∧ h 146 70 = 0 ∧ (h 139 1 = 0 ∧ h 146 77 = 0) ∧
  (h 7 1 = 0 ∧ h 7 2 = 0 ∧ h 7 3 = 0 ∧ h 7 4 = 50 ∧ h 7 16 = 0 ∧ h 7 17 = 0 ∧ h 7 18 = 0 ∧ h 7 19 = 0) ∧ (h 32 0 = 0 ∧ h 32 1 = 0) ∧ (h 44 3 = 0 ∧ h 44 4 = 0 ∧ h 44 5 = 0) ∧
  (h 146 13 = 0 ∧ h 148 0 = 0 ∧ h 151 0 = 0 ∧ h 153 0 = 0 ∧ h 159 0 = -1 ∧ h 161 0 = -1) ∧ (h 174 0 = 0 ∧ h 175 0 = 0 ∧ h 179 0 = 0) ∧ (h 146 56 = 0 ∧ h 146 57 = 0 ∧ h 146 58 = 1) ∧
  (∀ i : Nat, i < 6 → h 145 i = 0 ∧ h 173 i = 0) ∧ (∀ i : Nat, i < 40 → h 11 i = 0 ∧ h 33 i = 0 ∧ h 176 i = 0) ∧ (∀ i : Nat, i < 8 → h 34 i = 0 ∧ h 177 i = 0) ∧ (∀ i : Nat, i < 64 → h 35 i = 0 ∧ h 178 i = 0) ∧ ∀ w : Nat, w < 25 → h 31 w = zp_p5 (zy_w w)
def zi_dP (h : zm_H) : Decidable (zi_P h) := by unfold zi_P; exact inferInstance
theorem zi_R {h : zm_H} (p : zi_P h) : zx_R h 0 := by
  obtain ⟨⟨a1, a2, a3, a4⟩, ⟨b1, b2⟩, ⟨c1, c2, c3, c4⟩, d1, ⟨e1, e2⟩, ⟨f1, f2, f3, f4, f5, f6, f7, f8⟩, ⟨g1, g2⟩, ⟨i1, i2, i3⟩, ⟨j1, j2, j3, j4, j5, j6⟩, ⟨k1, k2, k3⟩, ⟨l1, l2, l3⟩, m1, m2, m3, m4, m5⟩ := p
  have nn : ∀ {q : Prop} (k : Nat), k < 0 → q := fun k hk => absurd hk (Nat.not_lt_zero k)
  refine ⟨⟨0, fun _ => 0, fun _ => 0, 0, -1, 0, fun _ => 0, 0, fun _ => 0, ⟨b1, Nat.zero_le _, fun i hi => nn i hi⟩, ⟨b2, Nat.zero_le _, fun i hi => nn i hi⟩, fun i => ⟨Int.le_refl 0, show (0 : Int) ≤ 255 by decide⟩, fun i hi => ⟨(m1 i hi).1, (m1 i hi).2, Int.le_refl 0, Int.le_refl 0⟩, ⟨c1, c2, c3, c4⟩, ⟨a4, d1, fun q => absurd rfl q⟩, e1, e2, Nat.zero_le _, fun i hi => nn i hi⟩, 7, 18, 0, 0, 0, 0, 0, 0, 0, 0, 0, 0, 0, 0, 0, 9999, fun _ => 0, fun _ => 0, fun _ => 0, fun _ => 0, fun _ => 0, fun _ => 0, fun _ _ => 0, fun _ => [], fun _ => [], fun _ => 0, 50, fun _ => 0, fun _ => 0, fun _ => 0, fun _ => 0, 0, 0, 1, fun _ => 0, fun _ _ => 0, fun _ _ => 0, fun _ _ => 0, fun _ _ => 0, fun _ => 0, fun _ => 0, fun _ => 0, fun _ => 0, fun _ => 0, fun _ => 0, ?_, ?_, ?_, ?_, fun i hi => nn i hi, Nat.le_refl _⟩
  · refine ⟨⟨Or.inl rfl, Or.inr rfl, by decide, by decide⟩, ⟨by decide, by decide, by decide, fun k hk => nn k hk, fun k hk => nn k hk, fun c k hc => nn c hc⟩, ⟨by decide, by decide, by decide, by decide, by decide, fun en _ => ⟨fun q => absurd rfl q, fun q => absurd rfl q⟩⟩, ⟨fun k hk => nn k hk, fun k hk => nn k hk⟩, fun i _ _ => rfl, a2, ⟨fun k hk => nn k hk, fun k hk => nn k hk⟩, ⟨fun k hk => nn k hk, fun k hk => nn k hk⟩, ⟨f4, fun i hi => (m2 i hi).1⟩, m5⟩
  · exact ⟨⟨a1, ⟨Or.inl rfl, f1, f2, f3, fun k hk => nn k hk, fun k hk => nn k hk, fun c k hc => nn c hc⟩, ⟨zf_T_32, fun i hi => (m2 i hi).2.1, fun i hi => (m3 i hi).1, fun i hi => (m4 i hi).1⟩, g1, g2⟩, ⟨f5, f6, f7, f8, fun i hi => nn i hi⟩, a3, i3, i1, i2, by decide, by decide, fun i _ hi => nn i hi, fun j _ hj => nn j hj⟩
  · refine ⟨⟨⟨by decide, j1, j2, j3, j4, fun k hk => nn k hk, fun k hk => nn k hk, fun c k hc => nn c hc⟩, ⟨by decide, fun i hi j hj => ?_, fun i hi j hj => ?_, fun i hi j hj => ?_⟩, k1, k2⟩, ⟨fun _ => j5, fun q => absurd rfl q, fun _ => j6, fun q => absurd rfl q, fun i hi => nn i hi⟩, l3, l2, l1, by decide, by decide, ?_, fun i v hi => nn i hi⟩
    · rw [show j = (i : Int) by omega]; exact (m2 i hi).2.2
    · rw [show j = (i : Int) by omega]; exact (m3 i hi).2
    · rw [show j = (i : Int) by omega]; exact (m4 i hi).2
    · exact ⟨k3, by decide, fun i hi => nn i hi⟩
  · have z : (0 : Int) ≤ 0 := Int.le_refl 0
    have X0 : zv_X 0 0 0 (fun _ => 0) (fun _ => 0) (fun _ => 0) 0 0 := ⟨⟨fun i _ => ⟨z, show (0 : Int) ≤ 99 by decide⟩, fun i _ _ => rfl⟩, ⟨fun i _ => ⟨z, show (0 : Int) ≤ 100000 by decide⟩, fun i _ _ => rfl⟩, fun c _ => ⟨z, show (0 : Int) ≤ 999 by decide⟩, z, by decide, z, by decide⟩
    exact ⟨X0, X0, ⟨fun i j _ hj => nn j hj, fun i hi => nn i hi, by decide, by decide, fun j => ⟨⟨z, show (0 : Int) < 8 by decide⟩, ⟨z, show (0 : Int) < 8 by decide⟩, ⟨z, show (0 : Int) ≤ 99 by decide⟩, z, show (0 : Int) ≤ 99 by decide⟩⟩, fun c hc => nn c hc, fun c _ _ => rfl, ⟨by decide, by decide⟩, fun i _ => show (0 : Int) ≤ ((9999 : Nat) : Int) by decide, by decide, by decide, by decide⟩
