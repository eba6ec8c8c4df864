/-! SOUNDNESS, part 2: one instruction -/
def zs_R (D : va_G) (kA : Nat → ClassId) (A : Nat → Prop) (H0 : Heap) (nL : Nat) (ρ : Nat → Nat) (md : Bool) (loc stk : List zm_V) (nx : Nat) (h : zm_H) (H : Heap) (locs : List Loc) (ls : Array Slot) (st : List Value) : Prop :=
  va_P D zm_cl (zs_ws kA ρ md nx h) H ∧ va_D A (zs_ws kA ρ md nx h) ∧ va_S A H0 H locs ∧ zs_lo ρ loc nL ls ∧ stk.map (zs_mv ρ) = st.map some ∧ (∀ v ∈ stk, zs_w nx v) ∧ (∀ v ∈ loc, zs_w nx v) ∧ zs_hw md nx h ∧ 4 ≤ nx
theorem zs_lo_at {ρ : Nat → Nat} {loc : List zm_V} {nL : Nat} {ls : Array Slot} (hL : zs_lo ρ loc nL ls) {k : Nat} {v : zm_V} {w : Value} (h1 : loc[k]? = some v) (h2 : zs_mv ρ v = some w) : ls[k]? = some (.val w) := by
  obtain ⟨-, lv, h, hm⟩ := hL
  exact h.2.2 _ (hm k v w h1 h2)
theorem zs_kill_len {loc : List zm_V} {n : Nat} : (zm_kill loc n).length = loc.length := by
  unfold zm_kill
  split
  · rfl
  · split
    · simp
    · rfl
theorem zs_kill_at {loc : List zm_V} {n k : Nat} {v : zm_V} (h : (zm_kill loc n)[k]? = some v) : (v = zm_U) ∨ (loc[k]? = some v ∧ ¬ (k + 1 = n ∧ zm_cat v = 2)) := by
  unfold zm_kill at h
  split at h
  · exact Or.inr ⟨h, by omega⟩
  · split at h
    · rw [List.getElem?_set] at h
      split at h
      · split at h
        · exact Or.inl (Option.some.inj h).symm
        · cases h
      · exact Or.inr ⟨h, by omega⟩
    · next hne =>
      refine Or.inr ⟨h, ?_⟩
      rintro ⟨e, hc⟩
      have : n - 1 = k := by omega
      rcases v with z | z | z | z
      · simp [zm_cat] at hc
      · exact hne z (by rw [this]; exact h)
      · simp [zm_cat] at hc
      · simp [zm_cat] at hc
theorem zs_mv_cat {ρ : Nat → Nat} {v : zm_V} {w : Value} (h : zs_mv ρ v = some w) : w.category = zm_cat v := by
  rcases v with z | z | z | z
  · cases h; rfl
  · cases h; rfl
  · cases h; rfl
  · cases h
theorem zs_lo_1 {ρ : Nat → Nat} {loc : List zm_V} {nL n : Nat} {ls' : Array Slot} {v : zm_V} {w : Value} {lv : List (Nat × Value)} (hn : n < nL) (hl : loc.length = nL) (hv : zs_mv ρ v = some w)
    (hm : ∀ (k : Nat) (v : zm_V) (w : Value), loc[k]? = some v → zs_mv ρ v = some w → (k, w) ∈ lv)
    (h : lv_has ls' nL ((n, w) :: lv.filter (fun q => !(q.1 == n) && !(q.1 + 1 == n && q.2.category == 2)))) : zs_lo ρ (zm_st1 loc n v) nL ls' := by
  refine ⟨by simp [zm_st1, zs_kill_len, hl], _, h, fun k v' w' h1 h2 => ?_⟩
  unfold zm_st1 at h1
  rw [List.getElem?_set] at h1
  split at h1
  · next e =>
    split at h1
    · cases h1
      rw [hv] at h2; cases h2
      subst e
      exact List.mem_cons_self
    · cases h1
  · next e =>
    rcases zs_kill_at h1 with rfl | ⟨h3, h4⟩
    · cases h2
    · refine List.mem_cons_of_mem _ (List.mem_filter.mpr ⟨hm k v' w' h3 h2, ?_⟩)
      rw [← zs_mv_cat h2] at h4
      simp only [Bool.and_eq_true, Bool.not_eq_true', beq_eq_false_iff_ne, Bool.and_eq_false_imp, beq_iff_eq]
      exact ⟨fun q => e q.symm, fun q q2 => h4 ⟨q, q2⟩⟩
theorem zs_lo_2 {ρ : Nat → Nat} {loc : List zm_V} {nL n : Nat} {ls' : Array Slot} {v : zm_V} {w : Value} {lv : List (Nat × Value)} (hn : n + 1 < nL) (hl : loc.length = nL) (hv : zs_mv ρ v = some w)
    (hm : ∀ (k : Nat) (v : zm_V) (w : Value), loc[k]? = some v → zs_mv ρ v = some w → (k, w) ∈ lv)
    (h : lv_has ls' nL ((n, w) :: lv.filter (fun q => !(q.1 == n) && (!(q.1 == n + 1) && !(q.1 + 1 == n && q.2.category == 2))))) : zs_lo ρ (zm_st2 loc n v) nL ls' := by
  refine ⟨by simp [zm_st2, zs_kill_len, hl], _, h, fun k v' w' h1 h2 => ?_⟩
  unfold zm_st2 at h1
  rw [List.getElem?_set] at h1
  split at h1
  · next e =>
    split at h1
    · cases h1
      rw [hv] at h2; cases h2
      subst e
      exact List.mem_cons_self
    · cases h1
  · next e =>
    rw [List.getElem?_set] at h1
    split at h1
    · split at h1
      · cases h1; cases h2
      · cases h1
    · next e2 =>
      rcases zs_kill_at h1 with rfl | ⟨h3, h4⟩
      · cases h2
      · refine List.mem_cons_of_mem _ (List.mem_filter.mpr ⟨hm k v' w' h3 h2, ?_⟩)
        rw [← zs_mv_cat h2] at h4
        simp only [Bool.and_eq_true, Bool.not_eq_true', beq_eq_false_iff_ne, Bool.and_eq_false_imp, beq_iff_eq]
        exact ⟨fun q => e q.symm, fun q => e2 q.symm, fun q q2 => h4 ⟨q, q2⟩⟩
theorem zs_st_w {nx : Nat} {loc : List zm_V} {n : Nat} {v : zm_V} (hw : ∀ v ∈ loc, zs_w nx v) (hv : zs_w nx v) : ∀ u ∈ zm_st1 loc n v, zs_w nx u := by
  intro u hu
  unfold zm_st1 zm_kill at hu
  rcases List.mem_or_eq_of_mem_set hu with h | h
  · split at h
    · exact hw u h
    · split at h
      · rcases List.mem_or_eq_of_mem_set h with h | h
        · exact hw u h
        · rw [h]; trivial
      · exact hw u h
  · rw [h]; exact hv
theorem zs_st2_w {nx : Nat} {loc : List zm_V} {n : Nat} {v : zm_V} (hw : ∀ v ∈ loc, zs_w nx v) (hv : zs_w nx v) : ∀ u ∈ zm_st2 loc n v, zs_w nx u := by
  intro u hu
  unfold zm_st2 zm_kill at hu
  rcases List.mem_or_eq_of_mem_set hu with h | h
  · rcases List.mem_or_eq_of_mem_set h with h | h
    · split at h
      · exact hw u h
      · split at h
        · rcases List.mem_or_eq_of_mem_set h with h | h
          · exact hw u h
          · rw [h]; trivial
        · exact hw u h
    · rw [h]; trivial
  · rw [h]; exact hv
/-- a stack that begins with v -/
theorem zs_top {ρ : Nat → Nat} {v : zm_V} {w : Value} {r : List zm_V} {st : List Value} (h : (v :: r).map (zs_mv ρ) = st.map some) (hv : zs_mv ρ v = some w) : ∃ st', st = w :: st' ∧ r.map (zs_mv ρ) = st'.map some := by
  cases st with
  | nil => simp at h
  | cons x st' =>
    simp only [List.map_cons, List.cons.injEq] at h
    rw [hv] at h
    obtain ⟨h1, h2⟩ := h
    cases h1
    exact ⟨st', rfl, h2⟩
theorem zs_w1 {nx : Nat} {v : zm_V} {r : List zm_V} (h : ∀ u ∈ v :: r, zs_w nx u) : zs_w nx v ∧ ∀ u ∈ r, zs_w nx u := ⟨h v List.mem_cons_self, fun u hu => h u (List.mem_cons_of_mem _ hu)⟩
theorem zs_w2 {nx : Nat} {v : zm_V} {r : List zm_V} (h : zs_w nx v) (h2 : ∀ u ∈ r, zs_w nx u) : ∀ u ∈ v :: r, zs_w nx u := by
  intro u hu
  rcases List.mem_cons.mp hu with rfl | hu
  · exact h
  · exact h2 u hu
theorem zs_psh {ρ : Nat → Nat} {v : zm_V} {w : Value} {r : List zm_V} {st : List Value} (hv : zs_mv ρ v = some w) (h : r.map (zs_mv ρ) = st.map some) : (v :: r).map (zs_mv ρ) = (w :: st).map some := by
  simp only [List.map_cons, hv, h]
theorem zs_catw {ρ : Nat → Nat} {v : zm_V} (h : zm_cat v = 1) : ∃ w, zs_mv ρ v = some w ∧ w.category = 1 := by
  rcases v with z | z | z | z
  · exact ⟨_, rfl, rfl⟩
  · simp [zm_cat] at h
  · exact ⟨_, rfl, rfl⟩
  · simp [zm_cat] at h
theorem zs_i32r (x : Int32) : zm_i32 x.toInt := ⟨Int32.le_toInt x, by have := Int32.toInt_lt x; omega⟩
theorem zs_i64r (x : Int64) : zm_i64 x.toInt := ⟨Int64.le_toInt x, by have := Int64.toInt_lt x; omega⟩
