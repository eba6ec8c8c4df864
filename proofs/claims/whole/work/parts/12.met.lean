/-! SOUNDNESS, part 7: a method's contract out of a run -/
def zs_nest : List Cond := lw_tbl.filter (fun w => match w with | .methodLinkNest _ _ _ _ => true | _ => false)
/-- what is said of the text OWN_WORDS -/
def zs_TX (ρ : Nat → Nat) (A : Nat → Prop) (U : State) : Prop := True
def zs_RO (ρ : Nat → Nat) (A : Nat → Prop) (U : State) : Prop := va_Z "BranTub" "AS_THEY_LIE" "[I" (.ref (ρ 1)) A U U.heap ∧ va_T .int (ρ 1) 5 (fun j => .int (Int32.ofInt j)) A U U.heap ∧ va_AO "BranTub$Tub" U ∧ (∀ w ∈ zs_nest, va_Nw w U) ∧ zs_TX ρ A U
theorem zs_RO_pass {ρ : Nat → Nat} {A B : Nat → Prop} {s U : State} {H : Heap} {locs : List Loc} (h : zs_RO ρ A s) (hS : va_S A s.heap H locs) (hU : U.heap = H) (hW : s.WarmedH U.vm) (hAB : ∀ q, B q → A q) : zs_RO ρ B U := by
  obtain ⟨h1, h2, h3, h4, h5⟩ := h
  refine ⟨?_, ?_, va_AO.moved hW.alike h3, fun w hw => ?_, trivial⟩
  · rw [hU]; exact va_Z.narrow (va_Z.moved hW.alike (va_Z.kept h1 hS.2.1)) hAB
  · rw [hU]; exact va_T.narrow (va_T.moved hW.alike (va_T.kept h2 hS.2.1)) hAB
  · have := h4 w hw
    have hm := (List.mem_filter.mp hw).2
    split at hm
    · exact va_Nw.warmM hW this
    · cases hm
theorem zs_RO_ag {ρ ρ1 : Nat → Nat} {A : Nat → Prop} {U : State} (h : zs_RO ρ A U) (e : ρ1 1 = ρ 1) (e2 : ρ1 2 = ρ 2) : zs_RO ρ1 A U := by
  obtain ⟨h1, h2, h3, h4, h5⟩ := h
  exact ⟨by rw [e]; exact h1, by rw [e]; exact h2, h3, h4, trivial⟩
theorem zs_RO_call {ρ : Nat → Nat} {A : Nat → Prop} {U : State} {g : JFrame} {mk : MethodId} {a : Array Value} (h : zs_RO ρ A U) : zs_RO ρ A (U.calling g mk a) := by
  obtain ⟨h1, h2, h3, h4, h5⟩ := h
  exact ⟨va_Z.moved (u := U) (U := U.calling g mk a) (Vm.Alike.refl U.vm) h1, va_T.moved (u := U) (U := U.calling g mk a) (Vm.Alike.refl U.vm) h2, va_AO.moved (u := U) (U := U.calling g mk a) (Vm.Alike.refl U.vm) h3, fun w hw => va_Nw.same (u := U) (U := U.calling g mk a) (by
    have hm := (List.mem_filter.mp hw).2
    split at hm
    · rfl
    · cases hm) rfl (h4 w hw), trivial⟩
theorem zs_args_at {ρ : Nat → Nat} : ∀ (as : List zm_V) (As : List Value) (i k : Nat) (v : zm_V) (w : Value), as.map (zs_mv ρ) = As.map some → (zm_two as)[k]? = some v → zs_mv ρ v = some w → (i + k, w) ∈ lv_args i As := by
  intro as
  induction as with
  | nil => intro As i k v w _ h; simp [zm_two] at h
  | cons a as ih =>
    intro As i k v w hm h hv
    cases As with
    | nil => simp at hm
    | cons A As =>
      simp only [List.map_cons, List.cons.injEq] at hm
      obtain ⟨h1, h2⟩ := hm
      have hc := zs_mv_cat h1
      simp only [zm_two, List.flatMap_cons] at h
      rw [lv_args]
      by_cases h2c : zm_cat a = 2
      · rw [if_pos h2c] at h
        rw [if_pos (hc.trans h2c)]
        match k, h with
        | 0, h => simp at h; subst h; rw [h1] at hv; cases hv; exact List.mem_cons_self
        | 1, h => simp at h; subst h; cases hv
        | k + 2, h =>
          refine List.mem_cons_of_mem _ ?_
          have := ih As (i + 2) k v w h2 (by simpa [zm_two] using h) hv
          rwa [show i + (k + 2) = i + 2 + k by omega]
      · rw [if_neg h2c] at h
        rw [if_neg (by rw [hc]; exact h2c)]
        match k, h with
        | 0, h => simp at h; subst h; rw [h1] at hv; cases hv; exact List.mem_cons_self
        | k + 1, h =>
          refine List.mem_cons_of_mem _ ?_
          have := ih As (i + 1) k v w h2 (by simpa [zm_two] using h) hv
          rwa [show i + (k + 1) = i + 1 + k by omega]
theorem zs_args_len {ρ : Nat → Nat} : ∀ (as : List zm_V) (As : List Value), as.map (zs_mv ρ) = As.map some → (lg_sl As).length = (zm_two as).length := by
  intro as
  induction as with
  | nil => intro As h; cases As with
    | nil => rfl
    | cons A As => simp at h
  | cons a as ih =>
    intro As hm
    cases As with
    | nil => simp at hm
    | cons A As =>
      simp only [List.map_cons, List.cons.injEq] at hm
      obtain ⟨h1, h2⟩ := hm
      have hc := zs_mv_cat h1
      have := ih As h2
      simp only [lg_sl, zm_two, List.flatMap_cons, List.length_append] at this ⊢
      rw [hc, this]
      split <;> rfl
theorem zs_entry {ρ : Nat → Nat} {y : Nat} {as : List zm_V} {As : List Value} (hm : as.map (zs_mv ρ) = As.map some) (hl : (zm_ini y as).length = zm_mx y) : zs_lo ρ (zm_ini y as) (zm_mx y) ((lg_sl As ++ List.replicate (zm_mx y - (lg_sl As).length) Slot.unset).toArray) := by
  have hlen := zs_args_len as As hm
  have hle : (lg_sl As).length ≤ zm_mx y := by
    rw [hlen]
    unfold zm_ini at hl
    simp only [List.length_append, List.length_replicate] at hl
    omega
  refine ⟨hl, lv_args 0 As, lv_entry As hle, fun k v w h1 h2 => ?_⟩
  unfold zm_ini at h1
  by_cases hk : k < (zm_two as).length
  · rw [List.getElem?_append_left hk] at h1
    have := zs_args_at as As 0 k v w hm h1 h2
    rwa [Nat.zero_add] at this
  · rw [List.getElem?_append_right (by omega)] at h1
    have := List.eq_of_mem_replicate (List.mem_of_getElem? h1)
    subst this
    cases h2
theorem zs_two_w {nx : Nat} {as : List zm_V} (h : ∀ v ∈ as, zs_w nx v) : ∀ v ∈ zm_two as, zs_w nx v := by
  intro v hv
  obtain ⟨a, ha, h2⟩ := List.mem_flatMap.mp hv
  split at h2
  · rcases List.mem_cons.mp h2 with rfl | h2
    · exact h _ ha
    · rw [List.mem_singleton.mp h2]; trivial
  · rw [List.mem_singleton.mp h2]; exact h _ ha
theorem zs_ini_w {nx y : Nat} {as : List zm_V} (h : ∀ v ∈ as, zs_w nx v) : ∀ v ∈ zm_ini y as, zs_w nx v := by
  intro v hv
  unfold zm_ini at hv
  rcases List.mem_append.mp hv with h1 | h1
  · exact zs_two_w h v h1
  · rw [List.eq_of_mem_replicate h1]; trivial
theorem zs_ex_nx : ∀ (f : Nat) (X : Option (Nat × (Int → Int))) (md : Bool) (rk y pc : Nat) (loc stk : List zm_V) (S : Nat × zm_H) (r : zm_V × Nat × zm_H), zm_ex X md f rk y pc loc stk S = some r → S.1 ≤ r.2.1 ∧ (md = true → r.2.1 = S.1) := by
  intro f
  induction f with
  | zero => intro X md rk y pc loc stk S r h; simp [zm_ex] at h
  | succ f ih =>
    intro X md rk y pc loc stk S r h
    rw [zm_ex] at h
    cases hs : zm_step X md rk y pc loc stk S.1 S.2 with
    | none => rw [hs] at h; cases h
    | some a =>
      rw [hs] at h
      rcases a with ⟨pc', loc', stk', nx', h'⟩ | v | ⟨q, as, rr⟩
      · dsimp only at h
        obtain ⟨h1, h⟩ := zm_ck_some h
        have h2 := ih _ _ _ _ _ _ _ _ _ h
        exact ⟨Nat.le_trans h1.1 h2.1, fun e => (h2.2 e).trans (h1.2 e)⟩
      · cases h; exact ⟨Nat.le_refl _, fun _ => rfl⟩
      · dsimp only at h
        obtain ⟨hl, h⟩ := zm_ck_some h
        cases hq : zm_ex none md f (zm_rk q as) q 0 (zm_ini q as) [] S with
        | none => rw [hq] at h; cases h
        | some b =>
          rw [hq] at h
          have h1 := ih _ _ _ _ _ _ _ _ _ hq
          have h2 := ih _ _ _ _ _ _ _ _ _ h
          exact ⟨Nat.le_trans h1.1 h2.1, fun e => (h2.2 e).trans (h1.2 e)⟩
