/-! SOUNDNESS, part 7: a method's contract out of a run -/
def zs_nest : List Cond := lw_tbl.filter (fun w => match w with | .methodLinkNest _ _ _ _ => true | _ => false)
/-- what is said of the text OWN_WORDS (the object q, its bytes w), and of the two statics that String's methods read -/
def zs_tx (q w : Nat) (A : Nat → Prop) (U : State) (H : Heap) : Prop := va_Z "java/lang/String" "COMPACT_STRINGS" "Z" (.int 1) A U H ∧ va_Zq "jdk/internal/util/Preconditions" "SIOOBE_FORMATTER" "Ljava/util/function/BiFunction;" A U H ∧ vk_S 1 [129] [zs_by] (fun _ => q) (fun _ => w) A U H
theorem zs_tx_moved {q w : Nat} {A : Nat → Prop} {u U : State} {H : Heap} (hvm : u.vm.Alike U.vm) (h : zs_tx q w A u H) : zs_tx q w A U H := ⟨va_Z.moved hvm h.1, va_Zq.moved hvm h.2.1, vk_S.moved hvm h.2.2⟩
theorem zs_tx_kept {q w : Nat} {A : Nat → Prop} {U : State} {H H1 : Heap} (h : zs_tx q w A U H) (hq : ∀ a : Nat, a < H.size → ¬ A a → H1[a]? = H[a]?) : zs_tx q w A U H1 := ⟨va_Z.kept h.1 hq, va_Zq.kept h.2.1 hq, vk_S.kept h.2.2 hq⟩
theorem zs_tx_narrow {q w : Nat} {A B : Nat → Prop} {U : State} {H : Heap} (h : zs_tx q w A U H) (hAB : ∀ q, B q → A q) : zs_tx q w B U H := ⟨va_Z.narrow h.1 hAB, va_Zq.narrow h.2.1 hAB, vk_S.narrow h.2.2 hAB⟩
def zs_TX (ρ : Nat → Nat) (A : Nat → Prop) (U : State) : Prop := vk_R "BranTub$Scanner" 19 zs_own (ρ 2) U ∧ ∃ w : Nat, zs_tx (ρ 2) w A U U.heap
def zs_RO (ρ : Nat → Nat) (A : Nat → Prop) (U : State) : Prop := va_Z "BranTub" "AS_THEY_LIE" "[I" (.ref (ρ 1)) A U U.heap ∧ va_T .int (ρ 1) 5 (fun j => .int (Int32.ofInt j)) A U U.heap ∧ va_AO "BranTub$Tub" U ∧ (∀ w ∈ zs_nest, va_Nw w U) ∧ zs_TX ρ A U
theorem zs_RO_pass {ρ : Nat → Nat} {A B : Nat → Prop} {s U : State} {H : Heap} {locs : List Loc} (h : zs_RO ρ A s) (hS : va_S A s.heap H locs) (hU : U.heap = H) (hW : s.WarmedH U.vm) (hAB : ∀ q, B q → A q) : zs_RO ρ B U := by
  obtain ⟨h1, h2, h3, h4, h5⟩ := h
  refine ⟨?_, ?_, va_AO.moved hW.alike h3, fun w hw => ?_, vk_R.warm hW h5.1, ?_⟩
  · rw [hU]; exact va_Z.narrow (va_Z.moved hW.alike (va_Z.kept h1 hS.2.1)) hAB
  · rw [hU]; exact va_T.narrow (va_T.moved hW.alike (va_T.kept h2 hS.2.1)) hAB
  · have := h4 w hw
    have hm := (List.mem_filter.mp hw).2
    split at hm
    · exact va_Nw.warmM hW this
    · cases hm
  · obtain ⟨w, hw⟩ := h5.2
    rw [hU]
    exact ⟨w, zs_tx_narrow (zs_tx_moved hW.alike (zs_tx_kept hw hS.2.1)) hAB⟩
theorem zs_RO_ag {ρ ρ1 : Nat → Nat} {A : Nat → Prop} {U : State} (h : zs_RO ρ A U) (e : ρ1 1 = ρ 1) (e2 : ρ1 2 = ρ 2) : zs_RO ρ1 A U := by
  obtain ⟨h1, h2, h3, h4, h5⟩ := h
  exact ⟨by rw [e]; exact h1, by rw [e]; exact h2, h3, h4, by unfold zs_TX; rw [e2]; exact h5⟩
theorem zs_RO_call {ρ : Nat → Nat} {A : Nat → Prop} {U : State} {g : JFrame} {mk : MethodId} {a : Array Value} (h : zs_RO ρ A U) : zs_RO ρ A (U.calling g mk a) := by
  obtain ⟨h1, h2, h3, h4, h5⟩ := h
  exact ⟨va_Z.moved (u := U) (U := U.calling g mk a) (Vm.Alike.refl U.vm) h1, va_T.moved (u := U) (U := U.calling g mk a) (Vm.Alike.refl U.vm) h2, va_AO.moved (u := U) (U := U.calling g mk a) (Vm.Alike.refl U.vm) h3, fun w hw => va_Nw.same (u := U) (U := U.calling g mk a) (by
    have hm := (List.mem_filter.mp hw).2
    split at hm
    · rfl
    · cases hm) rfl (h4 w hw), vk_R.same (u := U) (U := U.calling g mk a) rfl h5.1, h5.2.elim fun w hw => ⟨w, zs_tx_moved (u := U) (U := U.calling g mk a) (Vm.Alike.refl U.vm) hw⟩⟩
theorem zs_args_at {ρ : Nat → Nat} : ∀ (as : List zm_V) (As : List Value) (i k : Nat) (v : zm_V) (w : Value), as.map (zs_mv ρ) = As.map some → (zm_two as)[k]? = some v → zs_mv ρ v = some w → (i + k, w) ∈ lv_args i As := by
  intro as
  induction as with
  | nil => intro As i k v w _ h; simp [zm_two] at h
  | cons a as ih =>
    intro As i k v w hm h hv
    cases As with
    | nil => simp at hm
    | cons A As =>
      simp only [List.map_cons, List.cons.injEq] at hm
      obtain ⟨h1, h2⟩ := hm
      have hc := zs_mv_cat h1
      simp only [zm_two, List.flatMap_cons] at h
      rw [lv_args]
      by_cases h2c : zm_cat a = 2
      · rw [if_pos h2c] at h
        rw [if_pos (hc.trans h2c)]
        match k, h with
        | 0, h => simp at h; subst h; rw [h1] at hv; cases hv; exact List.mem_cons_self
        | 1, h => simp at h; subst h; cases hv
        | k + 2, h =>
          refine List.mem_cons_of_mem _ ?_
          have := ih As (i + 2) k v w h2 (by simpa [zm_two] using h) hv
          rwa [show i + (k + 2) = i + 2 + k by omega]
      · rw [if_neg h2c] at h
        rw [if_neg (by rw [hc]; exact h2c)]
        match k, h with
        | 0, h => simp at h; subst h; rw [h1] at hv; cases hv; exact List.mem_cons_self
        | k + 1, h =>
          refine List.mem_cons_of_mem _ ?_
          have := ih As (i + 1) k v w h2 (by simpa [zm_two] using h) hv
          rwa [show i + (k + 1) = i + 1 + k by omega]
theorem zs_args_len {ρ : Nat → Nat} : ∀ (as : List zm_V) (As : List Value), as.map (zs_mv ρ) = As.map some → (lg_sl As).length = (zm_two as).length := by
  intro as
  induction as with
  | nil => intro As h; cases As with
    | nil => rfl
    | cons A As => simp at h
  | cons a as ih =>
    intro As hm
    cases As with
    | nil => simp at hm
    | cons A As =>
      simp only [List.map_cons, List.cons.injEq] at hm
      obtain ⟨h1, h2⟩ := hm
      have hc := zs_mv_cat h1
      have := ih As h2
      simp only [lg_sl, zm_two, List.flatMap_cons, List.length_append] at this ⊢
      rw [hc, this]
      split <;> rfl
theorem zs_entry {ρ : Nat → Nat} {y : Nat} {as : List zm_V} {As : List Value} (hm : as.map (zs_mv ρ) = As.map some) (hl : (zm_ini y as).length = zm_mx y) : zs_lo ρ (zm_ini y as) (zm_mx y) ((lg_sl As ++ List.replicate (zm_mx y - (lg_sl As).length) Slot.unset).toArray) := by
  have hlen := zs_args_len as As hm
  have hle : (lg_sl As).length ≤ zm_mx y := by
    rw [hlen]
    unfold zm_ini at hl
    simp only [List.length_append, List.length_replicate] at hl
    omega
  refine ⟨hl, lv_args 0 As, lv_entry As hle, fun k v w h1 h2 => ?_⟩
  unfold zm_ini at h1
  by_cases hk : k < (zm_two as).length
  · rw [List.getElem?_append_left hk] at h1
    have := zs_args_at as As 0 k v w hm h1 h2
    rwa [Nat.zero_add] at this
  · rw [List.getElem?_append_right (by omega)] at h1
    have := List.eq_of_mem_replicate (List.mem_of_getElem? h1)
    subst this
    cases h2
theorem zs_two_w {nx : Nat} {as : List zm_V} (h : ∀ v ∈ as, zs_w nx v) : ∀ v ∈ zm_two as, zs_w nx v := by
  intro v hv
  obtain ⟨a, ha, h2⟩ := List.mem_flatMap.mp hv
  split at h2
  · rcases List.mem_cons.mp h2 with rfl | h2
    · exact h _ ha
    · rw [List.mem_singleton.mp h2]; trivial
  · rw [List.mem_singleton.mp h2]; exact h _ ha
theorem zs_ini_w {nx y : Nat} {as : List zm_V} (h : ∀ v ∈ as, zs_w nx v) : ∀ v ∈ zm_ini y as, zs_w nx v := by
  intro v hv
  unfold zm_ini at hv
  rcases List.mem_append.mp hv with h1 | h1
  · exact zs_two_w h v h1
  · rw [List.eq_of_mem_replicate h1]; trivial
