/-! THE PLAIN MACHINE, part 3: a run without its fuel, and its equations -/
theorem zm_ck_t {p : Prop} [Decidable p] {α : Type} {x : Option α} (h : p) : zm_ck p x = x := if_pos h
theorem zm_ck_some {p : Prop} [Decidable p] {α : Type} {x : Option α} {r : α} (h : zm_ck p x = some r) : p ∧ x = some r := by
  unfold zm_ck at h
  split at h
  · exact ⟨by assumption, h⟩
  · cases h
theorem zm_ex_mono : ∀ (f : Nat) (X : Option (Nat × (Int → Int))) (md : Bool) (rk y pc : Nat) (loc stk : List zm_V) (S : Nat × zm_H) (r : zm_V × Nat × zm_H), zm_ex X md f rk y pc loc stk S = some r → zm_ex X md (f + 1) rk y pc loc stk S = some r := by
  intro f
  induction f with
  | zero => intro X md rk y pc loc stk S r h; simp [zm_ex] at h
  | succ f ih =>
    intro X md rk y pc loc stk S r h
    rw [zm_ex] at h ⊢
    cases hs : zm_step X md rk y pc loc stk S.1 S.2 with
    | none => rw [hs] at h; cases h
    | some a =>
      rw [hs] at h
      rcases a with ⟨pc', loc', stk', S'⟩ | v | ⟨q, as, rr⟩
      · dsimp only at h ⊢
        obtain ⟨hn, h⟩ := zm_ck_some h
        rw [zm_ck_t hn]
        exact ih _ _ _ _ _ _ _ _ _ h
      · exact h
      · dsimp only at h ⊢
        obtain ⟨hl, h⟩ := zm_ck_some h
        rw [zm_ck_t hl]
        cases hq : zm_ex none md f (zm_rk q as) q 0 (zm_ini q as) [] S with
        | none => rw [hq] at h; cases h
        | some b =>
          rw [hq] at h
          rw [ih _ _ _ _ _ _ _ _ _ hq]
          exact ih _ _ _ _ _ _ _ _ _ h
theorem zm_ex_le {f g : Nat} (hfg : f ≤ g) {X : Option (Nat × (Int → Int))} {md : Bool} {rk y pc : Nat} {loc stk : List zm_V} {S : Nat × zm_H} {r : zm_V × Nat × zm_H} (h : zm_ex X md f rk y pc loc stk S = some r) : zm_ex X md g rk y pc loc stk S = some r := by
  induction hfg with
  | refl => exact h
  | step _ ih => exact zm_ex_mono _ _ _ _ _ _ _ _ _ _ ih
theorem zm_ex_one {f g : Nat} {X : Option (Nat × (Int → Int))} {md : Bool} {rk y pc : Nat} {loc stk : List zm_V} {S : Nat × zm_H} {r r' : zm_V × Nat × zm_H} (h : zm_ex X md f rk y pc loc stk S = some r) (h' : zm_ex X md g rk y pc loc stk S = some r') : r = r' := by
  have a := zm_ex_le (Nat.le_max_left f g) h
  have b := zm_ex_le (Nat.le_max_right f g) h'
  rw [a] at b
  exact Option.some.inj b

noncomputable def zm_run (X : Option (Nat × (Int → Int))) (md : Bool) (rk y pc : Nat) (loc stk : List zm_V) (S : Nat × zm_H) : Option (zm_V × Nat × zm_H) :=
  haveI := Classical.propDecidable (∃ (r : zm_V × Nat × zm_H) (f : Nat), zm_ex X md f rk y pc loc stk S = some r)
  if h : ∃ (r : zm_V × Nat × zm_H) (f : Nat), zm_ex X md f rk y pc loc stk S = some r then some h.choose else none
theorem zm_run_iff {X : Option (Nat × (Int → Int))} {md : Bool} {rk y pc : Nat} {loc stk : List zm_V} {S : Nat × zm_H} {r : zm_V × Nat × zm_H} : zm_run X md rk y pc loc stk S = some r ↔ ∃ f, zm_ex X md f rk y pc loc stk S = some r := by
  unfold zm_run
  split
  · next h =>
    obtain ⟨f, hf⟩ := h.choose_spec
    constructor
    · intro e; cases e; exact ⟨f, hf⟩
    · rintro ⟨g, hg⟩; rw [zm_ex_one hf hg]
  · next h =>
    constructor
    · intro e; cases e
    · rintro ⟨g, hg⟩; exact absurd ⟨r, g, hg⟩ h
theorem zm_opt {α : Type} {a b : Option α} (h : ∀ r, a = some r ↔ b = some r) : a = b := by
  cases a with
  | none => cases b with
    | none => rfl
    | some r => exact absurd ((h r).mpr rfl) (by simp)
  | some r => exact ((h r).mp rfl).symm
section
variable {X : Option (Nat × (Int → Int))} {md : Bool} {rk y pc : Nat} {loc stk : List zm_V} {nx : Nat} {h : zm_H}
theorem zm_run_go {pc' : Nat} {loc' stk' : List zm_V} {nx' : Nat} {h' : zm_H} (hs : zm_step X md rk y pc loc stk nx h = some (.inl (pc', loc', stk', nx', h'))) (hn : nx ≤ nx' ∧ (md = true → nx' = nx)) : zm_run X md rk y pc loc stk (nx, h) = zm_run X md rk y pc' loc' stk' (nx', h') := by
  apply zm_opt
  intro r
  rw [zm_run_iff, zm_run_iff]
  constructor
  · rintro ⟨f, hf⟩
    cases f with
    | zero => simp [zm_ex] at hf
    | succ f => rw [zm_ex, hs] at hf; exact ⟨f, (zm_ck_some hf).2⟩
  · rintro ⟨f, hf⟩
    exact ⟨f + 1, by rw [zm_ex, hs]; dsimp only; rw [zm_ck_t hn]; exact hf⟩
theorem zm_run_ret {v : zm_V} (hs : zm_step X md rk y pc loc stk nx h = some (.inr (.inl v))) : zm_run X md rk y pc loc stk (nx, h) = some (v, nx, h) := by
  rw [zm_run_iff]
  exact ⟨1, by rw [zm_ex, hs]⟩
theorem zm_run_call {q : Nat} {as r : List zm_V} (hs : zm_step X md rk y pc loc stk nx h = some (.inr (.inr (q, as, r)))) (hl : (zm_ini q as).length = zm_mx q) : zm_run X md rk y pc loc stk (nx, h) = (zm_run none md (zm_rk q as) q 0 (zm_ini q as) [] (nx, h)).bind fun u => zm_run X md rk y (pc + 3) loc (zm_push u.1 r) u.2 := by
  apply zm_opt
  intro t
  rw [zm_run_iff]
  constructor
  · rintro ⟨f, hf⟩
    cases f with
    | zero => simp [zm_ex] at hf
    | succ f =>
      rw [zm_ex, hs] at hf
      dsimp only at hf
      obtain ⟨-, hf⟩ := zm_ck_some hf
      cases hq : zm_ex none md f (zm_rk q as) q 0 (zm_ini q as) [] (nx, h) with
      | none => rw [hq] at hf; cases hf
      | some b =>
        rw [hq] at hf
        rw [zm_run_iff.mpr ⟨f, hq⟩]
        exact zm_run_iff.mpr ⟨f, hf⟩
  · intro e
    cases hq : zm_run none md (zm_rk q as) q 0 (zm_ini q as) [] (nx, h) with
    | none => rw [hq] at e; cases e
    | some b =>
      rw [hq] at e
      obtain ⟨f, hf⟩ := zm_run_iff.mp hq
      obtain ⟨g, hg⟩ := zm_run_iff.mp e
      refine ⟨max f g + 1, ?_⟩
      rw [zm_ex, hs]
      dsimp only
      rw [zm_ck_t hl, zm_ex_le (Nat.le_max_left f g) hf]
      exact zm_ex_le (Nat.le_max_right f g) hg
end
