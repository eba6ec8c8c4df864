/-! THE PLAIN MACHINE IN USE, part 1: steps of the made system (nothing new is made) -/
theorem zs_step_in {X : Option (Nat × (Int → Int))} {md : Bool} {rk y pc : Nat} {loc stk : List zm_V} {nx : Nat} {h : zm_H} {a : zm_N} (hs : zm_step X md rk y pc loc stk nx h = some a) : ∃ i len, decode (zm_code y) pc = .ok (i, len) ∧ (zm_len i = none ∨ zm_len i = some len) ∧ zm_sup i = true ∧ zm_si X md rk y pc loc stk nx h i = some a ∧ (∀ v, a = .inr (.inl v) → zm_kd i = 1) ∧ (∀ q, a = .inr (.inr q) → zm_kd i = 2) := by
  unfold zm_step at hs
  split at hs
  · next i len hd =>
    obtain ⟨⟨h1, h2⟩, hs⟩ := zm_ck_some hs
    refine ⟨i, len, hd, h1, h2, ?_⟩
    unfold zm_fl at hs
    split at hs
    · next v e =>
      obtain ⟨h3, hs⟩ := zm_ck_some hs
      cases hs
      refine ⟨e, ?_, ?_⟩ <;> intro w q <;> first | exact h3 | cases q
    · next v e =>
      obtain ⟨h3, hs⟩ := zm_ck_some hs
      cases hs
      refine ⟨e, ?_, ?_⟩ <;> intro w q <;> first | cases q; done | exact h3
    · next g e =>
      cases hs
      refine ⟨e, ?_, ?_⟩ <;> intro w q <;> cases q
    · cases hs
  · cases hs
theorem zs_ex_nx : ∀ (f : Nat) (X : Option (Nat × (Int → Int))) (md : Bool) (rk y pc : Nat) (loc stk : List zm_V) (S : Nat × zm_H) (r : zm_V × Nat × zm_H), zm_ex X md f rk y pc loc stk S = some r → S.1 ≤ r.2.1 ∧ (md = true → r.2.1 = S.1) := by
  intro f
  induction f with
  | zero => intro X md rk y pc loc stk S r h; simp [zm_ex] at h
  | succ f ih =>
    intro X md rk y pc loc stk S r h
    rw [zm_ex] at h
    cases hs : zm_step X md rk y pc loc stk S.1 S.2 with
    | none => rw [hs] at h; cases h
    | some a =>
      rw [hs] at h
      rcases a with ⟨pc', loc', stk', nx', h'⟩ | v | ⟨q, as, rr⟩
      · dsimp only at h
        obtain ⟨h1, h⟩ := zm_ck_some h
        have h2 := ih _ _ _ _ _ _ _ _ _ h
        exact ⟨Nat.le_trans h1.1 h2.1, fun e => (h2.2 e).trans (h1.2 e)⟩
      · cases h; exact ⟨Nat.le_refl _, fun _ => rfl⟩
      · dsimp only at h
        obtain ⟨hl, h⟩ := zm_ck_some h
        cases hq : zm_ex none md f (zm_rk q as) q 0 (zm_ini q as) [] S with
        | none => rw [hq] at h; cases h
        | some b =>
          rw [hq] at h
          have h1 := ih _ _ _ _ _ _ _ _ _ hq
          have h2 := ih _ _ _ _ _ _ _ _ _ h
          exact ⟨Nat.le_trans h1.1 h2.1, fun e => (h2.2 e).trans (h1.2 e)⟩
theorem zs_end_ty {X : Option (Nat × (Int → Int))} {md : Bool} {rk y pc : Nat} {loc stk : List zm_V} {nx : Nat} {h : zm_H} {v : zm_V} {i : Instr} (hk : zm_kd i = 1) (hs : zm_si X md rk y pc loc stk nx h i = some (.inr (.inl v))) : ((∃ z, v = zm_I z) ∧ zm_ret y ≤ 1) ∨ ((∃ z, v = zm_L z) ∧ zm_ret y = 2) ∨ (v = zm_U ∧ (zm_ret y = 3 ∨ zm_ret y = 4)) := by
  cases i
  case ireturn =>
    simp only [zm_si] at hs
    split at hs
    · next z =>
      obtain ⟨hc, hs⟩ := zm_ck_some hs
      cases hs
      exact Or.inl ⟨⟨z, rfl⟩, by omega⟩
    · cases hs
  case lreturn =>
    simp only [zm_si] at hs
    split at hs
    · next z =>
      obtain ⟨hc, hs⟩ := zm_ck_some hs
      cases hs
      exact Or.inr (Or.inl ⟨⟨z, rfl⟩, hc⟩)
    · cases hs
  case return_ =>
    simp only [zm_si] at hs
    split at hs
    · obtain ⟨hc, hs⟩ := zm_ck_some hs
      cases hs
      exact Or.inr (Or.inr ⟨rfl, hc⟩)
    · cases hs
  all_goals first | exact absurd (show (0 : Nat) = 1 from hk) (by decide) | exact absurd (show (2 : Nat) = 1 from hk) (by decide)
theorem zs_ex_ty : ∀ (f : Nat) (X : Option (Nat × (Int → Int))) (md : Bool) (rk y pc : Nat) (loc stk : List zm_V) (S : Nat × zm_H) (r : zm_V × Nat × zm_H), zm_ex X md f rk y pc loc stk S = some r → ((∃ z, r.1 = zm_I z) ∧ zm_ret y ≤ 1) ∨ ((∃ z, r.1 = zm_L z) ∧ zm_ret y = 2) ∨ (r.1 = zm_U ∧ (zm_ret y = 3 ∨ zm_ret y = 4)) := by
  intro f
  induction f with
  | zero => intro X md rk y pc loc stk S r h; simp [zm_ex] at h
  | succ f ih =>
    intro X md rk y pc loc stk S r h
    rw [zm_ex] at h
    cases hs : zm_step X md rk y pc loc stk S.1 S.2 with
    | none => rw [hs] at h; cases h
    | some a =>
      rw [hs] at h
      obtain ⟨i, len, hd, hlen, hsup, hsi, hk1, hk2⟩ := zs_step_in hs
      rcases a with ⟨pc', loc', stk', nx', h'⟩ | v | ⟨q, as, rr⟩
      · exact ih _ _ _ _ _ _ _ _ _ (zm_ck_some h).2
      · cases h; exact zs_end_ty (hk1 _ rfl) hsi
      · dsimp only at h
        obtain ⟨hl, h⟩ := zm_ck_some h
        cases hq : zm_ex none md f (zm_rk q as) q 0 (zm_ini q as) [] S with
        | none => rw [hq] at h; cases h
        | some b => rw [hq] at h; exact ih _ _ _ _ _ _ _ _ _ h
noncomputable def zr (X : Option (Nat × (Int → Int))) (rk y pc : Nat) (loc stk : List zm_V) (h : zm_H) : Option (zm_V × zm_H) := (zm_run X true rk y pc loc stk (zm_NX, h)).map fun r => (r.1, r.2.2)
noncomputable def zc (q : Nat) (as : List zm_V) (h : zm_H) : Option (zm_V × zm_H) := zr none (zm_rk q as) q 0 (zm_ini q as) [] h
def zk_I (x : Option (zm_V × zm_H)) (k : Int → zm_H → Option (zm_V × zm_H)) : Option (zm_V × zm_H) := match x with
  | some (.inl z, h) => k z h
  | _ => none
def zk_L (x : Option (zm_V × zm_H)) (k : Int → zm_H → Option (zm_V × zm_H)) : Option (zm_V × zm_H) := match x with
  | some (.inr (.inl z), h) => k z h
  | _ => none
def zk_V (x : Option (zm_V × zm_H)) (k : zm_H → Option (zm_V × zm_H)) : Option (zm_V × zm_H) := match x with
  | some (.inr (.inr (.inr _)), h) => k h
  | _ => none
/-- what is told on the left holds on the right -/
def zl (a b : Option (zm_V × zm_H)) : Prop := ∀ r, a = some r → b = some r
theorem zl_rf {a : Option (zm_V × zm_H)} : zl a a := fun _ h => h
theorem zl_tr {a b c : Option (zm_V × zm_H)} (h1 : zl b c) (h2 : zl a b) : zl a c := fun r h => h1 r (h2 r h)
theorem zl_ck {p : Prop} [Decidable p] {a b : Option (zm_V × zm_H)} (h : zl a b) : zl (zm_ck p a) (zm_ck p b) := fun r e => by
  obtain ⟨hp, e⟩ := zm_ck_some e
  rw [zm_ck_t hp]; exact h r e
theorem zl_if {p : Prop} [Decidable p] {a b a' b' : Option (zm_V × zm_H)} (h1 : zl a a') (h2 : zl b b') : zl (if p then a else b) (if p then a' else b') := fun r e => by
  split
  · rw [if_pos (by assumption)] at e; exact h1 r e
  · rw [if_neg (by assumption)] at e; exact h2 r e
theorem zl_I {x : Option (zm_V × zm_H)} {k k' : Int → zm_H → Option (zm_V × zm_H)} (h : ∀ z g, zl (k z g) (k' z g)) : zl (zk_I x k) (zk_I x k') := fun r e => by
  unfold zk_I at e ⊢
  split
  · next z g => exact h z g r e
  · next hne => split at e
                · next z g => exact absurd rfl (hne z g)
                · cases e
theorem zl_L {x : Option (zm_V × zm_H)} {k k' : Int → zm_H → Option (zm_V × zm_H)} (h : ∀ z g, zl (k z g) (k' z g)) : zl (zk_L x k) (zk_L x k') := fun r e => by
  unfold zk_L at e ⊢
  split
  · next z g => exact h z g r e
  · next hne => split at e
                · next z g => exact absurd rfl (hne z g)
                · cases e
theorem zl_V {x : Option (zm_V × zm_H)} {k k' : zm_H → Option (zm_V × zm_H)} (h : ∀ g, zl (k g) (k' g)) : zl (zk_V x k) (zk_V x k') := fun r e => by
  unfold zk_V at e ⊢
  split
  · next z g => exact h g r e
  · next hne => split at e
                · next z g => exact absurd rfl (hne z g)
                · cases e
/-- use: what is asked of the left gives the right -/
theorem zk_ck {p : Prop} [Decidable p] {a : Option (zm_V × zm_H)} {r : zm_V × zm_H} (hp : p) (h : a = some r) : zm_ck p a = some r := by rw [zm_ck_t hp]; exact h
theorem zk_iI {x : Option (zm_V × zm_H)} {k : Int → zm_H → Option (zm_V × zm_H)} {z : Int} {g : zm_H} {r : zm_V × zm_H} (hx : x = some (zm_I z, g)) (h : k z g = some r) : zk_I x k = some r := by rw [hx]; exact h
theorem zk_iL {x : Option (zm_V × zm_H)} {k : Int → zm_H → Option (zm_V × zm_H)} {z : Int} {g : zm_H} {r : zm_V × zm_H} (hx : x = some (zm_L z, g)) (h : k z g = some r) : zk_L x k = some r := by rw [hx]; exact h
theorem zk_iV {x : Option (zm_V × zm_H)} {k : zm_H → Option (zm_V × zm_H)} {g : zm_H} {r : zm_V × zm_H} (hx : x = some (zm_U, g)) (h : k g = some r) : zk_V x k = some r := by rw [hx]; exact h
section
variable {X : Option (Nat × (Int → Int))} {rk y pc : Nat} {loc stk : List zm_V} {h : zm_H}
theorem zr_go {pc' : Nat} {loc' stk' : List zm_V} {h' : zm_H} (hs : zm_step X true rk y pc loc stk zm_NX h = some (.inl (pc', loc', stk', zm_NX, h'))) : zr X rk y pc loc stk h = zr X rk y pc' loc' stk' h' := by
  unfold zr
  rw [zm_run_go hs ⟨Nat.le_refl _, fun _ => rfl⟩]
theorem zr_ret {v : zm_V} (hs : zm_step X true rk y pc loc stk zm_NX h = some (.inr (.inl v))) : zr X rk y pc loc stk h = some (v, h) := by
  unfold zr
  rw [zm_run_ret hs]; rfl
theorem zr_call {q : Nat} {as r : List zm_V} (hs : zm_step X true rk y pc loc stk zm_NX h = some (.inr (.inr (q, as, r)))) (hl : (zm_ini q as).length = zm_mx q) : zr X rk y pc loc stk h = (zc q as h).bind fun u => zr X rk y (pc + 3) loc (zm_push u.1 r) u.2 := by
  unfold zc zr
  rw [zm_run_call hs hl]
  cases hq : zm_run none true (zm_rk q as) q 0 (zm_ini q as) [] (zm_NX, h) with
  | none => rfl
  | some b =>
    obtain ⟨f, hf⟩ := zm_run_iff.mp hq
    have := (zs_ex_nx _ _ _ _ _ _ _ _ _ _ hf).2 rfl
    obtain ⟨v, nx', h'⟩ := b
    dsimp only at this
    subst this
    rfl
theorem zc_ty {q : Nat} {as : List zm_V} {v : zm_V} {g : zm_H} (hc : zc q as h = some (v, g)) : ((∃ z, v = zm_I z) ∧ zm_ret q ≤ 1) ∨ ((∃ z, v = zm_L z) ∧ zm_ret q = 2) ∨ (v = zm_U ∧ (zm_ret q = 3 ∨ zm_ret q = 4)) := by
  unfold zc zr at hc
  cases hq : zm_run none true (zm_rk q as) q 0 (zm_ini q as) [] (zm_NX, h) with
  | none => rw [hq] at hc; cases hc
  | some b =>
    rw [hq] at hc
    cases hc
    obtain ⟨f, hf⟩ := zm_run_iff.mp hq
    exact zs_ex_ty _ _ _ _ _ _ _ _ _ _ hf
theorem zr_step {i : Instr} {len : Nat} {a : zm_N} (hd : decode (zm_code y) pc = .ok (i, len)) (hl : zm_len i = none ∨ zm_len i = some len) (hsup : zm_sup i = true) (hs : zm_fl i (zm_si X true rk y pc loc stk zm_NX h i) = some a) : zm_step X true rk y pc loc stk zm_NX h = some a := by
  unfold zm_step
  rw [hd]
  dsimp only
  rw [zm_ck_t ⟨hl, hsup⟩]
  exact hs
end
