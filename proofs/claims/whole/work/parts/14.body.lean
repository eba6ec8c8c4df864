/-! SOUNDNESS, part 9: a run is a walk, a method's run its contract -/
theorem zs_step_in {X : Option (Nat × (Int → Int))} {md : Bool} {rk y pc : Nat} {loc stk : List zm_V} {nx : Nat} {h : zm_H} {a : zm_N} (hs : zm_step X md rk y pc loc stk nx h = some a) : ∃ i len, decode (zm_code y) pc = .ok (i, len) ∧ (zm_len i = none ∨ zm_len i = some len) ∧ zm_sup i = true ∧ zm_si X md rk y pc loc stk nx h i = some a ∧ (∀ v, a = .inr (.inl v) → zm_kd i = 1) ∧ (∀ q, a = .inr (.inr q) → zm_kd i = 2) := by
  unfold zm_step at hs
  split at hs
  · next i len hd =>
    obtain ⟨⟨h1, h2⟩, hs⟩ := zm_ck_some hs
    refine ⟨i, len, hd, h1, h2, ?_⟩
    unfold zm_fl at hs
    split at hs
    · next v e =>
      obtain ⟨h3, hs⟩ := zm_ck_some hs
      cases hs
      refine ⟨e, ?_, ?_⟩ <;> intro w q <;> first | exact h3 | cases q
    · next v e =>
      obtain ⟨h3, hs⟩ := zm_ck_some hs
      cases hs
      refine ⟨e, ?_, ?_⟩ <;> intro w q <;> first | cases q; done | exact h3
    · next g e =>
      cases hs
      refine ⟨e, ?_, ?_⟩ <;> intro w q <;> cases q
    · cases hs
  · cases hs
def zs_end (y pc : Nat) (v : zm_V) (st : List Value) : Prop :=
  (∃ z, v = zm_I z ∧ decode (zm_code y) pc = .ok (.ireturn, 1) ∧ st = [.int (Int32.ofInt z)] ∧ (zm_ret y = 0 ∨ zm_ret y = 1 ∧ zm_bit z)) ∨
  (∃ z, v = zm_L z ∧ decode (zm_code y) pc = .ok (.lreturn, 1) ∧ st = [.long (Int64.ofInt z)] ∧ zm_ret y = 2) ∨
  (v = zm_U ∧ decode (zm_code y) pc = .ok (.return_, 1) ∧ st = [] ∧ (zm_ret y = 3 ∨ zm_ret y = 4))
theorem zs_is_end {X : Option (Nat × (Int → Int))} {md : Bool} {rk y pc : Nat} {loc stk : List zm_V} {nx : Nat} {h : zm_H} {v : zm_V} {i : Instr} {len : Nat} {ρ : Nat → Nat} {st : List Value} (hd : decode (zm_code y) pc = .ok (i, len)) (hlen : zm_len i = none ∨ zm_len i = some len) (hk : zm_kd i = 1) (hs : zm_si X md rk y pc loc stk nx h i = some (.inr (.inl v))) (hst : stk.map (zs_mv ρ) = st.map some) (hw : ∀ u ∈ stk, zs_w nx u) : zs_end y pc v st ∧ zs_w nx v := by
  cases i
  case ireturn =>
    obtain rfl := zs_len hlen (rfl : _ = some 1)
    simp only [zm_si] at hs
    split at hs
    · next z =>
      obtain ⟨hc, hs⟩ := zm_ck_some hs
      cases hs
      obtain ⟨st2, rfl, hst2⟩ := zs_top hst rfl
      cases st2 with
      | nil => exact ⟨Or.inl ⟨z, rfl, hd, rfl, hc⟩, hw _ List.mem_cons_self⟩
      | cons a b => simp at hst2
    · cases hs
  case lreturn =>
    obtain rfl := zs_len hlen (rfl : _ = some 1)
    simp only [zm_si] at hs
    split at hs
    · next z =>
      obtain ⟨hc, hs⟩ := zm_ck_some hs
      cases hs
      obtain ⟨st2, rfl, hst2⟩ := zs_top hst rfl
      cases st2 with
      | nil => exact ⟨Or.inr (Or.inl ⟨z, rfl, hd, rfl, hc⟩), hw _ List.mem_cons_self⟩
      | cons a b => simp at hst2
    · cases hs
  case return_ =>
    obtain rfl := zs_len hlen (rfl : _ = some 1)
    simp only [zm_si] at hs
    split at hs
    · obtain ⟨hc, hs⟩ := zm_ck_some hs
      cases hs
      cases st with
      | nil => exact ⟨Or.inr (Or.inr ⟨rfl, hd, rfl, hc⟩), trivial⟩
      | cons a b => simp at hst
    · cases hs
  all_goals first | exact absurd (show (0 : Nat) = 1 from hk) (by decide) | exact absurd (show (2 : Nat) = 1 from hk) (by decide)
/-- what a method's contract says: before, behind -/
def zs_B0 (D : va_G) (kA : Nat → ClassId) (ρ : Nat → Nat) (md : Bool) (as : List zm_V) (nx : Nat) (h : zm_H) (sz : Nat) (U : State) : Prop :=
  U.heap.size = sz ∧ va_P D zm_cl (zs_ws kA ρ md nx h) U.heap ∧ va_K D zm_cl (zs_tys kA) U ∧ va_D (fun _ => True) (zs_ws kA ρ md nx h) ∧ zs_RO ρ (va_A (zs_ws kA ρ md nx h) sz) U ∧ zs_hw md nx h ∧ (∀ v ∈ as, zs_w nx v) ∧ 4 ≤ nx
def zs_B1 (D : va_G) (kA : Nat → ClassId) (ρ : Nat → Nat) (md : Bool) (nx : Nat) (h : zm_H) (sz : Nat) (v : zm_V) (nx1 : Nat) (h1 : zm_H) (u : Nat → Nat) (t : State) : Prop :=
  (∀ a, a < nx → u a = ρ a) ∧ va_P D zm_cl (zs_ws kA u md nx1 h1) t.heap ∧ va_D (va_A (zs_ws kA ρ md nx h) sz) (zs_ws kA u md nx1 h1) ∧ zs_hw md nx1 h1 ∧ zs_w nx1 v ∧ ∀ a, v ≠ zm_A a
def zs_Q (D : va_G) (kA : Nat → ClassId) (ρ : Nat → Nat) (md : Bool) (nx : Nat) (h : zm_H) (sz : Nat) (v : zm_V) (nx1 : Nat) (h1 : zm_H) : Array Value → State → Outcome → State → Prop := match v with
  | .inl z => va_Qi (fun r (_ : Nat → Nat) => r = Int32.ofInt z) (zs_B1 D kA ρ md nx h sz v nx1 h1) (va_A (zs_ws kA ρ md nx h) sz)
  | .inr (.inl z) => va_Ql (fun r (_ : Nat → Nat) => r = Int64.ofInt z) (zs_B1 D kA ρ md nx h sz v nx1 h1) (va_A (zs_ws kA ρ md nx h) sz)
  | _ => va_Qv (fun (_ : Nat → Nat) => True) (zs_B1 D kA ρ md nx h sz v nx1 h1) (va_A (zs_ws kA ρ md nx h) sz)
def zs_wy (y : Nat) : List Cond := .code (zm_mn y) (zm_code y) (zm_mx y) (zs_rt (zm_ret y)) :: zs_tb
def zs_rm (rk c n : Nat) : Room := { frames := rk, cells := c, slots := n, locals := 40 * rk }
def zs_M (l : Launch) (f : Nat) : Prop := ∀ (md : Bool) (q : Nat) (as : List zm_V) (nx : Nat) (h : zm_H) (v : zm_V) (nx1 : Nat) (h1 : zm_H), q < 275 → (zm_ini q as).length = zm_mx q → zm_ex none md f (zm_rk q as) q 0 (zm_ini q as) [] (nx, h) = some (v, nx1, h1) →
  ∀ (D : va_G) (kA : Nat → ClassId) (ρ : Nat → Nat) (sz : Nat) (As : List Value), as.map (zs_mv ρ) = As.map some →
    Met l (zm_mn q) (zs_wy q) (zs_rm (zm_rk q as) (nx1 - nx) (zs_sl nx1 - zs_sl nx)) (va_Pc As (zs_B0 D kA ρ md as nx h sz)) (zs_Q D kA ρ md nx h sz v nx1 h1) (nx1 - nx) (zs_sl nx1 - zs_sl nx) (va_A (zs_ws kA ρ md nx h) sz)
theorem zs_fA {A : Nat → Prop} {s : State} {H : Heap} {locs : List Loc} {ws : va_W} (hD : va_D A ws) (hS : va_S A s.heap H locs) (hA : ∀ q, s.heap.size ≤ q → A q) : ∀ q, va_A ws H.size q → A q := by
  rintro q (⟨k, e, h⟩ | h)
  · exact hD.2 k _ h
  · exact hA q (Nat.le_trans hS.1 h)
theorem zs_B0_blind {D : va_G} {kA : Nat → ClassId} {ρ : Nat → Nat} {md : Bool} {as : List zm_V} {nx : Nat} {h : zm_H} {sz : Nat} {As : List Value} : FrameBlind (va_Pc As (zs_B0 D kA ρ md as nx h sz)) := by
  intro a U g mk q
  obtain ⟨q0, q1, q2, q3, q4, q5, q6⟩ := q
  exact ⟨q0, q1, q2, va_K.moved (u := U) (U := U.calling g mk a) (Vm.Alike.refl U.vm) q3, q4, zs_RO_call q5, q6⟩

section
variable {p : Program} {l : Launch} {e : Env} {R : Room} {s : State} {m : MethodId} {args : Array Value} {below : List Frame} {meth : Method} {c : Code} {Q : State → Prop}
variable {md : Bool} {rk y pc : Nat} {loc stk : List zm_V} {nx : Nat} {h : zm_H} {nx1 : Nat} {h1 : zm_H}
variable {D : va_G} {kA : Nat → ClassId} {A : Nat → Prop} {ρ : Nat → Nat} {H : Heap} {locs : List Loc} {ls : Array Slot} {st : List Value} {nx0 nL : Nat}
/-- behind a call -/
theorem zs_back {As rest : List Value} {r : List zm_V} {v : zm_V} (hS : va_S A s.heap H locs) (hfA : ∀ q, va_A (zs_ws kA ρ md nx h) H.size q → A q)
    (hL : zs_lo ρ loc nL ls) (hwl : ∀ v ∈ loc, zs_w nx v) (hst : r.map (zs_mv ρ) = rest.map some) (hw : ∀ v ∈ r, zs_w nx v) (h4 : 4 ≤ nx) (hn : nx ≤ nx1)
    (hr : va_Run p l e R s m args below meth c H locs (nx - nx0) (zs_sl nx - zs_sl nx0) (nx1 - nx) (zs_sl nx1 - zs_sl nx) (F0 m pc ls st) rest (zs_Q D kA ρ md nx h H.size v nx1 h1 As.toArray) (va_A (zs_ws kA ρ md nx h) H.size)) (h0 : nx0 ≤ nx)
    (k : zs_K p l e R s m args below meth c Q D kA A nL ρ md nx0 (pc + 3) loc (zm_push v r) nx nx1 h1) : W p l e R s m args below meth c H locs (nx - nx0) (zs_sl nx - zs_sl nx0) Q (F0 m pc ls st) := by
  have e1 : nx - nx0 + (nx1 - nx) = nx1 - nx0 := by omega
  have e2 : zs_sl nx - zs_sl nx0 + (zs_sl nx1 - zs_sl nx) = zs_sl nx1 - zs_sl nx0 := by
    have a1 := zs_mono h0
    have a2 := zs_mono hn
    omega
  have fin : ∀ (u : Nat → Nat) (t : State) (H1 : Heap) (locs1 : List Loc) (w : List Value), t.heap = H1 → zs_B1 D kA ρ md nx h H.size v nx1 h1 u t → va_S A s.heap H1 locs1 → (zm_push v r).map (zs_mv u) = w.map some → W p l e R s m args below meth c H1 locs1 (nx - nx0 + (nx1 - nx)) (zs_sl nx - zs_sl nx0 + (zs_sl nx1 - zs_sl nx)) Q (F0 m (pc + 3) ls w) := by
    intro u t H1 locs1 w ht hB hS1 hw1
    obtain ⟨hag, hP1, hD1, hh1, hv, -⟩ := hB
    rw [ht] at hP1
    rw [e1, e2]
    refine k u H1 locs1 ls w hag ⟨hP1, hD1.weaken (fun _ q _ hq => hfA q.1 hq), hS1, ?_, hw1, ?_, fun x hx => zs_w_mono hn (hwl x hx), hh1, by omega⟩
    · obtain ⟨hl, lv, a1, a2⟩ := hL
      exact ⟨hl, lv, a1, fun k v w hv hm => a2 k v w hv (by rw [← zs_mv_congr hag (hwl v (List.mem_of_getElem? hv))]; exact hm)⟩
    · intro x hx
      unfold zm_push at hx
      split at hx
      · exact zs_w_mono hn (hw x hx)
      · rcases List.mem_cons.mp hx with rfl | hx
        · exact hv
        · exact zs_w_mono hn (hw x hx)
  have hst' : ∀ u : Nat → Nat, (∀ a, a < nx → u a = ρ a) → r.map (zs_mv u) = rest.map some := fun u hag => by
    rw [← hst]; exact List.map_congr_left fun x hx => zs_mv_congr hag (hw x hx)
  rcases v with z | z | a | b
  · refine va_calli (a := As.toArray) hr hS (fun q _ hq => hfA q hq) (fun q hq => hfA q hq) (fun rv u t H1 locs1 ht _ hp hB _ _ hS1 => ?_)
    subst hp
    exact fin u t H1 locs1 _ ht hB hS1 (zs_psh rfl (hst' u hB.1))
  · refine va_calll (a := As.toArray) hr hS (fun q _ hq => hfA q hq) (fun q hq => hfA q hq) (fun rv u t H1 locs1 ht _ hp hB _ _ hS1 => ?_)
    subst hp
    exact fin u t H1 locs1 _ ht hB hS1 (zs_psh rfl (hst' u hB.1))
  · refine va_callv (a := As.toArray) hr hS (fun q _ hq => hfA q hq) (fun q hq => hfA q hq) (fun u t H1 locs1 ht _ hp hB _ _ hS1 => ?_)
    exact absurd rfl (hB.2.2.2.2.2 a)
  · refine va_callv (a := As.toArray) hr hS (fun q _ hq => hfA q hq) (fun q hq => hfA q hq) (fun u t H1 locs1 ht _ hp hB _ _ hS1 => ?_)
    exact fin u t H1 locs1 _ ht hB hS1 (hst' u hB.1)
end
