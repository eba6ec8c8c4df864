/-! SOUNDNESS, part 7c: what a method's contract says, and how a call of it is gone through -/
theorem zs_goodIn {ws : List Cond} (h : ∀ w ∈ ws, w ∈ zs_tb) : GoodIn zs_tb ws := fun w hw => ⟨h w hw, good_of_word (List.mem_filter.mp (h w hw)).2⟩
theorem zs_cats {ρ : Nat → Nat} : ∀ {r : List zm_V} {st : List Value}, r.map (zs_mv ρ) = st.map some → (st.map fun v => v.category).sum = zm_cats r := by
  intro r
  induction r with
  | nil => intro st h; cases st with
    | nil => rfl
    | cons a b => simp at h
  | cons a r ih =>
    intro st h
    cases st with
    | nil => simp at h
    | cons b st =>
      simp only [List.map_cons, List.cons.injEq] at h
      have := ih h.2
      unfold zm_cats at this ⊢
      simp only [List.map_cons, List.sum_cons, this, zs_mv_cat h.1]
theorem zs_cal_ok {own ix : Nat} {q : Nat × Nat × Nat × Nat × Nat × Nat} (h : zm_cal own ix = some q) : zs_calchk own (ix, q) = true := by
  have h1 := zs_lookup h
  match own, h1 with
  | 0, h1 => exact List.all_eq_true.mp zs_cal_0 _ h1
  | 1, h1 => exact List.all_eq_true.mp zs_cal_1 _ h1
  | 2, h1 => exact List.all_eq_true.mp zs_cal_2 _ h1
  | 3, h1 => exact List.all_eq_true.mp zs_cal_3 _ h1
  | 4, h1 => exact List.all_eq_true.mp zs_cal_4 _ h1
  | 5, h1 => exact List.all_eq_true.mp zs_cal_5 _ h1
  | 6, h1 => exact List.all_eq_true.mp zs_cal_6 _ h1
  | 7, h1 => exact List.all_eq_true.mp zs_cal_7 _ h1
  | 8, h1 => exact List.all_eq_true.mp zs_cal_8 _ h1
  | 9, h1 => exact List.all_eq_true.mp zs_cal_9 _ h1
  | 10, h1 => exact List.all_eq_true.mp zs_cal_10 _ h1
  | 11, h1 => exact List.all_eq_true.mp zs_cal_11 _ h1
  | 12, h1 => exact List.all_eq_true.mp zs_cal_12 _ h1
  | 13, h1 => exact List.all_eq_true.mp zs_cal_13 _ h1
  | 14, h1 => exact List.all_eq_true.mp zs_cal_14 _ h1
  | k + 15, h1 =>
    have : zm_calL.getD (k + 15) [] = [] := by
      rw [List.getD_eq_getElem?_getD, List.getElem?_eq_none (show zm_calL.length ≤ k + 15 from by show 15 ≤ k + 15; omega)]
      rfl
    rw [this] at h1
    cases h1
theorem zs_len {i : Instr} {n len : Nat} (h : zm_len i = none ∨ zm_len i = some len) (e : zm_len i = some n) : len = n := by
  rcases h with q | q
  · rw [e] at q; cases q
  · rw [e] at q; exact (Option.some.inj q).symm
/-- what a method's contract says: before, behind -/
def zs_B0 (D : va_G) (kA : Nat → ClassId) (ρ : Nat → Nat) (md : Bool) (as : List zm_V) (nx : Nat) (h : zm_H) (sz : Nat) (U : State) : Prop :=
  U.heap.size = sz ∧ va_P D zm_cl (zs_ws kA ρ md nx h) U.heap ∧ va_K D zm_cl (zs_tys kA) U ∧ va_D (fun _ => True) (zs_ws kA ρ md nx h) ∧ zs_RO ρ (va_A (zs_ws kA ρ md nx h) sz) U ∧ zs_hw md nx h ∧ (∀ v ∈ as, zs_w nx v) ∧ 4 ≤ nx
def zs_B1 (D : va_G) (kA : Nat → ClassId) (ρ : Nat → Nat) (md : Bool) (nx : Nat) (h : zm_H) (sz : Nat) (v : zm_V) (nx1 : Nat) (h1 : zm_H) (u : Nat → Nat) (t : State) : Prop :=
  (∀ a, a < nx → u a = ρ a) ∧ va_P D zm_cl (zs_ws kA u md nx1 h1) t.heap ∧ va_D (va_A (zs_ws kA ρ md nx h) sz) (zs_ws kA u md nx1 h1) ∧ zs_hw md nx1 h1 ∧ zs_w nx1 v ∧ ∀ a, v ≠ zm_A a
def zs_Q (D : va_G) (kA : Nat → ClassId) (ρ : Nat → Nat) (md : Bool) (nx : Nat) (h : zm_H) (sz : Nat) (v : zm_V) (nx1 : Nat) (h1 : zm_H) : Array Value → State → Outcome → State → Prop := match v with
  | .inl z => va_Qi (fun r (_ : Nat → Nat) => r = Int32.ofInt z) (zs_B1 D kA ρ md nx h sz v nx1 h1) (va_A (zs_ws kA ρ md nx h) sz)
  | .inr (.inl z) => va_Ql (fun r (_ : Nat → Nat) => r = Int64.ofInt z) (zs_B1 D kA ρ md nx h sz v nx1 h1) (va_A (zs_ws kA ρ md nx h) sz)
  | _ => va_Qv (fun (_ : Nat → Nat) => True) (zs_B1 D kA ρ md nx h sz v nx1 h1) (va_A (zs_ws kA ρ md nx h) sz)
def zs_wy (y : Nat) : List Cond := .code (zm_mn y) (zm_code y) (zm_mx y) (zs_rt (zm_ret y)) :: zs_tb
def zs_rm (rk c n : Nat) : Room := { frames := rk + 4, cells := c, slots := n, locals := 40 * rk + 160 }
def zs_M (l : Launch) (f : Nat) : Prop := ∀ (md : Bool) (q : Nat) (as : List zm_V) (nx : Nat) (h : zm_H) (v : zm_V) (nx1 : Nat) (h1 : zm_H), q < 275 → (zm_ini q as).length = zm_mx q → zm_ex none md f (zm_rk q as) q 0 (zm_ini q as) [] (nx, h) = some (v, nx1, h1) →
  ∀ (D : va_G) (kA : Nat → ClassId) (ρ : Nat → Nat) (sz : Nat) (As : List Value), as.map (zs_mv ρ) = As.map some →
    Met l (zm_mn q) (zs_wy q) (zs_rm (zm_rk q as) (nx1 - nx) (zs_sl nx1 - zs_sl nx)) (va_Pc As (zs_B0 D kA ρ md as nx h sz)) (zs_Q D kA ρ md nx h sz v nx1 h1) (nx1 - nx) (zs_sl nx1 - zs_sl nx) (va_A (zs_ws kA ρ md nx h) sz)
theorem zs_fA {A : Nat → Prop} {s : State} {H : Heap} {locs : List Loc} {ws : va_W} (hD : va_D A ws) (hS : va_S A s.heap H locs) (hA : ∀ q, s.heap.size ≤ q → A q) : ∀ q, va_A ws H.size q → A q := by
  rintro q (⟨k, e, h⟩ | h)
  · exact hD.2 k _ h
  · exact hA q (Nat.le_trans hS.1 h)
theorem zs_B0_blind {D : va_G} {kA : Nat → ClassId} {ρ : Nat → Nat} {md : Bool} {as : List zm_V} {nx : Nat} {h : zm_H} {sz : Nat} {As : List Value} : FrameBlind (va_Pc As (zs_B0 D kA ρ md as nx h sz)) := by
  intro a U g mk q
  obtain ⟨q0, q1, q2, q3, q4, q5, q6⟩ := q
  exact ⟨q0, q1, q2, va_K.moved (u := U) (U := U.calling g mk a) (Vm.Alike.refl U.vm) q3, q4, zs_RO_call q5, q6⟩

section
variable {p : Program} {l : Launch} {e : Env} {R : Room} {s : State} {m : MethodId} {args : Array Value} {below : List Frame} {meth : Method} {c : Code} {Q : State → Prop}
variable {md : Bool} {rk y pc : Nat} {loc stk : List zm_V} {nx : Nat} {h : zm_H} {nx1 : Nat} {h1 : zm_H}
variable {D : va_G} {kA : Nat → ClassId} {A : Nat → Prop} {ρ : Nat → Nat} {H : Heap} {locs : List Loc} {ls : Array Slot} {st : List Value} {nx0 nL : Nat}
/-- behind a call -/
theorem zs_back {As rest : List Value} {r : List zm_V} {v : zm_V} (hS : va_S A s.heap H locs) (hfA : ∀ q, va_A (zs_ws kA ρ md nx h) H.size q → A q)
    (hL : zs_lo ρ loc nL ls) (hwl : ∀ v ∈ loc, zs_w nx v) (hst : r.map (zs_mv ρ) = rest.map some) (hw : ∀ v ∈ r, zs_w nx v) (h4 : 4 ≤ nx) (hn : nx ≤ nx1)
    (hr : va_Run p l e R s m args below meth c H locs (nx - nx0) (zs_sl nx - zs_sl nx0) (nx1 - nx) (zs_sl nx1 - zs_sl nx) (F0 m pc ls st) rest (zs_Q D kA ρ md nx h H.size v nx1 h1 As.toArray) (va_A (zs_ws kA ρ md nx h) H.size)) (h0 : nx0 ≤ nx)
    (k : zs_K p l e R s m args below meth c Q D kA A nL ρ md nx0 (pc + 3) loc (zm_push v r) nx nx1 h1) : W p l e R s m args below meth c H locs (nx - nx0) (zs_sl nx - zs_sl nx0) Q (F0 m pc ls st) := by
  have e1 : nx - nx0 + (nx1 - nx) = nx1 - nx0 := by omega
  have e2 : zs_sl nx - zs_sl nx0 + (zs_sl nx1 - zs_sl nx) = zs_sl nx1 - zs_sl nx0 := by
    have a1 := zs_mono h0
    have a2 := zs_mono hn
    omega
  have fin : ∀ (u : Nat → Nat) (t : State) (H1 : Heap) (locs1 : List Loc) (w : List Value), t.heap = H1 → zs_B1 D kA ρ md nx h H.size v nx1 h1 u t → va_S A s.heap H1 locs1 → (zm_push v r).map (zs_mv u) = w.map some → W p l e R s m args below meth c H1 locs1 (nx - nx0 + (nx1 - nx)) (zs_sl nx - zs_sl nx0 + (zs_sl nx1 - zs_sl nx)) Q (F0 m (pc + 3) ls w) := by
    intro u t H1 locs1 w ht hB hS1 hw1
    obtain ⟨hag, hP1, hD1, hh1, hv, -⟩ := hB
    rw [ht] at hP1
    rw [e1, e2]
    refine k u H1 locs1 ls w hag ⟨hP1, hD1.weaken (fun _ q _ hq => hfA q.1 hq), hS1, ?_, hw1, ?_, fun x hx => zs_w_mono hn (hwl x hx), hh1, by omega⟩
    · obtain ⟨hl, lv, a1, a2⟩ := hL
      exact ⟨hl, lv, a1, fun k v w hv hm => a2 k v w hv (by rw [← zs_mv_congr hag (hwl v (List.mem_of_getElem? hv))]; exact hm)⟩
    · intro x hx
      unfold zm_push at hx
      split at hx
      · exact zs_w_mono hn (hw x hx)
      · rcases List.mem_cons.mp hx with rfl | hx
        · exact hv
        · exact zs_w_mono hn (hw x hx)
  have hst' : ∀ u : Nat → Nat, (∀ a, a < nx → u a = ρ a) → r.map (zs_mv u) = rest.map some := fun u hag => by
    rw [← hst]; exact List.map_congr_left fun x hx => zs_mv_congr hag (hw x hx)
  rcases v with z | z | a | b
  · refine va_calli (a := As.toArray) hr hS (fun q _ hq => hfA q hq) (fun q hq => hfA q hq) (fun rv u t H1 locs1 ht _ hp hB _ _ hS1 => ?_)
    subst hp
    exact fin u t H1 locs1 _ ht hB hS1 (zs_psh rfl (hst' u hB.1))
  · refine va_calll (a := As.toArray) hr hS (fun q _ hq => hfA q hq) (fun q hq => hfA q hq) (fun rv u t H1 locs1 ht _ hp hB _ _ hS1 => ?_)
    subst hp
    exact fin u t H1 locs1 _ ht hB hS1 (zs_psh rfl (hst' u hB.1))
  · refine va_callv (a := As.toArray) hr hS (fun q _ hq => hfA q hq) (fun q hq => hfA q hq) (fun u t H1 locs1 ht _ hp hB _ _ hS1 => ?_)
    exact absurd rfl (hB.2.2.2.2.2 a)
  · refine va_callv (a := As.toArray) hr hS (fun q _ hq => hfA q hq) (fun q hq => hfA q hq) (fun u t H1 locs1 ht _ hp hB _ _ hS1 => ?_)
    exact fin u t H1 locs1 _ ht hB hS1 (hst' u hB.1)
end
