/-! SOUNDNESS, part 11: a run is a walk -/
set_option maxHeartbeats 2000000 in
theorem zs_body (l : Launch) : ∀ (f : Nat), (∀ g, g < f → zs_M l g) → ∀ {p : Program} {e : Env} {R : Room} {s : State} {m : MethodId} {args : Array Value} {below : List Frame} {meth : Method} {c : Code} {Q : State → Prop}
    {X : Option (Nat × (Int → Int))} {md : Bool} {rk y pc : Nat} {loc stk : List zm_V} {nx : Nat} {h : zm_H} {v : zm_V} {nx1 : Nat} {h1 : zm_H} {D : va_G} {kA : Nat → ClassId} {A : Nat → Prop} {ρ : Nat → Nat} {H : Heap} {locs : List Loc} {ls : Array Slot} {st : List Value} {nx0 nL : Nat}
    (hx : p.tables.exec = Jvm.exec) (hb : c.code = zm_code y) (hml : c.maxLocals = nL) (hRf : rk + 4 ≤ R.frames) (hRl : 40 * rk + 160 ≤ R.locals) (hown : s.vm.findClass (zm_cn (zm_own y)) = some m.cls) (hts : ∀ w ∈ zs_tb, w.before args s = true) (hK : va_K D zm_cl (zs_tys kA) s) (hin : zm_ret y = 4 → meth.name = "<init>") (hA : ∀ q, s.heap.size ≤ q → A q) (h0 : nx0 ≤ nx) (hcl : nx1 - nx0 ≤ R.cells) (hsl : zs_sl nx1 - zs_sl nx0 ≤ R.slots)
    (hRO : zs_RO ρ A s) (hX : ∀ n xs, X = some (n, xs) → va_X (ρ 3) n (fun j => Int32.ofInt (xs j)) s s.heap ∧ ρ 3 < s.heap.size ∧ ¬ A (ρ 3) ∧ (∀ j : Int, zm_i32 (xs j)) ∧ n < 2147483648)
    (hex : zm_ex X md f rk y pc loc stk (nx, h) = some (v, nx1, h1)) (rr : zs_R D kA A s.heap nL ρ md loc stk nx h H locs ls st)
    (hret : ∀ (ρ1 : Nat → Nat) (H1 : Heap) (locs1 : List Loc) (ls1 : Array Slot) (st1 : List Value) (pc1 : Nat), (∀ a, a < nx → ρ1 a = ρ a) → va_P D zm_cl (zs_ws kA ρ1 md nx1 h1) H1 → va_D A (zs_ws kA ρ1 md nx1 h1) → va_S A s.heap H1 locs1 → zs_hw md nx1 h1 → zs_w nx1 v → zs_end y pc1 v st1 → W p l e R s m args below meth c H1 locs1 (nx1 - nx0) (zs_sl nx1 - zs_sl nx0) Q (F0 m pc1 ls1 st1)),
    W p l e R s m args below meth c H locs (nx - nx0) (zs_sl nx - zs_sl nx0) Q (F0 m pc ls st) := by
  intro f
  induction f with
  | zero => intros; rename_i hex _ _; simp [zm_ex] at hex
  | succ f ih =>
    intro IH p e R s m args below meth c Q X md rk y pc loc stk nx h v nx1 h1 D kA A ρ H locs ls st nx0 nL hx hb hml hRf hRl hown hts hK hin hA h0 hcl hsl hRO hX hex rr hret
    have ih0 : ∀ g, g < f → zs_M l g := fun g hg => IH g (Nat.lt_succ_of_lt hg)
    have h4 := rr.2.2.2.2.2.2.2.2
    rw [zm_ex] at hex
    cases hs : zm_step X md rk y pc loc stk nx h with
    | none => rw [hs] at hex; cases hex
    | some a =>
      rw [hs] at hex
      obtain ⟨i, len, hd, hlen, hsup, hsi, hk1, hk2⟩ := zs_step_in hs
      rcases a with ⟨pc', loc', stk', nx', h'⟩ | v' | ⟨q, as, r⟩
      · dsimp only at hex
        obtain ⟨hn, hex⟩ := zm_ck_some hex
        have hn2 := (zs_ex_nx _ _ _ _ _ _ _ _ _ _ hex).1
        dsimp only at hn hn2
        have hm := zs_mono hn2
        refine zs_sim hx hb hml hRf hRl hown hts hK hin hA h0 (by omega) (by omega) hn.1 hRO hX hd hlen hsup hsi rr (fun ρ1 H1 locs1 ls1 st1 hag r1 => ?_)
        refine ih ih0 hx hb hml hRf hRl hown hts hK hin hA (Nat.le_trans h0 hn.1) hcl hsl (zs_RO_ag hRO (hag 1 (by omega)) (hag 2 (by omega))) (fun n xs e => ?_) hex r1 (fun ρ2 H2 locs2 ls2 st2 pc2 hag2 => ?_)
        · rw [hag 3 (by omega)]; exact hX n xs e
        · exact hret ρ2 H2 locs2 ls2 st2 pc2 (fun a ha => (hag2 a (Nat.lt_of_lt_of_le ha hn.1)).trans (hag a ha))
      · cases hex
        obtain ⟨hP, hD, hS, hL, hst, hw, hwl, hh, -⟩ := rr
        obtain ⟨he, hv⟩ := zs_is_end hd hlen (hk1 _ rfl) hsi hst hw
        exact hret ρ H locs ls st pc (fun _ _ => rfl) hP hD hS hh hv he
      · dsimp only at hex
        obtain ⟨hini, hex⟩ := zm_ck_some hex
        cases hq : zm_ex none md f (zm_rk q as) q 0 (zm_ini q as) [] (nx, h) with
        | none => rw [hq] at hex; cases hex
        | some b =>
          obtain ⟨v', nx', h'⟩ := b
          rw [hq] at hex
          dsimp only at hex
          have hn := (zs_ex_nx _ _ _ _ _ _ _ _ _ _ hq).1
          have hn2 := (zs_ex_nx _ _ _ _ _ _ _ _ _ _ hex).1
          dsimp only at hn hn2
          have hm := zs_mono hn2
          refine zs_do_call (IH f (Nat.lt_succ_self f)) hx hb hml hRf hRl hown hts hK hA h0 (by omega) (by omega) hn hRO hd hlen (hk2 _ rfl) hsi hini hq rr (fun ρ1 H1 locs1 ls1 st1 hag r1 => ?_)
          refine ih ih0 hx hb hml hRf hRl hown hts hK hin hA (Nat.le_trans h0 hn) hcl hsl (zs_RO_ag hRO (hag 1 (by omega)) (hag 2 (by omega))) (fun n xs e => ?_) hex r1 (fun ρ2 H2 locs2 ls2 st2 pc2 hag2 => ?_)
          · rw [hag 3 (by omega)]; exact hX n xs e
          · exact hret ρ2 H2 locs2 ls2 st2 pc2 (fun a ha => (hag2 a (Nat.lt_of_lt_of_le ha hn)).trans (hag a ha))
theorem zs_M_of (l : Launch) (f : Nat) (IH : ∀ g, g < f → zs_M l g) : zs_M l f := by
  intro md q as nx h v nx1 h1 hq hini hex D kA ρ sz As hAs
  obtain ⟨m1, m2, m3, m4, m5, m6⟩ := zs_mok hq
  refine Met.ofW (cc := zm_code q) (maxL := zm_mx q) (ret := zs_rt (zm_ret q)) m2 rfl ?_
  intro p e s m args below meth c s₁ B hml hv
  obtain ⟨rfl, hsz, hP, hK, hD0, hRO, hh, hwa, h4⟩ := hv
  have hx := B.exec
  have hb := B.bytes
  have hr := B.returns
  have hts0 := atoms_spec (ws := zs_wy q) B.pre
  have hts : ∀ w ∈ zs_tb, w.before As.toArray s = true := fun w hw => hts0 w (List.mem_cons_of_mem _ hw)
  have hown : s.vm.findClass (zm_mn q).cls = some m.cls := findClass_of_methodNamed B.named
  have hlocks := B.notSynchronized
  have hin : meth.name = (zm_mn q).name := (name_of_methodNamed B.named B.method).1
  subst hsz
  have hD := hD0.self (sz := s.heap.size)
  have hA : ∀ q' : Nat, s.heap.size ≤ q' → va_A (zs_ws kA ρ md nx h) s.heap.size q' := fun _ h => Or.inr h
  have hS : va_S (va_A (zs_ws kA ρ md nx h) s.heap.size) s.heap s.heap [] := va_S.rf
  rw [m1] at hown
  rw [lg_entry_eq]
  have e1 : nx - nx = 0 := Nat.sub_self _
  have e2 : zs_sl nx - zs_sl nx = 0 := Nat.sub_self _
  have hgoal := zs_body l f IH (p := p) (e := e) (R := (headSpec (zs_wy q) (zs_rm (zm_rk q as) (nx1 - nx) (zs_sl nx1 - zs_sl nx))).room) (s := s) (m := m) (args := As.toArray) (below := below) (meth := meth) (c := c) (Q := MQ below (zs_Q D kA ρ md nx h s.heap.size v nx1 h1) As.toArray s (nx1 - nx) (zs_sl nx1 - zs_sl nx) (va_A (zs_ws kA ρ md nx h) s.heap.size)) (nx0 := nx) (locs := []) (st := [])
    hx hb hml (Nat.le_refl _) (Nat.le_refl _) hown hts hK (fun h9 => hin.trans (m6.mp h9)) hA (Nat.le_refl _) (Nat.le_refl _) (Nat.le_refl _) hRO (fun n xs e9 => by cases e9) hex ⟨hP, hD, hS, zs_entry hAs hini, rfl, fun v hv => absurd hv List.not_mem_nil, zs_ini_w hwa, hh, h4⟩ ?_
  · rw [e1, e2] at hgoal
    exact hgoal
  · intro ρ1 H1 locs1 ls1 st1 pc1 hag hP1 hD1 hS1 hh1 hv1 hend
    rcases hend with ⟨z, rfl, hdg, rfl, hrt⟩ | ⟨z, rfl, hdg, rfl, hrt⟩ | ⟨rfl, hdg, rfl, hrt⟩
    · refine W.zret (ty := if zm_ret q = 0 then .int else .boolean) hx hb (hr.trans ?_) ?_ (fun t ht hW => ⟨⟨Int32.ofInt z, ρ1, rfl, rfl, hag, by rw [ht]; exact hP1, hD1, hh1, hv1, fun a q => by cases q⟩, hS1.F ht⟩) hS1.2.2 hdg hlocks
      · rcases hrt with h9 | ⟨h9, -⟩ <;> rw [h9] <;> rfl
      · rcases hrt with h9 | ⟨h9, h8⟩
        · rw [if_pos h9]; rfl
        · rw [if_neg (by omega)]; rcases h8 with rfl | rfl <;> rfl
    · exact W.lret hx hb (hr.trans (by rw [hrt]; rfl)) (fun t ht hW => ⟨⟨Int64.ofInt z, ρ1, rfl, rfl, hag, by rw [ht]; exact hP1, hD1, hh1, hv1, fun a q => by cases q⟩, hS1.F ht⟩) hS1.2.2 hdg hlocks
    · exact W.vret hx hb (hr.trans (by rcases hrt with h9 | h9 <;> rw [h9] <;> rfl)) (fun t ht hW => ⟨⟨ρ1, rfl, trivial, hag, by rw [ht]; exact hP1, hD1, hh1, hv1, fun a q => by cases q⟩, hS1.F ht⟩) hS1.2.2 hdg hlocks
theorem zs_M_all (l : Launch) (f : Nat) : zs_M l f := by
  induction f using Nat.strongRecOn with
  | ind f ih => exact zs_M_of l f ih
