/-! SOUNDNESS, part 10: calls -/
theorem zs_code_list : zm_nL5.map (fun q => zs_wd q.2) = (zm_nL5.zip zm_mL5).map zs_cf := by
  unfold zm_nL5 zm_mL5
  rw [List.zip_append (l₁ := zm_nL0) (l₂ := zm_mL0) (by decide +kernel), List.zip_append (l₁ := zm_nL1) (l₂ := zm_mL1) (by decide +kernel), List.zip_append (l₁ := zm_nL2) (l₂ := zm_mL2) (by decide +kernel), List.zip_append (l₁ := zm_nL3) (l₂ := zm_mL3) (by decide +kernel)]
  simp only [List.map_append, zs_c0, zs_c1, zs_c2, zs_c3, zs_c4]
theorem zs_nL_at {q : Nat} (h : q < 275) : zm_nL5[q]? = some (zm_mn q, zm_mp q) := by
  have hl : zm_nL5.length = 275 := by decide +kernel
  unfold zm_mn zm_mp zm_nL
  rw [List.getD_eq_getElem?_getD, List.getElem?_append_left (by omega)]
  rw [List.getElem?_eq_getElem (by omega)]
  rfl
theorem zs_mL_at {q : Nat} (h : q < 275) : zm_mL5[q]? = some (zm_m q) := by
  have hl : zm_mL5.length = 275 := by decide +kernel
  unfold zm_m zm_mL
  rw [List.getD_eq_getElem?_getD, List.getElem?_append_left (by omega)]
  rw [List.getElem?_eq_getElem (by omega)]
  rfl
theorem zs_code_mem {q : Nat} (h : q < 275) : Cond.code (zm_mn q) (zm_code q) (zm_mx q) (zs_rt (zm_ret q)) ∈ zs_tb := by
  have h1 : (zm_nL5.map (fun q => zs_wd q.2))[q]? = ((zm_nL5.zip zm_mL5).map zs_cf)[q]? := by rw [zs_code_list]
  rw [List.getElem?_map, List.getElem?_map, List.getElem?_zip_eq_some (z := ((zm_mn q, zm_mp q), zm_m q)) |>.mpr ⟨zs_nL_at h, zs_mL_at h⟩, zs_nL_at h] at h1
  exact zs_wd_mem (Option.some.inj h1) rfl
theorem zs_wy_sub {q : Nat} (h : q < 275) : ∀ w ∈ zs_wy q, w ∈ zs_tb := by
  intro w hw
  rcases List.mem_cons.mp hw with rfl | hw
  · exact zs_code_mem h
  · exact hw
theorem zs_mok {q : Nat} (h : q < 275) : (zm_mn q).cls = zm_cn (zm_own q) ∧ Jvm.plainName (zm_mn q).cls = true ∧ zm_mx q ≤ 21 ∧ (zm_mn q).cls ≠ "java/lang/invoke/MethodHandle" ∧ (zm_mn q).cls ≠ "java/lang/invoke/VarHandle" ∧ (zm_ret q = 4 ↔ (zm_mn q).name = "<init>") := by
  have h1 := List.all_eq_true.mp zs_m_all q (List.mem_range.mpr h)
  unfold zs_mchk at h1
  simp only [Bool.and_eq_true, decide_eq_true_eq, beq_iff_eq, decide_eq_decide] at h1
  exact ⟨h1.1.1, h1.1.2.1, h1.1.2.2.1, h1.1.2.2.2.1, h1.1.2.2.2.2, h1.2⟩
theorem zs_own_all : (List.range 275).all (fun y => decide (zm_own y < 13)) = true := by decide +kernel
theorem zs_own13 {q : Nat} (h : q < 275) : zm_own q < 13 := of_decide_eq_true (List.all_eq_true.mp zs_own_all q (List.mem_range.mpr h))
theorem zs_nest_in {p1 : Nat} {w : Cond} (h : zs_wd p1 = some w) (hw : (fun w : Cond => match w with | .methodLinkNest _ _ _ _ => true | _ => false) w = true) : w ∈ zs_nest := List.mem_filter.mpr ⟨zs_tab_mem (List.mem_of_getElem? h), hw⟩
theorem zs_take {ρ : Nat → Nat} {stk : List zm_V} {st : List Value} (n : Nat) (h : stk.map (zs_mv ρ) = st.map some) : ((stk.take n).reverse).map (zs_mv ρ) = ((st.take n).reverse).map some ∧ (stk.drop n).map (zs_mv ρ) = (st.drop n).map some := by
  constructor
  · rw [List.map_reverse, List.map_reverse, List.map_take, List.map_take, h]
  · rw [List.map_drop, List.map_drop, h]
section
variable {p : Program} {l : Launch} {e : Env} {R : Room} {s : State} {m : MethodId} {args : Array Value} {below : List Frame} {meth : Method} {c : Code} {Q : State → Prop}
variable {md : Bool} {rk y pc : Nat} {loc stk : List zm_V} {nx : Nat} {h : zm_H} {nx1 : Nat} {h1 : zm_H}
variable {D : va_G} {kA : Nat → ClassId} {A : Nat → Prop} {ρ : Nat → Nat} {H : Heap} {locs : List Loc} {ls : Array Slot} {st : List Value} {nx0 nL : Nat}
theorem zs_do_call {X : Option (Nat × (Int → Int))} {f q : Nat} {as r : List zm_V} {v : zm_V} {i : Instr} {len : Nat} (IH : zs_M l f) (hx : p.tables.exec = Jvm.exec) (hb : c.code = zm_code y) (hml : c.maxLocals = nL) (hRf : rk + 4 ≤ R.frames) (hRl : 40 * rk + 160 ≤ R.locals) (hown : s.vm.findClass (zm_cn (zm_own y)) = some m.cls) (hts : ∀ w ∈ zs_tb, w.before args s = true) (hK : va_K D zm_cl (zs_tys kA) s) (hA : ∀ q, s.heap.size ≤ q → A q) (h0 : nx0 ≤ nx) (hcl : nx1 - nx0 ≤ R.cells) (hsl : zs_sl nx1 - zs_sl nx0 ≤ R.slots) (hn : nx ≤ nx1) (hRO : zs_RO ρ A s)
    (hd : decode (zm_code y) pc = .ok (i, len)) (hlen : zm_len i = none ∨ zm_len i = some len) (hk : zm_kd i = 2) (hs : zm_si X md rk y pc loc stk nx h i = some (.inr (.inr (q, as, r)))) (hini : (zm_ini q as).length = zm_mx q) (hex : zm_ex none md f (zm_rk q as) q 0 (zm_ini q as) [] (nx, h) = some (v, nx1, h1)) (rr : zs_R D kA A s.heap nL ρ md loc stk nx h H locs ls st) (k : zs_K p l e R s m args below meth c Q D kA A nL ρ md nx0 (pc + 3) loc (zm_push v r) nx nx1 h1) : W p l e R s m args below meth c H locs (nx - nx0) (zs_sl nx - zs_sl nx0) Q (F0 m pc ls st) := by
  obtain ⟨hP, hD, hS, hL, hst, hw, hwl, hh, h4⟩ := rr
  have hfA := zs_fA hD hS hA
  have hsize : ls.size = nL := hL.2.choose_spec.1.1
  have S : CallFix p m c (zm_code y) nL s args zs_tb (zm_cn (zm_own y)) := ⟨hx, hb, hml, hown, hts⟩
  have e1 : nx - nx0 + (nx1 - nx) ≤ R.cells := by omega
  have e2 : zs_sl nx - zs_sl nx0 + (zs_sl nx1 - zs_sl nx) ≤ R.slots := by
    have a1 := zs_mono h0
    have a2 := zs_mono hn
    omega
  -- what a call says
  have main : ∀ (vir : Bool), zm_call rk vir q stk nx = some (.inr (.inr (q, as, r))) → q < 275 →
      (∀ As rest : List Value, as.map (zs_mv ρ) = As.map some → r.map (zs_mv ρ) = rest.map some → st = As.reverse ++ rest → as.length = zm_na q → (vir = true → zm_rcv q as nx = true) → (zs_rm (zm_rk q as) (nx1 - nx) (zs_sl nx1 - zs_sl nx)).frames + 1 ≤ R.frames ∧ 8 + (zm_mx q + 11) + (zs_rm (zm_rk q as) (nx1 - nx) (zs_sl nx1 - zs_sl nx)).locals ≤ R.locals → (2 * (F0 m pc ls st).monitorRoom + (rest.map fun v => v.category).sum ≤ 8) →
        (∀ U : State, U.heap = H → s.WarmedH U.vm → va_Pc As (zs_B0 D kA ρ md as nx h H.size) As.toArray U) →
        Met l (zm_mn q) (zs_wy q) (zs_rm (zm_rk q as) (nx1 - nx) (zs_sl nx1 - zs_sl nx)) (va_Pc As (zs_B0 D kA ρ md as nx h H.size)) (zs_Q D kA ρ md nx h H.size v nx1 h1) (nx1 - nx) (zs_sl nx1 - zs_sl nx) (va_A (zs_ws kA ρ md nx h) H.size) →
        va_Run p l e R s m args below meth c H locs (nx - nx0) (zs_sl nx - zs_sl nx0) (nx1 - nx) (zs_sl nx1 - zs_sl nx) (F0 m pc ls st) rest (zs_Q D kA ρ md nx h H.size v nx1 h1 As.toArray) (va_A (zs_ws kA ρ md nx h) H.size)) →
      W p l e R s m args below meth c H locs (nx - nx0) (zs_sl nx - zs_sl nx0) Q (F0 m pc ls st) := by
    intro vir hc hq275 hgo
    obtain ⟨⟨c1, c2, c3, c4⟩, hc⟩ := zm_ck_some hc
    simp only [Option.some.injEq, Sum.inr.injEq, Prod.mk.injEq, true_and] at hc
    obtain ⟨rfl, rfl⟩ := hc
    obtain ⟨t1, t2⟩ := zs_take (zm_na q) hst
    have was : ∀ u ∈ (stk.take (zm_na q)).reverse, zs_w nx u := fun u hu => hw u (List.mem_of_mem_take (List.mem_reverse.mp hu))
    have wr : ∀ u ∈ stk.drop (zm_na q), zs_w nx u := fun u hu => hw u (List.mem_of_mem_drop hu)
    have hmx := (zs_mok hq275).2.2.1
    refine zs_back hS hfA hL hwl t2 wr h4 hn (hgo _ _ t1 t2 (by rw [List.reverse_reverse, List.take_append_drop]) (by simp; omega) c4 ⟨by show zm_rk q _ + 4 + 1 ≤ _; omega, by show 8 + (zm_mx q + 11) + (40 * zm_rk q _ + 160) ≤ _; omega⟩ (lv_room (by rw [zs_cats t2]; exact c2)) (fun U hU hW => ⟨rfl, by rw [hU], by rw [hU]; exact hP, va_K.moved hW.alike hK, hD.weaken (fun _ _ _ _ => trivial), zs_RO_pass hRO hS hU hW hfA, hh, was, h4⟩) (IH md q _ nx h v nx1 h1 hq275 hini hex D kA ρ H.size _ t1)) h0 k
  cases i
  case invokevirtual ix =>
    obtain rfl := zs_len hlen (rfl : _ = some 3)
    simp only [zm_si, zm_go] at hs
    split at hs
    · next q' u hq' =>
      have hq : q' = q := by
        have := (zm_ck_some hs).2
        simp only [Option.some.injEq, Sum.inr.injEq, Prod.mk.injEq] at this
        exact this.1
      subst hq
      obtain ⟨p1, p2, p3, p4⟩ := u
      obtain ⟨w1, w2, w3, w4, w5, hq275⟩ := of_decide_eq_true (zs_cal_ok hq')
      refine main true hs hq275 (fun As rest ha hr hstk hlenA hrcv hR hroom hpc hM => ?_)
      have hrc := hrcv rfl
      unfold zm_rcv at hrc
      split at hrc
      · next b as' =>
        obtain ⟨hlay, hb3, hbx⟩ := of_decide_eq_true hrc
        obtain ⟨As', rfl, ha'⟩ := zs_top ha rfl
        have hc13 : zm_own q' < 13 := zs_own13 hq275
        obtain ⟨m1, m2, m3, m4, m5, m6⟩ := zs_mok hq275
        refine va_runV (n := zm_na q' - 1) (b := ρ b) (As := As') S hM (cwV (C := (zm_mn q').cls) (zm_na q' - 1) hts (zs_goodIn (fun w hw => ?_)) rfl rfl rfl ⟨rfl, m4, m5, ?_⟩ hR) ⟨zs_B0_blind, ?_, hpc⟩ rfl ?_ hsize ?_ hroom hd ⟨e1, e2⟩
        · rcases List.mem_append.mp hw with hw | hw
          · simp only [List.mem_cons, List.not_mem_nil, or_false] at hw
            rcases hw with rfl | rfl | rfl | rfl
            · exact zs_wd_mem w1 rfl
            · exact zs_wd_mem w2 rfl
            · exact zs_wd_mem w4 rfl
            · exact zs_wd_mem w3 rfl
          · exact zs_wy_sub hq275 w hw
        · cases hpd : parseMethodDescriptor (zm_mn q').desc with
          | none => rw [hpd] at w5; cases w5
          | some d => rw [hpd] at w5; simp only [Option.map_some, Option.some.injEq] at w5 ⊢; omega
        · rw [m1]
          exact va_recv hK hP (zs_cl_at hc13) ((zs_ws_at hb3 hbx).trans (by rw [zs_obj hlay]))
        · have : (as').length = As'.length := by simpa using congrArg List.length ha'
          simp only [List.length_cons] at hlenA
          omega
        · rw [hstk]; simp
      · cases hrc
    · split at hs
      · cases (zm_ck_some hs).2
      · cases hs
    · split at hs
      · have h2 := (zm_ck_some hs).2
        split at h2
        · cases h2
        · cases h2
      · cases hs
    · cases hs
  case invokestatic ix =>
    obtain rfl := zs_len hlen (rfl : _ = some 3)
    simp only [zm_si, zm_go] at hs
    split at hs
    · next q' u hq' =>
      have hq : q' = q := by
        have := (zm_ck_some hs).2
        simp only [Option.some.injEq, Sum.inr.injEq, Prod.mk.injEq] at this
        exact this.1
      subst hq
      obtain ⟨p1, p2, p3, p4⟩ := u
      obtain ⟨w1, w2, w3, w5, hq275⟩ := of_decide_eq_true (zs_cal_ok hq')
      obtain ⟨m1, m2, m3, m4, m5, m6⟩ := zs_mok hq275
      refine main false hs hq275 (fun As rest ha hr hstk hlenA hrcv hR hroom hpc hM => ?_)
      have hla : As.length = zm_na q' := by
        have := congrArg List.length ha
        simp only [List.length_map] at this
        omega
      exact va_runS (n := zm_na q') S hM ⟨callB_of (zm_na q') hts (zs_goodIn (zs_wy_sub hq275)) rfl rfl rfl (hts _ (zs_wd_mem w3 rfl)) (hts _ (zs_wd_mem w1 rfl)) ⟨m4, m5, w5⟩ hR, hts _ (zs_wd_mem w2 rfl)⟩ ⟨zs_B0_blind, hpc⟩ rfl hla hsize hstk hroom hd ⟨e1, e2⟩
    · next q' u hq' =>
      have hq : q' = q := by
        have := (zm_ck_some hs).2
        simp only [Option.some.injEq, Sum.inr.injEq, Prod.mk.injEq] at this
        exact this.1
      subst hq
      obtain ⟨p1, p2, p3, p4⟩ := u
      obtain ⟨w1, w2, w3, w5, hq275⟩ := of_decide_eq_true (zs_cal_ok hq')
      obtain ⟨m1, m2, m3, m4, m5, m6⟩ := zs_mok hq275
      refine main false hs hq275 (fun As rest ha hr hstk hlenA hrcv hR hroom hpc hM => ?_)
      have hla : As.length = zm_na q' := by
        have := congrArg List.length ha
        simp only [List.length_map] at this
        omega
      exact va_runSN (n := zm_na q') S hM ⟨va_cnB (zm_na q') hts (zs_goodIn (zs_wy_sub hq275)) rfl rfl rfl (hRO.2.2.2.1 _ (zs_nest_in w1 rfl)) (hts _ (zs_wd_mem w3 rfl)) ⟨m4, m5, w5⟩ hR, hts _ (zs_wd_mem w2 rfl), trivial⟩ ⟨zs_B0_blind, hpc⟩ rfl hla hsize hstk hroom hd ⟨e1, e2⟩
    · split at hs
      · cases (zm_ck_some hs).2
      · cases hs
    · split at hs
      · cases (zm_ck_some hs).2
      · cases hs
    · split at hs
      · cases (zm_ck_some hs).2
      · cases hs
    · split at hs
      · cases (zm_ck_some hs).2
      · cases hs
    · split at hs
      · cases (zm_ck_some hs).2
      · cases hs
    · split at hs
      · cases (zm_ck_some hs).2
      · cases hs
    · cases hs
  case invokespecial ix =>
    obtain rfl := zs_len hlen (rfl : _ = some 3)
    simp only [zm_si, zm_go] at hs
    split at hs
    · next q' u hq' =>
      have hq : q' = q := by
        have := (zm_ck_some hs).2
        simp only [Option.some.injEq, Sum.inr.injEq, Prod.mk.injEq] at this
        exact this.1
      subst hq
      obtain ⟨p1, p2, p3, p4⟩ := u
      obtain ⟨w1, w2, w3, w4, w5, hq275⟩ := of_decide_eq_true (zs_cal_ok hq')
      obtain ⟨m1, m2, m3, m4, m5, m6⟩ := zs_mok hq275
      have hret : zs_rt (zm_ret q') = none := by rw [m6.mpr w4]; rfl
      refine main true hs hq275 (fun As rest ha hr hstk hlenA hrcv hR hroom hpc hM => ?_)
      have hla : As.length = zm_na q' := by
        have := congrArg List.length ha
        simp only [List.length_map] at this
        omega
      have hpd : (parseMethodDescriptor (zm_mn q').desc).map (fun d => d.parameters.length) = some (zm_na q' - 1) ∧ 1 ≤ zm_na q' := by
        cases hpd : parseMethodDescriptor (zm_mn q').desc with
        | none => rw [hpd] at w5; cases w5
        | some d => rw [hpd] at w5; simp only [Option.map_some, Option.some.injEq] at w5 ⊢; omega
      have hrc := hrcv rfl
      unfold zm_rcv at hrc
      split at hrc
      · next b as' =>
        obtain ⟨As', rfl, ha'⟩ := zs_top ha rfl
        have hla' : As'.length = zm_na q' - 1 := by simp only [List.length_cons] at hla; omega
        exact va_runI (n := zm_na q' - 1) (b := ρ b) (As := As') S hM ⟨callB_of (zm_na q' - 1) hts (zs_goodIn (zs_wy_sub hq275)) (by unfold zs_wy; rw [hret]) rfl rfl (hts _ (zs_wd_mem w3 rfl)) (hts _ (zs_wd_mem w1 rfl)) ⟨m4, m5, hpd.1⟩ hR, w4, hts _ (zs_wd_mem w2 rfl)⟩ ⟨zs_B0_blind, hpc⟩ rfl hla' hsize (by rw [hstk]; simp) hroom hd ⟨e1, e2⟩
      · cases hrc
    · next q' u hq' =>
      have hq : q' = q := by
        have := (zm_ck_some hs).2
        simp only [Option.some.injEq, Sum.inr.injEq, Prod.mk.injEq] at this
        exact this.1
      subst hq
      obtain ⟨p1, p2, p3, p4⟩ := u
      obtain ⟨w1, w2, w3, w4, w5, hq275⟩ := of_decide_eq_true (zs_cal_ok hq')
      obtain ⟨m1, m2, m3, m4, m5, m6⟩ := zs_mok hq275
      have hret : zs_rt (zm_ret q') = none := by rw [m6.mpr w4]; rfl
      refine main true hs hq275 (fun As rest ha hr hstk hlenA hrcv hR hroom hpc hM => ?_)
      have hla : As.length = zm_na q' := by
        have := congrArg List.length ha
        simp only [List.length_map] at this
        omega
      have hpd : (parseMethodDescriptor (zm_mn q').desc).map (fun d => d.parameters.length) = some (zm_na q' - 1) ∧ 1 ≤ zm_na q' := by
        cases hpd : parseMethodDescriptor (zm_mn q').desc with
        | none => rw [hpd] at w5; cases w5
        | some d => rw [hpd] at w5; simp only [Option.map_some, Option.some.injEq] at w5 ⊢; omega
      have hrc := hrcv rfl
      unfold zm_rcv at hrc
      split at hrc
      · next b as' =>
        obtain ⟨As', rfl, ha'⟩ := zs_top ha rfl
        have hla' : As'.length = zm_na q' - 1 := by simp only [List.length_cons] at hla; omega
        exact va_runIN (n := zm_na q' - 1) (b := ρ b) (As := As') S hM ⟨va_cnB (zm_na q' - 1) hts (zs_goodIn (zs_wy_sub hq275)) (by unfold zs_wy; rw [hret]) rfl rfl (hRO.2.2.2.1 _ (zs_nest_in w1 rfl)) (hts _ (zs_wd_mem w3 rfl)) ⟨m4, m5, hpd.1⟩ hR, w4, hts _ (zs_wd_mem w2 rfl)⟩ ⟨zs_B0_blind, hpc⟩ rfl hla' hsize (by rw [hstk]; simp) hroom hd ⟨e1, e2⟩
      · cases hrc
    · split at hs
      · cases (zm_ck_some hs).2
      · cases hs
    · cases hs
  all_goals first | exact absurd (show (0 : Nat) = 2 from hk) (by decide) | exact absurd (show (1 : Nat) = 2 from hk) (by decide)
end
