/-! SOUNDNESS, part 8: the JDK's own calls; every instruction (printed by wip/gen/gen_disp.py) -/
section
variable {p : Program} {l : Launch} {e : Env} {R : Room} {s : State} {m : MethodId} {args : Array Value} {below : List Frame} {meth : Method} {c : Code} {Q : State → Prop}
variable {X : Option (Nat × (Int → Int))} {md : Bool} {rk y pc : Nat} {loc stk : List zm_V} {nx : Nat} {h : zm_H} {pc' : Nat} {loc' stk' : List zm_V} {nx1 : Nat} {h1 : zm_H}
variable {D : va_G} {kA : Nat → ClassId} {A : Nat → Prop} {ρ : Nat → Nat} {H : Heap} {locs : List Loc} {ls : Array Slot} {st : List Value} {nx0 nL : Nat}
theorem zs_i_objInit {ix q : Nat} {u : Nat × Nat × Nat × Nat} (hx : p.tables.exec = Jvm.exec) (hb : c.code = zm_code y) (hml : c.maxLocals = nL) (hRf : rk + 4 ≤ R.frames) (hRl : 40 * rk + 160 ≤ R.locals) (hown : s.vm.findClass (zm_cn (zm_own y)) = some m.cls) (hts : ∀ w ∈ zs_tb, w.before args s = true) (hd : decode (zm_code y) pc = .ok (.invokespecial ix, 3)) (hq : zm_cal (zm_own y) ix = some (5, q, u))
    {a : Nat} {r : List zm_V} (hstk : stk = zm_A a :: r) (hc : zm_cats r ≤ 8 ∧ 1 ≤ rk) (rr : zs_R D kA A s.heap nL ρ md loc stk nx h H locs ls st) (k : zs_K p l e R s m args below meth c Q D kA A nL ρ md nx0 (pc + 3) loc r nx nx h) : W p l e R s m args below meth c H locs (nx - nx0) (zs_sl nx - zs_sl nx0) Q (F0 m pc ls st) := by
  subst hstk
  obtain ⟨hP, hD, hS, hL, hst, hw, hwl, hh, h4⟩ := rr
  obtain ⟨st2, rfl, hst2⟩ := zs_top hst rfl
  obtain ⟨q1, q2, q3, q4⟩ := u
  have h1 : zs_wd q1 = some (.methodLink (zm_cn (zm_own y)) ix Lib.objectInit) := of_decide_eq_true (zs_cal_ok hq)
  refine W.objInit hx hb hown (hts _ (zs_wd_mem h1 rfl)) (hts (.instanceMethod Lib.objectInit) (zs_wd_mem (p := 1025) (by decide +kernel) rfl)) (hts (.code Lib.objectInit ⟨#[0xb1]⟩ 1 none) (zs_wd_mem (p := 1026) rfl rfl)) (g := F0 m pc ls (.ref (ρ a) :: st2)) rfl (hL.2.choose_spec.1.1.trans hml.symm) rfl hd (by omega) ?_ ?_
  · show 2 * 0 + _ + 12 ≤ R.locals
    rw [zs_cats hst2]; omega
  · exact k ρ H locs ls _ (fun _ _ => rfl) ⟨hP, hD, hS, hL, hst2, (zs_w1 hw).2, hwl, hh, h4⟩
theorem zs_i_mmin {ix q : Nat} {u : Nat × Nat × Nat × Nat} (hx : p.tables.exec = Jvm.exec) (hb : c.code = zm_code y) (hml : c.maxLocals = nL) (hRf : rk + 4 ≤ R.frames) (hRl : 40 * rk + 160 ≤ R.locals) (hown : s.vm.findClass (zm_cn (zm_own y)) = some m.cls) (hts : ∀ w ∈ zs_tb, w.before args s = true) (hcl : nx - nx0 ≤ R.cells) (hsl : zs_sl nx - zs_sl nx0 ≤ R.slots) (hd : decode (zm_code y) pc = .ok (.invokestatic ix, 3)) (hq : zm_cal (zm_own y) ix = some (8, q, u))
    {z x : Int} {r : List zm_V} (hstk : stk = zm_I z :: zm_I x :: r) (hc : zm_cats r ≤ 8 ∧ 1 ≤ rk) (rr : zs_R D kA A s.heap nL ρ md loc stk nx h H locs ls st) (k : zs_K p l e R s m args below meth c Q D kA A nL ρ md nx0 (pc + 3) loc (zm_I (min x z) :: r) nx nx h) : W p l e R s m args below meth c H locs (nx - nx0) (zs_sl nx - zs_sl nx0) Q (F0 m pc ls st) := by
  subst hstk
  obtain ⟨hP, hD, hS, hL, hst, hw, hwl, hh, h4⟩ := rr
  obtain ⟨st2, rfl, hst2⟩ := zs_top hst rfl
  obtain ⟨st3, rfl, hst3⟩ := zs_top hst2 rfl
  have hwz := (zs_w1 hw).1
  have hwx := (zs_w1 (zs_w1 hw).2).1
  have hwr := (zs_w1 (zs_w1 hw).2).2
  obtain ⟨q1, q2, q3, q4⟩ := u
  have h1 := of_decide_eq_true (zs_cal_ok hq)
  have hls : c.maxLocals = ls.size := hml.trans hL.2.choose_spec.1.1.symm
  have he : Int32.ofInt (min x z) = (if Int32.ofInt z < Int32.ofInt x then Int32.ofInt z else Int32.ofInt x) := by
    simp only [zs_lt hwx hwz, zs_lt hwz hwx]
    split
    · congr 1; omega
    · congr 1; omega
  refine va_mmin hx hb hls hown (hts _ (zs_wd_mem h1.1 rfl)) (hts _ (zs_wd_mem h1.2.1 rfl)) (hts _ (zs_wd_mem h1.2.2.1 rfl)) (hts _ (zs_wd_mem h1.2.2.2 rfl)) (by omega) (by rw [zs_cats hst3]; omega) hcl hsl hd ?_
  rw [← he]
  exact k ρ H locs ls _ (fun _ _ => rfl) ⟨hP, hD, hS, hL, zs_psh rfl hst3, zs_w2 (by have a1 : zm_i32 x := hwx; have a2 : zm_i32 z := hwz; show zm_i32 _; omega) hwr, hwl, hh, h4⟩
theorem zs_i_mmax {ix q : Nat} {u : Nat × Nat × Nat × Nat} (hx : p.tables.exec = Jvm.exec) (hb : c.code = zm_code y) (hml : c.maxLocals = nL) (hRf : rk + 4 ≤ R.frames) (hRl : 40 * rk + 160 ≤ R.locals) (hown : s.vm.findClass (zm_cn (zm_own y)) = some m.cls) (hts : ∀ w ∈ zs_tb, w.before args s = true) (hcl : nx - nx0 ≤ R.cells) (hsl : zs_sl nx - zs_sl nx0 ≤ R.slots) (hd : decode (zm_code y) pc = .ok (.invokestatic ix, 3)) (hq : zm_cal (zm_own y) ix = some (9, q, u))
    {z x : Int} {r : List zm_V} (hstk : stk = zm_I z :: zm_I x :: r) (hc : zm_cats r ≤ 8 ∧ 1 ≤ rk) (rr : zs_R D kA A s.heap nL ρ md loc stk nx h H locs ls st) (k : zs_K p l e R s m args below meth c Q D kA A nL ρ md nx0 (pc + 3) loc (zm_I (max x z) :: r) nx nx h) : W p l e R s m args below meth c H locs (nx - nx0) (zs_sl nx - zs_sl nx0) Q (F0 m pc ls st) := by
  subst hstk
  obtain ⟨hP, hD, hS, hL, hst, hw, hwl, hh, h4⟩ := rr
  obtain ⟨st2, rfl, hst2⟩ := zs_top hst rfl
  obtain ⟨st3, rfl, hst3⟩ := zs_top hst2 rfl
  have hwz := (zs_w1 hw).1
  have hwx := (zs_w1 (zs_w1 hw).2).1
  have hwr := (zs_w1 (zs_w1 hw).2).2
  obtain ⟨q1, q2, q3, q4⟩ := u
  have h1 := of_decide_eq_true (zs_cal_ok hq)
  have hls : c.maxLocals = ls.size := hml.trans hL.2.choose_spec.1.1.symm
  have he : Int32.ofInt (max x z) = (if Int32.ofInt x < Int32.ofInt z then Int32.ofInt z else Int32.ofInt x) := by
    simp only [zs_lt hwx hwz, zs_lt hwz hwx]
    split
    · congr 1; omega
    · congr 1; omega
  refine va_mmax hx hb hls hown (hts _ (zs_wd_mem h1.1 rfl)) (hts _ (zs_wd_mem h1.2.1 rfl)) (hts _ (zs_wd_mem h1.2.2.1 rfl)) (hts _ (zs_wd_mem h1.2.2.2 rfl)) (by omega) (by rw [zs_cats hst3]; omega) hcl hsl hd ?_
  rw [← he]
  exact k ρ H locs ls _ (fun _ _ => rfl) ⟨hP, hD, hS, hL, zs_psh rfl hst3, zs_w2 (by have a1 : zm_i32 x := hwx; have a2 : zm_i32 z := hwz; show zm_i32 _; omega) hwr, hwl, hh, h4⟩
theorem zs_i_mminl {ix q : Nat} {u : Nat × Nat × Nat × Nat} (hx : p.tables.exec = Jvm.exec) (hb : c.code = zm_code y) (hml : c.maxLocals = nL) (hRf : rk + 4 ≤ R.frames) (hRl : 40 * rk + 160 ≤ R.locals) (hown : s.vm.findClass (zm_cn (zm_own y)) = some m.cls) (hts : ∀ w ∈ zs_tb, w.before args s = true) (hcl : nx - nx0 ≤ R.cells) (hsl : zs_sl nx - zs_sl nx0 ≤ R.slots) (hd : decode (zm_code y) pc = .ok (.invokestatic ix, 3)) (hq : zm_cal (zm_own y) ix = some (10, q, u))
    {z x : Int} {r : List zm_V} (hstk : stk = zm_L z :: zm_L x :: r) (hc : zm_cats r ≤ 8 ∧ 1 ≤ rk) (rr : zs_R D kA A s.heap nL ρ md loc stk nx h H locs ls st) (k : zs_K p l e R s m args below meth c Q D kA A nL ρ md nx0 (pc + 3) loc (zm_L (min x z) :: r) nx nx h) : W p l e R s m args below meth c H locs (nx - nx0) (zs_sl nx - zs_sl nx0) Q (F0 m pc ls st) := by
  subst hstk
  obtain ⟨hP, hD, hS, hL, hst, hw, hwl, hh, h4⟩ := rr
  obtain ⟨st2, rfl, hst2⟩ := zs_top hst rfl
  obtain ⟨st3, rfl, hst3⟩ := zs_top hst2 rfl
  have hwz := (zs_w1 hw).1
  have hwx := (zs_w1 (zs_w1 hw).2).1
  have hwr := (zs_w1 (zs_w1 hw).2).2
  obtain ⟨q1, q2, q3, q4⟩ := u
  have h1 := of_decide_eq_true (zs_cal_ok hq)
  have hls : c.maxLocals = ls.size := hml.trans hL.2.choose_spec.1.1.symm
  have he : Int64.ofInt (min x z) = (if Int64.ofInt z < Int64.ofInt x then Int64.ofInt z else Int64.ofInt x) := by
    simp only [Int64.lt_iff_toInt_lt, zs_tl hwx, zs_tl hwz]
    split
    · congr 1; omega
    · congr 1; omega
  refine va_mmin_long hx hb hls hown (hts _ (zs_wd_mem h1.1 rfl)) (hts _ (zs_wd_mem h1.2.1 rfl)) (hts _ (zs_wd_mem h1.2.2.1 rfl)) (hts _ (zs_wd_mem h1.2.2.2 rfl)) (by omega) (by rw [zs_cats hst3]; omega) hcl hsl hd ?_
  rw [← he]
  exact k ρ H locs ls _ (fun _ _ => rfl) ⟨hP, hD, hS, hL, zs_psh rfl hst3, zs_w2 (by have a1 : zm_i64 x := hwx; have a2 : zm_i64 z := hwz; show zm_i64 _; omega) hwr, hwl, hh, h4⟩
theorem zs_i_mmaxl {ix q : Nat} {u : Nat × Nat × Nat × Nat} (hx : p.tables.exec = Jvm.exec) (hb : c.code = zm_code y) (hml : c.maxLocals = nL) (hRf : rk + 4 ≤ R.frames) (hRl : 40 * rk + 160 ≤ R.locals) (hown : s.vm.findClass (zm_cn (zm_own y)) = some m.cls) (hts : ∀ w ∈ zs_tb, w.before args s = true) (hcl : nx - nx0 ≤ R.cells) (hsl : zs_sl nx - zs_sl nx0 ≤ R.slots) (hd : decode (zm_code y) pc = .ok (.invokestatic ix, 3)) (hq : zm_cal (zm_own y) ix = some (11, q, u))
    {z x : Int} {r : List zm_V} (hstk : stk = zm_L z :: zm_L x :: r) (hc : zm_cats r ≤ 8 ∧ 1 ≤ rk) (rr : zs_R D kA A s.heap nL ρ md loc stk nx h H locs ls st) (k : zs_K p l e R s m args below meth c Q D kA A nL ρ md nx0 (pc + 3) loc (zm_L (max x z) :: r) nx nx h) : W p l e R s m args below meth c H locs (nx - nx0) (zs_sl nx - zs_sl nx0) Q (F0 m pc ls st) := by
  subst hstk
  obtain ⟨hP, hD, hS, hL, hst, hw, hwl, hh, h4⟩ := rr
  obtain ⟨st2, rfl, hst2⟩ := zs_top hst rfl
  obtain ⟨st3, rfl, hst3⟩ := zs_top hst2 rfl
  have hwz := (zs_w1 hw).1
  have hwx := (zs_w1 (zs_w1 hw).2).1
  have hwr := (zs_w1 (zs_w1 hw).2).2
  obtain ⟨q1, q2, q3, q4⟩ := u
  have h1 := of_decide_eq_true (zs_cal_ok hq)
  have hls : c.maxLocals = ls.size := hml.trans hL.2.choose_spec.1.1.symm
  have he : Int64.ofInt (max x z) = (if Int64.ofInt z < Int64.ofInt x then Int64.ofInt x else Int64.ofInt z) := by
    simp only [Int64.lt_iff_toInt_lt, zs_tl hwx, zs_tl hwz]
    split
    · congr 1; omega
    · congr 1; omega
  refine va_mmax_long hx hb hls hown (hts _ (zs_wd_mem h1.1 rfl)) (hts _ (zs_wd_mem h1.2.1 rfl)) (hts _ (zs_wd_mem h1.2.2.1 rfl)) (hts _ (zs_wd_mem h1.2.2.2 rfl)) (by omega) (by rw [zs_cats hst3]; omega) hcl hsl hd ?_
  rw [← he]
  exact k ρ H locs ls _ (fun _ _ => rfl) ⟨hP, hD, hS, hL, zs_psh rfl hst3, zs_w2 (by have a1 : zm_i64 x := hwx; have a2 : zm_i64 z := hwz; show zm_i64 _; omega) hwr, hwl, hh, h4⟩
theorem zs_i_fdiv {ix q : Nat} {u : Nat × Nat × Nat × Nat} (hx : p.tables.exec = Jvm.exec) (hb : c.code = zm_code y) (hml : c.maxLocals = nL) (hRf : rk + 4 ≤ R.frames) (hRl : 40 * rk + 160 ≤ R.locals) (hown : s.vm.findClass (zm_cn (zm_own y)) = some m.cls) (hts : ∀ w ∈ zs_tb, w.before args s = true) (hK : va_K D zm_cl (zs_tys kA) s) (hA : ∀ q, s.heap.size ≤ q → A q) (h0 : nx0 ≤ nx) (hRO : zs_RO ρ A s) (hcl : nx - nx0 ≤ R.cells) (hsl : zs_sl nx - zs_sl nx0 ≤ R.slots) (hd : decode (zm_code y) pc = .ok (.invokestatic ix, 3)) (hq : zm_cal (zm_own y) ix = some (12, q, u))
    {z x : Int} {r : List zm_V} (hstk : stk = zm_I z :: zm_I x :: r) (hc : zm_cats r ≤ 8 ∧ 1 ≤ rk ∧ z ≠ 0 ∧ -1000000000 ≤ x ∧ x ≤ 1000000000) (rr : zs_R D kA A s.heap nL ρ md loc stk nx h H locs ls st) (k : zs_K p l e R s m args below meth c Q D kA A nL ρ md nx0 (pc + 3) loc (zm_I (x.fdiv z) :: r) nx nx h) : W p l e R s m args below meth c H locs (nx - nx0) (zs_sl nx - zs_sl nx0) Q (F0 m pc ls st) := by
  subst hstk
  obtain ⟨hP, hD, hS, hL, hst, hw, hwl, hh, h4⟩ := rr
  obtain ⟨st2, rfl, hst2⟩ := zs_top hst rfl
  obtain ⟨st3, rfl, hst3⟩ := zs_top hst2 rfl
  have hwz := (zs_w1 hw).1
  have hwx := (zs_w1 (zs_w1 hw).2).1
  have hwr := (zs_w1 (zs_w1 hw).2).2
  obtain ⟨q1, q2, q3, q4⟩ := u
  have h1 := of_decide_eq_true (zs_cal_ok hq)
  have hls : c.maxLocals = ls.size := hml.trans hL.2.choose_spec.1.1.symm
  obtain ⟨hc1, hc2, hc3, hc4⟩ := hc
  have hfA := zs_fA hD hS hA
  have hrun : va_Run p l e R s m args below meth c H locs (nx - nx0) (zs_sl nx - zs_sl nx0) (nx - nx) (zs_sl nx - zs_sl nx) (F0 m pc ls (.int (Int32.ofInt z) :: .int (Int32.ofInt x) :: st3)) st3 (zs_Q D kA ρ md nx h H.size (zm_I (x.fdiv z)) nx h ([.int (Int32.ofInt x), .int (Int32.ofInt z)] : List Value).toArray) (va_A (zs_ws kA ρ md nx h) H.size) := by
    rw [Nat.sub_self, Nat.sub_self]
    exact va_runS (n := 2) (As := [.int (Int32.ofInt x), .int (Int32.ofInt z)]) ⟨hx, hb, hml, hown, hts⟩ (zd_m_fdi l (as := []) hwx hwz hc3 hc4) ⟨callB_of 2 hts (zs_goodIn (zd_sub zd_w_c_fdi)) rfl rfl rfl (hts _ zd_w_n_m) (hts _ (zs_wd_mem h1.1 rfl)) ⟨by decide +kernel, by decide +kernel, by decide +kernel⟩ ⟨by show 0 + 1 ≤ R.frames; omega, by show 8 + (3 + 11) + 40 * 0 ≤ R.locals; omega⟩, hts _ zd_w_s_fdi⟩ ⟨zs_B0_blind, fun U hU hW => ⟨rfl, by rw [hU], by rw [hU]; exact hP, va_K.moved hW.alike hK, hD.weaken (fun _ _ _ _ => trivial), zs_RO_pass hRO hS hU hW hfA, hh, fun v hv => absurd hv List.not_mem_nil, h4⟩⟩ rfl rfl (hL.2.choose_spec.1.1) rfl (lv_room (by rw [zs_cats hst3]; exact hc1)) hd ⟨by omega, by omega⟩
  exact zs_back (v := zm_I (x.fdiv z)) (r := r) hS hfA hL hwl hst3 hwr h4 (Nat.le_refl _) hrun h0 k
theorem zs_i_fmod {ix q : Nat} {u : Nat × Nat × Nat × Nat} (hx : p.tables.exec = Jvm.exec) (hb : c.code = zm_code y) (hml : c.maxLocals = nL) (hRf : rk + 4 ≤ R.frames) (hRl : 40 * rk + 160 ≤ R.locals) (hown : s.vm.findClass (zm_cn (zm_own y)) = some m.cls) (hts : ∀ w ∈ zs_tb, w.before args s = true) (hK : va_K D zm_cl (zs_tys kA) s) (hA : ∀ q, s.heap.size ≤ q → A q) (h0 : nx0 ≤ nx) (hRO : zs_RO ρ A s) (hcl : nx - nx0 ≤ R.cells) (hsl : zs_sl nx - zs_sl nx0 ≤ R.slots) (hd : decode (zm_code y) pc = .ok (.invokestatic ix, 3)) (hq : zm_cal (zm_own y) ix = some (13, q, u))
    {z x : Int} {r : List zm_V} (hstk : stk = zm_I z :: zm_I x :: r) (hc : zm_cats r ≤ 8 ∧ 1 ≤ rk ∧ z ≠ 0 ∧ -1000000000 ≤ x ∧ x ≤ 1000000000) (rr : zs_R D kA A s.heap nL ρ md loc stk nx h H locs ls st) (k : zs_K p l e R s m args below meth c Q D kA A nL ρ md nx0 (pc + 3) loc (zm_I (x.fmod z) :: r) nx nx h) : W p l e R s m args below meth c H locs (nx - nx0) (zs_sl nx - zs_sl nx0) Q (F0 m pc ls st) := by
  subst hstk
  obtain ⟨hP, hD, hS, hL, hst, hw, hwl, hh, h4⟩ := rr
  obtain ⟨st2, rfl, hst2⟩ := zs_top hst rfl
  obtain ⟨st3, rfl, hst3⟩ := zs_top hst2 rfl
  have hwz := (zs_w1 hw).1
  have hwx := (zs_w1 (zs_w1 hw).2).1
  have hwr := (zs_w1 (zs_w1 hw).2).2
  obtain ⟨q1, q2, q3, q4⟩ := u
  have h1 := of_decide_eq_true (zs_cal_ok hq)
  have hls : c.maxLocals = ls.size := hml.trans hL.2.choose_spec.1.1.symm
  obtain ⟨hc1, hc2, hc3, hc4⟩ := hc
  have hfA := zs_fA hD hS hA
  have hrun : va_Run p l e R s m args below meth c H locs (nx - nx0) (zs_sl nx - zs_sl nx0) (nx - nx) (zs_sl nx - zs_sl nx) (F0 m pc ls (.int (Int32.ofInt z) :: .int (Int32.ofInt x) :: st3)) st3 (zs_Q D kA ρ md nx h H.size (zm_I (x.fmod z)) nx h ([.int (Int32.ofInt x), .int (Int32.ofInt z)] : List Value).toArray) (va_A (zs_ws kA ρ md nx h) H.size) := by
    rw [Nat.sub_self, Nat.sub_self]
    exact va_runS (n := 2) (As := [.int (Int32.ofInt x), .int (Int32.ofInt z)]) ⟨hx, hb, hml, hown, hts⟩ (zd_m_fmo l (as := []) hwx hwz hc3 hc4) ⟨callB_of 2 hts (zs_goodIn (zd_sub zd_w_c_fmo)) rfl rfl rfl (hts _ zd_w_n_m) (hts _ (zs_wd_mem h1.1 rfl)) ⟨by decide +kernel, by decide +kernel, by decide +kernel⟩ ⟨by show 0 + 1 ≤ R.frames; omega, by show 8 + (3 + 11) + 40 * 0 ≤ R.locals; omega⟩, hts _ zd_w_s_fmo⟩ ⟨zs_B0_blind, fun U hU hW => ⟨rfl, by rw [hU], by rw [hU]; exact hP, va_K.moved hW.alike hK, hD.weaken (fun _ _ _ _ => trivial), zs_RO_pass hRO hS hU hW hfA, hh, fun v hv => absurd hv List.not_mem_nil, h4⟩⟩ rfl rfl (hL.2.choose_spec.1.1) rfl (lv_room (by rw [zs_cats hst3]; exact hc1)) hd ⟨by omega, by omega⟩
  exact zs_back (v := zm_I (x.fmod z)) (r := r) hS hfA hL hwl hst3 hwr h4 (Nat.le_refl _) hrun h0 k

theorem zs_i_text {ix : Nat} (hx : p.tables.exec = Jvm.exec) (hb : c.code = zm_code y) (hown : s.vm.findClass (zm_cn (zm_own y)) = some m.cls) (hRO : zs_RO ρ A s) (hd : decode (zm_code y) pc = .ok (.ldc ix, 2)) (hs : zm_si X md rk y pc loc stk nx h (.ldc ix) = some (.inl (pc', loc', stk', nx1, h1))) (r : zs_R D kA A s.heap nL ρ md loc stk nx h H locs ls st) (k : zs_K p l e R s m args below meth c Q D kA A nL ρ md nx0 pc' loc' stk' nx nx1 h1) : W p l e R s m args below meth c H locs (nx - nx0) (zs_sl nx - zs_sl nx0) Q (F0 m pc ls st) := by
  obtain ⟨hP, hD, hS, hL, hst, hw, hwl, hh, h4⟩ := r
  obtain ⟨-, -, -, -, hTx⟩ := hRO
  simp only [zm_si, zm_go] at hs
  obtain ⟨⟨ho, hix⟩, hs2⟩ := zm_ck_some hs
  subst hix
  cases hs2
  rw [ho] at hown
  refine va_ldcS (own := zm_cn 9) (tx := zs_own) (index := 19) hx hb hown hTx.1 hd ?_
  exact k ρ H locs ls _ (fun _ _ => rfl) ⟨hP, hD, hS, hL, zs_psh rfl hst, zs_w2 ⟨by show 0 < 2; omega, by show 2 < nx; omega⟩ hw, hwl, hh, h4⟩
theorem zs_i_length {ix q : Nat} {u : Nat × Nat × Nat × Nat} (hx : p.tables.exec = Jvm.exec) (hb : c.code = zm_code y) (hml : c.maxLocals = nL) (hRf : rk + 4 ≤ R.frames) (hRl : 40 * rk + 160 ≤ R.locals) (hown : s.vm.findClass (zm_cn (zm_own y)) = some m.cls) (hts : ∀ w ∈ zs_tb, w.before args s = true) (hA : ∀ q, s.heap.size ≤ q → A q) (hRO : zs_RO ρ A s) (hcl : nx - nx0 ≤ R.cells) (hsl : zs_sl nx - zs_sl nx0 ≤ R.slots) (hd : decode (zm_code y) pc = .ok (.invokevirtual ix, 3)) (hq : zm_cal (zm_own y) ix = some (6, q, u)) {r : List zm_V} (hstk : stk = zm_A 2 :: r) (hc : zm_cats r ≤ 8) (rr : zs_R D kA A s.heap nL ρ md loc stk nx h H locs ls st) (k : zs_K p l e R s m args below meth c Q D kA A nL ρ md nx0 (pc + 3) loc (zm_I zm_text.length :: r) nx nx h) : W p l e R s m args below meth c H locs (nx - nx0) (zs_sl nx - zs_sl nx0) Q (F0 m pc ls st) := by
  subst hstk
  obtain ⟨hP, hD, hS, hL, hst, hw, hwl, hh, h4⟩ := rr
  obtain ⟨st2, rfl, hst2⟩ := zs_top hst rfl
  obtain ⟨-, -, -, -, -, w, hT⟩ := hRO
  obtain ⟨q1, q2, q3, q4⟩ := u
  have h1 : zs_wd q1 = some (.methodLink (zm_cn (zm_own y)) ix zd_y_len) := of_decide_eq_true (zs_cal_ok hq)
  refine va_calli (va_runV (n := 0) (b := ρ 2) (As := []) (rest := st2) ⟨hx, hb, hml, hown, hts⟩ (zd_c_len l H (ρ 2) w) (cwV (C := "java/lang/String") 0 hts (zs_goodIn (fun x hw => ?_)) rfl rfl rfl ⟨rfl, by decide +kernel, by decide +kernel, by decide +kernel⟩ ⟨by show 1 + 1 ≤ R.frames; omega, by show 8 + (1 + 11) + 40 * 1 ≤ R.locals; omega⟩) ⟨zd_blind, zd_rcv hT hS, fun U hU hW => ⟨rfl, zd_pre hT hS hA hU hW⟩⟩ rfl rfl hL.2.choose_spec.1.1 rfl (lv_room (by rw [zs_cats hst2]; exact hc)) hd ⟨by omega, by omega⟩) hS (fun _ _ z => z.elim) (fun _ z => z.elim) (fun r u t H1 locs1 ht _ hp hB1 _ _ hS1 => ?_)
  · rcases List.mem_append.mp hw with hw | hw
    · simp only [List.mem_cons, List.not_mem_nil, or_false] at hw
      rcases hw with rfl | rfl | rfl | rfl
      · exact zs_wd_mem h1 rfl
      · exact zd_w_i_len
      · exact zd_w_x_len
      · exact zd_w_n_s
    · exact zd_sub zd_w_c_len x hw
  · subst hp
    have hH : H1 = H := ht.symm.trans hB1
    subst hH
    have e : (Int32.ofInt ((zm_text.length : Nat) : Int)) = 129 := by rw [zd_tlen]; rfl
    exact k ρ H1 locs1 ls _ (fun _ _ => rfl) ⟨hP, hD, hS1, hL, zs_psh (by show some (Value.int (Int32.ofInt ((zm_text.length : Nat) : Int))) = _; rw [e]) hst2, zs_w2 (by show zm_i32 ((zm_text.length : Nat) : Int); rw [zd_tlen]; show _ ∧ _; omega) (zs_w1 hw).2, hwl, hh, h4⟩
theorem zs_i_charAt {ix q : Nat} {u : Nat × Nat × Nat × Nat} (hx : p.tables.exec = Jvm.exec) (hb : c.code = zm_code y) (hml : c.maxLocals = nL) (hRf : rk + 4 ≤ R.frames) (hRl : 40 * rk + 160 ≤ R.locals) (hown : s.vm.findClass (zm_cn (zm_own y)) = some m.cls) (hts : ∀ w ∈ zs_tb, w.before args s = true) (hA : ∀ q, s.heap.size ≤ q → A q) (hRO : zs_RO ρ A s) (hcl : nx - nx0 ≤ R.cells) (hsl : zs_sl nx - zs_sl nx0 ≤ R.slots) (hd : decode (zm_code y) pc = .ok (.invokevirtual ix, 3)) (hq : zm_cal (zm_own y) ix = some (7, q, u)) {r : List zm_V} {i : Int} {ch : Nat} (hstk : stk = zm_I i :: zm_A 2 :: r) (hi : 0 ≤ i) (hc : zm_cats r ≤ 8) (hch : zm_text[i.toNat]? = some ch) (rr : zs_R D kA A s.heap nL ρ md loc stk nx h H locs ls st) (k : zs_K p l e R s m args below meth c Q D kA A nL ρ md nx0 (pc + 3) loc (zm_I ch :: r) nx nx h) : W p l e R s m args below meth c H locs (nx - nx0) (zs_sl nx - zs_sl nx0) Q (F0 m pc ls st) := by
  subst hstk
  obtain ⟨hP, hD, hS, hL, hst, hw, hwl, hh, h4⟩ := rr
  obtain ⟨st1, rfl, hst1⟩ := zs_top hst rfl
  obtain ⟨st2, rfl, hst2⟩ := zs_top hst1 rfl
  obtain ⟨-, -, -, -, -, w, hT⟩ := hRO
  obtain ⟨q1, q2, q3, q4⟩ := u
  have h1 : zs_wd q1 = some (.methodLink (zm_cn (zm_own y)) ix zd_y_cha) := of_decide_eq_true (zs_cal_ok hq)
  have hi2 : i < 129 := by
    have := (List.getElem?_eq_some_iff.mp hch).1
    rw [zd_tlen] at this
    omega
  have hg : zm_text.getD i.toNat 0 = ch := by rw [List.getD_eq_getElem?_getD, hch]; rfl
  obtain ⟨-, -, hb3⟩ := zd_bytes i.toNat (by omega)
  rw [hg] at hb3
  refine va_calli (va_runV (n := 1) (b := ρ 2) (As := [.int (Int32.ofInt i)]) (rest := st2) ⟨hx, hb, hml, hown, hts⟩ (zd_c_cha l H (ρ 2) w hi hi2) (cwV (C := "java/lang/String") 1 hts (zs_goodIn (fun x hw => ?_)) rfl rfl rfl ⟨rfl, by decide +kernel, by decide +kernel, by decide +kernel⟩ ⟨by show 3 + 1 ≤ R.frames; omega, by show 8 + (2 + 11) + 40 * 3 ≤ R.locals; omega⟩) ⟨zd_blind, zd_rcv hT hS, fun U hU hW => ⟨rfl, zd_pre hT hS hA hU hW⟩⟩ rfl rfl hL.2.choose_spec.1.1 rfl (lv_room (by rw [zs_cats hst2]; exact hc)) hd ⟨by omega, by omega⟩) hS (fun _ _ z => z.elim) (fun _ z => z.elim) (fun r u t H1 locs1 ht _ hp hB1 _ _ hS1 => ?_)
  · rcases List.mem_append.mp hw with hw | hw
    · simp only [List.mem_cons, List.not_mem_nil, or_false] at hw
      rcases hw with rfl | rfl | rfl | rfl
      · exact zs_wd_mem h1 rfl
      · exact zd_w_i_cha
      · exact zd_w_x_cha
      · exact zd_w_n_s
    · exact zd_sub zd_w_c_cha x hw
  · subst hp
    have hH : H1 = H := ht.symm.trans hB1
    subst hH
    exact k ρ H1 locs1 ls _ (fun _ _ => rfl) ⟨hP, hD, hS1, hL, zs_psh (by show some (Value.int (Int32.ofInt ((ch : Nat) : Int))) = _; rw [hg]) hst2, zs_w2 (by show zm_i32 ((ch : Nat) : Int); show _ ∧ _; omega) (zs_w1 (zs_w1 hw).2).2, hwl, hh, h4⟩
/-- one instruction that goes on to another place -/
theorem zs_sim {i : Instr} {len : Nat} (hx : p.tables.exec = Jvm.exec) (hb : c.code = zm_code y) (hml : c.maxLocals = nL) (hRf : rk + 4 ≤ R.frames) (hRl : 40 * rk + 160 ≤ R.locals) (hown : s.vm.findClass (zm_cn (zm_own y)) = some m.cls) (hts : ∀ w ∈ zs_tb, w.before args s = true) (hK : va_K D zm_cl (zs_tys kA) s) (hin : zm_ret y = 4 → meth.name = "<init>") (hA : ∀ q, s.heap.size ≤ q → A q) (h0 : nx0 ≤ nx) (hcl : nx1 - nx0 ≤ R.cells) (hsl : zs_sl nx1 - zs_sl nx0 ≤ R.slots) (hn : nx ≤ nx1)
    (hRO : zs_RO ρ A s) (hX : ∀ n xs, X = some (n, xs) → va_X (ρ 3) n (fun j => Int32.ofInt (xs j)) s s.heap ∧ ρ 3 < s.heap.size ∧ ¬ A (ρ 3) ∧ (∀ j : Int, zm_i32 (xs j)) ∧ n < 2147483648)
    (hd : decode (zm_code y) pc = .ok (i, len)) (hlen : zm_len i = none ∨ zm_len i = some len) (hsup : zm_sup i = true) (hs : zm_si X md rk y pc loc stk nx h i = some (.inl (pc', loc', stk', nx1, h1))) (r : zs_R D kA A s.heap nL ρ md loc stk nx h H locs ls st) (k : zs_K p l e R s m args below meth c Q D kA A nL ρ md nx0 pc' loc' stk' nx nx1 h1) : W p l e R s m args below meth c H locs (nx - nx0) (zs_sl nx - zs_sl nx0) Q (F0 m pc ls st) := by
  obtain ⟨hZ, hT, hO, hNe, hTx⟩ := id hRO
  cases i
  case iload n =>
    obtain rfl := zs_len hlen (rfl : _ = some 2)
    exact zs_i_iload hx hb hd hs r k
  case iload_n n =>
    obtain rfl := zs_len hlen (rfl : _ = some 1)
    exact zs_i_iload_n hx hb hd hs r k
  case lload n =>
    obtain rfl := zs_len hlen (rfl : _ = some 2)
    exact zs_i_lload hx hb hd hs r k
  case lload_n n =>
    obtain rfl := zs_len hlen (rfl : _ = some 1)
    exact zs_i_lload_n hx hb hd hs r k
  case aload n =>
    obtain rfl := zs_len hlen (rfl : _ = some 2)
    exact zs_i_aload hx hb hd hs r k
  case aload_n n =>
    obtain rfl := zs_len hlen (rfl : _ = some 1)
    exact zs_i_aload_n hx hb hd hs r k
  case istore n =>
    obtain rfl := zs_len hlen (rfl : _ = some 2)
    exact zs_i_istore hx hb hd hs r k
  case istore_n n =>
    obtain rfl := zs_len hlen (rfl : _ = some 1)
    exact zs_i_istore_n hx hb hd hs r k
  case lstore n =>
    obtain rfl := zs_len hlen (rfl : _ = some 2)
    exact zs_i_lstore hx hb hd hs r k
  case lstore_n n =>
    obtain rfl := zs_len hlen (rfl : _ = some 1)
    exact zs_i_lstore_n hx hb hd hs r k
  case astore n =>
    obtain rfl := zs_len hlen (rfl : _ = some 2)
    exact zs_i_astore hx hb hd hs r k
  case astore_n n =>
    obtain rfl := zs_len hlen (rfl : _ = some 1)
    exact zs_i_astore_n hx hb hd hs r k
  case iinc n z =>
    obtain rfl := zs_len hlen (rfl : _ = some 3)
    exact zs_i_iinc hx hb hd hs r k
  case iconst z =>
    obtain rfl := zs_len hlen (rfl : _ = some 1)
    exact zs_i_iconst hx hb hd hs r k
  case bipush z =>
    obtain rfl := zs_len hlen (rfl : _ = some 2)
    exact zs_i_bipush hx hb hd hs r k
  case sipush z =>
    obtain rfl := zs_len hlen (rfl : _ = some 3)
    exact zs_i_sipush hx hb hd hs r k
  case lconst z =>
    obtain rfl := zs_len hlen (rfl : _ = some 1)
    exact zs_i_lconst hx hb hd hs r k
  case ldc2_w ix =>
    obtain rfl := zs_len hlen (rfl : _ = some 3)
    exact zs_i_ldc2 hx hb hown hts hd hs r k
  case ldc ix =>
    obtain rfl := zs_len hlen (rfl : _ = some 2)
    exact zs_i_text hx hb hown hRO hd hs r k
  case dup =>
    obtain rfl := zs_len hlen (rfl : _ = some 1)
    exact zs_i_dup hx hb hd hs r k
  case dup_x1 =>
    obtain rfl := zs_len hlen (rfl : _ = some 1)
    exact zs_i_dup_x1 hx hb hd hs r k
  case dup2 =>
    obtain rfl := zs_len hlen (rfl : _ = some 1)
    exact zs_i_dup2 hx hb hd hs r k
  case pop =>
    obtain rfl := zs_len hlen (rfl : _ = some 1)
    exact zs_i_pop hx hb hd hs r k
  case ineg =>
    obtain rfl := zs_len hlen (rfl : _ = some 1)
    exact zs_i_ineg hx hb hd hs r k
  case i2l =>
    obtain rfl := zs_len hlen (rfl : _ = some 1)
    exact zs_i_i2l hx hb hd hs r k
  case l2i =>
    obtain rfl := zs_len hlen (rfl : _ = some 1)
    exact zs_i_l2i hx hb hd hs r k
  case lcmp =>
    obtain rfl := zs_len hlen (rfl : _ = some 1)
    exact zs_i_lcmp hx hb hd hs r k
  case if_icmp c off =>
    obtain rfl := zs_len hlen (rfl : _ = some 3)
    cases c
    · exact zs_i_icmp_eq hx hb hd hs r k
    · exact zs_i_icmp_ne hx hb hd hs r k
    · exact zs_i_icmp_lt hx hb hd hs r k
    · exact zs_i_icmp_ge hx hb hd hs r k
    · exact zs_i_icmp_gt hx hb hd hs r k
    · exact zs_i_icmp_le hx hb hd hs r k
  case ifCond c off =>
    obtain rfl := zs_len hlen (rfl : _ = some 3)
    cases c
    · exact zs_i_if_eq hx hb hd hs r k
    · exact zs_i_if_ne hx hb hd hs r k
    · exact zs_i_if_lt hx hb hd hs r k
    · exact zs_i_if_ge hx hb hd hs r k
    · exact zs_i_if_gt hx hb hd hs r k
    · exact zs_i_if_le hx hb hd hs r k
  case goto off =>
    obtain rfl := zs_len hlen (rfl : _ = some 3)
    exact zs_i_goto hx hb hd hs r k
  case tableswitch d lo hi offs =>
    exact zs_i_tsw hx hb hd hs r k
  case lookupswitch d ps =>
    exact zs_i_lsw hx hb hd hs r k
  case getfield ix =>
    obtain rfl := zs_len hlen (rfl : _ = some 3)
    exact zs_i_getfield hx hb hown hts hK hd hs r k
  case putfield ix =>
    obtain rfl := zs_len hlen (rfl : _ = some 3)
    exact zs_i_putfield hx hb hown hts hK hin hd hs r k
  case getstatic ix =>
    obtain rfl := zs_len hlen (rfl : _ = some 3)
    exact zs_i_getstatic hx hb hown hts hZ hd hs r k
  case iaload =>
    obtain rfl := zs_len hlen (rfl : _ = some 1)
    exact zs_i_iaload hx hb hK hT hX hd hs r k
  case laload =>
    obtain rfl := zs_len hlen (rfl : _ = some 1)
    exact zs_i_laload hx hb hK hd hs r k
  case baload =>
    obtain rfl := zs_len hlen (rfl : _ = some 1)
    exact zs_i_baload hx hb hK hd hs r k
  case aaload =>
    obtain rfl := zs_len hlen (rfl : _ = some 1)
    exact zs_i_aaload hx hb hK hd hs r k
  case iastore =>
    obtain rfl := zs_len hlen (rfl : _ = some 1)
    exact zs_i_iastore hx hb hK hd hs r k
  case lastore =>
    obtain rfl := zs_len hlen (rfl : _ = some 1)
    exact zs_i_lastore hx hb hK hd hs r k
  case bastore =>
    obtain rfl := zs_len hlen (rfl : _ = some 1)
    exact zs_i_bastore hx hb hK hd hs r k
  case aastore =>
    obtain rfl := zs_len hlen (rfl : _ = some 1)
    exact zs_i_aastore hx hb hK hd hs r k
  case arraylength =>
    obtain rfl := zs_len hlen (rfl : _ = some 1)
    exact zs_i_arraylength hx hb hK hX hd hs r k
  case new ix =>
    obtain rfl := zs_len hlen (rfl : _ = some 3)
    exact zs_i_new hx hb hown hts hK hA h0 hcl hsl hd hs r k
  case newarray t =>
    obtain rfl := zs_len hlen (rfl : _ = some 2)
    exact zs_i_newarray hx hb hown hts hK hA h0 hcl hsl hd hs r k
  case anewarray ix =>
    obtain rfl := zs_len hlen (rfl : _ = some 3)
    exact zs_i_anewarray hx hb hown hts hK hA h0 hcl hsl hO hd hs r k
  case invokevirtual ix =>
    obtain rfl := zs_len hlen (rfl : _ = some 3)
    simp only [zm_si, zm_go, zm_call] at hs
    split at hs
    · cases (zm_ck_some hs).2
    · next q u hq =>
      split at hs
      · obtain ⟨hc, hs⟩ := zm_ck_some hs
        cases hs
        exact zs_i_length hx hb hml hRf hRl hown hts hA hRO hcl hsl hd hq rfl hc r k
      · cases hs
    · next q u hq =>
      split at hs
      · next i r0 =>
        obtain ⟨⟨hi, hc⟩, hs⟩ := zm_ck_some hs
        split at hs
        · next ch hch =>
          cases hs
          exact zs_i_charAt hx hb hml hRf hRl hown hts hA hRO hcl hsl hd hq rfl hi hc hch r k
        · cases hs
      · cases hs
    · cases hs
  case invokestatic ix =>
    obtain rfl := zs_len hlen (rfl : _ = some 3)
    simp only [zm_si, zm_go, zm_call] at hs
    split at hs
    · cases (zm_ck_some hs).2
    · cases (zm_ck_some hs).2
    · next q u hq =>
      split at hs
      · obtain ⟨hc, hs⟩ := zm_ck_some hs
        cases hs
        exact zs_i_mmin hx hb hml hRf hRl hown hts hcl hsl hd hq rfl hc r k
      · cases hs
    · next q u hq =>
      split at hs
      · obtain ⟨hc, hs⟩ := zm_ck_some hs
        cases hs
        exact zs_i_mmax hx hb hml hRf hRl hown hts hcl hsl hd hq rfl hc r k
      · cases hs
    · next q u hq =>
      split at hs
      · obtain ⟨hc, hs⟩ := zm_ck_some hs
        cases hs
        exact zs_i_mminl hx hb hml hRf hRl hown hts hcl hsl hd hq rfl hc r k
      · cases hs
    · next q u hq =>
      split at hs
      · obtain ⟨hc, hs⟩ := zm_ck_some hs
        cases hs
        exact zs_i_mmaxl hx hb hml hRf hRl hown hts hcl hsl hd hq rfl hc r k
      · cases hs
    · next q u hq =>
      split at hs
      · obtain ⟨hc, hs⟩ := zm_ck_some hs
        cases hs
        exact zs_i_fdiv hx hb hml hRf hRl hown hts hK hA h0 hRO hcl hsl hd hq rfl hc r k
      · cases hs
    · next q u hq =>
      split at hs
      · obtain ⟨hc, hs⟩ := zm_ck_some hs
        cases hs
        exact zs_i_fmod hx hb hml hRf hRl hown hts hK hA h0 hRO hcl hsl hd hq rfl hc r k
      · cases hs
    · cases hs
  case invokespecial ix =>
    obtain rfl := zs_len hlen (rfl : _ = some 3)
    simp only [zm_si, zm_go, zm_call] at hs
    split at hs
    · cases (zm_ck_some hs).2
    · cases (zm_ck_some hs).2
    · next q u hq =>
      split at hs
      · obtain ⟨hc, hs⟩ := zm_ck_some hs
        cases hs
        exact zs_i_objInit hx hb hml hRf hRl hown hts hd hq rfl hc r k
      · cases hs
    · cases hs
  case ireturn =>
    obtain rfl := zs_len hlen (rfl : _ = some 1)
    simp only [zm_si] at hs
    split at hs
    · cases (zm_ck_some hs).2
    · cases hs
  case lreturn =>
    obtain rfl := zs_len hlen (rfl : _ = some 1)
    simp only [zm_si] at hs
    split at hs
    · cases (zm_ck_some hs).2
    · cases hs
  case return_ =>
    obtain rfl := zs_len hlen (rfl : _ = some 1)
    simp only [zm_si] at hs
    split at hs
    · cases (zm_ck_some hs).2
    · cases hs
  case iadd =>
    obtain rfl := zs_len hlen (rfl : _ = some 1)
    exact zs_i_iadd hx hb hd hs r k
  case isub =>
    obtain rfl := zs_len hlen (rfl : _ = some 1)
    exact zs_i_isub hx hb hd hs r k
  case imul =>
    obtain rfl := zs_len hlen (rfl : _ = some 1)
    exact zs_i_imul hx hb hd hs r k
  case idiv =>
    obtain rfl := zs_len hlen (rfl : _ = some 1)
    exact zs_i_idiv hx hb hd hs r k
  case irem =>
    obtain rfl := zs_len hlen (rfl : _ = some 1)
    exact zs_i_irem hx hb hd hs r k
  case iand =>
    obtain rfl := zs_len hlen (rfl : _ = some 1)
    exact zs_i_iand hx hb hd hs r k
  case ior =>
    obtain rfl := zs_len hlen (rfl : _ = some 1)
    exact zs_i_ior hx hb hd hs r k
  case ixor =>
    obtain rfl := zs_len hlen (rfl : _ = some 1)
    exact zs_i_ixor hx hb hd hs r k
  case ishl =>
    obtain rfl := zs_len hlen (rfl : _ = some 1)
    exact zs_i_ishl hx hb hd hs r k
  case ishr =>
    obtain rfl := zs_len hlen (rfl : _ = some 1)
    exact zs_i_ishr hx hb hd hs r k
  case iushr =>
    obtain rfl := zs_len hlen (rfl : _ = some 1)
    exact zs_i_iushr hx hb hd hs r k
  case ladd =>
    obtain rfl := zs_len hlen (rfl : _ = some 1)
    exact zs_i_ladd hx hb hd hs r k
  case lsub =>
    obtain rfl := zs_len hlen (rfl : _ = some 1)
    exact zs_i_lsub hx hb hd hs r k
  case lmul =>
    obtain rfl := zs_len hlen (rfl : _ = some 1)
    exact zs_i_lmul hx hb hd hs r k
  case ldiv =>
    obtain rfl := zs_len hlen (rfl : _ = some 1)
    exact zs_i_ldiv hx hb hd hs r k
  case lrem =>
    obtain rfl := zs_len hlen (rfl : _ = some 1)
    exact zs_i_lrem hx hb hd hs r k
  case land =>
    obtain rfl := zs_len hlen (rfl : _ = some 1)
    exact zs_i_land hx hb hd hs r k
  case lor =>
    obtain rfl := zs_len hlen (rfl : _ = some 1)
    exact zs_i_lor hx hb hd hs r k
  case lshl =>
    obtain rfl := zs_len hlen (rfl : _ = some 1)
    exact zs_i_lshl hx hb hd hs r k
  case lshr =>
    obtain rfl := zs_len hlen (rfl : _ = some 1)
    exact zs_i_lshr hx hb hd hs r k
  all_goals exact absurd hsup Bool.false_ne_true
end
