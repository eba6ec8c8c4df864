/-! SOUNDNESS, part 5: the instructions over cells (printed by wip/gen/gen_simm.py) -/
theorem zs_small_all : zm_layL.all (fun x => match x with | .inl _ => true | .inr (_, n) => decide (n < 2147483648)) = true := by decide +kernel
theorem zs_small {a t n : Nat} (h : zm_lay a = .inr (t, n)) : n < 2147483648 := by
  unfold zm_lay at h
  rw [List.getD_eq_getElem?_getD] at h
  cases hc : zm_layL[a]? with
  | none => rw [hc] at h; cases h; omega
  | some x =>
    rw [hc] at h
    have h1 : x = .inr (t, n) := h
    have h2 := List.all_eq_true.mp zs_small_all x (List.mem_of_getElem? hc)
    rw [h1] at h2
    exact of_decide_eq_true h2
section
variable {p : Program} {l : Launch} {e : Env} {R : Room} {s : State} {m : MethodId} {args : Array Value} {below : List Frame} {meth : Method} {c : Code} {Q : State → Prop}
variable {X : Option (Nat × (Int → Int))} {md : Bool} {rk y pc : Nat} {loc stk : List zm_V} {nx : Nat} {h : zm_H} {pc' : Nat} {loc' stk' : List zm_V} {nx1 : Nat} {h1 : zm_H}
variable {D : va_G} {kA : Nat → ClassId} {A : Nat → Prop} {ρ : Nat → Nat} {H : Heap} {locs : List Loc} {ls : Array Slot} {st : List Value} {nx0 nL : Nat}
theorem zs_i_getfield {ix : Nat} (hx : p.tables.exec = Jvm.exec) (hb : c.code = zm_code y) (hown : s.vm.findClass (zm_cn (zm_own y)) = some m.cls) (hts : ∀ w ∈ zs_tb, w.before args s = true) (hK : va_K D zm_cl (zs_tys kA) s) (hd : decode (zm_code y) pc = .ok (.getfield ix, 3)) (hs : zm_si X md rk y pc loc stk nx h (.getfield ix) = some (.inl (pc', loc', stk', nx1, h1))) (r : zs_R D kA A s.heap nL ρ md loc stk nx h H locs ls st) (k : zs_K p l e R s m args below meth c Q D kA A nL ρ md nx0 pc' loc' stk' nx nx1 h1) : W p l e R s m args below meth c H locs (nx - nx0) (zs_sl nx - zs_sl nx0) Q (F0 m pc ls st) := by
  obtain ⟨hP, hD, hS, hL, hst, hw, hwl, hh, h4⟩ := r
  simp only [zm_si, zm_go] at hs
  split at hs
  · next o r =>
    split at hs
    · next cc k0 p0 hf =>
      obtain ⟨⟨hlay, ho, hox⟩, hs⟩ := zm_ck_some hs
      obtain ⟨v, hv, hs⟩ := Option.bind_eq_some_iff.mp hs
      cases hs
      obtain ⟨st2, rfl, hst2⟩ := zs_top hst rfl
      obtain ⟨hwd, hc13, hkN⟩ := zs_fld_ok hf
      obtain ⟨hmv, hvw⟩ := zs_rdf (ρ := ρ) hv ((zs_cwo hlay ▸ hh o ho hox) k0 hkN)
      refine va_get (v := zs_fv ρ md h cc o k0) (own := zm_cn (zm_own y)) (ref := zm_cn cc) (index := ix) hx hb hts (zs_u hc13) hown hK hP (o - 4) ((zs_ws_at ho hox).trans (by rw [zs_obj hlay])) (zs_cl_at hc13) k0 hkN (hts _ hwd) (fun _ h9 => by rw [(zs_fin hc13 hkN).2] at h9; exact h9) (by rw [List.getElem?_map, List.getElem?_range hkN]; rfl) hd ?_
      exact k ρ H locs ls _ (fun _ _ => rfl) ⟨hP, hD, hS, hL, zs_psh hmv hst2, zs_w2 hvw (zs_w1 hw).2, hwl, hh, h4⟩
    · cases hs
  · cases hs
theorem zs_i_putfield {ix : Nat} (hx : p.tables.exec = Jvm.exec) (hb : c.code = zm_code y) (hown : s.vm.findClass (zm_cn (zm_own y)) = some m.cls) (hts : ∀ w ∈ zs_tb, w.before args s = true) (hK : va_K D zm_cl (zs_tys kA) s) (hin : zm_ret y = 4 → meth.name = "<init>") (hd : decode (zm_code y) pc = .ok (.putfield ix, 3)) (hs : zm_si X md rk y pc loc stk nx h (.putfield ix) = some (.inl (pc', loc', stk', nx1, h1))) (r : zs_R D kA A s.heap nL ρ md loc stk nx h H locs ls st) (k : zs_K p l e R s m args below meth c Q D kA A nL ρ md nx0 pc' loc' stk' nx nx1 h1) : W p l e R s m args below meth c H locs (nx - nx0) (zs_sl nx - zs_sl nx0) Q (F0 m pc ls st) := by
  obtain ⟨hP, hD, hS, hL, hst, hw, hwl, hh, h4⟩ := r
  simp only [zm_si, zm_go] at hs
  split at hs
  · next v o r =>
    split at hs
    · next cc k0 p0 hf =>
      obtain ⟨⟨hlay, ho, hox⟩, hs⟩ := zm_ck_some hs
      obtain ⟨g, hv, hs⟩ := Option.bind_eq_some_iff.mp hs
      cases hs
      obtain ⟨hwd, hc13, hkN⟩ := zs_fld_ok hf
      obtain ⟨ty, hty, htk⟩ := zs_ty hc13 hkN
      obtain ⟨z, w, rfl, hmv, hfv, hfw, hnar, hfit, h3⟩ := zs_wrf (ρ := ρ) hv (zs_w1 hw).1 htk
      obtain ⟨st2, rfl, hst2⟩ := zs_top hst hmv
      obtain ⟨st3, rfl, hst3⟩ := zs_top hst2 rfl
      by_cases h3f : zm_ft cc k0 = 3
      · obtain ⟨hr4, hco⟩ := h3 h3f
        refine va_putF (v := w) (ty := ty) (own := zm_cn (zm_own y)) (ref := zm_cn cc) (index := ix) hx hb hts (zs_u hc13) (zs_ty0 cc) (zs_ty0_ok hc13) (zs_nm hc13) hown hK hP hD hS (o - 4) ((zs_ws_at ho hox).trans (by rw [zs_obj hlay])) (zs_cl_at hc13) k0 hkN (hts _ hwd) (fun _ h9 => by rw [(zs_fin hc13 hkN).2] at h9; exact h9) (by rw [(zs_fin hc13 hkN).1, h3f]; rfl) (hin hr4) (by rw [(zs_fin hc13 hkN).2, hco]) hty hnar hfit (by simpa using hkN) hd (fun H1 locs1 hP1 hD1 hS1 => ?_)
        rw [zs_fset hfv, zs_ws_set ho (fun b hb => zs_wr_ne hb) (zs_obj hlay).symm] at hP1 hD1
        exact k ρ H1 locs1 ls _ (fun _ _ => rfl) ⟨hP1, hD1, hS1, hL, hst3, (zs_w1 (zs_w1 hw).2).2, hwl, zs_hwf hh hlay hfw, h4⟩
      · skip
        refine va_put (v := w) (ty := ty) (own := zm_cn (zm_own y)) (ref := zm_cn cc) (index := ix) hx hb hts (zs_u hc13) (zs_ty0 cc) (zs_ty0_ok hc13) (zs_nm hc13) hown hK hP hD hS (o - 4) ((zs_ws_at ho hox).trans (by rw [zs_obj hlay])) (zs_cl_at hc13) k0 hkN (hts _ hwd) (fun _ h9 => by rw [(zs_fin hc13 hkN).2] at h9; exact h9) (by rw [(zs_fin hc13 hkN).1]; exact decide_eq_false h3f) hty hnar hfit (by simpa using hkN) hd (fun H1 locs1 hP1 hD1 hS1 => ?_)
        rw [zs_fset hfv, zs_ws_set ho (fun b hb => zs_wr_ne hb) (zs_obj hlay).symm] at hP1 hD1
        exact k ρ H1 locs1 ls _ (fun _ _ => rfl) ⟨hP1, hD1, hS1, hL, hst3, (zs_w1 (zs_w1 hw).2).2, hwl, zs_hwf hh hlay hfw, h4⟩
    · cases hs
  · cases hs
theorem zs_i_getstatic {ix : Nat} (hx : p.tables.exec = Jvm.exec) (hb : c.code = zm_code y) (hown : s.vm.findClass (zm_cn (zm_own y)) = some m.cls) (hts : ∀ w ∈ zs_tb, w.before args s = true) (hZ : va_Z "BranTub" "AS_THEY_LIE" "[I" (.ref (ρ 1)) A s s.heap) (hd : decode (zm_code y) pc = .ok (.getstatic ix, 3)) (hs : zm_si X md rk y pc loc stk nx h (.getstatic ix) = some (.inl (pc', loc', stk', nx1, h1))) (r : zs_R D kA A s.heap nL ρ md loc stk nx h H locs ls st) (k : zs_K p l e R s m args below meth c Q D kA A nL ρ md nx0 pc' loc' stk' nx nx1 h1) : W p l e R s m args below meth c H locs (nx - nx0) (zs_sl nx - zs_sl nx0) Q (F0 m pc ls st) := by
  obtain ⟨hP, hD, hS, hL, hst, hw, hwl, hh, h4⟩ := r
  simp only [zm_si, zm_go] at hs
  obtain ⟨⟨ho, hix⟩, hs2⟩ := zm_ck_some hs
  subst hix
  cases hs2
  rw [ho] at hown
  refine va_gets (own := zm_cn 0) (ref := "BranTub") hx hb hZ hS hown (hts (.fieldLink "BranTub" 330 "BranTub" "AS_THEY_LIE" "[I") (zs_wd_mem (p := 4094) (by decide +kernel) rfl)) (fun _ h9 => h9) hd ?_
  exact k ρ H locs ls _ (fun _ _ => rfl) ⟨hP, hD, hS, hL, zs_psh rfl hst, zs_w2 ⟨by show 0 < 1; omega, by show 1 < nx; omega⟩ hw, hwl, hh, h4⟩
theorem zs_i_laload (hx : p.tables.exec = Jvm.exec) (hb : c.code = zm_code y) (hK : va_K D zm_cl (zs_tys kA) s) (hd : decode (zm_code y) pc = .ok (.laload, 1)) (hs : zm_si X md rk y pc loc stk nx h (.laload) = some (.inl (pc', loc', stk', nx1, h1))) (r : zs_R D kA A s.heap nL ρ md loc stk nx h H locs ls st) (k : zs_K p l e R s m args below meth c Q D kA A nL ρ md nx0 pc' loc' stk' nx nx1 h1) : W p l e R s m args below meth c H locs (nx - nx0) (zs_sl nx - zs_sl nx0) Q (F0 m pc ls st) := by
  obtain ⟨hP, hD, hS, hL, hst, hw, hwl, hh, h4⟩ := r
  simp only [zm_si, zm_go] at hs
  split at hs
  · next i a r =>
    obtain ⟨hok, hs⟩ := zm_ck_some hs
    cases hs
    obtain ⟨n, hlay, ha, hax, hi0, hin⟩ := zs_okb hok
    have hwi := (zs_w1 hw).1
    obtain ⟨st2, rfl, hst2⟩ := zs_top hst rfl
    obtain ⟨st3, rfl, hst3⟩ := zs_top hst2 rfl
    obtain ⟨hvin, hclamp, hcast⟩ := zs_i32s hi0 hin hwi
    have hcw := (zs_cwa hlay ▸ hh a ha hax) i.toNat (by omega)
    refine va_lald hx hb hK hP (a - 4) 1 ((zs_ws_at ha hax).trans (by rw [zs_ca1 hlay])) rfl hvin hd ?_
    simp only [hclamp, hcast]
    exact k ρ H locs ls _ (fun _ _ => rfl) ⟨hP, hD, hS, hL, zs_psh rfl hst3, zs_w2 (by unfold zs_aw at hcw; simp only [hcast] at hcw; exact hcw) (zs_w1 (zs_w1 hw).2).2, hwl, hh, h4⟩
  · cases hs
theorem zs_i_baload (hx : p.tables.exec = Jvm.exec) (hb : c.code = zm_code y) (hK : va_K D zm_cl (zs_tys kA) s) (hd : decode (zm_code y) pc = .ok (.baload, 1)) (hs : zm_si X md rk y pc loc stk nx h (.baload) = some (.inl (pc', loc', stk', nx1, h1))) (r : zs_R D kA A s.heap nL ρ md loc stk nx h H locs ls st) (k : zs_K p l e R s m args below meth c Q D kA A nL ρ md nx0 pc' loc' stk' nx nx1 h1) : W p l e R s m args below meth c H locs (nx - nx0) (zs_sl nx - zs_sl nx0) Q (F0 m pc ls st) := by
  obtain ⟨hP, hD, hS, hL, hst, hw, hwl, hh, h4⟩ := r
  simp only [zm_si, zm_go] at hs
  split at hs
  · next i a r =>
    obtain ⟨hok, hs⟩ := zm_ck_some hs
    cases hs
    obtain ⟨n, hlay, ha, hax, hi0, hin⟩ := zs_okb hok
    have hwi := (zs_w1 hw).1
    obtain ⟨st2, rfl, hst2⟩ := zs_top hst rfl
    obtain ⟨st3, rfl, hst3⟩ := zs_top hst2 rfl
    obtain ⟨hvin, hclamp, hcast⟩ := zs_i32s hi0 hin hwi
    have hcw := (zs_cwa hlay ▸ hh a ha hax) i.toNat (by omega)
    refine va_zald hx hb hK hP (a - 4) 2 ((zs_ws_at ha hax).trans (by rw [zs_ca2 hlay])) rfl hvin hd ?_
    simp only [hclamp, hcast]
    exact k ρ H locs ls _ (fun _ _ => rfl) ⟨hP, hD, hS, hL, zs_psh rfl hst3, zs_w2 (by unfold zs_aw at hcw; simp only [hcast] at hcw; rcases hcw with q | q <;> (show zm_i32 _; rw [q]; omega)) (zs_w1 (zs_w1 hw).2).2, hwl, hh, h4⟩
  · cases hs
theorem zs_i_aaload (hx : p.tables.exec = Jvm.exec) (hb : c.code = zm_code y) (hK : va_K D zm_cl (zs_tys kA) s) (hd : decode (zm_code y) pc = .ok (.aaload, 1)) (hs : zm_si X md rk y pc loc stk nx h (.aaload) = some (.inl (pc', loc', stk', nx1, h1))) (r : zs_R D kA A s.heap nL ρ md loc stk nx h H locs ls st) (k : zs_K p l e R s m args below meth c Q D kA A nL ρ md nx0 pc' loc' stk' nx nx1 h1) : W p l e R s m args below meth c H locs (nx - nx0) (zs_sl nx - zs_sl nx0) Q (F0 m pc ls st) := by
  obtain ⟨hP, hD, hS, hL, hst, hw, hwl, hh, h4⟩ := r
  simp only [zm_si, zm_go] at hs
  split at hs
  · next i a r =>
    obtain ⟨⟨hok, hfl⟩, hs⟩ := zm_ck_some hs
    cases hs
    obtain ⟨n, hlay, ha, hax, hi0, hin⟩ := zs_okb hok
    have hwi := (zs_w1 hw).1
    obtain ⟨st2, rfl, hst2⟩ := zs_top hst rfl
    obtain ⟨st3, rfl, hst3⟩ := zs_top hst2 rfl
    obtain ⟨hvin, hclamp, hcast⟩ := zs_i32s hi0 hin hwi
    have hcw := (zs_cwa hlay ▸ hh a ha hax) i.toNat (by omega)
    unfold zs_aw at hcw
    simp only [hcast] at hcw
    have hcw := hcw hfl
    refine va_aldq hx hb hK hP (a - 4) 3 ((zs_ws_at ha hax).trans (by rw [zs_ca3 hlay])) rfl hvin hd ?_
    simp only [hclamp, hcast]
    rw [if_pos ⟨by omega, hfl⟩]
    exact k ρ H locs ls _ (fun _ _ => rfl) ⟨hP, hD, hS, hL, zs_psh rfl hst3, zs_w2 ⟨by omega, hcw.2⟩ (zs_w1 (zs_w1 hw).2).2, hwl, hh, h4⟩
  · cases hs
theorem zs_i_iaload (hx : p.tables.exec = Jvm.exec) (hb : c.code = zm_code y) (hK : va_K D zm_cl (zs_tys kA) s) (hT : va_T .int (ρ 1) 5 (fun j => .int (Int32.ofInt j)) A s s.heap) (hX : ∀ n xs, X = some (n, xs) → va_X (ρ 3) n (fun j => Int32.ofInt (xs j)) s s.heap ∧ ρ 3 < s.heap.size ∧ ¬ A (ρ 3) ∧ (∀ j : Int, zm_i32 (xs j)) ∧ n < 2147483648) (hd : decode (zm_code y) pc = .ok (.iaload, 1)) (hs : zm_si X md rk y pc loc stk nx h (.iaload) = some (.inl (pc', loc', stk', nx1, h1))) (r : zs_R D kA A s.heap nL ρ md loc stk nx h H locs ls st) (k : zs_K p l e R s m args below meth c Q D kA A nL ρ md nx0 pc' loc' stk' nx nx1 h1) : W p l e R s m args below meth c H locs (nx - nx0) (zs_sl nx - zs_sl nx0) Q (F0 m pc ls st) := by
  obtain ⟨hP, hD, hS, hL, hst, hw, hwl, hh, h4⟩ := r
  simp only [zm_si, zm_go] at hs
  split at hs
  · next i a r =>
    obtain ⟨v, hv, hs⟩ := Option.bind_eq_some_iff.mp hs
    cases hs
    have hwi := (zs_w1 hw).1
    obtain ⟨st2, rfl, hst2⟩ := zs_top hst rfl
    obtain ⟨st3, rfl, hst3⟩ := zs_top hst2 rfl
    unfold zm_ald at hv
    split at hv
    · next ha1 =>
      subst ha1
      obtain ⟨hi, hv⟩ := zm_ck_some hv
      cases hv
      obtain ⟨hvin, hclamp, hcast⟩ := zs_i32s (n := 5) hi.1 (by omega) hwi
      refine va_ti hx hb hT hS hvin (v := .int (Int32.ofInt i)) (by simp only [hclamp, hcast]) hd ?_
      exact k ρ H locs ls _ (fun _ _ => rfl) ⟨hP, hD, hS, hL, zs_psh rfl hst3, zs_w2 hwi (zs_w1 (zs_w1 hw).2).2, hwl, hh, h4⟩
    · split at hv
      · next ha1 ha3 =>
        subst ha3
        split at hv
        · next n xs =>
          obtain ⟨hi, hv⟩ := zm_ck_some hv
          cases hv
          obtain ⟨hX1, hX2, hX3, hX4, hX5⟩ := hX n xs rfl
          obtain ⟨hvin, hclamp, hcast⟩ := zs_i32s hi.1 hi.2 hwi
          refine va_sld hx hb hX1 hX2 hX3 hS hvin hd ?_
          simp only [hclamp, hcast]
          exact k ρ H locs ls _ (fun _ _ => rfl) ⟨hP, hD, hS, hL, zs_psh rfl hst3, zs_w2 (hX4 i) (zs_w1 (zs_w1 hw).2).2, hwl, hh, h4⟩
        · cases hv
      · split at hv
        · next n hlay =>
          obtain ⟨⟨ha, hax, hi0, hin⟩, hv⟩ := zm_ck_some hv
          cases hv
          obtain ⟨hvin, hclamp, hcast⟩ := zs_i32s hi0 hin hwi
          have hcw := (zs_cwa hlay ▸ hh a ha hax) i.toNat (by omega)
          unfold zs_aw at hcw
          simp only [hcast] at hcw
          refine va_iald hx hb hK hP (a - 4) 0 ((zs_ws_at ha hax).trans (by rw [zs_ca0 hlay])) rfl hvin hd ?_
          simp only [hclamp, hcast]
          exact k ρ H locs ls _ (fun _ _ => rfl) ⟨hP, hD, hS, hL, zs_psh rfl hst3, zs_w2 hcw (zs_w1 (zs_w1 hw).2).2, hwl, hh, h4⟩
        · cases hv
  · cases hs
theorem zs_i_iastore (hx : p.tables.exec = Jvm.exec) (hb : c.code = zm_code y) (hK : va_K D zm_cl (zs_tys kA) s) (hd : decode (zm_code y) pc = .ok (.iastore, 1)) (hs : zm_si X md rk y pc loc stk nx h (.iastore) = some (.inl (pc', loc', stk', nx1, h1))) (r : zs_R D kA A s.heap nL ρ md loc stk nx h H locs ls st) (k : zs_K p l e R s m args below meth c Q D kA A nL ρ md nx0 pc' loc' stk' nx nx1 h1) : W p l e R s m args below meth c H locs (nx - nx0) (zs_sl nx - zs_sl nx0) Q (F0 m pc ls st) := by
  obtain ⟨hP, hD, hS, hL, hst, hw, hwl, hh, h4⟩ := r
  simp only [zm_si, zm_go] at hs
  split at hs
  · next z i a r =>
    obtain ⟨hok, hs⟩ := zm_ck_some hs
    cases hs
    obtain ⟨n, hlay, ha, hax, hi0, hin⟩ := zs_okb hok
    have hwz := (zs_w1 hw).1
    have hwi := (zs_w1 (zs_w1 hw).2).1
    have hwr := (zs_w1 (zs_w1 (zs_w1 hw).2).2).2
    obtain ⟨st2, rfl, hst2⟩ := zs_top hst rfl
    obtain ⟨st3, rfl, hst3⟩ := zs_top hst2 rfl
    obtain ⟨st4, rfl, hst4⟩ := zs_top hst3 rfl
    obtain ⟨hvin, hclamp, hcast⟩ := zs_i32s hi0 hin hwi
    refine va_iast hx hb hK hP hD hS (a - 4) 0 ((zs_ws_at ha hax).trans (by rw [zs_ca0 hlay])) rfl hvin hd (fun H1 locs1 hP1 hD1 hS1 => ?_)
    have hcell : (.inl (kA 0, n, .inl (upd (fun j => Int32.ofInt (h a j)) (Int32.ofInt i).toNatClampNeg (Int32.ofInt z))) : va_E) = zs_cell kA ρ md (zm_wr h a i z) a := by
      rw [zs_ca0 hlay]
      congr 4
      funext j
      rw [hclamp]
      have hji : (j = i.toNat) ↔ ((j : Int) = i) := by omega
      have hji3 : ¬ j = i.toNat → ¬ ((j : Int) = i) := fun q q2 => q (hji.mpr q2)
      by_cases hj : j = i.toNat
      · simp only [upd, if_pos hj, zm_wr, hji.mp hj, and_self, if_true]
      · have hji2 := hji3 hj
        simp only [upd, if_neg hj, zm_wr, hji2, and_false, if_false]
    rw [zs_ws_set ha (fun b hb => zs_wr_ne hb) hcell] at hP1 hD1
    exact k ρ H1 locs1 ls _ (fun _ _ => rfl) ⟨hP1, hD1, hS1, hL, hst4, hwr, hwl, zs_hwa hh hlay hi0 (by unfold zs_aw; simp only [hcast, zs_wr_at]; exact hwz), h4⟩
  · cases hs
theorem zs_i_lastore (hx : p.tables.exec = Jvm.exec) (hb : c.code = zm_code y) (hK : va_K D zm_cl (zs_tys kA) s) (hd : decode (zm_code y) pc = .ok (.lastore, 1)) (hs : zm_si X md rk y pc loc stk nx h (.lastore) = some (.inl (pc', loc', stk', nx1, h1))) (r : zs_R D kA A s.heap nL ρ md loc stk nx h H locs ls st) (k : zs_K p l e R s m args below meth c Q D kA A nL ρ md nx0 pc' loc' stk' nx nx1 h1) : W p l e R s m args below meth c H locs (nx - nx0) (zs_sl nx - zs_sl nx0) Q (F0 m pc ls st) := by
  obtain ⟨hP, hD, hS, hL, hst, hw, hwl, hh, h4⟩ := r
  simp only [zm_si, zm_go] at hs
  split at hs
  · next z i a r =>
    obtain ⟨hok, hs⟩ := zm_ck_some hs
    cases hs
    obtain ⟨n, hlay, ha, hax, hi0, hin⟩ := zs_okb hok
    have hwz := (zs_w1 hw).1
    have hwi := (zs_w1 (zs_w1 hw).2).1
    have hwr := (zs_w1 (zs_w1 (zs_w1 hw).2).2).2
    obtain ⟨st2, rfl, hst2⟩ := zs_top hst rfl
    obtain ⟨st3, rfl, hst3⟩ := zs_top hst2 rfl
    obtain ⟨st4, rfl, hst4⟩ := zs_top hst3 rfl
    obtain ⟨hvin, hclamp, hcast⟩ := zs_i32s hi0 hin hwi
    refine va_last hx hb hK hP hD hS (a - 4) 1 ((zs_ws_at ha hax).trans (by rw [zs_ca1 hlay])) rfl hvin hd (fun H1 locs1 hP1 hD1 hS1 => ?_)
    have hcell : (.inl (kA 1, n, .inr (.inl (vp_updL (fun j => Int64.ofInt (h a j)) (Int32.ofInt i).toNatClampNeg (Int64.ofInt z)))) : va_E) = zs_cell kA ρ md (zm_wr h a i z) a := by
      rw [zs_ca1 hlay]
      congr 5
      funext j
      rw [hclamp]
      have hji : (j = i.toNat) ↔ ((j : Int) = i) := by omega
      have hji3 : ¬ j = i.toNat → ¬ ((j : Int) = i) := fun q q2 => q (hji.mpr q2)
      by_cases hj : j = i.toNat
      · simp only [vp_updL, if_pos hj, zm_wr, hji.mp hj, and_self, if_true]
      · have hji2 := hji3 hj
        simp only [vp_updL, if_neg hj, zm_wr, hji2, and_false, if_false]
    rw [zs_ws_set ha (fun b hb => zs_wr_ne hb) hcell] at hP1 hD1
    exact k ρ H1 locs1 ls _ (fun _ _ => rfl) ⟨hP1, hD1, hS1, hL, hst4, hwr, hwl, zs_hwa hh hlay hi0 (by unfold zs_aw; simp only [hcast, zs_wr_at]; exact hwz), h4⟩
  · cases hs
theorem zs_i_bastore (hx : p.tables.exec = Jvm.exec) (hb : c.code = zm_code y) (hK : va_K D zm_cl (zs_tys kA) s) (hd : decode (zm_code y) pc = .ok (.bastore, 1)) (hs : zm_si X md rk y pc loc stk nx h (.bastore) = some (.inl (pc', loc', stk', nx1, h1))) (r : zs_R D kA A s.heap nL ρ md loc stk nx h H locs ls st) (k : zs_K p l e R s m args below meth c Q D kA A nL ρ md nx0 pc' loc' stk' nx nx1 h1) : W p l e R s m args below meth c H locs (nx - nx0) (zs_sl nx - zs_sl nx0) Q (F0 m pc ls st) := by
  obtain ⟨hP, hD, hS, hL, hst, hw, hwl, hh, h4⟩ := r
  simp only [zm_si, zm_go] at hs
  split at hs
  · next z i a r =>
    obtain ⟨⟨hok, hbit⟩, hs⟩ := zm_ck_some hs
    cases hs
    obtain ⟨n, hlay, ha, hax, hi0, hin⟩ := zs_okb hok
    have hwz := (zs_w1 hw).1
    have hwi := (zs_w1 (zs_w1 hw).2).1
    have hwr := (zs_w1 (zs_w1 (zs_w1 hw).2).2).2
    obtain ⟨st2, rfl, hst2⟩ := zs_top hst rfl
    obtain ⟨st3, rfl, hst3⟩ := zs_top hst2 rfl
    obtain ⟨st4, rfl, hst4⟩ := zs_top hst3 rfl
    obtain ⟨hvin, hclamp, hcast⟩ := zs_i32s hi0 hin hwi
    refine va_zast hx hb hK hP hD hS (a - 4) 2 ((zs_ws_at ha hax).trans (by rw [zs_ca2 hlay])) rfl hvin hd (fun H1 locs1 hP1 hD1 hS1 => ?_)
    have hcell : (.inl (kA 2, n, .inl (upd (fun j => Int32.ofInt (h a j)) (Int32.ofInt i).toNatClampNeg (vp_nar .boolean (Int32.ofInt z)))) : va_E) = zs_cell kA ρ md (zm_wr h a i z) a := by
      rw [zs_ca2 hlay]
      congr 4
      funext j
      rw [hclamp]
      have hji : (j = i.toNat) ↔ ((j : Int) = i) := by omega
      have hji3 : ¬ j = i.toNat → ¬ ((j : Int) = i) := fun q q2 => q (hji.mpr q2)
      by_cases hj : j = i.toNat
      · simp only [upd, if_pos hj, zm_wr, hji.mp hj, and_self, if_true]
        rcases hbit with rfl | rfl <;> rfl
      · have hji2 := hji3 hj
        simp only [upd, if_neg hj, zm_wr, hji2, and_false, if_false]
    rw [zs_ws_set ha (fun b hb => zs_wr_ne hb) hcell] at hP1 hD1
    exact k ρ H1 locs1 ls _ (fun _ _ => rfl) ⟨hP1, hD1, hS1, hL, hst4, hwr, hwl, zs_hwa hh hlay hi0 (by unfold zs_aw; simp only [hcast, zs_wr_at]; exact hbit), h4⟩
  · cases hs
theorem zs_i_aastore (hx : p.tables.exec = Jvm.exec) (hb : c.code = zm_code y) (hK : va_K D zm_cl (zs_tys kA) s) (hd : decode (zm_code y) pc = .ok (.aastore, 1)) (hs : zm_si X md rk y pc loc stk nx h (.aastore) = some (.inl (pc', loc', stk', nx1, h1))) (r : zs_R D kA A s.heap nL ρ md loc stk nx h H locs ls st) (k : zs_K p l e R s m args below meth c Q D kA A nL ρ md nx0 pc' loc' stk' nx nx1 h1) : W p l e R s m args below meth c H locs (nx - nx0) (zs_sl nx - zs_sl nx0) Q (F0 m pc ls st) := by
  obtain ⟨hP, hD, hS, hL, hst, hw, hwl, hh, h4⟩ := r
  simp only [zm_si, zm_go] at hs
  split at hs
  · next z i a r =>
    obtain ⟨⟨hok, hmd, hfr, hbl, hb3, hbx⟩, hs⟩ := zm_ck_some hs
    cases hs
    obtain ⟨n, hlay, ha, hax, hi0, hin⟩ := zs_okb hok
    have hwz := (zs_w1 hw).1
    have hwi := (zs_w1 (zs_w1 hw).2).1
    have hwr := (zs_w1 (zs_w1 (zs_w1 hw).2).2).2
    obtain ⟨st2, rfl, hst2⟩ := zs_top hst rfl
    obtain ⟨st3, rfl, hst3⟩ := zs_top hst2 rfl
    obtain ⟨st4, rfl, hst4⟩ := zs_top hst3 rfl
    obtain ⟨hvin, hclamp, hcast⟩ := zs_i32s hi0 hin hwi
    refine va_astq hx hb hK hP hD hS (a - 4) 3 (z - 4) 11 ((zs_ws_at ha hax).trans (by rw [zs_ca3 hlay])) rfl ((zs_ws_at hb3 hbx).trans (by rw [zs_obj hbl])) (zs_cl_at (by omega)) hvin hd (fun H1 locs1 hP1 hD1 hS1 => ?_)
    have hcell : (.inl (kA 3, n, .inr (.inr (.inr (.inr (va_up (fun j => if j < n ∧ (md = true ∨ h a j ≠ 0) then some (ρ (zm_fr a j)) else none) (Int32.ofInt i).toNatClampNeg (some (ρ z))))))) : va_E) = zs_cell kA ρ md (zm_wr h a i 1) a := by
      rw [zs_ca3 hlay]
      congr 7
      funext j
      rw [hclamp]
      have hji : (j = i.toNat) ↔ ((j : Int) = i) := by omega
      have hji3 : ¬ j = i.toNat → ¬ ((j : Int) = i) := fun q q2 => q (hji.mpr q2)
      by_cases hj : j = i.toNat
      · simp only [va_up, if_pos hj]
        rw [if_pos ⟨by omega, Or.inr (by simp [zm_wr, hji.mp hj])⟩, hfr, hj]
      · have hji2 := hji3 hj
        simp only [va_up, if_neg hj, zm_wr, hji2, and_false, if_false]
    rw [zs_ws_set ha (fun b hb => zs_wr_ne hb) hcell] at hP1 hD1
    exact k ρ H1 locs1 ls _ (fun _ _ => rfl) ⟨hP1, hD1, hS1, hL, hst4, hwr, hwl, zs_hwa hh hlay hi0 (by unfold zs_aw; simp only [hcast, zs_wr_at]; intro _; rw [← hfr]; exact ⟨hb3, hbx⟩), h4⟩
  · cases hs
theorem zs_i_arraylength (hx : p.tables.exec = Jvm.exec) (hb : c.code = zm_code y) (hK : va_K D zm_cl (zs_tys kA) s) (hX : ∀ n xs, X = some (n, xs) → va_X (ρ 3) n (fun j => Int32.ofInt (xs j)) s s.heap ∧ ρ 3 < s.heap.size ∧ ¬ A (ρ 3) ∧ (∀ j : Int, zm_i32 (xs j)) ∧ n < 2147483648) (hd : decode (zm_code y) pc = .ok (.arraylength, 1)) (hs : zm_si X md rk y pc loc stk nx h (.arraylength) = some (.inl (pc', loc', stk', nx1, h1))) (r : zs_R D kA A s.heap nL ρ md loc stk nx h H locs ls st) (k : zs_K p l e R s m args below meth c Q D kA A nL ρ md nx0 pc' loc' stk' nx nx1 h1) : W p l e R s m args below meth c H locs (nx - nx0) (zs_sl nx - zs_sl nx0) Q (F0 m pc ls st) := by
  obtain ⟨hP, hD, hS, hL, hst, hw, hwl, hh, h4⟩ := r
  simp only [zm_si, zm_go] at hs
  split at hs
  · next a r =>
    obtain ⟨st2, rfl, hst2⟩ := zs_top hst rfl
    split at hs
    · next ha3 =>
      subst ha3
      split at hs
      · next n xs =>
        cases hs
        obtain ⟨hX1, hX2, hX3, hX4, hX5⟩ := hX n xs rfl
        refine va_slen hx hb hX1 hX2 hX3 hS hd ?_
        exact k ρ H locs ls _ (fun _ _ => rfl) ⟨hP, hD, hS, hL, zs_psh (by simp only [zs_mv]; rw [Int32.ofInt_eq_ofNat]) hst2, zs_w2 (by show zm_i32 _; omega) (zs_w1 hw).2, hwl, hh, h4⟩
      · cases hs
    · split at hs
      · next t n hlay =>
        obtain ⟨⟨ht, ha, hax⟩, hs⟩ := zm_ck_some hs
        cases hs
        have hn := zs_small hlay
        have hcell : ∃ x, zs_cell kA ρ md h a = .inl (kA t, x) ∧ x.1 = n := by
          unfold zs_cell; rw [hlay]
          split
          · simp_all
          · simp_all
          · simp_all
          · simp_all
        obtain ⟨x, hx1, hx2⟩ := hcell
        have hty : ∃ ty, (zs_tys kA)[t]? = some (kA t, ty) := by
          rcases (by omega : t = 0 ∨ t = 1 ∨ t = 2 ∨ t = 3) with rfl | rfl | rfl | rfl <;> exact ⟨_, rfl⟩
        obtain ⟨ty, hty⟩ := hty
        refine va_alen hx hb hK hP (a - 4) t ((zs_ws_at ha hax).trans (by rw [hx1])) hty (v := Int32.ofInt n) (by rw [hx2, Int32.ofInt_eq_ofNat]) hd ?_
        exact k ρ H locs ls _ (fun _ _ => rfl) ⟨hP, hD, hS, hL, zs_psh rfl hst2, zs_w2 (by show zm_i32 _; omega) (zs_w1 hw).2, hwl, hh, h4⟩
      · cases hs
  · cases hs
theorem zs_i_ldc2 {ix : Nat} (hx : p.tables.exec = Jvm.exec) (hb : c.code = zm_code y) (hown : s.vm.findClass (zm_cn (zm_own y)) = some m.cls) (hts : ∀ w ∈ zs_tb, w.before args s = true) (hd : decode (zm_code y) pc = .ok (.ldc2_w ix, 3)) (hs : zm_si X md rk y pc loc stk nx h (.ldc2_w ix) = some (.inl (pc', loc', stk', nx1, h1))) (r : zs_R D kA A s.heap nL ρ md loc stk nx h H locs ls st) (k : zs_K p l e R s m args below meth c Q D kA A nL ρ md nx0 pc' loc' stk' nx nx1 h1) : W p l e R s m args below meth c H locs (nx - nx0) (zs_sl nx - zs_sl nx0) Q (F0 m pc ls st) := by
  obtain ⟨hP, hD, hS, hL, hst, hw, hwl, hh, h4⟩ := r
  simp only [zm_si, zm_go] at hs
  split at hs
  · next z p0 hf =>
    cases hs
    have q1 := zs_lookup hf
    have q2 := of_decide_eq_true (List.all_eq_true.mp (List.all_eq_true.mp zs_lng_all _ (zs_zip q1)) _ q1)
    exact lv_ldc2 hx hb hown (hts _ (zs_wd_mem q2.1 rfl)) hd (k ρ H locs ls _ (fun _ _ => rfl) ⟨hP, hD, hS, hL, zs_psh rfl hst, zs_w2 q2.2 hw, hwl, hh, h4⟩)
  · cases hs
end
