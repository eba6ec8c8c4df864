/-! SOUNDNESS, part 6: new cells -/
theorem zs_fw_mono {md : Bool} {nx nx1 : Nat} {h : zm_H} {c a k : Nat} (hn : nx ≤ nx1) (hw : zs_fw md nx h c a k) : zs_fw md nx1 h c a k := by
  unfold zs_fw at hw ⊢
  split
  · simp only [*] at hw; exact hw
  · simp only [*] at hw; exact hw
  · simp only [*] at hw; exact hw
  · next e => simp only [e] at hw; intro q; have := hw q; omega
  · simp only [*] at hw; omega
theorem zs_aw_mono {md : Bool} {nx nx1 : Nat} {h : zm_H} {t a k : Nat} (hn : nx ≤ nx1) (hw : zs_aw md nx h t a k) : zs_aw md nx1 h t a k := by
  unfold zs_aw at hw ⊢
  split
  · exact hw
  · exact hw
  · exact hw
  · intro q; have := hw q; omega
  · trivial
theorem zs_hw_new {nx : Nat} {h : zm_H} (hh : zs_hw false nx h) : zs_hw false (nx + 1) (zm_zr h nx) := by
  intro a h3 hx
  by_cases ha : a = nx
  · subst ha
    have z : ∀ j : Int, zm_zr h a a j = 0 := fun j => by simp [zm_zr]
    unfold zs_cw
    split
    · intro k hk
      unfold zs_fw
      simp only [z]
      split
      · omega
      · exact Or.inl rfl
      · omega
      · rintro (q | q)
        · cases q
        · exact absurd rfl q
      · simp
    · intro j hj
      unfold zs_aw
      simp only [z]
      split
      · omega
      · omega
      · exact Or.inl rfl
      · rintro (q | q)
        · cases q
        · exact absurd rfl q
      · trivial
  · rw [zs_cw_congr (zs_zr_ne ha)]
    have := hh a h3 (by omega)
    unfold zs_cw at this ⊢
    split <;> simp only [*] at this
    · exact fun k hk => zs_fw_mono (by omega) (this k hk)
    · exact fun k hk => zs_aw_mono (by omega) (this k hk)
theorem zs_R_new {D : va_G} {kA : Nat → ClassId} {A : Nat → Prop} {H0 : Heap} {nL : Nat} {ρ : Nat → Nat} {loc stk : List zm_V} {nx q : Nat} {h : zm_H} {H1 : Heap} {locs : List Loc} {ls : Array Slot} {st : List Value} {E : va_E}
    (hE : E = zs_cell kA (fun b => if b = nx then q else ρ b) false (zm_zr h nx) nx)
    (hP : va_P D zm_cl (zs_ws kA ρ false nx h ++ [(q, E)]) H1) (hD : va_D A (zs_ws kA ρ false nx h ++ [(q, E)])) (hS : va_S A H0 H1 locs) (hL : zs_lo ρ loc nL ls) (hst : stk.map (zs_mv ρ) = st.map some) (hw : ∀ v ∈ stk, zs_w nx v) (hwl : ∀ v ∈ loc, zs_w nx v) (hh : zs_hw false nx h) (h4 : 4 ≤ nx) :
    zs_R D kA A H0 nL (fun b => if b = nx then q else ρ b) false loc (zm_A nx :: stk) (nx + 1) (zm_zr h nx) H1 locs ls (.ref q :: st) := by
  have hag : ∀ a, a < nx → (fun b => if b = nx then q else ρ b) a = ρ a := fun a ha => if_neg (by omega)
  rw [hE, ← zs_snoc h4 hh] at hP hD
  refine ⟨hP, hD, hS, ?_, ?_, ?_, fun v hv => zs_w_mono (by omega) (hwl v hv), zs_hw_new hh, by omega⟩
  · obtain ⟨hl, lv, h1, h2⟩ := hL
    exact ⟨hl, lv, h1, fun k v w hv hm => h2 k v w hv (by rw [← zs_mv_congr hag (hwl v (List.mem_of_getElem? hv))]; exact hm)⟩
  · simp only [List.map_cons]
    rw [← hst]
    congr 1
    · show some (Value.ref (if nx = nx then q else ρ nx)) = _
      rw [if_pos rfl]
    · exact List.map_congr_left fun v hv => zs_mv_congr hag (hw v hv)
  · intro v hv
    rcases List.mem_cons.mp hv with rfl | hv
    · exact ⟨by omega, by omega⟩
    · exact zs_w_mono (by omega) (hw v hv)
theorem zs_small8_all : zm_layL.all (fun x => match x with | .inl _ => true | .inr (_, n) => decide (n < 10000)) = true := by decide +kernel
theorem zs_small8 {a t n : Nat} (h : zm_lay a = .inr (t, n)) : n < 10000 := by
  unfold zm_lay at h
  rw [List.getD_eq_getElem?_getD] at h
  cases hc : zm_layL[a]? with
  | none => rw [hc] at h; cases h; omega
  | some x =>
    rw [hc] at h
    have h1 : x = .inr (t, n) := h
    have h2 := List.all_eq_true.mp zs_small8_all x (List.mem_of_getElem? hc)
    rw [h1] at h2
    exact of_decide_eq_true h2
section
variable {p : Program} {l : Launch} {e : Env} {R : Room} {s : State} {m : MethodId} {args : Array Value} {below : List Frame} {meth : Method} {c : Code} {Q : State → Prop}
variable {X : Option (Nat × (Int → Int))} {md : Bool} {rk y pc : Nat} {loc stk : List zm_V} {nx : Nat} {h : zm_H} {pc' : Nat} {loc' stk' : List zm_V} {nx1 : Nat} {h1 : zm_H}
variable {D : va_G} {kA : Nat → ClassId} {A : Nat → Prop} {ρ : Nat → Nat} {H : Heap} {locs : List Loc} {ls : Array Slot} {st : List Value} {nx0 nL : Nat}
theorem zs_room1 {nx0 nx : Nat} (h0 : nx0 ≤ nx) : nx - nx0 + 1 = nx + 1 - nx0 := by omega
theorem zs_room2 {nx0 nx n : Nat} (h0 : nx0 ≤ nx) (hn : zs_sz nx = n) : zs_sl nx - zs_sl nx0 + n = zs_sl (nx + 1) - zs_sl nx0 := by
  have := zs_mono h0
  rw [zs_sl, hn]; omega
theorem zs_i_new {ix : Nat} (hx : p.tables.exec = Jvm.exec) (hb : c.code = zm_code y) (hown : s.vm.findClass (zm_cn (zm_own y)) = some m.cls) (hts : ∀ w ∈ zs_tb, w.before args s = true) (hK : va_K D zm_cl (zs_tys kA) s) (hA : ∀ q, s.heap.size ≤ q → A q) (h0 : nx0 ≤ nx) (hcl : nx1 - nx0 ≤ R.cells) (hsl : zs_sl nx1 - zs_sl nx0 ≤ R.slots) (hd : decode (zm_code y) pc = .ok (.new ix, 3)) (hs : zm_si X md rk y pc loc stk nx h (.new ix) = some (.inl (pc', loc', stk', nx1, h1))) (r : zs_R D kA A s.heap nL ρ md loc stk nx h H locs ls st) (k : zs_K p l e R s m args below meth c Q D kA A nL ρ md nx0 pc' loc' stk' nx nx1 h1) : W p l e R s m args below meth c H locs (nx - nx0) (zs_sl nx - zs_sl nx0) Q (F0 m pc ls st) := by
  obtain ⟨hP, hD, hS, hL, hst, hw, hwl, hh, h4⟩ := r
  simp only [zm_si, zm_go] at hs
  split at hs
  · next cc u hf =>
    obtain ⟨p1, p2, p3⟩ := u
    obtain ⟨⟨hmd, hlay⟩, hs2⟩ := zm_ck_some hs
    subst hmd
    cases hs2
    have q1 := zs_lookup hf
    obtain ⟨w1, w2, w3, hc13⟩ := of_decide_eq_true (List.all_eq_true.mp (List.all_eq_true.mp zs_new_all _ (zs_zip q1)) _ q1)
    have hsz : zs_sz nx = zm_fn cc := by unfold zs_sz; rw [hlay]
    have e1 := zs_room1 h0
    have e2 := zs_room2 h0 hsz
    refine va_new (ci := cc) (fs := (List.range (zm_fn cc)).map (zs_fv ρ false (zm_zr h nx) cc nx)) (own := zm_cn (zm_own y)) (C := zm_cn cc) (T := zm_T cc) (N := zm_fn cc) (index := ix) hx hb hts (zs_u hc13) (zs_ty0 cc) (zs_ty0_ok hc13) hown (hts _ (zs_wd_mem w1 rfl)) (hts _ (zs_wd_mem w2 rfl)) (hts _ (zs_wd_mem w3 rfl)) hK hP hD hS hA (zs_cl_at hc13) (fun j hj => ?_) (by omega) (by omega) hd (fun q H1 hP1 hD1 hS1 => ?_)
    · have z : ∀ j : Int, zm_zr h nx nx j = 0 := fun j => by simp [zm_zr]
      have hv : vp_V ((List.range (zm_fn cc)).map (zs_fv ρ false (zm_zr h nx) cc nx)) j = zs_fv ρ false (zm_zr h nx) cc nx j := by
        unfold vp_V
        rw [List.getD_eq_getElem?_getD, List.getElem?_map, List.getElem?_range hj]; rfl
      rw [hv]
      obtain ⟨ty, hty, htk⟩ := zs_ty hc13 hj
      have : zs_ty0 cc j = ty := by unfold zs_ty0; rw [hty]; rfl
      rw [this]
      unfold zs_fv
      simp only [z]
      split <;> simp only [*] at htk
      · subst htk; rfl
      · subst htk; rfl
      · subst htk; rfl
      · rcases htk with ⟨t, rfl⟩ | ⟨t, rfl⟩ <;> rfl
      · split at htk
        · next e => exact absurd e (by intro q; simp_all)
        · next e => exact absurd e (by intro q; simp_all)
        · next e => exact absurd e (by intro q; simp_all)
        · next e => exact absurd e (by intro q; simp_all)
        · rcases htk with ⟨t, rfl⟩ | ⟨t, rfl⟩ <;> rfl
        · exact htk.elim
    · rw [e1, e2]
      exact k _ H1 locs ls _ (fun a ha => if_neg (by omega)) (zs_R_new (by rw [zs_obj hlay]; congr 2; apply List.map_congr_left; intro j _; unfold zs_fv; simp [zm_zr]) hP1 hD1 hS1 hL hst hw hwl hh h4)
  · cases hs
theorem zs_i_newarray {t : ArrayType} (hx : p.tables.exec = Jvm.exec) (hb : c.code = zm_code y) (hown : s.vm.findClass (zm_cn (zm_own y)) = some m.cls) (hts : ∀ w ∈ zs_tb, w.before args s = true) (hK : va_K D zm_cl (zs_tys kA) s) (hA : ∀ q, s.heap.size ≤ q → A q) (h0 : nx0 ≤ nx) (hcl : nx1 - nx0 ≤ R.cells) (hsl : zs_sl nx1 - zs_sl nx0 ≤ R.slots) (hd : decode (zm_code y) pc = .ok (.newarray t, 2)) (hs : zm_si X md rk y pc loc stk nx h (.newarray t) = some (.inl (pc', loc', stk', nx1, h1))) (r : zs_R D kA A s.heap nL ρ md loc stk nx h H locs ls st) (k : zs_K p l e R s m args below meth c Q D kA A nL ρ md nx0 pc' loc' stk' nx nx1 h1) : W p l e R s m args below meth c H locs (nx - nx0) (zs_sl nx - zs_sl nx0) Q (F0 m pc ls st) := by
  obtain ⟨hP, hD, hS, hL, hst, hw, hwl, hh, h4⟩ := r
  simp only [zm_si, zm_go] at hs
  split at hs
  · next z r =>
    split at hs
    · next u n hlay =>
      obtain ⟨⟨hmd, hz, ht⟩, hs2⟩ := zm_ck_some hs
      subst hmd
      subst hz
      cases hs2
      obtain ⟨st2, rfl, hst2⟩ := zs_top hst rfl
      have hn := zs_small hlay
      have hnc : (Int32.ofInt (n : Int)).toNatClampNeg = n := by rw [zs_clamp (by omega)]; omega
      have hn0 : ¬ Int32.ofInt (n : Int) < 0 := by
        rw [show (0 : Int32) = Int32.ofInt 0 from rfl, zs_lt (by omega) (by omega)]
        omega
      have hn8 := zs_small8 hlay
      have hsz : zs_sz nx = n := by unfold zs_sz; rw [hlay]
      have e1 := zs_room1 h0
      have e2 := zs_room2 h0 hsz
      have z : ∀ j : Int, zm_zr h nx nx j = 0 := fun j => by simp [zm_zr]
      rcases ht with ⟨rfl, rfl⟩ | ⟨rfl, rfl⟩ | ⟨rfl, rfl⟩
      · refine va_newa (atype := .int) (ty := .int) (a0 := (n, .inl fun _ => 0)) (N' := n) hx hb (hts (.arrayClass .int) (zs_wd_mem (p := 1046) (by decide +kernel) rfl)) rfl hK hP hD hS hA (fun cA => rfl) hn0 hnc (by show n * 4 ≤ _; omega) (by omega) (by omega) hd (fun q cA H1 hK1 hP1 hD1 hS1 => ?_)
        have hcA : cA = kA 0 := zs_ra (hK1.2 4 _ rfl).2 (hK.2 0 _ rfl).2
        subst hcA
        rw [e1, e2]
        exact k _ H1 locs ls _ (fun a ha => if_neg (by omega)) (zs_R_new (by rw [zs_ca0 hlay]; simp only [z]; rfl) hP1 hD1 hS1 hL hst2 (zs_w1 hw).2 hwl hh h4)
      · refine va_newa (atype := .long) (ty := .long) (a0 := (n, .inr (.inl fun _ => 0))) (N' := n) hx hb (hts (.arrayClass .long) (zs_wd_mem (p := 6122) (by decide +kernel) rfl)) rfl hK hP hD hS hA (fun cA => rfl) hn0 hnc (by show n * 8 ≤ _; omega) (by omega) (by omega) hd (fun q cA H1 hK1 hP1 hD1 hS1 => ?_)
        have hcA : cA = kA 1 := zs_ra (hK1.2 4 _ rfl).2 (hK.2 1 _ rfl).2
        subst hcA
        rw [e1, e2]
        exact k _ H1 locs ls _ (fun a ha => if_neg (by omega)) (zs_R_new (by rw [zs_ca1 hlay]; simp only [z]; rfl) hP1 hD1 hS1 hL hst2 (zs_w1 hw).2 hwl hh h4)
      · refine va_newa (atype := .boolean) (ty := .boolean) (a0 := (n, .inl fun _ => 0)) (N' := n) hx hb (hts (.arrayClass .boolean) (zs_wd_mem (p := 6123) (by decide +kernel) rfl)) rfl hK hP hD hS hA (fun cA => rfl) hn0 hnc (by show n * 1 ≤ _; omega) (by omega) (by omega) hd (fun q cA H1 hK1 hP1 hD1 hS1 => ?_)
        have hcA : cA = kA 2 := zs_ra (hK1.2 4 _ rfl).2 (hK.2 2 _ rfl).2
        subst hcA
        rw [e1, e2]
        exact k _ H1 locs ls _ (fun a ha => if_neg (by omega)) (zs_R_new (by rw [zs_ca2 hlay]; simp only [z]; rfl) hP1 hD1 hS1 hL hst2 (zs_w1 hw).2 hwl hh h4)
    · cases hs
  · cases hs
theorem zs_i_anewarray {ix : Nat} (hx : p.tables.exec = Jvm.exec) (hb : c.code = zm_code y) (hown : s.vm.findClass (zm_cn (zm_own y)) = some m.cls) (hts : ∀ w ∈ zs_tb, w.before args s = true) (hK : va_K D zm_cl (zs_tys kA) s) (hA : ∀ q, s.heap.size ≤ q → A q) (h0 : nx0 ≤ nx) (hcl : nx1 - nx0 ≤ R.cells) (hsl : zs_sl nx1 - zs_sl nx0 ≤ R.slots) (hO : va_AO "BranTub$Tub" s) (hd : decode (zm_code y) pc = .ok (.anewarray ix, 3)) (hs : zm_si X md rk y pc loc stk nx h (.anewarray ix) = some (.inl (pc', loc', stk', nx1, h1))) (r : zs_R D kA A s.heap nL ρ md loc stk nx h H locs ls st) (k : zs_K p l e R s m args below meth c Q D kA A nL ρ md nx0 pc' loc' stk' nx nx1 h1) : W p l e R s m args below meth c H locs (nx - nx0) (zs_sl nx - zs_sl nx0) Q (F0 m pc ls st) := by
  obtain ⟨hP, hD, hS, hL, hst, hw, hwl, hh, h4⟩ := r
  simp only [zm_si, zm_go] at hs
  split at hs
  · next z r =>
    split at hs
    · next u n hlay =>
      obtain ⟨⟨hmd, hz, hu, ho3, hix⟩, hs2⟩ := zm_ck_some hs
      subst hmd
      subst hz
      subst hu
      subst hix
      cases hs2
      obtain ⟨st2, rfl, hst2⟩ := zs_top hst rfl
      have hn := zs_small hlay
      have hnc : (Int32.ofInt (n : Int)).toNatClampNeg = n := by rw [zs_clamp (by omega)]; omega
      have hn0 : ¬ Int32.ofInt (n : Int) < 0 := by
        rw [show (0 : Int32) = Int32.ofInt 0 from rfl, zs_lt (by omega) (by omega)]
        omega
      have hn8 := zs_small8 hlay
      have hsz : zs_sz nx = n := by unfold zs_sz; rw [hlay]
      have e1 := zs_room1 h0
      have e2 := zs_room2 h0 hsz
      have z : ∀ j : Int, zm_zr h nx nx j = 0 := fun j => by simp [zm_zr]
      rw [ho3] at hown
      refine va_newq (C := "BranTub$Tub") (own := zm_cn 3) (index := 9) (N' := n) hx hb hown (hts (.classLink "BranTub$History" 9 "BranTub$Tub") (zs_wd_mem (p := 2073) (by decide +kernel) rfl)) hO hK hP hD hS hA hn0 hnc (by omega) (by omega) (by omega) hd (fun q cA H1 hK1 hP1 hD1 hS1 => ?_)
      have hcA : cA = kA 3 := zs_ra (hK1.2 4 _ rfl).2 (hK.2 3 _ rfl).2
      subst hcA
      rw [e1, e2]
      exact k _ H1 locs ls _ (fun a ha => if_neg (by omega)) (zs_R_new (by rw [zs_ca3 hlay]; simp [z]) hP1 hD1 hS1 hL hst2 (zs_w1 hw).2 hwl hh h4)
    · cases hs
  · cases hs
end
