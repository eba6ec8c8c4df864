/-! SOUNDNESS, part 12: what the Statement gives of the start (printed by wip/gen/gen_world.py) -/
theorem zo_in {p : Nat} {w : Cond} (h : zs_wd p = some w) : w ∈ lw_tbl := zs_tab_mem (List.mem_of_getElem? h)
def zo_fl : List Cond := flatC (Jvm.Cond.and given_1 narrow_1)
theorem zo_el : (List.range 129).all (fun j => decide (zo_fl[21 + j]? = some (Cond.eq (.elem (.field (.string "BranTub$Scanner" 19) "java/lang/String" "value" "[B") (.int (Int32.ofNat j))) (.int (zs_by.getD j 0))))) = true := by decide +kernel
theorem zo_as : (List.range 5).all (fun j => decide (zo_fl[12 + j]? = some (Cond.eq (.elem (.static "BranTub" "AS_THEY_LIE" "[I") (.int (Int32.ofNat j))) (.int (Int32.ofInt ((j : Nat) : Int)))))) = true := by decide +kernel
theorem zo_f4 : zo_fl[4]? = some (Cond.eq (.static "java/lang/String" "COMPACT_STRINGS" "Z") (.int 1)) := by decide +kernel
theorem zo_f5 : zo_fl[5]? = some (Cond.isRef (.static "jdk/internal/util/Preconditions" "SIOOBE_FORMATTER" "Ljava/util/function/BiFunction;")) := by decide +kernel
theorem zo_f10 : zo_fl[10]? = some (Cond.arrayOf (.static "BranTub" "AS_THEY_LIE" "[I") .int) := by decide +kernel
theorem zo_f11 : zo_fl[11]? = some (Cond.eq (.length (.static "BranTub" "AS_THEY_LIE" "[I")) (.int (Int32.ofNat 5))) := by decide +kernel
theorem zo_f17 : zo_fl[17]? = some (Cond.exactly (.string "BranTub$Scanner" 19) "java/lang/String") := by decide +kernel
theorem zo_f18 : zo_fl[18]? = some (Cond.eq (.field (.string "BranTub$Scanner" 19) "java/lang/String" "coder" "B") (.int 0)) := by decide +kernel
theorem zo_f19 : zo_fl[19]? = some (Cond.arrayOf (.field (.string "BranTub$Scanner" 19) "java/lang/String" "value" "[B") .byte) := by decide +kernel
theorem zo_f20 : zo_fl[20]? = some (Cond.eq (.length (.field (.string "BranTub$Scanner" 19) "java/lang/String" "value" "[B")) (.int (Int32.ofNat 129))) := by decide +kernel
theorem zo_w1 : zs_wd 4095 = some (.laysStatic "BranTub" "AS_THEY_LIE" "[I") := by decide +kernel
theorem zo_w2 : zs_wd 1188 = some (.laysStatic "java/lang/String" "COMPACT_STRINGS" "Z") := by decide +kernel
theorem zo_w3 : zs_wd 1204 = some (.laysStatic "jdk/internal/util/Preconditions" "SIOOBE_FORMATTER" "Ljava/util/function/BiFunction;") := by decide +kernel
theorem zo_w4 : zs_wd 1001 = some (.initialized "BranTub") := by decide +kernel
theorem zo_w5 : zs_wd 1178 = some (.stringRef "BranTub$Scanner" 19 zs_own) := by decide +kernel
theorem zo_w6 : zs_wd 1046 = some (.arrayClass .int) := by decide +kernel
theorem zo_w7 : zs_wd 6122 = some (.arrayClass .long) := by decide +kernel
theorem zo_w8 : zs_wd 6123 = some (.arrayClass .boolean) := by decide +kernel
theorem zo_w9 : zs_wd 2074 = some (.arrayOver (.object "BranTub$Tub")) := by decide +kernel
def zo_ins : List Nat := [1020, 2131, 1048, 2068, 1167, 2168, 2097, 2183, 2149, 1173, 1028, 2034, 5122]
theorem zo_ins_ok : (List.range 13).all (fun c => decide (zs_wd (zo_ins.getD c 0) = some (.instantiable (zm_cn c) (zm_fn c)))) = true := by decide +kernel
theorem zo_cl_len : zm_cl.length = 13 := by decide +kernel
section
variable {s : State} {args : Array Value}
theorem zo_arr {ty : FieldType} (hty : ty = .int ∨ ty = .long ∨ ty = .boolean) (h : (Cond.arrayClass ty).before args s = true) : ∃ cA : ClassId, ArrOfT s cA ty ∧ va_RA s cA ty := by
  obtain ⟨cA, kA, comp, h1, h2, h3⟩ := Cond.arrayClass_spec h
  rcases hty with rfl | rfl | rfl
  · exact ⟨cA, fun n z => ⟨fun k h => (by cases h), kA, h2, comp, h3⟩, h1⟩
  · exact ⟨cA, fun n z => ⟨fun k h => (by cases h), kA, h2, comp, h3⟩, h1⟩
  · exact ⟨cA, fun n z => ⟨fun k h => (by cases h), kA, h2, comp, h3⟩, h1⟩
theorem zo_over {C : String} (h : (Cond.arrayOver (.object C)).before args s = true) : ∃ cA : ClassId, ArrOfT s cA (.object C) ∧ va_RA s cA (.object C) := by
  obtain ⟨comp, cA, kA, h1, h2, h3, h4, h5⟩ := Cond.arrayOver_spec h
  exact ⟨cA, fun n z => ⟨fun k h => (by cases h), kA, h3, comp, h4⟩, kA, comp, h3, h4, h1, h5⟩
/-- the classes' numbers, the arrays' classes -/
theorem zo_K (hts : ∀ w ∈ lw_tbl, w.before args s = true) : ∃ (D : va_G) (kA : Nat → ClassId), va_K D zm_cl (zs_tys kA) s := by
  have htb : ∀ w ∈ zs_tb, w.before args s = true := fun w hw => hts w (List.mem_filter.mp hw).1
  have h0 : ∀ c : Nat, ∃ z : ClassId × (Nat → Nat), c < 13 → u_Kn s (zm_cn c) (zm_T c) (zm_fn c) z.1 z.2 := by
    intro c
    by_cases hc : c < 13
    · have hi := of_decide_eq_true (List.all_eq_true.mp zo_ins_ok c (List.mem_range.mpr hc))
      obtain ⟨cC, iS, h⟩ := u_known htb (zs_u hc) (hts _ (zo_in hi))
      exact ⟨(cC, iS), fun _ => h⟩
    · exact ⟨(0, fun _ => 0), fun h => absurd h hc⟩
  obtain ⟨f, hf⟩ := Classical.axiomOfChoice h0
  obtain ⟨c0, a0, b0⟩ := zo_arr (Or.inl rfl) (hts _ (zo_in zo_w6))
  obtain ⟨c1, a1, b1⟩ := zo_arr (Or.inr (Or.inl rfl)) (hts _ (zo_in zo_w7))
  obtain ⟨c2, a2, b2⟩ := zo_arr (Or.inr (Or.inr rfl)) (hts _ (zo_in zo_w8))
  obtain ⟨c3, a3, b3⟩ := zo_over (hts _ (zo_in zo_w9))
  refine ⟨(fun c => (f c).1, fun c => (f c).2), fun t => match t with
    | 0 => c0
    | 1 => c1
    | 2 => c2
    | _ => c3, fun c q hq => ?_, fun k q hq => ?_⟩
  · have hc : c < 13 := by
      have := (List.getElem?_eq_some_iff.mp hq).1
      rw [zo_cl_len] at this
      exact this
    rw [zs_cl_at hc] at hq
    cases hq
    exact hf c hc
  · match k, hq with
    | 0, hq => cases hq; exact ⟨a0, b0⟩
    | 1, hq => cases hq; exact ⟨a1, b1⟩
    | 2, hq => cases hq; exact ⟨a2, b2⟩
    | 3, hq => cases hq; exact ⟨a3, b3⟩
    | k + 4, hq => simp [zs_tys] at hq
theorem zo_text {A : Nat → Prop} (hfl : ∀ c ∈ zo_fl, c.before args s = true) (hA : ∀ a : Nat, a < s.heap.size → ¬ A a) : ∃ q w : Nat, vk_S 1 [129] [zs_by] (fun _ => q) (fun _ => w) A s s.heap ∧ (Term.string "BranTub$Scanner" 19).eval args s none [] s = some (.ref q) := by
  have at0 : ∀ {i : Nat} {c : Cond}, zo_fl[i]? = some c → c.before args s = true := fun h => hfl _ (List.mem_of_getElem? h)
  have one : ∀ i : Nat, i < 1 → i = 0 := fun i hi => by omega
  obtain ⟨adK, adV, h1, h2⟩ := vk_Sof (args := args) (s := s) (N := 1) (tm := fun _ => Term.string "BranTub$Scanner" 19) (len := [129]) (byt := [zs_by]) (A := A)
    (fun i hi => by rw [one i hi]; decide)
    (fun i hi => at0 zo_f17)
    (fun i hi => at0 zo_f18)
    (fun i hi => at0 zo_f19)
    (fun i hi => by rw [one i hi]; exact at0 zo_f20)
    (fun i hi j hj => by
      rw [one i hi] at hj ⊢
      have hj : j < 129 := hj
      exact at0 (of_decide_eq_true (List.all_eq_true.mp zo_el j (List.mem_range.mpr hj))))
    (fun i j hi hj hij => absurd ((one i hi).trans (one j hj).symm) hij) hA
  refine ⟨adK 0, adV 0, ⟨fun i hi => ?_, fun i j hi hj _ => (one i hi).trans (one j hj).symm⟩, h2 0 (by decide)⟩
  have hi0 := one i hi
  subst hi0
  exact h1.1 0 (by decide)
/-- what may be read of the start: the static row, the text, the two statics of the JDK's -/
theorem zo_RO {b : Nat} (hts : ∀ w ∈ lw_tbl, w.before args s = true) (hfl : ∀ c ∈ zo_fl, c.before args s = true) {A : Nat → Prop} (hA : ∀ a : Nat, a < s.heap.size → ¬ A a) : ∃ ρ : Nat → Nat, zs_RO ρ A s ∧ ρ 3 = b := by
  have at0 : ∀ {i : Nat} {c : Cond}, zo_fl[i]? = some c → c.before args s = true := fun h => hfl _ (List.mem_of_getElem? h)
  have htb : ∀ w ∈ zs_tb, w.before args s = true := fun w hw => hts w (List.mem_filter.mp hw).1
  obtain ⟨t, ht, hT⟩ := va_Tof (args := args) (s := s) (tm := .static "BranTub" "AS_THEY_LIE" "[I") (ty := .int) (N := 5) (f := fun j => .int (Int32.ofInt ((j : Nat) : Int))) (A := A) (by decide) (at0 zo_f10) (va_eqt (at0 zo_f11)) (fun j hj => va_eqt (at0 (of_decide_eq_true (List.all_eq_true.mp zo_as j (List.mem_range.mpr hj))))) hA
  obtain ⟨q, w, hS, hq⟩ := zo_text (A := A) hfl hA
  refine ⟨fun a => if a = 1 then t else if a = 2 then q else b, ⟨va_Zof (hts _ (zo_in zo_w1)) (hts _ (zo_in zo_w4)) ht hA, hT, va_AO.of (hts _ (zo_in zo_w9)), fun w hw => ?_, vk_R.of (hts _ (zo_in zo_w5)) hq, w, va_Zof (hts _ (zo_in zo_w2)) (htb _ zd_w_n_s) (va_eqt (at0 zo_f4)) hA, va_Zqof (hts _ (zo_in zo_w3)) (htb _ zd_w_n_p) (at0 zo_f5) hA, hS⟩, rfl⟩
  have hm := List.mem_filter.mp hw
  refine va_Nw.of ?_ (hts w hm.1)
  have hm2 := hm.2
  split at hm2
  · rfl
  · cases hm2
end
