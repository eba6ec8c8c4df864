/-! SOUNDNESS, part 7d: Math.floorDiv, Math.floorMod -/
/-- a contract of a method of a class that the machine knows natives of, the method being none of them -/
theorem zs_ofW {l : Launch} {y : MethodName} {ws ws' : List Cond} {rm : Room} {Pc : Array Value → State → Prop} {Qc : Array Value → State → Outcome → State → Prop} {mc ms : Nat} {free : Addr → Prop} {cc : ByteArray} {maxL : Nat} {ret : Option FieldType}
    (hy : Jvm.plainFor y = true) (hw : ws = Cond.code y cc maxL ret :: ws')
    (body : ∀ p e s m args below meth c s₁, BodyLoose p l y (headSpec ws rm) cc maxL ret e s m args below meth c s₁ → c.maxLocals = maxL → Pc args s →
      W p l e (headSpec ws rm).room s m args below meth c s.heap [] 0 0 (MQ below Qc args s mc ms free) (entryFrame m args maxL)) : Met l y ws rm Pc Qc mc ms free := by
  refine MetFree.of_bodySF (code := cc) (maxLocals := maxL) (ret := ret) hy ?_ ?_
  · intro args s m h hn
    obtain ⟨meth, c, h1, h2, h3, h4, h5, h6, -, -⟩ := Cond.code_spec hn (atoms_spec (ws := ws) h _ (by rw [hw]; exact List.mem_cons_self))
    exact ⟨meth, c, h1, h2, h3, h4, h5, h6⟩
  · intro p e s m args below meth c s₁ B hml hP _
    have hh0 : s₁.heap = s.heap := by rw [B.state]; rfl
    obtain ⟨t, a1, o, b1, b2, b3⟩ := body p e s m args below meth c s₁ B hml hP s₁ hh0 (Stand.of_body B)
    exact ⟨t, o, a1, b1, b2, ⟨b3.1, b3.2⟩⟩
def zd_rm (k : Nat) : Room := { frames := k, cells := 0, slots := 0, locals := 40 * k }
theorem zd_sub {w0 : Cond} (h : w0 ∈ zs_tb) : ∀ w ∈ w0 :: zs_tb, w ∈ zs_tb := by
  intro w hw
  rcases List.mem_cons.mp hw with rfl | hw
  · exact h
  · exact hw
theorem zd_xor {x z : Int} (hx : zm_i32 x) (hz : zm_i32 z) : 0 ≤ (Int32.ofInt x ^^^ Int32.ofInt z) ↔ (0 ≤ x ↔ 0 ≤ z) := by
  have e : ∀ Y : Int32, (0 ≤ Y.toInt) ↔ Y.toBitVec.msb = false := fun Y => by
    rw [BitVec.msb_eq_toInt, decide_eq_false_iff_not]
    show 0 ≤ Y.toInt ↔ ¬ Y.toInt < 0
    omega
  have e1 := e (Int32.ofInt x)
  have e2 := e (Int32.ofInt z)
  have e3 := e (Int32.ofInt x ^^^ Int32.ofInt z)
  rw [zs_ti hx] at e1
  rw [zs_ti hz] at e2
  rw [Int32.le_iff_toInt_le, show (0 : Int32).toInt = 0 from rfl, e3, e1, e2, Int32.toBitVec_xor, BitVec.msb_xor]
  cases (Int32.ofInt x).toBitVec.msb <;> cases (Int32.ofInt z).toBitVec.msb <;> simp
theorem zd_tq {x z : Int} (hx : zm_i32 x) (hz : zm_i32 z) : Int32.ofInt x / Int32.ofInt z = Int32.ofInt (x.tdiv z) := by
  rw [Int32.ofInt_tdiv (by rw [show Int32.minValue.toInt = -2147483648 from rfl]; exact hx.1) (by rw [show Int32.maxValue.toInt = 2147483647 from rfl]; exact hx.2) (by rw [show Int32.minValue.toInt = -2147483648 from rfl]; exact hz.1) (by rw [show Int32.maxValue.toInt = 2147483647 from rfl]; exact hz.2)]
theorem zd_tm {x z : Int} (hx : zm_i32 x) (hz : zm_i32 z) : Int32.ofInt x - Int32.ofInt x / Int32.ofInt z * Int32.ofInt z = Int32.ofInt (x.tmod z) := by
  rw [zd_tq hx hz, Int.tmod_def, Int32.ofInt_sub, Int32.ofInt_mul, Int32.mul_comm]
/-- the remainder lies between 0 and what is divided -/
theorem zd_bd (x z : Int) : (0 ≤ x → 0 ≤ x.tmod z ∧ x.tmod z ≤ x) ∧ (x < 0 → x ≤ x.tmod z ∧ x.tmod z ≤ 0) := by
  have h1 : (x.tmod z).natAbs ≤ x.natAbs := by rw [Int.natAbs_tmod]; exact Nat.mod_le _ _
  constructor
  · intro h
    have := Int.tmod_nonneg z h
    omega
  · intro h
    have h2 := Int.tmod_nonneg z (show 0 ≤ -x by omega)
    rw [Int.neg_tmod] at h2
    omega
theorem zd_fdiv {x z : Int} (hz : z ≠ 0) : x.fdiv z = if (0 ≤ x ↔ 0 ≤ z) then x.tdiv z else if x.tdiv z * z = x then x.tdiv z else x.tdiv z - 1 := by
  have hd : z ∣ x ↔ x.tdiv z * z = x := ⟨fun h => Int.tdiv_mul_cancel h, fun h => ⟨x.tdiv z, by rw [Int.mul_comm]; exact h.symm⟩⟩
  rw [Int.fdiv_eq_tdiv]
  by_cases h1 : z ∣ x
  · rw [if_pos h1, if_pos (hd.mp h1), ite_self]
    omega
  · rw [if_neg h1, if_neg (fun q => h1 (hd.mpr q))]
    by_cases h2 : 0 ≤ x
    · by_cases h3 : 0 ≤ z
      · rw [if_pos h2, if_pos h3, if_pos ⟨fun _ => h3, fun _ => h2⟩]; omega
      · rw [if_pos h2, if_neg h3, if_neg (fun q => h3 (q.mp h2))]
    · by_cases h3 : 0 ≤ z
      · rw [if_neg h2, if_pos h3, if_neg (fun q => h2 (q.mpr h3)), Int.sign_eq_one_of_pos (by omega)]
      · rw [if_neg h2, if_neg h3, if_pos ⟨fun q => absurd q h2, fun q => absurd q h3⟩, Int.sign_eq_neg_one_of_neg (by omega)]; omega
theorem zd_fmod {x z : Int} (hz : z ≠ 0) : x.fmod z = if (0 ≤ x ↔ 0 ≤ z) then x.tmod z else if x.tmod z = 0 then x.tmod z else x.tmod z + z := by
  have e : x.tmod z + x.tdiv z * z = x := Int.tmod_add_tdiv_mul x z
  rw [Int.fmod_def, zd_fdiv hz]
  have e2 : z * x.tdiv z = x.tdiv z * z := Int.mul_comm _ _
  by_cases h1 : (0 ≤ x ↔ 0 ≤ z)
  · rw [if_pos h1, if_pos h1]; omega
  · rw [if_neg h1, if_neg h1]
    by_cases h2 : x.tdiv z * z = x
    · rw [if_pos h2, if_pos (by omega)]; omega
    · rw [if_neg h2, if_neg (by omega), Int.mul_sub, Int.mul_one]; omega
theorem zd_fdiv_w {x z : Int} (hz : z ≠ 0) (hb : -1000000000 ≤ x ∧ x ≤ 1000000000) : zm_i32 (x.fdiv z) := by
  have h1 : (x.tdiv z).natAbs ≤ x.natAbs := Int.natAbs_tdiv_le_natAbs x z
  rw [zd_fdiv hz]
  split
  · show _ ∧ _; omega
  · split
    · show _ ∧ _; omega
    · show _ ∧ _; omega
theorem zd_fmod_w {x z : Int} (hz : z ≠ 0) (hzi : zm_i32 z) (hb : -1000000000 ≤ x ∧ x ≤ 1000000000) : zm_i32 (x.fmod z) := by
  obtain ⟨h1, h2⟩ := zd_bd x z
  have h3 : zm_i32 (x.tmod z) := by
    rcases Int.lt_or_le x 0 with q | q
    · have := h2 q; show _ ∧ _; omega
    · have := h1 q; show _ ∧ _; omega
  rw [zd_fmod hz]
  split
  · exact h3
  · split
    · exact h3
    · next q _ =>
      rcases Int.lt_or_le x 0 with w | w
      · have := h2 w
        have : 0 ≤ z := by
          rcases Int.lt_or_le z 0 with v | v
          · exact absurd ⟨fun a => absurd a (by omega), fun a => absurd a (by omega)⟩ q
          · exact v
        show _ ∧ _; omega
      · have := h1 w
        have : z < 0 := by
          rcases Int.lt_or_le z 0 with v | v
          · exact v
          · exact absurd ⟨fun _ => v, fun _ => w⟩ q
        show _ ∧ _; omega
set_option maxHeartbeats 4000000 in
theorem zd_m_fdi (l : Launch) {D : va_G} {kA : Nat → ClassId} {ρ : Nat → Nat} {md : Bool} {as : List zm_V} {nx : Nat} {h : zm_H} {sz : Nat} {x z : Int} (hx0 : zm_i32 x) (hz0 : zm_i32 z) (hz : z ≠ 0) (hb1 : -1000000000 ≤ x ∧ x ≤ 1000000000) :
    Met l zd_y_fdi (Cond.code zd_y_fdi zd_b_fdi 3 (some .int) :: zs_tb) (zd_rm 0) (va_Pc [.int (Int32.ofInt x), .int (Int32.ofInt z)] (zs_B0 D kA ρ md as nx h sz)) (zs_Q D kA ρ md nx h sz (zm_I (x.fdiv z)) nx h) 0 0 (va_A (zs_ws kA ρ md nx h) sz) := by
  refine zs_ofW (cc := zd_b_fdi) (maxL := 3) (ret := some .int) (by decide +kernel) rfl ?_
  intro p e s m args below meth c s₁ B hml hv
  obtain ⟨rfl, hsz, hP, hK, hD0, hRO, hh, hwa, h4⟩ := hv
  have hx := B.exec
  have hb := B.bytes
  have hr := B.returns
  have hlocks := B.notSynchronized
  subst hsz
  have hD := hD0.self (sz := s.heap.size)
  have hS : va_S (va_A (zs_ws kA ρ md nx h) s.heap.size) s.heap s.heap [] := va_S.rf
  have hw := zd_fdiv_w hz hb1
  have hl := lv_entry ([.int (Int32.ofInt x), .int (Int32.ofInt z)]) (n := 3) (Nat.le_of_ble_eq_true rfl)
  rw [lg_entry_eq]
  generalize (lg_sl ([.int (Int32.ofInt x), .int (Int32.ofInt z)]) ++ List.replicate (3 - (lg_sl ([.int (Int32.ofInt x), .int (Int32.ofInt z)])).length) Slot.unset).toArray = ls at hl ⊢
  have hl : lv_has ls 3 [(0, .int (Int32.ofInt x)), (1, .int (Int32.ofInt z))] := hl
  have fin : ∀ (ls1 : Array Slot) (v : Int32) (pc1 : Nat), v = Int32.ofInt (x.fdiv z) → decode zd_b_fdi pc1 = .ok (.ireturn, 1) → W p l e (headSpec (Cond.code zd_y_fdi zd_b_fdi 3 (some .int) :: zs_tb) (zd_rm 0)).room s m ([.int (Int32.ofInt x), .int (Int32.ofInt z)] : List Value).toArray below meth c s.heap [] 0 0 (MQ below (zs_Q D kA ρ md nx h s.heap.size (zm_I (x.fdiv z)) nx h) ([.int (Int32.ofInt x), .int (Int32.ofInt z)] : List Value).toArray s 0 0 (va_A (zs_ws kA ρ md nx h) s.heap.size)) (F0 m pc1 ls1 [.int v]) :=
    fun ls1 v pc1 hv hdg => W.iret hx hb hr (fun t ht hW => ⟨⟨v, ρ, rfl, hv, fun _ _ => rfl, by rw [ht]; exact hP, hD, hh, hw, fun a q => by cases q⟩, hS.F ht⟩) hS.2.2 hdg
  have hxz : x.tmod z + x.tdiv z * z = x := Int.tmod_add_tdiv_mul x z
  have hbd := zd_bd x z
  refine lv_iload_n hx hb zd_d_fdi_0 rfl (lv_at hl 0 rfl) ?_
  refine lv_iload_n hx hb zd_d_fdi_1 rfl (lv_at hl 1 rfl) ?_
  refine lv_idiv hx hb zd_d_fdi_2 (fun q => hz ((zs_eq hz0 (by omega)).mp q)) ?_
  rw [zd_tq hx0 hz0]
  refine lv_istore_n hx hb zd_d_fdi_3 rfl hl (by decide) rfl (fun ls1 hl1 => ?_)
  have hl1 : lv_has ls1 3 [(2, .int (Int32.ofInt (x.tdiv z))), (0, .int (Int32.ofInt x)), (1, .int (Int32.ofInt z))] := hl1
  refine lv_iload_n hx hb zd_d_fdi_4 rfl (lv_at hl1 1 rfl) ?_
  refine lv_iload_n hx hb zd_d_fdi_5 rfl (lv_at hl1 2 rfl) ?_
  refine lv_ixor hx hb zd_d_fdi_6 ?_
  refine lv_if_ge (tgt := 21) hx hb zd_d_fdi_7 rfl (fun hge => ?_) (fun hge => ?_)
  · rw [zd_xor hx0 hz0] at hge
    refine lv_iload_n hx hb zd_d_fdi_21 rfl (lv_at hl1 0 rfl) ?_
    exact fin ls1 _ 22 (by rw [zd_fdiv hz, if_pos hge]) zd_d_fdi_22
  · rw [zd_xor hx0 hz0] at hge
    refine lv_iload_n hx hb zd_d_fdi_10 rfl (lv_at hl1 0 rfl) ?_
    refine lv_iload_n hx hb zd_d_fdi_11 rfl (lv_at hl1 2 rfl) ?_
    refine lv_imul hx hb zd_d_fdi_12 ?_
    rw [← Int32.ofInt_mul]
    have hpi : zm_i32 (x.tdiv z * z) := by
      rcases Int.lt_or_le x 0 with q | q
      · have := hbd.2 q; show _ ∧ _; omega
      · have := hbd.1 q; show _ ∧ _; omega
    refine lv_iload_n hx hb zd_d_fdi_13 rfl (lv_at hl1 1 rfl) ?_
    refine lv_icmp_eq (tgt := 21) hx hb zd_d_fdi_14 rfl (fun heq => ?_) (fun heq => ?_)
    · rw [zs_eq hpi hx0] at heq
      refine lv_iload_n hx hb zd_d_fdi_21 rfl (lv_at hl1 0 rfl) ?_
      exact fin ls1 _ 22 (by rw [zd_fdiv hz, if_neg hge, if_pos heq]) zd_d_fdi_22
    · rw [zs_eq hpi hx0] at heq
      refine lv_iload_n hx hb zd_d_fdi_17 rfl (lv_at hl1 0 rfl) ?_
      refine lv_iconst hx hb zd_d_fdi_18 (v := Int32.ofInt 1) rfl ?_
      refine lv_isub hx hb zd_d_fdi_19 ?_
      exact fin ls1 _ 20 (by rw [zd_fdiv hz, if_neg hge, if_neg heq, Int32.ofInt_sub]) zd_d_fdi_20
set_option maxHeartbeats 4000000 in
theorem zd_m_fmo (l : Launch) {D : va_G} {kA : Nat → ClassId} {ρ : Nat → Nat} {md : Bool} {as : List zm_V} {nx : Nat} {h : zm_H} {sz : Nat} {x z : Int} (hx0 : zm_i32 x) (hz0 : zm_i32 z) (hz : z ≠ 0) (hb1 : -1000000000 ≤ x ∧ x ≤ 1000000000) :
    Met l zd_y_fmo (Cond.code zd_y_fmo zd_b_fmo 3 (some .int) :: zs_tb) (zd_rm 0) (va_Pc [.int (Int32.ofInt x), .int (Int32.ofInt z)] (zs_B0 D kA ρ md as nx h sz)) (zs_Q D kA ρ md nx h sz (zm_I (x.fmod z)) nx h) 0 0 (va_A (zs_ws kA ρ md nx h) sz) := by
  refine zs_ofW (cc := zd_b_fmo) (maxL := 3) (ret := some .int) (by decide +kernel) rfl ?_
  intro p e s m args below meth c s₁ B hml hv
  obtain ⟨rfl, hsz, hP, hK, hD0, hRO, hh, hwa, h4⟩ := hv
  have hx := B.exec
  have hb := B.bytes
  have hr := B.returns
  have hlocks := B.notSynchronized
  subst hsz
  have hD := hD0.self (sz := s.heap.size)
  have hS : va_S (va_A (zs_ws kA ρ md nx h) s.heap.size) s.heap s.heap [] := va_S.rf
  have hw := zd_fmod_w hz hz0 hb1
  have hl := lv_entry ([.int (Int32.ofInt x), .int (Int32.ofInt z)]) (n := 3) (Nat.le_of_ble_eq_true rfl)
  rw [lg_entry_eq]
  generalize (lg_sl ([.int (Int32.ofInt x), .int (Int32.ofInt z)]) ++ List.replicate (3 - (lg_sl ([.int (Int32.ofInt x), .int (Int32.ofInt z)])).length) Slot.unset).toArray = ls at hl ⊢
  have hl : lv_has ls 3 [(0, .int (Int32.ofInt x)), (1, .int (Int32.ofInt z))] := hl
  have fin : ∀ (ls1 : Array Slot) (v : Int32) (pc1 : Nat), v = Int32.ofInt (x.fmod z) → decode zd_b_fmo pc1 = .ok (.ireturn, 1) → W p l e (headSpec (Cond.code zd_y_fmo zd_b_fmo 3 (some .int) :: zs_tb) (zd_rm 0)).room s m ([.int (Int32.ofInt x), .int (Int32.ofInt z)] : List Value).toArray below meth c s.heap [] 0 0 (MQ below (zs_Q D kA ρ md nx h s.heap.size (zm_I (x.fmod z)) nx h) ([.int (Int32.ofInt x), .int (Int32.ofInt z)] : List Value).toArray s 0 0 (va_A (zs_ws kA ρ md nx h) s.heap.size)) (F0 m pc1 ls1 [.int v]) :=
    fun ls1 v pc1 hv hdg => W.iret hx hb hr (fun t ht hW => ⟨⟨v, ρ, rfl, hv, fun _ _ => rfl, by rw [ht]; exact hP, hD, hh, hw, fun a q => by cases q⟩, hS.F ht⟩) hS.2.2 hdg
  have hmi : zm_i32 (x.tmod z) := by
    have hbd := zd_bd x z
    rcases Int.lt_or_le x 0 with q | q
    · have := hbd.2 q; show _ ∧ _; omega
    · have := hbd.1 q; show _ ∧ _; omega
  refine lv_iload_n hx hb zd_d_fmo_0 rfl (lv_at hl 0 rfl) ?_
  refine lv_iload_n hx hb zd_d_fmo_1 rfl (lv_at hl 1 rfl) ?_
  refine lv_irem hx hb zd_d_fmo_2 (fun q => hz ((zs_eq hz0 (by omega)).mp q)) ?_
  rw [zd_tm hx0 hz0]
  refine lv_istore_n hx hb zd_d_fmo_3 rfl hl (by decide) rfl (fun ls1 hl1 => ?_)
  have hl1 : lv_has ls1 3 [(2, .int (Int32.ofInt (x.tmod z))), (0, .int (Int32.ofInt x)), (1, .int (Int32.ofInt z))] := hl1
  refine lv_iload_n hx hb zd_d_fmo_4 rfl (lv_at hl1 1 rfl) ?_
  refine lv_iload_n hx hb zd_d_fmo_5 rfl (lv_at hl1 2 rfl) ?_
  refine lv_ixor hx hb zd_d_fmo_6 ?_
  refine lv_if_ge (tgt := 18) hx hb zd_d_fmo_7 rfl (fun hge => ?_) (fun hge => ?_)
  · rw [zd_xor hx0 hz0] at hge
    refine lv_iload_n hx hb zd_d_fmo_18 rfl (lv_at hl1 0 rfl) ?_
    exact fin ls1 _ 19 (by rw [zd_fmod hz, if_pos hge]) zd_d_fmo_19
  · rw [zd_xor hx0 hz0] at hge
    refine lv_iload_n hx hb zd_d_fmo_10 rfl (lv_at hl1 0 rfl) ?_
    refine lv_if_eq (tgt := 18) hx hb zd_d_fmo_11 rfl (fun heq => ?_) (fun heq => ?_)
    · have heq := (zs_eq hmi (show zm_i32 0 by show _ ∧ _; omega)).mp heq
      refine lv_iload_n hx hb zd_d_fmo_18 rfl (lv_at hl1 0 rfl) ?_
      exact fin ls1 _ 19 (by rw [zd_fmod hz, if_neg hge, if_pos heq]) zd_d_fmo_19
    · have heq : ¬ x.tmod z = 0 := fun q => heq ((zs_eq hmi (show zm_i32 0 by show _ ∧ _; omega)).mpr q)
      refine lv_iload_n hx hb zd_d_fmo_14 rfl (lv_at hl1 0 rfl) ?_
      refine lv_iload_n hx hb zd_d_fmo_15 rfl (lv_at hl1 2 rfl) ?_
      refine lv_iadd hx hb zd_d_fmo_16 ?_
      exact fin ls1 _ 17 (by rw [zd_fmod hz, if_neg hge, if_neg heq, Int32.ofInt_add]) zd_d_fmo_17
