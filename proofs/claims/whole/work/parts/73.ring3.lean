/-! RINGS: the reference -/
/-- a mask of eight bits says lf -/
def zp_bm (x : Int) (lf : Nat → Bool) : Prop := ∃ n : Nat, x = n ∧ n < 256 ∧ ∀ i, n.testBit i = lf i
theorem zp_bm_0 : zp_bm 0 (fun _ => false) := ⟨0, rfl, by decide, fun i => Nat.zero_testBit i⟩
theorem zp_bm_z {x : Int} {lf : Nat → Bool} (hx : zp_bm x lf) : x = 0 ↔ ∀ i, lf i = false := by
  obtain ⟨n, rfl, hn, ht⟩ := hx
  constructor
  · intro h i
    have : n = 0 := by omega
    rw [← ht i, this]; exact Nat.zero_testBit i
  · intro h
    have : n = 0 := Nat.eq_of_testBit_eq (fun i => by rw [ht i, h i, Nat.zero_testBit])
    rw [this]; rfl
theorem zp_bm_8 {x : Int} {lf : Nat → Bool} (hx : zp_bm x lf) {i : Nat} (hi : lf i = true) : i < 8 := by
  obtain ⟨n, rfl, hn, ht⟩ := hx
  refine Classical.byContradiction (fun h => ?_)
  have h1 : n < 2 ^ i := Nat.lt_of_lt_of_le hn (show 2 ^ 8 ≤ 2 ^ i from zb_p2 (by omega))
  have := Nat.testBit_lt_two_pow h1
  rw [ht i, hi] at this
  cases this
theorem zp_bm_b {x : Int} {lf : Nat → Bool} (hx : zp_bm x lf) {i : Nat} (hi : i < 8) : zb_iand (zb_ishr x i) 1 = (if lf i = true then 1 else 0) := by
  obtain ⟨n, rfl, hn, ht⟩ := hx
  rw [zb_shr (show zm_i32 (n : Int) by omega) (by omega), zb_1, ← ht i, Nat.testBit_eq_decide_div_mod_eq]
  have e1 : (n : Int) / ((2 ^ i : Nat) : Int) % 2 = ((n / 2 ^ i % 2 : Nat) : Int) := by
    rw [Int.natCast_emod, Int.natCast_ediv]; rfl
  rw [e1]
  by_cases q : n / 2 ^ i % 2 = 1
  · rw [decide_eq_true q, if_pos rfl, q]; rfl
  · rw [decide_eq_false q, if_neg (by decide)]; omega
theorem zp_or_n {n m : Nat} (hn : n < 256) (hm : m < 256) : zb_ior n m = ((n ||| m : Nat) : Int) := by
  have e : (n ||| m) < 2 ^ 8 := Nat.or_lt_two_pow hn hm
  have ea : (BitVec.ofInt 32 (n : Int)).toNat = n := by rw [zb_nat32]; omega
  have eb : (BitVec.ofInt 32 (m : Int)).toNat = m := by rw [zb_nat32]; omega
  show (Int32.ofInt _ ||| Int32.ofInt _).toBitVec.toInt = _
  rw [Int32.toBitVec_or, Int32.toBitVec_ofInt, Int32.toBitVec_ofInt]
  have e2 : (BitVec.ofInt 32 (n : Int) ||| BitVec.ofInt 32 (m : Int)).toNat = (n ||| m) := by rw [BitVec.toNat_or, ea, eb]
  rw [zb_pos32 _ (by omega), e2]
theorem zp_bm_k {x : Int} {lf : Nat → Bool} (hx : zp_bm x lf) : zb_ior x 0 = x := by
  obtain ⟨n, rfl, hn, ht⟩ := hx
  have := zp_or_n hn (show 0 < 256 by decide)
  rw [Nat.or_zero] at this
  exact this
theorem zp_bm_s {x : Int} {lf : Nat → Bool} (hx : zp_bm x lf) {i : Nat} (hi : i < 8) : zp_bm (zb_ior x (zb_ishl 1 i)) (fun a => lf a || decide (a = i)) := by
  obtain ⟨n, rfl, hn, ht⟩ := hx
  have hp : 2 ^ i < 2 ^ 8 := Nat.pow_lt_pow_right (by decide) hi
  have hs : zb_ishl 1 i = ((2 ^ i : Nat) : Int) := by rw [zb_shl (by decide) (by omega) (by omega)]; omega
  rw [hs, zp_or_n hn hp]
  refine ⟨_, rfl, Nat.or_lt_two_pow (n := 8) hn hp, fun a => ?_⟩
  rw [Nat.testBit_or, ht a, Nat.testBit_two_pow]
  congr 1
  by_cases q : a = i
  · rw [decide_eq_true q, decide_eq_true q.symm]
  · rw [decide_eq_false q, decide_eq_false (fun e => q e.symm)]
theorem zp_bm_n {x y : Int} {lf lg : Nat → Bool} (hx : zp_bm x lf) (hy : zp_bm y lg) : zp_bm (zb_iand x (zb_ixor y (-1))) (fun a => lf a && !lg a) := by
  obtain ⟨n, rfl, hn, ht⟩ := hx
  obtain ⟨m, rfl, hm, ht2⟩ := hy
  have ea : (BitVec.ofInt 32 (n : Int)).toNat = n := by rw [zb_nat32]; omega
  have eb : (BitVec.ofInt 32 (m : Int)).toNat = m := by rw [zb_nat32]; omega
  have ec : (BitVec.ofInt 32 (-1 : Int)).toNat = 2 ^ 32 - 1 := by decide
  have e1 : zb_iand n (zb_ixor m (-1)) = (BitVec.ofInt 32 (n : Int) &&& (BitVec.ofInt 32 (m : Int) ^^^ BitVec.ofInt 32 (-1 : Int))).toInt := by
    show (Int32.ofInt _ &&& Int32.ofInt ((Int32.ofInt _ ^^^ Int32.ofInt _).toInt)).toBitVec.toInt = _
    rw [Int32.ofInt_toInt, Int32.toBitVec_and, Int32.toBitVec_xor, Int32.toBitVec_ofInt, Int32.toBitVec_ofInt, Int32.toBitVec_ofInt]
  have e2 : (BitVec.ofInt 32 (n : Int) &&& (BitVec.ofInt 32 (m : Int) ^^^ BitVec.ofInt 32 (-1 : Int))).toNat = (n &&& (m ^^^ (2 ^ 32 - 1))) := by rw [BitVec.toNat_and, BitVec.toNat_xor, ea, eb, ec]
  have e3 : (n &&& (m ^^^ (2 ^ 32 - 1))) ≤ n := Nat.and_le_left
  refine ⟨(n &&& (m ^^^ (2 ^ 32 - 1))), ?_, by omega, fun a => ?_⟩
  · rw [e1, zb_pos32 _ (by rw [e2]; omega), e2]
  · rw [Nat.testBit_and, Nat.testBit_xor, Nat.testBit_two_pow_sub_one, ht a, ht2 a]
    show (lf a && (lg a ^^ decide (a < 32))) = (lf a && !lg a)
    by_cases q : a < 32
    · rw [decide_eq_true q]; cases lf a <;> cases lg a <;> rfl
    · have : lf a = false := by
        cases h : lf a with
        | false => rfl
        | true => exact absurd (zp_bm_8 ⟨n, rfl, hn, ht⟩ h) (by omega)
      rw [this]; rfl
theorem zp_bm_e {x : Int} {lf lg : Nat → Bool} (hx : zp_bm x lf) (he : ∀ a, lf a = lg a) : zp_bm x lg := by
  rw [← show lf = lg from funext he]; exact hx
section
variable {h : zm_H} {t b K L C : Nat} {wo sz re fe ru : Nat → Int} {lk : Nat → Nat → Int} {P Pu Qu Hd : Nat → Int} {hr dp : Int}
theorem s_265 {c : Nat} (hG : zv_G h b K L C wo sz re fe ru lk) (hB : zv_B K L C wo sz re fe ru lk) (hW : zv_W h 0 P Pu Hd) (hH : zv_H K C Hd) (hc : c < C) : zi (zc 265 [zm_A 146, zm_I c] h) (fun z g => z = zp_oi (zp_ofo K lk Hd c) ∧ g = h) := by
  have hK8 := hB.1
  have hC8 := hB.2.2.1
  have hb := hG.1
  have key : ∀ (m k : Nat) (bo : Option Nat), k + m = K → (∀ j, bo = some j → j < K) → zi (zr none 2 265 4 [zm_A 146, zm_I c, zm_I (zp_oi bo), zm_I k] [] h) (fun z g => z = zp_oi (zp_of (lk c) (fun k => Hd (8 * c + k)) m k bo) ∧ g = h) := by
    intro m
    induction m with
    | zero =>
      intro k bo hk hbo
      refine zt_l e_265_4 ?_
      rw [hG.2.1, hG.2.2.1]
      exact zt_c (by omega) (zt_f (by omega) (zi_e ⟨rfl, rfl⟩))
    | succ m ih =>
      intro k bo hk hbo
      have hd := (hH.1 (8 * c + k) (by omega)).1
      refine zt_l e_265_4 ?_
      rw [hG.2.1, hG.2.2.1, show (k : Int) + 1 = ((k + 1 : Nat) : Int) by omega]
      unfold zp_of
      refine zt_c (by omega) (zt_t (by omega) (zt_I (s_215 (v := 0) hW (by omega) (by omega : k < 8)) ?_))
      rintro z g ⟨rfl, rfl⟩
      dsimp only
      refine zt_p (fun q => zt_c (by omega) ?_) (fun q => ?_)
      · rw [if_pos (show Hd (8 * c + k) = 0 by omega)]
        exact ih (k + 1) bo (by omega) hbo
      · rw [if_neg (show ¬ Hd (8 * c + k) = 0 by omega)]
        cases bo with
        | none =>
          refine zt_t rfl (zt_c (by omega) ?_)
          exact ih (k + 1) (some k) (by omega) (fun j hj => by cases hj; omega)
        | some j =>
          have hj := hbo j rfl
          refine zt_f (show ¬ (j : Int) = -1 by omega) (zt_I (s_224 hG hB hc (by omega : k < K)) ?_)
          rintro z g ⟨rfl, rfl⟩
          refine zt_I (s_224 hG hB hc hj) ?_
          rintro z g ⟨rfl, rfl⟩
          dsimp only
          refine zt_p (fun q2 => zt_c (by omega) ?_) (fun q2 => zt_c (by omega) ?_)
          · rw [if_pos q2]
            exact ih (k + 1) (some k) (by omega) (fun j hj => by cases hj; omega)
          · rw [if_neg q2]
            exact ih (k + 1) (some j) (by omega) hbo
  exact zt_l e_265 (key K 0 none (by omega) (fun j hj => by cases hj))
theorem s_266 {c : Nat} {x : Int} {lf : Nat → Bool} {ofo : Nat → Option Nat} {of : Nat → Nat} (hG : zv_G h b K L C wo sz re fe ru lk) (hB : zv_B K L C wo sz re fe ru lk) (hx : zp_bm x lf) (hl : lf c = true) (hlC : ∀ a, lf a = true → a < C ∧ ofo a = some (of a) ∧ of a < K) (h189 : ∀ a : Nat, a < C → h 189 a = zp_oi (ofo a)) : zi (zc 266 [zm_A 146, zm_I c, zm_I x] h) (fun z g => z = zp_pp C lk of lf c ∧ g = h) := by
  have hC8 := hB.2.2.1
  have hb := hG.1
  have hcC := (hlC c hl).1
  have key : ∀ (m i bb : Nat), i + m = C → lf bb = true → zi (zr none 2 266 5 [zm_A 146, zm_I c, zm_I x, zm_I bb, zm_I i] [] h) (fun z g => z = zp_ch (fun o => lk c (of o)) lf m i bb ∧ g = h) := by
    intro m
    induction m with
    | zero =>
      intro i bb hi hbb
      refine zt_l e_266_5 ?_
      rw [hG.2.1, hG.2.2.2.2.1]
      exact zt_c (by omega) (zt_f (by omega) (zi_e ⟨rfl, rfl⟩))
    | succ m ih =>
      intro i bb hi hbb
      obtain ⟨b1, b2, b3⟩ := hlC bb hbb
      refine zt_l e_266_5 ?_
      rw [hG.2.1, hG.2.2.2.2.1, show (i : Int) + 1 = ((i + 1 : Nat) : Int) by omega, zp_bm_b hx (show i < 8 by omega)]
      unfold zp_ch
      refine zt_c (by omega) (zt_t (by omega) ?_)
      by_cases hli : lf i = true
      · rw [if_pos hli]
        obtain ⟨i1, i2, i3⟩ := hlC i hli
        have e1 : h 189 (i : Int) = ((of i : Nat) : Int) := by rw [h189 i (by omega), i2]; rfl
        have e2 : h 189 (bb : Int) = ((of bb : Nat) : Int) := by rw [h189 bb b1, b2]; rfl
        rw [e1]
        refine zt_t rfl (zt_c (by omega) (zt_I (s_224 hG hB hcC i3) ?_))
        rintro z g ⟨rfl, rfl⟩
        rw [e2]
        refine zt_c (by omega) (zt_I (s_224 hG hB hcC b3) ?_)
        rintro z g ⟨rfl, rfl⟩
        refine zt_p (fun q2 => zt_c (by omega) ?_) (fun q2 => zt_c (by omega) ?_)
        · rw [if_neg (fun r => by have := r.2; omega)]
          exact ih (i + 1) bb (by omega) hbb
        · rw [if_pos ⟨hli, by omega⟩]
          exact ih (i + 1) i (by omega) hli
      · rw [if_neg hli, if_neg (show ¬ (lf i = true ∧ lk c (of bb) < lk c (of i)) from fun r => hli r.1)]
        refine zt_f (by decide) (zt_c (by omega) ?_)
        exact ih (i + 1) bb (by omega) hbb
  exact zt_l e_266 (key C 0 c (by omega) hl)
theorem s_267 {c : Nat} {lf : Nat → Bool} {p : Nat → Nat} (hl : lf c = true) (hlC : ∀ a, lf a = true → a < C) (hC8 : C ≤ 8) (hp : ∀ a, lf a = true → lf (p a) = true) (h190 : ∀ a : Nat, lf a = true → h 190 a = p a) : zi (zc 267 [zm_A 146, zm_I c] h) (fun z g => z = (if zp_gr p c C (p c) = true then 1 else 0) ∧ g = h) := by
  have key : ∀ (m i a : Nat), i + m = 8 → lf a = true → zi (zr none 1 267 9 [zm_A 146, zm_I c, zm_I a, zm_I i] [] h) (fun z g => z = (if zp_gr p c m a = true then 1 else 0) ∧ g = h) := by
    intro m
    induction m with
    | zero =>
      intro i a hi ha
      refine zt_l e_267_9 (zt_f (by omega) (zt_p (fun q => zt_c (Or.inr rfl) (zi_e ⟨?_, rfl⟩)) (fun q => zt_c (Or.inl rfl) (zi_e ⟨?_, rfl⟩))))
      · unfold zp_gr; rw [if_pos (by simp; omega)]
      · unfold zp_gr; rw [if_neg (by simp; omega)]
    | succ m ih =>
      intro i a hi ha
      have haC := hlC a ha
      refine zt_l e_267_9 (zt_t (by omega) (zt_p (fun q => zt_t q (zt_c (Or.inr rfl) (zi_e ⟨?_, rfl⟩))) (fun q => zt_c (by omega) (zt_c (by omega) ?_))))
      · unfold zp_gr; rw [if_pos (show a = c by omega)]; rfl
      · rw [h190 a ha, show (i : Int) + 1 = ((i + 1 : Nat) : Int) by omega]
        unfold zp_gr
        rw [if_neg (show ¬ a = c by omega)]
        exact ih (i + 1) (p a) (by omega) (hp a ha)
  have hcC := hlC c hl
  refine zt_l e_267 (zt_c (by omega) ?_)
  rw [h190 c hl, ← zp_gr_eq hlC hp hl hC8]
  exact key 8 0 (p c) (by omega) (hp c hl)
def zf_Rr (a : Nat) (_ : Int) : Prop := 189 ≤ a ∧ a ≤ 192
def zv_Rr (h : zm_H) (C : Nat) (ofo : Nat → Option Nat) (S : zp_RS) : Prop :=
  (∀ a : Nat, a < C → h 189 a = zp_oi (ofo a)) ∧ ∀ a : Nat, a < C → (ofo a).isSome = true → S.1 a = false → h 192 a = S.2.2 a ∧ h 191 a = S.2.1 a
theorem s_264 (hD : zv_D h b K L C wo sz re fe ru lk P Pu Hd hr dp) (hB : zv_B K L C wo sz re fe ru lk) (hX : zv_X K L C P Pu Hd hr dp) : zu (zc 264 [zm_A 146] h) (fun g => zq_F zf_Rr h g ∧ zv_Rr g C (zp_ofo K lk Hd) (zp_fin K C lk Hd)) := by
  have hK8 := hB.1
  have hC8 := hB.2.2.1
  have hb := hD.1.1
  have kG : ∀ g, zq_F zf_Rr h g → zv_G g b K L C wo sz re fe ru lk := fun g fg => hD.1.kp (fg 146 13 (by unfold zf_Rr; omega)) (fun a h1 h2 => by funext i; exact fg a i (by unfold zf_Rr; omega))
  have kW : ∀ g, zq_F zf_Rr h g → zv_W g 0 P Pu Hd := fun g fg => hD.2.1.kp (fun a h1 h2 => by funext i; exact fg a i (by unfold zf_Rr; omega))
  have hs0 : ∀ a, (zp_rs0 K C lk Hd).1 a = true → a < C := fun a q => by
    have : (decide (a < C) && (zp_ofo K lk Hd a).isSome) = true := q
    rw [Bool.and_eq_true, decide_eq_true_iff] at this
    exact this.1
  have hsub : ∀ n a, (zp_rr C lk (zp_ofk K lk Hd) (zp_rs0 K C lk Hd) n).1 a = true → a < C ∧ (zp_ofo K lk Hd a).isSome = true := fun n a q => by
    have := zp_rr_sub (lk := lk) (of := zp_ofk K lk Hd) hs0 n a q
    have h2 : (decide (a < C) && (zp_ofo K lk Hd a).isSome) = true := this.2
    rw [Bool.and_eq_true] at h2
    exact ⟨this.1, h2.2⟩
  have rounds : ∀ (m n : Nat) (g : zm_H) (x : Int) (w3 w4 : zm_V), n + m = C → zq_F zf_Rr h g → zp_bm x (zp_rr C lk (zp_ofk K lk Hd) (zp_rs0 K C lk Hd) n).1 → zv_Rr g C (zp_ofo K lk Hd) (zp_rr C lk (zp_ofk K lk Hd) (zp_rs0 K C lk Hd) n) → zu (zr none 3 264 56 [zm_A 146, zm_I x, zm_I ((n + 1 : Nat) : Int), w3, w4] [] g) (fun g => zq_F zf_Rr h g ∧ zv_Rr g C (zp_ofo K lk Hd) (zp_fin K C lk Hd)) := by
    intro m
    induction m with
    | zero =>
      intro n g x w3 w4 hn fg hx R
      obtain rfl : n = C := by omega
      exact zt_l e_264_56 (zt_t ((zp_bm_z hx).mpr (fun i => zp_rr_end hs0 i)) (zu_e ⟨fg, R⟩))
    | succ m ih =>
      intro n g x w3 w4 hn fg hx R
      refine zt_l e_264_56 (zt_p (fun q => zu_e ⟨fg, ?_⟩) (fun q => ?_))
      · have e : zp_fin K C lk Hd = zp_rr C lk (zp_ofk K lk Hd) (zp_rs0 K C lk Hd) n := by
          unfold zp_fin
          have := zp_rr_stop ((zp_bm_z hx).mp q) (m + 1)
          rw [hn] at this
          exact this
        rw [e]; exact R
      have hsn := hsub n
      have hrr : zp_rr C lk (zp_ofk K lk Hd) (zp_rs0 K C lk Hd) (n + 1) = zp_rd C lk (zp_ofk K lk Hd) ((n + 1 : Nat) : Int) (zp_rr C lk (zp_ofk K lk Hd) (zp_rs0 K C lk Hd) n) := rfl
      have ih' := ih (n + 1)
      rw [hrr] at ih'
      generalize zp_rr C lk (zp_ofk K lk Hd) (zp_rs0 K C lk Hd) n = S at R hsn ih' hx
      have hlC : ∀ a, S.1 a = true → a < C ∧ zp_ofo K lk Hd a = some (zp_ofk K lk Hd a) ∧ zp_ofk K lk Hd a < K := fun a q => ⟨(hsn a q).1, zp_ofk_b (hsn a q).2⟩
      -- who leaves
      have leave : ∀ (m2 i : Nat) (g : zm_H) (y : Int), i + m2 = C → zq_F zf_Rr h g → (∀ a : Nat, a < C → g 189 a = zp_oi (zp_ofo K lk Hd a)) → (∀ a : Nat, S.1 a = true → g 190 a = zp_pp C lk (zp_ofk K lk Hd) S.1 a) → zp_bm y (fun a => decide (a < i) && zp_lv C lk (zp_ofk K lk Hd) S.1 a) → (∀ a : Nat, a < C → (zp_ofo K lk Hd a).isSome = true → (S.1 a = true → a < i → zp_lv C lk (zp_ofk K lk Hd) S.1 a = true → g 192 a = ((n + 1 : Nat) : Int) ∧ g 191 a = zp_pp C lk (zp_ofk K lk Hd) S.1 a) ∧ (S.1 a = false → g 192 a = S.2.2 a ∧ g 191 a = S.2.1 a)) → zu (zr none 3 264 112 [zm_A 146, zm_I x, zm_I ((n + 1 : Nat) : Int), zm_I y, zm_I i] [] g) (fun g => zq_F zf_Rr h g ∧ zv_Rr g C (zp_ofo K lk Hd) (zp_fin K C lk Hd)) := by
        intro m2
        induction m2 with
        | zero =>
          intro i g y hi fg h1 h2 hy h3
          obtain rfl : i = C := by omega
          refine zt_l e_264_112 ?_
          rw [(kG g fg).2.1, (kG g fg).2.2.2.2.1]
          refine zt_c (by omega) (zt_f (by omega) (zt_c (by omega) ?_))
          rw [show ((n + 1 : Nat) : Int) + 1 = ((n + 1 + 1 : Nat) : Int) by omega]
          refine ih' g _ _ _ (by omega) fg (zp_bm_e (zp_bm_n hx hy) (fun a => ?_)) ⟨h1, fun a ha hso hl' => ?_⟩
          · show (S.1 a && !(decide (a < i) && zp_lv i lk (zp_ofk K lk Hd) S.1 a)) = (S.1 a && !zp_lv i lk (zp_ofk K lk Hd) S.1 a)
            cases hSa : S.1 a with
            | false => rfl
            | true => rw [decide_eq_true (hsn a hSa).1]; simp
          · obtain ⟨q1, q2⟩ := h3 a ha hso
            have hl2 : (S.1 a && !zp_lv i lk (zp_ofk K lk Hd) S.1 a) = false := hl'
            show g 192 a = (if zp_lv i lk (zp_ofk K lk Hd) S.1 a = true then ((n + 1 : Nat) : Int) else S.2.2 a) ∧ g 191 a = (((if S.1 a = true then zp_pp i lk (zp_ofk K lk Hd) S.1 a else S.2.1 a) : Nat) : Int)
            cases hSa : S.1 a with
            | true =>
              rw [hSa, Bool.true_and, Bool.not_eq_false'] at hl2
              rw [hl2, if_pos rfl, if_pos rfl]
              exact q1 hSa ha hl2
            | false =>
              have hlv : zp_lv i lk (zp_ofk K lk Hd) S.1 a = false := by unfold zp_lv; rw [hSa]; rfl
              rw [hlv]
              exact q2 hSa
        | succ m2 ih2 =>
          intro i g y hi fg h1 h2 hy h3
          have hiC : i < C := by omega
          refine zt_l e_264_112 ?_
          rw [(kG g fg).2.1, (kG g fg).2.2.2.2.1, show (i : Int) + 1 = ((i + 1 : Nat) : Int) by omega, zp_bm_b hx (show i < 8 by omega)]
          have stay : zp_lv C lk (zp_ofk K lk Hd) S.1 i = false → zu (zr none 3 264 112 [zm_A 146, zm_I x, zm_I ((n + 1 : Nat) : Int), zm_I y, zm_I ((i + 1 : Nat) : Int)] [] g) (fun g => zq_F zf_Rr h g ∧ zv_Rr g C (zp_ofo K lk Hd) (zp_fin K C lk Hd)) := fun hno => by
            refine ih2 (i + 1) g y (by omega) fg h1 h2 (zp_bm_e hy (fun a => ?_)) (fun a ha hso => ⟨fun hSa hai hlv => (h3 a ha hso).1 hSa ?_ hlv, (h3 a ha hso).2⟩)
            · by_cases hai : a = i
              · subst hai; rw [hno]; simp
              · by_cases hlt : a < i
                · rw [decide_eq_true hlt, decide_eq_true (by omega : a < i + 1)]
                · rw [decide_eq_false hlt, decide_eq_false (by omega : ¬ a < i + 1)]
            · have hne : a ≠ i := fun e => by rw [e, hno] at hlv; cases hlv
              omega
          refine zt_c (by omega) (zt_t (by omega) ?_)
          by_cases hSi : S.1 i = true
          · rw [if_pos hSi]
            refine zt_f (by decide) (zt_I (s_267 hSi (fun a q => (hlC a q).1) hC8 (fun a q => zp_pp_in q) h2) ?_)
            rintro z g2 ⟨rfl, rfl⟩
            have hlvi : zp_lv C lk (zp_ofk K lk Hd) S.1 i = zp_gr (zp_pp C lk (zp_ofk K lk Hd) S.1) i C (zp_pp C lk (zp_ofk K lk Hd) S.1 i) := by unfold zp_lv; rw [hSi, Bool.true_and]
            rw [← hlvi]
            cases hlv : zp_lv C lk (zp_ofk K lk Hd) S.1 i with
            | false => exact zt_t rfl (zt_c (by omega) (stay hlv))
            | true =>
              refine zt_f (show ¬ (1 : Int) = 0 by decide) (zt_c (by omega) (zt_c (by omega) (zt_c (by omega) (zt_c (by omega) ?_))))
              refine ih2 (i + 1) _ _ (by omega) (zq_F_tr fg (zq_F_tr (zq_F_wr (by unfold zf_Rr; omega)) (zq_F_wr (by unfold zf_Rr; omega)))) (fun a ha => by rw [zq_wr_n (by decide), zq_wr_n (by decide)]; exact h1 a ha) (fun a ha => by rw [zq_wr_n (by decide), zq_wr_n (by decide)]; exact h2 a ha) (zp_bm_e (zp_bm_s hy (show i < 8 by omega)) (fun a => ?_)) (fun a ha hso => ?_)
              · by_cases hai : a = i
                · subst hai; rw [hlv]; simp
                · by_cases hlt : a < i
                  · rw [decide_eq_true hlt, decide_eq_true (by omega : a < i + 1), decide_eq_false hai, Bool.or_false]
                  · rw [decide_eq_false hlt, decide_eq_false (by omega : ¬ a < i + 1), decide_eq_false hai, Bool.or_false]
              · by_cases hai : a = i
                · subst hai
                  refine ⟨fun _ _ _ => ⟨zq_wr_e, ?_⟩, fun hSa => ?_⟩
                  · rw [zq_wr_n (show (191 : Nat) ≠ 192 by decide), zq_wr_e]; exact h2 a hSi
                  · rw [hSi] at hSa; cases hSa
                · have k1 : ∀ v v' : Int, zm_wr (zm_wr g2 191 (i : Int) v) 192 (i : Int) v' 192 (a : Int) = g2 192 (a : Int) := fun v v' => by
                    rw [zq_wr_i (show (a : Int) ≠ i by omega), zq_wr_n (show (192 : Nat) ≠ 191 by decide)]
                  have k2 : ∀ v v' : Int, zm_wr (zm_wr g2 191 (i : Int) v) 192 (i : Int) v' 191 (a : Int) = g2 191 (a : Int) := fun v v' => by
                    rw [zq_wr_n (show (191 : Nat) ≠ 192 by decide), zq_wr_i (show (a : Int) ≠ i by omega)]
                  rw [k1, k2]
                  exact ⟨fun hSa hai2 hlv2 => (h3 a ha hso).1 hSa (by omega) hlv2, (h3 a ha hso).2⟩
          · rw [if_neg hSi]
            refine zt_t rfl (zt_c (by omega) (stay ?_))
            unfold zp_lv
            cases hS : S.1 i with
            | true => exact absurd hS hSi
            | false => rfl
      have points : ∀ (m2 i : Nat) (g : zm_H), i + m2 = C → zq_F zf_Rr h g → (∀ a : Nat, a < C → g 189 a = zp_oi (zp_ofo K lk Hd a)) → (∀ a : Nat, a < i → S.1 a = true → g 190 a = zp_pp C lk (zp_ofk K lk Hd) S.1 a) → (∀ a : Nat, a < C → (zp_ofo K lk Hd a).isSome = true → S.1 a = false → g 192 a = S.2.2 a ∧ g 191 a = S.2.1 a) → zu (zr none 3 264 65 [zm_A 146, zm_I x, zm_I ((n + 1 : Nat) : Int), zm_I 0, zm_I i] [] g) (fun g => zq_F zf_Rr h g ∧ zv_Rr g C (zp_ofo K lk Hd) (zp_fin K C lk Hd)) := by
        intro m2
        induction m2 with
        | zero =>
          intro i g hi fg h1 h2 h3
          refine zt_l e_264_65 ?_
          rw [(kG g fg).2.1, (kG g fg).2.2.2.2.1]
          refine zt_c (by omega) (zt_f (by omega) (leave C 0 g 0 (by omega) fg h1 (fun a ha => h2 a (by have := (hlC a ha).1; omega) ha) (zp_bm_e zp_bm_0 (fun a => ?_)) (fun a ha hso => ⟨fun _ hlt => absurd hlt (Nat.not_lt_zero _), h3 a ha hso⟩)))
          rw [decide_eq_false (Nat.not_lt_zero _)]; rfl
        | succ m2 ih2 =>
          intro i g hi fg h1 h2 h3
          have hiC : i < C := by omega
          refine zt_l e_264_65 ?_
          rw [(kG g fg).2.1, (kG g fg).2.2.2.2.1, show (i : Int) + 1 = ((i + 1 : Nat) : Int) by omega, zp_bm_b hx (show i < 8 by omega)]
          refine zt_c (by omega) (zt_t (by omega) ?_)
          by_cases hSi : S.1 i = true
          · rw [if_pos hSi]
            refine zt_t rfl (zt_I (s_266 (kG g fg) hB hx hSi hlC h1) ?_)
            rintro z g2 ⟨rfl, rfl⟩
            refine zt_c (by omega) (zt_c (by omega) (ih2 (i + 1) _ (by omega) (zq_F_tr fg (zq_F_wr (by unfold zf_Rr; omega))) (fun a ha => by rw [zq_wr_n (by decide)]; exact h1 a ha) (fun a ha hSa => ?_) (fun a ha hso hSa => ?_)))
            · by_cases hai : a = i
              · subst hai; exact zq_wr_e
              · rw [zq_wr_i (by omega)]; exact h2 a (by omega) hSa
            · rw [zq_wr_n (by decide), zq_wr_n (by decide)]
              exact h3 a ha hso hSa
          · rw [if_neg hSi]
            refine zt_f (by decide) (zt_c (by omega) (ih2 (i + 1) g (by omega) fg h1 (fun a ha hSa => ?_) h3))
            by_cases hai : a = i
            · exact absurd (hai ▸ hSa) hSi
            · exact h2 a (by omega) hSa
      exact points C 0 g (by omega) fg R.1 (fun a ha => by omega) R.2
  have offers : ∀ (m c : Nat) (g : zm_H) (x : Int) (w3 w4 : zm_V), c + m = C → zq_F zf_Rr h g → (∀ a : Nat, a < c → g 189 a = zp_oi (zp_ofo K lk Hd a)) → zp_bm x (fun a => decide (a < c) && (zp_ofo K lk Hd a).isSome) → zu (zr none 3 264 4 [zm_A 146, zm_I x, zm_I c, w3, w4] [] g) (fun g => zq_F zf_Rr h g ∧ zv_Rr g C (zp_ofo K lk Hd) (zp_fin K C lk Hd)) := by
    intro m
    induction m with
    | zero =>
      intro c g x w3 w4 hc fg hv hx
      obtain rfl : c = C := by omega
      refine zt_l e_264_4 ?_
      rw [(kG g fg).2.1, (kG g fg).2.2.2.2.1]
      refine zt_c (by omega) (zt_f (by omega) (rounds c 0 g x _ _ (by omega) fg hx ⟨hv, fun a ha hso hl => ?_⟩))
      have : (decide (a < c) && (zp_ofo K lk Hd a).isSome) = false := hl
      rw [hso, decide_eq_true ha] at this
      cases this
    | succ m ih =>
      intro c g x w3 w4 hc fg hv hx
      refine zt_l e_264_4 ?_
      rw [(kG g fg).2.1, (kG g fg).2.2.2.2.1, show (c : Int) + 1 = ((c + 1 : Nat) : Int) by omega]
      refine zt_c (by omega) (zt_t (by omega) (zt_I (s_265 (kG g fg) hB (kW g fg) hX.2.1 (by omega : c < C)) ?_))
      rintro z g2 ⟨rfl, rfl⟩
      have ew : zm_wr g2 189 (c : Int) (zp_oi (zp_ofo K lk Hd c)) 189 (c : Int) = zp_oi (zp_ofo K lk Hd c) := zq_wr_e
      rw [ew]
      have nxt : ∀ y : Int, zp_bm y (fun a => decide (a < c + 1) && (zp_ofo K lk Hd a).isSome) → zu (zr none 3 264 4 [zm_A 146, zm_I y, zm_I ((c + 1 : Nat) : Int), w3, w4] [] (zm_wr g2 189 (c : Int) (zp_oi (zp_ofo K lk Hd c)))) (fun g => zq_F zf_Rr h g ∧ zv_Rr g C (zp_ofo K lk Hd) (zp_fin K C lk Hd)) := by
        intro y hy
        refine ih (c + 1) _ y _ _ (by omega) (zq_F_tr fg (zq_F_wr (by unfold zf_Rr; omega))) (fun a ha => ?_) hy
        by_cases hac : a = c
        · subst hac; exact zq_wr_e
        · rw [zq_wr_i (by omega)]; exact hv a (by omega)
      cases hso : zp_ofo K lk Hd c with
      | none =>
        rw [hso] at nxt
        refine zt_c (by omega) (zt_c (by omega) (zt_t rfl (zt_c (by omega) (nxt _ ?_))))
        rw [zp_bm_k hx]
        refine zp_bm_e hx (fun a => ?_)
        by_cases hac : a = c
        · subst hac; rw [hso]; simp
        · by_cases hlt : a < c
          · rw [decide_eq_true hlt, decide_eq_true (by omega : a < c + 1)]
          · rw [decide_eq_false hlt, decide_eq_false (by omega : ¬ a < c + 1)]
      | some j =>
        rw [hso] at nxt
        refine zt_c (by omega) (zt_c (by omega) (zt_f (show ¬ (j : Int) = -1 by omega) (zt_c (by omega) (nxt _ ?_))))
        refine zp_bm_e (zp_bm_s hx (show c < 8 by omega)) (fun a => ?_)
        by_cases hac : a = c
        · subst hac; rw [hso]; simp
        · by_cases hlt : a < c
          · rw [decide_eq_true hlt, decide_eq_true (by omega : a < c + 1), decide_eq_false hac, Bool.or_false]
          · rw [decide_eq_false hlt, decide_eq_false (by omega : ¬ a < c + 1), decide_eq_false hac, Bool.or_false]
  refine zt_l e_264 (offers C 0 h 0 _ _ (by omega) zq_F_rf (fun a ha => by omega) (zp_bm_e zp_bm_0 (fun a => ?_)))
  rw [decide_eq_false (Nat.not_lt_zero _)]; rfl
theorem s_263 (hD : zv_D h b K L C wo sz re fe ru lk P Pu Hd hr dp) (hB : zv_B K L C wo sz re fe ru lk) (hX : zv_X K L C P Pu Hd hr dp) (y w : Int) : zi (zc 263 [zm_A 146, zm_I y, zm_I w] h) (fun z g => z = zp_q1 C y (zp_ring K C lk Hd w) ∧ zq_F zf_Ds h g) := by
  have hK8 := hB.1
  have hC8 := hB.2.2.1
  refine zt_l e_263 (zt_I (s_223 hD.1 y) ?_)
  rintro z g ⟨rfl, rfl⟩
  by_cases hy : 0 ≤ y ∧ y < C
  · rw [if_pos hy]
    obtain ⟨c, rfl⟩ := Int.eq_ofNat_of_zero_le hy.1
    have hc : c < C := by omega
    rw [zp_q1_y hc]
    unfold zp_ring
    refine zt_f (by decide) (zt_I (s_214 hD.1 hB hD.2.1 hX.2.1 hc) ?_)
    rintro z g ⟨rfl, rfl⟩
    refine zt_p (fun q => zi_e ⟨by rw [if_pos q], zq_F_rf⟩) (fun q => ?_)
    rw [if_neg q]
    have hso : (zp_ofo K lk Hd c).isSome = true := by
      cases ho : zp_ofo K lk Hd c with
      | none => exact absurd ((zp_ofo_hb hX.2.1 hK8 (by omega)).mpr ho) q
      | some j => rfl
    refine zt_I (s_175 w 0 2) ?_
    rintro z g ⟨rfl, rfl⟩
    by_cases hw : 0 ≤ w ∧ w ≤ 2
    · rw [if_pos hw]
      refine zt_f (by decide) (zt_V (s_264 hD hB hX) ?_)
      rintro g2 ⟨f2, R⟩
      have f3 : zq_F zf_Ds g g2 := zq_F_wk f2 (fun a i q => by unfold zf_Rr at q; unfold zf_Ds; omega)
      have hend : (zp_fin K C lk Hd).1 c = false := zp_rr_end (fun a q => by
        have : (decide (a < C) && (zp_ofo K lk Hd a).isSome) = true := q
        rw [Bool.and_eq_true, decide_eq_true_iff] at this
        exact this.1) c
      obtain ⟨r1, r3⟩ := R.2 c hc hso hend
      refine zt_p (fun c0 => ?_) (fun c0 => ?_)
      · rw [if_pos c0]; exact zt_c (by omega) (zi_e ⟨r3, f3⟩)
      rw [if_neg c0]
      refine zt_p (fun c1 => ?_) (fun c1 => ?_)
      · rw [if_pos c1]; exact zt_c (by omega) (zi_e ⟨R.1 c hc, f3⟩)
      rw [if_neg c1, if_pos (by omega)]
      exact zt_c (by omega) (zi_e ⟨r1, f3⟩)
    · rw [if_neg hw, if_neg (show ¬ w = 0 by omega), if_neg (show ¬ w = 1 by omega), if_neg (show ¬ w = 2 by omega)]
      exact zt_t rfl (zi_e ⟨rfl, zq_F_rf⟩)
  · rw [if_neg hy]
    exact zt_t rfl (zi_e ⟨(zp_q1_n hy).symm, zq_F_rf⟩)
end
