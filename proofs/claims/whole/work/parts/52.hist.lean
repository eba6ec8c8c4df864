/-! HISTORY of the class -/
def zp_ent (lc lk lh lo : Nat → Int) (j : Nat) : Int := ((lc j * 8 + lk j) * 100 + lh j) * 100 + lo j
def zv_L (h : zm_H) (U nx : Nat) (sl : Nat → Nat) (sP sU sH : Nat → Nat → Int) (sh sd lc lk lh lo : Nat → Int) : Prop :=
  h 44 5 = U ∧ h 44 3 = nx ∧ h 44 4 = sl U ∧ U ≤ 20 ∧ nx < 20 ∧
  (∀ i s : Nat, i < U → s = (nx + 20 - U + i) % 20 → zv_T h (48 + 4 * s) (sP i) (sU i) (sH i) ∧ h (48 + 4 * s) 0 = sh i ∧ h (48 + 4 * s) 1 = sd i ∧ h 46 s = sl i) ∧
  (∀ j : Nat, sl 0 ≤ j + 60 → j < sl U → ∀ q : Int, q = ((j % 3260 : Nat) : Int) → h 47 q = zp_ent lc lk lh lo j)
/-- how much is logged, act by act -/
def zv_Z (U d : Nat) (sl : Nat → Nat) (lc lk lh lo : Nat → Int) : Prop :=
  (∀ i j, i ≤ j → j < U → sl i ≤ sl j ∧ sl j ≤ sl i + 160 * (j - i)) ∧ (∀ i, i < U → sl i ≤ sl U ∧ sl U ≤ sl i + 160 * (U - 1 - i) + d) ∧ d ≤ 160 ∧ sl U ≤ 90000 ∧ ∀ j, (0 ≤ lc j ∧ lc j < 8) ∧ (0 ≤ lk j ∧ lk j < 8) ∧ (0 ≤ lh j ∧ lh j ≤ 99) ∧ 0 ≤ lo j ∧ lo j ≤ 99
def zp_sft (U : Nat) : Nat := if U < 20 then 0 else 1
def zp_sl1 (U : Nat) (sl : Nat → Nat) : Nat → Nat := fun i => if i + zp_sft U ≤ U then sl (i + zp_sft U) else sl U
def zp_sx {α : Type} (U : Nat) (s : Nat → α) (x : α) : Nat → α := fun i => if i + zp_sft U < U then s (i + zp_sft U) else x
def zf_Hi (a : Nat) (i : Int) : Prop := (a = 44 ∧ (i = 3 ∨ i = 5)) ∨ a = 46 ∨ (48 ≤ a ∧ a ≤ 127)
theorem zp_ent_b {lc lk lh lo : Nat → Int} {j : Nat} (h : (0 ≤ lc j ∧ lc j < 8) ∧ (0 ≤ lk j ∧ lk j < 8) ∧ (0 ≤ lh j ∧ lh j ≤ 99) ∧ 0 ≤ lo j ∧ lo j ≤ 99) : 0 ≤ zp_ent lc lk lh lo j ∧ zp_ent lc lk lh lo j < 640000 ∧ zp_ent lc lk lh lo j / 10000 / 8 = lc j ∧ zp_ent lc lk lh lo j / 10000 % 8 = lk j ∧ zp_ent lc lk lh lo j / 100 % 100 = lh j ∧ zp_ent lc lk lh lo j % 100 = lo j := by
  unfold zp_ent
  refine ⟨by omega, by omega, by omega, by omega, by omega, by omega⟩
theorem zf_T_s : ∀ s : Nat, s < 20 → zf_T (48 + 4 * s) ∧ zm_fr 45 s = 48 + 4 * s := by
  intro s hs
  have h : (List.range 20).all (fun s => decide ((48 + 4 * s) ∈ [32, 36, 40, 48, 52, 56, 60, 64, 68, 72, 76, 80, 84, 88, 92, 96, 100, 104, 108, 112, 116, 120, 124] ∧ zm_fr 45 s = 48 + 4 * s)) = true := by decide +kernel
  have q := of_decide_eq_true (List.all_eq_true.mp h s (List.mem_range.mpr hs))
  exact q
theorem zf_T_32 : zf_T 32 := by unfold zf_T; simp
theorem zf_T_36 : zf_T 36 := by unfold zf_T; simp
theorem zf_T_40 : zf_T 40 := by unfold zf_T; simp
section
variable {h : zm_H} {U nx d : Nat} {sl : Nat → Nat} {sP sU sH : Nat → Nat → Int} {sh sd lc lk lh lo : Nat → Int} {P Pu Hd : Nat → Int} {hr dp : Int}
theorem zv_T.kq {g : zm_H} {o : Nat} (hT : zv_T h o P Pu Hd) (h1 : g (o + 1) = h (o + 1)) (h2 : g (o + 2) = h (o + 2)) (h3 : g (o + 3) = h (o + 3)) : zv_T g o P Pu Hd := by
  obtain ⟨ho, p1, p2, p3⟩ := hT
  exact ⟨ho, by rw [h1]; exact p1, by rw [h2]; exact p2, by rw [h3]; exact p3⟩
theorem s_68 (hL : zv_L h U nx sl sP sU sH sh sd lc lk lh lo) : zi (zc 68 [zm_A 44] h) (fun z g => z = ((min 60 (sl U) : Nat) : Int) ∧ g = h) := by
  refine zt_l e_68 (zi_e ⟨?_, rfl⟩)
  rw [hL.2.2.1]; omega
theorem s_67 : zu (zc 67 [zm_A 44] h) (fun g => zq_F (fun a i => a = 44 ∧ 3 ≤ i ∧ i ≤ 5) h g ∧ zv_L g 0 0 (fun _ => 0) sP sU sH sh sd lc lk lh lo) := by
  refine zt_l e_67 (zu_e ⟨zq_F_tr (zq_F_wr ⟨rfl, by decide, by decide⟩) (zq_F_tr (zq_F_wr ⟨rfl, by decide, by decide⟩) (zq_F_wr ⟨rfl, by decide, by decide⟩)), ?_, ?_, ?_, by decide, by decide, fun i s hi => absurd hi (Nat.not_lt_zero _), fun j _ hj => absurd hj (Nat.not_lt_zero _)⟩)
  · exact zq_wr_e
  · rw [zq_wr_i (by decide), zq_wr_i (by decide)]; exact zq_wr_e
  · rw [zq_wr_i (by decide)]; exact zq_wr_e
theorem s_69 (hL : zv_L h U nx sl sP sU sH sh sd lc lk lh lo) (hT : zv_T h 32 P Pu Hd) (h0 : h 32 0 = hr) (h1 : h 32 1 = dp) (hZ : zv_Z U d sl lc lk lh lo) : zu (zc 69 [zm_A 44, zm_A 32] h) (fun g => zq_F zf_Hi h g ∧ zv_L g (U + 1 - zp_sft U) ((nx + 1) % 20) (zp_sl1 U sl) (zp_sx U sP P) (zp_sx U sU Pu) (zp_sx U sH Hd) (zp_sx U sh hr) (zp_sx U sd dp) lc lk lh lo) := by
  obtain ⟨L1, L2, L3, L4, L5, L6, L7⟩ := hL
  obtain ⟨t1, t2⟩ := zf_T_s nx L5
  have hx3 : h 44 3 = (nx : Int) := L2
  refine zt_l (e_69 (b := 48 + 4 * nx) t1 zf_T_32) (zt_c ⟨by rw [hx3]; omega, by rw [hx3]; exact t2⟩ (zt_V (s_152 t1 hT (by omega)) ?_))
  rintro g ⟨f1, T1, c0, c1⟩
  have k44 : ∀ i, g 44 i = h 44 i := fun i => f1 44 i (by unfold zf_To; omega)
  have k46 : ∀ i, g 46 i = h 46 i := fun i => f1 46 i (by unfold zf_To; omega)
  rw [k44, k44, hx3, L3]
  have w1 : zm_wr g 46 (nx : Int) (sl U : Int) 44 3 = (nx : Int) := by rw [zq_wr_n (by decide), k44]; exact hx3
  rw [w1]
  have em : ((nx : Int) + 1).tmod 20 = (((nx + 1) % 20 : Nat) : Int) := by rw [zq_tmod (by omega)]; omega
  have ed : ((nx : Int) + 1).tdiv 20 = ((nx : Int) + 1) / 20 := zq_tdiv (by omega)
  rw [em, ed]
  have w2 : zm_wr (zm_wr g 46 (nx : Int) (sl U : Int)) 44 3 (((nx + 1) % 20 : Nat) : Int) 44 5 = (U : Int) := by rw [zq_wr_i (by decide), zq_wr_n (by decide), k44]; exact L1
  rw [w2]
  refine zt_c (by omega) (zt_c (by omega) (zt_c (by omega) ?_))
  -- what holds of a heap that has these cells
  have fin : ∀ G : zm_H, zq_F (fun a i => a = 44 ∧ i = 5) (zm_wr (zm_wr g 46 (nx : Int) (sl U : Int)) 44 3 (((nx + 1) % 20 : Nat) : Int)) G → G 44 5 = ((U + 1 - zp_sft U : Nat) : Int) → zq_F zf_Hi h G ∧ zv_L G (U + 1 - zp_sft U) ((nx + 1) % 20) (zp_sl1 U sl) (zp_sx U sP P) (zp_sx U sU Pu) (zp_sx U sH Hd) (zp_sx U sh hr) (zp_sx U sd dp) lc lk lh lo := by
    intro G hG hU
    have F1 : zq_F zf_Hi h G := zq_F_tr (zq_F_wk f1 (fun a i q => by unfold zf_To at q; unfold zf_Hi; omega)) (zq_F_tr (zq_F_wr (by unfold zf_Hi; omega)) (zq_F_tr (zq_F_wr (by unfold zf_Hi; omega)) (zq_F_wk hG (fun a i q => by unfold zf_Hi; omega))))
    have Gg : ∀ a : Nat, a ≠ 44 → a ≠ 46 → G a = g a := fun a ha hb => by
      funext i; rw [hG a i (fun q => ha q.1), zq_wr_n ha, zq_wr_n hb]
    have hsf : zp_sft U = 0 ∧ U < 20 ∨ zp_sft U = 1 ∧ U = 20 := by unfold zp_sft; split <;> omega
    refine ⟨F1, hU, ?_, ?_, by omega, by omega, fun i s hi hs => ?_, fun j hj1 hj2 q hq => ?_⟩
    · rw [hG 44 3 (by omega), zq_wr_e]
    · have e : zp_sl1 U sl (U + 1 - zp_sft U) = sl U := by
        unfold zp_sl1
        rcases hsf with ⟨e1, e2⟩ | ⟨e1, e2⟩
        · rw [if_neg (by omega)]
        · rw [if_neg (by omega)]
      rw [e, hG 44 4 (by omega), zq_wr_i (by decide), zq_wr_n (by decide), k44]; exact L3
    · by_cases hlast : i + zp_sft U < U
      · -- an older one
        have hs20 : s < 20 := by omega
        have hse : s = (nx + 20 - U + (i + zp_sft U)) % 20 := by rcases hsf with ⟨e1, e2⟩ | ⟨e1, e2⟩ <;> rw [e1] at hs ⊢ <;> omega
        have hsn : s ≠ nx := by omega
        obtain ⟨q1, q2, q3, q4⟩ := L6 (i + zp_sft U) s hlast hse
        have kp : ∀ k : Nat, k < 4 → G (48 + 4 * s + k) = h (48 + 4 * s + k) := fun k hk => by
          rw [Gg _ (by omega) (by omega)]
          funext i; exact f1 _ i (by unfold zf_To; omega)
        have kp0 := kp 0 (by omega)
        rw [Nat.add_zero] at kp0
        unfold zp_sx zp_sl1
        rw [if_pos hlast, if_pos hlast, if_pos hlast, if_pos hlast, if_pos hlast, if_pos (by omega)]
        refine ⟨q1.kq (kp 1 (by omega)) (kp 2 (by omega)) (kp 3 (by omega)), by rw [kp0]; exact q2, by rw [kp0]; exact q3, ?_⟩
        rw [hG 46 s (by omega), zq_wr_n (by decide), zq_wr_i (by omega), k46]; exact q4
      · have hse : s = nx := by rcases hsf with ⟨e1, e2⟩ | ⟨e1, e2⟩ <;> rw [e1] at hs hi hlast <;> omega
        subst hse
        have Gg0 := Gg (48 + 4 * s) (by omega) (by omega)
        unfold zp_sx zp_sl1
        rw [if_neg hlast, if_neg hlast, if_neg hlast, if_neg hlast, if_neg hlast]
        refine ⟨T1.kq (Gg _ (by omega) (by omega)) (Gg _ (by omega) (by omega)) (Gg _ (by omega) (by omega)), by rw [Gg0, c0]; exact h0, by rw [Gg0, c1]; exact h1, ?_⟩
        rw [hG 46 s (by omega), zq_wr_n (by decide), zq_wr_e]
        have : (if i + zp_sft U ≤ U then sl (i + zp_sft U) else sl U) = sl U := by
          rcases hsf with ⟨e1, e2⟩ | ⟨e1, e2⟩
          · rw [e1] at hi hlast ⊢
            rw [if_pos (by omega), show i + 0 = U by omega]
          · rw [e1] at hi hlast ⊢
            rw [if_pos (by omega), show i + 1 = U by omega]
        rw [this]
    · have e : zp_sl1 U sl (U + 1 - zp_sft U) = sl U := by
        unfold zp_sl1
        rcases hsf with ⟨e1, e2⟩ | ⟨e1, e2⟩
        · rw [if_neg (by omega)]
        · rw [if_neg (by omega)]
      rw [e] at hj2
      have e0 : sl 0 ≤ zp_sl1 U sl 0 := by
        unfold zp_sl1
        rcases hsf with ⟨e1, e2⟩ | ⟨e1, e2⟩
        · rw [e1, if_pos (by omega)]; exact Nat.le_refl _
        · rw [e1, if_pos (by omega)]
          exact (hZ.1 0 1 (by omega) (by omega)).1
      rw [hG 47 q (by omega), zq_wr_n (by decide), zq_wr_n (by decide), f1 47 q (by unfold zf_To; omega)]
      exact L7 j (by omega) hj2 q hq
  refine zt_p (fun hq => zt_c (by omega) (zu_e (fin _ (zq_F_wr ⟨rfl, rfl⟩) ?_))) (fun hq => zu_e (fin _ zq_F_rf ?_))
  · rw [zq_wr_e]; unfold zp_sft; rw [if_pos (by omega)]; omega
  · rw [w2]; unfold zp_sft; rw [if_neg (by omega)]; omega
def zf_Hr (a : Nat) (i : Int) : Prop := (a = 44 ∧ 3 ≤ i ∧ i ≤ 5) ∨ zf_To 32 a i
theorem s_71 (hL : zv_L h U nx sl sP sU sH sh sd lc lk lh lo) (hU : 0 < U) (hZ : zv_Z U d sl lc lk lh lo) : zu (zc 71 [zm_A 44, zm_A 32] h) (fun g => zq_F zf_Hr h g ∧ zv_L g (U - 1) ((nx + 19) % 20) sl sP sU sH sh sd lc lk lh lo ∧ zv_T g 32 (sP (U - 1)) (sU (U - 1)) (sH (U - 1)) ∧ g 32 0 = sh (U - 1) ∧ g 32 1 = sd (U - 1)) := by
  obtain ⟨L1, L2, L3, L4, L5, L6, L7⟩ := hL
  have hx3 : h 44 3 = (nx : Int) := L2
  have hn20 : (nx + 19) % 20 < 20 := by omega
  obtain ⟨t1, t2⟩ := zf_T_s ((nx + 19) % 20) hn20
  refine zt_l (e_71 (b := 48 + 4 * ((nx + 19) % 20)) t1 zf_T_32) ?_
  rw [hx3]
  have em : ((nx : Int) + 20 - 1).tmod 20 = (((nx + 19) % 20 : Nat) : Int) := by rw [zq_tmod (by omega)]; omega
  have ed : ((nx : Int) + 20 - 1).tdiv 20 = ((nx : Int) + 20 - 1) / 20 := zq_tdiv (by omega)
  rw [em, ed]
  have w1 : zm_wr h 44 3 (((nx + 19) % 20 : Nat) : Int) 44 5 = (U : Int) := by rw [zq_wr_i (by decide)]; exact L1
  rw [w1]
  have w2 : zm_wr (zm_wr h 44 3 (((nx + 19) % 20 : Nat) : Int)) 44 5 ((U : Int) - 1) 44 3 = (((nx + 19) % 20 : Nat) : Int) := by rw [zq_wr_i (by decide), zq_wr_e]
  rw [w2]
  obtain ⟨q1, q2, q3, q4⟩ := L6 (U - 1) ((nx + 19) % 20) (by omega) (by omega)
  have hne : ∀ a : Nat, a ≠ 44 → zm_wr (zm_wr h 44 3 (((nx + 19) % 20 : Nat) : Int)) 44 5 ((U : Int) - 1) a = h a := fun a ha => by funext i; rw [zq_wr_n ha, zq_wr_n ha]
  refine zt_c (by omega) (zt_c (by omega) (zt_c (by omega) (zt_c (by omega) (zt_c ⟨by omega, t2⟩ ?_))))
  refine zt_V (s_152 zf_T_32 (q1.kq (hne _ (by omega)) (hne _ (by omega)) (hne _ (by omega))) (by omega)) ?_
  rintro g ⟨f1, T1, c0, c1⟩
  rw [hne _ (by omega)] at c0 c1
  have g3 : g 44 3 = (((nx + 19) % 20 : Nat) : Int) := by rw [f1 44 3 (by unfold zf_To; omega)]; exact w2
  have g46 : ∀ i, g 46 i = h 46 i := fun i => by rw [f1 46 i (by unfold zf_To; omega), hne 46 (by omega)]
  rw [g3, g46, q4]
  refine zt_c (by omega) (zu_e ⟨?_, ⟨?_, ?_, zq_wr_e, by omega, hn20, fun i s hi hs => ?_, fun j hj1 hj2 q hq => ?_⟩, T1.kq ?_ ?_ ?_, ?_, ?_⟩)
  · refine zq_F_tr (zq_F_tr (zq_F_wr ?_) (zq_F_tr (zq_F_wr ?_) (zq_F_wk f1 (fun a i q => Or.inr q)))) (zq_F_wr ?_)
    · exact Or.inl ⟨rfl, by decide, by decide⟩
    · exact Or.inl ⟨rfl, by decide, by decide⟩
    · exact Or.inl ⟨rfl, by decide, by decide⟩
  · rw [zq_wr_i (by decide), f1 44 5 (by unfold zf_To; omega), zq_wr_e]; omega
  · rw [zq_wr_i (by decide)]; exact g3
  · obtain ⟨r1, r2, r3, r4⟩ := L6 i s (by omega) (by omega)
    have kp : ∀ k : Nat, k < 4 → zm_wr g 44 4 (sl (U - 1) : Int) (48 + 4 * s + k) = h (48 + 4 * s + k) := fun k hk => by
      funext j; rw [zq_wr_n (by omega), f1 _ j (by unfold zf_To; omega), hne _ (by omega)]
    have kp0 := kp 0 (by omega)
    rw [Nat.add_zero] at kp0
    refine ⟨r1.kq (kp 1 (by omega)) (kp 2 (by omega)) (kp 3 (by omega)), by rw [kp0]; exact r2, by rw [kp0]; exact r3, ?_⟩
    rw [zq_wr_n (by decide), g46]; exact r4
  · rw [zq_wr_n (by decide), f1 47 q (by unfold zf_To; omega), hne 47 (by omega)]
    have := hZ.2.1 (U - 1) (by omega)
    exact L7 j hj1 (by omega) q hq
  · funext i; exact zq_wr_n (by decide)
  · funext i; exact zq_wr_n (by decide)
  · funext i; exact zq_wr_n (by decide)
  · rw [zq_wr_n (by decide), c0]; exact q2
  · rw [zq_wr_n (by decide), c1]; exact q3
def zp_up1 (sl : Nat → Nat) (U : Nat) : Nat → Nat := fun i => if i = U then sl U + 1 else sl i
def zp_set (f : Nat → Int) (n : Nat) (v : Int) : Nat → Int := fun j => if j = n then v else f j
theorem s_70 (hL : zv_L h U nx sl sP sU sH sh sd lc lk lh lo) (hU : 0 < U) (hZ : zv_Z U d sl lc lk lh lo) (hd : d < 160) {c k hh co : Int} (hc : 0 ≤ c ∧ c < 8) (hk : 0 ≤ k ∧ k < 8) (hhh : 0 ≤ hh ∧ hh ≤ 99) (hco : 0 ≤ co ∧ co ≤ 99) : zu (zc 70 [zm_A 44, zm_I c, zm_I k, zm_I hh, zm_I co] h) (fun g => zq_F (fun a i => a = 47 ∨ (a = 44 ∧ i = 4)) h g ∧ zv_L g U nx (zp_up1 sl U) sP sU sH sh sd (zp_set lc (sl U) c) (zp_set lk (sl U) k) (zp_set lh (sl U) hh) (zp_set lo (sl U) co)) := by
  obtain ⟨L1, L2, L3, L4, L5, L6, L7⟩ := hL
  obtain ⟨Z1, Z2, Z3, Z4, Z5⟩ := hZ
  refine zt_l e_70 ?_
  rw [L3]
  have em : ((sl U : Nat) : Int).tmod 3260 = ((sl U % 3260 : Nat) : Int) := by rw [zq_tmod (by omega)]; omega
  have ed : ((sl U : Nat) : Int).tdiv 3260 = ((sl U : Nat) : Int) / 3260 := zq_tdiv (by omega)
  rw [em, ed]
  have w1 : ∀ v, zm_wr h 47 ((sl U % 3260 : Nat) : Int) v 44 4 = (sl U : Int) := fun v => by rw [zq_wr_n (by decide)]; exact L3
  rw [w1]
  refine zt_c (by omega) (zt_c (by omega) (zt_c (by omega) (zt_c (by omega) (zt_c (by omega) (zt_c (by omega) (zt_c (by omega) (zt_c (by omega) (zt_c (by omega) (zu_e ⟨zq_F_tr (zq_F_wr (Or.inl rfl)) (zq_F_wr (Or.inr ⟨rfl, rfl⟩)), ?_, ?_, ?_, L4, L5, fun i s hi hs => ?_, fun j hj1 hj2 q hq => ?_⟩)))))))))
  · rw [zq_wr_i (by decide), zq_wr_n (by decide)]; exact L1
  · rw [zq_wr_i (by decide), zq_wr_n (by decide)]; exact L2
  · rw [zq_wr_e]; unfold zp_up1; rw [if_pos rfl]; omega
  · obtain ⟨r1, r2, r3, r4⟩ := L6 i s hi hs
    have kp : ∀ (v : Int) (a : Nat), a ≠ 44 → a ≠ 47 → zm_wr (zm_wr h 47 ((sl U % 3260 : Nat) : Int) v) 44 4 ((sl U : Int) + 1) a = h a := fun v a ha hb => by
      funext j; rw [zq_wr_n ha, zq_wr_n hb]
    refine ⟨r1.kq (kp _ _ (by omega) (by omega)) (kp _ _ (by omega) (by omega)) (kp _ _ (by omega) (by omega)), by rw [kp _ _ (by omega) (by omega)]; exact r2, by rw [kp _ _ (by omega) (by omega)]; exact r3, ?_⟩
    rw [kp _ _ (by omega) (by omega)]
    unfold zp_up1
    rw [if_neg (by omega)]; exact r4
  · have e0 : zp_up1 sl U 0 = sl 0 := by unfold zp_up1; rw [if_neg (by omega)]
    have eU : zp_up1 sl U U = sl U + 1 := by unfold zp_up1; rw [if_pos rfl]
    rw [e0] at hj1
    rw [eU] at hj2
    have z0 := Z2 0 (by omega)
    by_cases hjl : j = sl U
    · subst hjl
      rw [zq_wr_n (by decide), hq, zq_wr_e]
      unfold zp_ent zp_set
      rw [if_pos rfl, if_pos rfl, if_pos rfl, if_pos rfl]
    · have := L7 j hj1 (by omega) q hq
      rw [zq_wr_n (by decide), zq_wr_i (by omega), this]
      unfold zp_ent zp_set
      rw [if_neg hjl, if_neg hjl, if_neg hjl, if_neg hjl]
def zp_kp (f : Nat → Int) (n : Nat) : Nat → Int := fun k => f (n - min 60 n + k)
def zp_kept (n : Nat) (lc lk lh lo : Nat → Int) (x y : Int) : Int := if 0 ≤ x ∧ x < ((min 60 n : Nat) : Int) then (if y = 0 then zp_kp lc n x.toNat else if y = 1 then zp_kp lk n x.toNat else if y = 2 then zp_kp lh n x.toNat else if y = 3 then zp_kp lo n x.toNat else -1) else -1
theorem s_72 (hL : zv_L h U nx sl sP sU sH sh sd lc lk lh lo) (hZ : zv_Z U d sl lc lk lh lo) (x y : Int) : zi (zc 72 [zm_A 44, zm_I x, zm_I y] h) (fun z g => z = zp_kept (sl U) lc lk lh lo x y ∧ g = h) := by
  refine zt_l e_72 (zt_p (fun hq => zi_e ⟨by unfold zp_kept; rw [if_neg (by omega)], rfl⟩) (fun hq => zt_I (s_68 hL) ?_))
  rintro z g ⟨rfl, rfl⟩
  refine zt_p (fun hq2 => ?_) (fun hq2 => zi_e ⟨by unfold zp_kept; rw [if_neg (by omega)], rfl⟩)
  obtain ⟨k, rfl⟩ := Int.eq_ofNat_of_zero_le (show 0 ≤ x by omega)
  refine zt_I (s_68 hL) ?_
  rintro z g ⟨rfl, rfl⟩
  obtain ⟨L1, L2, L3, L4, L5, L6, L7⟩ := hL
  obtain ⟨Z1, Z2, Z3, Z4, Z5⟩ := hZ
  rw [L3]
  have e1 : ((sl U : Nat) : Int) - ((min 60 (sl U) : Nat) : Int) + (k : Int) = ((sl U - min 60 (sl U) + k : Nat) : Int) := by omega
  rw [e1]
  generalize hj : sl U - min 60 (sl U) + k = j
  have em : ((j : Nat) : Int).tmod 3260 = ((j % 3260 : Nat) : Int) := by rw [zq_tmod (by omega)]; omega
  have ed : ((j : Nat) : Int).tdiv 3260 = ((j : Nat) : Int) / 3260 := zq_tdiv (by omega)
  rw [em, ed]
  have hs0 : sl 0 ≤ sl U := by
    rcases Nat.eq_zero_or_pos U with h0 | h0
    · rw [h0]; exact Nat.le_refl _
    · exact (Z2 0 h0).1
  have hen := L7 j (by omega) (by omega) _ rfl
  rw [hen]
  have hb := zp_ent_b (Z5 j)
  generalize zp_ent lc lk lh lo j = e at hb
  obtain ⟨b1, b2, b3, b4, b5, b6⟩ := hb
  have hv : ∀ w : Int, zp_kept (sl U) lc lk lh lo k w = (if w = 0 then lc j else if w = 1 then lk j else if w = 2 then lh j else if w = 3 then lo j else -1) := fun w => by
    unfold zp_kept zp_kp
    rw [if_pos ⟨by omega, hq2⟩, show (k : Int).toNat = k from rfl, hj]
  rw [hv]
  have d1 : e.tdiv 10000 = e / 10000 := zq_tdiv b1
  have d2 : e.tdiv 100 = e / 100 := zq_tdiv b1
  have d3 : e.tmod 100 = e % 100 := zq_tmod b1
  rw [d1, d2, d3]
  have d4 : (e / 10000).tdiv 8 = e / 10000 / 8 := zq_tdiv (by omega)
  have d5 : (e / 10000).tmod 8 = e / 10000 % 8 := zq_tmod (by omega)
  have d6 : (e / 100).tmod 100 = e / 100 % 100 := zq_tmod (by omega)
  have d7 : (e / 100).tdiv 100 = e / 100 / 100 := zq_tdiv (by omega)
  rw [d4, d5, d6, d7]
  refine zt_c (by omega) (zt_c (by omega) (zt_c (by omega) (zt_c (by omega) ?_)))
  refine zt_p (fun c => ?_) (fun c => ?_)
  · rw [if_pos c]
    exact zt_c (by omega) (zt_c (by omega) (zi_e ⟨b3, rfl⟩))
  rw [if_neg c]
  refine zt_p (fun c => ?_) (fun c => ?_)
  · rw [if_pos c]
    exact zt_c (by omega) (zt_c (by omega) (zi_e ⟨b4, rfl⟩))
  rw [if_neg c]
  refine zt_p (fun c => ?_) (fun c => ?_)
  · rw [if_pos c]
    exact zt_c (by omega) (zt_c (by omega) (zi_e ⟨b5, rfl⟩))
  rw [if_neg c]
  refine zt_p (fun c => ?_) (fun c => ?_)
  · rw [if_pos c]
    exact zt_c (by omega) (zi_e ⟨b6, rfl⟩)
  rw [if_neg c]
  exact zi_e ⟨rfl, rfl⟩
end
