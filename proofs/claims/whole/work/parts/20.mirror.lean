/-! MIRRORS 0 (printed by wip/gen/gen_mirror.py) -/
-- BranTub.feed
set_option maxRecDepth 20000 in
theorem e_1 {h : zm_H} {x1 : Int} {x2 : Int} {x3 : Int} {x4 : Int} {x5 : Int} : zl (zm_ck (zm_i32 ((h 5 1) + 20)) (if ((h 5 1) + 20) ≤ 1600 then (zk_V (zc 141 [zm_A 5, zm_I x1] h) (fun h1 => zk_V (zc 141 [zm_A 5, zm_I x2] h1) (fun h2 => zk_V (zc 141 [zm_A 5, zm_I x3] h2) (fun h3 => zk_V (zc 141 [zm_A 5, zm_I x4] h3) (fun h4 => zk_V (zc 141 [zm_A 5, zm_I x5] h4) (fun h5 => some (zm_I (h5 5 1), h5))))))) else (zk_I (zc 2 [zm_A 4, zm_I 0] h) (fun v6 h7 => some (zm_I v6, h7))))) (zc 1 [zm_A 4, zm_I x1, zm_I x2, zm_I x3, zm_I x4, zm_I x5] h) := by
  rw [zc_eq (loc := [zm_A 4, zm_I x1, zm_I x2, zm_I x3, zm_I x4, zm_I x5]) (rk_1 _) rfl]
  refine zl_tr (r_aload_n d_1_0 rfl) ?_
  refine zl_tr (r_getR d_1_1 ow_1 f_0_10 la_4 (by decide) fr_4_0) ?_
  refine zl_tr (r_getI (kk := 1) d_1_4 ow_1 f_0_108 la_5 (by decide) rfl) ?_
  refine zl_tr (r_bipush d_1_7 (by decide)) ?_
  refine zl_tr (r_iadd d_1_9) (zl_ck ?_)
  refine zl_tr (r_sipush d_1_10 (by decide)) ?_
  refine zl_tr (r_icmp_le (tgt := 22) d_1_13 (by decide)) (zl_if ?_ ?_)
  · skip
    refine zl_tr (r_aload_n d_1_22 rfl) ?_
    refine zl_tr (r_getR d_1_23 ow_1 f_0_10 la_4 (by decide) fr_4_0) ?_
    refine zl_tr (r_iload_n d_1_26 rfl) ?_
    refine zl_tr (r_VV [zm_A 5, zm_I x1] d_1_27 ow_1 cal_0_115 na_141 rfl rfl (Nat.le_of_ble_eq_true rfl) (by rw [rk_141]; decide) (zr_rcv la_5 ow_141) (zr_im mx_141 rfl (Nat.le_of_ble_eq_true rfl)) rt_141) (zl_V (fun h1 => ?_))
    refine zl_tr (r_aload_n d_1_30 rfl) ?_
    refine zl_tr (r_getR d_1_31 ow_1 f_0_10 la_4 (by decide) fr_4_0) ?_
    refine zl_tr (r_iload_n d_1_34 rfl) ?_
    refine zl_tr (r_VV [zm_A 5, zm_I x2] d_1_35 ow_1 cal_0_115 na_141 rfl rfl (Nat.le_of_ble_eq_true rfl) (by rw [rk_141]; decide) (zr_rcv la_5 ow_141) (zr_im mx_141 rfl (Nat.le_of_ble_eq_true rfl)) rt_141) (zl_V (fun h2 => ?_))
    refine zl_tr (r_aload_n d_1_38 rfl) ?_
    refine zl_tr (r_getR d_1_39 ow_1 f_0_10 la_4 (by decide) fr_4_0) ?_
    refine zl_tr (r_iload_n d_1_42 rfl) ?_
    refine zl_tr (r_VV [zm_A 5, zm_I x3] d_1_43 ow_1 cal_0_115 na_141 rfl rfl (Nat.le_of_ble_eq_true rfl) (by rw [rk_141]; decide) (zr_rcv la_5 ow_141) (zr_im mx_141 rfl (Nat.le_of_ble_eq_true rfl)) rt_141) (zl_V (fun h3 => ?_))
    refine zl_tr (r_aload_n d_1_46 rfl) ?_
    refine zl_tr (r_getR d_1_47 ow_1 f_0_10 la_4 (by decide) fr_4_0) ?_
    refine zl_tr (r_iload d_1_50 rfl) ?_
    refine zl_tr (r_VV [zm_A 5, zm_I x4] d_1_52 ow_1 cal_0_115 na_141 rfl rfl (Nat.le_of_ble_eq_true rfl) (by rw [rk_141]; decide) (zr_rcv la_5 ow_141) (zr_im mx_141 rfl (Nat.le_of_ble_eq_true rfl)) rt_141) (zl_V (fun h4 => ?_))
    refine zl_tr (r_aload_n d_1_55 rfl) ?_
    refine zl_tr (r_getR d_1_56 ow_1 f_0_10 la_4 (by decide) fr_4_0) ?_
    refine zl_tr (r_iload d_1_59 rfl) ?_
    refine zl_tr (r_VV [zm_A 5, zm_I x5] d_1_61 ow_1 cal_0_115 na_141 rfl rfl (Nat.le_of_ble_eq_true rfl) (by rw [rk_141]; decide) (zr_rcv la_5 ow_141) (zr_im mx_141 rfl (Nat.le_of_ble_eq_true rfl)) rt_141) (zl_V (fun h5 => ?_))
    refine zl_tr (r_aload_n d_1_64 rfl) ?_
    refine zl_tr (r_getR d_1_65 ow_1 f_0_10 la_4 (by decide) fr_4_0) ?_
    refine zl_tr (r_getI (kk := 1) d_1_68 ow_1 f_0_108 la_5 (by decide) rfl) ?_
    exact r_iret d_1_71 rt_1
  · skip
    refine zl_tr (r_aload_n d_1_16 rfl) ?_
    refine zl_tr (r_iconst d_1_17 (by decide)) ?_
    refine zl_tr (r_VI [zm_A 4, zm_I 0] d_1_18 ow_1 cal_0_111 na_2 rfl rfl (Nat.le_of_ble_eq_true rfl) (by rw [rk_2]; decide) (zr_rcv la_4 ow_2) (zr_im mx_2 rfl (Nat.le_of_ble_eq_true rfl)) (by rw [rt_2]; decide)) (zl_I (fun v6 h7 => ?_))
    exact r_iret d_1_21 rt_1
-- BranTub.refuse
set_option maxRecDepth 20000 in
theorem e_2 {h : zm_H} {x1 : Int} : zl (zm_ck (0 ≤ x1 ∧ x1 < ((6 : Nat) : Int)) (zm_ck (zm_i32 ((h 145 x1) + 1)) (zm_ck (0 ≤ x1 ∧ x1 < ((6 : Nat) : Int)) (some (zm_I (-1), (zm_wr h 145 x1 ((h 145 x1) + 1))))))) (zc 2 [zm_A 4, zm_I x1] h) := by
  rw [zc_eq (loc := [zm_A 4, zm_I x1]) (rk_2 _) rfl]
  refine zl_tr (r_aload_n d_2_0 rfl) ?_
  refine zl_tr (r_getR d_2_1 ow_2 f_0_97 la_4 (by decide) fr_4_15) ?_
  refine zl_tr (r_iload_n d_2_4 rfl) ?_
  refine zl_tr (r_dup2 d_2_5 ⟨rfl, rfl⟩) ?_
  refine zl_tr (r_iaload d_2_6 la_145) (zl_ck ?_)
  refine zl_tr (r_iconst d_2_7 (by decide)) ?_
  refine zl_tr (r_iadd d_2_8) (zl_ck ?_)
  refine zl_tr (r_iastore d_2_9 la_145) (zl_ck ?_)
  refine zl_tr (r_iconst d_2_10 (by decide)) ?_
  exact r_iret d_2_11 rt_2
-- BranTub.end
set_option maxRecDepth 20000 in
theorem e_3 {h : zm_H} {x1 : Int} : zl (if x1 < 0 then (zk_I (zc 4 [zm_A 4, zm_I 0] h) (fun v1 h2 => zm_ck (zm_bit v1) (some (zm_I v1, h2)))) else (if x1 ≤ (h 5 1) then (zm_ck (zm_bit 1) (some (zm_I 1, (zm_wr h 5 1 x1)))) else (zk_I (zc 4 [zm_A 4, zm_I 0] h) (fun v3 h4 => zm_ck (zm_bit v3) (some (zm_I v3, h4)))))) (zc 3 [zm_A 4, zm_I x1] h) := by
  rw [zc_eq (loc := [zm_A 4, zm_I x1]) (rk_3 _) rfl]
  refine zl_tr (r_iload_n d_3_0 rfl) ?_
  refine zl_tr (r_if_lt (tgt := 15) d_3_1 (by decide)) (zl_if ?_ ?_)
  · skip
    refine zl_tr (r_aload_n d_3_15 rfl) ?_
    refine zl_tr (r_iconst d_3_16 (by decide)) ?_
    refine zl_tr (r_VI [zm_A 4, zm_I 0] d_3_17 ow_3 cal_0_119 na_4 rfl rfl (Nat.le_of_ble_eq_true rfl) (by rw [rk_4]; decide) (zr_rcv la_4 ow_4) (zr_im mx_4 rfl (Nat.le_of_ble_eq_true rfl)) (by rw [rt_4]; decide)) (zl_I (fun v1 h2 => ?_))
    exact r_zret d_3_20 rt_3
  · skip
    refine zl_tr (r_iload_n d_3_4 rfl) ?_
    refine zl_tr (r_aload_n d_3_5 rfl) ?_
    refine zl_tr (r_getR d_3_6 ow_3 f_0_10 la_4 (by decide) fr_4_0) ?_
    refine zl_tr (r_getI (kk := 1) d_3_9 ow_3 f_0_108 la_5 (by decide) rfl) ?_
    refine zl_tr (r_icmp_le (tgt := 21) d_3_12 (by decide)) (zl_if ?_ ?_)
    · skip
      refine zl_tr (r_aload_n d_3_21 rfl) ?_
      refine zl_tr (r_getR d_3_22 ow_3 f_0_10 la_4 (by decide) fr_4_0) ?_
      refine zl_tr (r_iload_n d_3_25 rfl) ?_
      refine zl_tr (r_putI (kk := 1) d_3_26 ow_3 f_0_108 la_5 (by decide) rfl) ?_
      refine zl_tr (r_iconst d_3_29 (by decide)) ?_
      exact r_zret d_3_30 rt_3
    · skip
      refine zl_tr (r_aload_n d_3_15 rfl) ?_
      refine zl_tr (r_iconst d_3_16 (by decide)) ?_
      refine zl_tr (r_VI [zm_A 4, zm_I 0] d_3_17 ow_3 cal_0_119 na_4 rfl rfl (Nat.le_of_ble_eq_true rfl) (by rw [rk_4]; decide) (zr_rcv la_4 ow_4) (zr_im mx_4 rfl (Nat.le_of_ble_eq_true rfl)) (by rw [rt_4]; decide)) (zl_I (fun v3 h4 => ?_))
      exact r_zret d_3_20 rt_3
-- BranTub.refuseFlatly
set_option maxRecDepth 20000 in
theorem e_4 {h : zm_H} {x1 : Int} : zl (zm_ck (0 ≤ x1 ∧ x1 < ((6 : Nat) : Int)) (zm_ck (zm_i32 ((h 145 x1) + 1)) (zm_ck (0 ≤ x1 ∧ x1 < ((6 : Nat) : Int)) (zm_ck (zm_bit 0) (some (zm_I 0, (zm_wr h 145 x1 ((h 145 x1) + 1)))))))) (zc 4 [zm_A 4, zm_I x1] h) := by
  rw [zc_eq (loc := [zm_A 4, zm_I x1]) (rk_4 _) rfl]
  refine zl_tr (r_aload_n d_4_0 rfl) ?_
  refine zl_tr (r_getR d_4_1 ow_4 f_0_97 la_4 (by decide) fr_4_15) ?_
  refine zl_tr (r_iload_n d_4_4 rfl) ?_
  refine zl_tr (r_dup2 d_4_5 ⟨rfl, rfl⟩) ?_
  refine zl_tr (r_iaload d_4_6 la_145) (zl_ck ?_)
  refine zl_tr (r_iconst d_4_7 (by decide)) ?_
  refine zl_tr (r_iadd d_4_8) (zl_ck ?_)
  refine zl_tr (r_iastore d_4_9 la_145) (zl_ck ?_)
  refine zl_tr (r_iconst d_4_10 (by decide)) ?_
  exact r_zret d_4_11 rt_4
-- BranTub.fete
set_option maxRecDepth 20000 in
theorem e_5 {h : zm_H} {sp : Nat} (hsp : zf_F sp) {t : Nat} (ht : zf_F t) : zl (zm_ck (h 4 2 = (sp : Int)) (zk_I (zc 74 [zm_A 29, zm_A sp] h) (fun v1 h2 => if v1 = 0 then (zk_I (zc 2 [zm_A 4, zm_I 1] (zm_wr h2 5 1 0)) (fun v3 h4 => some (zm_I v3, h4))) else (zm_ck ((zm_wr h2 5 1 0) 4 1 = (t : Int)) (zm_ck ((zm_wr h2 5 1 0) 4 2 = (sp : Int)) (zm_ck ((zm_wr (zm_wr (zm_wr h2 5 1 0) 4 1 (sp : Int)) 4 2 (t : Int)) 4 1 = (t : Int)) (zk_V (zc 143 [zm_A 32, zm_A t] (zm_wr (zm_wr (zm_wr h2 5 1 0) 4 1 (sp : Int)) 4 2 (t : Int))) (fun h5 => zk_V (zc 67 [zm_A 44] h5) (fun h6 => zm_ck (zm_bit 0) (zm_ck ((zm_wr h6 4 17 0) 4 1 = (t : Int)) (some (zm_I ((zm_wr h6 4 17 0) t 0), (zm_wr h6 4 17 0))))))))))))) (zc 5 [zm_A 4] h) := by
  rw [zc_eq (loc := [zm_A 4, zm_U, zm_U]) (rk_5 _) rfl]
  refine zl_tr (r_aload_n d_5_0 rfl) ?_
  refine zl_tr (r_getR d_5_1 ow_5 f_0_31 la_4 (by decide) fr_4_3) ?_
  refine zl_tr (r_aload_n d_5_4 rfl) ?_
  refine zl_tr (r_getN (b := sp) (kk := 2) d_5_5 ow_5 f_0_23 la_4 (by decide) (zf_3 hsp) rfl) (zl_ck ?_)
  refine zl_tr (r_VI [zm_A 29, zm_A sp] d_5_8 ow_5 cal_0_123 na_74 rfl rfl (Nat.le_of_ble_eq_true rfl) (by rw [rk_74]; decide) (zr_rcv la_29 ow_74) (zr_im mx_74 rfl (Nat.le_of_ble_eq_true rfl)) (by rw [rt_74]; decide)) (zl_I (fun v1 h2 => ?_))
  refine zl_tr (r_istore_n (loc' := [zm_A 4, zm_I v1, zm_U]) d_5_11 (Nat.le_of_ble_eq_true rfl) rfl) ?_
  refine zl_tr (r_aload_n d_5_12 rfl) ?_
  refine zl_tr (r_getR d_5_13 ow_5 f_0_10 la_4 (by decide) fr_4_0) ?_
  refine zl_tr (r_iconst d_5_16 (by decide)) ?_
  refine zl_tr (r_putI (kk := 1) d_5_17 ow_5 f_0_108 la_5 (by decide) rfl) ?_
  refine zl_tr (r_iload_n d_5_20 rfl) ?_
  refine zl_tr (r_if_ne (tgt := 30) d_5_21 (by decide)) (zl_if ?_ ?_)
  · skip
    refine zl_tr (r_aload_n d_5_24 rfl) ?_
    refine zl_tr (r_iconst d_5_25 (by decide)) ?_
    refine zl_tr (r_VI [zm_A 4, zm_I 1] d_5_26 ow_5 cal_0_111 na_2 rfl rfl (Nat.le_of_ble_eq_true rfl) (by rw [rk_2]; decide) (zr_rcv la_4 ow_2) (zr_im mx_2 rfl (Nat.le_of_ble_eq_true rfl)) (by rw [rt_2]; decide)) (zl_I (fun v3 h4 => ?_))
    exact r_iret d_5_29 rt_5
  · skip
    refine zl_tr (r_aload_n d_5_30 rfl) ?_
    refine zl_tr (r_getN (b := t) (kk := 1) d_5_31 ow_5 f_0_19 la_4 (by decide) (zf_3 ht) rfl) (zl_ck ?_)
    refine zl_tr (r_astore_n (loc' := [zm_A 4, zm_I v1, zm_A t]) d_5_34 (Nat.le_of_ble_eq_true rfl) rfl) ?_
    refine zl_tr (r_aload_n d_5_35 rfl) ?_
    refine zl_tr (r_aload_n d_5_36 rfl) ?_
    refine zl_tr (r_getN (b := sp) (kk := 2) d_5_37 ow_5 f_0_23 la_4 (by decide) (zf_3 hsp) rfl) (zl_ck ?_)
    refine zl_tr (r_putN (kk := 1) d_5_40 ow_5 f_0_19 la_4 (by decide) (zf_b hsp) rfl) ?_
    refine zl_tr (r_aload_n d_5_43 rfl) ?_
    refine zl_tr (r_aload_n d_5_44 rfl) ?_
    refine zl_tr (r_putN (kk := 2) d_5_45 ow_5 f_0_23 la_4 (by decide) (zf_b ht) rfl) ?_
    refine zl_tr (r_aload_n d_5_48 rfl) ?_
    refine zl_tr (r_getR d_5_49 ow_5 f_0_38 la_4 (by decide) fr_4_4) ?_
    refine zl_tr (r_aload_n d_5_52 rfl) ?_
    refine zl_tr (r_getN (b := t) (kk := 1) d_5_53 ow_5 f_0_19 la_4 (by decide) (zf_3 ht) rfl) (zl_ck ?_)
    refine zl_tr (r_VV [zm_A 32, zm_A t] d_5_56 ow_5 cal_0_104 na_143 rfl rfl (Nat.le_of_ble_eq_true rfl) (by rw [rk_143]; decide) (zr_rcv la_32 ow_143) (zr_im mx_143 rfl (Nat.le_of_ble_eq_true rfl)) rt_143) (zl_V (fun h5 => ?_))
    refine zl_tr (r_aload_n d_5_59 rfl) ?_
    refine zl_tr (r_getR d_5_60 ow_5 f_0_51 la_4 (by decide) fr_4_7) ?_
    refine zl_tr (r_VV [zm_A 44] d_5_63 ow_5 cal_0_127 na_67 rfl rfl (Nat.le_of_ble_eq_true rfl) (by rw [rk_67]; decide) (zr_rcv la_44 ow_67) (zr_im mx_67 rfl (Nat.le_of_ble_eq_true rfl)) rt_67) (zl_V (fun h6 => ?_))
    refine zl_tr (r_aload_n d_5_66 rfl) ?_
    refine zl_tr (r_iconst d_5_67 (by decide)) ?_
    refine zl_tr (r_putZ (kk := 17) d_5_68 ow_5 f_0_130 la_4 (by decide) rfl) (zl_ck ?_)
    refine zl_tr (r_aload_n d_5_71 rfl) ?_
    refine zl_tr (r_getN (b := t) (kk := 1) d_5_72 ow_5 f_0_19 la_4 (by decide) (zf_3 ht) rfl) (zl_ck ?_)
    refine zl_tr (r_getI (kk := 0) d_5_75 ow_5 f_0_134 (zf_o ht) (by decide) rfl) ?_
    exact r_iret d_5_78 rt_5
-- BranTub.fault
set_option maxRecDepth 20000 in
theorem e_6 {h : zm_H} {x1 : Int} : zl (if x1 = 0 then (some (zm_I (h 29 2), h)) else (if x1 = 1 then (some (zm_I (h 29 3), h)) else (some (zm_I (-1), h)))) (zc 6 [zm_A 4, zm_I x1] h) := by
  rw [zc_eq (loc := [zm_A 4, zm_I x1]) (rk_6 _) rfl]
  refine zl_tr (r_iload_n d_6_0 rfl) ?_
  refine zl_eq 0 (fun hx => ?_) (fun hx0 => ?_)
  · refine zl_tr (r_lsw (tgt := 28) d_6_1 (by decide) (by rw [hx]; decide)) ?_
    refine zl_tr (r_aload_n d_6_28 rfl) ?_
    refine zl_tr (r_getR d_6_29 ow_6 f_0_31 la_4 (by decide) fr_4_3) ?_
    refine zl_tr (r_getI (kk := 2) d_6_32 ow_6 f_0_137 la_29 (by decide) rfl) ?_
    exact r_iret d_6_35 rt_6
  refine zl_eq 1 (fun hx => ?_) (fun hx1 => ?_)
  · refine zl_tr (r_lsw (tgt := 36) d_6_1 (by decide) (by rw [hx]; decide)) ?_
    refine zl_tr (r_aload_n d_6_36 rfl) ?_
    refine zl_tr (r_getR d_6_37 ow_6 f_0_31 la_4 (by decide) fr_4_3) ?_
    refine zl_tr (r_getI (kk := 3) d_6_40 ow_6 f_0_140 la_29 (by decide) rfl) ?_
    exact r_iret d_6_43 rt_6
  refine zl_tr (r_lsw (tgt := 44) d_6_1 (by decide) (by rw [zl_lsw (by intro q hq; simp only [List.mem_cons, List.not_mem_nil, or_false] at hq; rcases hq with rfl | rfl <;> omega)]; decide)) ?_
  refine zl_tr (r_iconst d_6_44 (by decide)) ?_
  exact r_iret d_6_45 rt_6
-- BranTub.has
set_option maxRecDepth 20000 in
theorem e_7 {h : zm_H} {x1 : Int} {t : Nat} (ht : zf_F t) : zl (if x1 = 0 then (zm_ck (h 4 1 = (t : Int)) (some (zm_I (h t 1), h))) else (if x1 = 1 then (zm_ck (h 4 1 = (t : Int)) (some (zm_I (h t 2), h))) else (if x1 = 2 then (zm_ck (h 4 1 = (t : Int)) (some (zm_I (h t 3), h))) else (if x1 = 3 then (some (zm_I (h 32 0), h)) else (if x1 = 4 then (zk_I (zc 144 [zm_A 32] h) (fun v1 h2 => some (zm_I v1, h2))) else (if x1 = 5 then (some (zm_I (h 32 1), h)) else (if x1 = 6 then (zk_I (zc 8 [zm_A 4] h) (fun v3 h4 => some (zm_I v3, h4))) else (if x1 = 7 then (zk_I (zc 146 [zm_A 32] h) (fun v5 h6 => some (zm_I v5, h6))) else (if x1 = 8 then (zk_I (zc 147 [zm_A 32] h) (fun v7 h8 => some (zm_I v7, h8))) else (if x1 = 9 then (zk_I (zc 68 [zm_A 44] h) (fun v9 h10 => some (zm_I v9, h10))) else (if x1 = 10 then (some (zm_I (h 44 5), h)) else (if x1 = 11 then (some (zm_I (h 4 16), h)) else (some (zm_I (-1), h)))))))))))))) (zc 7 [zm_A 4, zm_I x1] h) := by
  rw [zc_eq (loc := [zm_A 4, zm_I x1]) (rk_7 _) rfl]
  refine zl_tr (r_iload_n d_7_0 rfl) ?_
  refine zl_eq 0 (fun hx => ?_) (fun hx0 => ?_)
  · refine zl_tr (r_tsw (tgt := 64) d_7_1 (by rw [hx]; decide) (by decide)) ?_
    refine zl_tr (r_aload_n d_7_64 rfl) ?_
    refine zl_tr (r_getN (b := t) (kk := 1) d_7_65 ow_7 f_0_19 la_4 (by decide) (zf_3 ht) rfl) (zl_ck ?_)
    refine zl_tr (r_getI (kk := 1) d_7_68 ow_7 f_0_143 (zf_o ht) (by decide) rfl) ?_
    exact r_iret d_7_71 rt_7
  refine zl_eq 1 (fun hx => ?_) (fun hx1 => ?_)
  · refine zl_tr (r_tsw (tgt := 72) d_7_1 (by rw [hx]; decide) (by decide)) ?_
    refine zl_tr (r_aload_n d_7_72 rfl) ?_
    refine zl_tr (r_getN (b := t) (kk := 1) d_7_73 ow_7 f_0_19 la_4 (by decide) (zf_3 ht) rfl) (zl_ck ?_)
    refine zl_tr (r_getI (kk := 2) d_7_76 ow_7 f_0_146 (zf_o ht) (by decide) rfl) ?_
    exact r_iret d_7_79 rt_7
  refine zl_eq 2 (fun hx => ?_) (fun hx2 => ?_)
  · refine zl_tr (r_tsw (tgt := 80) d_7_1 (by rw [hx]; decide) (by decide)) ?_
    refine zl_tr (r_aload_n d_7_80 rfl) ?_
    refine zl_tr (r_getN (b := t) (kk := 1) d_7_81 ow_7 f_0_19 la_4 (by decide) (zf_3 ht) rfl) (zl_ck ?_)
    refine zl_tr (r_getI (kk := 3) d_7_84 ow_7 f_0_149 (zf_o ht) (by decide) rfl) ?_
    exact r_iret d_7_87 rt_7
  refine zl_eq 3 (fun hx => ?_) (fun hx3 => ?_)
  · refine zl_tr (r_tsw (tgt := 88) d_7_1 (by rw [hx]; decide) (by decide)) ?_
    refine zl_tr (r_aload_n d_7_88 rfl) ?_
    refine zl_tr (r_getR d_7_89 ow_7 f_0_38 la_4 (by decide) fr_4_4) ?_
    refine zl_tr (r_getI (kk := 0) d_7_92 ow_7 f_0_152 la_32 (by decide) rfl) ?_
    exact r_iret d_7_95 rt_7
  refine zl_eq 4 (fun hx => ?_) (fun hx4 => ?_)
  · refine zl_tr (r_tsw (tgt := 96) d_7_1 (by rw [hx]; decide) (by decide)) ?_
    refine zl_tr (r_aload_n d_7_96 rfl) ?_
    refine zl_tr (r_getR d_7_97 ow_7 f_0_38 la_4 (by decide) fr_4_4) ?_
    refine zl_tr (r_VI [zm_A 32] d_7_100 ow_7 cal_0_155 na_144 rfl rfl (Nat.le_of_ble_eq_true rfl) (by rw [rk_144]; decide) (zr_rcv la_32 ow_144) (zr_im mx_144 rfl (Nat.le_of_ble_eq_true rfl)) (by rw [rt_144]; decide)) (zl_I (fun v1 h2 => ?_))
    exact r_iret d_7_103 rt_7
  refine zl_eq 5 (fun hx => ?_) (fun hx5 => ?_)
  · refine zl_tr (r_tsw (tgt := 104) d_7_1 (by rw [hx]; decide) (by decide)) ?_
    refine zl_tr (r_aload_n d_7_104 rfl) ?_
    refine zl_tr (r_getR d_7_105 ow_7 f_0_38 la_4 (by decide) fr_4_4) ?_
    refine zl_tr (r_getI (kk := 1) d_7_108 ow_7 f_0_159 la_32 (by decide) rfl) ?_
    exact r_iret d_7_111 rt_7
  refine zl_eq 6 (fun hx => ?_) (fun hx6 => ?_)
  · refine zl_tr (r_tsw (tgt := 112) d_7_1 (by rw [hx]; decide) (by decide)) ?_
    refine zl_tr (r_aload_n d_7_112 rfl) ?_
    refine zl_tr (r_VI [zm_A 4] d_7_113 ow_7 cal_0_162 na_8 rfl rfl (Nat.le_of_ble_eq_true rfl) (by rw [rk_8]; decide) (zr_rcv la_4 ow_8) (zr_im mx_8 rfl (Nat.le_of_ble_eq_true rfl)) (by rw [rt_8]; decide)) (zl_I (fun v3 h4 => ?_))
    exact r_iret d_7_116 rt_7
  refine zl_eq 7 (fun hx => ?_) (fun hx7 => ?_)
  · refine zl_tr (r_tsw (tgt := 117) d_7_1 (by rw [hx]; decide) (by decide)) ?_
    refine zl_tr (r_aload_n d_7_117 rfl) ?_
    refine zl_tr (r_getR d_7_118 ow_7 f_0_38 la_4 (by decide) fr_4_4) ?_
    refine zl_tr (r_VI [zm_A 32] d_7_121 ow_7 cal_0_165 na_146 rfl rfl (Nat.le_of_ble_eq_true rfl) (by rw [rk_146]; decide) (zr_rcv la_32 ow_146) (zr_im mx_146 rfl (Nat.le_of_ble_eq_true rfl)) (by rw [rt_146]; decide)) (zl_I (fun v5 h6 => ?_))
    exact r_iret d_7_124 rt_7
  refine zl_eq 8 (fun hx => ?_) (fun hx8 => ?_)
  · refine zl_tr (r_tsw (tgt := 125) d_7_1 (by rw [hx]; decide) (by decide)) ?_
    refine zl_tr (r_aload_n d_7_125 rfl) ?_
    refine zl_tr (r_getR d_7_126 ow_7 f_0_38 la_4 (by decide) fr_4_4) ?_
    refine zl_tr (r_VI [zm_A 32] d_7_129 ow_7 cal_0_168 na_147 rfl rfl (Nat.le_of_ble_eq_true rfl) (by rw [rk_147]; decide) (zr_rcv la_32 ow_147) (zr_im mx_147 rfl (Nat.le_of_ble_eq_true rfl)) (by rw [rt_147]; decide)) (zl_I (fun v7 h8 => ?_))
    exact r_iret d_7_132 rt_7
  refine zl_eq 9 (fun hx => ?_) (fun hx9 => ?_)
  · refine zl_tr (r_tsw (tgt := 133) d_7_1 (by rw [hx]; decide) (by decide)) ?_
    refine zl_tr (r_aload_n d_7_133 rfl) ?_
    refine zl_tr (r_getR d_7_134 ow_7 f_0_51 la_4 (by decide) fr_4_7) ?_
    refine zl_tr (r_VI [zm_A 44] d_7_137 ow_7 cal_0_171 na_68 rfl rfl (Nat.le_of_ble_eq_true rfl) (by rw [rk_68]; decide) (zr_rcv la_44 ow_68) (zr_im mx_68 rfl (Nat.le_of_ble_eq_true rfl)) (by rw [rt_68]; decide)) (zl_I (fun v9 h10 => ?_))
    exact r_iret d_7_140 rt_7
  refine zl_eq 10 (fun hx => ?_) (fun hx10 => ?_)
  · refine zl_tr (r_tsw (tgt := 141) d_7_1 (by rw [hx]; decide) (by decide)) ?_
    refine zl_tr (r_aload_n d_7_141 rfl) ?_
    refine zl_tr (r_getR d_7_142 ow_7 f_0_51 la_4 (by decide) fr_4_7) ?_
    refine zl_tr (r_getI (kk := 5) d_7_145 ow_7 f_0_173 la_44 (by decide) rfl) ?_
    exact r_iret d_7_148 rt_7
  refine zl_eq 11 (fun hx => ?_) (fun hx11 => ?_)
  · refine zl_tr (r_tsw (tgt := 149) d_7_1 (by rw [hx]; decide) (by decide)) ?_
    refine zl_tr (r_aload_n d_7_149 rfl) ?_
    refine zl_tr (r_getI (kk := 16) d_7_150 ow_7 f_0_100 la_4 (by decide) rfl) ?_
    exact r_iret d_7_153 rt_7
  refine zl_tr (r_tsw (tgt := 154) d_7_1 (by rw [if_pos (by omega)]; decide) (by decide)) ?_
  refine zl_tr (r_iconst d_7_154 (by decide)) ?_
  exact r_iret d_7_155 rt_7
-- BranTub.costNow
set_option maxRecDepth 20000 in
theorem e_8 {h : zm_H} {t : Nat} (ht : zf_F t) : zl (zk_V (zc 9 [zm_A 4] h) (fun h1 => zm_ck (0 ≤ 3 ∧ 3 < ((6 : Nat) : Int)) (zm_ck (0 ≤ 4 ∧ 4 < ((6 : Nat) : Int)) (zm_ck (0 ≤ 5 ∧ 5 < ((6 : Nat) : Int)) (zm_ck ((zm_wr (zm_wr (zm_wr h1 143 3 0) 143 4 0) 143 5 0) 4 1 = (t : Int)) (zm_ck ((zm_wr (zm_wr (zm_wr h1 143 3 0) 143 4 0) 143 5 0) 4 1 = (t : Int)) (zm_ck ((zm_wr (zm_wr (zm_wr h1 143 3 0) 143 4 0) 143 5 0) 4 1 = (t : Int)) (zk_I (zc 121 [zm_A 141, zm_A (t + 10), zm_I ((zm_wr (zm_wr (zm_wr h1 143 3 0) 143 4 0) 143 5 0) t 16), zm_I ((zm_wr (zm_wr (zm_wr h1 143 3 0) 143 4 0) 143 5 0) t 17), zm_A 143] (zm_wr (zm_wr (zm_wr h1 143 3 0) 143 4 0) 143 5 0)) (fun v2 h3 => some (zm_I (max 0 (min 99 v2)), h3)))))))))) (zc 8 [zm_A 4] h) := by
  rw [zc_eq (loc := [zm_A 4, zm_U]) (rk_8 _) rfl]
  refine zl_tr (r_aload_n d_8_0 rfl) ?_
  refine zl_tr (r_VV [zm_A 4] d_8_1 ow_8 cal_0_347 na_9 rfl rfl (Nat.le_of_ble_eq_true rfl) (by rw [rk_9]; decide) (zr_rcv la_4 ow_9) (zr_im mx_9 rfl (Nat.le_of_ble_eq_true rfl)) rt_9) (zl_V (fun h1 => ?_))
  refine zl_tr (r_aload_n d_8_4 rfl) ?_
  refine zl_tr (r_getR d_8_5 ow_8 f_0_90 la_4 (by decide) fr_4_13) ?_
  refine zl_tr (r_iconst d_8_8 (by decide)) ?_
  refine zl_tr (r_iconst d_8_9 (by decide)) ?_
  refine zl_tr (r_iastore d_8_10 la_143) (zl_ck ?_)
  refine zl_tr (r_aload_n d_8_11 rfl) ?_
  refine zl_tr (r_getR d_8_12 ow_8 f_0_90 la_4 (by decide) fr_4_13) ?_
  refine zl_tr (r_iconst d_8_15 (by decide)) ?_
  refine zl_tr (r_iconst d_8_16 (by decide)) ?_
  refine zl_tr (r_iastore d_8_17 la_143) (zl_ck ?_)
  refine zl_tr (r_aload_n d_8_18 rfl) ?_
  refine zl_tr (r_getR d_8_19 ow_8 f_0_90 la_4 (by decide) fr_4_13) ?_
  refine zl_tr (r_iconst d_8_22 (by decide)) ?_
  refine zl_tr (r_iconst d_8_23 (by decide)) ?_
  refine zl_tr (r_iastore d_8_24 la_143) (zl_ck ?_)
  refine zl_tr (r_aload_n d_8_25 rfl) ?_
  refine zl_tr (r_getR d_8_26 ow_8 f_0_86 la_4 (by decide) fr_4_12) ?_
  refine zl_tr (r_aload_n d_8_29 rfl) ?_
  refine zl_tr (r_getN (b := t) (kk := 1) d_8_30 ow_8 f_0_19 la_4 (by decide) (zf_3 ht) rfl) (zl_ck ?_)
  refine zl_tr (r_getR d_8_33 ow_8 f_0_350 (zf_o ht) (by decide) (zf_r14 ht)) ?_
  refine zl_tr (r_aload_n d_8_36 rfl) ?_
  refine zl_tr (r_getN (b := t) (kk := 1) d_8_37 ow_8 f_0_19 la_4 (by decide) (zf_3 ht) rfl) (zl_ck ?_)
  refine zl_tr (r_getI (kk := 16) d_8_40 ow_8 f_0_353 (zf_o ht) (by decide) rfl) ?_
  refine zl_tr (r_aload_n d_8_43 rfl) ?_
  refine zl_tr (r_getN (b := t) (kk := 1) d_8_44 ow_8 f_0_19 la_4 (by decide) (zf_3 ht) rfl) (zl_ck ?_)
  refine zl_tr (r_getI (kk := 17) d_8_47 ow_8 f_0_356 (zf_o ht) (by decide) rfl) ?_
  refine zl_tr (r_aload_n d_8_50 rfl) ?_
  refine zl_tr (r_getR d_8_51 ow_8 f_0_90 la_4 (by decide) fr_4_13) ?_
  refine zl_tr (r_VI [zm_A 141, zm_A (t + 10), zm_I ((zm_wr (zm_wr (zm_wr h1 143 3 0) 143 4 0) 143 5 0) t 16), zm_I ((zm_wr (zm_wr (zm_wr h1 143 3 0) 143 4 0) 143 5 0) t 17), zm_A 143] d_8_54 ow_8 cal_0_359 na_121 rfl rfl (Nat.le_of_ble_eq_true rfl) (by rw [rk_121]; decide) (zr_rcv la_141 ow_121) (zr_im mx_121 rfl (Nat.le_of_ble_eq_true rfl)) (by rw [rt_121]; decide)) (zl_I (fun v2 h3 => ?_))
  refine zl_tr (r_istore_n (loc' := [zm_A 4, zm_I v2]) d_8_57 (Nat.le_of_ble_eq_true rfl) rfl) ?_
  refine zl_tr (r_iconst d_8_58 (by decide)) ?_
  refine zl_tr (r_bipush d_8_59 (by decide)) ?_
  refine zl_tr (r_iload_n d_8_61 rfl) ?_
  refine zl_tr (r_mmin d_8_62 ow_8 cal_0_342 (Nat.le_of_ble_eq_true rfl) (by decide)) ?_
  refine zl_tr (r_mmax d_8_65 ow_8 cal_0_363 (Nat.le_of_ble_eq_true rfl) (by decide)) ?_
  exact r_iret d_8_68 rt_8
-- BranTub.seeTub
set_option maxRecDepth 20000 in
theorem e_9 {h : zm_H}  : zl (zm_ck (0 ≤ 0 ∧ 0 < ((6 : Nat) : Int)) (zk_I (zc 144 [zm_A 32] (zm_wr h 143 0 (h 32 0))) (fun v1 h2 => zm_ck (0 ≤ 1 ∧ 1 < ((6 : Nat) : Int)) (zm_ck (0 ≤ 2 ∧ 2 < ((6 : Nat) : Int)) (some (zm_U, (zm_wr (zm_wr h2 143 1 v1) 143 2 ((zm_wr h2 143 1 v1) 32 1)))))))) (zc 9 [zm_A 4] h) := by
  rw [zc_eq (loc := [zm_A 4]) (rk_9 _) rfl]
  refine zl_tr (r_aload_n d_9_0 rfl) ?_
  refine zl_tr (r_getR d_9_1 ow_9 f_0_90 la_4 (by decide) fr_4_13) ?_
  refine zl_tr (r_iconst d_9_4 (by decide)) ?_
  refine zl_tr (r_aload_n d_9_5 rfl) ?_
  refine zl_tr (r_getR d_9_6 ow_9 f_0_38 la_4 (by decide) fr_4_4) ?_
  refine zl_tr (r_getI (kk := 0) d_9_9 ow_9 f_0_152 la_32 (by decide) rfl) ?_
  refine zl_tr (r_iastore d_9_12 la_143) (zl_ck ?_)
  refine zl_tr (r_aload_n d_9_13 rfl) ?_
  refine zl_tr (r_getR d_9_14 ow_9 f_0_90 la_4 (by decide) fr_4_13) ?_
  refine zl_tr (r_iconst d_9_17 (by decide)) ?_
  refine zl_tr (r_aload_n d_9_18 rfl) ?_
  refine zl_tr (r_getR d_9_19 ow_9 f_0_38 la_4 (by decide) fr_4_4) ?_
  refine zl_tr (r_VI [zm_A 32] d_9_22 ow_9 cal_0_155 na_144 rfl rfl (Nat.le_of_ble_eq_true rfl) (by rw [rk_144]; decide) (zr_rcv la_32 ow_144) (zr_im mx_144 rfl (Nat.le_of_ble_eq_true rfl)) (by rw [rt_144]; decide)) (zl_I (fun v1 h2 => ?_))
  refine zl_tr (r_iastore d_9_25 la_143) (zl_ck ?_)
  refine zl_tr (r_aload_n d_9_26 rfl) ?_
  refine zl_tr (r_getR d_9_27 ow_9 f_0_90 la_4 (by decide) fr_4_13) ?_
  refine zl_tr (r_iconst d_9_30 (by decide)) ?_
  refine zl_tr (r_aload_n d_9_31 rfl) ?_
  refine zl_tr (r_getR d_9_32 ow_9 f_0_38 la_4 (by decide) fr_4_4) ?_
  refine zl_tr (r_getI (kk := 1) d_9_35 ow_9 f_0_159 la_32 (by decide) rfl) ?_
  refine zl_tr (r_iastore d_9_38 la_143) (zl_ck ?_)
  exact r_vret d_9_39 rt_9
-- BranTub.letter
set_option maxRecDepth 20000 in
theorem e_10 {h : zm_H} {x1 : Int} {x2 : Int} {x3 : Int} {t : Nat} (ht : zf_F t) : zl (if x3 < 0 then (some (zm_I (-1), h)) else (if x3 < 6 then (if x1 = 0 then (zk_I (zc 11 [zm_A 4, zm_I x2] h) (fun v1 h2 => if v1 = 0 then (zr none 2 10 38 [zm_A 4, zm_I x1, zm_I x2, zm_I x3, zm_U] [] h2) else (zm_ck (h2 4 1 = (t : Int)) (zm_ck (0 ≤ x2 ∧ x2 < ((8 : Nat) : Int)) (zm_ck (zm_i32 (5 * x3)) (some (zm_I (zb_iand (zb_ishr (h2 (t + 1) x2) (5 * x3)) 31), h2))))))) else (zr none 2 10 38 [zm_A 4, zm_I x1, zm_I x2, zm_I x3, zm_U] [] h)) else (some (zm_I (-1), h)))) (zc 10 [zm_A 4, zm_I x1, zm_I x2, zm_I x3] h) := by
  rw [zc_eq (loc := [zm_A 4, zm_I x1, zm_I x2, zm_I x3, zm_U]) (rk_10 _) rfl]
  refine zl_tr (r_iload_n d_10_0 rfl) ?_
  refine zl_tr (r_if_lt (tgt := 10) d_10_1 (by decide)) (zl_if ?_ ?_)
  · skip
    refine zl_tr (r_iconst d_10_10 (by decide)) ?_
    exact r_iret d_10_11 rt_10
  · skip
    refine zl_tr (r_iload_n d_10_4 rfl) ?_
    refine zl_tr (r_bipush d_10_5 (by decide)) ?_
    refine zl_tr (r_icmp_lt (tgt := 12) d_10_7 (by decide)) (zl_if ?_ ?_)
    · skip
      refine zl_tr (r_iload_n d_10_12 rfl) ?_
      refine zl_tr (r_if_ne (tgt := 38) d_10_13 (by decide)) (zl_if ?_ ?_)
      · skip
        refine zl_tr (r_aload_n d_10_16 rfl) ?_
        refine zl_tr (r_iload_n d_10_17 rfl) ?_
        refine zl_tr (r_VI [zm_A 4, zm_I x2] d_10_18 ow_10 cal_0_176 na_11 rfl rfl (Nat.le_of_ble_eq_true rfl) (by rw [rk_11]; decide) (zr_rcv la_4 ow_11) (zr_im mx_11 rfl (Nat.le_of_ble_eq_true rfl)) (by rw [rt_11]; decide)) (zl_I (fun v1 h2 => ?_))
        refine zl_tr (r_if_eq (tgt := 38) d_10_21 (by decide)) (zl_if ?_ ?_)
        · skip
          exact zl_rf
        · skip
          refine zl_tr (r_aload_n d_10_24 rfl) ?_
          refine zl_tr (r_getN (b := t) (kk := 1) d_10_25 ow_10 f_0_19 la_4 (by decide) (zf_3 ht) rfl) (zl_ck ?_)
          refine zl_tr (r_getR d_10_28 ow_10 f_0_179 (zf_o ht) (by decide) (zf_r5 ht)) ?_
          refine zl_tr (r_iload_n d_10_31 rfl) ?_
          refine zl_tr (r_iaload d_10_32 (zf_a1 ht)) (zl_ck ?_)
          refine zl_tr (r_istore (loc' := [zm_A 4, zm_I x1, zm_I x2, zm_I x3, zm_I (h2 (t + 1) x2)]) d_10_33 (Nat.le_of_ble_eq_true rfl) rfl) ?_
          refine zl_tr (r_goto (tgt := 67) d_10_35 (by decide)) ?_
          refine zl_tr (r_iload d_10_67 rfl) ?_
          refine zl_tr (r_iconst d_10_69 (by decide)) ?_
          refine zl_tr (r_iload_n d_10_70 rfl) ?_
          refine zl_tr (r_imul d_10_71) (zl_ck ?_)
          refine zl_tr (r_ishr d_10_72) ?_
          refine zl_tr (r_bipush d_10_73 (by decide)) ?_
          refine zl_tr (r_iand d_10_75) ?_
          exact r_iret d_10_76 rt_10
      · skip
        exact zl_rf
    · skip
      refine zl_tr (r_iconst d_10_10 (by decide)) ?_
      exact r_iret d_10_11 rt_10
-- BranTub.letter, from 38
set_option maxRecDepth 20000 in
theorem e_10_38 {h : zm_H} {x1 : Int} {x2 : Int} {x3 : Int} {w4 : zm_V} {t : Nat} (ht : zf_F t) : zl (if x1 = 1 then (zk_I (zc 12 [zm_A 4, zm_I x2] h) (fun v1 h2 => if v1 = 0 then (some (zm_I (-1), h2)) else (zm_ck (h2 4 1 = (t : Int)) (zm_ck (0 ≤ x2 ∧ x2 < ((8 : Nat) : Int)) (zm_ck (zm_i32 (5 * x3)) (some (zm_I (zb_iand (zb_ishr (h2 (t + 5) x2) (5 * x3)) 31), h2))))))) else (some (zm_I (-1), h))) (zr none 2 10 38 [zm_A 4, zm_I x1, zm_I x2, zm_I x3, w4] [] h) := by
  refine zl_tr (r_iload_n d_10_38 rfl) ?_
  refine zl_tr (r_iconst d_10_39 (by decide)) ?_
  refine zl_tr (r_icmp_ne (tgt := 65) d_10_40 (by decide)) (zl_if ?_ ?_)
  · skip
    refine zl_tr (r_aload_n d_10_43 rfl) ?_
    refine zl_tr (r_iload_n d_10_44 rfl) ?_
    refine zl_tr (r_VI [zm_A 4, zm_I x2] d_10_45 ow_10 cal_0_182 na_12 rfl rfl (Nat.le_of_ble_eq_true rfl) (by rw [rk_12]; decide) (zr_rcv la_4 ow_12) (zr_im mx_12 rfl (Nat.le_of_ble_eq_true rfl)) (by rw [rt_12]; decide)) (zl_I (fun v1 h2 => ?_))
    refine zl_tr (r_if_eq (tgt := 65) d_10_48 (by decide)) (zl_if ?_ ?_)
    · skip
      refine zl_tr (r_iconst d_10_65 (by decide)) ?_
      exact r_iret d_10_66 rt_10
    · skip
      refine zl_tr (r_aload_n d_10_51 rfl) ?_
      refine zl_tr (r_getN (b := t) (kk := 1) d_10_52 ow_10 f_0_19 la_4 (by decide) (zf_3 ht) rfl) (zl_ck ?_)
      refine zl_tr (r_getR d_10_55 ow_10 f_0_185 (zf_o ht) (by decide) (zf_r9 ht)) ?_
      refine zl_tr (r_iload_n d_10_58 rfl) ?_
      refine zl_tr (r_iaload d_10_59 (zf_a5 ht)) (zl_ck ?_)
      refine zl_tr (r_istore (loc' := [zm_A 4, zm_I x1, zm_I x2, zm_I x3, zm_I (h2 (t + 5) x2)]) d_10_60 (Nat.le_of_ble_eq_true rfl) rfl) ?_
      refine zl_tr (r_goto (tgt := 67) d_10_62 (by decide)) ?_
      refine zl_tr (r_iload d_10_67 rfl) ?_
      refine zl_tr (r_iconst d_10_69 (by decide)) ?_
      refine zl_tr (r_iload_n d_10_70 rfl) ?_
      refine zl_tr (r_imul d_10_71) (zl_ck ?_)
      refine zl_tr (r_ishr d_10_72) ?_
      refine zl_tr (r_bipush d_10_73 (by decide)) ?_
      refine zl_tr (r_iand d_10_75) ?_
      exact r_iret d_10_76 rt_10
  · skip
    refine zl_tr (r_iconst d_10_65 (by decide)) ?_
    exact r_iret d_10_66 rt_10
-- BranTub.isKind
set_option maxRecDepth 20000 in
theorem e_11 {h : zm_H} {x1 : Int} {t : Nat} (ht : zf_F t) : zl (if x1 < 0 then (zm_ck (zm_bit 0) (some (zm_I 0, h))) else (zm_ck (h 4 1 = (t : Int)) (if x1 < (h t 1) then (zm_ck (zm_bit 1) (some (zm_I 1, h))) else (zm_ck (zm_bit 0) (some (zm_I 0, h)))))) (zc 11 [zm_A 4, zm_I x1] h) := by
  rw [zc_eq (loc := [zm_A 4, zm_I x1]) (rk_11 _) rfl]
  refine zl_tr (r_iload_n d_11_0 rfl) ?_
  refine zl_tr (r_if_lt (tgt := 19) d_11_1 (by decide)) (zl_if ?_ ?_)
  · skip
    refine zl_tr (r_iconst d_11_19 (by decide)) ?_
    exact r_zret d_11_20 rt_11
  · skip
    refine zl_tr (r_iload_n d_11_4 rfl) ?_
    refine zl_tr (r_aload_n d_11_5 rfl) ?_
    refine zl_tr (r_getN (b := t) (kk := 1) d_11_6 ow_11 f_0_19 la_4 (by decide) (zf_3 ht) rfl) (zl_ck ?_)
    refine zl_tr (r_getI (kk := 1) d_11_9 ow_11 f_0_143 (zf_o ht) (by decide) rfl) ?_
    refine zl_tr (r_icmp_ge (tgt := 19) d_11_12 (by decide)) (zl_if ?_ ?_)
    · skip
      refine zl_tr (r_iconst d_11_15 (by decide)) ?_
      refine zl_tr (r_goto (tgt := 20) d_11_16 (by decide)) ?_
      exact r_zret d_11_20 rt_11
    · skip
      refine zl_tr (r_iconst d_11_19 (by decide)) ?_
      exact r_zret d_11_20 rt_11
-- BranTub.isChild
set_option maxRecDepth 20000 in
theorem e_12 {h : zm_H} {x1 : Int} {t : Nat} (ht : zf_F t) : zl (if x1 < 0 then (zm_ck (zm_bit 0) (some (zm_I 0, h))) else (zm_ck (h 4 1 = (t : Int)) (if x1 < (h t 3) then (zm_ck (zm_bit 1) (some (zm_I 1, h))) else (zm_ck (zm_bit 0) (some (zm_I 0, h)))))) (zc 12 [zm_A 4, zm_I x1] h) := by
  rw [zc_eq (loc := [zm_A 4, zm_I x1]) (rk_12 _) rfl]
  refine zl_tr (r_iload_n d_12_0 rfl) ?_
  refine zl_tr (r_if_lt (tgt := 19) d_12_1 (by decide)) (zl_if ?_ ?_)
  · skip
    refine zl_tr (r_iconst d_12_19 (by decide)) ?_
    exact r_zret d_12_20 rt_12
  · skip
    refine zl_tr (r_iload_n d_12_4 rfl) ?_
    refine zl_tr (r_aload_n d_12_5 rfl) ?_
    refine zl_tr (r_getN (b := t) (kk := 1) d_12_6 ow_12 f_0_19 la_4 (by decide) (zf_3 ht) rfl) (zl_ck ?_)
    refine zl_tr (r_getI (kk := 3) d_12_9 ow_12 f_0_149 (zf_o ht) (by decide) rfl) ?_
    refine zl_tr (r_icmp_ge (tgt := 19) d_12_12 (by decide)) (zl_if ?_ ?_)
    · skip
      refine zl_tr (r_iconst d_12_15 (by decide)) ?_
      refine zl_tr (r_goto (tgt := 20) d_12_16 (by decide)) ?_
      exact r_zret d_12_20 rt_12
    · skip
      refine zl_tr (r_iconst d_12_19 (by decide)) ?_
      exact r_zret d_12_20 rt_12
-- BranTub.kind
set_option maxRecDepth 20000 in
theorem e_13 {h : zm_H} {x1 : Int} {x2 : Int} {t : Nat} (ht : zf_F t) : zl (zk_I (zc 11 [zm_A 4, zm_I x1] h) (fun v1 h2 => if v1 = 0 then (some (zm_I (-1), h2)) else (if x2 = 0 then (zm_ck (h2 4 1 = (t : Int)) (zm_ck (0 ≤ x1 ∧ x1 < ((8 : Nat) : Int)) (some (zm_I (h2 (t + 2) x1), h2)))) else (if x2 = 1 then (zm_ck (h2 4 1 = (t : Int)) (zm_ck (0 ≤ x1 ∧ x1 < ((8 : Nat) : Int)) (some (zm_I (h2 (t + 3) x1), h2)))) else (if x2 = 2 then (zk_I (zc 148 [zm_A 32, zm_I x1] h2) (fun v3 h4 => some (zm_I v3, h4))) else (if x2 = 3 then (zk_I (zc 149 [zm_A 32, zm_I x1] h2) (fun v5 h6 => some (zm_I v5, h6))) else (some (zm_I (-1), h2)))))))) (zc 13 [zm_A 4, zm_I x1, zm_I x2] h) := by
  rw [zc_eq (loc := [zm_A 4, zm_I x1, zm_I x2]) (rk_13 _) rfl]
  refine zl_tr (r_aload_n d_13_0 rfl) ?_
  refine zl_tr (r_iload_n d_13_1 rfl) ?_
  refine zl_tr (r_VI [zm_A 4, zm_I x1] d_13_2 ow_13 cal_0_176 na_11 rfl rfl (Nat.le_of_ble_eq_true rfl) (by rw [rk_11]; decide) (zr_rcv la_4 ow_11) (zr_im mx_11 rfl (Nat.le_of_ble_eq_true rfl)) (by rw [rt_11]; decide)) (zl_I (fun v1 h2 => ?_))
  refine zl_tr (r_if_ne (tgt := 10) d_13_5 (by decide)) (zl_if ?_ ?_)
  · skip
    refine zl_tr (r_iconst d_13_8 (by decide)) ?_
    exact r_iret d_13_9 rt_13
  · skip
    refine zl_tr (r_iload_n d_13_10 rfl) ?_
    refine zl_eq 0 (fun hx => ?_) (fun hx0 => ?_)
    · refine zl_tr (r_tsw (tgt := 40) d_13_11 (by rw [hx]; decide) (by decide)) ?_
      refine zl_tr (r_aload_n d_13_40 rfl) ?_
      refine zl_tr (r_getN (b := t) (kk := 1) d_13_41 ow_13 f_0_19 la_4 (by decide) (zf_3 ht) rfl) (zl_ck ?_)
      refine zl_tr (r_getR d_13_44 ow_13 f_0_188 (zf_o ht) (by decide) (zf_r6 ht)) ?_
      refine zl_tr (r_iload_n d_13_47 rfl) ?_
      refine zl_tr (r_iaload d_13_48 (zf_a2 ht)) (zl_ck ?_)
      exact r_iret d_13_49 rt_13
    refine zl_eq 1 (fun hx => ?_) (fun hx1 => ?_)
    · refine zl_tr (r_tsw (tgt := 50) d_13_11 (by rw [hx]; decide) (by decide)) ?_
      refine zl_tr (r_aload_n d_13_50 rfl) ?_
      refine zl_tr (r_getN (b := t) (kk := 1) d_13_51 ow_13 f_0_19 la_4 (by decide) (zf_3 ht) rfl) (zl_ck ?_)
      refine zl_tr (r_getR d_13_54 ow_13 f_0_191 (zf_o ht) (by decide) (zf_r7 ht)) ?_
      refine zl_tr (r_iload_n d_13_57 rfl) ?_
      refine zl_tr (r_iaload d_13_58 (zf_a3 ht)) (zl_ck ?_)
      exact r_iret d_13_59 rt_13
    refine zl_eq 2 (fun hx => ?_) (fun hx2 => ?_)
    · refine zl_tr (r_tsw (tgt := 60) d_13_11 (by rw [hx]; decide) (by decide)) ?_
      refine zl_tr (r_aload_n d_13_60 rfl) ?_
      refine zl_tr (r_getR d_13_61 ow_13 f_0_38 la_4 (by decide) fr_4_4) ?_
      refine zl_tr (r_iload_n d_13_64 rfl) ?_
      refine zl_tr (r_VI [zm_A 32, zm_I x1] d_13_65 ow_13 cal_0_194 na_148 rfl rfl (Nat.le_of_ble_eq_true rfl) (by rw [rk_148]; decide) (zr_rcv la_32 ow_148) (zr_im mx_148 rfl (Nat.le_of_ble_eq_true rfl)) (by rw [rt_148]; decide)) (zl_I (fun v3 h4 => ?_))
      exact r_iret d_13_68 rt_13
    refine zl_eq 3 (fun hx => ?_) (fun hx3 => ?_)
    · refine zl_tr (r_tsw (tgt := 69) d_13_11 (by rw [hx]; decide) (by decide)) ?_
      refine zl_tr (r_aload_n d_13_69 rfl) ?_
      refine zl_tr (r_getR d_13_70 ow_13 f_0_38 la_4 (by decide) fr_4_4) ?_
      refine zl_tr (r_iload_n d_13_73 rfl) ?_
      refine zl_tr (r_VI [zm_A 32, zm_I x1] d_13_74 ow_13 cal_0_197 na_149 rfl rfl (Nat.le_of_ble_eq_true rfl) (by rw [rk_149]; decide) (zr_rcv la_32 ow_149) (zr_im mx_149 rfl (Nat.le_of_ble_eq_true rfl)) (by rw [rt_149]; decide)) (zl_I (fun v5 h6 => ?_))
      exact r_iret d_13_77 rt_13
    refine zl_tr (r_tsw (tgt := 78) d_13_11 (by rw [if_pos (by omega)]; decide) (by decide)) ?_
    refine zl_tr (r_iconst d_13_78 (by decide)) ?_
    exact r_iret d_13_79 rt_13
-- BranTub.layer
set_option maxRecDepth 20000 in
theorem e_14 {h : zm_H} {x1 : Int} {x2 : Int} : zl (zk_I (zc 15 [zm_A 4, zm_I x1] h) (fun v1 h2 => if v1 = 0 then (some (zm_I (-1), h2)) else (if x2 = (-1) then (zk_I (zc 150 [zm_A 32, zm_I x1] h2) (fun v3 h4 => some (zm_I v3, h4))) else (zk_I (zc 11 [zm_A 4, zm_I x2] h2) (fun v5 h6 => if v5 = 0 then (some (zm_I (-1), h6)) else (zm_ck (zm_i32 (x1 * 8)) (zm_ck (zm_i32 ((x1 * 8) + x2)) (zm_ck (0 ≤ ((x1 * 8) + x2) ∧ ((x1 * 8) + x2) < ((40 : Nat) : Int)) (some (zm_I (h6 33 ((x1 * 8) + x2)), h6)))))))))) (zc 14 [zm_A 4, zm_I x1, zm_I x2] h) := by
  rw [zc_eq (loc := [zm_A 4, zm_I x1, zm_I x2]) (rk_14 _) rfl]
  refine zl_tr (r_aload_n d_14_0 rfl) ?_
  refine zl_tr (r_iload_n d_14_1 rfl) ?_
  refine zl_tr (r_VI [zm_A 4, zm_I x1] d_14_2 ow_14 cal_0_200 na_15 rfl rfl (Nat.le_of_ble_eq_true rfl) (by rw [rk_15]; decide) (zr_rcv la_4 ow_15) (zr_im mx_15 rfl (Nat.le_of_ble_eq_true rfl)) (by rw [rt_15]; decide)) (zl_I (fun v1 h2 => ?_))
  refine zl_tr (r_if_ne (tgt := 10) d_14_5 (by decide)) (zl_if ?_ ?_)
  · skip
    refine zl_tr (r_iconst d_14_8 (by decide)) ?_
    exact r_iret d_14_9 rt_14
  · skip
    refine zl_tr (r_iload_n d_14_10 rfl) ?_
    refine zl_tr (r_iconst d_14_11 (by decide)) ?_
    refine zl_tr (r_icmp_ne (tgt := 24) d_14_12 (by decide)) (zl_if ?_ ?_)
    · skip
      refine zl_tr (r_aload_n d_14_15 rfl) ?_
      refine zl_tr (r_getR d_14_16 ow_14 f_0_38 la_4 (by decide) fr_4_4) ?_
      refine zl_tr (r_iload_n d_14_19 rfl) ?_
      refine zl_tr (r_VI [zm_A 32, zm_I x1] d_14_20 ow_14 cal_0_203 na_150 rfl rfl (Nat.le_of_ble_eq_true rfl) (by rw [rk_150]; decide) (zr_rcv la_32 ow_150) (zr_im mx_150 rfl (Nat.le_of_ble_eq_true rfl)) (by rw [rt_150]; decide)) (zl_I (fun v3 h4 => ?_))
      exact r_iret d_14_23 rt_14
    · skip
      refine zl_tr (r_aload_n d_14_24 rfl) ?_
      refine zl_tr (r_iload_n d_14_25 rfl) ?_
      refine zl_tr (r_VI [zm_A 4, zm_I x2] d_14_26 ow_14 cal_0_176 na_11 rfl rfl (Nat.le_of_ble_eq_true rfl) (by rw [rk_11]; decide) (zr_rcv la_4 ow_11) (zr_im mx_11 rfl (Nat.le_of_ble_eq_true rfl)) (by rw [rt_11]; decide)) (zl_I (fun v5 h6 => ?_))
      refine zl_tr (r_if_eq (tgt := 49) d_14_29 (by decide)) (zl_if ?_ ?_)
      · skip
        refine zl_tr (r_iconst d_14_49 (by decide)) ?_
        exact r_iret d_14_50 rt_14
      · skip
        refine zl_tr (r_aload_n d_14_32 rfl) ?_
        refine zl_tr (r_getR d_14_33 ow_14 f_0_38 la_4 (by decide) fr_4_4) ?_
        refine zl_tr (r_getR d_14_36 ow_14 f_0_206 la_32 (by decide) fr_32_2) ?_
        refine zl_tr (r_iload_n d_14_39 rfl) ?_
        refine zl_tr (r_bipush d_14_40 (by decide)) ?_
        refine zl_tr (r_imul d_14_42) (zl_ck ?_)
        refine zl_tr (r_iload_n d_14_43 rfl) ?_
        refine zl_tr (r_iadd d_14_44) (zl_ck ?_)
        refine zl_tr (r_iaload d_14_45 la_33) (zl_ck ?_)
        refine zl_tr (r_goto (tgt := 50) d_14_46 (by decide)) ?_
        exact r_iret d_14_50 rt_14
-- BranTub.isLayer
set_option maxRecDepth 20000 in
theorem e_15 {h : zm_H} {x1 : Int} {t : Nat} (ht : zf_F t) : zl (if x1 < 0 then (zm_ck (zm_bit 0) (some (zm_I 0, h))) else (zm_ck (h 4 1 = (t : Int)) (if x1 < (h t 2) then (zm_ck (zm_bit 1) (some (zm_I 1, h))) else (zm_ck (zm_bit 0) (some (zm_I 0, h)))))) (zc 15 [zm_A 4, zm_I x1] h) := by
  rw [zc_eq (loc := [zm_A 4, zm_I x1]) (rk_15 _) rfl]
  refine zl_tr (r_iload_n d_15_0 rfl) ?_
  refine zl_tr (r_if_lt (tgt := 19) d_15_1 (by decide)) (zl_if ?_ ?_)
  · skip
    refine zl_tr (r_iconst d_15_19 (by decide)) ?_
    exact r_zret d_15_20 rt_15
  · skip
    refine zl_tr (r_iload_n d_15_4 rfl) ?_
    refine zl_tr (r_aload_n d_15_5 rfl) ?_
    refine zl_tr (r_getN (b := t) (kk := 1) d_15_6 ow_15 f_0_19 la_4 (by decide) (zf_3 ht) rfl) (zl_ck ?_)
    refine zl_tr (r_getI (kk := 2) d_15_9 ow_15 f_0_146 (zf_o ht) (by decide) rfl) ?_
    refine zl_tr (r_icmp_ge (tgt := 19) d_15_12 (by decide)) (zl_if ?_ ?_)
    · skip
      refine zl_tr (r_iconst d_15_15 (by decide)) ?_
      refine zl_tr (r_goto (tgt := 20) d_15_16 (by decide)) ?_
      exact r_zret d_15_20 rt_15
    · skip
      refine zl_tr (r_iconst d_15_19 (by decide)) ?_
      exact r_zret d_15_20 rt_15
-- BranTub.child
set_option maxRecDepth 20000 in
theorem e_16 {h : zm_H} {x1 : Int} {x2 : Int} {t : Nat} (ht : zf_F t) : zl (zk_I (zc 12 [zm_A 4, zm_I x1] h) (fun v1 h2 => if v1 = 0 then (some (zm_I (-1), h2)) else (if x2 = 0 then (zm_ck (h2 4 1 = (t : Int)) (zm_ck (0 ≤ x1 ∧ x1 < ((8 : Nat) : Int)) (some (zm_I (h2 (t + 6) x1), h2)))) else (if x2 = 1 then (zm_ck (h2 4 1 = (t : Int)) (zm_ck (0 ≤ x1 ∧ x1 < ((8 : Nat) : Int)) (some (zm_I (h2 (t + 7) x1), h2)))) else (if x2 = 2 then (zm_ck (h2 4 1 = (t : Int)) (zm_ck (0 ≤ x1 ∧ x1 < ((8 : Nat) : Int)) (some (zm_I (h2 (t + 8) x1), h2)))) else (if x2 = 3 then (zm_ck (0 ≤ x1 ∧ x1 < ((8 : Nat) : Int)) (some (zm_I (h2 34 x1), h2))) else (if x2 = 4 then (zk_I (zc 151 [zm_A 32, zm_I x1] h2) (fun v3 h4 => some (zm_I v3, h4))) else (if x2 = 5 then (zk_I (zc 17 [zm_A 4, zm_I x1] h2) (fun v5 h6 => some (zm_I v5, h6))) else (if x2 = 6 then (zk_V (zc 18 [zm_A 4, zm_I x1] h2) (fun h7 => some (zm_I (h7 128 3), h7))) else (some (zm_I (-1), h2))))))))))) (zc 16 [zm_A 4, zm_I x1, zm_I x2] h) := by
  rw [zc_eq (loc := [zm_A 4, zm_I x1, zm_I x2]) (rk_16 _) rfl]
  refine zl_tr (r_aload_n d_16_0 rfl) ?_
  refine zl_tr (r_iload_n d_16_1 rfl) ?_
  refine zl_tr (r_VI [zm_A 4, zm_I x1] d_16_2 ow_16 cal_0_182 na_12 rfl rfl (Nat.le_of_ble_eq_true rfl) (by rw [rk_12]; decide) (zr_rcv la_4 ow_12) (zr_im mx_12 rfl (Nat.le_of_ble_eq_true rfl)) (by rw [rt_12]; decide)) (zl_I (fun v1 h2 => ?_))
  refine zl_tr (r_if_ne (tgt := 10) d_16_5 (by decide)) (zl_if ?_ ?_)
  · skip
    refine zl_tr (r_iconst d_16_8 (by decide)) ?_
    exact r_iret d_16_9 rt_16
  · skip
    refine zl_tr (r_iload_n d_16_10 rfl) ?_
    refine zl_eq 0 (fun hx => ?_) (fun hx0 => ?_)
    · refine zl_tr (r_tsw (tgt := 52) d_16_11 (by rw [hx]; decide) (by decide)) ?_
      refine zl_tr (r_aload_n d_16_52 rfl) ?_
      refine zl_tr (r_getN (b := t) (kk := 1) d_16_53 ow_16 f_0_19 la_4 (by decide) (zf_3 ht) rfl) (zl_ck ?_)
      refine zl_tr (r_getR d_16_56 ow_16 f_0_209 (zf_o ht) (by decide) (zf_r10 ht)) ?_
      refine zl_tr (r_iload_n d_16_59 rfl) ?_
      refine zl_tr (r_iaload d_16_60 (zf_a6 ht)) (zl_ck ?_)
      exact r_iret d_16_61 rt_16
    refine zl_eq 1 (fun hx => ?_) (fun hx1 => ?_)
    · refine zl_tr (r_tsw (tgt := 62) d_16_11 (by rw [hx]; decide) (by decide)) ?_
      refine zl_tr (r_aload_n d_16_62 rfl) ?_
      refine zl_tr (r_getN (b := t) (kk := 1) d_16_63 ow_16 f_0_19 la_4 (by decide) (zf_3 ht) rfl) (zl_ck ?_)
      refine zl_tr (r_getR d_16_66 ow_16 f_0_211 (zf_o ht) (by decide) (zf_r11 ht)) ?_
      refine zl_tr (r_iload_n d_16_69 rfl) ?_
      refine zl_tr (r_iaload d_16_70 (zf_a7 ht)) (zl_ck ?_)
      exact r_iret d_16_71 rt_16
    refine zl_eq 2 (fun hx => ?_) (fun hx2 => ?_)
    · refine zl_tr (r_tsw (tgt := 72) d_16_11 (by rw [hx]; decide) (by decide)) ?_
      refine zl_tr (r_aload_n d_16_72 rfl) ?_
      refine zl_tr (r_getN (b := t) (kk := 1) d_16_73 ow_16 f_0_19 la_4 (by decide) (zf_3 ht) rfl) (zl_ck ?_)
      refine zl_tr (r_getR d_16_76 ow_16 f_0_214 (zf_o ht) (by decide) (zf_r12 ht)) ?_
      refine zl_tr (r_iload_n d_16_79 rfl) ?_
      refine zl_tr (r_iaload d_16_80 (zf_a8 ht)) (zl_ck ?_)
      exact r_iret d_16_81 rt_16
    refine zl_eq 3 (fun hx => ?_) (fun hx3 => ?_)
    · refine zl_tr (r_tsw (tgt := 82) d_16_11 (by rw [hx]; decide) (by decide)) ?_
      refine zl_tr (r_aload_n d_16_82 rfl) ?_
      refine zl_tr (r_getR d_16_83 ow_16 f_0_38 la_4 (by decide) fr_4_4) ?_
      refine zl_tr (r_getR d_16_86 ow_16 f_0_217 la_32 (by decide) fr_32_3) ?_
      refine zl_tr (r_iload_n d_16_89 rfl) ?_
      refine zl_tr (r_iaload d_16_90 la_34) (zl_ck ?_)
      exact r_iret d_16_91 rt_16
    refine zl_eq 4 (fun hx => ?_) (fun hx4 => ?_)
    · refine zl_tr (r_tsw (tgt := 92) d_16_11 (by rw [hx]; decide) (by decide)) ?_
      refine zl_tr (r_aload_n d_16_92 rfl) ?_
      refine zl_tr (r_getR d_16_93 ow_16 f_0_38 la_4 (by decide) fr_4_4) ?_
      refine zl_tr (r_iload_n d_16_96 rfl) ?_
      refine zl_tr (r_VI [zm_A 32, zm_I x1] d_16_97 ow_16 cal_0_220 na_151 rfl rfl (Nat.le_of_ble_eq_true rfl) (by rw [rk_151]; decide) (zr_rcv la_32 ow_151) (zr_im mx_151 rfl (Nat.le_of_ble_eq_true rfl)) (by rw [rt_151]; decide)) (zl_I (fun v3 h4 => ?_))
      exact r_iret d_16_100 rt_16
    refine zl_eq 5 (fun hx => ?_) (fun hx5 => ?_)
    · refine zl_tr (r_tsw (tgt := 101) d_16_11 (by rw [hx]; decide) (by decide)) ?_
      refine zl_tr (r_aload_n d_16_101 rfl) ?_
      refine zl_tr (r_iload_n d_16_102 rfl) ?_
      refine zl_tr (r_VI [zm_A 4, zm_I x1] d_16_103 ow_16 cal_0_223 na_17 rfl rfl (Nat.le_of_ble_eq_true rfl) (by rw [rk_17]; decide) (zr_rcv la_4 ow_17) (zr_im mx_17 rfl (Nat.le_of_ble_eq_true rfl)) (by rw [rt_17]; decide)) (zl_I (fun v5 h6 => ?_))
      exact r_iret d_16_106 rt_16
    refine zl_eq 6 (fun hx => ?_) (fun hx6 => ?_)
    · refine zl_tr (r_tsw (tgt := 107) d_16_11 (by rw [hx]; decide) (by decide)) ?_
      refine zl_tr (r_aload_n d_16_107 rfl) ?_
      refine zl_tr (r_iload_n d_16_108 rfl) ?_
      refine zl_tr (r_VV [zm_A 4, zm_I x1] d_16_109 ow_16 cal_0_226 na_18 rfl rfl (Nat.le_of_ble_eq_true rfl) (by rw [rk_18]; decide) (zr_rcv la_4 ow_18) (zr_im mx_18 rfl (Nat.le_of_ble_eq_true rfl)) rt_18) (zl_V (fun h7 => ?_))
      refine zl_tr (r_aload_n d_16_112 rfl) ?_
      refine zl_tr (r_getR d_16_113 ow_16 f_0_58 la_4 (by decide) fr_4_8) ?_
      refine zl_tr (r_getI (kk := 3) d_16_116 ow_16 f_0_229 la_128 (by decide) rfl) ?_
      exact r_iret d_16_119 rt_16
    refine zl_tr (r_tsw (tgt := 120) d_16_11 (by rw [if_pos (by omega)]; decide) (by decide)) ?_
    refine zl_tr (r_iconst d_16_120 (by decide)) ?_
    exact r_iret d_16_121 rt_16
-- BranTub.worthOfHad
set_option maxRecDepth 20000 in
theorem e_17 {h : zm_H} {x1 : Int} : zl (zr none 2 17 4 [zm_A 4, zm_I x1, zm_I 0, zm_I 0] [] h) (zc 17 [zm_A 4, zm_I x1] h) := by
  rw [zc_eq (loc := [zm_A 4, zm_I x1, zm_U, zm_U]) (rk_17 _) rfl]
  refine zl_tr (r_iconst d_17_0 (by decide)) ?_
  refine zl_tr (r_istore_n (loc' := [zm_A 4, zm_I x1, zm_I 0, zm_U]) d_17_1 (Nat.le_of_ble_eq_true rfl) rfl) ?_
  refine zl_tr (r_iconst d_17_2 (by decide)) ?_
  refine zl_tr (r_istore_n (loc' := [zm_A 4, zm_I x1, zm_I 0, zm_I 0]) d_17_3 (Nat.le_of_ble_eq_true rfl) rfl) ?_
  exact zl_rf
-- BranTub.worthOfHad, from 4
set_option maxRecDepth 20000 in
theorem e_17_4 {h : zm_H} {x1 : Int} {x2 : Int} {x3 : Int} {t : Nat} (ht : zf_F t) : zl (zm_ck (h 4 1 = (t : Int)) (if x3 < (h t 1) then (zm_ck (zm_i32 (x1 * 8)) (zm_ck (zm_i32 ((x1 * 8) + x3)) (zm_ck (0 ≤ ((x1 * 8) + x3) ∧ ((x1 * 8) + x3) < ((64 : Nat) : Int)) (zm_ck (h 4 1 = (t : Int)) (zk_I (zc 64 [zm_A t, zm_I x1, zm_I x3] h) (fun v1 h2 => zm_ck (zm_i32 ((h 35 ((x1 * 8) + x3)) * v1)) (zm_ck (zm_i32 (x2 + ((h 35 ((x1 * 8) + x3)) * v1))) (zm_ck (zm_i32 (x3 + 1)) (zr none 2 17 4 [zm_A 4, zm_I x1, zm_I (x2 + ((h 35 ((x1 * 8) + x3)) * v1)), zm_I (x3 + 1)] [] h2))))))))) else (some (zm_I x2, h)))) (zr none 2 17 4 [zm_A 4, zm_I x1, zm_I x2, zm_I x3] [] h) := by
  refine zl_tr (r_iload_n d_17_4 rfl) ?_
  refine zl_tr (r_aload_n d_17_5 rfl) ?_
  refine zl_tr (r_getN (b := t) (kk := 1) d_17_6 ow_17 f_0_19 la_4 (by decide) (zf_3 ht) rfl) (zl_ck ?_)
  refine zl_tr (r_getI (kk := 1) d_17_9 ow_17 f_0_143 (zf_o ht) (by decide) rfl) ?_
  refine zl_tr (r_icmp_ge (tgt := 48) d_17_12 (by decide)) (zl_if ?_ ?_)
  · skip
    refine zl_tr (r_iload_n d_17_15 rfl) ?_
    refine zl_tr (r_aload_n d_17_16 rfl) ?_
    refine zl_tr (r_getR d_17_17 ow_17 f_0_38 la_4 (by decide) fr_4_4) ?_
    refine zl_tr (r_getR d_17_20 ow_17 f_0_236 la_32 (by decide) fr_32_4) ?_
    refine zl_tr (r_iload_n d_17_23 rfl) ?_
    refine zl_tr (r_bipush d_17_24 (by decide)) ?_
    refine zl_tr (r_imul d_17_26) (zl_ck ?_)
    refine zl_tr (r_iload_n d_17_27 rfl) ?_
    refine zl_tr (r_iadd d_17_28) (zl_ck ?_)
    refine zl_tr (r_iaload d_17_29 la_35) (zl_ck ?_)
    refine zl_tr (r_aload_n d_17_30 rfl) ?_
    refine zl_tr (r_getN (b := t) (kk := 1) d_17_31 ow_17 f_0_19 la_4 (by decide) (zf_3 ht) rfl) (zl_ck ?_)
    refine zl_tr (r_iload_n d_17_34 rfl) ?_
    refine zl_tr (r_iload_n d_17_35 rfl) ?_
    refine zl_tr (r_VI [zm_A t, zm_I x1, zm_I x3] d_17_36 ow_17 cal_0_232 na_64 rfl rfl (Nat.le_of_ble_eq_true rfl) (by rw [rk_64]; decide) (zr_rcv (zf_o ht) ow_64) (zr_im mx_64 rfl (Nat.le_of_ble_eq_true rfl)) (by rw [rt_64]; decide)) (zl_I (fun v1 h2 => ?_))
    refine zl_tr (r_imul d_17_39) (zl_ck ?_)
    refine zl_tr (r_iadd d_17_40) (zl_ck ?_)
    refine zl_tr (r_istore_n (loc' := [zm_A 4, zm_I x1, zm_I (x2 + ((h 35 ((x1 * 8) + x3)) * v1)), zm_I x3]) d_17_41 (Nat.le_of_ble_eq_true rfl) rfl) ?_
    refine zl_tr (r_iinc (loc' := [zm_A 4, zm_I x1, zm_I (x2 + ((h 35 ((x1 * 8) + x3)) * v1)), zm_I (x3 + 1)]) d_17_42 rfl (Nat.le_of_ble_eq_true rfl) rfl) (zl_ck ?_)
    refine zl_tr (r_goto (tgt := 4) d_17_45 (by decide)) ?_
    exact zl_rf
  · skip
    refine zl_tr (r_iload_n d_17_48 rfl) ?_
    exact r_iret d_17_49 rt_17
-- BranTub.lookFor
set_option maxRecDepth 20000 in
theorem e_18 {h : zm_H} {x1 : Int} {t : Nat} (ht : zf_F t) : zl (zm_ck (h 4 1 = (t : Int)) (zk_V (zc 113 [zm_A 128, zm_A t, zm_A 32, zm_I x1, zm_A 1] h) (fun h1 => some (zm_U, h1)))) (zc 18 [zm_A 4, zm_I x1] h) := by
  rw [zc_eq (loc := [zm_A 4, zm_I x1]) (rk_18 _) rfl]
  refine zl_tr (r_aload_n d_18_0 rfl) ?_
  refine zl_tr (r_getR d_18_1 ow_18 f_0_58 la_4 (by decide) fr_4_8) ?_
  refine zl_tr (r_aload_n d_18_4 rfl) ?_
  refine zl_tr (r_getN (b := t) (kk := 1) d_18_5 ow_18 f_0_19 la_4 (by decide) (zf_3 ht) rfl) (zl_ck ?_)
  refine zl_tr (r_aload_n d_18_8 rfl) ?_
  refine zl_tr (r_getR d_18_9 ow_18 f_0_38 la_4 (by decide) fr_4_4) ?_
  refine zl_tr (r_iload_n d_18_12 rfl) ?_
  refine zl_tr (r_getstatic d_18_13 ow_18) ?_
  refine zl_tr (r_VV [zm_A 128, zm_A t, zm_A 32, zm_I x1, zm_A 1] d_18_16 ow_18 cal_0_333 na_113 rfl rfl (Nat.le_of_ble_eq_true rfl) (by rw [rk_113]; decide) (zr_rcv la_128 ow_113) (zr_im mx_113 rfl (Nat.le_of_ble_eq_true rfl)) rt_113) (zl_V (fun h1 => ?_))
  exact r_vret d_18_19 rt_18
-- BranTub.likes
set_option maxRecDepth 20000 in
theorem e_19 {h : zm_H} {x1 : Int} {x2 : Int} {x3 : Int} {t : Nat} (ht : zf_F t) : zl (zk_I (zc 12 [zm_A 4, zm_I x1] h) (fun v1 h2 => if v1 = 0 then (some (zm_I (-1), h2)) else (zk_I (zc 11 [zm_A 4, zm_I x2] h2) (fun v3 h4 => if v3 = 0 then (some (zm_I (-1), h4)) else (if x3 = 0 then (zm_ck (h4 4 1 = (t : Int)) (zk_I (zc 64 [zm_A t, zm_I x1, zm_I x2] h4) (fun v5 h6 => some (zm_I v5, h6)))) else (if x3 = 1 then (zm_ck (zm_i32 (x1 * 8)) (zm_ck (zm_i32 ((x1 * 8) + x2)) (zm_ck (0 ≤ ((x1 * 8) + x2) ∧ ((x1 * 8) + x2) < ((64 : Nat) : Int)) (some (zm_I (h4 35 ((x1 * 8) + x2)), h4))))) else (if x3 = 2 then (zk_V (zc 18 [zm_A 4, zm_I x1] h4) (fun h7 => zm_ck (0 ≤ x2 ∧ x2 < ((8 : Nat) : Int)) (some (zm_I (h7 129 x2), h7)))) else (some (zm_I (-1), h4))))))))) (zc 19 [zm_A 4, zm_I x1, zm_I x2, zm_I x3] h) := by
  rw [zc_eq (loc := [zm_A 4, zm_I x1, zm_I x2, zm_I x3]) (rk_19 _) rfl]
  refine zl_tr (r_aload_n d_19_0 rfl) ?_
  refine zl_tr (r_iload_n d_19_1 rfl) ?_
  refine zl_tr (r_VI [zm_A 4, zm_I x1] d_19_2 ow_19 cal_0_182 na_12 rfl rfl (Nat.le_of_ble_eq_true rfl) (by rw [rk_12]; decide) (zr_rcv la_4 ow_12) (zr_im mx_12 rfl (Nat.le_of_ble_eq_true rfl)) (by rw [rt_12]; decide)) (zl_I (fun v1 h2 => ?_))
  refine zl_tr (r_if_eq (tgt := 16) d_19_5 (by decide)) (zl_if ?_ ?_)
  · skip
    refine zl_tr (r_iconst d_19_16 (by decide)) ?_
    exact r_iret d_19_17 rt_19
  · skip
    refine zl_tr (r_aload_n d_19_8 rfl) ?_
    refine zl_tr (r_iload_n d_19_9 rfl) ?_
    refine zl_tr (r_VI [zm_A 4, zm_I x2] d_19_10 ow_19 cal_0_176 na_11 rfl rfl (Nat.le_of_ble_eq_true rfl) (by rw [rk_11]; decide) (zr_rcv la_4 ow_11) (zr_im mx_11 rfl (Nat.le_of_ble_eq_true rfl)) (by rw [rt_11]; decide)) (zl_I (fun v3 h4 => ?_))
    refine zl_tr (r_if_ne (tgt := 18) d_19_13 (by decide)) (zl_if ?_ ?_)
    · skip
      refine zl_tr (r_iconst d_19_16 (by decide)) ?_
      exact r_iret d_19_17 rt_19
    · skip
      refine zl_tr (r_iload_n d_19_18 rfl) ?_
      refine zl_eq 0 (fun hx => ?_) (fun hx0 => ?_)
      · refine zl_tr (r_tsw (tgt := 44) d_19_19 (by rw [hx]; decide) (by decide)) ?_
        refine zl_tr (r_aload_n d_19_44 rfl) ?_
        refine zl_tr (r_getN (b := t) (kk := 1) d_19_45 ow_19 f_0_19 la_4 (by decide) (zf_3 ht) rfl) (zl_ck ?_)
        refine zl_tr (r_iload_n d_19_48 rfl) ?_
        refine zl_tr (r_iload_n d_19_49 rfl) ?_
        refine zl_tr (r_VI [zm_A t, zm_I x1, zm_I x2] d_19_50 ow_19 cal_0_232 na_64 rfl rfl (Nat.le_of_ble_eq_true rfl) (by rw [rk_64]; decide) (zr_rcv (zf_o ht) ow_64) (zr_im mx_64 rfl (Nat.le_of_ble_eq_true rfl)) (by rw [rt_64]; decide)) (zl_I (fun v5 h6 => ?_))
        exact r_iret d_19_53 rt_19
      refine zl_eq 1 (fun hx => ?_) (fun hx1 => ?_)
      · refine zl_tr (r_tsw (tgt := 54) d_19_19 (by rw [hx]; decide) (by decide)) ?_
        refine zl_tr (r_aload_n d_19_54 rfl) ?_
        refine zl_tr (r_getR d_19_55 ow_19 f_0_38 la_4 (by decide) fr_4_4) ?_
        refine zl_tr (r_getR d_19_58 ow_19 f_0_236 la_32 (by decide) fr_32_4) ?_
        refine zl_tr (r_iload_n d_19_61 rfl) ?_
        refine zl_tr (r_bipush d_19_62 (by decide)) ?_
        refine zl_tr (r_imul d_19_64) (zl_ck ?_)
        refine zl_tr (r_iload_n d_19_65 rfl) ?_
        refine zl_tr (r_iadd d_19_66) (zl_ck ?_)
        refine zl_tr (r_iaload d_19_67 la_35) (zl_ck ?_)
        exact r_iret d_19_68 rt_19
      refine zl_eq 2 (fun hx => ?_) (fun hx2 => ?_)
      · refine zl_tr (r_tsw (tgt := 69) d_19_19 (by rw [hx]; decide) (by decide)) ?_
        refine zl_tr (r_aload_n d_19_69 rfl) ?_
        refine zl_tr (r_iload_n d_19_70 rfl) ?_
        refine zl_tr (r_VV [zm_A 4, zm_I x1] d_19_71 ow_19 cal_0_226 na_18 rfl rfl (Nat.le_of_ble_eq_true rfl) (by rw [rk_18]; decide) (zr_rcv la_4 ow_18) (zr_im mx_18 rfl (Nat.le_of_ble_eq_true rfl)) rt_18) (zl_V (fun h7 => ?_))
        refine zl_tr (r_aload_n d_19_74 rfl) ?_
        refine zl_tr (r_getR d_19_75 ow_19 f_0_58 la_4 (by decide) fr_4_8) ?_
        refine zl_tr (r_getR d_19_78 ow_19 f_0_239 la_128 (by decide) fr_128_0) ?_
        refine zl_tr (r_iload_n d_19_81 rfl) ?_
        refine zl_tr (r_iaload d_19_82 la_129) (zl_ck ?_)
        exact r_iret d_19_83 rt_19
      refine zl_tr (r_tsw (tgt := 84) d_19_19 (by rw [if_pos (by omega)]; decide) (by decide)) ?_
      refine zl_tr (r_iconst d_19_84 (by decide)) ?_
      exact r_iret d_19_85 rt_19
-- BranTub.likely
set_option maxRecDepth 20000 in
theorem e_20 {h : zm_H} {x1 : Int} {x2 : Int} : zl (zk_I (zc 12 [zm_A 4, zm_I x1] h) (fun v1 h2 => if v1 = 0 then (some (zm_I (-1), h2)) else (zk_I (zc 11 [zm_A 4, zm_I x2] h2) (fun v3 h4 => if v3 = 0 then (some (zm_I (-1), h4)) else (zk_V (zc 18 [zm_A 4, zm_I x1] h4) (fun h5 => zm_ck (0 ≤ x2 ∧ x2 < ((8 : Nat) : Int)) (zk_I (zc 21 [zm_L (h5 129 x2), zm_L (h5 128 3)] h5) (fun v6 h7 => some (zm_I v6, h7))))))))) (zc 20 [zm_A 4, zm_I x1, zm_I x2] h) := by
  rw [zc_eq (loc := [zm_A 4, zm_I x1, zm_I x2]) (rk_20 _) rfl]
  refine zl_tr (r_aload_n d_20_0 rfl) ?_
  refine zl_tr (r_iload_n d_20_1 rfl) ?_
  refine zl_tr (r_VI [zm_A 4, zm_I x1] d_20_2 ow_20 cal_0_182 na_12 rfl rfl (Nat.le_of_ble_eq_true rfl) (by rw [rk_12]; decide) (zr_rcv la_4 ow_12) (zr_im mx_12 rfl (Nat.le_of_ble_eq_true rfl)) (by rw [rt_12]; decide)) (zl_I (fun v1 h2 => ?_))
  refine zl_tr (r_if_eq (tgt := 16) d_20_5 (by decide)) (zl_if ?_ ?_)
  · skip
    refine zl_tr (r_iconst d_20_16 (by decide)) ?_
    exact r_iret d_20_17 rt_20
  · skip
    refine zl_tr (r_aload_n d_20_8 rfl) ?_
    refine zl_tr (r_iload_n d_20_9 rfl) ?_
    refine zl_tr (r_VI [zm_A 4, zm_I x2] d_20_10 ow_20 cal_0_176 na_11 rfl rfl (Nat.le_of_ble_eq_true rfl) (by rw [rk_11]; decide) (zr_rcv la_4 ow_11) (zr_im mx_11 rfl (Nat.le_of_ble_eq_true rfl)) (by rw [rt_11]; decide)) (zl_I (fun v3 h4 => ?_))
    refine zl_tr (r_if_ne (tgt := 18) d_20_13 (by decide)) (zl_if ?_ ?_)
    · skip
      refine zl_tr (r_iconst d_20_16 (by decide)) ?_
      exact r_iret d_20_17 rt_20
    · skip
      refine zl_tr (r_aload_n d_20_18 rfl) ?_
      refine zl_tr (r_iload_n d_20_19 rfl) ?_
      refine zl_tr (r_VV [zm_A 4, zm_I x1] d_20_20 ow_20 cal_0_226 na_18 rfl rfl (Nat.le_of_ble_eq_true rfl) (by rw [rk_18]; decide) (zr_rcv la_4 ow_18) (zr_im mx_18 rfl (Nat.le_of_ble_eq_true rfl)) rt_18) (zl_V (fun h5 => ?_))
      refine zl_tr (r_aload_n d_20_23 rfl) ?_
      refine zl_tr (r_getR d_20_24 ow_20 f_0_58 la_4 (by decide) fr_4_8) ?_
      refine zl_tr (r_getR d_20_27 ow_20 f_0_239 la_128 (by decide) fr_128_0) ?_
      refine zl_tr (r_iload_n d_20_30 rfl) ?_
      refine zl_tr (r_iaload d_20_31 la_129) (zl_ck ?_)
      refine zl_tr (r_i2l d_20_32) ?_
      refine zl_tr (r_aload_n d_20_33 rfl) ?_
      refine zl_tr (r_getR d_20_34 ow_20 f_0_58 la_4 (by decide) fr_4_8) ?_
      refine zl_tr (r_getI (kk := 3) d_20_37 ow_20 f_0_229 la_128 (by decide) rfl) ?_
      refine zl_tr (r_i2l d_20_40) ?_
      refine zl_tr (r_SI [zm_L (h5 129 x2), zm_L (h5 128 3)] d_20_41 ow_20 cal_0_242 (by decide) na_21 rfl rfl (Nat.le_of_ble_eq_true rfl) (by rw [rk_21]; decide) (zr_im mx_21 rfl (Nat.le_of_ble_eq_true rfl)) (by rw [rt_21]; decide)) (zl_I (fun v6 h7 => ?_))
      exact r_iret d_20_44 rt_20
-- BranTub.thousandths
set_option maxRecDepth 20000 in
theorem e_21 {h : zm_H} {x1 : Int} {x2 : Int} : zl (if 0 < (if x2 < 0 then -1 else if x2 = 0 then 0 else 1) then (zm_ck ((x2 : Int) ≠ 0 ∧ zm_i64 (x1.tdiv x2)) (zm_ck (zm_i64 ((x1.tdiv x2) * 1000)) (zm_ck ((x2 : Int) ≠ 0 ∧ zm_i64 (x1.tdiv x2) ∧ zm_i64 (x1.tmod x2)) (zm_ck (zm_i64 ((x1.tmod x2) * 1000)) (zm_ck ((x2 : Int) ≠ 0 ∧ zm_i64 (((x1.tmod x2) * 1000).tdiv x2)) (zm_ck (zm_i64 (((x1.tdiv x2) * 1000) + (((x1.tmod x2) * 1000).tdiv x2))) (zm_ck (zm_i32 (((x1.tdiv x2) * 1000) + (((x1.tmod x2) * 1000).tdiv x2))) (some (zm_I (((x1.tdiv x2) * 1000) + (((x1.tmod x2) * 1000).tdiv x2)), h))))))))) else (some (zm_I (-1), h))) (zc 21 [zm_L x1, zm_L x2] h) := by
  rw [zc_eq (loc := [zm_L x1, zm_U, zm_L x2, zm_U]) (rk_21 _) rfl]
  refine zl_tr (r_lload_n d_21_0 rfl) ?_
  refine zl_tr (r_lconst (z := 0) d_21_1 rfl) ?_
  refine zl_tr (r_lcmp d_21_2) ?_
  refine zl_tr (r_if_gt (tgt := 8) d_21_3 (by decide)) (zl_if ?_ ?_)
  · skip
    refine zl_tr (r_lload_n d_21_8 rfl) ?_
    refine zl_tr (r_lload_n d_21_9 rfl) ?_
    refine zl_tr (r_ldiv d_21_10) (zl_ck ?_)
    refine zl_tr (r_ldc2 d_21_11 ow_21 lng_0_337) ?_
    refine zl_tr (r_lmul d_21_14) (zl_ck ?_)
    refine zl_tr (r_lload_n d_21_15 rfl) ?_
    refine zl_tr (r_lload_n d_21_16 rfl) ?_
    refine zl_tr (r_lrem d_21_17) (zl_ck ?_)
    refine zl_tr (r_ldc2 d_21_18 ow_21 lng_0_337) ?_
    refine zl_tr (r_lmul d_21_21) (zl_ck ?_)
    refine zl_tr (r_lload_n d_21_22 rfl) ?_
    refine zl_tr (r_ldiv d_21_23) (zl_ck ?_)
    refine zl_tr (r_ladd d_21_24) (zl_ck ?_)
    refine zl_tr (r_l2i d_21_25) (zl_ck ?_)
    exact r_iret d_21_26 rt_21
  · skip
    refine zl_tr (r_iconst d_21_6 (by decide)) ?_
    exact r_iret d_21_7 rt_21
-- BranTub.takes
set_option maxRecDepth 20000 in
theorem e_22 {h : zm_H} {x1 : Int} {x2 : Int} : zl (zk_I (zc 12 [zm_A 4, zm_I x1] h) (fun v1 h2 => if v1 = 0 then (some (zm_I (-1), h2)) else (zk_I (zc 11 [zm_A 4, zm_I x2] h2) (fun v3 h4 => if v3 = 0 then (some (zm_I (-1), h4)) else (zk_V (zc 18 [zm_A 4, zm_I x1] h4) (fun h5 => zk_L (zc 114 [zm_A 128, zm_I x2] h5) (fun v6 h7 => zk_L (zc 116 [zm_A 128] h7) (fun v8 h9 => zk_I (zc 21 [zm_L v6, zm_L v8] h9) (fun v10 h11 => some (zm_I v10, h11)))))))))) (zc 22 [zm_A 4, zm_I x1, zm_I x2] h) := by
  rw [zc_eq (loc := [zm_A 4, zm_I x1, zm_I x2]) (rk_22 _) rfl]
  refine zl_tr (r_aload_n d_22_0 rfl) ?_
  refine zl_tr (r_iload_n d_22_1 rfl) ?_
  refine zl_tr (r_VI [zm_A 4, zm_I x1] d_22_2 ow_22 cal_0_182 na_12 rfl rfl (Nat.le_of_ble_eq_true rfl) (by rw [rk_12]; decide) (zr_rcv la_4 ow_12) (zr_im mx_12 rfl (Nat.le_of_ble_eq_true rfl)) (by rw [rt_12]; decide)) (zl_I (fun v1 h2 => ?_))
  refine zl_tr (r_if_eq (tgt := 16) d_22_5 (by decide)) (zl_if ?_ ?_)
  · skip
    refine zl_tr (r_iconst d_22_16 (by decide)) ?_
    exact r_iret d_22_17 rt_22
  · skip
    refine zl_tr (r_aload_n d_22_8 rfl) ?_
    refine zl_tr (r_iload_n d_22_9 rfl) ?_
    refine zl_tr (r_VI [zm_A 4, zm_I x2] d_22_10 ow_22 cal_0_176 na_11 rfl rfl (Nat.le_of_ble_eq_true rfl) (by rw [rk_11]; decide) (zr_rcv la_4 ow_11) (zr_im mx_11 rfl (Nat.le_of_ble_eq_true rfl)) (by rw [rt_11]; decide)) (zl_I (fun v3 h4 => ?_))
    refine zl_tr (r_if_ne (tgt := 18) d_22_13 (by decide)) (zl_if ?_ ?_)
    · skip
      refine zl_tr (r_iconst d_22_16 (by decide)) ?_
      exact r_iret d_22_17 rt_22
    · skip
      refine zl_tr (r_aload_n d_22_18 rfl) ?_
      refine zl_tr (r_iload_n d_22_19 rfl) ?_
      refine zl_tr (r_VV [zm_A 4, zm_I x1] d_22_20 ow_22 cal_0_226 na_18 rfl rfl (Nat.le_of_ble_eq_true rfl) (by rw [rk_18]; decide) (zr_rcv la_4 ow_18) (zr_im mx_18 rfl (Nat.le_of_ble_eq_true rfl)) rt_18) (zl_V (fun h5 => ?_))
      refine zl_tr (r_aload_n d_22_23 rfl) ?_
      refine zl_tr (r_getR d_22_24 ow_22 f_0_58 la_4 (by decide) fr_4_8) ?_
      refine zl_tr (r_iload_n d_22_27 rfl) ?_
      refine zl_tr (r_VL [zm_A 128, zm_I x2] d_22_28 ow_22 cal_0_246 na_114 rfl rfl (Nat.le_of_ble_eq_true rfl) (by rw [rk_114]; decide) (zr_rcv la_128 ow_114) (zr_im mx_114 rfl (Nat.le_of_ble_eq_true rfl)) rt_114) (zl_L (fun v6 h7 => ?_))
      refine zl_tr (r_aload_n d_22_31 rfl) ?_
      refine zl_tr (r_getR d_22_32 ow_22 f_0_58 la_4 (by decide) fr_4_8) ?_
      refine zl_tr (r_VL [zm_A 128] d_22_35 ow_22 cal_0_250 na_116 rfl rfl (Nat.le_of_ble_eq_true rfl) (by rw [rk_116]; decide) (zr_rcv la_128 ow_116) (zr_im mx_116 rfl (Nat.le_of_ble_eq_true rfl)) rt_116) (zl_L (fun v8 h9 => ?_))
      refine zl_tr (r_SI [zm_L v6, zm_L v8] d_22_38 ow_22 cal_0_242 (by decide) na_21 rfl rfl (Nat.le_of_ble_eq_true rfl) (by rw [rk_21]; decide) (zr_im mx_21 rfl (Nat.le_of_ble_eq_true rfl)) (by rw [rt_21]; decide)) (zl_I (fun v10 h11 => ?_))
      exact r_iret d_22_41 rt_22
-- BranTub.mean
set_option maxRecDepth 20000 in
theorem e_23 {h : zm_H} {x1 : Int} : zl (zk_I (zc 12 [zm_A 4, zm_I x1] h) (fun v1 h2 => if v1 = 0 then (some (zm_I (-1), h2)) else (zk_V (zc 18 [zm_A 4, zm_I x1] h2) (fun h3 => zk_L (zc 117 [zm_A 128] h3) (fun v4 h5 => zk_L (zc 116 [zm_A 128] h5) (fun v6 h7 => zk_I (zc 21 [zm_L v4, zm_L v6] h7) (fun v8 h9 => some (zm_I v8, h9)))))))) (zc 23 [zm_A 4, zm_I x1] h) := by
  rw [zc_eq (loc := [zm_A 4, zm_I x1]) (rk_23 _) rfl]
  refine zl_tr (r_aload_n d_23_0 rfl) ?_
  refine zl_tr (r_iload_n d_23_1 rfl) ?_
  refine zl_tr (r_VI [zm_A 4, zm_I x1] d_23_2 ow_23 cal_0_182 na_12 rfl rfl (Nat.le_of_ble_eq_true rfl) (by rw [rk_12]; decide) (zr_rcv la_4 ow_12) (zr_im mx_12 rfl (Nat.le_of_ble_eq_true rfl)) (by rw [rt_12]; decide)) (zl_I (fun v1 h2 => ?_))
  refine zl_tr (r_if_ne (tgt := 10) d_23_5 (by decide)) (zl_if ?_ ?_)
  · skip
    refine zl_tr (r_iconst d_23_8 (by decide)) ?_
    exact r_iret d_23_9 rt_23
  · skip
    refine zl_tr (r_aload_n d_23_10 rfl) ?_
    refine zl_tr (r_iload_n d_23_11 rfl) ?_
    refine zl_tr (r_VV [zm_A 4, zm_I x1] d_23_12 ow_23 cal_0_226 na_18 rfl rfl (Nat.le_of_ble_eq_true rfl) (by rw [rk_18]; decide) (zr_rcv la_4 ow_18) (zr_im mx_18 rfl (Nat.le_of_ble_eq_true rfl)) rt_18) (zl_V (fun h3 => ?_))
    refine zl_tr (r_aload_n d_23_15 rfl) ?_
    refine zl_tr (r_getR d_23_16 ow_23 f_0_58 la_4 (by decide) fr_4_8) ?_
    refine zl_tr (r_VL [zm_A 128] d_23_19 ow_23 cal_0_254 na_117 rfl rfl (Nat.le_of_ble_eq_true rfl) (by rw [rk_117]; decide) (zr_rcv la_128 ow_117) (zr_im mx_117 rfl (Nat.le_of_ble_eq_true rfl)) rt_117) (zl_L (fun v4 h5 => ?_))
    refine zl_tr (r_aload_n d_23_22 rfl) ?_
    refine zl_tr (r_getR d_23_23 ow_23 f_0_58 la_4 (by decide) fr_4_8) ?_
    refine zl_tr (r_VL [zm_A 128] d_23_26 ow_23 cal_0_250 na_116 rfl rfl (Nat.le_of_ble_eq_true rfl) (by rw [rk_116]; decide) (zr_rcv la_128 ow_116) (zr_im mx_116 rfl (Nat.le_of_ble_eq_true rfl)) rt_116) (zl_L (fun v6 h7 => ?_))
    refine zl_tr (r_SI [zm_L v4, zm_L v6] d_23_29 ow_23 cal_0_242 (by decide) na_21 rfl rfl (Nat.le_of_ble_eq_true rfl) (by rw [rk_21]; decide) (zr_im mx_21 rfl (Nat.le_of_ble_eq_true rfl)) (by rw [rt_21]; decide)) (zl_I (fun v8 h9 => ?_))
    exact r_iret d_23_32 rt_23
-- BranTub.comes
set_option maxRecDepth 20000 in
theorem e_24 {h : zm_H} {x1 : Int} {x2 : Int} : zl (zk_I (zc 12 [zm_A 4, zm_I x1] h) (fun v1 h2 => if v1 = 0 then (some (zm_I (-1), h2)) else (if x2 < 0 then (some (zm_I (-1), h2)) else (if x2 ≤ 99 then (zk_I (zc 25 [zm_A 4, zm_I x1] h2) (fun v3 h4 => if v3 < x2 then (some (zm_I 0, h4)) else (some (zm_I 1, h4)))) else (some (zm_I (-1), h2)))))) (zc 24 [zm_A 4, zm_I x1, zm_I x2] h) := by
  rw [zc_eq (loc := [zm_A 4, zm_I x1, zm_I x2]) (rk_24 _) rfl]
  refine zl_tr (r_aload_n d_24_0 rfl) ?_
  refine zl_tr (r_iload_n d_24_1 rfl) ?_
  refine zl_tr (r_VI [zm_A 4, zm_I x1] d_24_2 ow_24 cal_0_182 na_12 rfl rfl (Nat.le_of_ble_eq_true rfl) (by rw [rk_12]; decide) (zr_rcv la_4 ow_12) (zr_im mx_12 rfl (Nat.le_of_ble_eq_true rfl)) (by rw [rt_12]; decide)) (zl_I (fun v1 h2 => ?_))
  refine zl_tr (r_if_eq (tgt := 18) d_24_5 (by decide)) (zl_if ?_ ?_)
  · skip
    refine zl_tr (r_iconst d_24_18 (by decide)) ?_
    exact r_iret d_24_19 rt_24
  · skip
    refine zl_tr (r_iload_n d_24_8 rfl) ?_
    refine zl_tr (r_if_lt (tgt := 18) d_24_9 (by decide)) (zl_if ?_ ?_)
    · skip
      refine zl_tr (r_iconst d_24_18 (by decide)) ?_
      exact r_iret d_24_19 rt_24
    · skip
      refine zl_tr (r_iload_n d_24_12 rfl) ?_
      refine zl_tr (r_bipush d_24_13 (by decide)) ?_
      refine zl_tr (r_icmp_le (tgt := 20) d_24_15 (by decide)) (zl_if ?_ ?_)
      · skip
        refine zl_tr (r_iload_n d_24_20 rfl) ?_
        refine zl_tr (r_aload_n d_24_21 rfl) ?_
        refine zl_tr (r_iload_n d_24_22 rfl) ?_
        refine zl_tr (r_VI [zm_A 4, zm_I x1] d_24_23 ow_24 cal_0_257 na_25 rfl rfl (Nat.le_of_ble_eq_true rfl) (by rw [rk_25]; decide) (zr_rcv la_4 ow_25) (zr_im mx_25 rfl (Nat.le_of_ble_eq_true rfl)) (by rw [rt_25]; decide)) (zl_I (fun v3 h4 => ?_))
        refine zl_tr (r_icmp_gt (tgt := 33) d_24_26 (by decide)) (zl_if ?_ ?_)
        · skip
          refine zl_tr (r_iconst d_24_33 (by decide)) ?_
          exact r_iret d_24_34 rt_24
        · skip
          refine zl_tr (r_iconst d_24_29 (by decide)) ?_
          refine zl_tr (r_goto (tgt := 34) d_24_30 (by decide)) ?_
          exact r_iret d_24_34 rt_24
      · skip
        refine zl_tr (r_iconst d_24_18 (by decide)) ?_
        exact r_iret d_24_19 rt_24
-- BranTub.paysAtMost
set_option maxRecDepth 20000 in
theorem e_25 {h : zm_H} {x1 : Int} : zl (zk_I (zc 26 [zm_A 4, zm_I x1] h) (fun v1 h2 => zm_ck (0 ≤ x1 ∧ x1 < ((8 : Nat) : Int)) (some (zm_I (min v1 (h2 34 x1)), h2)))) (zc 25 [zm_A 4, zm_I x1] h) := by
  rw [zc_eq (loc := [zm_A 4, zm_I x1]) (rk_25 _) rfl]
  refine zl_tr (r_aload_n d_25_0 rfl) ?_
  refine zl_tr (r_iload_n d_25_1 rfl) ?_
  refine zl_tr (r_VI [zm_A 4, zm_I x1] d_25_2 ow_25 cal_0_339 na_26 rfl rfl (Nat.le_of_ble_eq_true rfl) (by rw [rk_26]; decide) (zr_rcv la_4 ow_26) (zr_im mx_26 rfl (Nat.le_of_ble_eq_true rfl)) (by rw [rt_26]; decide)) (zl_I (fun v1 h2 => ?_))
  refine zl_tr (r_aload_n d_25_5 rfl) ?_
  refine zl_tr (r_getR d_25_6 ow_25 f_0_38 la_4 (by decide) fr_4_4) ?_
  refine zl_tr (r_getR d_25_9 ow_25 f_0_217 la_32 (by decide) fr_32_3) ?_
  refine zl_tr (r_iload_n d_25_12 rfl) ?_
  refine zl_tr (r_iaload d_25_13 la_34) (zl_ck ?_)
  refine zl_tr (r_mmin d_25_14 ow_25 cal_0_342 (Nat.le_of_ble_eq_true rfl) (by decide)) ?_
  exact r_iret d_25_17 rt_25
-- BranTub.meanFloor
set_option maxRecDepth 20000 in
theorem e_26 {h : zm_H} {x1 : Int} : zl (zk_V (zc 18 [zm_A 4, zm_I x1] h) (fun h1 => zk_L (zc 116 [zm_A 128] h1) (fun v2 h3 => if 0 < (if v2 < 0 then -1 else if v2 = 0 then 0 else 1) then (zk_L (zc 117 [zm_A 128] h3) (fun v4 h5 => zm_ck ((v2 : Int) ≠ 0 ∧ zm_i64 (v4.tdiv v2)) (zm_ck (zm_i32 (v4.tdiv v2)) (some (zm_I (v4.tdiv v2), h5))))) else (some (zm_I (-1), h3))))) (zc 26 [zm_A 4, zm_I x1] h) := by
  rw [zc_eq (loc := [zm_A 4, zm_I x1, zm_U, zm_U]) (rk_26 _) rfl]
  refine zl_tr (r_aload_n d_26_0 rfl) ?_
  refine zl_tr (r_iload_n d_26_1 rfl) ?_
  refine zl_tr (r_VV [zm_A 4, zm_I x1] d_26_2 ow_26 cal_0_226 na_18 rfl rfl (Nat.le_of_ble_eq_true rfl) (by rw [rk_18]; decide) (zr_rcv la_4 ow_18) (zr_im mx_18 rfl (Nat.le_of_ble_eq_true rfl)) rt_18) (zl_V (fun h1 => ?_))
  refine zl_tr (r_aload_n d_26_5 rfl) ?_
  refine zl_tr (r_getR d_26_6 ow_26 f_0_58 la_4 (by decide) fr_4_8) ?_
  refine zl_tr (r_VL [zm_A 128] d_26_9 ow_26 cal_0_250 na_116 rfl rfl (Nat.le_of_ble_eq_true rfl) (by rw [rk_116]; decide) (zr_rcv la_128 ow_116) (zr_im mx_116 rfl (Nat.le_of_ble_eq_true rfl)) rt_116) (zl_L (fun v2 h3 => ?_))
  refine zl_tr (r_lstore_n (loc' := [zm_A 4, zm_I x1, zm_L v2, zm_U]) d_26_12 (Nat.le_of_ble_eq_true rfl) rfl) ?_
  refine zl_tr (r_lload_n d_26_13 rfl) ?_
  refine zl_tr (r_lconst (z := 0) d_26_14 rfl) ?_
  refine zl_tr (r_lcmp d_26_15) ?_
  refine zl_tr (r_if_gt (tgt := 23) d_26_16 (by decide)) (zl_if ?_ ?_)
  · skip
    refine zl_tr (r_aload_n d_26_23 rfl) ?_
    refine zl_tr (r_getR d_26_24 ow_26 f_0_58 la_4 (by decide) fr_4_8) ?_
    refine zl_tr (r_VL [zm_A 128] d_26_27 ow_26 cal_0_254 na_117 rfl rfl (Nat.le_of_ble_eq_true rfl) (by rw [rk_117]; decide) (zr_rcv la_128 ow_117) (zr_im mx_117 rfl (Nat.le_of_ble_eq_true rfl)) rt_117) (zl_L (fun v4 h5 => ?_))
    refine zl_tr (r_lload_n d_26_30 rfl) ?_
    refine zl_tr (r_ldiv d_26_31) (zl_ck ?_)
    refine zl_tr (r_l2i d_26_32) (zl_ck ?_)
    exact r_iret d_26_33 rt_26
  · skip
    refine zl_tr (r_iconst d_26_19 (by decide)) ?_
    refine zl_tr (r_goto (tgt := 33) d_26_20 (by decide)) ?_
    exact r_iret d_26_33 rt_26
-- BranTub.price
set_option maxRecDepth 20000 in
theorem e_27 {h : zm_H} {x1 : Int} : zl (zr none 7 27 7 [zm_A 4, zm_I x1, zm_I 0, zm_I 0, zm_I 0, zm_U] [] h) (zc 27 [zm_A 4, zm_I x1] h) := by
  rw [zc_eq (loc := [zm_A 4, zm_I x1, zm_U, zm_U, zm_U, zm_U]) (rk_27 _) rfl]
  refine zl_tr (r_iconst d_27_0 (by decide)) ?_
  refine zl_tr (r_istore_n (loc' := [zm_A 4, zm_I x1, zm_I 0, zm_U, zm_U, zm_U]) d_27_1 (Nat.le_of_ble_eq_true rfl) rfl) ?_
  refine zl_tr (r_iconst d_27_2 (by decide)) ?_
  refine zl_tr (r_istore_n (loc' := [zm_A 4, zm_I x1, zm_I 0, zm_I 0, zm_U, zm_U]) d_27_3 (Nat.le_of_ble_eq_true rfl) rfl) ?_
  refine zl_tr (r_iconst d_27_4 (by decide)) ?_
  refine zl_tr (r_istore (loc' := [zm_A 4, zm_I x1, zm_I 0, zm_I 0, zm_I 0, zm_U]) d_27_5 (Nat.le_of_ble_eq_true rfl) rfl) ?_
  exact zl_rf
-- BranTub.price, from 7
set_option maxRecDepth 20000 in
theorem e_27_7 {h : zm_H} {x1 : Int} {x2 : Int} {x3 : Int} {x4 : Int} {w5 : zm_V} {t : Nat} (ht : zf_F t) : zl (zm_ck (h 4 1 = (t : Int)) (if x4 < (h t 3) then (zk_I (zc 25 [zm_A 4, zm_I x4] h) (fun v1 h2 => zm_ck (0 ≤ x4 ∧ x4 < ((8 : Nat) : Int)) (zm_ck (zm_i32 (x4 + 1)) (zr none 7 27 7 [zm_A 4, zm_I x1, zm_I x2, zm_I x3, zm_I (x4 + 1), w5] [] (zm_wr h2 144 x4 v1))))) else (zr none 7 27 41 [zm_A 4, zm_I x1, zm_I x2, zm_I x3, zm_I 1, w5] [] h))) (zr none 7 27 7 [zm_A 4, zm_I x1, zm_I x2, zm_I x3, zm_I x4, w5] [] h) := by
  refine zl_tr (r_iload d_27_7 rfl) ?_
  refine zl_tr (r_aload_n d_27_9 rfl) ?_
  refine zl_tr (r_getN (b := t) (kk := 1) d_27_10 ow_27 f_0_19 la_4 (by decide) (zf_3 ht) rfl) (zl_ck ?_)
  refine zl_tr (r_getI (kk := 3) d_27_13 ow_27 f_0_149 (zf_o ht) (by decide) rfl) ?_
  refine zl_tr (r_icmp_ge (tgt := 38) d_27_16 (by decide)) (zl_if ?_ ?_)
  · skip
    refine zl_tr (r_aload_n d_27_19 rfl) ?_
    refine zl_tr (r_getR d_27_20 ow_27 f_0_94 la_4 (by decide) fr_4_14) ?_
    refine zl_tr (r_iload d_27_23 rfl) ?_
    refine zl_tr (r_aload_n d_27_25 rfl) ?_
    refine zl_tr (r_iload d_27_26 rfl) ?_
    refine zl_tr (r_VI [zm_A 4, zm_I x4] d_27_28 ow_27 cal_0_257 na_25 rfl rfl (Nat.le_of_ble_eq_true rfl) (by rw [rk_25]; decide) (zr_rcv la_4 ow_25) (zr_im mx_25 rfl (Nat.le_of_ble_eq_true rfl)) (by rw [rt_25]; decide)) (zl_I (fun v1 h2 => ?_))
    refine zl_tr (r_iastore d_27_31 la_144) (zl_ck ?_)
    refine zl_tr (r_iinc (loc' := [zm_A 4, zm_I x1, zm_I x2, zm_I x3, zm_I (x4 + 1), w5]) d_27_32 rfl (Nat.le_of_ble_eq_true rfl) rfl) (zl_ck ?_)
    refine zl_tr (r_goto (tgt := 7) d_27_35 (by decide)) ?_
    exact zl_rf
  · skip
    refine zl_tr (r_iconst d_27_38 (by decide)) ?_
    refine zl_tr (r_istore (loc' := [zm_A 4, zm_I x1, zm_I x2, zm_I x3, zm_I 1, w5]) d_27_39 (Nat.le_of_ble_eq_true rfl) rfl) ?_
    exact zl_rf
-- BranTub.price, from 41
set_option maxRecDepth 20000 in
theorem e_27_41 {h : zm_H} {x1 : Int} {x2 : Int} {x3 : Int} {x4 : Int} {w5 : zm_V} : zl (if 99 < x4 then (if x1 = 0 then (some (zm_I x2, h)) else (if x1 = 1 then (some (zm_I x3, h)) else (some (zm_I (-1), h)))) else (zk_I (zc 28 [zm_A 4, zm_I x4] h) (fun v1 h2 => if v1 ≤ x3 then (zm_ck (zm_i32 (x4 + 1)) (zr none 7 27 41 [zm_A 4, zm_I x1, zm_I x2, zm_I x3, zm_I (x4 + 1), zm_I v1] [] h2)) else (zm_ck (zm_i32 (x4 + 1)) (zr none 7 27 41 [zm_A 4, zm_I x1, zm_I x4, zm_I v1, zm_I (x4 + 1), zm_I v1] [] h2))))) (zr none 7 27 41 [zm_A 4, zm_I x1, zm_I x2, zm_I x3, zm_I x4, w5] [] h) := by
  refine zl_tr (r_iload d_27_41 rfl) ?_
  refine zl_tr (r_bipush d_27_43 (by decide)) ?_
  refine zl_tr (r_icmp_gt (tgt := 74) d_27_45 (by decide)) (zl_if ?_ ?_)
  · skip
    refine zl_tr (r_iload_n d_27_74 rfl) ?_
    refine zl_eq 0 (fun hx => ?_) (fun hx0 => ?_)
    · refine zl_tr (r_lsw (tgt := 100) d_27_75 (by decide) (by rw [hx]; decide)) ?_
      refine zl_tr (r_iload_n d_27_100 rfl) ?_
      exact r_iret d_27_101 rt_27
    refine zl_eq 1 (fun hx => ?_) (fun hx1 => ?_)
    · refine zl_tr (r_lsw (tgt := 102) d_27_75 (by decide) (by rw [hx]; decide)) ?_
      refine zl_tr (r_iload_n d_27_102 rfl) ?_
      exact r_iret d_27_103 rt_27
    refine zl_tr (r_lsw (tgt := 104) d_27_75 (by decide) (by rw [zl_lsw (by intro q hq; simp only [List.mem_cons, List.not_mem_nil, or_false] at hq; rcases hq with rfl | rfl <;> omega)]; decide)) ?_
    refine zl_tr (r_iconst d_27_104 (by decide)) ?_
    exact r_iret d_27_105 rt_27
  · skip
    refine zl_tr (r_aload_n d_27_48 rfl) ?_
    refine zl_tr (r_iload d_27_49 rfl) ?_
    refine zl_tr (r_VI [zm_A 4, zm_I x4] d_27_51 ow_27 cal_0_260 na_28 rfl rfl (Nat.le_of_ble_eq_true rfl) (by rw [rk_28]; decide) (zr_rcv la_4 ow_28) (zr_im mx_28 rfl (Nat.le_of_ble_eq_true rfl)) (by rw [rt_28]; decide)) (zl_I (fun v1 h2 => ?_))
    refine zl_tr (r_istore (loc' := [zm_A 4, zm_I x1, zm_I x2, zm_I x3, zm_I x4, zm_I v1]) d_27_54 (Nat.le_of_ble_eq_true rfl) rfl) ?_
    refine zl_tr (r_iload d_27_56 rfl) ?_
    refine zl_tr (r_iload_n d_27_58 rfl) ?_
    refine zl_tr (r_icmp_le (tgt := 68) d_27_59 (by decide)) (zl_if ?_ ?_)
    · skip
      refine zl_tr (r_iinc (loc' := [zm_A 4, zm_I x1, zm_I x2, zm_I x3, zm_I (x4 + 1), zm_I v1]) d_27_68 rfl (Nat.le_of_ble_eq_true rfl) rfl) (zl_ck ?_)
      refine zl_tr (r_goto (tgt := 41) d_27_71 (by decide)) ?_
      exact zl_rf
    · skip
      refine zl_tr (r_iload d_27_62 rfl) ?_
      refine zl_tr (r_istore_n (loc' := [zm_A 4, zm_I x1, zm_I x2, zm_I v1, zm_I x4, zm_I v1]) d_27_64 (Nat.le_of_ble_eq_true rfl) rfl) ?_
      refine zl_tr (r_iload d_27_65 rfl) ?_
      refine zl_tr (r_istore_n (loc' := [zm_A 4, zm_I x1, zm_I x4, zm_I v1, zm_I x4, zm_I v1]) d_27_67 (Nat.le_of_ble_eq_true rfl) rfl) ?_
      refine zl_tr (r_iinc (loc' := [zm_A 4, zm_I x1, zm_I x4, zm_I v1, zm_I (x4 + 1), zm_I v1]) d_27_68 rfl (Nat.le_of_ble_eq_true rfl) rfl) (zl_ck ?_)
      refine zl_tr (r_goto (tgt := 41) d_27_71 (by decide)) ?_
      exact zl_rf
-- BranTub.takingsOf
set_option maxRecDepth 20000 in
theorem e_28 {h : zm_H} {x1 : Int} : zl (zr none 1 28 4 [zm_A 4, zm_I x1, zm_I 0, zm_I 0] [] h) (zc 28 [zm_A 4, zm_I x1] h) := by
  rw [zc_eq (loc := [zm_A 4, zm_I x1, zm_U, zm_U]) (rk_28 _) rfl]
  refine zl_tr (r_iconst d_28_0 (by decide)) ?_
  refine zl_tr (r_istore_n (loc' := [zm_A 4, zm_I x1, zm_I 0, zm_U]) d_28_1 (Nat.le_of_ble_eq_true rfl) rfl) ?_
  refine zl_tr (r_iconst d_28_2 (by decide)) ?_
  refine zl_tr (r_istore_n (loc' := [zm_A 4, zm_I x1, zm_I 0, zm_I 0]) d_28_3 (Nat.le_of_ble_eq_true rfl) rfl) ?_
  exact zl_rf
-- BranTub.takingsOf, from 4
set_option maxRecDepth 20000 in
theorem e_28_4 {h : zm_H} {x1 : Int} {x2 : Int} {x3 : Int} {t : Nat} (ht : zf_F t) : zl (zm_ck (h 4 1 = (t : Int)) (if x3 < (h t 3) then (zm_ck (0 ≤ x3 ∧ x3 < ((8 : Nat) : Int)) (if (h 144 x3) < x1 then (zm_ck (zm_i32 (x3 + 1)) (zr none 1 28 4 [zm_A 4, zm_I x1, zm_I x2, zm_I (x3 + 1)] [] h)) else (zm_ck (zm_i32 (x2 + 1)) (zm_ck (zm_i32 (x3 + 1)) (zr none 1 28 4 [zm_A 4, zm_I x1, zm_I (x2 + 1), zm_I (x3 + 1)] [] h))))) else (zm_ck (zm_i32 (x1 * x2)) (some (zm_I (x1 * x2), h))))) (zr none 1 28 4 [zm_A 4, zm_I x1, zm_I x2, zm_I x3] [] h) := by
  refine zl_tr (r_iload_n d_28_4 rfl) ?_
  refine zl_tr (r_aload_n d_28_5 rfl) ?_
  refine zl_tr (r_getN (b := t) (kk := 1) d_28_6 ow_28 f_0_19 la_4 (by decide) (zf_3 ht) rfl) (zl_ck ?_)
  refine zl_tr (r_getI (kk := 3) d_28_9 ow_28 f_0_149 (zf_o ht) (by decide) rfl) ?_
  refine zl_tr (r_icmp_ge (tgt := 34) d_28_12 (by decide)) (zl_if ?_ ?_)
  · skip
    refine zl_tr (r_iload_n d_28_15 rfl) ?_
    refine zl_tr (r_aload_n d_28_16 rfl) ?_
    refine zl_tr (r_getR d_28_17 ow_28 f_0_94 la_4 (by decide) fr_4_14) ?_
    refine zl_tr (r_iload_n d_28_20 rfl) ?_
    refine zl_tr (r_iaload d_28_21 la_144) (zl_ck ?_)
    refine zl_tr (r_icmp_gt (tgt := 28) d_28_22 (by decide)) (zl_if ?_ ?_)
    · skip
      refine zl_tr (r_iinc (loc' := [zm_A 4, zm_I x1, zm_I x2, zm_I (x3 + 1)]) d_28_28 rfl (Nat.le_of_ble_eq_true rfl) rfl) (zl_ck ?_)
      refine zl_tr (r_goto (tgt := 4) d_28_31 (by decide)) ?_
      exact zl_rf
    · skip
      refine zl_tr (r_iinc (loc' := [zm_A 4, zm_I x1, zm_I (x2 + 1), zm_I x3]) d_28_25 rfl (Nat.le_of_ble_eq_true rfl) rfl) (zl_ck ?_)
      refine zl_tr (r_iinc (loc' := [zm_A 4, zm_I x1, zm_I (x2 + 1), zm_I (x3 + 1)]) d_28_28 rfl (Nat.le_of_ble_eq_true rfl) rfl) (zl_ck ?_)
      refine zl_tr (r_goto (tgt := 4) d_28_31 (by decide)) ?_
      exact zl_rf
  · skip
    refine zl_tr (r_iload_n d_28_34 rfl) ?_
    refine zl_tr (r_iload_n d_28_35 rfl) ?_
    refine zl_tr (r_imul d_28_36) (zl_ck ?_)
    exact r_iret d_28_37 rt_28
-- BranTub.laid
set_option maxRecDepth 20000 in
theorem e_29 {h : zm_H} {x1 : Int} {x2 : Int} : zl (zk_I (zc 12 [zm_A 4, zm_I x1] h) (fun v1 h2 => if v1 = 0 then (some (zm_I (-1), h2)) else (if x2 = (-1) then (zr none 5 29 23 [zm_A 4, zm_I x1, zm_I x2] [] h2) else (zk_I (zc 15 [zm_A 4, zm_I x2] h2) (fun v3 h4 => if v3 = 0 then (some (zm_I (-1), h4)) else (zr none 5 29 23 [zm_A 4, zm_I x1, zm_I x2] [] h4)))))) (zc 29 [zm_A 4, zm_I x1, zm_I x2] h) := by
  rw [zc_eq (loc := [zm_A 4, zm_I x1, zm_I x2]) (rk_29 _) rfl]
  refine zl_tr (r_aload_n d_29_0 rfl) ?_
  refine zl_tr (r_iload_n d_29_1 rfl) ?_
  refine zl_tr (r_VI [zm_A 4, zm_I x1] d_29_2 ow_29 cal_0_182 na_12 rfl rfl (Nat.le_of_ble_eq_true rfl) (by rw [rk_12]; decide) (zr_rcv la_4 ow_12) (zr_im mx_12 rfl (Nat.le_of_ble_eq_true rfl)) (by rw [rt_12]; decide)) (zl_I (fun v1 h2 => ?_))
  refine zl_tr (r_if_eq (tgt := 21) d_29_5 (by decide)) (zl_if ?_ ?_)
  · skip
    refine zl_tr (r_iconst d_29_21 (by decide)) ?_
    exact r_iret d_29_22 rt_29
  · skip
    refine zl_tr (r_iload_n d_29_8 rfl) ?_
    refine zl_tr (r_iconst d_29_9 (by decide)) ?_
    refine zl_tr (r_icmp_eq (tgt := 23) d_29_10 (by decide)) (zl_if ?_ ?_)
    · skip
      exact zl_rf
    · skip
      refine zl_tr (r_aload_n d_29_13 rfl) ?_
      refine zl_tr (r_iload_n d_29_14 rfl) ?_
      refine zl_tr (r_VI [zm_A 4, zm_I x2] d_29_15 ow_29 cal_0_200 na_15 rfl rfl (Nat.le_of_ble_eq_true rfl) (by rw [rk_15]; decide) (zr_rcv la_4 ow_15) (zr_im mx_15 rfl (Nat.le_of_ble_eq_true rfl)) (by rw [rt_15]; decide)) (zl_I (fun v3 h4 => ?_))
      refine zl_tr (r_if_ne (tgt := 23) d_29_18 (by decide)) (zl_if ?_ ?_)
      · skip
        refine zl_tr (r_iconst d_29_21 (by decide)) ?_
        exact r_iret d_29_22 rt_29
      · skip
        exact zl_rf
-- BranTub.laid, from 23
set_option maxRecDepth 20000 in
theorem e_29_23 {h : zm_H} {x1 : Int} {x2 : Int} {t : Nat} (ht : zf_F t) : zl (zk_I (zc 144 [zm_A 32] h) (fun v1 h2 => if v1 = 0 then (some (zm_I (-1), h2)) else (zm_ck (h2 4 1 = (t : Int)) (zk_V (zc 56 [zm_A 132, zm_A t, zm_A 32, zm_A 128, zm_I x1] h2) (fun h3 => if x2 = (-1) then (some (zm_I (h3 132 2), h3)) else (zm_ck (0 ≤ x2 ∧ x2 < ((5 : Nat) : Int)) (some (zm_I (h3 134 x2), h3)))))))) (zr none 5 29 23 [zm_A 4, zm_I x1, zm_I x2] [] h) := by
  refine zl_tr (r_aload_n d_29_23 rfl) ?_
  refine zl_tr (r_getR d_29_24 ow_29 f_0_38 la_4 (by decide) fr_4_4) ?_
  refine zl_tr (r_VI [zm_A 32] d_29_27 ow_29 cal_0_155 na_144 rfl rfl (Nat.le_of_ble_eq_true rfl) (by rw [rk_144]; decide) (zr_rcv la_32 ow_144) (zr_im mx_144 rfl (Nat.le_of_ble_eq_true rfl)) (by rw [rt_144]; decide)) (zl_I (fun v1 h2 => ?_))
  refine zl_tr (r_if_ne (tgt := 35) d_29_30 (by decide)) (zl_if ?_ ?_)
  · skip
    refine zl_tr (r_iconst d_29_33 (by decide)) ?_
    exact r_iret d_29_34 rt_29
  · skip
    refine zl_tr (r_aload_n d_29_35 rfl) ?_
    refine zl_tr (r_getR d_29_36 ow_29 f_0_65 la_4 (by decide) fr_4_9) ?_
    refine zl_tr (r_aload_n d_29_39 rfl) ?_
    refine zl_tr (r_getN (b := t) (kk := 1) d_29_40 ow_29 f_0_19 la_4 (by decide) (zf_3 ht) rfl) (zl_ck ?_)
    refine zl_tr (r_aload_n d_29_43 rfl) ?_
    refine zl_tr (r_getR d_29_44 ow_29 f_0_38 la_4 (by decide) fr_4_4) ?_
    refine zl_tr (r_aload_n d_29_47 rfl) ?_
    refine zl_tr (r_getR d_29_48 ow_29 f_0_58 la_4 (by decide) fr_4_8) ?_
    refine zl_tr (r_iload_n d_29_51 rfl) ?_
    refine zl_tr (r_VV [zm_A 132, zm_A t, zm_A 32, zm_A 128, zm_I x1] d_29_52 ow_29 cal_0_263 na_56 rfl rfl (Nat.le_of_ble_eq_true rfl) (by rw [rk_56]; decide) (zr_rcv la_132 ow_56) (zr_im mx_56 rfl (Nat.le_of_ble_eq_true rfl)) rt_56) (zl_V (fun h3 => ?_))
    refine zl_tr (r_iload_n d_29_55 rfl) ?_
    refine zl_tr (r_iconst d_29_56 (by decide)) ?_
    refine zl_tr (r_icmp_ne (tgt := 70) d_29_57 (by decide)) (zl_if ?_ ?_)
    · skip
      refine zl_tr (r_aload_n d_29_60 rfl) ?_
      refine zl_tr (r_getR d_29_61 ow_29 f_0_65 la_4 (by decide) fr_4_9) ?_
      refine zl_tr (r_getI (kk := 2) d_29_64 ow_29 f_0_267 la_132 (by decide) rfl) ?_
      refine zl_tr (r_goto (tgt := 79) d_29_67 (by decide)) ?_
      exact r_iret d_29_79 rt_29
    · skip
      refine zl_tr (r_aload_n d_29_70 rfl) ?_
      refine zl_tr (r_getR d_29_71 ow_29 f_0_65 la_4 (by decide) fr_4_9) ?_
      refine zl_tr (r_getR d_29_74 ow_29 f_0_270 la_132 (by decide) fr_132_1) ?_
      refine zl_tr (r_iload_n d_29_77 rfl) ?_
      refine zl_tr (r_iaload d_29_78 la_134) (zl_ck ?_)
      exact r_iret d_29_79 rt_29
-- BranTub.dip
set_option maxRecDepth 20000 in
theorem e_30 {h : zm_H} {x1 : Int} : zl (zk_I (zc 12 [zm_A 4, zm_I x1] h) (fun v1 h2 => if v1 = 0 then (zk_I (zc 2 [zm_A 4, zm_I 2] h2) (fun v3 h4 => some (zm_I v3, h4))) else (zk_I (zc 31 [zm_A 4, zm_I x1] h2) (fun v5 h6 => if v5 = 0 then (zk_I (zc 2 [zm_A 4, zm_I 2] h6) (fun v7 h8 => some (zm_I v7, h8))) else (zk_V (zc 69 [zm_A 44, zm_A 32] h6) (fun h9 => zk_I (zc 32 [zm_A 4, zm_I x1] h9) (fun v10 h11 => some (zm_I v10, h11)))))))) (zc 30 [zm_A 4, zm_I x1] h) := by
  rw [zc_eq (loc := [zm_A 4, zm_I x1]) (rk_30 _) rfl]
  refine zl_tr (r_aload_n d_30_0 rfl) ?_
  refine zl_tr (r_iload_n d_30_1 rfl) ?_
  refine zl_tr (r_VI [zm_A 4, zm_I x1] d_30_2 ow_30 cal_0_182 na_12 rfl rfl (Nat.le_of_ble_eq_true rfl) (by rw [rk_12]; decide) (zr_rcv la_4 ow_12) (zr_im mx_12 rfl (Nat.le_of_ble_eq_true rfl)) (by rw [rt_12]; decide)) (zl_I (fun v1 h2 => ?_))
  refine zl_tr (r_if_eq (tgt := 16) d_30_5 (by decide)) (zl_if ?_ ?_)
  · skip
    refine zl_tr (r_aload_n d_30_16 rfl) ?_
    refine zl_tr (r_iconst d_30_17 (by decide)) ?_
    refine zl_tr (r_VI [zm_A 4, zm_I 2] d_30_18 ow_30 cal_0_111 na_2 rfl rfl (Nat.le_of_ble_eq_true rfl) (by rw [rk_2]; decide) (zr_rcv la_4 ow_2) (zr_im mx_2 rfl (Nat.le_of_ble_eq_true rfl)) (by rw [rt_2]; decide)) (zl_I (fun v3 h4 => ?_))
    exact r_iret d_30_21 rt_30
  · skip
    refine zl_tr (r_aload_n d_30_8 rfl) ?_
    refine zl_tr (r_iload_n d_30_9 rfl) ?_
    refine zl_tr (r_VI [zm_A 4, zm_I x1] d_30_10 ow_30 cal_0_273 na_31 rfl rfl (Nat.le_of_ble_eq_true rfl) (by rw [rk_31]; decide) (zr_rcv la_4 ow_31) (zr_im mx_31 rfl (Nat.le_of_ble_eq_true rfl)) (by rw [rt_31]; decide)) (zl_I (fun v5 h6 => ?_))
    refine zl_tr (r_if_ne (tgt := 22) d_30_13 (by decide)) (zl_if ?_ ?_)
    · skip
      refine zl_tr (r_aload_n d_30_16 rfl) ?_
      refine zl_tr (r_iconst d_30_17 (by decide)) ?_
      refine zl_tr (r_VI [zm_A 4, zm_I 2] d_30_18 ow_30 cal_0_111 na_2 rfl rfl (Nat.le_of_ble_eq_true rfl) (by rw [rk_2]; decide) (zr_rcv la_4 ow_2) (zr_im mx_2 rfl (Nat.le_of_ble_eq_true rfl)) (by rw [rt_2]; decide)) (zl_I (fun v7 h8 => ?_))
      exact r_iret d_30_21 rt_30
    · skip
      refine zl_tr (r_aload_n d_30_22 rfl) ?_
      refine zl_tr (r_getR d_30_23 ow_30 f_0_51 la_4 (by decide) fr_4_7) ?_
      refine zl_tr (r_aload_n d_30_26 rfl) ?_
      refine zl_tr (r_getR d_30_27 ow_30 f_0_38 la_4 (by decide) fr_4_4) ?_
      refine zl_tr (r_VV [zm_A 44, zm_A 32] d_30_30 ow_30 cal_0_276 na_69 rfl rfl (Nat.le_of_ble_eq_true rfl) (by rw [rk_69]; decide) (zr_rcv la_44 ow_69) (zr_im mx_69 rfl (Nat.le_of_ble_eq_true rfl)) rt_69) (zl_V (fun h9 => ?_))
      refine zl_tr (r_aload_n d_30_33 rfl) ?_
      refine zl_tr (r_iload_n d_30_34 rfl) ?_
      refine zl_tr (r_VI [zm_A 4, zm_I x1] d_30_35 ow_30 cal_0_280 na_32 rfl rfl (Nat.le_of_ble_eq_true rfl) (by rw [rk_32]; decide) (zr_rcv la_4 ow_32) (zr_im mx_32 rfl (Nat.le_of_ble_eq_true rfl)) (by rw [rt_32]; decide)) (zl_I (fun v10 h11 => ?_))
      exact r_iret d_30_38 rt_30
-- BranTub.canDip
set_option maxRecDepth 20000 in
theorem e_31 {h : zm_H} {x1 : Int} : zl (zk_I (zc 144 [zm_A 32] h) (fun v1 h2 => if v1 ≤ 0 then (zm_ck (zm_bit 0) (some (zm_I 0, h2))) else (zm_ck (0 ≤ x1 ∧ x1 < ((8 : Nat) : Int)) (zk_I (zc 8 [zm_A 4] h2) (fun v3 h4 => if (h2 34 x1) < v3 then (zm_ck (zm_bit 0) (some (zm_I 0, h4))) else (zm_ck (zm_bit 1) (some (zm_I 1, h4)))))))) (zc 31 [zm_A 4, zm_I x1] h) := by
  rw [zc_eq (loc := [zm_A 4, zm_I x1]) (rk_31 _) rfl]
  refine zl_tr (r_aload_n d_31_0 rfl) ?_
  refine zl_tr (r_getR d_31_1 ow_31 f_0_38 la_4 (by decide) fr_4_4) ?_
  refine zl_tr (r_VI [zm_A 32] d_31_4 ow_31 cal_0_155 na_144 rfl rfl (Nat.le_of_ble_eq_true rfl) (by rw [rk_144]; decide) (zr_rcv la_32 ow_144) (zr_im mx_144 rfl (Nat.le_of_ble_eq_true rfl)) (by rw [rt_144]; decide)) (zl_I (fun v1 h2 => ?_))
  refine zl_tr (r_if_le (tgt := 30) d_31_7 (by decide)) (zl_if ?_ ?_)
  · skip
    refine zl_tr (r_iconst d_31_30 (by decide)) ?_
    exact r_zret d_31_31 rt_31
  · skip
    refine zl_tr (r_aload_n d_31_10 rfl) ?_
    refine zl_tr (r_getR d_31_11 ow_31 f_0_38 la_4 (by decide) fr_4_4) ?_
    refine zl_tr (r_getR d_31_14 ow_31 f_0_217 la_32 (by decide) fr_32_3) ?_
    refine zl_tr (r_iload_n d_31_17 rfl) ?_
    refine zl_tr (r_iaload d_31_18 la_34) (zl_ck ?_)
    refine zl_tr (r_aload_n d_31_19 rfl) ?_
    refine zl_tr (r_VI [zm_A 4] d_31_20 ow_31 cal_0_162 na_8 rfl rfl (Nat.le_of_ble_eq_true rfl) (by rw [rk_8]; decide) (zr_rcv la_4 ow_8) (zr_im mx_8 rfl (Nat.le_of_ble_eq_true rfl)) (by rw [rt_8]; decide)) (zl_I (fun v3 h4 => ?_))
    refine zl_tr (r_icmp_lt (tgt := 30) d_31_23 (by decide)) (zl_if ?_ ?_)
    · skip
      refine zl_tr (r_iconst d_31_30 (by decide)) ?_
      exact r_zret d_31_31 rt_31
    · skip
      refine zl_tr (r_iconst d_31_26 (by decide)) ?_
      refine zl_tr (r_goto (tgt := 31) d_31_27 (by decide)) ?_
      exact r_zret d_31_31 rt_31
-- BranTub.takeOne
set_option maxRecDepth 20000 in
theorem e_32 {h : zm_H} {x1 : Int} : zl (zk_I (zc 8 [zm_A 4] h) (fun v1 h2 => zk_V (zc 18 [zm_A 4, zm_I x1] h2) (fun h3 => zk_I (zc 33 [zm_A 4] h3) (fun v4 h5 => zr none 5 32 18 [zm_A 4, zm_I x1, zm_I v1, zm_I v4, zm_I 0, zm_U] [] h5)))) (zc 32 [zm_A 4, zm_I x1] h) := by
  rw [zc_eq (loc := [zm_A 4, zm_I x1, zm_U, zm_U, zm_U, zm_U]) (rk_32 _) rfl]
  refine zl_tr (r_aload_n d_32_0 rfl) ?_
  refine zl_tr (r_VI [zm_A 4] d_32_1 ow_32 cal_0_162 na_8 rfl rfl (Nat.le_of_ble_eq_true rfl) (by rw [rk_8]; decide) (zr_rcv la_4 ow_8) (zr_im mx_8 rfl (Nat.le_of_ble_eq_true rfl)) (by rw [rt_8]; decide)) (zl_I (fun v1 h2 => ?_))
  refine zl_tr (r_istore_n (loc' := [zm_A 4, zm_I x1, zm_I v1, zm_U, zm_U, zm_U]) d_32_4 (Nat.le_of_ble_eq_true rfl) rfl) ?_
  refine zl_tr (r_aload_n d_32_5 rfl) ?_
  refine zl_tr (r_iload_n d_32_6 rfl) ?_
  refine zl_tr (r_VV [zm_A 4, zm_I x1] d_32_7 ow_32 cal_0_226 na_18 rfl rfl (Nat.le_of_ble_eq_true rfl) (by rw [rk_18]; decide) (zr_rcv la_4 ow_18) (zr_im mx_18 rfl (Nat.le_of_ble_eq_true rfl)) rt_18) (zl_V (fun h3 => ?_))
  refine zl_tr (r_aload_n d_32_10 rfl) ?_
  refine zl_tr (r_VI [zm_A 4] d_32_11 ow_32 cal_0_366 na_33 rfl rfl (Nat.le_of_ble_eq_true rfl) (by rw [rk_33]; decide) (zr_rcv la_4 ow_33) (zr_im mx_33 rfl (Nat.le_of_ble_eq_true rfl)) (by rw [rt_33]; decide)) (zl_I (fun v4 h5 => ?_))
  refine zl_tr (r_istore_n (loc' := [zm_A 4, zm_I x1, zm_I v1, zm_I v4, zm_U, zm_U]) d_32_14 (Nat.le_of_ble_eq_true rfl) rfl) ?_
  refine zl_tr (r_iconst d_32_15 (by decide)) ?_
  refine zl_tr (r_istore (loc' := [zm_A 4, zm_I x1, zm_I v1, zm_I v4, zm_I 0, zm_U]) d_32_16 (Nat.le_of_ble_eq_true rfl) rfl) ?_
  exact zl_rf
-- BranTub.takeOne, from 18
set_option maxRecDepth 20000 in
theorem e_32_18 {h : zm_H} {x1 : Int} {x2 : Int} {x3 : Int} {x4 : Int} {w5 : zm_V} {t : Nat} (ht : zf_F t) : zl (zm_ck (h 4 1 = (t : Int)) (zm_ck (0 ≤ x1 ∧ x1 < ((8 : Nat) : Int)) (if x4 < (h (t + 7) x1) then (zk_I (zc 33 [zm_A 4] h) (fun v1 h2 => zm_ck ((8 : Int) ≠ 0 ∧ zm_i32 (v1.tdiv 8) ∧ zm_i32 (v1.tmod 8)) (zm_ck (0 ≤ (v1.tmod 8) ∧ (v1.tmod 8) < ((8 : Nat) : Int)) (zm_ck ((8 : Int) ≠ 0 ∧ zm_i32 (x3.tdiv 8) ∧ zm_i32 (x3.tmod 8)) (zm_ck (0 ≤ (x3.tmod 8) ∧ (x3.tmod 8) < ((8 : Nat) : Int)) (if (h2 131 (v1.tmod 8)) ≤ (h2 131 (x3.tmod 8)) then (zm_ck (zm_i32 (x4 + 1)) (zr none 5 32 18 [zm_A 4, zm_I x1, zm_I x2, zm_I x3, zm_I (x4 + 1), zm_I v1] [] h2)) else (zm_ck (zm_i32 (x4 + 1)) (zr none 5 32 18 [zm_A 4, zm_I x1, zm_I x2, zm_I v1, zm_I (x4 + 1), zm_I v1] [] h2)))))))) else (zm_ck ((8 : Int) ≠ 0 ∧ zm_i32 (x3.tdiv 8) ∧ zm_i32 (x3.tmod 8)) (zk_I (zc 35 [zm_A 4, zm_I (x3.tmod 8)] h) (fun v3 h4 => if v3 = 0 then (zr none 5 32 91 [zm_A 4, zm_I x1, zm_I x2, zm_I x3, zm_I x4, w5] [] h4) else (zk_I (zc 33 [zm_A 4] h4) (fun v5 h6 => zr none 5 32 91 [zm_A 4, zm_I x1, zm_I x2, zm_I v5, zm_I x4, w5] [] h6)))))))) (zr none 5 32 18 [zm_A 4, zm_I x1, zm_I x2, zm_I x3, zm_I x4, w5] [] h) := by
  refine zl_tr (r_iload d_32_18 rfl) ?_
  refine zl_tr (r_aload_n d_32_20 rfl) ?_
  refine zl_tr (r_getN (b := t) (kk := 1) d_32_21 ow_32 f_0_19 la_4 (by decide) (zf_3 ht) rfl) (zl_ck ?_)
  refine zl_tr (r_getR d_32_24 ow_32 f_0_211 (zf_o ht) (by decide) (zf_r11 ht)) ?_
  refine zl_tr (r_iload_n d_32_27 rfl) ?_
  refine zl_tr (r_iaload d_32_28 (zf_a7 ht)) (zl_ck ?_)
  refine zl_tr (r_icmp_ge (tgt := 75) d_32_29 (by decide)) (zl_if ?_ ?_)
  · skip
    refine zl_tr (r_aload_n d_32_32 rfl) ?_
    refine zl_tr (r_VI [zm_A 4] d_32_33 ow_32 cal_0_366 na_33 rfl rfl (Nat.le_of_ble_eq_true rfl) (by rw [rk_33]; decide) (zr_rcv la_4 ow_33) (zr_im mx_33 rfl (Nat.le_of_ble_eq_true rfl)) (by rw [rt_33]; decide)) (zl_I (fun v1 h2 => ?_))
    refine zl_tr (r_istore (loc' := [zm_A 4, zm_I x1, zm_I x2, zm_I x3, zm_I x4, zm_I v1]) d_32_36 (Nat.le_of_ble_eq_true rfl) rfl) ?_
    refine zl_tr (r_aload_n d_32_38 rfl) ?_
    refine zl_tr (r_getR d_32_39 ow_32 f_0_58 la_4 (by decide) fr_4_8) ?_
    refine zl_tr (r_getR d_32_42 ow_32 f_0_369 la_128 (by decide) fr_128_2) ?_
    refine zl_tr (r_iload d_32_45 rfl) ?_
    refine zl_tr (r_bipush d_32_47 (by decide)) ?_
    refine zl_tr (r_irem d_32_49) (zl_ck ?_)
    refine zl_tr (r_iaload d_32_50 la_131) (zl_ck ?_)
    refine zl_tr (r_aload_n d_32_51 rfl) ?_
    refine zl_tr (r_getR d_32_52 ow_32 f_0_58 la_4 (by decide) fr_4_8) ?_
    refine zl_tr (r_getR d_32_55 ow_32 f_0_369 la_128 (by decide) fr_128_2) ?_
    refine zl_tr (r_iload_n d_32_58 rfl) ?_
    refine zl_tr (r_bipush d_32_59 (by decide)) ?_
    refine zl_tr (r_irem d_32_61) (zl_ck ?_)
    refine zl_tr (r_iaload d_32_62 la_131) (zl_ck ?_)
    refine zl_tr (r_icmp_le (tgt := 69) d_32_63 (by decide)) (zl_if ?_ ?_)
    · skip
      refine zl_tr (r_iinc (loc' := [zm_A 4, zm_I x1, zm_I x2, zm_I x3, zm_I (x4 + 1), zm_I v1]) d_32_69 rfl (Nat.le_of_ble_eq_true rfl) rfl) (zl_ck ?_)
      refine zl_tr (r_goto (tgt := 18) d_32_72 (by decide)) ?_
      exact zl_rf
    · skip
      refine zl_tr (r_iload d_32_66 rfl) ?_
      refine zl_tr (r_istore_n (loc' := [zm_A 4, zm_I x1, zm_I x2, zm_I v1, zm_I x4, zm_I v1]) d_32_68 (Nat.le_of_ble_eq_true rfl) rfl) ?_
      refine zl_tr (r_iinc (loc' := [zm_A 4, zm_I x1, zm_I x2, zm_I v1, zm_I (x4 + 1), zm_I v1]) d_32_69 rfl (Nat.le_of_ble_eq_true rfl) rfl) (zl_ck ?_)
      refine zl_tr (r_goto (tgt := 18) d_32_72 (by decide)) ?_
      exact zl_rf
  · skip
    refine zl_tr (r_aload_n d_32_75 rfl) ?_
    refine zl_tr (r_iload_n d_32_76 rfl) ?_
    refine zl_tr (r_bipush d_32_77 (by decide)) ?_
    refine zl_tr (r_irem d_32_79) (zl_ck ?_)
    refine zl_tr (r_VI [zm_A 4, zm_I (x3.tmod 8)] d_32_80 ow_32 cal_0_372 na_35 rfl rfl (Nat.le_of_ble_eq_true rfl) (by rw [rk_35]; decide) (zr_rcv la_4 ow_35) (zr_im mx_35 rfl (Nat.le_of_ble_eq_true rfl)) (by rw [rt_35]; decide)) (zl_I (fun v3 h4 => ?_))
    refine zl_tr (r_if_eq (tgt := 91) d_32_83 (by decide)) (zl_if ?_ ?_)
    · skip
      exact zl_rf
    · skip
      refine zl_tr (r_aload_n d_32_86 rfl) ?_
      refine zl_tr (r_VI [zm_A 4] d_32_87 ow_32 cal_0_366 na_33 rfl rfl (Nat.le_of_ble_eq_true rfl) (by rw [rk_33]; decide) (zr_rcv la_4 ow_33) (zr_im mx_33 rfl (Nat.le_of_ble_eq_true rfl)) (by rw [rt_33]; decide)) (zl_I (fun v5 h6 => ?_))
      refine zl_tr (r_istore_n (loc' := [zm_A 4, zm_I x1, zm_I x2, zm_I v5, zm_I x4, w5]) d_32_90 (Nat.le_of_ble_eq_true rfl) rfl) ?_
      exact zl_rf
-- BranTub.takeOne, from 91
set_option maxRecDepth 20000 in
theorem e_32_91 {h : zm_H} {x1 : Int} {x2 : Int} {x3 : Int} {w4 : zm_V} {w5 : zm_V} : zl (zm_ck ((8 : Int) ≠ 0 ∧ zm_i32 (x3.tdiv 8) ∧ zm_i32 (x3.tmod 8)) (zm_ck (0 ≤ x1 ∧ x1 < ((8 : Nat) : Int)) (zm_ck (zm_i32 ((h 34 x1) - x2)) (zm_ck (0 ≤ x1 ∧ x1 < ((8 : Nat) : Int)) (zm_ck (0 ≤ x3 ∧ x3 < ((40 : Nat) : Int)) (zm_ck (zm_i32 (((zm_wr h 34 x1 ((h 34 x1) - x2)) 33 x3) - 1)) (zm_ck (0 ≤ x3 ∧ x3 < ((40 : Nat) : Int)) (zm_ck (zm_i32 (x1 * 8)) (zm_ck (zm_i32 ((x1 * 8) + (x3.tmod 8))) (zm_ck (0 ≤ ((x1 * 8) + (x3.tmod 8)) ∧ ((x1 * 8) + (x3.tmod 8)) < ((64 : Nat) : Int)) (zm_ck (zm_i32 (((zm_wr (zm_wr h 34 x1 ((h 34 x1) - x2)) 33 x3 (((zm_wr h 34 x1 ((h 34 x1) - x2)) 33 x3) - 1)) 35 ((x1 * 8) + (x3.tmod 8))) + 1)) (zm_ck (0 ≤ ((x1 * 8) + (x3.tmod 8)) ∧ ((x1 * 8) + (x3.tmod 8)) < ((64 : Nat) : Int)) (zm_ck (zm_i32 (((zm_wr (zm_wr (zm_wr h 34 x1 ((h 34 x1) - x2)) 33 x3 (((zm_wr h 34 x1 ((h 34 x1) - x2)) 33 x3) - 1)) 35 ((x1 * 8) + (x3.tmod 8)) (((zm_wr (zm_wr h 34 x1 ((h 34 x1) - x2)) 33 x3 (((zm_wr h 34 x1 ((h 34 x1) - x2)) 33 x3) - 1)) 35 ((x1 * 8) + (x3.tmod 8))) + 1)) 32 1) + 1)) (zk_V (zc 70 [zm_A 44, zm_I x1, zm_I (x3.tmod 8), zm_I ((zm_wr (zm_wr (zm_wr (zm_wr h 34 x1 ((h 34 x1) - x2)) 33 x3 (((zm_wr h 34 x1 ((h 34 x1) - x2)) 33 x3) - 1)) 35 ((x1 * 8) + (x3.tmod 8)) (((zm_wr (zm_wr h 34 x1 ((h 34 x1) - x2)) 33 x3 (((zm_wr h 34 x1 ((h 34 x1) - x2)) 33 x3) - 1)) 35 ((x1 * 8) + (x3.tmod 8))) + 1)) 32 1 (((zm_wr (zm_wr (zm_wr h 34 x1 ((h 34 x1) - x2)) 33 x3 (((zm_wr h 34 x1 ((h 34 x1) - x2)) 33 x3) - 1)) 35 ((x1 * 8) + (x3.tmod 8)) (((zm_wr (zm_wr h 34 x1 ((h 34 x1) - x2)) 33 x3 (((zm_wr h 34 x1 ((h 34 x1) - x2)) 33 x3) - 1)) 35 ((x1 * 8) + (x3.tmod 8))) + 1)) 32 1) + 1)) 32 0), zm_I x2] (zm_wr (zm_wr (zm_wr (zm_wr h 34 x1 ((h 34 x1) - x2)) 33 x3 (((zm_wr h 34 x1 ((h 34 x1) - x2)) 33 x3) - 1)) 35 ((x1 * 8) + (x3.tmod 8)) (((zm_wr (zm_wr h 34 x1 ((h 34 x1) - x2)) 33 x3 (((zm_wr h 34 x1 ((h 34 x1) - x2)) 33 x3) - 1)) 35 ((x1 * 8) + (x3.tmod 8))) + 1)) 32 1 (((zm_wr (zm_wr (zm_wr h 34 x1 ((h 34 x1) - x2)) 33 x3 (((zm_wr h 34 x1 ((h 34 x1) - x2)) 33 x3) - 1)) 35 ((x1 * 8) + (x3.tmod 8)) (((zm_wr (zm_wr h 34 x1 ((h 34 x1) - x2)) 33 x3 (((zm_wr h 34 x1 ((h 34 x1) - x2)) 33 x3) - 1)) 35 ((x1 * 8) + (x3.tmod 8))) + 1)) 32 1) + 1))) (fun h1 => some (zm_I (x3.tmod 8), h1)))))))))))))))) (zr none 5 32 91 [zm_A 4, zm_I x1, zm_I x2, zm_I x3, w4, w5] [] h) := by
  refine zl_tr (r_iload_n d_32_91 rfl) ?_
  refine zl_tr (r_bipush d_32_92 (by decide)) ?_
  refine zl_tr (r_irem d_32_94) (zl_ck ?_)
  refine zl_tr (r_istore (loc' := [zm_A 4, zm_I x1, zm_I x2, zm_I x3, zm_I (x3.tmod 8), w5]) d_32_95 (Nat.le_of_ble_eq_true rfl) rfl) ?_
  refine zl_tr (r_aload_n d_32_97 rfl) ?_
  refine zl_tr (r_getR d_32_98 ow_32 f_0_38 la_4 (by decide) fr_4_4) ?_
  refine zl_tr (r_getR d_32_101 ow_32 f_0_217 la_32 (by decide) fr_32_3) ?_
  refine zl_tr (r_iload_n d_32_104 rfl) ?_
  refine zl_tr (r_dup2 d_32_105 ⟨rfl, rfl⟩) ?_
  refine zl_tr (r_iaload d_32_106 la_34) (zl_ck ?_)
  refine zl_tr (r_iload_n d_32_107 rfl) ?_
  refine zl_tr (r_isub d_32_108) (zl_ck ?_)
  refine zl_tr (r_iastore d_32_109 la_34) (zl_ck ?_)
  refine zl_tr (r_aload_n d_32_110 rfl) ?_
  refine zl_tr (r_getR d_32_111 ow_32 f_0_38 la_4 (by decide) fr_4_4) ?_
  refine zl_tr (r_getR d_32_114 ow_32 f_0_206 la_32 (by decide) fr_32_2) ?_
  refine zl_tr (r_iload_n d_32_117 rfl) ?_
  refine zl_tr (r_dup2 d_32_118 ⟨rfl, rfl⟩) ?_
  refine zl_tr (r_iaload d_32_119 la_33) (zl_ck ?_)
  refine zl_tr (r_iconst d_32_120 (by decide)) ?_
  refine zl_tr (r_isub d_32_121) (zl_ck ?_)
  refine zl_tr (r_iastore d_32_122 la_33) (zl_ck ?_)
  refine zl_tr (r_aload_n d_32_123 rfl) ?_
  refine zl_tr (r_getR d_32_124 ow_32 f_0_38 la_4 (by decide) fr_4_4) ?_
  refine zl_tr (r_getR d_32_127 ow_32 f_0_236 la_32 (by decide) fr_32_4) ?_
  refine zl_tr (r_iload_n d_32_130 rfl) ?_
  refine zl_tr (r_bipush d_32_131 (by decide)) ?_
  refine zl_tr (r_imul d_32_133) (zl_ck ?_)
  refine zl_tr (r_iload d_32_134 rfl) ?_
  refine zl_tr (r_iadd d_32_136) (zl_ck ?_)
  refine zl_tr (r_dup2 d_32_137 ⟨rfl, rfl⟩) ?_
  refine zl_tr (r_iaload d_32_138 la_35) (zl_ck ?_)
  refine zl_tr (r_iconst d_32_139 (by decide)) ?_
  refine zl_tr (r_iadd d_32_140) (zl_ck ?_)
  refine zl_tr (r_iastore d_32_141 la_35) (zl_ck ?_)
  refine zl_tr (r_aload_n d_32_142 rfl) ?_
  refine zl_tr (r_getR d_32_143 ow_32 f_0_38 la_4 (by decide) fr_4_4) ?_
  refine zl_tr (r_dup d_32_146 rfl) ?_
  refine zl_tr (r_getI (kk := 1) d_32_147 ow_32 f_0_159 la_32 (by decide) rfl) ?_
  refine zl_tr (r_iconst d_32_150 (by decide)) ?_
  refine zl_tr (r_iadd d_32_151) (zl_ck ?_)
  refine zl_tr (r_putI (kk := 1) d_32_152 ow_32 f_0_159 la_32 (by decide) rfl) ?_
  refine zl_tr (r_aload_n d_32_155 rfl) ?_
  refine zl_tr (r_getR d_32_156 ow_32 f_0_51 la_4 (by decide) fr_4_7) ?_
  refine zl_tr (r_iload_n d_32_159 rfl) ?_
  refine zl_tr (r_iload d_32_160 rfl) ?_
  refine zl_tr (r_aload_n d_32_162 rfl) ?_
  refine zl_tr (r_getR d_32_163 ow_32 f_0_38 la_4 (by decide) fr_4_4) ?_
  refine zl_tr (r_getI (kk := 0) d_32_166 ow_32 f_0_152 la_32 (by decide) rfl) ?_
  refine zl_tr (r_iload_n d_32_169 rfl) ?_
  refine zl_tr (r_VV [zm_A 44, zm_I x1, zm_I (x3.tmod 8), zm_I ((zm_wr (zm_wr (zm_wr (zm_wr h 34 x1 ((h 34 x1) - x2)) 33 x3 (((zm_wr h 34 x1 ((h 34 x1) - x2)) 33 x3) - 1)) 35 ((x1 * 8) + (x3.tmod 8)) (((zm_wr (zm_wr h 34 x1 ((h 34 x1) - x2)) 33 x3 (((zm_wr h 34 x1 ((h 34 x1) - x2)) 33 x3) - 1)) 35 ((x1 * 8) + (x3.tmod 8))) + 1)) 32 1 (((zm_wr (zm_wr (zm_wr h 34 x1 ((h 34 x1) - x2)) 33 x3 (((zm_wr h 34 x1 ((h 34 x1) - x2)) 33 x3) - 1)) 35 ((x1 * 8) + (x3.tmod 8)) (((zm_wr (zm_wr h 34 x1 ((h 34 x1) - x2)) 33 x3 (((zm_wr h 34 x1 ((h 34 x1) - x2)) 33 x3) - 1)) 35 ((x1 * 8) + (x3.tmod 8))) + 1)) 32 1) + 1)) 32 0), zm_I x2] d_32_170 ow_32 cal_0_375 na_70 rfl rfl (Nat.le_of_ble_eq_true rfl) (by rw [rk_70]; decide) (zr_rcv la_44 ow_70) (zr_im mx_70 rfl (Nat.le_of_ble_eq_true rfl)) rt_70) (zl_V (fun h1 => ?_))
  refine zl_tr (r_iload d_32_173 rfl) ?_
  exact r_iret d_32_175 rt_32
-- BranTub.touch
set_option maxRecDepth 20000 in
theorem e_33 {h : zm_H}  : zl (zk_I (zc 34 [zm_A 4, zm_I (h 128 3)] h) (fun v1 h2 => zk_I (zc 118 [zm_A 128, zm_A 32, zm_I v1] h2) (fun v3 h4 => some (zm_I v3, h4)))) (zc 33 [zm_A 4] h) := by
  rw [zc_eq (loc := [zm_A 4]) (rk_33 _) rfl]
  refine zl_tr (r_aload_n d_33_0 rfl) ?_
  refine zl_tr (r_getR d_33_1 ow_33 f_0_58 la_4 (by decide) fr_4_8) ?_
  refine zl_tr (r_aload_n d_33_4 rfl) ?_
  refine zl_tr (r_getR d_33_5 ow_33 f_0_38 la_4 (by decide) fr_4_4) ?_
  refine zl_tr (r_aload_n d_33_8 rfl) ?_
  refine zl_tr (r_aload_n d_33_9 rfl) ?_
  refine zl_tr (r_getR d_33_10 ow_33 f_0_58 la_4 (by decide) fr_4_8) ?_
  refine zl_tr (r_getI (kk := 3) d_33_13 ow_33 f_0_229 la_128 (by decide) rfl) ?_
  refine zl_tr (r_VI [zm_A 4, zm_I (h 128 3)] d_33_16 ow_33 cal_0_379 na_34 rfl rfl (Nat.le_of_ble_eq_true rfl) (by rw [rk_34]; decide) (zr_rcv la_4 ow_34) (zr_im mx_34 rfl (Nat.le_of_ble_eq_true rfl)) (by rw [rt_34]; decide)) (zl_I (fun v1 h2 => ?_))
  refine zl_tr (r_VI [zm_A 128, zm_A 32, zm_I v1] d_33_19 ow_33 cal_0_382 na_118 rfl rfl (Nat.le_of_ble_eq_true rfl) (by rw [rk_118]; decide) (zr_rcv la_128 ow_118) (zr_im mx_118 rfl (Nat.le_of_ble_eq_true rfl)) (by rw [rt_118]; decide)) (zl_I (fun v3 h4 => ?_))
  exact r_iret d_33_22 rt_33
-- BranTub.draw
set_option maxRecDepth 20000 in
theorem e_34 {h : zm_H} {x1 : Int} : zl (zm_ck (zm_i64 (1103515245 * (h 4 16))) (zm_ck (zm_i64 ((1103515245 * (h 4 16)) + 12345)) (zm_ck (zm_i32 (zb_land ((1103515245 * (h 4 16)) + 12345) 2147483647)) (if 0 < x1 then (zm_ck ((64 : Int) ≠ 0 ∧ zm_i32 (((zm_wr h 4 16 (zb_land ((1103515245 * (h 4 16)) + 12345) 2147483647)) 4 16).tdiv 64)) (zm_ck ((x1 : Int) ≠ 0 ∧ zm_i32 ((((zm_wr h 4 16 (zb_land ((1103515245 * (h 4 16)) + 12345) 2147483647)) 4 16).tdiv 64).tdiv x1) ∧ zm_i32 ((((zm_wr h 4 16 (zb_land ((1103515245 * (h 4 16)) + 12345) 2147483647)) 4 16).tdiv 64).tmod x1)) (some (zm_I ((((zm_wr h 4 16 (zb_land ((1103515245 * (h 4 16)) + 12345) 2147483647)) 4 16).tdiv 64).tmod x1), (zm_wr h 4 16 (zb_land ((1103515245 * (h 4 16)) + 12345) 2147483647)))))) else (some (zm_I 0, (zm_wr h 4 16 (zb_land ((1103515245 * (h 4 16)) + 12345) 2147483647)))))))) (zc 34 [zm_A 4, zm_I x1] h) := by
  rw [zc_eq (loc := [zm_A 4, zm_I x1]) (rk_34 _) rfl]
  refine zl_tr (r_aload_n d_34_0 rfl) ?_
  refine zl_tr (r_ldc2 d_34_1 ow_34 lng_0_386) ?_
  refine zl_tr (r_aload_n d_34_4 rfl) ?_
  refine zl_tr (r_getI (kk := 16) d_34_5 ow_34 f_0_100 la_4 (by decide) rfl) ?_
  refine zl_tr (r_i2l d_34_8) ?_
  refine zl_tr (r_lmul d_34_9) (zl_ck ?_)
  refine zl_tr (r_ldc2 d_34_10 ow_34 lng_0_388) ?_
  refine zl_tr (r_ladd d_34_13) (zl_ck ?_)
  refine zl_tr (r_ldc2 d_34_14 ow_34 lng_0_390) ?_
  refine zl_tr (r_land d_34_17) ?_
  refine zl_tr (r_l2i d_34_18) (zl_ck ?_)
  refine zl_tr (r_putI (kk := 16) d_34_19 ow_34 f_0_100 la_4 (by decide) rfl) ?_
  refine zl_tr (r_iload_n d_34_22 rfl) ?_
  refine zl_tr (r_if_gt (tgt := 30) d_34_23 (by decide)) (zl_if ?_ ?_)
  · skip
    refine zl_tr (r_aload_n d_34_30 rfl) ?_
    refine zl_tr (r_getI (kk := 16) d_34_31 ow_34 f_0_100 la_4 (by decide) rfl) ?_
    refine zl_tr (r_bipush d_34_34 (by decide)) ?_
    refine zl_tr (r_idiv d_34_36) (zl_ck ?_)
    refine zl_tr (r_iload_n d_34_37 rfl) ?_
    refine zl_tr (r_irem d_34_38) (zl_ck ?_)
    exact r_iret d_34_39 rt_34
  · skip
    refine zl_tr (r_iconst d_34_26 (by decide)) ?_
    refine zl_tr (r_goto (tgt := 39) d_34_27 (by decide)) ?_
    exact r_iret d_34_39 rt_34
-- BranTub.putsBack
set_option maxRecDepth 20000 in
theorem e_35 {h : zm_H} {x1 : Int} {t : Nat} (ht : zf_F t) : zl (zk_V (zc 9 [zm_A 4] h) (fun h1 => zm_ck (0 ≤ x1 ∧ x1 < ((8 : Nat) : Int)) (zm_ck (0 ≤ 3 ∧ 3 < ((6 : Nat) : Int)) (zm_ck ((zm_wr h1 143 3 (h1 130 x1)) 4 1 = (t : Int)) (zm_ck (0 ≤ x1 ∧ x1 < ((8 : Nat) : Int)) (zm_ck (0 ≤ 4 ∧ 4 < ((6 : Nat) : Int)) (zk_I (zc 119 [zm_A 128] (zm_wr (zm_wr h1 143 3 (h1 130 x1)) 143 4 ((zm_wr h1 143 3 (h1 130 x1)) (t + 3) x1))) (fun v2 h3 => zm_ck (0 ≤ 5 ∧ 5 < ((6 : Nat) : Int)) (zm_ck ((zm_wr h3 143 5 v2) 4 1 = (t : Int)) (zm_ck ((zm_wr h3 143 5 v2) 4 1 = (t : Int)) (zm_ck ((zm_wr h3 143 5 v2) 4 1 = (t : Int)) (zk_I (zc 121 [zm_A 141, zm_A (t + 10), zm_I ((zm_wr h3 143 5 v2) t 18), zm_I ((zm_wr h3 143 5 v2) t 19), zm_A 143] (zm_wr h3 143 5 v2)) (fun v4 h5 => if v4 = 0 then (zm_ck (zm_bit 0) (some (zm_I 0, h5))) else (zm_ck (zm_bit 1) (some (zm_I 1, h5)))))))))))))))) (zc 35 [zm_A 4, zm_I x1] h) := by
  rw [zc_eq (loc := [zm_A 4, zm_I x1]) (rk_35 _) rfl]
  refine zl_tr (r_aload_n d_35_0 rfl) ?_
  refine zl_tr (r_VV [zm_A 4] d_35_1 ow_35 cal_0_347 na_9 rfl rfl (Nat.le_of_ble_eq_true rfl) (by rw [rk_9]; decide) (zr_rcv la_4 ow_9) (zr_im mx_9 rfl (Nat.le_of_ble_eq_true rfl)) rt_9) (zl_V (fun h1 => ?_))
  refine zl_tr (r_aload_n d_35_4 rfl) ?_
  refine zl_tr (r_getR d_35_5 ow_35 f_0_90 la_4 (by decide) fr_4_13) ?_
  refine zl_tr (r_iconst d_35_8 (by decide)) ?_
  refine zl_tr (r_aload_n d_35_9 rfl) ?_
  refine zl_tr (r_getR d_35_10 ow_35 f_0_58 la_4 (by decide) fr_4_8) ?_
  refine zl_tr (r_getR d_35_13 ow_35 f_0_392 la_128 (by decide) fr_128_1) ?_
  refine zl_tr (r_iload_n d_35_16 rfl) ?_
  refine zl_tr (r_iaload d_35_17 la_130) (zl_ck ?_)
  refine zl_tr (r_iastore d_35_18 la_143) (zl_ck ?_)
  refine zl_tr (r_aload_n d_35_19 rfl) ?_
  refine zl_tr (r_getR d_35_20 ow_35 f_0_90 la_4 (by decide) fr_4_13) ?_
  refine zl_tr (r_iconst d_35_23 (by decide)) ?_
  refine zl_tr (r_aload_n d_35_24 rfl) ?_
  refine zl_tr (r_getN (b := t) (kk := 1) d_35_25 ow_35 f_0_19 la_4 (by decide) (zf_3 ht) rfl) (zl_ck ?_)
  refine zl_tr (r_getR d_35_28 ow_35 f_0_191 (zf_o ht) (by decide) (zf_r7 ht)) ?_
  refine zl_tr (r_iload_n d_35_31 rfl) ?_
  refine zl_tr (r_iaload d_35_32 (zf_a3 ht)) (zl_ck ?_)
  refine zl_tr (r_iastore d_35_33 la_143) (zl_ck ?_)
  refine zl_tr (r_aload_n d_35_34 rfl) ?_
  refine zl_tr (r_getR d_35_35 ow_35 f_0_90 la_4 (by decide) fr_4_13) ?_
  refine zl_tr (r_iconst d_35_38 (by decide)) ?_
  refine zl_tr (r_aload_n d_35_39 rfl) ?_
  refine zl_tr (r_getR d_35_40 ow_35 f_0_58 la_4 (by decide) fr_4_8) ?_
  refine zl_tr (r_VI [zm_A 128] d_35_43 ow_35 cal_0_395 na_119 rfl rfl (Nat.le_of_ble_eq_true rfl) (by rw [rk_119]; decide) (zr_rcv la_128 ow_119) (zr_im mx_119 rfl (Nat.le_of_ble_eq_true rfl)) (by rw [rt_119]; decide)) (zl_I (fun v2 h3 => ?_))
  refine zl_tr (r_iastore d_35_46 la_143) (zl_ck ?_)
  refine zl_tr (r_aload_n d_35_47 rfl) ?_
  refine zl_tr (r_getR d_35_48 ow_35 f_0_86 la_4 (by decide) fr_4_12) ?_
  refine zl_tr (r_aload_n d_35_51 rfl) ?_
  refine zl_tr (r_getN (b := t) (kk := 1) d_35_52 ow_35 f_0_19 la_4 (by decide) (zf_3 ht) rfl) (zl_ck ?_)
  refine zl_tr (r_getR d_35_55 ow_35 f_0_350 (zf_o ht) (by decide) (zf_r14 ht)) ?_
  refine zl_tr (r_aload_n d_35_58 rfl) ?_
  refine zl_tr (r_getN (b := t) (kk := 1) d_35_59 ow_35 f_0_19 la_4 (by decide) (zf_3 ht) rfl) (zl_ck ?_)
  refine zl_tr (r_getI (kk := 18) d_35_62 ow_35 f_0_398 (zf_o ht) (by decide) rfl) ?_
  refine zl_tr (r_aload_n d_35_65 rfl) ?_
  refine zl_tr (r_getN (b := t) (kk := 1) d_35_66 ow_35 f_0_19 la_4 (by decide) (zf_3 ht) rfl) (zl_ck ?_)
  refine zl_tr (r_getI (kk := 19) d_35_69 ow_35 f_0_401 (zf_o ht) (by decide) rfl) ?_
  refine zl_tr (r_aload_n d_35_72 rfl) ?_
  refine zl_tr (r_getR d_35_73 ow_35 f_0_90 la_4 (by decide) fr_4_13) ?_
  refine zl_tr (r_VI [zm_A 141, zm_A (t + 10), zm_I ((zm_wr h3 143 5 v2) t 18), zm_I ((zm_wr h3 143 5 v2) t 19), zm_A 143] d_35_76 ow_35 cal_0_359 na_121 rfl rfl (Nat.le_of_ble_eq_true rfl) (by rw [rk_121]; decide) (zr_rcv la_141 ow_121) (zr_im mx_121 rfl (Nat.le_of_ble_eq_true rfl)) (by rw [rt_121]; decide)) (zl_I (fun v4 h5 => ?_))
  refine zl_tr (r_if_eq (tgt := 86) d_35_79 (by decide)) (zl_if ?_ ?_)
  · skip
    refine zl_tr (r_iconst d_35_86 (by decide)) ?_
    exact r_zret d_35_87 rt_35
  · skip
    refine zl_tr (r_iconst d_35_82 (by decide)) ?_
    refine zl_tr (r_goto (tgt := 87) d_35_83 (by decide)) ?_
    exact r_zret d_35_87 rt_35
-- BranTub.hour
set_option maxRecDepth 20000 in
theorem e_36 {h : zm_H}  : zl (if (h 32 0) < 99 then (zk_V (zc 69 [zm_A 44, zm_A 32] h) (fun h1 => zm_ck (zm_i32 ((h1 32 0) + 1)) (some (zm_I ((zm_wr h1 32 0 ((h1 32 0) + 1)) 32 0), (zm_wr h1 32 0 ((h1 32 0) + 1)))))) else (zk_I (zc 2 [zm_A 4, zm_I 3] h) (fun v2 h3 => some (zm_I v2, h3)))) (zc 36 [zm_A 4] h) := by
  rw [zc_eq (loc := [zm_A 4]) (rk_36 _) rfl]
  refine zl_tr (r_aload_n d_36_0 rfl) ?_
  refine zl_tr (r_getR d_36_1 ow_36 f_0_38 la_4 (by decide) fr_4_4) ?_
  refine zl_tr (r_getI (kk := 0) d_36_4 ow_36 f_0_152 la_32 (by decide) rfl) ?_
  refine zl_tr (r_bipush d_36_7 (by decide)) ?_
  refine zl_tr (r_icmp_lt (tgt := 18) d_36_9 (by decide)) (zl_if ?_ ?_)
  · skip
    refine zl_tr (r_aload_n d_36_18 rfl) ?_
    refine zl_tr (r_getR d_36_19 ow_36 f_0_51 la_4 (by decide) fr_4_7) ?_
    refine zl_tr (r_aload_n d_36_22 rfl) ?_
    refine zl_tr (r_getR d_36_23 ow_36 f_0_38 la_4 (by decide) fr_4_4) ?_
    refine zl_tr (r_VV [zm_A 44, zm_A 32] d_36_26 ow_36 cal_0_276 na_69 rfl rfl (Nat.le_of_ble_eq_true rfl) (by rw [rk_69]; decide) (zr_rcv la_44 ow_69) (zr_im mx_69 rfl (Nat.le_of_ble_eq_true rfl)) rt_69) (zl_V (fun h1 => ?_))
    refine zl_tr (r_aload_n d_36_29 rfl) ?_
    refine zl_tr (r_getR d_36_30 ow_36 f_0_38 la_4 (by decide) fr_4_4) ?_
    refine zl_tr (r_dup d_36_33 rfl) ?_
    refine zl_tr (r_getI (kk := 0) d_36_34 ow_36 f_0_152 la_32 (by decide) rfl) ?_
    refine zl_tr (r_iconst d_36_37 (by decide)) ?_
    refine zl_tr (r_iadd d_36_38) (zl_ck ?_)
    refine zl_tr (r_putI (kk := 0) d_36_39 ow_36 f_0_152 la_32 (by decide) rfl) ?_
    refine zl_tr (r_aload_n d_36_42 rfl) ?_
    refine zl_tr (r_getR d_36_43 ow_36 f_0_38 la_4 (by decide) fr_4_4) ?_
    refine zl_tr (r_getI (kk := 0) d_36_46 ow_36 f_0_152 la_32 (by decide) rfl) ?_
    exact r_iret d_36_49 rt_36
  · skip
    refine zl_tr (r_aload_n d_36_12 rfl) ?_
    refine zl_tr (r_iconst d_36_13 (by decide)) ?_
    refine zl_tr (r_VI [zm_A 4, zm_I 3] d_36_14 ow_36 cal_0_111 na_2 rfl rfl (Nat.le_of_ble_eq_true rfl) (by rw [rk_2]; decide) (zr_rcv la_4 ow_2) (zr_im mx_2 rfl (Nat.le_of_ble_eq_true rfl)) (by rw [rt_2]; decide)) (zl_I (fun v2 h3 => ?_))
    exact r_iret d_36_17 rt_36
-- BranTub.put
set_option maxRecDepth 20000 in
theorem e_37 {h : zm_H} {x1 : Int} {x2 : Int} {x3 : Int} : zl (zk_I (zc 15 [zm_A 4, zm_I x1] h) (fun v1 h2 => if v1 = 0 then (zk_I (zc 2 [zm_A 4, zm_I 3] h2) (fun v3 h4 => some (zm_I v3, h4))) else (zk_I (zc 11 [zm_A 4, zm_I x2] h2) (fun v5 h6 => if v5 = 0 then (zk_I (zc 2 [zm_A 4, zm_I 3] h6) (fun v7 h8 => some (zm_I v7, h8))) else (if x3 < 1 then (zk_I (zc 2 [zm_A 4, zm_I 3] h6) (fun v9 h10 => some (zm_I v9, h10))) else (if x3 ≤ 30 then (zm_ck (zm_i32 (x1 * 8)) (zm_ck (zm_i32 ((x1 * 8) + x2)) (zm_ck (0 ≤ ((x1 * 8) + x2) ∧ ((x1 * 8) + x2) < ((40 : Nat) : Int)) (zm_ck (zm_i32 ((h6 33 ((x1 * 8) + x2)) + x3)) (if ((h6 33 ((x1 * 8) + x2)) + x3) ≤ 99 then (zk_V (zc 69 [zm_A 44, zm_A 32] h6) (fun h11 => zm_ck (0 ≤ ((x1 * 8) + x2) ∧ ((x1 * 8) + x2) < ((40 : Nat) : Int)) (zm_ck (zm_i32 ((h11 33 ((x1 * 8) + x2)) + x3)) (zm_ck (0 ≤ ((x1 * 8) + x2) ∧ ((x1 * 8) + x2) < ((40 : Nat) : Int)) (zm_ck (0 ≤ ((x1 * 8) + x2) ∧ ((x1 * 8) + x2) < ((40 : Nat) : Int)) (some (zm_I ((zm_wr h11 33 ((x1 * 8) + x2) ((h11 33 ((x1 * 8) + x2)) + x3)) 33 ((x1 * 8) + x2)), (zm_wr h11 33 ((x1 * 8) + x2) ((h11 33 ((x1 * 8) + x2)) + x3))))))))) else (zk_I (zc 2 [zm_A 4, zm_I 3] h6) (fun v12 h13 => some (zm_I v12, h13)))))))) else (zk_I (zc 2 [zm_A 4, zm_I 3] h6) (fun v14 h15 => some (zm_I v14, h15))))))))) (zc 37 [zm_A 4, zm_I x1, zm_I x2, zm_I x3] h) := by
  rw [zc_eq (loc := [zm_A 4, zm_I x1, zm_I x2, zm_I x3, zm_U]) (rk_37 _) rfl]
  refine zl_tr (r_aload_n d_37_0 rfl) ?_
  refine zl_tr (r_iload_n d_37_1 rfl) ?_
  refine zl_tr (r_VI [zm_A 4, zm_I x1] d_37_2 ow_37 cal_0_200 na_15 rfl rfl (Nat.le_of_ble_eq_true rfl) (by rw [rk_15]; decide) (zr_rcv la_4 ow_15) (zr_im mx_15 rfl (Nat.le_of_ble_eq_true rfl)) (by rw [rt_15]; decide)) (zl_I (fun v1 h2 => ?_))
  refine zl_tr (r_if_eq (tgt := 27) d_37_5 (by decide)) (zl_if ?_ ?_)
  · skip
    refine zl_tr (r_aload_n d_37_27 rfl) ?_
    refine zl_tr (r_iconst d_37_28 (by decide)) ?_
    refine zl_tr (r_VI [zm_A 4, zm_I 3] d_37_29 ow_37 cal_0_111 na_2 rfl rfl (Nat.le_of_ble_eq_true rfl) (by rw [rk_2]; decide) (zr_rcv la_4 ow_2) (zr_im mx_2 rfl (Nat.le_of_ble_eq_true rfl)) (by rw [rt_2]; decide)) (zl_I (fun v3 h4 => ?_))
    exact r_iret d_37_32 rt_37
  · skip
    refine zl_tr (r_aload_n d_37_8 rfl) ?_
    refine zl_tr (r_iload_n d_37_9 rfl) ?_
    refine zl_tr (r_VI [zm_A 4, zm_I x2] d_37_10 ow_37 cal_0_176 na_11 rfl rfl (Nat.le_of_ble_eq_true rfl) (by rw [rk_11]; decide) (zr_rcv la_4 ow_11) (zr_im mx_11 rfl (Nat.le_of_ble_eq_true rfl)) (by rw [rt_11]; decide)) (zl_I (fun v5 h6 => ?_))
    refine zl_tr (r_if_eq (tgt := 27) d_37_13 (by decide)) (zl_if ?_ ?_)
    · skip
      refine zl_tr (r_aload_n d_37_27 rfl) ?_
      refine zl_tr (r_iconst d_37_28 (by decide)) ?_
      refine zl_tr (r_VI [zm_A 4, zm_I 3] d_37_29 ow_37 cal_0_111 na_2 rfl rfl (Nat.le_of_ble_eq_true rfl) (by rw [rk_2]; decide) (zr_rcv la_4 ow_2) (zr_im mx_2 rfl (Nat.le_of_ble_eq_true rfl)) (by rw [rt_2]; decide)) (zl_I (fun v7 h8 => ?_))
      exact r_iret d_37_32 rt_37
    · skip
      refine zl_tr (r_iload_n d_37_16 rfl) ?_
      refine zl_tr (r_iconst d_37_17 (by decide)) ?_
      refine zl_tr (r_icmp_lt (tgt := 27) d_37_18 (by decide)) (zl_if ?_ ?_)
      · skip
        refine zl_tr (r_aload_n d_37_27 rfl) ?_
        refine zl_tr (r_iconst d_37_28 (by decide)) ?_
        refine zl_tr (r_VI [zm_A 4, zm_I 3] d_37_29 ow_37 cal_0_111 na_2 rfl rfl (Nat.le_of_ble_eq_true rfl) (by rw [rk_2]; decide) (zr_rcv la_4 ow_2) (zr_im mx_2 rfl (Nat.le_of_ble_eq_true rfl)) (by rw [rt_2]; decide)) (zl_I (fun v9 h10 => ?_))
        exact r_iret d_37_32 rt_37
      · skip
        refine zl_tr (r_iload_n d_37_21 rfl) ?_
        refine zl_tr (r_bipush d_37_22 (by decide)) ?_
        refine zl_tr (r_icmp_le (tgt := 33) d_37_24 (by decide)) (zl_if ?_ ?_)
        · skip
          refine zl_tr (r_iload_n d_37_33 rfl) ?_
          refine zl_tr (r_bipush d_37_34 (by decide)) ?_
          refine zl_tr (r_imul d_37_36) (zl_ck ?_)
          refine zl_tr (r_iload_n d_37_37 rfl) ?_
          refine zl_tr (r_iadd d_37_38) (zl_ck ?_)
          refine zl_tr (r_istore (loc' := [zm_A 4, zm_I x1, zm_I x2, zm_I x3, zm_I ((x1 * 8) + x2)]) d_37_39 (Nat.le_of_ble_eq_true rfl) rfl) ?_
          refine zl_tr (r_aload_n d_37_41 rfl) ?_
          refine zl_tr (r_getR d_37_42 ow_37 f_0_38 la_4 (by decide) fr_4_4) ?_
          refine zl_tr (r_getR d_37_45 ow_37 f_0_206 la_32 (by decide) fr_32_2) ?_
          refine zl_tr (r_iload d_37_48 rfl) ?_
          refine zl_tr (r_iaload d_37_50 la_33) (zl_ck ?_)
          refine zl_tr (r_iload_n d_37_51 rfl) ?_
          refine zl_tr (r_iadd d_37_52) (zl_ck ?_)
          refine zl_tr (r_bipush d_37_53 (by decide)) ?_
          refine zl_tr (r_icmp_le (tgt := 64) d_37_55 (by decide)) (zl_if ?_ ?_)
          · skip
            refine zl_tr (r_aload_n d_37_64 rfl) ?_
            refine zl_tr (r_getR d_37_65 ow_37 f_0_51 la_4 (by decide) fr_4_7) ?_
            refine zl_tr (r_aload_n d_37_68 rfl) ?_
            refine zl_tr (r_getR d_37_69 ow_37 f_0_38 la_4 (by decide) fr_4_4) ?_
            refine zl_tr (r_VV [zm_A 44, zm_A 32] d_37_72 ow_37 cal_0_276 na_69 rfl rfl (Nat.le_of_ble_eq_true rfl) (by rw [rk_69]; decide) (zr_rcv la_44 ow_69) (zr_im mx_69 rfl (Nat.le_of_ble_eq_true rfl)) rt_69) (zl_V (fun h11 => ?_))
            refine zl_tr (r_aload_n d_37_75 rfl) ?_
            refine zl_tr (r_getR d_37_76 ow_37 f_0_38 la_4 (by decide) fr_4_4) ?_
            refine zl_tr (r_getR d_37_79 ow_37 f_0_206 la_32 (by decide) fr_32_2) ?_
            refine zl_tr (r_iload d_37_82 rfl) ?_
            refine zl_tr (r_dup2 d_37_84 ⟨rfl, rfl⟩) ?_
            refine zl_tr (r_iaload d_37_85 la_33) (zl_ck ?_)
            refine zl_tr (r_iload_n d_37_86 rfl) ?_
            refine zl_tr (r_iadd d_37_87) (zl_ck ?_)
            refine zl_tr (r_iastore d_37_88 la_33) (zl_ck ?_)
            refine zl_tr (r_aload_n d_37_89 rfl) ?_
            refine zl_tr (r_getR d_37_90 ow_37 f_0_38 la_4 (by decide) fr_4_4) ?_
            refine zl_tr (r_getR d_37_93 ow_37 f_0_206 la_32 (by decide) fr_32_2) ?_
            refine zl_tr (r_iload d_37_96 rfl) ?_
            refine zl_tr (r_iaload d_37_98 la_33) (zl_ck ?_)
            exact r_iret d_37_99 rt_37
          · skip
            refine zl_tr (r_aload_n d_37_58 rfl) ?_
            refine zl_tr (r_iconst d_37_59 (by decide)) ?_
            refine zl_tr (r_VI [zm_A 4, zm_I 3] d_37_60 ow_37 cal_0_111 na_2 rfl rfl (Nat.le_of_ble_eq_true rfl) (by rw [rk_2]; decide) (zr_rcv la_4 ow_2) (zr_im mx_2 rfl (Nat.le_of_ble_eq_true rfl)) (by rw [rt_2]; decide)) (zl_I (fun v12 h13 => ?_))
            exact r_iret d_37_63 rt_37
        · skip
          refine zl_tr (r_aload_n d_37_27 rfl) ?_
          refine zl_tr (r_iconst d_37_28 (by decide)) ?_
          refine zl_tr (r_VI [zm_A 4, zm_I 3] d_37_29 ow_37 cal_0_111 na_2 rfl rfl (Nat.le_of_ble_eq_true rfl) (by rw [rk_2]; decide) (zr_rcv la_4 ow_2) (zr_im mx_2 rfl (Nat.le_of_ble_eq_true rfl)) (by rw [rt_2]; decide)) (zl_I (fun v14 h15 => ?_))
          exact r_iret d_37_32 rt_37
-- BranTub.back
set_option maxRecDepth 20000 in
theorem e_38 {h : zm_H} {x1 : Int} {x2 : Int} {t : Nat} (ht : zf_F t) : zl (zk_I (zc 39 [zm_A 4, zm_I x1, zm_I x2] h) (fun v1 h2 => if v1 = 0 then (zk_I (zc 4 [zm_A 4, zm_I 3] h2) (fun v3 h4 => zm_ck (zm_bit v3) (some (zm_I v3, h4)))) else (zm_ck (h2 4 1 = (t : Int)) (if (h2 t 2) = 0 then (zk_I (zc 4 [zm_A 4, zm_I 3] h2) (fun v5 h6 => zm_ck (zm_bit v5) (some (zm_I v5, h6)))) else (zm_ck (0 ≤ x2 ∧ x2 < ((40 : Nat) : Int)) (if (h2 33 x2) < 99 then (zk_V (zc 69 [zm_A 44, zm_A 32] h2) (fun h7 => zm_ck (zm_i32 (x1 * 8)) (zm_ck (zm_i32 ((x1 * 8) + x2)) (zm_ck (0 ≤ ((x1 * 8) + x2) ∧ ((x1 * 8) + x2) < ((64 : Nat) : Int)) (zm_ck (zm_i32 ((h7 35 ((x1 * 8) + x2)) - 1)) (zm_ck (0 ≤ ((x1 * 8) + x2) ∧ ((x1 * 8) + x2) < ((64 : Nat) : Int)) (zm_ck (0 ≤ x2 ∧ x2 < ((40 : Nat) : Int)) (zm_ck (zm_i32 (((zm_wr h7 35 ((x1 * 8) + x2) ((h7 35 ((x1 * 8) + x2)) - 1)) 33 x2) + 1)) (zm_ck (0 ≤ x2 ∧ x2 < ((40 : Nat) : Int)) (zm_ck (zm_bit 1) (some (zm_I 1, (zm_wr (zm_wr h7 35 ((x1 * 8) + x2) ((h7 35 ((x1 * 8) + x2)) - 1)) 33 x2 (((zm_wr h7 35 ((x1 * 8) + x2) ((h7 35 ((x1 * 8) + x2)) - 1)) 33 x2) + 1)))))))))))))) else (zk_I (zc 4 [zm_A 4, zm_I 3] h2) (fun v8 h9 => zm_ck (zm_bit v8) (some (zm_I v8, h9)))))))))) (zc 38 [zm_A 4, zm_I x1, zm_I x2] h) := by
  rw [zc_eq (loc := [zm_A 4, zm_I x1, zm_I x2]) (rk_38 _) rfl]
  refine zl_tr (r_aload_n d_38_0 rfl) ?_
  refine zl_tr (r_iload_n d_38_1 rfl) ?_
  refine zl_tr (r_iload_n d_38_2 rfl) ?_
  refine zl_tr (r_VI [zm_A 4, zm_I x1, zm_I x2] d_38_3 ow_38 cal_0_283 na_39 rfl rfl (Nat.le_of_ble_eq_true rfl) (by rw [rk_39]; decide) (zr_rcv la_4 ow_39) (zr_im mx_39 rfl (Nat.le_of_ble_eq_true rfl)) (by rw [rt_39]; decide)) (zl_I (fun v1 h2 => ?_))
  refine zl_tr (r_if_eq (tgt := 19) d_38_6 (by decide)) (zl_if ?_ ?_)
  · skip
    refine zl_tr (r_aload_n d_38_19 rfl) ?_
    refine zl_tr (r_iconst d_38_20 (by decide)) ?_
    refine zl_tr (r_VI [zm_A 4, zm_I 3] d_38_21 ow_38 cal_0_119 na_4 rfl rfl (Nat.le_of_ble_eq_true rfl) (by rw [rk_4]; decide) (zr_rcv la_4 ow_4) (zr_im mx_4 rfl (Nat.le_of_ble_eq_true rfl)) (by rw [rt_4]; decide)) (zl_I (fun v3 h4 => ?_))
    exact r_zret d_38_24 rt_38
  · skip
    refine zl_tr (r_aload_n d_38_9 rfl) ?_
    refine zl_tr (r_getN (b := t) (kk := 1) d_38_10 ow_38 f_0_19 la_4 (by decide) (zf_3 ht) rfl) (zl_ck ?_)
    refine zl_tr (r_getI (kk := 2) d_38_13 ow_38 f_0_146 (zf_o ht) (by decide) rfl) ?_
    refine zl_tr (r_if_ne (tgt := 25) d_38_16 (by decide)) (zl_if ?_ ?_)
    · skip
      refine zl_tr (r_aload_n d_38_19 rfl) ?_
      refine zl_tr (r_iconst d_38_20 (by decide)) ?_
      refine zl_tr (r_VI [zm_A 4, zm_I 3] d_38_21 ow_38 cal_0_119 na_4 rfl rfl (Nat.le_of_ble_eq_true rfl) (by rw [rk_4]; decide) (zr_rcv la_4 ow_4) (zr_im mx_4 rfl (Nat.le_of_ble_eq_true rfl)) (by rw [rt_4]; decide)) (zl_I (fun v5 h6 => ?_))
      exact r_zret d_38_24 rt_38
    · skip
      refine zl_tr (r_aload_n d_38_25 rfl) ?_
      refine zl_tr (r_getR d_38_26 ow_38 f_0_38 la_4 (by decide) fr_4_4) ?_
      refine zl_tr (r_getR d_38_29 ow_38 f_0_206 la_32 (by decide) fr_32_2) ?_
      refine zl_tr (r_iload_n d_38_32 rfl) ?_
      refine zl_tr (r_iaload d_38_33 la_33) (zl_ck ?_)
      refine zl_tr (r_bipush d_38_34 (by decide)) ?_
      refine zl_tr (r_icmp_lt (tgt := 45) d_38_36 (by decide)) (zl_if ?_ ?_)
      · skip
        refine zl_tr (r_aload_n d_38_45 rfl) ?_
        refine zl_tr (r_getR d_38_46 ow_38 f_0_51 la_4 (by decide) fr_4_7) ?_
        refine zl_tr (r_aload_n d_38_49 rfl) ?_
        refine zl_tr (r_getR d_38_50 ow_38 f_0_38 la_4 (by decide) fr_4_4) ?_
        refine zl_tr (r_VV [zm_A 44, zm_A 32] d_38_53 ow_38 cal_0_276 na_69 rfl rfl (Nat.le_of_ble_eq_true rfl) (by rw [rk_69]; decide) (zr_rcv la_44 ow_69) (zr_im mx_69 rfl (Nat.le_of_ble_eq_true rfl)) rt_69) (zl_V (fun h7 => ?_))
        refine zl_tr (r_aload_n d_38_56 rfl) ?_
        refine zl_tr (r_getR d_38_57 ow_38 f_0_38 la_4 (by decide) fr_4_4) ?_
        refine zl_tr (r_getR d_38_60 ow_38 f_0_236 la_32 (by decide) fr_32_4) ?_
        refine zl_tr (r_iload_n d_38_63 rfl) ?_
        refine zl_tr (r_bipush d_38_64 (by decide)) ?_
        refine zl_tr (r_imul d_38_66) (zl_ck ?_)
        refine zl_tr (r_iload_n d_38_67 rfl) ?_
        refine zl_tr (r_iadd d_38_68) (zl_ck ?_)
        refine zl_tr (r_dup2 d_38_69 ⟨rfl, rfl⟩) ?_
        refine zl_tr (r_iaload d_38_70 la_35) (zl_ck ?_)
        refine zl_tr (r_iconst d_38_71 (by decide)) ?_
        refine zl_tr (r_isub d_38_72) (zl_ck ?_)
        refine zl_tr (r_iastore d_38_73 la_35) (zl_ck ?_)
        refine zl_tr (r_aload_n d_38_74 rfl) ?_
        refine zl_tr (r_getR d_38_75 ow_38 f_0_38 la_4 (by decide) fr_4_4) ?_
        refine zl_tr (r_getR d_38_78 ow_38 f_0_206 la_32 (by decide) fr_32_2) ?_
        refine zl_tr (r_iload_n d_38_81 rfl) ?_
        refine zl_tr (r_dup2 d_38_82 ⟨rfl, rfl⟩) ?_
        refine zl_tr (r_iaload d_38_83 la_33) (zl_ck ?_)
        refine zl_tr (r_iconst d_38_84 (by decide)) ?_
        refine zl_tr (r_iadd d_38_85) (zl_ck ?_)
        refine zl_tr (r_iastore d_38_86 la_33) (zl_ck ?_)
        refine zl_tr (r_iconst d_38_87 (by decide)) ?_
        exact r_zret d_38_88 rt_38
      · skip
        refine zl_tr (r_aload_n d_38_39 rfl) ?_
        refine zl_tr (r_iconst d_38_40 (by decide)) ?_
        refine zl_tr (r_VI [zm_A 4, zm_I 3] d_38_41 ow_38 cal_0_119 na_4 rfl rfl (Nat.le_of_ble_eq_true rfl) (by rw [rk_4]; decide) (zr_rcv la_4 ow_4) (zr_im mx_4 rfl (Nat.le_of_ble_eq_true rfl)) (by rw [rt_4]; decide)) (zl_I (fun v8 h9 => ?_))
        exact r_zret d_38_44 rt_38
-- BranTub.owns
set_option maxRecDepth 20000 in
theorem e_39 {h : zm_H} {x1 : Int} {x2 : Int} : zl (zk_I (zc 12 [zm_A 4, zm_I x1] h) (fun v1 h2 => if v1 = 0 then (zm_ck (zm_bit 0) (some (zm_I 0, h2))) else (zk_I (zc 11 [zm_A 4, zm_I x2] h2) (fun v3 h4 => if v3 = 0 then (zm_ck (zm_bit 0) (some (zm_I 0, h4))) else (zm_ck (zm_i32 (x1 * 8)) (zm_ck (zm_i32 ((x1 * 8) + x2)) (zm_ck (0 ≤ ((x1 * 8) + x2) ∧ ((x1 * 8) + x2) < ((64 : Nat) : Int)) (if (h4 35 ((x1 * 8) + x2)) ≤ 0 then (zm_ck (zm_bit 0) (some (zm_I 0, h4))) else (zm_ck (zm_bit 1) (some (zm_I 1, h4))))))))))) (zc 39 [zm_A 4, zm_I x1, zm_I x2] h) := by
  rw [zc_eq (loc := [zm_A 4, zm_I x1, zm_I x2]) (rk_39 _) rfl]
  refine zl_tr (r_aload_n d_39_0 rfl) ?_
  refine zl_tr (r_iload_n d_39_1 rfl) ?_
  refine zl_tr (r_VI [zm_A 4, zm_I x1] d_39_2 ow_39 cal_0_182 na_12 rfl rfl (Nat.le_of_ble_eq_true rfl) (by rw [rk_12]; decide) (zr_rcv la_4 ow_12) (zr_im mx_12 rfl (Nat.le_of_ble_eq_true rfl)) (by rw [rt_12]; decide)) (zl_I (fun v1 h2 => ?_))
  refine zl_tr (r_if_eq (tgt := 37) d_39_5 (by decide)) (zl_if ?_ ?_)
  · skip
    refine zl_tr (r_iconst d_39_37 (by decide)) ?_
    exact r_zret d_39_38 rt_39
  · skip
    refine zl_tr (r_aload_n d_39_8 rfl) ?_
    refine zl_tr (r_iload_n d_39_9 rfl) ?_
    refine zl_tr (r_VI [zm_A 4, zm_I x2] d_39_10 ow_39 cal_0_176 na_11 rfl rfl (Nat.le_of_ble_eq_true rfl) (by rw [rk_11]; decide) (zr_rcv la_4 ow_11) (zr_im mx_11 rfl (Nat.le_of_ble_eq_true rfl)) (by rw [rt_11]; decide)) (zl_I (fun v3 h4 => ?_))
    refine zl_tr (r_if_eq (tgt := 37) d_39_13 (by decide)) (zl_if ?_ ?_)
    · skip
      refine zl_tr (r_iconst d_39_37 (by decide)) ?_
      exact r_zret d_39_38 rt_39
    · skip
      refine zl_tr (r_aload_n d_39_16 rfl) ?_
      refine zl_tr (r_getR d_39_17 ow_39 f_0_38 la_4 (by decide) fr_4_4) ?_
      refine zl_tr (r_getR d_39_20 ow_39 f_0_236 la_32 (by decide) fr_32_4) ?_
      refine zl_tr (r_iload_n d_39_23 rfl) ?_
      refine zl_tr (r_bipush d_39_24 (by decide)) ?_
      refine zl_tr (r_imul d_39_26) (zl_ck ?_)
      refine zl_tr (r_iload_n d_39_27 rfl) ?_
      refine zl_tr (r_iadd d_39_28) (zl_ck ?_)
      refine zl_tr (r_iaload d_39_29 la_35) (zl_ck ?_)
      refine zl_tr (r_if_le (tgt := 37) d_39_30 (by decide)) (zl_if ?_ ?_)
      · skip
        refine zl_tr (r_iconst d_39_37 (by decide)) ?_
        exact r_zret d_39_38 rt_39
      · skip
        refine zl_tr (r_iconst d_39_33 (by decide)) ?_
        refine zl_tr (r_goto (tgt := 38) d_39_34 (by decide)) ?_
        exact r_zret d_39_38 rt_39
-- BranTub.swap
set_option maxRecDepth 20000 in
theorem e_40 {h : zm_H} {x1 : Int} {x2 : Int} {x3 : Int} {x4 : Int} : zl (if x1 = x3 then (zk_I (zc 4 [zm_A 4, zm_I 3] h) (fun v1 h2 => zm_ck (zm_bit v1) (some (zm_I v1, h2)))) else (zk_I (zc 39 [zm_A 4, zm_I x1, zm_I x2] h) (fun v3 h4 => if v3 = 0 then (zk_I (zc 4 [zm_A 4, zm_I 3] h4) (fun v5 h6 => zm_ck (zm_bit v5) (some (zm_I v5, h6)))) else (zk_I (zc 39 [zm_A 4, zm_I x3, zm_I x4] h4) (fun v7 h8 => if v7 = 0 then (zk_I (zc 4 [zm_A 4, zm_I 3] h8) (fun v9 h10 => zm_ck (zm_bit v9) (some (zm_I v9, h10)))) else (zk_V (zc 69 [zm_A 44, zm_A 32] h8) (fun h11 => zm_ck (zm_i32 (x1 * 8)) (zm_ck (zm_i32 ((x1 * 8) + x2)) (zm_ck (0 ≤ ((x1 * 8) + x2) ∧ ((x1 * 8) + x2) < ((64 : Nat) : Int)) (zm_ck (zm_i32 ((h11 35 ((x1 * 8) + x2)) - 1)) (zm_ck (0 ≤ ((x1 * 8) + x2) ∧ ((x1 * 8) + x2) < ((64 : Nat) : Int)) (zm_ck (zm_i32 (x3 * 8)) (zm_ck (zm_i32 ((x3 * 8) + x2)) (zm_ck (0 ≤ ((x3 * 8) + x2) ∧ ((x3 * 8) + x2) < ((64 : Nat) : Int)) (zm_ck (zm_i32 (((zm_wr h11 35 ((x1 * 8) + x2) ((h11 35 ((x1 * 8) + x2)) - 1)) 35 ((x3 * 8) + x2)) + 1)) (zm_ck (0 ≤ ((x3 * 8) + x2) ∧ ((x3 * 8) + x2) < ((64 : Nat) : Int)) (zm_ck (zm_i32 (x3 * 8)) (zm_ck (zm_i32 ((x3 * 8) + x4)) (zm_ck (0 ≤ ((x3 * 8) + x4) ∧ ((x3 * 8) + x4) < ((64 : Nat) : Int)) (zm_ck (zm_i32 (((zm_wr (zm_wr h11 35 ((x1 * 8) + x2) ((h11 35 ((x1 * 8) + x2)) - 1)) 35 ((x3 * 8) + x2) (((zm_wr h11 35 ((x1 * 8) + x2) ((h11 35 ((x1 * 8) + x2)) - 1)) 35 ((x3 * 8) + x2)) + 1)) 35 ((x3 * 8) + x4)) - 1)) (zm_ck (0 ≤ ((x3 * 8) + x4) ∧ ((x3 * 8) + x4) < ((64 : Nat) : Int)) (zm_ck (zm_i32 (x1 * 8)) (zm_ck (zm_i32 ((x1 * 8) + x4)) (zm_ck (0 ≤ ((x1 * 8) + x4) ∧ ((x1 * 8) + x4) < ((64 : Nat) : Int)) (zm_ck (zm_i32 (((zm_wr (zm_wr (zm_wr h11 35 ((x1 * 8) + x2) ((h11 35 ((x1 * 8) + x2)) - 1)) 35 ((x3 * 8) + x2) (((zm_wr h11 35 ((x1 * 8) + x2) ((h11 35 ((x1 * 8) + x2)) - 1)) 35 ((x3 * 8) + x2)) + 1)) 35 ((x3 * 8) + x4) (((zm_wr (zm_wr h11 35 ((x1 * 8) + x2) ((h11 35 ((x1 * 8) + x2)) - 1)) 35 ((x3 * 8) + x2) (((zm_wr h11 35 ((x1 * 8) + x2) ((h11 35 ((x1 * 8) + x2)) - 1)) 35 ((x3 * 8) + x2)) + 1)) 35 ((x3 * 8) + x4)) - 1)) 35 ((x1 * 8) + x4)) + 1)) (zm_ck (0 ≤ ((x1 * 8) + x4) ∧ ((x1 * 8) + x4) < ((64 : Nat) : Int)) (zm_ck (zm_bit 1) (some (zm_I 1, (zm_wr (zm_wr (zm_wr (zm_wr h11 35 ((x1 * 8) + x2) ((h11 35 ((x1 * 8) + x2)) - 1)) 35 ((x3 * 8) + x2) (((zm_wr h11 35 ((x1 * 8) + x2) ((h11 35 ((x1 * 8) + x2)) - 1)) 35 ((x3 * 8) + x2)) + 1)) 35 ((x3 * 8) + x4) (((zm_wr (zm_wr h11 35 ((x1 * 8) + x2) ((h11 35 ((x1 * 8) + x2)) - 1)) 35 ((x3 * 8) + x2) (((zm_wr h11 35 ((x1 * 8) + x2) ((h11 35 ((x1 * 8) + x2)) - 1)) 35 ((x3 * 8) + x2)) + 1)) 35 ((x3 * 8) + x4)) - 1)) 35 ((x1 * 8) + x4) (((zm_wr (zm_wr (zm_wr h11 35 ((x1 * 8) + x2) ((h11 35 ((x1 * 8) + x2)) - 1)) 35 ((x3 * 8) + x2) (((zm_wr h11 35 ((x1 * 8) + x2) ((h11 35 ((x1 * 8) + x2)) - 1)) 35 ((x3 * 8) + x2)) + 1)) 35 ((x3 * 8) + x4) (((zm_wr (zm_wr h11 35 ((x1 * 8) + x2) ((h11 35 ((x1 * 8) + x2)) - 1)) 35 ((x3 * 8) + x2) (((zm_wr h11 35 ((x1 * 8) + x2) ((h11 35 ((x1 * 8) + x2)) - 1)) 35 ((x3 * 8) + x2)) + 1)) 35 ((x3 * 8) + x4)) - 1)) 35 ((x1 * 8) + x4)) + 1))))))))))))))))))))))))))))))) (zc 40 [zm_A 4, zm_I x1, zm_I x2, zm_I x3, zm_I x4] h) := by
  rw [zc_eq (loc := [zm_A 4, zm_I x1, zm_I x2, zm_I x3, zm_I x4]) (rk_40 _) rfl]
  refine zl_tr (r_iload_n d_40_0 rfl) ?_
  refine zl_tr (r_iload_n d_40_1 rfl) ?_
  refine zl_tr (r_icmp_eq (tgt := 24) d_40_2 (by decide)) (zl_if ?_ ?_)
  · skip
    refine zl_tr (r_aload_n d_40_24 rfl) ?_
    refine zl_tr (r_iconst d_40_25 (by decide)) ?_
    refine zl_tr (r_VI [zm_A 4, zm_I 3] d_40_26 ow_40 cal_0_119 na_4 rfl rfl (Nat.le_of_ble_eq_true rfl) (by rw [rk_4]; decide) (zr_rcv la_4 ow_4) (zr_im mx_4 rfl (Nat.le_of_ble_eq_true rfl)) (by rw [rt_4]; decide)) (zl_I (fun v1 h2 => ?_))
    exact r_zret d_40_29 rt_40
  · skip
    refine zl_tr (r_aload_n d_40_5 rfl) ?_
    refine zl_tr (r_iload_n d_40_6 rfl) ?_
    refine zl_tr (r_iload_n d_40_7 rfl) ?_
    refine zl_tr (r_VI [zm_A 4, zm_I x1, zm_I x2] d_40_8 ow_40 cal_0_283 na_39 rfl rfl (Nat.le_of_ble_eq_true rfl) (by rw [rk_39]; decide) (zr_rcv la_4 ow_39) (zr_im mx_39 rfl (Nat.le_of_ble_eq_true rfl)) (by rw [rt_39]; decide)) (zl_I (fun v3 h4 => ?_))
    refine zl_tr (r_if_eq (tgt := 24) d_40_11 (by decide)) (zl_if ?_ ?_)
    · skip
      refine zl_tr (r_aload_n d_40_24 rfl) ?_
      refine zl_tr (r_iconst d_40_25 (by decide)) ?_
      refine zl_tr (r_VI [zm_A 4, zm_I 3] d_40_26 ow_40 cal_0_119 na_4 rfl rfl (Nat.le_of_ble_eq_true rfl) (by rw [rk_4]; decide) (zr_rcv la_4 ow_4) (zr_im mx_4 rfl (Nat.le_of_ble_eq_true rfl)) (by rw [rt_4]; decide)) (zl_I (fun v5 h6 => ?_))
      exact r_zret d_40_29 rt_40
    · skip
      refine zl_tr (r_aload_n d_40_14 rfl) ?_
      refine zl_tr (r_iload_n d_40_15 rfl) ?_
      refine zl_tr (r_iload d_40_16 rfl) ?_
      refine zl_tr (r_VI [zm_A 4, zm_I x3, zm_I x4] d_40_18 ow_40 cal_0_283 na_39 rfl rfl (Nat.le_of_ble_eq_true rfl) (by rw [rk_39]; decide) (zr_rcv la_4 ow_39) (zr_im mx_39 rfl (Nat.le_of_ble_eq_true rfl)) (by rw [rt_39]; decide)) (zl_I (fun v7 h8 => ?_))
      refine zl_tr (r_if_ne (tgt := 30) d_40_21 (by decide)) (zl_if ?_ ?_)
      · skip
        refine zl_tr (r_aload_n d_40_24 rfl) ?_
        refine zl_tr (r_iconst d_40_25 (by decide)) ?_
        refine zl_tr (r_VI [zm_A 4, zm_I 3] d_40_26 ow_40 cal_0_119 na_4 rfl rfl (Nat.le_of_ble_eq_true rfl) (by rw [rk_4]; decide) (zr_rcv la_4 ow_4) (zr_im mx_4 rfl (Nat.le_of_ble_eq_true rfl)) (by rw [rt_4]; decide)) (zl_I (fun v9 h10 => ?_))
        exact r_zret d_40_29 rt_40
      · skip
        refine zl_tr (r_aload_n d_40_30 rfl) ?_
        refine zl_tr (r_getR d_40_31 ow_40 f_0_51 la_4 (by decide) fr_4_7) ?_
        refine zl_tr (r_aload_n d_40_34 rfl) ?_
        refine zl_tr (r_getR d_40_35 ow_40 f_0_38 la_4 (by decide) fr_4_4) ?_
        refine zl_tr (r_VV [zm_A 44, zm_A 32] d_40_38 ow_40 cal_0_276 na_69 rfl rfl (Nat.le_of_ble_eq_true rfl) (by rw [rk_69]; decide) (zr_rcv la_44 ow_69) (zr_im mx_69 rfl (Nat.le_of_ble_eq_true rfl)) rt_69) (zl_V (fun h11 => ?_))
        refine zl_tr (r_aload_n d_40_41 rfl) ?_
        refine zl_tr (r_getR d_40_42 ow_40 f_0_38 la_4 (by decide) fr_4_4) ?_
        refine zl_tr (r_getR d_40_45 ow_40 f_0_236 la_32 (by decide) fr_32_4) ?_
        refine zl_tr (r_iload_n d_40_48 rfl) ?_
        refine zl_tr (r_bipush d_40_49 (by decide)) ?_
        refine zl_tr (r_imul d_40_51) (zl_ck ?_)
        refine zl_tr (r_iload_n d_40_52 rfl) ?_
        refine zl_tr (r_iadd d_40_53) (zl_ck ?_)
        refine zl_tr (r_dup2 d_40_54 ⟨rfl, rfl⟩) ?_
        refine zl_tr (r_iaload d_40_55 la_35) (zl_ck ?_)
        refine zl_tr (r_iconst d_40_56 (by decide)) ?_
        refine zl_tr (r_isub d_40_57) (zl_ck ?_)
        refine zl_tr (r_iastore d_40_58 la_35) (zl_ck ?_)
        refine zl_tr (r_aload_n d_40_59 rfl) ?_
        refine zl_tr (r_getR d_40_60 ow_40 f_0_38 la_4 (by decide) fr_4_4) ?_
        refine zl_tr (r_getR d_40_63 ow_40 f_0_236 la_32 (by decide) fr_32_4) ?_
        refine zl_tr (r_iload_n d_40_66 rfl) ?_
        refine zl_tr (r_bipush d_40_67 (by decide)) ?_
        refine zl_tr (r_imul d_40_69) (zl_ck ?_)
        refine zl_tr (r_iload_n d_40_70 rfl) ?_
        refine zl_tr (r_iadd d_40_71) (zl_ck ?_)
        refine zl_tr (r_dup2 d_40_72 ⟨rfl, rfl⟩) ?_
        refine zl_tr (r_iaload d_40_73 la_35) (zl_ck ?_)
        refine zl_tr (r_iconst d_40_74 (by decide)) ?_
        refine zl_tr (r_iadd d_40_75) (zl_ck ?_)
        refine zl_tr (r_iastore d_40_76 la_35) (zl_ck ?_)
        refine zl_tr (r_aload_n d_40_77 rfl) ?_
        refine zl_tr (r_getR d_40_78 ow_40 f_0_38 la_4 (by decide) fr_4_4) ?_
        refine zl_tr (r_getR d_40_81 ow_40 f_0_236 la_32 (by decide) fr_32_4) ?_
        refine zl_tr (r_iload_n d_40_84 rfl) ?_
        refine zl_tr (r_bipush d_40_85 (by decide)) ?_
        refine zl_tr (r_imul d_40_87) (zl_ck ?_)
        refine zl_tr (r_iload d_40_88 rfl) ?_
        refine zl_tr (r_iadd d_40_90) (zl_ck ?_)
        refine zl_tr (r_dup2 d_40_91 ⟨rfl, rfl⟩) ?_
        refine zl_tr (r_iaload d_40_92 la_35) (zl_ck ?_)
        refine zl_tr (r_iconst d_40_93 (by decide)) ?_
        refine zl_tr (r_isub d_40_94) (zl_ck ?_)
        refine zl_tr (r_iastore d_40_95 la_35) (zl_ck ?_)
        refine zl_tr (r_aload_n d_40_96 rfl) ?_
        refine zl_tr (r_getR d_40_97 ow_40 f_0_38 la_4 (by decide) fr_4_4) ?_
        refine zl_tr (r_getR d_40_100 ow_40 f_0_236 la_32 (by decide) fr_32_4) ?_
        refine zl_tr (r_iload_n d_40_103 rfl) ?_
        refine zl_tr (r_bipush d_40_104 (by decide)) ?_
        refine zl_tr (r_imul d_40_106) (zl_ck ?_)
        refine zl_tr (r_iload d_40_107 rfl) ?_
        refine zl_tr (r_iadd d_40_109) (zl_ck ?_)
        refine zl_tr (r_dup2 d_40_110 ⟨rfl, rfl⟩) ?_
        refine zl_tr (r_iaload d_40_111 la_35) (zl_ck ?_)
        refine zl_tr (r_iconst d_40_112 (by decide)) ?_
        refine zl_tr (r_iadd d_40_113) (zl_ck ?_)
        refine zl_tr (r_iastore d_40_114 la_35) (zl_ck ?_)
        refine zl_tr (r_iconst d_40_115 (by decide)) ?_
        exact r_zret d_40_116 rt_40
-- BranTub.afternoon
set_option maxRecDepth 20000 in
theorem e_41 {h : zm_H} {x1 : Int} : zl (if x1 < 1 then (zk_I (zc 2 [zm_A 4, zm_I 3] h) (fun v1 h2 => some (zm_I v1, h2))) else (if x1 ≤ 20 then (zk_V (zc 69 [zm_A 44, zm_A 32] h) (fun h3 => zr none 7 41 38 [zm_A 4, zm_I x1, zm_I (h3 32 1), zm_I 0, zm_U] [] h3)) else (zk_I (zc 2 [zm_A 4, zm_I 3] h) (fun v4 h5 => some (zm_I v4, h5))))) (zc 41 [zm_A 4, zm_I x1] h) := by
  rw [zc_eq (loc := [zm_A 4, zm_I x1, zm_U, zm_U, zm_U]) (rk_41 _) rfl]
  refine zl_tr (r_iload_n d_41_0 rfl) ?_
  refine zl_tr (r_iconst d_41_1 (by decide)) ?_
  refine zl_tr (r_icmp_lt (tgt := 11) d_41_2 (by decide)) (zl_if ?_ ?_)
  · skip
    refine zl_tr (r_aload_n d_41_11 rfl) ?_
    refine zl_tr (r_iconst d_41_12 (by decide)) ?_
    refine zl_tr (r_VI [zm_A 4, zm_I 3] d_41_13 ow_41 cal_0_111 na_2 rfl rfl (Nat.le_of_ble_eq_true rfl) (by rw [rk_2]; decide) (zr_rcv la_4 ow_2) (zr_im mx_2 rfl (Nat.le_of_ble_eq_true rfl)) (by rw [rt_2]; decide)) (zl_I (fun v1 h2 => ?_))
    exact r_iret d_41_16 rt_41
  · skip
    refine zl_tr (r_iload_n d_41_5 rfl) ?_
    refine zl_tr (r_bipush d_41_6 (by decide)) ?_
    refine zl_tr (r_icmp_le (tgt := 17) d_41_8 (by decide)) (zl_if ?_ ?_)
    · skip
      refine zl_tr (r_aload_n d_41_17 rfl) ?_
      refine zl_tr (r_getR d_41_18 ow_41 f_0_51 la_4 (by decide) fr_4_7) ?_
      refine zl_tr (r_aload_n d_41_21 rfl) ?_
      refine zl_tr (r_getR d_41_22 ow_41 f_0_38 la_4 (by decide) fr_4_4) ?_
      refine zl_tr (r_VV [zm_A 44, zm_A 32] d_41_25 ow_41 cal_0_276 na_69 rfl rfl (Nat.le_of_ble_eq_true rfl) (by rw [rk_69]; decide) (zr_rcv la_44 ow_69) (zr_im mx_69 rfl (Nat.le_of_ble_eq_true rfl)) rt_69) (zl_V (fun h3 => ?_))
      refine zl_tr (r_aload_n d_41_28 rfl) ?_
      refine zl_tr (r_getR d_41_29 ow_41 f_0_38 la_4 (by decide) fr_4_4) ?_
      refine zl_tr (r_getI (kk := 1) d_41_32 ow_41 f_0_159 la_32 (by decide) rfl) ?_
      refine zl_tr (r_istore_n (loc' := [zm_A 4, zm_I x1, zm_I (h3 32 1), zm_U, zm_U]) d_41_35 (Nat.le_of_ble_eq_true rfl) rfl) ?_
      refine zl_tr (r_iconst d_41_36 (by decide)) ?_
      refine zl_tr (r_istore_n (loc' := [zm_A 4, zm_I x1, zm_I (h3 32 1), zm_I 0, zm_U]) d_41_37 (Nat.le_of_ble_eq_true rfl) rfl) ?_
      exact zl_rf
    · skip
      refine zl_tr (r_aload_n d_41_11 rfl) ?_
      refine zl_tr (r_iconst d_41_12 (by decide)) ?_
      refine zl_tr (r_VI [zm_A 4, zm_I 3] d_41_13 ow_41 cal_0_111 na_2 rfl rfl (Nat.le_of_ble_eq_true rfl) (by rw [rk_2]; decide) (zr_rcv la_4 ow_2) (zr_im mx_2 rfl (Nat.le_of_ble_eq_true rfl)) (by rw [rt_2]; decide)) (zl_I (fun v4 h5 => ?_))
      exact r_iret d_41_16 rt_41
-- BranTub.afternoon, from 38
set_option maxRecDepth 20000 in
theorem e_41_38 {h : zm_H} {x1 : Int} {x2 : Int} {x3 : Int} {w4 : zm_V} : zl (if x3 < x1 then (zk_V (zc 42 [zm_A 4] h) (fun h1 => if (h1 32 1) = (h 32 1) then (zm_ck (zm_i32 ((h1 32 1) - x2)) (some (zm_I ((h1 32 1) - x2), h1))) else (zm_ck (zm_i32 (x3 + 1)) (zr none 7 41 38 [zm_A 4, zm_I x1, zm_I x2, zm_I (x3 + 1), zm_I (h 32 1)] [] h1)))) else (zm_ck (zm_i32 ((h 32 1) - x2)) (some (zm_I ((h 32 1) - x2), h)))) (zr none 7 41 38 [zm_A 4, zm_I x1, zm_I x2, zm_I x3, w4] [] h) := by
  refine zl_tr (r_iload_n d_41_38 rfl) ?_
  refine zl_tr (r_iload_n d_41_39 rfl) ?_
  refine zl_tr (r_icmp_ge (tgt := 77) d_41_40 (by decide)) (zl_if ?_ ?_)
  · skip
    refine zl_tr (r_aload_n d_41_43 rfl) ?_
    refine zl_tr (r_getR d_41_44 ow_41 f_0_38 la_4 (by decide) fr_4_4) ?_
    refine zl_tr (r_getI (kk := 1) d_41_47 ow_41 f_0_159 la_32 (by decide) rfl) ?_
    refine zl_tr (r_istore (loc' := [zm_A 4, zm_I x1, zm_I x2, zm_I x3, zm_I (h 32 1)]) d_41_50 (Nat.le_of_ble_eq_true rfl) rfl) ?_
    refine zl_tr (r_aload_n d_41_52 rfl) ?_
    refine zl_tr (r_VV [zm_A 4] d_41_53 ow_41 cal_0_287 na_42 rfl rfl (Nat.le_of_ble_eq_true rfl) (by rw [rk_42]; decide) (zr_rcv la_4 ow_42) (zr_im mx_42 rfl (Nat.le_of_ble_eq_true rfl)) rt_42) (zl_V (fun h1 => ?_))
    refine zl_tr (r_aload_n d_41_56 rfl) ?_
    refine zl_tr (r_getR d_41_57 ow_41 f_0_38 la_4 (by decide) fr_4_4) ?_
    refine zl_tr (r_getI (kk := 1) d_41_60 ow_41 f_0_159 la_32 (by decide) rfl) ?_
    refine zl_tr (r_iload d_41_63 rfl) ?_
    refine zl_tr (r_icmp_ne (tgt := 71) d_41_65 (by decide)) (zl_if ?_ ?_)
    · skip
      refine zl_tr (r_goto (tgt := 77) d_41_68 (by decide)) ?_
      refine zl_tr (r_aload_n d_41_77 rfl) ?_
      refine zl_tr (r_getR d_41_78 ow_41 f_0_38 la_4 (by decide) fr_4_4) ?_
      refine zl_tr (r_getI (kk := 1) d_41_81 ow_41 f_0_159 la_32 (by decide) rfl) ?_
      refine zl_tr (r_iload_n d_41_84 rfl) ?_
      refine zl_tr (r_isub d_41_85) (zl_ck ?_)
      exact r_iret d_41_86 rt_41
    · skip
      refine zl_tr (r_iinc (loc' := [zm_A 4, zm_I x1, zm_I x2, zm_I (x3 + 1), zm_I (h 32 1)]) d_41_71 rfl (Nat.le_of_ble_eq_true rfl) rfl) (zl_ck ?_)
      refine zl_tr (r_goto (tgt := 38) d_41_74 (by decide)) ?_
      exact zl_rf
  · skip
    refine zl_tr (r_aload_n d_41_77 rfl) ?_
    refine zl_tr (r_getR d_41_78 ow_41 f_0_38 la_4 (by decide) fr_4_4) ?_
    refine zl_tr (r_getI (kk := 1) d_41_81 ow_41 f_0_159 la_32 (by decide) rfl) ?_
    refine zl_tr (r_iload_n d_41_84 rfl) ?_
    refine zl_tr (r_isub d_41_85) (zl_ck ?_)
    exact r_iret d_41_86 rt_41
-- BranTub.playRound
set_option maxRecDepth 20000 in
theorem e_42 {h : zm_H}  : zl (zr none 6 42 2 [zm_A 4, zm_I 0] [] h) (zc 42 [zm_A 4] h) := by
  rw [zc_eq (loc := [zm_A 4, zm_U]) (rk_42 _) rfl]
  refine zl_tr (r_iconst d_42_0 (by decide)) ?_
  refine zl_tr (r_istore_n (loc' := [zm_A 4, zm_I 0]) d_42_1 (Nat.le_of_ble_eq_true rfl) rfl) ?_
  exact zl_rf
-- BranTub.playRound, from 2
set_option maxRecDepth 20000 in
theorem e_42_2 {h : zm_H} {x1 : Int} {t : Nat} (ht : zf_F t) : zl (zm_ck (h 4 1 = (t : Int)) (if x1 < (h t 3) then (zk_I (zc 31 [zm_A 4, zm_I x1] h) (fun v1 h2 => if v1 = 0 then (zm_ck (zm_i32 (x1 + 1)) (zr none 6 42 2 [zm_A 4, zm_I (x1 + 1)] [] h2)) else (zk_I (zc 8 [zm_A 4] h2) (fun v3 h4 => zk_I (zc 26 [zm_A 4, zm_I x1] h4) (fun v5 h6 => if v5 < v3 then (zm_ck (zm_i32 (x1 + 1)) (zr none 6 42 2 [zm_A 4, zm_I (x1 + 1)] [] h6)) else (zk_I (zc 32 [zm_A 4, zm_I x1] h6) (fun v7 h8 => zm_ck (zm_i32 (x1 + 1)) (zr none 6 42 2 [zm_A 4, zm_I (x1 + 1)] [] h8)))))))) else (if (h 32 0) < 99 then (zm_ck (zm_i32 ((h 32 0) + 1)) (some (zm_U, (zm_wr h 32 0 ((h 32 0) + 1))))) else (some (zm_U, h))))) (zr none 6 42 2 [zm_A 4, zm_I x1] [] h) := by
  refine zl_tr (r_iload_n d_42_2 rfl) ?_
  refine zl_tr (r_aload_n d_42_3 rfl) ?_
  refine zl_tr (r_getN (b := t) (kk := 1) d_42_4 ow_42 f_0_19 la_4 (by decide) (zf_3 ht) rfl) (zl_ck ?_)
  refine zl_tr (r_getI (kk := 3) d_42_7 ow_42 f_0_149 (zf_o ht) (by decide) rfl) ?_
  refine zl_tr (r_icmp_ge (tgt := 45) d_42_10 (by decide)) (zl_if ?_ ?_)
  · skip
    refine zl_tr (r_aload_n d_42_13 rfl) ?_
    refine zl_tr (r_iload_n d_42_14 rfl) ?_
    refine zl_tr (r_VI [zm_A 4, zm_I x1] d_42_15 ow_42 cal_0_273 na_31 rfl rfl (Nat.le_of_ble_eq_true rfl) (by rw [rk_31]; decide) (zr_rcv la_4 ow_31) (zr_im mx_31 rfl (Nat.le_of_ble_eq_true rfl)) (by rw [rt_31]; decide)) (zl_I (fun v1 h2 => ?_))
    refine zl_tr (r_if_eq (tgt := 39) d_42_18 (by decide)) (zl_if ?_ ?_)
    · skip
      refine zl_tr (r_iinc (loc' := [zm_A 4, zm_I (x1 + 1)]) d_42_39 rfl (Nat.le_of_ble_eq_true rfl) rfl) (zl_ck ?_)
      refine zl_tr (r_goto (tgt := 2) d_42_42 (by decide)) ?_
      exact zl_rf
    · skip
      refine zl_tr (r_aload_n d_42_21 rfl) ?_
      refine zl_tr (r_VI [zm_A 4] d_42_22 ow_42 cal_0_162 na_8 rfl rfl (Nat.le_of_ble_eq_true rfl) (by rw [rk_8]; decide) (zr_rcv la_4 ow_8) (zr_im mx_8 rfl (Nat.le_of_ble_eq_true rfl)) (by rw [rt_8]; decide)) (zl_I (fun v3 h4 => ?_))
      refine zl_tr (r_aload_n d_42_25 rfl) ?_
      refine zl_tr (r_iload_n d_42_26 rfl) ?_
      refine zl_tr (r_VI [zm_A 4, zm_I x1] d_42_27 ow_42 cal_0_339 na_26 rfl rfl (Nat.le_of_ble_eq_true rfl) (by rw [rk_26]; decide) (zr_rcv la_4 ow_26) (zr_im mx_26 rfl (Nat.le_of_ble_eq_true rfl)) (by rw [rt_26]; decide)) (zl_I (fun v5 h6 => ?_))
      refine zl_tr (r_icmp_gt (tgt := 39) d_42_30 (by decide)) (zl_if ?_ ?_)
      · skip
        refine zl_tr (r_iinc (loc' := [zm_A 4, zm_I (x1 + 1)]) d_42_39 rfl (Nat.le_of_ble_eq_true rfl) rfl) (zl_ck ?_)
        refine zl_tr (r_goto (tgt := 2) d_42_42 (by decide)) ?_
        exact zl_rf
      · skip
        refine zl_tr (r_aload_n d_42_33 rfl) ?_
        refine zl_tr (r_iload_n d_42_34 rfl) ?_
        refine zl_tr (r_VI [zm_A 4, zm_I x1] d_42_35 ow_42 cal_0_280 na_32 rfl rfl (Nat.le_of_ble_eq_true rfl) (by rw [rk_32]; decide) (zr_rcv la_4 ow_32) (zr_im mx_32 rfl (Nat.le_of_ble_eq_true rfl)) (by rw [rt_32]; decide)) (zl_I (fun v7 h8 => ?_))
        refine zl_tr (r_pop d_42_38 rfl) ?_
        refine zl_tr (r_iinc (loc' := [zm_A 4, zm_I (x1 + 1)]) d_42_39 rfl (Nat.le_of_ble_eq_true rfl) rfl) (zl_ck ?_)
        refine zl_tr (r_goto (tgt := 2) d_42_42 (by decide)) ?_
        exact zl_rf
  · skip
    refine zl_tr (r_aload_n d_42_45 rfl) ?_
    refine zl_tr (r_getR d_42_46 ow_42 f_0_38 la_4 (by decide) fr_4_4) ?_
    refine zl_tr (r_getI (kk := 0) d_42_49 ow_42 f_0_152 la_32 (by decide) rfl) ?_
    refine zl_tr (r_bipush d_42_52 (by decide)) ?_
    refine zl_tr (r_icmp_ge (tgt := 70) d_42_54 (by decide)) (zl_if ?_ ?_)
    · skip
      refine zl_tr (r_aload_n d_42_57 rfl) ?_
      refine zl_tr (r_getR d_42_58 ow_42 f_0_38 la_4 (by decide) fr_4_4) ?_
      refine zl_tr (r_dup d_42_61 rfl) ?_
      refine zl_tr (r_getI (kk := 0) d_42_62 ow_42 f_0_152 la_32 (by decide) rfl) ?_
      refine zl_tr (r_iconst d_42_65 (by decide)) ?_
      refine zl_tr (r_iadd d_42_66) (zl_ck ?_)
      refine zl_tr (r_putI (kk := 0) d_42_67 ow_42 f_0_152 la_32 (by decide) rfl) ?_
      exact r_vret d_42_70 rt_42
    · skip
      exact r_vret d_42_70 rt_42
-- BranTub.undo
set_option maxRecDepth 20000 in
theorem e_43 {h : zm_H}  : zl (if (h 44 5) = 0 then (zk_I (zc 4 [zm_A 4, zm_I 4] h) (fun v1 h2 => zm_ck (zm_bit v1) (some (zm_I v1, h2)))) else (zk_V (zc 71 [zm_A 44, zm_A 32] h) (fun h3 => zm_ck (zm_bit 1) (some (zm_I 1, h3))))) (zc 43 [zm_A 4] h) := by
  rw [zc_eq (loc := [zm_A 4]) (rk_43 _) rfl]
  refine zl_tr (r_aload_n d_43_0 rfl) ?_
  refine zl_tr (r_getR d_43_1 ow_43 f_0_51 la_4 (by decide) fr_4_7) ?_
  refine zl_tr (r_getI (kk := 5) d_43_4 ow_43 f_0_173 la_44 (by decide) rfl) ?_
  refine zl_tr (r_if_ne (tgt := 16) d_43_7 (by decide)) (zl_if ?_ ?_)
  · skip
    refine zl_tr (r_aload_n d_43_10 rfl) ?_
    refine zl_tr (r_iconst d_43_11 (by decide)) ?_
    refine zl_tr (r_VI [zm_A 4, zm_I 4] d_43_12 ow_43 cal_0_119 na_4 rfl rfl (Nat.le_of_ble_eq_true rfl) (by rw [rk_4]; decide) (zr_rcv la_4 ow_4) (zr_im mx_4 rfl (Nat.le_of_ble_eq_true rfl)) (by rw [rt_4]; decide)) (zl_I (fun v1 h2 => ?_))
    exact r_zret d_43_15 rt_43
  · skip
    refine zl_tr (r_aload_n d_43_16 rfl) ?_
    refine zl_tr (r_getR d_43_17 ow_43 f_0_51 la_4 (by decide) fr_4_7) ?_
    refine zl_tr (r_aload_n d_43_20 rfl) ?_
    refine zl_tr (r_getR d_43_21 ow_43 f_0_38 la_4 (by decide) fr_4_4) ?_
    refine zl_tr (r_VV [zm_A 44, zm_A 32] d_43_24 ow_43 cal_0_290 na_71 rfl rfl (Nat.le_of_ble_eq_true rfl) (by rw [rk_71]; decide) (zr_rcv la_44 ow_71) (zr_im mx_71 rfl (Nat.le_of_ble_eq_true rfl)) rt_71) (zl_V (fun h3 => ?_))
    refine zl_tr (r_iconst d_43_27 (by decide)) ?_
    exact r_zret d_43_28 rt_43
-- BranTub.seed
set_option maxRecDepth 20000 in
theorem e_44 {h : zm_H} {x1 : Int} : zl (if x1 < 0 then (zk_I (zc 4 [zm_A 4, zm_I 5] h) (fun v1 h2 => zm_ck (zm_bit v1) (some (zm_I v1, h2)))) else (zm_ck (zm_bit 1) (some (zm_I 1, (zm_wr h 4 16 x1))))) (zc 44 [zm_A 4, zm_I x1] h) := by
  rw [zc_eq (loc := [zm_A 4, zm_I x1]) (rk_44 _) rfl]
  refine zl_tr (r_iload_n d_44_0 rfl) ?_
  refine zl_tr (r_if_ge (tgt := 10) d_44_1 (by decide)) (zl_if ?_ ?_)
  · skip
    refine zl_tr (r_aload_n d_44_4 rfl) ?_
    refine zl_tr (r_iconst d_44_5 (by decide)) ?_
    refine zl_tr (r_VI [zm_A 4, zm_I 5] d_44_6 ow_44 cal_0_119 na_4 rfl rfl (Nat.le_of_ble_eq_true rfl) (by rw [rk_4]; decide) (zr_rcv la_4 ow_4) (zr_im mx_4 rfl (Nat.le_of_ble_eq_true rfl)) (by rw [rt_4]; decide)) (zl_I (fun v1 h2 => ?_))
    exact r_zret d_44_9 rt_44
  · skip
    refine zl_tr (r_aload_n d_44_10 rfl) ?_
    refine zl_tr (r_iload_n d_44_11 rfl) ?_
    refine zl_tr (r_putI (kk := 16) d_44_12 ow_44 f_0_100 la_4 (by decide) rfl) ?_
    refine zl_tr (r_iconst d_44_15 (by decide)) ?_
    exact r_zret d_44_16 rt_44
-- BranTub.kept
set_option maxRecDepth 20000 in
theorem e_45 {h : zm_H} {x1 : Int} {x2 : Int} : zl (zk_I (zc 72 [zm_A 44, zm_I x1, zm_I x2] h) (fun v1 h2 => some (zm_I v1, h2))) (zc 45 [zm_A 4, zm_I x1, zm_I x2] h) := by
  rw [zc_eq (loc := [zm_A 4, zm_I x1, zm_I x2]) (rk_45 _) rfl]
  refine zl_tr (r_aload_n d_45_0 rfl) ?_
  refine zl_tr (r_getR d_45_1 ow_45 f_0_51 la_4 (by decide) fr_4_7) ?_
  refine zl_tr (r_iload_n d_45_4 rfl) ?_
  refine zl_tr (r_iload_n d_45_5 rfl) ?_
  refine zl_tr (r_VI [zm_A 44, zm_I x1, zm_I x2] d_45_6 ow_45 cal_0_293 na_72 rfl rfl (Nat.le_of_ble_eq_true rfl) (by rw [rk_72]; decide) (zr_rcv la_44 ow_72) (zr_im mx_72 rfl (Nat.le_of_ble_eq_true rfl)) (by rw [rt_72]; decide)) (zl_I (fun v1 h2 => ?_))
  exact r_iret d_45_9 rt_45
-- BranTub.row
set_option maxRecDepth 20000 in
theorem e_46 {h : zm_H}  : zl (zk_I (zc 47 [zm_A 4, zm_I (h 5 1)] (zm_wr h 5 1 0)) (fun v1 h2 => if v1 = 0 then (zk_I (zc 2 [zm_A 4, zm_I 5] h2) (fun v3 h4 => some (zm_I v3, h4))) else (zk_V (zc 152 [zm_A 40, zm_A 32] h2) (fun h5 => zm_ck (zm_bit 1) (zm_ck ((2 : Int) ≠ 0 ∧ zm_i32 ((h 5 1).tdiv 2)) (zr none 5 46 52 [zm_A 4, zm_I (h 5 1), zm_I ((h 5 1).tdiv 2), zm_I 0, zm_U] [] (zm_wr h5 4 17 1))))))) (zc 46 [zm_A 4] h) := by
  rw [zc_eq (loc := [zm_A 4, zm_U, zm_U, zm_U, zm_U]) (rk_46 _) rfl]
  refine zl_tr (r_aload_n d_46_0 rfl) ?_
  refine zl_tr (r_getR d_46_1 ow_46 f_0_10 la_4 (by decide) fr_4_0) ?_
  refine zl_tr (r_getI (kk := 1) d_46_4 ow_46 f_0_108 la_5 (by decide) rfl) ?_
  refine zl_tr (r_istore_n (loc' := [zm_A 4, zm_I (h 5 1), zm_U, zm_U, zm_U]) d_46_7 (Nat.le_of_ble_eq_true rfl) rfl) ?_
  refine zl_tr (r_aload_n d_46_8 rfl) ?_
  refine zl_tr (r_getR d_46_9 ow_46 f_0_10 la_4 (by decide) fr_4_0) ?_
  refine zl_tr (r_iconst d_46_12 (by decide)) ?_
  refine zl_tr (r_putI (kk := 1) d_46_13 ow_46 f_0_108 la_5 (by decide) rfl) ?_
  refine zl_tr (r_aload_n d_46_16 rfl) ?_
  refine zl_tr (r_iload_n d_46_17 rfl) ?_
  refine zl_tr (r_VI [zm_A 4, zm_I (h 5 1)] d_46_18 ow_46 cal_0_296 na_47 rfl rfl (Nat.le_of_ble_eq_true rfl) (by rw [rk_47]; decide) (zr_rcv la_4 ow_47) (zr_im mx_47 rfl (Nat.le_of_ble_eq_true rfl)) (by rw [rt_47]; decide)) (zl_I (fun v1 h2 => ?_))
  refine zl_tr (r_if_ne (tgt := 30) d_46_21 (by decide)) (zl_if ?_ ?_)
  · skip
    refine zl_tr (r_aload_n d_46_24 rfl) ?_
    refine zl_tr (r_iconst d_46_25 (by decide)) ?_
    refine zl_tr (r_VI [zm_A 4, zm_I 5] d_46_26 ow_46 cal_0_111 na_2 rfl rfl (Nat.le_of_ble_eq_true rfl) (by rw [rk_2]; decide) (zr_rcv la_4 ow_2) (zr_im mx_2 rfl (Nat.le_of_ble_eq_true rfl)) (by rw [rt_2]; decide)) (zl_I (fun v3 h4 => ?_))
    exact r_iret d_46_29 rt_46
  · skip
    refine zl_tr (r_aload_n d_46_30 rfl) ?_
    refine zl_tr (r_getR d_46_31 ow_46 f_0_45 la_4 (by decide) fr_4_6) ?_
    refine zl_tr (r_aload_n d_46_34 rfl) ?_
    refine zl_tr (r_getR d_46_35 ow_46 f_0_38 la_4 (by decide) fr_4_4) ?_
    refine zl_tr (r_VV [zm_A 40, zm_A 32] d_46_38 ow_46 cal_0_299 na_152 rfl rfl (Nat.le_of_ble_eq_true rfl) (by rw [rk_152]; decide) (zr_rcv la_40 ow_152) (zr_im mx_152 rfl (Nat.le_of_ble_eq_true rfl)) rt_152) (zl_V (fun h5 => ?_))
    refine zl_tr (r_aload_n d_46_41 rfl) ?_
    refine zl_tr (r_iconst d_46_42 (by decide)) ?_
    refine zl_tr (r_putZ (kk := 17) d_46_43 ow_46 f_0_130 la_4 (by decide) rfl) (zl_ck ?_)
    refine zl_tr (r_iload_n d_46_46 rfl) ?_
    refine zl_tr (r_iconst d_46_47 (by decide)) ?_
    refine zl_tr (r_idiv d_46_48) (zl_ck ?_)
    refine zl_tr (r_istore_n (loc' := [zm_A 4, zm_I (h 5 1), zm_I ((h 5 1).tdiv 2), zm_U, zm_U]) d_46_49 (Nat.le_of_ble_eq_true rfl) rfl) ?_
    refine zl_tr (r_iconst d_46_50 (by decide)) ?_
    refine zl_tr (r_istore_n (loc' := [zm_A 4, zm_I (h 5 1), zm_I ((h 5 1).tdiv 2), zm_I 0, zm_U]) d_46_51 (Nat.le_of_ble_eq_true rfl) rfl) ?_
    exact zl_rf
-- BranTub.row, from 52
set_option maxRecDepth 20000 in
theorem e_46_52 {h : zm_H} {w1 : zm_V} {x2 : Int} {x3 : Int} {w4 : zm_V} : zl (if x3 < x2 then (zm_ck (zm_i32 (2 * x3)) (zm_ck (0 ≤ (2 * x3) ∧ (2 * x3) < ((1600 : Nat) : Int)) (zm_ck (zm_i32 (2 * x3)) (zm_ck (zm_i32 ((2 * x3) + 1)) (zm_ck (0 ≤ ((2 * x3) + 1) ∧ ((2 * x3) + 1) < ((1600 : Nat) : Int)) (zk_I (zc 48 [zm_A 4, zm_A 40, zm_I (h 6 (2 * x3)), zm_I (h 6 ((2 * x3) + 1))] h) (fun v1 h2 => if v1 = (-1) then (some (zm_I x3, h2)) else (zm_ck (0 ≤ v1 ∧ v1 < ((40 : Nat) : Int)) (zm_ck (zm_i32 ((h2 41 v1) - 1)) (zm_ck (0 ≤ v1 ∧ v1 < ((40 : Nat) : Int)) (zm_ck (zm_i32 (x3 + 1)) (zr none 5 46 52 [zm_A 4, w1, zm_I x2, zm_I (x3 + 1), zm_I v1] [] (zm_wr h2 41 v1 ((h2 41 v1) - 1)))))))))))))) else (some (zm_I x2, h))) (zr none 5 46 52 [zm_A 4, w1, zm_I x2, zm_I x3, w4] [] h) := by
  refine zl_tr (r_iload_n d_46_52 rfl) ?_
  refine zl_tr (r_iload_n d_46_53 rfl) ?_
  refine zl_tr (r_icmp_ge (tgt := 119) d_46_54 (by decide)) (zl_if ?_ ?_)
  · skip
    refine zl_tr (r_aload_n d_46_57 rfl) ?_
    refine zl_tr (r_aload_n d_46_58 rfl) ?_
    refine zl_tr (r_getR d_46_59 ow_46 f_0_45 la_4 (by decide) fr_4_6) ?_
    refine zl_tr (r_aload_n d_46_62 rfl) ?_
    refine zl_tr (r_getR d_46_63 ow_46 f_0_10 la_4 (by decide) fr_4_0) ?_
    refine zl_tr (r_getR d_46_66 ow_46 f_0_302 la_5 (by decide) fr_5_0) ?_
    refine zl_tr (r_iconst d_46_69 (by decide)) ?_
    refine zl_tr (r_iload_n d_46_70 rfl) ?_
    refine zl_tr (r_imul d_46_71) (zl_ck ?_)
    refine zl_tr (r_iaload d_46_72 la_6) (zl_ck ?_)
    refine zl_tr (r_aload_n d_46_73 rfl) ?_
    refine zl_tr (r_getR d_46_74 ow_46 f_0_10 la_4 (by decide) fr_4_0) ?_
    refine zl_tr (r_getR d_46_77 ow_46 f_0_302 la_5 (by decide) fr_5_0) ?_
    refine zl_tr (r_iconst d_46_80 (by decide)) ?_
    refine zl_tr (r_iload_n d_46_81 rfl) ?_
    refine zl_tr (r_imul d_46_82) (zl_ck ?_)
    refine zl_tr (r_iconst d_46_83 (by decide)) ?_
    refine zl_tr (r_iadd d_46_84) (zl_ck ?_)
    refine zl_tr (r_iaload d_46_85 la_6) (zl_ck ?_)
    refine zl_tr (r_VI [zm_A 4, zm_A 40, zm_I (h 6 (2 * x3)), zm_I (h 6 ((2 * x3) + 1))] d_46_86 ow_46 cal_0_305 na_48 rfl rfl (Nat.le_of_ble_eq_true rfl) (by rw [rk_48]; decide) (zr_rcv la_4 ow_48) (zr_im mx_48 rfl (Nat.le_of_ble_eq_true rfl)) (by rw [rt_48]; decide)) (zl_I (fun v1 h2 => ?_))
    refine zl_tr (r_istore (loc' := [zm_A 4, w1, zm_I x2, zm_I x3, zm_I v1]) d_46_89 (Nat.le_of_ble_eq_true rfl) rfl) ?_
    refine zl_tr (r_iload d_46_91 rfl) ?_
    refine zl_tr (r_iconst d_46_93 (by decide)) ?_
    refine zl_tr (r_icmp_ne (tgt := 99) d_46_94 (by decide)) (zl_if ?_ ?_)
    · skip
      refine zl_tr (r_iload_n d_46_97 rfl) ?_
      exact r_iret d_46_98 rt_46
    · skip
      refine zl_tr (r_aload_n d_46_99 rfl) ?_
      refine zl_tr (r_getR d_46_100 ow_46 f_0_45 la_4 (by decide) fr_4_6) ?_
      refine zl_tr (r_getR d_46_103 ow_46 f_0_206 la_40 (by decide) fr_40_2) ?_
      refine zl_tr (r_iload d_46_106 rfl) ?_
      refine zl_tr (r_dup2 d_46_108 ⟨rfl, rfl⟩) ?_
      refine zl_tr (r_iaload d_46_109 la_41) (zl_ck ?_)
      refine zl_tr (r_iconst d_46_110 (by decide)) ?_
      refine zl_tr (r_isub d_46_111) (zl_ck ?_)
      refine zl_tr (r_iastore d_46_112 la_41) (zl_ck ?_)
      refine zl_tr (r_iinc (loc' := [zm_A 4, w1, zm_I x2, zm_I (x3 + 1), zm_I v1]) d_46_113 rfl (Nat.le_of_ble_eq_true rfl) rfl) (zl_ck ?_)
      refine zl_tr (r_goto (tgt := 52) d_46_116 (by decide)) ?_
      exact zl_rf
  · skip
    refine zl_tr (r_iload_n d_46_119 rfl) ?_
    exact r_iret d_46_120 rt_46
-- BranTub.isRow
set_option maxRecDepth 20000 in
theorem e_47 {h : zm_H} {x1 : Int} : zl (if x1 < 2 then (zm_ck (zm_bit 0) (some (zm_I 0, h))) else (if 40 < x1 then (zm_ck (zm_bit 0) (some (zm_I 0, h))) else (zm_ck ((2 : Int) ≠ 0 ∧ zm_i32 (x1.tdiv 2) ∧ zm_i32 (x1.tmod 2)) (if (x1.tmod 2) = 0 then (zr none 2 47 21 [zm_A 4, zm_I x1, zm_I 0] [] h) else (zm_ck (zm_bit 0) (some (zm_I 0, h))))))) (zc 47 [zm_A 4, zm_I x1] h) := by
  rw [zc_eq (loc := [zm_A 4, zm_I x1, zm_U]) (rk_47 _) rfl]
  refine zl_tr (r_iload_n d_47_0 rfl) ?_
  refine zl_tr (r_iconst d_47_1 (by decide)) ?_
  refine zl_tr (r_icmp_lt (tgt := 17) d_47_2 (by decide)) (zl_if ?_ ?_)
  · skip
    refine zl_tr (r_iconst d_47_17 (by decide)) ?_
    exact r_zret d_47_18 rt_47
  · skip
    refine zl_tr (r_iload_n d_47_5 rfl) ?_
    refine zl_tr (r_bipush d_47_6 (by decide)) ?_
    refine zl_tr (r_icmp_gt (tgt := 17) d_47_8 (by decide)) (zl_if ?_ ?_)
    · skip
      refine zl_tr (r_iconst d_47_17 (by decide)) ?_
      exact r_zret d_47_18 rt_47
    · skip
      refine zl_tr (r_iload_n d_47_11 rfl) ?_
      refine zl_tr (r_iconst d_47_12 (by decide)) ?_
      refine zl_tr (r_irem d_47_13) (zl_ck ?_)
      refine zl_tr (r_if_eq (tgt := 19) d_47_14 (by decide)) (zl_if ?_ ?_)
      · skip
        refine zl_tr (r_iconst d_47_19 (by decide)) ?_
        refine zl_tr (r_istore_n (loc' := [zm_A 4, zm_I x1, zm_I 0]) d_47_20 (Nat.le_of_ble_eq_true rfl) rfl) ?_
        exact zl_rf
      · skip
        refine zl_tr (r_iconst d_47_17 (by decide)) ?_
        exact r_zret d_47_18 rt_47
-- BranTub.isRow, from 21
set_option maxRecDepth 20000 in
theorem e_47_21 {h : zm_H} {x1 : Int} {x2 : Int} : zl (if x2 < x1 then (zm_ck (0 ≤ x2 ∧ x2 < ((1600 : Nat) : Int)) (zk_I (zc 12 [zm_A 4, zm_I (h 6 x2)] h) (fun v1 h2 => if v1 = 0 then (zm_ck (zm_bit 0) (some (zm_I 0, h2))) else (zm_ck (zm_i32 (x2 + 1)) (zm_ck (0 ≤ (x2 + 1) ∧ (x2 + 1) < ((1600 : Nat) : Int)) (zk_I (zc 11 [zm_A 4, zm_I (h2 6 (x2 + 1))] h2) (fun v3 h4 => if v3 = 0 then (zm_ck (zm_bit 0) (some (zm_I 0, h4))) else (zm_ck (zm_i32 (x2 + 2)) (zr none 2 47 21 [zm_A 4, zm_I x1, zm_I (x2 + 2)] [] h4))))))))) else (zm_ck (zm_bit 1) (some (zm_I 1, h)))) (zr none 2 47 21 [zm_A 4, zm_I x1, zm_I x2] [] h) := by
  refine zl_tr (r_iload_n d_47_21 rfl) ?_
  refine zl_tr (r_iload_n d_47_22 rfl) ?_
  refine zl_tr (r_icmp_ge (tgt := 68) d_47_23 (by decide)) (zl_if ?_ ?_)
  · skip
    refine zl_tr (r_aload_n d_47_26 rfl) ?_
    refine zl_tr (r_aload_n d_47_27 rfl) ?_
    refine zl_tr (r_getR d_47_28 ow_47 f_0_10 la_4 (by decide) fr_4_0) ?_
    refine zl_tr (r_getR d_47_31 ow_47 f_0_302 la_5 (by decide) fr_5_0) ?_
    refine zl_tr (r_iload_n d_47_34 rfl) ?_
    refine zl_tr (r_iaload d_47_35 la_6) (zl_ck ?_)
    refine zl_tr (r_VI [zm_A 4, zm_I (h 6 x2)] d_47_36 ow_47 cal_0_182 na_12 rfl rfl (Nat.le_of_ble_eq_true rfl) (by rw [rk_12]; decide) (zr_rcv la_4 ow_12) (zr_im mx_12 rfl (Nat.le_of_ble_eq_true rfl)) (by rw [rt_12]; decide)) (zl_I (fun v1 h2 => ?_))
    refine zl_tr (r_if_eq (tgt := 60) d_47_39 (by decide)) (zl_if ?_ ?_)
    · skip
      refine zl_tr (r_iconst d_47_60 (by decide)) ?_
      exact r_zret d_47_61 rt_47
    · skip
      refine zl_tr (r_aload_n d_47_42 rfl) ?_
      refine zl_tr (r_aload_n d_47_43 rfl) ?_
      refine zl_tr (r_getR d_47_44 ow_47 f_0_10 la_4 (by decide) fr_4_0) ?_
      refine zl_tr (r_getR d_47_47 ow_47 f_0_302 la_5 (by decide) fr_5_0) ?_
      refine zl_tr (r_iload_n d_47_50 rfl) ?_
      refine zl_tr (r_iconst d_47_51 (by decide)) ?_
      refine zl_tr (r_iadd d_47_52) (zl_ck ?_)
      refine zl_tr (r_iaload d_47_53 la_6) (zl_ck ?_)
      refine zl_tr (r_VI [zm_A 4, zm_I (h2 6 (x2 + 1))] d_47_54 ow_47 cal_0_176 na_11 rfl rfl (Nat.le_of_ble_eq_true rfl) (by rw [rk_11]; decide) (zr_rcv la_4 ow_11) (zr_im mx_11 rfl (Nat.le_of_ble_eq_true rfl)) (by rw [rt_11]; decide)) (zl_I (fun v3 h4 => ?_))
      refine zl_tr (r_if_ne (tgt := 62) d_47_57 (by decide)) (zl_if ?_ ?_)
      · skip
        refine zl_tr (r_iconst d_47_60 (by decide)) ?_
        exact r_zret d_47_61 rt_47
      · skip
        refine zl_tr (r_iinc (loc' := [zm_A 4, zm_I x1, zm_I (x2 + 2)]) d_47_62 rfl (Nat.le_of_ble_eq_true rfl) rfl) (zl_ck ?_)
        refine zl_tr (r_goto (tgt := 21) d_47_65 (by decide)) ?_
        exact zl_rf
  · skip
    refine zl_tr (r_iconst d_47_68 (by decide)) ?_
    exact r_zret d_47_69 rt_47
-- BranTub.uppermost
set_option maxRecDepth 20000 in
theorem e_48 {h : zm_H} {x2 : Int} {x3 : Int} {o : Nat} (ho : zf_T o) {t : Nat} (ht : zf_F t) : zl (zm_ck (h 4 1 = (t : Int)) (zk_V (zc 113 [zm_A 128, zm_A t, zm_A o, zm_I x2, zm_A 1] h) (fun h1 => zr none 4 48 25 [zm_A 4, zm_A o, zm_I x2, zm_I x3, zm_I (h1 128 4)] [] h1))) (zc 48 [zm_A 4, zm_A o, zm_I x2, zm_I x3] h) := by
  rw [zc_eq (loc := [zm_A 4, zm_A o, zm_I x2, zm_I x3, zm_U]) (rk_48 _) rfl]
  refine zl_tr (r_aload_n d_48_0 rfl) ?_
  refine zl_tr (r_getR d_48_1 ow_48 f_0_58 la_4 (by decide) fr_4_8) ?_
  refine zl_tr (r_aload_n d_48_4 rfl) ?_
  refine zl_tr (r_getN (b := t) (kk := 1) d_48_5 ow_48 f_0_19 la_4 (by decide) (zf_3 ht) rfl) (zl_ck ?_)
  refine zl_tr (r_aload_n d_48_8 rfl) ?_
  refine zl_tr (r_iload_n d_48_9 rfl) ?_
  refine zl_tr (r_getstatic d_48_10 ow_48) ?_
  refine zl_tr (r_VV [zm_A 128, zm_A t, zm_A o, zm_I x2, zm_A 1] d_48_13 ow_48 cal_0_333 na_113 rfl rfl (Nat.le_of_ble_eq_true rfl) (by rw [rk_113]; decide) (zr_rcv la_128 ow_113) (zr_im mx_113 rfl (Nat.le_of_ble_eq_true rfl)) rt_113) (zl_V (fun h1 => ?_))
  refine zl_tr (r_aload_n d_48_16 rfl) ?_
  refine zl_tr (r_getR d_48_17 ow_48 f_0_58 la_4 (by decide) fr_4_8) ?_
  refine zl_tr (r_getI (kk := 4) d_48_20 ow_48 f_0_404 la_128 (by decide) rfl) ?_
  refine zl_tr (r_istore (loc' := [zm_A 4, zm_A o, zm_I x2, zm_I x3, zm_I (h1 128 4)]) d_48_23 (Nat.le_of_ble_eq_true rfl) rfl) ?_
  exact zl_rf
-- BranTub.uppermost, from 25
set_option maxRecDepth 20000 in
theorem e_48_25 {h : zm_H} {w2 : zm_V} {x3 : Int} {x4 : Int} {o : Nat} (ho : zf_T o) : zl (if x4 < (h 128 5) then (zm_ck (zm_i32 (x4 * 8)) (zm_ck (zm_i32 ((x4 * 8) + x3)) (zm_ck (0 ≤ ((x4 * 8) + x3) ∧ ((x4 * 8) + x3) < ((40 : Nat) : Int)) (if (h (o + 1) ((x4 * 8) + x3)) ≤ 0 then (zm_ck (zm_i32 (x4 + 1)) (zr none 4 48 25 [zm_A 4, zm_A o, w2, zm_I x3, zm_I (x4 + 1)] [] h)) else (zm_ck (zm_i32 (x4 * 8)) (zm_ck (zm_i32 ((x4 * 8) + x3)) (some (zm_I ((x4 * 8) + x3), h)))))))) else (some (zm_I (-1), h))) (zr none 4 48 25 [zm_A 4, zm_A o, w2, zm_I x3, zm_I x4] [] h) := by
  refine zl_tr (r_iload d_48_25 rfl) ?_
  refine zl_tr (r_aload_n d_48_27 rfl) ?_
  refine zl_tr (r_getR d_48_28 ow_48 f_0_58 la_4 (by decide) fr_4_8) ?_
  refine zl_tr (r_getI (kk := 5) d_48_31 ow_48 f_0_407 la_128 (by decide) rfl) ?_
  refine zl_tr (r_icmp_ge (tgt := 66) d_48_34 (by decide)) (zl_if ?_ ?_)
  · skip
    refine zl_tr (r_aload_n d_48_37 rfl) ?_
    refine zl_tr (r_getR d_48_38 ow_48 f_0_206 (zt_o ho) (by decide) (zt_r2 ho)) ?_
    refine zl_tr (r_iload d_48_41 rfl) ?_
    refine zl_tr (r_bipush d_48_43 (by decide)) ?_
    refine zl_tr (r_imul d_48_45) (zl_ck ?_)
    refine zl_tr (r_iload_n d_48_46 rfl) ?_
    refine zl_tr (r_iadd d_48_47) (zl_ck ?_)
    refine zl_tr (r_iaload d_48_48 (zt_a1 ho)) (zl_ck ?_)
    refine zl_tr (r_if_le (tgt := 60) d_48_49 (by decide)) (zl_if ?_ ?_)
    · skip
      refine zl_tr (r_iinc (loc' := [zm_A 4, zm_A o, w2, zm_I x3, zm_I (x4 + 1)]) d_48_60 rfl (Nat.le_of_ble_eq_true rfl) rfl) (zl_ck ?_)
      refine zl_tr (r_goto (tgt := 25) d_48_63 (by decide)) ?_
      exact zl_rf
    · skip
      refine zl_tr (r_iload d_48_52 rfl) ?_
      refine zl_tr (r_bipush d_48_54 (by decide)) ?_
      refine zl_tr (r_imul d_48_56) (zl_ck ?_)
      refine zl_tr (r_iload_n d_48_57 rfl) ?_
      refine zl_tr (r_iadd d_48_58) (zl_ck ?_)
      exact r_iret d_48_59 rt_48
  · skip
    refine zl_tr (r_iconst d_48_66 (by decide)) ?_
    exact r_iret d_48_67 rt_48
-- BranTub.leaves
set_option maxRecDepth 20000 in
theorem e_49 {h : zm_H} {x1 : Int} {x2 : Int} : zl (if (h 4 17) = 0 then (some (zm_I (-1), h)) else (zk_I (zc 15 [zm_A 4, zm_I x1] h) (fun v1 h2 => if v1 = 0 then (some (zm_I (-1), h2)) else (zk_I (zc 11 [zm_A 4, zm_I x2] h2) (fun v3 h4 => if v3 = 0 then (some (zm_I (-1), h4)) else (zm_ck (zm_i32 (x1 * 8)) (zm_ck (zm_i32 ((x1 * 8) + x2)) (zm_ck (0 ≤ ((x1 * 8) + x2) ∧ ((x1 * 8) + x2) < ((40 : Nat) : Int)) (some (zm_I (h4 41 ((x1 * 8) + x2)), h4)))))))))) (zc 49 [zm_A 4, zm_I x1, zm_I x2] h) := by
  rw [zc_eq (loc := [zm_A 4, zm_I x1, zm_I x2]) (rk_49 _) rfl]
  refine zl_tr (r_aload_n d_49_0 rfl) ?_
  refine zl_tr (r_getI (kk := 17) d_49_1 ow_49 f_0_130 la_4 (by decide) rfl) ?_
  refine zl_tr (r_if_eq (tgt := 23) d_49_4 (by decide)) (zl_if ?_ ?_)
  · skip
    refine zl_tr (r_iconst d_49_23 (by decide)) ?_
    exact r_iret d_49_24 rt_49
  · skip
    refine zl_tr (r_aload_n d_49_7 rfl) ?_
    refine zl_tr (r_iload_n d_49_8 rfl) ?_
    refine zl_tr (r_VI [zm_A 4, zm_I x1] d_49_9 ow_49 cal_0_200 na_15 rfl rfl (Nat.le_of_ble_eq_true rfl) (by rw [rk_15]; decide) (zr_rcv la_4 ow_15) (zr_im mx_15 rfl (Nat.le_of_ble_eq_true rfl)) (by rw [rt_15]; decide)) (zl_I (fun v1 h2 => ?_))
    refine zl_tr (r_if_eq (tgt := 23) d_49_12 (by decide)) (zl_if ?_ ?_)
    · skip
      refine zl_tr (r_iconst d_49_23 (by decide)) ?_
      exact r_iret d_49_24 rt_49
    · skip
      refine zl_tr (r_aload_n d_49_15 rfl) ?_
      refine zl_tr (r_iload_n d_49_16 rfl) ?_
      refine zl_tr (r_VI [zm_A 4, zm_I x2] d_49_17 ow_49 cal_0_176 na_11 rfl rfl (Nat.le_of_ble_eq_true rfl) (by rw [rk_11]; decide) (zr_rcv la_4 ow_11) (zr_im mx_11 rfl (Nat.le_of_ble_eq_true rfl)) (by rw [rt_11]; decide)) (zl_I (fun v3 h4 => ?_))
      refine zl_tr (r_if_ne (tgt := 25) d_49_20 (by decide)) (zl_if ?_ ?_)
      · skip
        refine zl_tr (r_iconst d_49_23 (by decide)) ?_
        exact r_iret d_49_24 rt_49
      · skip
        refine zl_tr (r_aload_n d_49_25 rfl) ?_
        refine zl_tr (r_getR d_49_26 ow_49 f_0_45 la_4 (by decide) fr_4_6) ?_
        refine zl_tr (r_getR d_49_29 ow_49 f_0_206 la_40 (by decide) fr_40_2) ?_
        refine zl_tr (r_iload_n d_49_32 rfl) ?_
        refine zl_tr (r_bipush d_49_33 (by decide)) ?_
        refine zl_tr (r_imul d_49_35) (zl_ck ?_)
        refine zl_tr (r_iload_n d_49_36 rfl) ?_
        refine zl_tr (r_iadd d_49_37) (zl_ck ?_)
        refine zl_tr (r_iaload d_49_38 la_41) (zl_ck ?_)
        exact r_iret d_49_39 rt_49
-- BranTub.ring
set_option maxRecDepth 20000 in
theorem e_50 {h : zm_H} {x1 : Int} {x2 : Int} {t : Nat} (ht : zf_F t) : zl (zk_I (zc 12 [zm_A 4, zm_I x1] h) (fun v1 h2 => if v1 = 0 then (some (zm_I (-1), h2)) else (zk_I (zc 151 [zm_A 32, zm_I x1] h2) (fun v3 h4 => if v3 = 0 then (some (zm_I (-1), h4)) else (zm_ck (h4 4 1 = (t : Int)) (zk_V (zc 127 [zm_A 135, zm_A t, zm_A 32] h4) (fun h5 => if x2 = 0 then (zm_ck (0 ≤ x1 ∧ x1 < ((8 : Nat) : Int)) (some (zm_I (h5 137 x1), h5))) else (if x2 = 1 then (zm_ck (0 ≤ x1 ∧ x1 < ((8 : Nat) : Int)) (some (zm_I (h5 136 x1), h5))) else (if x2 = 2 then (zm_ck (0 ≤ x1 ∧ x1 < ((8 : Nat) : Int)) (some (zm_I (h5 138 x1), h5))) else (some (zm_I (-1), h5))))))))))) (zc 50 [zm_A 4, zm_I x1, zm_I x2] h) := by
  rw [zc_eq (loc := [zm_A 4, zm_I x1, zm_I x2]) (rk_50 _) rfl]
  refine zl_tr (r_aload_n d_50_0 rfl) ?_
  refine zl_tr (r_iload_n d_50_1 rfl) ?_
  refine zl_tr (r_VI [zm_A 4, zm_I x1] d_50_2 ow_50 cal_0_182 na_12 rfl rfl (Nat.le_of_ble_eq_true rfl) (by rw [rk_12]; decide) (zr_rcv la_4 ow_12) (zr_im mx_12 rfl (Nat.le_of_ble_eq_true rfl)) (by rw [rt_12]; decide)) (zl_I (fun v1 h2 => ?_))
  refine zl_tr (r_if_eq (tgt := 19) d_50_5 (by decide)) (zl_if ?_ ?_)
  · skip
    refine zl_tr (r_iconst d_50_19 (by decide)) ?_
    exact r_iret d_50_20 rt_50
  · skip
    refine zl_tr (r_aload_n d_50_8 rfl) ?_
    refine zl_tr (r_getR d_50_9 ow_50 f_0_38 la_4 (by decide) fr_4_4) ?_
    refine zl_tr (r_iload_n d_50_12 rfl) ?_
    refine zl_tr (r_VI [zm_A 32, zm_I x1] d_50_13 ow_50 cal_0_220 na_151 rfl rfl (Nat.le_of_ble_eq_true rfl) (by rw [rk_151]; decide) (zr_rcv la_32 ow_151) (zr_im mx_151 rfl (Nat.le_of_ble_eq_true rfl)) (by rw [rt_151]; decide)) (zl_I (fun v3 h4 => ?_))
    refine zl_tr (r_if_ne (tgt := 21) d_50_16 (by decide)) (zl_if ?_ ?_)
    · skip
      refine zl_tr (r_iconst d_50_19 (by decide)) ?_
      exact r_iret d_50_20 rt_50
    · skip
      refine zl_tr (r_aload_n d_50_21 rfl) ?_
      refine zl_tr (r_getR d_50_22 ow_50 f_0_72 la_4 (by decide) fr_4_10) ?_
      refine zl_tr (r_aload_n d_50_25 rfl) ?_
      refine zl_tr (r_getN (b := t) (kk := 1) d_50_26 ow_50 f_0_19 la_4 (by decide) (zf_3 ht) rfl) (zl_ck ?_)
      refine zl_tr (r_aload_n d_50_29 rfl) ?_
      refine zl_tr (r_getR d_50_30 ow_50 f_0_38 la_4 (by decide) fr_4_4) ?_
      refine zl_tr (r_VV [zm_A 135, zm_A t, zm_A 32] d_50_33 ow_50 cal_0_309 na_127 rfl rfl (Nat.le_of_ble_eq_true rfl) (by rw [rk_127]; decide) (zr_rcv la_135 ow_127) (zr_im mx_127 rfl (Nat.le_of_ble_eq_true rfl)) rt_127) (zl_V (fun h5 => ?_))
      refine zl_tr (r_iload_n d_50_36 rfl) ?_
      refine zl_eq 0 (fun hx => ?_) (fun hx0 => ?_)
      · refine zl_tr (r_tsw (tgt := 64) d_50_37 (by rw [hx]; decide) (by decide)) ?_
        refine zl_tr (r_aload_n d_50_64 rfl) ?_
        refine zl_tr (r_getR d_50_65 ow_50 f_0_72 la_4 (by decide) fr_4_10) ?_
        refine zl_tr (r_getR d_50_68 ow_50 f_0_313 la_135 (by decide) fr_135_1) ?_
        refine zl_tr (r_iload_n d_50_71 rfl) ?_
        refine zl_tr (r_iaload d_50_72 la_137) (zl_ck ?_)
        exact r_iret d_50_73 rt_50
      refine zl_eq 1 (fun hx => ?_) (fun hx1 => ?_)
      · refine zl_tr (r_tsw (tgt := 74) d_50_37 (by rw [hx]; decide) (by decide)) ?_
        refine zl_tr (r_aload_n d_50_74 rfl) ?_
        refine zl_tr (r_getR d_50_75 ow_50 f_0_72 la_4 (by decide) fr_4_10) ?_
        refine zl_tr (r_getR d_50_78 ow_50 f_0_316 la_135 (by decide) fr_135_0) ?_
        refine zl_tr (r_iload_n d_50_81 rfl) ?_
        refine zl_tr (r_iaload d_50_82 la_136) (zl_ck ?_)
        exact r_iret d_50_83 rt_50
      refine zl_eq 2 (fun hx => ?_) (fun hx2 => ?_)
      · refine zl_tr (r_tsw (tgt := 84) d_50_37 (by rw [hx]; decide) (by decide)) ?_
        refine zl_tr (r_aload_n d_50_84 rfl) ?_
        refine zl_tr (r_getR d_50_85 ow_50 f_0_72 la_4 (by decide) fr_4_10) ?_
        refine zl_tr (r_getR d_50_88 ow_50 f_0_319 la_135 (by decide) fr_135_2) ?_
        refine zl_tr (r_iload_n d_50_91 rfl) ?_
        refine zl_tr (r_iaload d_50_92 la_138) (zl_ck ?_)
        exact r_iret d_50_93 rt_50
      refine zl_tr (r_tsw (tgt := 94) d_50_37 (by rw [if_pos (by omega)]; decide) (by decide)) ?_
      refine zl_tr (r_iconst d_50_94 (by decide)) ?_
      exact r_iret d_50_95 rt_50
-- BranTub.image
set_option maxRecDepth 20000 in
theorem e_51 {h : zm_H} {t : Nat} (ht : zf_F t) : zl (zm_ck (h 4 1 = (t : Int)) (zk_V (zc 104 [zm_A 139, zm_A t, zm_A 32] h) (fun h1 => some (zm_I (h1 139 1), h1)))) (zc 51 [zm_A 4] h) := by
  rw [zc_eq (loc := [zm_A 4]) (rk_51 _) rfl]
  refine zl_tr (r_aload_n d_51_0 rfl) ?_
  refine zl_tr (r_getR d_51_1 ow_51 f_0_79 la_4 (by decide) fr_4_11) ?_
  refine zl_tr (r_aload_n d_51_4 rfl) ?_
  refine zl_tr (r_getN (b := t) (kk := 1) d_51_5 ow_51 f_0_19 la_4 (by decide) (zf_3 ht) rfl) (zl_ck ?_)
  refine zl_tr (r_aload_n d_51_8 rfl) ?_
  refine zl_tr (r_getR d_51_9 ow_51 f_0_38 la_4 (by decide) fr_4_4) ?_
  refine zl_tr (r_VV [zm_A 139, zm_A t, zm_A 32] d_51_12 ow_51 cal_0_322 na_104 rfl rfl (Nat.le_of_ble_eq_true rfl) (by rw [rk_104]; decide) (zr_rcv la_139 ow_104) (zr_im mx_104 rfl (Nat.le_of_ble_eq_true rfl)) rt_104) (zl_V (fun h1 => ?_))
  refine zl_tr (r_aload_n d_51_15 rfl) ?_
  refine zl_tr (r_getR d_51_16 ow_51 f_0_79 la_4 (by decide) fr_4_11) ?_
  refine zl_tr (r_getI (kk := 1) d_51_19 ow_51 f_0_325 la_139 (by decide) rfl) ?_
  exact r_iret d_51_22 rt_51
-- BranTub.octet
set_option maxRecDepth 20000 in
theorem e_52 {h : zm_H} {x1 : Int} : zl (if x1 < 0 then (some (zm_I (-1), h)) else (if x1 < (h 139 1) then (zm_ck (0 ≤ x1 ∧ x1 < ((188 : Nat) : Int)) (some (zm_I (h 140 x1), h))) else (some (zm_I (-1), h)))) (zc 52 [zm_A 4, zm_I x1] h) := by
  rw [zc_eq (loc := [zm_A 4, zm_I x1]) (rk_52 _) rfl]
  refine zl_tr (r_iload_n d_52_0 rfl) ?_
  refine zl_tr (r_if_lt (tgt := 27) d_52_1 (by decide)) (zl_if ?_ ?_)
  · skip
    refine zl_tr (r_iconst d_52_27 (by decide)) ?_
    exact r_iret d_52_28 rt_52
  · skip
    refine zl_tr (r_iload_n d_52_4 rfl) ?_
    refine zl_tr (r_aload_n d_52_5 rfl) ?_
    refine zl_tr (r_getR d_52_6 ow_52 f_0_79 la_4 (by decide) fr_4_11) ?_
    refine zl_tr (r_getI (kk := 1) d_52_9 ow_52 f_0_325 la_139 (by decide) rfl) ?_
    refine zl_tr (r_icmp_ge (tgt := 27) d_52_12 (by decide)) (zl_if ?_ ?_)
    · skip
      refine zl_tr (r_aload_n d_52_15 rfl) ?_
      refine zl_tr (r_getR d_52_16 ow_52 f_0_79 la_4 (by decide) fr_4_11) ?_
      refine zl_tr (r_getR d_52_19 ow_52 f_0_326 la_139 (by decide) fr_139_0) ?_
      refine zl_tr (r_iload_n d_52_22 rfl) ?_
      refine zl_tr (r_iaload d_52_23 la_140) (zl_ck ?_)
      refine zl_tr (r_goto (tgt := 28) d_52_24 (by decide)) ?_
      exact r_iret d_52_28 rt_52
    · skip
      refine zl_tr (r_iconst d_52_27 (by decide)) ?_
      exact r_iret d_52_28 rt_52
-- BranTub.on
set_option maxRecDepth 20000 in
theorem e_53 {h : zm_H} {t : Nat} (ht : zf_F t) : zl (zm_ck (h 4 1 = (t : Int)) (zk_I (zc 108 [zm_A 5, zm_A t, zm_A 36] h) (fun v1 h2 => if v1 = 0 then (zk_I (zc 4 [zm_A 4, zm_I 5] (zm_wr h2 5 1 0)) (fun v3 h4 => zm_ck (zm_bit v3) (some (zm_I v3, h4)))) else (zk_V (zc 152 [zm_A 32, zm_A 36] (zm_wr h2 5 1 0)) (fun h5 => zk_V (zc 67 [zm_A 44] h5) (fun h6 => zm_ck (zm_bit 1) (some (zm_I 1, h6)))))))) (zc 53 [zm_A 4] h) := by
  rw [zc_eq (loc := [zm_A 4, zm_U]) (rk_53 _) rfl]
  refine zl_tr (r_aload_n d_53_0 rfl) ?_
  refine zl_tr (r_getR d_53_1 ow_53 f_0_10 la_4 (by decide) fr_4_0) ?_
  refine zl_tr (r_aload_n d_53_4 rfl) ?_
  refine zl_tr (r_getN (b := t) (kk := 1) d_53_5 ow_53 f_0_19 la_4 (by decide) (zf_3 ht) rfl) (zl_ck ?_)
  refine zl_tr (r_aload_n d_53_8 rfl) ?_
  refine zl_tr (r_getR d_53_9 ow_53 f_0_42 la_4 (by decide) fr_4_5) ?_
  refine zl_tr (r_SI [zm_A 5, zm_A t, zm_A 36] d_53_12 ow_53 cal_0_327 (by decide) na_108 rfl rfl (Nat.le_of_ble_eq_true rfl) (by rw [rk_108]; decide) (zr_im mx_108 rfl (Nat.le_of_ble_eq_true rfl)) (by rw [rt_108]; decide)) (zl_I (fun v1 h2 => ?_))
  refine zl_tr (r_istore_n (loc' := [zm_A 4, zm_I v1]) d_53_15 (Nat.le_of_ble_eq_true rfl) rfl) ?_
  refine zl_tr (r_aload_n d_53_16 rfl) ?_
  refine zl_tr (r_getR d_53_17 ow_53 f_0_10 la_4 (by decide) fr_4_0) ?_
  refine zl_tr (r_iconst d_53_20 (by decide)) ?_
  refine zl_tr (r_putI (kk := 1) d_53_21 ow_53 f_0_108 la_5 (by decide) rfl) ?_
  refine zl_tr (r_iload_n d_53_24 rfl) ?_
  refine zl_tr (r_if_ne (tgt := 34) d_53_25 (by decide)) (zl_if ?_ ?_)
  · skip
    refine zl_tr (r_aload_n d_53_28 rfl) ?_
    refine zl_tr (r_iconst d_53_29 (by decide)) ?_
    refine zl_tr (r_VI [zm_A 4, zm_I 5] d_53_30 ow_53 cal_0_119 na_4 rfl rfl (Nat.le_of_ble_eq_true rfl) (by rw [rk_4]; decide) (zr_rcv la_4 ow_4) (zr_im mx_4 rfl (Nat.le_of_ble_eq_true rfl)) (by rw [rt_4]; decide)) (zl_I (fun v3 h4 => ?_))
    exact r_zret d_53_33 rt_53
  · skip
    refine zl_tr (r_aload_n d_53_34 rfl) ?_
    refine zl_tr (r_getR d_53_35 ow_53 f_0_38 la_4 (by decide) fr_4_4) ?_
    refine zl_tr (r_aload_n d_53_38 rfl) ?_
    refine zl_tr (r_getR d_53_39 ow_53 f_0_42 la_4 (by decide) fr_4_5) ?_
    refine zl_tr (r_VV [zm_A 32, zm_A 36] d_53_42 ow_53 cal_0_299 na_152 rfl rfl (Nat.le_of_ble_eq_true rfl) (by rw [rk_152]; decide) (zr_rcv la_32 ow_152) (zr_im mx_152 rfl (Nat.le_of_ble_eq_true rfl)) rt_152) (zl_V (fun h5 => ?_))
    refine zl_tr (r_aload_n d_53_45 rfl) ?_
    refine zl_tr (r_getR d_53_46 ow_53 f_0_51 la_4 (by decide) fr_4_7) ?_
    refine zl_tr (r_VV [zm_A 44] d_53_49 ow_53 cal_0_127 na_67 rfl rfl (Nat.le_of_ble_eq_true rfl) (by rw [rk_67]; decide) (zr_rcv la_44 ow_67) (zr_im mx_67 rfl (Nat.le_of_ble_eq_true rfl)) rt_67) (zl_V (fun h6 => ?_))
    refine zl_tr (r_iconst d_53_52 (by decide)) ?_
    exact r_zret d_53_53 rt_53
-- BranTub.status
set_option maxRecDepth 20000 in
theorem e_54 {h : zm_H} {x1 : Int} : zl (if x1 < 0 then (some (zm_I (-1), h)) else (if 5 < x1 then (some (zm_I (-1), h)) else (zm_ck (0 ≤ x1 ∧ x1 < ((6 : Nat) : Int)) (some (zm_I (h 145 x1), h))))) (zc 54 [zm_A 4, zm_I x1] h) := by
  rw [zc_eq (loc := [zm_A 4, zm_I x1]) (rk_54 _) rfl]
  refine zl_tr (r_iload_n d_54_0 rfl) ?_
  refine zl_tr (r_if_lt (tgt := 18) d_54_1 (by decide)) (zl_if ?_ ?_)
  · skip
    refine zl_tr (r_iconst d_54_18 (by decide)) ?_
    exact r_iret d_54_19 rt_54
  · skip
    refine zl_tr (r_iload_n d_54_4 rfl) ?_
    refine zl_tr (r_iconst d_54_5 (by decide)) ?_
    refine zl_tr (r_icmp_gt (tgt := 18) d_54_6 (by decide)) (zl_if ?_ ?_)
    · skip
      refine zl_tr (r_iconst d_54_18 (by decide)) ?_
      exact r_iret d_54_19 rt_54
    · skip
      refine zl_tr (r_aload_n d_54_9 rfl) ?_
      refine zl_tr (r_getR d_54_10 ow_54 f_0_97 la_4 (by decide) fr_4_15) ?_
      refine zl_tr (r_iload_n d_54_13 rfl) ?_
      refine zl_tr (r_iaload d_54_14 la_145) (zl_ck ?_)
      refine zl_tr (r_goto (tgt := 19) d_54_15 (by decide)) ?_
      exact r_iret d_54_19 rt_54
-- BranTub$Arranger.arrange
set_option maxRecDepth 20000 in
theorem e_56 {h : zm_H} {x4 : Int} {o : Nat} (ho : zf_T o) {t : Nat} (ht : zf_F t) : zl (zr none 4 56 8 [zm_A 132, zm_A t, zm_A o, zm_A 128, zm_I x4, zm_I 0, zm_U, zm_U] [] (zm_wr h 132 2 (-1))) (zc 56 [zm_A 132, zm_A t, zm_A o, zm_A 128, zm_I x4] h) := by
  rw [zc_eq (loc := [zm_A 132, zm_A t, zm_A o, zm_A 128, zm_I x4, zm_U, zm_U, zm_U]) (rk_56 _) rfl]
  refine zl_tr (r_aload_n d_56_0 rfl) ?_
  refine zl_tr (r_iconst d_56_1 (by decide)) ?_
  refine zl_tr (r_putI (kk := 2) d_56_2 ow_56 f_1_18 la_132 (by decide) rfl) ?_
  refine zl_tr (r_iconst d_56_5 (by decide)) ?_
  refine zl_tr (r_istore (loc' := [zm_A 132, zm_A t, zm_A o, zm_A 128, zm_I x4, zm_I 0, zm_U, zm_U]) d_56_6 (Nat.le_of_ble_eq_true rfl) rfl) ?_
  exact zl_rf
-- BranTub$Arranger.arrange, from 8
set_option maxRecDepth 20000 in
theorem e_56_8 {h : zm_H} {x4 : Int} {x5 : Int} {w6 : zm_V} {w7 : zm_V} {o : Nat} (ho : zf_T o) {t : Nat} (ht : zf_F t) : zl (if x5 < 5 then (zm_ck (0 ≤ x5 ∧ x5 < ((5 : Nat) : Int)) (zm_ck (zm_i32 (x5 + 1)) (zr none 4 56 8 [zm_A 132, zm_A t, zm_A o, zm_A 128, zm_I x4, zm_I (x5 + 1), w6, w7] [] (zm_wr h 133 x5 x5)))) else (zr none 4 56 32 [zm_A 132, zm_A t, zm_A o, zm_A 128, zm_I x4, zm_I 0, w6, w7] [] h)) (zr none 4 56 8 [zm_A 132, zm_A t, zm_A o, zm_A 128, zm_I x4, zm_I x5, w6, w7] [] h) := by
  refine zl_tr (r_iload d_56_8 rfl) ?_
  refine zl_tr (r_iconst d_56_10 (by decide)) ?_
  refine zl_tr (r_icmp_ge (tgt := 29) d_56_11 (by decide)) (zl_if ?_ ?_)
  · skip
    refine zl_tr (r_aload_n d_56_14 rfl) ?_
    refine zl_tr (r_getR d_56_15 ow_56 f_1_9 la_132 (by decide) fr_132_0) ?_
    refine zl_tr (r_iload d_56_18 rfl) ?_
    refine zl_tr (r_iload d_56_20 rfl) ?_
    refine zl_tr (r_iastore d_56_22 la_133) (zl_ck ?_)
    refine zl_tr (r_iinc (loc' := [zm_A 132, zm_A t, zm_A o, zm_A 128, zm_I x4, zm_I (x5 + 1), w6, w7]) d_56_23 rfl (Nat.le_of_ble_eq_true rfl) rfl) (zl_ck ?_)
    refine zl_tr (r_goto (tgt := 8) d_56_26 (by decide)) ?_
    exact zl_rf
  · skip
    refine zl_tr (r_iconst d_56_29 (by decide)) ?_
    refine zl_tr (r_istore (loc' := [zm_A 132, zm_A t, zm_A o, zm_A 128, zm_I x4, zm_I 0, w6, w7]) d_56_30 (Nat.le_of_ble_eq_true rfl) rfl) ?_
    exact zl_rf
-- BranTub$Arranger.arrange, from 32
set_option maxRecDepth 20000 in
theorem e_56_32 {h : zm_H} {x4 : Int} {x5 : Int} {w6 : zm_V} {w7 : zm_V} {o : Nat} (ho : zf_T o) {t : Nat} (ht : zf_F t) : zl (if x5 < 120 then (zk_V (zc 113 [zm_A 128, zm_A t, zm_A o, zm_I x4, zm_A 133] h) (fun h1 => zk_L (zc 117 [zm_A 128] h1) (fun v2 h3 => zk_L (zc 116 [zm_A 128] h3) (fun v4 h5 => zk_I (zc 21 [zm_L v2, zm_L v4] h5) (fun v6 h7 => if v6 ≤ (h7 132 2) then (zk_I (zc 57 [zm_A 132, zm_I (h7 t 2)] h7) (fun v8 h9 => if v8 = 0 then (some (zm_U, h9)) else (zm_ck (zm_i32 (x5 + 1)) (zr none 4 56 32 [zm_A 132, zm_A t, zm_A o, zm_A 128, zm_I x4, zm_I (x5 + 1), zm_I v6, w7] [] h9)))) else (zr none 4 56 82 [zm_A 132, zm_A t, zm_A o, zm_A 128, zm_I x4, zm_I x5, zm_I v6, zm_I 0] [] (zm_wr h7 132 2 v6))))))) else (some (zm_U, h))) (zr none 4 56 32 [zm_A 132, zm_A t, zm_A o, zm_A 128, zm_I x4, zm_I x5, w6, w7] [] h) := by
  refine zl_tr (r_iload d_56_32 rfl) ?_
  refine zl_tr (r_bipush d_56_34 (by decide)) ?_
  refine zl_tr (r_icmp_ge (tgt := 126) d_56_36 (by decide)) (zl_if ?_ ?_)
  · skip
    refine zl_tr (r_aload_n d_56_39 rfl) ?_
    refine zl_tr (r_aload_n d_56_40 rfl) ?_
    refine zl_tr (r_aload_n d_56_41 rfl) ?_
    refine zl_tr (r_iload d_56_42 rfl) ?_
    refine zl_tr (r_aload_n d_56_44 rfl) ?_
    refine zl_tr (r_getR d_56_45 ow_56 f_1_9 la_132 (by decide) fr_132_0) ?_
    refine zl_tr (r_VV [zm_A 128, zm_A t, zm_A o, zm_I x4, zm_A 133] d_56_48 ow_56 cal_1_22 na_113 rfl rfl (Nat.le_of_ble_eq_true rfl) (by rw [rk_113]; decide) (zr_rcv la_128 ow_113) (zr_im mx_113 rfl (Nat.le_of_ble_eq_true rfl)) rt_113) (zl_V (fun h1 => ?_))
    refine zl_tr (r_aload_n d_56_51 rfl) ?_
    refine zl_tr (r_VL [zm_A 128] d_56_52 ow_56 cal_1_28 na_117 rfl rfl (Nat.le_of_ble_eq_true rfl) (by rw [rk_117]; decide) (zr_rcv la_128 ow_117) (zr_im mx_117 rfl (Nat.le_of_ble_eq_true rfl)) rt_117) (zl_L (fun v2 h3 => ?_))
    refine zl_tr (r_aload_n d_56_55 rfl) ?_
    refine zl_tr (r_VL [zm_A 128] d_56_56 ow_56 cal_1_32 na_116 rfl rfl (Nat.le_of_ble_eq_true rfl) (by rw [rk_116]; decide) (zr_rcv la_128 ow_116) (zr_im mx_116 rfl (Nat.le_of_ble_eq_true rfl)) rt_116) (zl_L (fun v4 h5 => ?_))
    refine zl_tr (r_SI [zm_L v2, zm_L v4] d_56_59 ow_56 cal_1_35 (by decide) na_21 rfl rfl (Nat.le_of_ble_eq_true rfl) (by rw [rk_21]; decide) (zr_im mx_21 rfl (Nat.le_of_ble_eq_true rfl)) (by rw [rt_21]; decide)) (zl_I (fun v6 h7 => ?_))
    refine zl_tr (r_istore (loc' := [zm_A 132, zm_A t, zm_A o, zm_A 128, zm_I x4, zm_I x5, zm_I v6, w7]) d_56_62 (Nat.le_of_ble_eq_true rfl) rfl) ?_
    refine zl_tr (r_iload d_56_64 rfl) ?_
    refine zl_tr (r_aload_n d_56_66 rfl) ?_
    refine zl_tr (r_getI (kk := 2) d_56_67 ow_56 f_1_18 la_132 (by decide) rfl) ?_
    refine zl_tr (r_icmp_le (tgt := 108) d_56_70 (by decide)) (zl_if ?_ ?_)
    · skip
      refine zl_tr (r_aload_n d_56_108 rfl) ?_
      refine zl_tr (r_aload_n d_56_109 rfl) ?_
      refine zl_tr (r_getI (kk := 2) d_56_110 ow_56 f_1_39 (zf_o ht) (by decide) rfl) ?_
      refine zl_tr (r_VI [zm_A 132, zm_I (h7 t 2)] d_56_113 ow_56 cal_1_44 na_57 rfl rfl (Nat.le_of_ble_eq_true rfl) (by rw [rk_57]; decide) (zr_rcv la_132 ow_57) (zr_im mx_57 rfl (Nat.le_of_ble_eq_true rfl)) (by rw [rt_57]; decide)) (zl_I (fun v8 h9 => ?_))
      refine zl_tr (r_if_ne (tgt := 120) d_56_116 (by decide)) (zl_if ?_ ?_)
      · skip
        exact r_vret d_56_119 rt_56
      · skip
        refine zl_tr (r_iinc (loc' := [zm_A 132, zm_A t, zm_A o, zm_A 128, zm_I x4, zm_I (x5 + 1), zm_I v6, w7]) d_56_120 rfl (Nat.le_of_ble_eq_true rfl) rfl) (zl_ck ?_)
        refine zl_tr (r_goto (tgt := 32) d_56_123 (by decide)) ?_
        exact zl_rf
    · skip
      refine zl_tr (r_aload_n d_56_73 rfl) ?_
      refine zl_tr (r_iload d_56_74 rfl) ?_
      refine zl_tr (r_putI (kk := 2) d_56_76 ow_56 f_1_18 la_132 (by decide) rfl) ?_
      refine zl_tr (r_iconst d_56_79 (by decide)) ?_
      refine zl_tr (r_istore (loc' := [zm_A 132, zm_A t, zm_A o, zm_A 128, zm_I x4, zm_I x5, zm_I v6, zm_I 0]) d_56_80 (Nat.le_of_ble_eq_true rfl) rfl) ?_
      exact zl_rf
  · skip
    exact r_vret d_56_126 rt_56
-- BranTub$Arranger.arrange, from 82
set_option maxRecDepth 20000 in
theorem e_56_82 {h : zm_H} {x4 : Int} {x5 : Int} {w6 : zm_V} {x7 : Int} {o : Nat} (ho : zf_T o) {t : Nat} (ht : zf_F t) (hw6 : zm_cat w6 ≠ 2) : zl (if x7 < 5 then (zm_ck (0 ≤ x7 ∧ x7 < ((5 : Nat) : Int)) (zm_ck (0 ≤ x7 ∧ x7 < ((5 : Nat) : Int)) (zm_ck (zm_i32 (x7 + 1)) (zr none 4 56 82 [zm_A 132, zm_A t, zm_A o, zm_A 128, zm_I x4, zm_I x5, w6, zm_I (x7 + 1)] [] (zm_wr h 134 x7 (h 133 x7)))))) else (zk_I (zc 57 [zm_A 132, zm_I (h t 2)] h) (fun v1 h2 => if v1 = 0 then (some (zm_U, h2)) else (zm_ck (zm_i32 (x5 + 1)) (zr none 4 56 32 [zm_A 132, zm_A t, zm_A o, zm_A 128, zm_I x4, zm_I (x5 + 1), w6, zm_I x7] [] h2))))) (zr none 4 56 82 [zm_A 132, zm_A t, zm_A o, zm_A 128, zm_I x4, zm_I x5, w6, zm_I x7] [] h) := by
  refine zl_tr (r_iload d_56_82 rfl) ?_
  refine zl_tr (r_iconst d_56_84 (by decide)) ?_
  refine zl_tr (r_icmp_ge (tgt := 108) d_56_85 (by decide)) (zl_if ?_ ?_)
  · skip
    refine zl_tr (r_aload_n d_56_88 rfl) ?_
    refine zl_tr (r_getR d_56_89 ow_56 f_1_15 la_132 (by decide) fr_132_1) ?_
    refine zl_tr (r_iload d_56_92 rfl) ?_
    refine zl_tr (r_aload_n d_56_94 rfl) ?_
    refine zl_tr (r_getR d_56_95 ow_56 f_1_9 la_132 (by decide) fr_132_0) ?_
    refine zl_tr (r_iload d_56_98 rfl) ?_
    refine zl_tr (r_iaload d_56_100 la_133) (zl_ck ?_)
    refine zl_tr (r_iastore d_56_101 la_134) (zl_ck ?_)
    refine zl_tr (r_iinc (loc' := [zm_A 132, zm_A t, zm_A o, zm_A 128, zm_I x4, zm_I x5, w6, zm_I (x7 + 1)]) d_56_102 rfl (Nat.le_of_ble_eq_true rfl) (zr_k1 rfl hw6 rfl)) (zl_ck ?_)
    refine zl_tr (r_goto (tgt := 82) d_56_105 (by decide)) ?_
    exact zl_rf
  · skip
    refine zl_tr (r_aload_n d_56_108 rfl) ?_
    refine zl_tr (r_aload_n d_56_109 rfl) ?_
    refine zl_tr (r_getI (kk := 2) d_56_110 ow_56 f_1_39 (zf_o ht) (by decide) rfl) ?_
    refine zl_tr (r_VI [zm_A 132, zm_I (h t 2)] d_56_113 ow_56 cal_1_44 na_57 rfl rfl (Nat.le_of_ble_eq_true rfl) (by rw [rk_57]; decide) (zr_rcv la_132 ow_57) (zr_im mx_57 rfl (Nat.le_of_ble_eq_true rfl)) (by rw [rt_57]; decide)) (zl_I (fun v1 h2 => ?_))
    refine zl_tr (r_if_ne (tgt := 120) d_56_116 (by decide)) (zl_if ?_ ?_)
    · skip
      exact r_vret d_56_119 rt_56
    · skip
      refine zl_tr (r_iinc (loc' := [zm_A 132, zm_A t, zm_A o, zm_A 128, zm_I x4, zm_I (x5 + 1), w6, zm_I x7]) d_56_120 rfl (Nat.le_of_ble_eq_true rfl) rfl) (zl_ck ?_)
      refine zl_tr (r_goto (tgt := 32) d_56_123 (by decide)) ?_
      exact zl_rf
-- BranTub$Arranger.stepOn
set_option maxRecDepth 20000 in
theorem e_57 {h : zm_H} {x1 : Int} : zl (zr none 2 57 4 [zm_A 132, zm_I x1, zm_I (-1), zm_I 0, zm_U, zm_U] [] h) (zc 57 [zm_A 132, zm_I x1] h) := by
  rw [zc_eq (loc := [zm_A 132, zm_I x1, zm_U, zm_U, zm_U, zm_U]) (rk_57 _) rfl]
  refine zl_tr (r_iconst d_57_0 (by decide)) ?_
  refine zl_tr (r_istore_n (loc' := [zm_A 132, zm_I x1, zm_I (-1), zm_U, zm_U, zm_U]) d_57_1 (Nat.le_of_ble_eq_true rfl) rfl) ?_
  refine zl_tr (r_iconst d_57_2 (by decide)) ?_
  refine zl_tr (r_istore_n (loc' := [zm_A 132, zm_I x1, zm_I (-1), zm_I 0, zm_U, zm_U]) d_57_3 (Nat.le_of_ble_eq_true rfl) rfl) ?_
  exact zl_rf
-- BranTub$Arranger.stepOn, from 4
set_option maxRecDepth 20000 in
theorem e_57_4 {h : zm_H} {x1 : Int} {x2 : Int} {x3 : Int} {w4 : zm_V} {w5 : zm_V} : zl (zm_ck (zm_i32 (x3 + 1)) (if (x3 + 1) < x1 then (zm_ck (0 ≤ x3 ∧ x3 < ((5 : Nat) : Int)) (zm_ck (zm_i32 (x3 + 1)) (zm_ck (0 ≤ (x3 + 1) ∧ (x3 + 1) < ((5 : Nat) : Int)) (if (h 133 x3) < (h 133 (x3 + 1)) then (zm_ck (zm_i32 (x3 + 1)) (zr none 2 57 4 [zm_A 132, zm_I x1, zm_I x3, zm_I (x3 + 1), w4, w5] [] h)) else (zm_ck (zm_i32 (x3 + 1)) (zr none 2 57 4 [zm_A 132, zm_I x1, zm_I x2, zm_I (x3 + 1), w4, w5] [] h)))))) else (if x2 = (-1) then (zm_ck (zm_bit 0) (some (zm_I 0, h))) else (zm_ck (zm_i32 (x2 + 1)) (zm_ck (zm_i32 (x2 + 1)) (zr none 2 57 52 [zm_A 132, zm_I x1, zm_I x2, zm_I (x2 + 1), zm_I (x2 + 1), w5] [] h)))))) (zr none 2 57 4 [zm_A 132, zm_I x1, zm_I x2, zm_I x3, w4, w5] [] h) := by
  refine zl_tr (r_iload_n d_57_4 rfl) ?_
  refine zl_tr (r_iconst d_57_5 (by decide)) ?_
  refine zl_tr (r_iadd d_57_6) (zl_ck ?_)
  refine zl_tr (r_iload_n d_57_7 rfl) ?_
  refine zl_tr (r_icmp_ge (tgt := 36) d_57_8 (by decide)) (zl_if ?_ ?_)
  · skip
    refine zl_tr (r_aload_n d_57_11 rfl) ?_
    refine zl_tr (r_getR d_57_12 ow_57 f_1_9 la_132 (by decide) fr_132_0) ?_
    refine zl_tr (r_iload_n d_57_15 rfl) ?_
    refine zl_tr (r_iaload d_57_16 la_133) (zl_ck ?_)
    refine zl_tr (r_aload_n d_57_17 rfl) ?_
    refine zl_tr (r_getR d_57_18 ow_57 f_1_9 la_132 (by decide) fr_132_0) ?_
    refine zl_tr (r_iload_n d_57_21 rfl) ?_
    refine zl_tr (r_iconst d_57_22 (by decide)) ?_
    refine zl_tr (r_iadd d_57_23) (zl_ck ?_)
    refine zl_tr (r_iaload d_57_24 la_133) (zl_ck ?_)
    refine zl_tr (r_icmp_ge (tgt := 30) d_57_25 (by decide)) (zl_if ?_ ?_)
    · skip
      refine zl_tr (r_iload_n d_57_28 rfl) ?_
      refine zl_tr (r_istore_n (loc' := [zm_A 132, zm_I x1, zm_I x3, zm_I x3, w4, w5]) d_57_29 (Nat.le_of_ble_eq_true rfl) rfl) ?_
      refine zl_tr (r_iinc (loc' := [zm_A 132, zm_I x1, zm_I x3, zm_I (x3 + 1), w4, w5]) d_57_30 rfl (Nat.le_of_ble_eq_true rfl) rfl) (zl_ck ?_)
      refine zl_tr (r_goto (tgt := 4) d_57_33 (by decide)) ?_
      exact zl_rf
    · skip
      refine zl_tr (r_iinc (loc' := [zm_A 132, zm_I x1, zm_I x2, zm_I (x3 + 1), w4, w5]) d_57_30 rfl (Nat.le_of_ble_eq_true rfl) rfl) (zl_ck ?_)
      refine zl_tr (r_goto (tgt := 4) d_57_33 (by decide)) ?_
      exact zl_rf
  · skip
    refine zl_tr (r_iload_n d_57_36 rfl) ?_
    refine zl_tr (r_iconst d_57_37 (by decide)) ?_
    refine zl_tr (r_icmp_ne (tgt := 43) d_57_38 (by decide)) (zl_if ?_ ?_)
    · skip
      refine zl_tr (r_iconst d_57_41 (by decide)) ?_
      exact r_zret d_57_42 rt_57
    · skip
      refine zl_tr (r_iload_n d_57_43 rfl) ?_
      refine zl_tr (r_iconst d_57_44 (by decide)) ?_
      refine zl_tr (r_iadd d_57_45) (zl_ck ?_)
      refine zl_tr (r_istore_n (loc' := [zm_A 132, zm_I x1, zm_I x2, zm_I (x2 + 1), w4, w5]) d_57_46 (Nat.le_of_ble_eq_true rfl) rfl) ?_
      refine zl_tr (r_iload_n d_57_47 rfl) ?_
      refine zl_tr (r_iconst d_57_48 (by decide)) ?_
      refine zl_tr (r_iadd d_57_49) (zl_ck ?_)
      refine zl_tr (r_istore (loc' := [zm_A 132, zm_I x1, zm_I x2, zm_I (x2 + 1), zm_I (x2 + 1), w5]) d_57_50 (Nat.le_of_ble_eq_true rfl) rfl) ?_
      exact zl_rf
-- BranTub$Arranger.stepOn, from 52
set_option maxRecDepth 20000 in
theorem e_57_52 {h : zm_H} {x1 : Int} {x2 : Int} {x3 : Int} {x4 : Int} {w5 : zm_V} : zl (if x4 < x1 then (zm_ck (0 ≤ x4 ∧ x4 < ((5 : Nat) : Int)) (zm_ck (0 ≤ x2 ∧ x2 < ((5 : Nat) : Int)) (if (h 133 x4) ≤ (h 133 x2) then (zm_ck (zm_i32 (x4 + 1)) (zr none 2 57 52 [zm_A 132, zm_I x1, zm_I x2, zm_I x3, zm_I (x4 + 1), w5] [] h)) else (zm_ck (zm_i32 (x4 + 1)) (zr none 2 57 52 [zm_A 132, zm_I x1, zm_I x2, zm_I x4, zm_I (x4 + 1), w5] [] h))))) else (zk_V (zc 58 [zm_A 132, zm_I x2, zm_I x3] h) (fun h1 => zm_ck (zm_i32 (x2 + 1)) (zm_ck (zm_i32 (x1 - 1)) (zr none 2 57 99 [zm_A 132, zm_I x1, zm_I x2, zm_I x3, zm_I (x2 + 1), zm_I (x1 - 1)] [] h1))))) (zr none 2 57 52 [zm_A 132, zm_I x1, zm_I x2, zm_I x3, zm_I x4, w5] [] h) := by
  refine zl_tr (r_iload d_57_52 rfl) ?_
  refine zl_tr (r_iload_n d_57_54 rfl) ?_
  refine zl_tr (r_icmp_ge (tgt := 83) d_57_55 (by decide)) (zl_if ?_ ?_)
  · skip
    refine zl_tr (r_aload_n d_57_58 rfl) ?_
    refine zl_tr (r_getR d_57_59 ow_57 f_1_9 la_132 (by decide) fr_132_0) ?_
    refine zl_tr (r_iload d_57_62 rfl) ?_
    refine zl_tr (r_iaload d_57_64 la_133) (zl_ck ?_)
    refine zl_tr (r_aload_n d_57_65 rfl) ?_
    refine zl_tr (r_getR d_57_66 ow_57 f_1_9 la_132 (by decide) fr_132_0) ?_
    refine zl_tr (r_iload_n d_57_69 rfl) ?_
    refine zl_tr (r_iaload d_57_70 la_133) (zl_ck ?_)
    refine zl_tr (r_icmp_le (tgt := 77) d_57_71 (by decide)) (zl_if ?_ ?_)
    · skip
      refine zl_tr (r_iinc (loc' := [zm_A 132, zm_I x1, zm_I x2, zm_I x3, zm_I (x4 + 1), w5]) d_57_77 rfl (Nat.le_of_ble_eq_true rfl) rfl) (zl_ck ?_)
      refine zl_tr (r_goto (tgt := 52) d_57_80 (by decide)) ?_
      exact zl_rf
    · skip
      refine zl_tr (r_iload d_57_74 rfl) ?_
      refine zl_tr (r_istore_n (loc' := [zm_A 132, zm_I x1, zm_I x2, zm_I x4, zm_I x4, w5]) d_57_76 (Nat.le_of_ble_eq_true rfl) rfl) ?_
      refine zl_tr (r_iinc (loc' := [zm_A 132, zm_I x1, zm_I x2, zm_I x4, zm_I (x4 + 1), w5]) d_57_77 rfl (Nat.le_of_ble_eq_true rfl) rfl) (zl_ck ?_)
      refine zl_tr (r_goto (tgt := 52) d_57_80 (by decide)) ?_
      exact zl_rf
  · skip
    refine zl_tr (r_aload_n d_57_83 rfl) ?_
    refine zl_tr (r_iload_n d_57_84 rfl) ?_
    refine zl_tr (r_iload_n d_57_85 rfl) ?_
    refine zl_tr (r_VV [zm_A 132, zm_I x2, zm_I x3] d_57_86 ow_57 cal_1_48 na_58 rfl rfl (Nat.le_of_ble_eq_true rfl) (by rw [rk_58]; decide) (zr_rcv la_132 ow_58) (zr_im mx_58 rfl (Nat.le_of_ble_eq_true rfl)) rt_58) (zl_V (fun h1 => ?_))
    refine zl_tr (r_iload_n d_57_89 rfl) ?_
    refine zl_tr (r_iconst d_57_90 (by decide)) ?_
    refine zl_tr (r_iadd d_57_91) (zl_ck ?_)
    refine zl_tr (r_istore (loc' := [zm_A 132, zm_I x1, zm_I x2, zm_I x3, zm_I (x2 + 1), w5]) d_57_92 (Nat.le_of_ble_eq_true rfl) rfl) ?_
    refine zl_tr (r_iload_n d_57_94 rfl) ?_
    refine zl_tr (r_iconst d_57_95 (by decide)) ?_
    refine zl_tr (r_isub d_57_96) (zl_ck ?_)
    refine zl_tr (r_istore (loc' := [zm_A 132, zm_I x1, zm_I x2, zm_I x3, zm_I (x2 + 1), zm_I (x1 - 1)]) d_57_97 (Nat.le_of_ble_eq_true rfl) rfl) ?_
    exact zl_rf
-- BranTub$Arranger.stepOn, from 99
set_option maxRecDepth 20000 in
theorem e_57_99 {h : zm_H} {w1 : zm_V} {w2 : zm_V} {w3 : zm_V} {x4 : Int} {x5 : Int} (hw3 : zm_cat w3 ≠ 2) : zl (if x4 < x5 then (zk_V (zc 58 [zm_A 132, zm_I x4, zm_I x5] h) (fun h1 => zm_ck (zm_i32 (x4 + 1)) (zm_ck (zm_i32 (x5 + (-1))) (zr none 2 57 99 [zm_A 132, w1, w2, w3, zm_I (x4 + 1), zm_I (x5 + (-1))] [] h1)))) else (zm_ck (zm_bit 1) (some (zm_I 1, h)))) (zr none 2 57 99 [zm_A 132, w1, w2, w3, zm_I x4, zm_I x5] [] h) := by
  refine zl_tr (r_iload d_57_99 rfl) ?_
  refine zl_tr (r_iload d_57_101 rfl) ?_
  refine zl_tr (r_icmp_ge (tgt := 123) d_57_103 (by decide)) (zl_if ?_ ?_)
  · skip
    refine zl_tr (r_aload_n d_57_106 rfl) ?_
    refine zl_tr (r_iload d_57_107 rfl) ?_
    refine zl_tr (r_iload d_57_109 rfl) ?_
    refine zl_tr (r_VV [zm_A 132, zm_I x4, zm_I x5] d_57_111 ow_57 cal_1_48 na_58 rfl rfl (Nat.le_of_ble_eq_true rfl) (by rw [rk_58]; decide) (zr_rcv la_132 ow_58) (zr_im mx_58 rfl (Nat.le_of_ble_eq_true rfl)) rt_58) (zl_V (fun h1 => ?_))
    refine zl_tr (r_iinc (loc' := [zm_A 132, w1, w2, w3, zm_I (x4 + 1), zm_I x5]) d_57_114 rfl (Nat.le_of_ble_eq_true rfl) (zr_k1 rfl hw3 rfl)) (zl_ck ?_)
    refine zl_tr (r_iinc (loc' := [zm_A 132, w1, w2, w3, zm_I (x4 + 1), zm_I (x5 + (-1))]) d_57_117 rfl (Nat.le_of_ble_eq_true rfl) rfl) (zl_ck ?_)
    refine zl_tr (r_goto (tgt := 99) d_57_120 (by decide)) ?_
    exact zl_rf
  · skip
    refine zl_tr (r_iconst d_57_123 (by decide)) ?_
    exact r_zret d_57_124 rt_57
-- BranTub$Arranger.exchange
set_option maxRecDepth 20000 in
theorem e_58 {h : zm_H} {x1 : Int} {x2 : Int} : zl (zm_ck (0 ≤ x1 ∧ x1 < ((5 : Nat) : Int)) (zm_ck (0 ≤ x2 ∧ x2 < ((5 : Nat) : Int)) (zm_ck (0 ≤ x1 ∧ x1 < ((5 : Nat) : Int)) (zm_ck (0 ≤ x2 ∧ x2 < ((5 : Nat) : Int)) (some (zm_U, (zm_wr (zm_wr h 133 x1 (h 133 x2)) 133 x2 (h 133 x1)))))))) (zc 58 [zm_A 132, zm_I x1, zm_I x2] h) := by
  rw [zc_eq (loc := [zm_A 132, zm_I x1, zm_I x2, zm_U]) (rk_58 _) rfl]
  refine zl_tr (r_aload_n d_58_0 rfl) ?_
  refine zl_tr (r_getR d_58_1 ow_58 f_1_9 la_132 (by decide) fr_132_0) ?_
  refine zl_tr (r_iload_n d_58_4 rfl) ?_
  refine zl_tr (r_iaload d_58_5 la_133) (zl_ck ?_)
  refine zl_tr (r_istore_n (loc' := [zm_A 132, zm_I x1, zm_I x2, zm_I (h 133 x1)]) d_58_6 (Nat.le_of_ble_eq_true rfl) rfl) ?_
  refine zl_tr (r_aload_n d_58_7 rfl) ?_
  refine zl_tr (r_getR d_58_8 ow_58 f_1_9 la_132 (by decide) fr_132_0) ?_
  refine zl_tr (r_iload_n d_58_11 rfl) ?_
  refine zl_tr (r_aload_n d_58_12 rfl) ?_
  refine zl_tr (r_getR d_58_13 ow_58 f_1_9 la_132 (by decide) fr_132_0) ?_
  refine zl_tr (r_iload_n d_58_16 rfl) ?_
  refine zl_tr (r_iaload d_58_17 la_133) (zl_ck ?_)
  refine zl_tr (r_iastore d_58_18 la_133) (zl_ck ?_)
  refine zl_tr (r_aload_n d_58_19 rfl) ?_
  refine zl_tr (r_getR d_58_20 ow_58 f_1_9 la_132 (by decide) fr_132_0) ?_
  refine zl_tr (r_iload_n d_58_23 rfl) ?_
  refine zl_tr (r_iload_n d_58_24 rfl) ?_
  refine zl_tr (r_iastore d_58_25 la_133) (zl_ck ?_)
  exact r_vret d_58_26 rt_58
-- BranTub$Fete.clear
set_option maxRecDepth 20000 in
theorem e_60 {h : zm_H} {t : Nat} (ht : zf_F t) : zl (zr none 1 60 28 [zm_A t, zm_I 0] [] (zm_wr (zm_wr (zm_wr (zm_wr (zm_wr h t 0 0) t 1 0) t 2 0) t 3 0) t 4 50)) (zc 60 [zm_A t] h) := by
  rw [zc_eq (loc := [zm_A t, zm_U]) (rk_60 _) rfl]
  refine zl_tr (r_aload_n d_60_0 rfl) ?_
  refine zl_tr (r_iconst d_60_1 (by decide)) ?_
  refine zl_tr (r_putI (kk := 0) d_60_2 ow_60 f_2_45 (zf_o ht) (by decide) rfl) ?_
  refine zl_tr (r_aload_n d_60_5 rfl) ?_
  refine zl_tr (r_iconst d_60_6 (by decide)) ?_
  refine zl_tr (r_putI (kk := 1) d_60_7 ow_60 f_2_49 (zf_o ht) (by decide) rfl) ?_
  refine zl_tr (r_aload_n d_60_10 rfl) ?_
  refine zl_tr (r_iconst d_60_11 (by decide)) ?_
  refine zl_tr (r_putI (kk := 2) d_60_12 ow_60 f_2_52 (zf_o ht) (by decide) rfl) ?_
  refine zl_tr (r_aload_n d_60_15 rfl) ?_
  refine zl_tr (r_iconst d_60_16 (by decide)) ?_
  refine zl_tr (r_putI (kk := 3) d_60_17 ow_60 f_2_55 (zf_o ht) (by decide) rfl) ?_
  refine zl_tr (r_aload_n d_60_20 rfl) ?_
  refine zl_tr (r_bipush d_60_21 (by decide)) ?_
  refine zl_tr (r_putI (kk := 4) d_60_23 ow_60 f_2_58 (zf_o ht) (by decide) rfl) ?_
  refine zl_tr (r_iconst d_60_26 (by decide)) ?_
  refine zl_tr (r_istore_n (loc' := [zm_A t, zm_I 0]) d_60_27 (Nat.le_of_ble_eq_true rfl) rfl) ?_
  exact zl_rf
-- BranTub$Fete.clear, from 28
set_option maxRecDepth 20000 in
theorem e_60_28 {h : zm_H} {x1 : Int} {t : Nat} (ht : zf_F t) : zl (if x1 < 40 then (zm_ck (0 ≤ x1 ∧ x1 < ((40 : Nat) : Int)) (zm_ck (zm_i32 (x1 + 1)) (zr none 1 60 28 [zm_A t, zm_I (x1 + 1)] [] (zm_wr h (t + 4) x1 0)))) else (zr none 1 60 52 [zm_A t, zm_I 0] [] h)) (zr none 1 60 28 [zm_A t, zm_I x1] [] h) := by
  refine zl_tr (r_iload_n d_60_28 rfl) ?_
  refine zl_tr (r_aload_n d_60_29 rfl) ?_
  refine zl_tr (r_getR d_60_30 ow_60 f_2_21 (zf_o ht) (by decide) (zf_r8 ht)) ?_
  refine zl_tr (r_alen (nn := 40) d_60_33 (zf_a4 ht) (by decide) rfl) ?_
  refine zl_tr (r_icmp_ge (tgt := 50) d_60_34 (by decide)) (zl_if ?_ ?_)
  · skip
    refine zl_tr (r_aload_n d_60_37 rfl) ?_
    refine zl_tr (r_getR d_60_38 ow_60 f_2_21 (zf_o ht) (by decide) (zf_r8 ht)) ?_
    refine zl_tr (r_iload_n d_60_41 rfl) ?_
    refine zl_tr (r_iconst d_60_42 (by decide)) ?_
    refine zl_tr (r_iastore d_60_43 (zf_a4 ht)) (zl_ck ?_)
    refine zl_tr (r_iinc (loc' := [zm_A t, zm_I (x1 + 1)]) d_60_44 rfl (Nat.le_of_ble_eq_true rfl) rfl) (zl_ck ?_)
    refine zl_tr (r_goto (tgt := 28) d_60_47 (by decide)) ?_
    exact zl_rf
  · skip
    refine zl_tr (r_iconst d_60_50 (by decide)) ?_
    refine zl_tr (r_istore_n (loc' := [zm_A t, zm_I 0]) d_60_51 (Nat.le_of_ble_eq_true rfl) rfl) ?_
    exact zl_rf
-- BranTub$Fete.clear, from 52
set_option maxRecDepth 20000 in
theorem e_60_52 {h : zm_H} {x1 : Int} {t : Nat} (ht : zf_F t) : zl (if x1 < 64 then (zm_ck (0 ≤ x1 ∧ x1 < ((64 : Nat) : Int)) (zm_ck (zm_i32 (x1 + 1)) (zr none 1 60 52 [zm_A t, zm_I (x1 + 1)] [] (zm_wr h (t + 9) x1 (-1))))) else (some (zm_U, (zm_wr (zm_wr (zm_wr (zm_wr (zm_wr h t 15 0) t 16 0) t 17 0) t 18 0) t 19 0)))) (zr none 1 60 52 [zm_A t, zm_I x1] [] h) := by
  refine zl_tr (r_iload_n d_60_52 rfl) ?_
  refine zl_tr (r_aload_n d_60_53 rfl) ?_
  refine zl_tr (r_getR d_60_54 ow_60 f_2_36 (zf_o ht) (by decide) (zf_r13 ht)) ?_
  refine zl_tr (r_alen (nn := 64) d_60_57 (zf_a9 ht) (by decide) rfl) ?_
  refine zl_tr (r_icmp_ge (tgt := 74) d_60_58 (by decide)) (zl_if ?_ ?_)
  · skip
    refine zl_tr (r_aload_n d_60_61 rfl) ?_
    refine zl_tr (r_getR d_60_62 ow_60 f_2_36 (zf_o ht) (by decide) (zf_r13 ht)) ?_
    refine zl_tr (r_iload_n d_60_65 rfl) ?_
    refine zl_tr (r_iconst d_60_66 (by decide)) ?_
    refine zl_tr (r_iastore d_60_67 (zf_a9 ht)) (zl_ck ?_)
    refine zl_tr (r_iinc (loc' := [zm_A t, zm_I (x1 + 1)]) d_60_68 rfl (Nat.le_of_ble_eq_true rfl) rfl) (zl_ck ?_)
    refine zl_tr (r_goto (tgt := 52) d_60_71 (by decide)) ?_
    exact zl_rf
  · skip
    refine zl_tr (r_aload_n d_60_74 rfl) ?_
    refine zl_tr (r_iconst d_60_75 (by decide)) ?_
    refine zl_tr (r_putI (kk := 15) d_60_76 ow_60 f_2_61 (zf_o ht) (by decide) rfl) ?_
    refine zl_tr (r_aload_n d_60_79 rfl) ?_
    refine zl_tr (r_iconst d_60_80 (by decide)) ?_
    refine zl_tr (r_putI (kk := 16) d_60_81 ow_60 f_2_64 (zf_o ht) (by decide) rfl) ?_
    refine zl_tr (r_aload_n d_60_84 rfl) ?_
    refine zl_tr (r_iconst d_60_85 (by decide)) ?_
    refine zl_tr (r_putI (kk := 17) d_60_86 ow_60 f_2_67 (zf_o ht) (by decide) rfl) ?_
    refine zl_tr (r_aload_n d_60_89 rfl) ?_
    refine zl_tr (r_iconst d_60_90 (by decide)) ?_
    refine zl_tr (r_putI (kk := 18) d_60_91 ow_60 f_2_70 (zf_o ht) (by decide) rfl) ?_
    refine zl_tr (r_aload_n d_60_94 rfl) ?_
    refine zl_tr (r_iconst d_60_95 (by decide)) ?_
    refine zl_tr (r_putI (kk := 19) d_60_96 ow_60 f_2_73 (zf_o ht) (by decide) rfl) ?_
    exact r_vret d_60_99 rt_60
-- BranTub$Fete.kindNamed
set_option maxRecDepth 20000 in
theorem e_61 {h : zm_H} {x1 : Int} {t : Nat} (ht : zf_F t) : zl (zr none 1 61 2 [zm_A t, zm_I x1, zm_I 0] [] h) (zc 61 [zm_A t, zm_I x1] h) := by
  rw [zc_eq (loc := [zm_A t, zm_I x1, zm_U]) (rk_61 _) rfl]
  refine zl_tr (r_iconst d_61_0 (by decide)) ?_
  refine zl_tr (r_istore_n (loc' := [zm_A t, zm_I x1, zm_I 0]) d_61_1 (Nat.le_of_ble_eq_true rfl) rfl) ?_
  exact zl_rf
-- BranTub$Fete.kindNamed, from 2
set_option maxRecDepth 20000 in
theorem e_61_2 {h : zm_H} {x1 : Int} {x2 : Int} {t : Nat} (ht : zf_F t) : zl (if x2 < (h t 1) then (zm_ck (0 ≤ x2 ∧ x2 < ((8 : Nat) : Int)) (if (h (t + 1) x2) = x1 then (some (zm_I x2, h)) else (zm_ck (zm_i32 (x2 + 1)) (zr none 1 61 2 [zm_A t, zm_I x1, zm_I (x2 + 1)] [] h)))) else (some (zm_I (-1), h))) (zr none 1 61 2 [zm_A t, zm_I x1, zm_I x2] [] h) := by
  refine zl_tr (r_iload_n d_61_2 rfl) ?_
  refine zl_tr (r_aload_n d_61_3 rfl) ?_
  refine zl_tr (r_getI (kk := 1) d_61_4 ow_61 f_2_49 (zf_o ht) (by decide) rfl) ?_
  refine zl_tr (r_icmp_ge (tgt := 28) d_61_7 (by decide)) (zl_if ?_ ?_)
  · skip
    refine zl_tr (r_aload_n d_61_10 rfl) ?_
    refine zl_tr (r_getR d_61_11 ow_61 f_2_9 (zf_o ht) (by decide) (zf_r5 ht)) ?_
    refine zl_tr (r_iload_n d_61_14 rfl) ?_
    refine zl_tr (r_iaload d_61_15 (zf_a1 ht)) (zl_ck ?_)
    refine zl_tr (r_iload_n d_61_16 rfl) ?_
    refine zl_tr (r_icmp_ne (tgt := 22) d_61_17 (by decide)) (zl_if ?_ ?_)
    · skip
      refine zl_tr (r_iload_n d_61_20 rfl) ?_
      exact r_iret d_61_21 rt_61
    · skip
      refine zl_tr (r_iinc (loc' := [zm_A t, zm_I x1, zm_I (x2 + 1)]) d_61_22 rfl (Nat.le_of_ble_eq_true rfl) rfl) (zl_ck ?_)
      refine zl_tr (r_goto (tgt := 2) d_61_25 (by decide)) ?_
      exact zl_rf
  · skip
    refine zl_tr (r_iconst d_61_28 (by decide)) ?_
    exact r_iret d_61_29 rt_61
-- BranTub$Fete.childNamed
set_option maxRecDepth 20000 in
theorem e_62 {h : zm_H} {x1 : Int} {t : Nat} (ht : zf_F t) : zl (zr none 1 62 2 [zm_A t, zm_I x1, zm_I 0] [] h) (zc 62 [zm_A t, zm_I x1] h) := by
  rw [zc_eq (loc := [zm_A t, zm_I x1, zm_U]) (rk_62 _) rfl]
  refine zl_tr (r_iconst d_62_0 (by decide)) ?_
  refine zl_tr (r_istore_n (loc' := [zm_A t, zm_I x1, zm_I 0]) d_62_1 (Nat.le_of_ble_eq_true rfl) rfl) ?_
  exact zl_rf
-- BranTub$Fete.childNamed, from 2
set_option maxRecDepth 20000 in
theorem e_62_2 {h : zm_H} {x1 : Int} {x2 : Int} {t : Nat} (ht : zf_F t) : zl (if x2 < (h t 3) then (zm_ck (0 ≤ x2 ∧ x2 < ((8 : Nat) : Int)) (if (h (t + 5) x2) = x1 then (some (zm_I x2, h)) else (zm_ck (zm_i32 (x2 + 1)) (zr none 1 62 2 [zm_A t, zm_I x1, zm_I (x2 + 1)] [] h)))) else (some (zm_I (-1), h))) (zr none 1 62 2 [zm_A t, zm_I x1, zm_I x2] [] h) := by
  refine zl_tr (r_iload_n d_62_2 rfl) ?_
  refine zl_tr (r_aload_n d_62_3 rfl) ?_
  refine zl_tr (r_getI (kk := 3) d_62_4 ow_62 f_2_55 (zf_o ht) (by decide) rfl) ?_
  refine zl_tr (r_icmp_ge (tgt := 28) d_62_7 (by decide)) (zl_if ?_ ?_)
  · skip
    refine zl_tr (r_aload_n d_62_10 rfl) ?_
    refine zl_tr (r_getR d_62_11 ow_62 f_2_24 (zf_o ht) (by decide) (zf_r9 ht)) ?_
    refine zl_tr (r_iload_n d_62_14 rfl) ?_
    refine zl_tr (r_iaload d_62_15 (zf_a5 ht)) (zl_ck ?_)
    refine zl_tr (r_iload_n d_62_16 rfl) ?_
    refine zl_tr (r_icmp_ne (tgt := 22) d_62_17 (by decide)) (zl_if ?_ ?_)
    · skip
      refine zl_tr (r_iload_n d_62_20 rfl) ?_
      exact r_iret d_62_21 rt_62
    · skip
      refine zl_tr (r_iinc (loc' := [zm_A t, zm_I x1, zm_I (x2 + 1)]) d_62_22 rfl (Nat.le_of_ble_eq_true rfl) rfl) (zl_ck ?_)
      refine zl_tr (r_goto (tgt := 2) d_62_25 (by decide)) ?_
      exact zl_rf
  · skip
    refine zl_tr (r_iconst d_62_28 (by decide)) ?_
    exact r_iret d_62_29 rt_62
-- BranTub$Fete.step
set_option maxRecDepth 20000 in
theorem e_63 {h : zm_H} {x1 : Int} {t : Nat} (ht : zf_F t) : zl (if (h t 15) < 1600 then (zm_ck (zm_i32 ((h t 15) + 1)) (zm_ck (0 ≤ (h t 15) ∧ (h t 15) < ((1600 : Nat) : Int)) (some (zm_U, (zm_wr (zm_wr h t 15 ((h t 15) + 1)) (t + 10) (h t 15) x1))))) else (some (zm_U, h))) (zc 63 [zm_A t, zm_I x1] h) := by
  rw [zc_eq (loc := [zm_A t, zm_I x1]) (rk_63 _) rfl]
  refine zl_tr (r_aload_n d_63_0 rfl) ?_
  refine zl_tr (r_getI (kk := 15) d_63_1 ow_63 f_2_61 (zf_o ht) (by decide) rfl) ?_
  refine zl_tr (r_sipush d_63_4 (by decide)) ?_
  refine zl_tr (r_icmp_ge (tgt := 27) d_63_7 (by decide)) (zl_if ?_ ?_)
  · skip
    refine zl_tr (r_aload_n d_63_10 rfl) ?_
    refine zl_tr (r_getR d_63_11 ow_63 f_2_39 (zf_o ht) (by decide) (zf_r14 ht)) ?_
    refine zl_tr (r_aload_n d_63_14 rfl) ?_
    refine zl_tr (r_dup d_63_15 rfl) ?_
    refine zl_tr (r_getI (kk := 15) d_63_16 ow_63 f_2_61 (zf_o ht) (by decide) rfl) ?_
    refine zl_tr (r_dup_x1 d_63_19 ⟨rfl, rfl⟩) ?_
    refine zl_tr (r_iconst d_63_20 (by decide)) ?_
    refine zl_tr (r_iadd d_63_21) (zl_ck ?_)
    refine zl_tr (r_putI (kk := 15) d_63_22 ow_63 f_2_61 (zf_o ht) (by decide) rfl) ?_
    refine zl_tr (r_iload_n d_63_25 rfl) ?_
    refine zl_tr (r_iastore d_63_26 (zf_a10 ht)) (zl_ck ?_)
    exact r_vret d_63_27 rt_63
  · skip
    exact r_vret d_63_27 rt_63
-- BranTub$Fete.worthTo
set_option maxRecDepth 20000 in
theorem e_64 {h : zm_H} {x1 : Int} {x2 : Int} {t : Nat} (ht : zf_F t) : zl (zm_ck (zm_i32 (x1 * 8)) (zm_ck (zm_i32 ((x1 * 8) + x2)) (zm_ck (0 ≤ ((x1 * 8) + x2) ∧ ((x1 * 8) + x2) < ((64 : Nat) : Int)) (if (h (t + 9) ((x1 * 8) + x2)) = (-1) then (zm_ck (0 ≤ x2 ∧ x2 < ((8 : Nat) : Int)) (some (zm_I (h (t + 2) x2), h))) else (some (zm_I (h (t + 9) ((x1 * 8) + x2)), h)))))) (zc 64 [zm_A t, zm_I x1, zm_I x2] h) := by
  rw [zc_eq (loc := [zm_A t, zm_I x1, zm_I x2, zm_U]) (rk_64 _) rfl]
  refine zl_tr (r_aload_n d_64_0 rfl) ?_
  refine zl_tr (r_getR d_64_1 ow_64 f_2_36 (zf_o ht) (by decide) (zf_r13 ht)) ?_
  refine zl_tr (r_iload_n d_64_4 rfl) ?_
  refine zl_tr (r_bipush d_64_5 (by decide)) ?_
  refine zl_tr (r_imul d_64_7) (zl_ck ?_)
  refine zl_tr (r_iload_n d_64_8 rfl) ?_
  refine zl_tr (r_iadd d_64_9) (zl_ck ?_)
  refine zl_tr (r_iaload d_64_10 (zf_a9 ht)) (zl_ck ?_)
  refine zl_tr (r_istore_n (loc' := [zm_A t, zm_I x1, zm_I x2, zm_I (h (t + 9) ((x1 * 8) + x2))]) d_64_11 (Nat.le_of_ble_eq_true rfl) rfl) ?_
  refine zl_tr (r_iload_n d_64_12 rfl) ?_
  refine zl_tr (r_iconst d_64_13 (by decide)) ?_
  refine zl_tr (r_icmp_ne (tgt := 26) d_64_14 (by decide)) (zl_if ?_ ?_)
  · skip
    refine zl_tr (r_aload_n d_64_17 rfl) ?_
    refine zl_tr (r_getR d_64_18 ow_64 f_2_15 (zf_o ht) (by decide) (zf_r6 ht)) ?_
    refine zl_tr (r_iload_n d_64_21 rfl) ?_
    refine zl_tr (r_iaload d_64_22 (zf_a2 ht)) (zl_ck ?_)
    refine zl_tr (r_goto (tgt := 27) d_64_23 (by decide)) ?_
    exact r_iret d_64_27 rt_64
  · skip
    refine zl_tr (r_iload_n d_64_26 rfl) ?_
    exact r_iret d_64_27 rt_64
-- BranTub$Fete.keyOf
set_option maxRecDepth 20000 in
theorem e_65 {h : zm_H} {x1 : Int} {x2 : Int} {t : Nat} (ht : zf_F t) : zl (zm_ck (0 ≤ x1 ∧ x1 < ((8 : Nat) : Int)) (if (h (t + 8) x1) = 1 then (zk_I (zc 64 [zm_A t, zm_I x1, zm_I x2] h) (fun v1 h2 => some (zm_I v1, h2))) else (if (h (t + 8) x1) = 2 then (zm_ck (0 ≤ x2 ∧ x2 < ((8 : Nat) : Int)) (some (zm_I (h (t + 3) x2), h))) else (if (h (t + 8) x1) = 3 then (zm_ck (0 ≤ x2 ∧ x2 < ((8 : Nat) : Int)) (zm_ck (zm_i32 (-(h (t + 3) x2))) (some (zm_I (-(h (t + 3) x2)), h)))) else (some (zm_I 0, h)))))) (zc 65 [zm_A t, zm_I x1, zm_I x2] h) := by
  rw [zc_eq (loc := [zm_A t, zm_I x1, zm_I x2]) (rk_65 _) rfl]
  refine zl_tr (r_aload_n d_65_0 rfl) ?_
  refine zl_tr (r_getR d_65_1 ow_65 f_2_33 (zf_o ht) (by decide) (zf_r12 ht)) ?_
  refine zl_tr (r_iload_n d_65_4 rfl) ?_
  refine zl_tr (r_iaload d_65_5 (zf_a8 ht)) (zl_ck ?_)
  refine zl_eq 1 (fun hx => ?_) (fun hx1 => ?_)
  · refine zl_tr (r_tsw (tgt := 32) d_65_6 (by rw [hx]; decide) (by decide)) ?_
    refine zl_tr (r_aload_n d_65_32 rfl) ?_
    refine zl_tr (r_iload_n d_65_33 rfl) ?_
    refine zl_tr (r_iload_n d_65_34 rfl) ?_
    refine zl_tr (r_VI [zm_A t, zm_I x1, zm_I x2] d_65_35 ow_65 cal_2_76 na_64 rfl rfl (Nat.le_of_ble_eq_true rfl) (by rw [rk_64]; decide) (zr_rcv (zf_o ht) ow_64) (zr_im mx_64 rfl (Nat.le_of_ble_eq_true rfl)) (by rw [rt_64]; decide)) (zl_I (fun v1 h2 => ?_))
    exact r_iret d_65_38 rt_65
  refine zl_eq 2 (fun hx => ?_) (fun hx2 => ?_)
  · refine zl_tr (r_tsw (tgt := 39) d_65_6 (by rw [hx]; decide) (by decide)) ?_
    refine zl_tr (r_aload_n d_65_39 rfl) ?_
    refine zl_tr (r_getR d_65_40 ow_65 f_2_18 (zf_o ht) (by decide) (zf_r7 ht)) ?_
    refine zl_tr (r_iload_n d_65_43 rfl) ?_
    refine zl_tr (r_iaload d_65_44 (zf_a3 ht)) (zl_ck ?_)
    exact r_iret d_65_45 rt_65
  refine zl_eq 3 (fun hx => ?_) (fun hx3 => ?_)
  · refine zl_tr (r_tsw (tgt := 46) d_65_6 (by rw [hx]; decide) (by decide)) ?_
    refine zl_tr (r_aload_n d_65_46 rfl) ?_
    refine zl_tr (r_getR d_65_47 ow_65 f_2_18 (zf_o ht) (by decide) (zf_r7 ht)) ?_
    refine zl_tr (r_iload_n d_65_50 rfl) ?_
    refine zl_tr (r_iaload d_65_51 (zf_a3 ht)) (zl_ck ?_)
    refine zl_tr (r_ineg d_65_52) (zl_ck ?_)
    exact r_iret d_65_53 rt_65
  refine zl_tr (r_tsw (tgt := 54) d_65_6 (by rw [if_pos (by omega)]; decide) (by decide)) ?_
  refine zl_tr (r_iconst d_65_54 (by decide)) ?_
  exact r_iret d_65_55 rt_65
-- BranTub$History.clear
set_option maxRecDepth 20000 in
theorem e_67 {h : zm_H}  : zl (some (zm_U, (zm_wr (zm_wr (zm_wr h 44 3 0) 44 4 0) 44 5 0))) (zc 67 [zm_A 44] h) := by
  rw [zc_eq (loc := [zm_A 44]) (rk_67 _) rfl]
  refine zl_tr (r_aload_n d_67_0 rfl) ?_
  refine zl_tr (r_iconst d_67_1 (by decide)) ?_
  refine zl_tr (r_putI (kk := 3) d_67_2 ow_67 f_3_25 la_44 (by decide) rfl) ?_
  refine zl_tr (r_aload_n d_67_5 rfl) ?_
  refine zl_tr (r_iconst d_67_6 (by decide)) ?_
  refine zl_tr (r_putI (kk := 4) d_67_7 ow_67 f_3_29 la_44 (by decide) rfl) ?_
  refine zl_tr (r_aload_n d_67_10 rfl) ?_
  refine zl_tr (r_iconst d_67_11 (by decide)) ?_
  refine zl_tr (r_putI (kk := 5) d_67_12 ow_67 f_3_32 la_44 (by decide) rfl) ?_
  exact r_vret d_67_15 rt_67
-- BranTub$History.told
set_option maxRecDepth 20000 in
theorem e_68 {h : zm_H}  : zl (some (zm_I (min 60 (h 44 4)), h)) (zc 68 [zm_A 44] h) := by
  rw [zc_eq (loc := [zm_A 44]) (rk_68 _) rfl]
  refine zl_tr (r_bipush d_68_0 (by decide)) ?_
  refine zl_tr (r_aload_n d_68_2 rfl) ?_
  refine zl_tr (r_getI (kk := 4) d_68_3 ow_68 f_3_29 la_44 (by decide) rfl) ?_
  refine zl_tr (r_mmin d_68_6 ow_68 cal_3_39 (Nat.le_of_ble_eq_true rfl) (by decide)) ?_
  exact r_iret d_68_9 rt_68
-- BranTub$History.remember
set_option maxRecDepth 20000 in
theorem e_69 {h : zm_H} {b : Nat} (hb : zf_T b) {o : Nat} (ho : zf_T o) : zl (zm_ck ((0 ≤ (h 44 3) ∧ (h 44 3) < ((20 : Nat) : Int)) ∧ zm_fr 45 (h 44 3).toNat = b) (zk_V (zc 152 [zm_A b, zm_A o] h) (fun h1 => zm_ck (0 ≤ (h1 44 3) ∧ (h1 44 3) < ((20 : Nat) : Int)) (zm_ck (zm_i32 (((zm_wr h1 46 (h1 44 3) (h1 44 4)) 44 3) + 1)) (zm_ck ((20 : Int) ≠ 0 ∧ zm_i32 ((((zm_wr h1 46 (h1 44 3) (h1 44 4)) 44 3) + 1).tdiv 20) ∧ zm_i32 ((((zm_wr h1 46 (h1 44 3) (h1 44 4)) 44 3) + 1).tmod 20)) (if ((zm_wr (zm_wr h1 46 (h1 44 3) (h1 44 4)) 44 3 ((((zm_wr h1 46 (h1 44 3) (h1 44 4)) 44 3) + 1).tmod 20)) 44 5) < 20 then (zm_ck (zm_i32 (((zm_wr (zm_wr h1 46 (h1 44 3) (h1 44 4)) 44 3 ((((zm_wr h1 46 (h1 44 3) (h1 44 4)) 44 3) + 1).tmod 20)) 44 5) + 1)) (some (zm_U, (zm_wr (zm_wr (zm_wr h1 46 (h1 44 3) (h1 44 4)) 44 3 ((((zm_wr h1 46 (h1 44 3) (h1 44 4)) 44 3) + 1).tmod 20)) 44 5 (((zm_wr (zm_wr h1 46 (h1 44 3) (h1 44 4)) 44 3 ((((zm_wr h1 46 (h1 44 3) (h1 44 4)) 44 3) + 1).tmod 20)) 44 5) + 1))))) else (some (zm_U, (zm_wr (zm_wr h1 46 (h1 44 3) (h1 44 4)) 44 3 ((((zm_wr h1 46 (h1 44 3) (h1 44 4)) 44 3) + 1).tmod 20)))))))))) (zc 69 [zm_A 44, zm_A o] h) := by
  rw [zc_eq (loc := [zm_A 44, zm_A o]) (rk_69 _) rfl]
  refine zl_tr (r_aload_n d_69_0 rfl) ?_
  refine zl_tr (r_getR d_69_1 ow_69 f_3_11 la_44 (by decide) fr_44_0) ?_
  refine zl_tr (r_aload_n d_69_4 rfl) ?_
  refine zl_tr (r_getI (kk := 3) d_69_5 ow_69 f_3_25 la_44 (by decide) rfl) ?_
  refine zl_tr (r_aaload (b := b) d_69_8 la_45) (zl_ck ?_)
  refine zl_tr (r_aload_n d_69_9 rfl) ?_
  refine zl_tr (r_VV [zm_A b, zm_A o] d_69_10 ow_69 cal_3_35 na_152 rfl rfl (Nat.le_of_ble_eq_true rfl) (by rw [rk_152]; decide) (zr_rcv (zt_o hb) ow_152) (zr_im mx_152 rfl (Nat.le_of_ble_eq_true rfl)) rt_152) (zl_V (fun h1 => ?_))
  refine zl_tr (r_aload_n d_69_13 rfl) ?_
  refine zl_tr (r_getR d_69_14 ow_69 f_3_17 la_44 (by decide) fr_44_1) ?_
  refine zl_tr (r_aload_n d_69_17 rfl) ?_
  refine zl_tr (r_getI (kk := 3) d_69_18 ow_69 f_3_25 la_44 (by decide) rfl) ?_
  refine zl_tr (r_aload_n d_69_21 rfl) ?_
  refine zl_tr (r_getI (kk := 4) d_69_22 ow_69 f_3_29 la_44 (by decide) rfl) ?_
  refine zl_tr (r_iastore d_69_25 la_46) (zl_ck ?_)
  refine zl_tr (r_aload_n d_69_26 rfl) ?_
  refine zl_tr (r_aload_n d_69_27 rfl) ?_
  refine zl_tr (r_getI (kk := 3) d_69_28 ow_69 f_3_25 la_44 (by decide) rfl) ?_
  refine zl_tr (r_iconst d_69_31 (by decide)) ?_
  refine zl_tr (r_iadd d_69_32) (zl_ck ?_)
  refine zl_tr (r_bipush d_69_33 (by decide)) ?_
  refine zl_tr (r_irem d_69_35) (zl_ck ?_)
  refine zl_tr (r_putI (kk := 3) d_69_36 ow_69 f_3_25 la_44 (by decide) rfl) ?_
  refine zl_tr (r_aload_n d_69_39 rfl) ?_
  refine zl_tr (r_getI (kk := 5) d_69_40 ow_69 f_3_32 la_44 (by decide) rfl) ?_
  refine zl_tr (r_bipush d_69_43 (by decide)) ?_
  refine zl_tr (r_icmp_ge (tgt := 58) d_69_45 (by decide)) (zl_if ?_ ?_)
  · skip
    refine zl_tr (r_aload_n d_69_48 rfl) ?_
    refine zl_tr (r_dup d_69_49 rfl) ?_
    refine zl_tr (r_getI (kk := 5) d_69_50 ow_69 f_3_32 la_44 (by decide) rfl) ?_
    refine zl_tr (r_iconst d_69_53 (by decide)) ?_
    refine zl_tr (r_iadd d_69_54) (zl_ck ?_)
    refine zl_tr (r_putI (kk := 5) d_69_55 ow_69 f_3_32 la_44 (by decide) rfl) ?_
    exact r_vret d_69_58 rt_69
  · skip
    exact r_vret d_69_58 rt_69
-- BranTub$History.log
set_option maxRecDepth 20000 in
theorem e_70 {h : zm_H} {x1 : Int} {x2 : Int} {x3 : Int} {x4 : Int} : zl (zm_ck ((3260 : Int) ≠ 0 ∧ zm_i32 ((h 44 4).tdiv 3260) ∧ zm_i32 ((h 44 4).tmod 3260)) (zm_ck (zm_i32 (x1 * 8)) (zm_ck (zm_i32 ((x1 * 8) + x2)) (zm_ck (zm_i32 (((x1 * 8) + x2) * 100)) (zm_ck (zm_i32 ((((x1 * 8) + x2) * 100) + x3)) (zm_ck (zm_i32 (((((x1 * 8) + x2) * 100) + x3) * 100)) (zm_ck (zm_i32 ((((((x1 * 8) + x2) * 100) + x3) * 100) + x4)) (zm_ck (0 ≤ ((h 44 4).tmod 3260) ∧ ((h 44 4).tmod 3260) < ((3260 : Nat) : Int)) (zm_ck (zm_i32 (((zm_wr h 47 ((h 44 4).tmod 3260) ((((((x1 * 8) + x2) * 100) + x3) * 100) + x4)) 44 4) + 1)) (some (zm_U, (zm_wr (zm_wr h 47 ((h 44 4).tmod 3260) ((((((x1 * 8) + x2) * 100) + x3) * 100) + x4)) 44 4 (((zm_wr h 47 ((h 44 4).tmod 3260) ((((((x1 * 8) + x2) * 100) + x3) * 100) + x4)) 44 4) + 1))))))))))))) (zc 70 [zm_A 44, zm_I x1, zm_I x2, zm_I x3, zm_I x4] h) := by
  rw [zc_eq (loc := [zm_A 44, zm_I x1, zm_I x2, zm_I x3, zm_I x4]) (rk_70 _) rfl]
  refine zl_tr (r_aload_n d_70_0 rfl) ?_
  refine zl_tr (r_getR d_70_1 ow_70 f_3_21 la_44 (by decide) fr_44_2) ?_
  refine zl_tr (r_aload_n d_70_4 rfl) ?_
  refine zl_tr (r_getI (kk := 4) d_70_5 ow_70 f_3_29 la_44 (by decide) rfl) ?_
  refine zl_tr (r_sipush d_70_8 (by decide)) ?_
  refine zl_tr (r_irem d_70_11) (zl_ck ?_)
  refine zl_tr (r_iload_n d_70_12 rfl) ?_
  refine zl_tr (r_bipush d_70_13 (by decide)) ?_
  refine zl_tr (r_imul d_70_15) (zl_ck ?_)
  refine zl_tr (r_iload_n d_70_16 rfl) ?_
  refine zl_tr (r_iadd d_70_17) (zl_ck ?_)
  refine zl_tr (r_bipush d_70_18 (by decide)) ?_
  refine zl_tr (r_imul d_70_20) (zl_ck ?_)
  refine zl_tr (r_iload_n d_70_21 rfl) ?_
  refine zl_tr (r_iadd d_70_22) (zl_ck ?_)
  refine zl_tr (r_bipush d_70_23 (by decide)) ?_
  refine zl_tr (r_imul d_70_25) (zl_ck ?_)
  refine zl_tr (r_iload d_70_26 rfl) ?_
  refine zl_tr (r_iadd d_70_28) (zl_ck ?_)
  refine zl_tr (r_iastore d_70_29 la_47) (zl_ck ?_)
  refine zl_tr (r_aload_n d_70_30 rfl) ?_
  refine zl_tr (r_dup d_70_31 rfl) ?_
  refine zl_tr (r_getI (kk := 4) d_70_32 ow_70 f_3_29 la_44 (by decide) rfl) ?_
  refine zl_tr (r_iconst d_70_35 (by decide)) ?_
  refine zl_tr (r_iadd d_70_36) (zl_ck ?_)
  refine zl_tr (r_putI (kk := 4) d_70_37 ow_70 f_3_29 la_44 (by decide) rfl) ?_
  exact r_vret d_70_40 rt_70
-- BranTub$History.restore
set_option maxRecDepth 20000 in
theorem e_71 {h : zm_H} {b : Nat} (hb : zf_T b) {o : Nat} (ho : zf_T o) : zl (zm_ck (zm_i32 ((h 44 3) + 20)) (zm_ck (zm_i32 (((h 44 3) + 20) - 1)) (zm_ck ((20 : Int) ≠ 0 ∧ zm_i32 ((((h 44 3) + 20) - 1).tdiv 20) ∧ zm_i32 ((((h 44 3) + 20) - 1).tmod 20)) (zm_ck (zm_i32 (((zm_wr h 44 3 ((((h 44 3) + 20) - 1).tmod 20)) 44 5) - 1)) (zm_ck ((0 ≤ ((zm_wr (zm_wr h 44 3 ((((h 44 3) + 20) - 1).tmod 20)) 44 5 (((zm_wr h 44 3 ((((h 44 3) + 20) - 1).tmod 20)) 44 5) - 1)) 44 3) ∧ ((zm_wr (zm_wr h 44 3 ((((h 44 3) + 20) - 1).tmod 20)) 44 5 (((zm_wr h 44 3 ((((h 44 3) + 20) - 1).tmod 20)) 44 5) - 1)) 44 3) < ((20 : Nat) : Int)) ∧ zm_fr 45 ((zm_wr (zm_wr h 44 3 ((((h 44 3) + 20) - 1).tmod 20)) 44 5 (((zm_wr h 44 3 ((((h 44 3) + 20) - 1).tmod 20)) 44 5) - 1)) 44 3).toNat = b) (zk_V (zc 152 [zm_A o, zm_A b] (zm_wr (zm_wr h 44 3 ((((h 44 3) + 20) - 1).tmod 20)) 44 5 (((zm_wr h 44 3 ((((h 44 3) + 20) - 1).tmod 20)) 44 5) - 1))) (fun h1 => zm_ck (0 ≤ (h1 44 3) ∧ (h1 44 3) < ((20 : Nat) : Int)) (some (zm_U, (zm_wr h1 44 4 (h1 46 (h1 44 3)))))))))))) (zc 71 [zm_A 44, zm_A o] h) := by
  rw [zc_eq (loc := [zm_A 44, zm_A o]) (rk_71 _) rfl]
  refine zl_tr (r_aload_n d_71_0 rfl) ?_
  refine zl_tr (r_aload_n d_71_1 rfl) ?_
  refine zl_tr (r_getI (kk := 3) d_71_2 ow_71 f_3_25 la_44 (by decide) rfl) ?_
  refine zl_tr (r_bipush d_71_5 (by decide)) ?_
  refine zl_tr (r_iadd d_71_7) (zl_ck ?_)
  refine zl_tr (r_iconst d_71_8 (by decide)) ?_
  refine zl_tr (r_isub d_71_9) (zl_ck ?_)
  refine zl_tr (r_bipush d_71_10 (by decide)) ?_
  refine zl_tr (r_irem d_71_12) (zl_ck ?_)
  refine zl_tr (r_putI (kk := 3) d_71_13 ow_71 f_3_25 la_44 (by decide) rfl) ?_
  refine zl_tr (r_aload_n d_71_16 rfl) ?_
  refine zl_tr (r_dup d_71_17 rfl) ?_
  refine zl_tr (r_getI (kk := 5) d_71_18 ow_71 f_3_32 la_44 (by decide) rfl) ?_
  refine zl_tr (r_iconst d_71_21 (by decide)) ?_
  refine zl_tr (r_isub d_71_22) (zl_ck ?_)
  refine zl_tr (r_putI (kk := 5) d_71_23 ow_71 f_3_32 la_44 (by decide) rfl) ?_
  refine zl_tr (r_aload_n d_71_26 rfl) ?_
  refine zl_tr (r_aload_n d_71_27 rfl) ?_
  refine zl_tr (r_getR d_71_28 ow_71 f_3_11 la_44 (by decide) fr_44_0) ?_
  refine zl_tr (r_aload_n d_71_31 rfl) ?_
  refine zl_tr (r_getI (kk := 3) d_71_32 ow_71 f_3_25 la_44 (by decide) rfl) ?_
  refine zl_tr (r_aaload (b := b) d_71_35 la_45) (zl_ck ?_)
  refine zl_tr (r_VV [zm_A o, zm_A b] d_71_36 ow_71 cal_3_35 na_152 rfl rfl (Nat.le_of_ble_eq_true rfl) (by rw [rk_152]; decide) (zr_rcv (zt_o ho) ow_152) (zr_im mx_152 rfl (Nat.le_of_ble_eq_true rfl)) rt_152) (zl_V (fun h1 => ?_))
  refine zl_tr (r_aload_n d_71_39 rfl) ?_
  refine zl_tr (r_aload_n d_71_40 rfl) ?_
  refine zl_tr (r_getR d_71_41 ow_71 f_3_17 la_44 (by decide) fr_44_1) ?_
  refine zl_tr (r_aload_n d_71_44 rfl) ?_
  refine zl_tr (r_getI (kk := 3) d_71_45 ow_71 f_3_25 la_44 (by decide) rfl) ?_
  refine zl_tr (r_iaload d_71_48 la_46) (zl_ck ?_)
  refine zl_tr (r_putI (kk := 4) d_71_49 ow_71 f_3_29 la_44 (by decide) rfl) ?_
  exact r_vret d_71_52 rt_71
-- BranTub$History.tell
set_option maxRecDepth 20000 in
theorem e_72 {h : zm_H} {x1 : Int} {x2 : Int} : zl (if x1 < 0 then (some (zm_I (-1), h)) else (zk_I (zc 68 [zm_A 44] h) (fun v1 h2 => if x1 < v1 then (zk_I (zc 68 [zm_A 44] h2) (fun v3 h4 => zm_ck (zm_i32 ((h2 44 4) - v3)) (zm_ck (zm_i32 (((h2 44 4) - v3) + x1)) (zm_ck ((3260 : Int) ≠ 0 ∧ zm_i32 ((((h2 44 4) - v3) + x1).tdiv 3260) ∧ zm_i32 ((((h2 44 4) - v3) + x1).tmod 3260)) (zm_ck (0 ≤ ((((h2 44 4) - v3) + x1).tmod 3260) ∧ ((((h2 44 4) - v3) + x1).tmod 3260) < ((3260 : Nat) : Int)) (if x2 = 0 then (zm_ck ((10000 : Int) ≠ 0 ∧ zm_i32 ((h4 47 ((((h2 44 4) - v3) + x1).tmod 3260)).tdiv 10000)) (zm_ck ((8 : Int) ≠ 0 ∧ zm_i32 (((h4 47 ((((h2 44 4) - v3) + x1).tmod 3260)).tdiv 10000).tdiv 8)) (some (zm_I (((h4 47 ((((h2 44 4) - v3) + x1).tmod 3260)).tdiv 10000).tdiv 8), h4)))) else (if x2 = 1 then (zm_ck ((10000 : Int) ≠ 0 ∧ zm_i32 ((h4 47 ((((h2 44 4) - v3) + x1).tmod 3260)).tdiv 10000)) (zm_ck ((8 : Int) ≠ 0 ∧ zm_i32 (((h4 47 ((((h2 44 4) - v3) + x1).tmod 3260)).tdiv 10000).tdiv 8) ∧ zm_i32 (((h4 47 ((((h2 44 4) - v3) + x1).tmod 3260)).tdiv 10000).tmod 8)) (some (zm_I (((h4 47 ((((h2 44 4) - v3) + x1).tmod 3260)).tdiv 10000).tmod 8), h4)))) else (if x2 = 2 then (zm_ck ((100 : Int) ≠ 0 ∧ zm_i32 ((h4 47 ((((h2 44 4) - v3) + x1).tmod 3260)).tdiv 100)) (zm_ck ((100 : Int) ≠ 0 ∧ zm_i32 (((h4 47 ((((h2 44 4) - v3) + x1).tmod 3260)).tdiv 100).tdiv 100) ∧ zm_i32 (((h4 47 ((((h2 44 4) - v3) + x1).tmod 3260)).tdiv 100).tmod 100)) (some (zm_I (((h4 47 ((((h2 44 4) - v3) + x1).tmod 3260)).tdiv 100).tmod 100), h4)))) else (if x2 = 3 then (zm_ck ((100 : Int) ≠ 0 ∧ zm_i32 ((h4 47 ((((h2 44 4) - v3) + x1).tmod 3260)).tdiv 100) ∧ zm_i32 ((h4 47 ((((h2 44 4) - v3) + x1).tmod 3260)).tmod 100)) (some (zm_I ((h4 47 ((((h2 44 4) - v3) + x1).tmod 3260)).tmod 100), h4))) else (some (zm_I (-1), h4))))))))))) else (some (zm_I (-1), h2))))) (zc 72 [zm_A 44, zm_I x1, zm_I x2] h) := by
  rw [zc_eq (loc := [zm_A 44, zm_I x1, zm_I x2, zm_U]) (rk_72 _) rfl]
  refine zl_tr (r_iload_n d_72_0 rfl) ?_
  refine zl_tr (r_if_lt (tgt := 12) d_72_1 (by decide)) (zl_if ?_ ?_)
  · skip
    refine zl_tr (r_iconst d_72_12 (by decide)) ?_
    exact r_iret d_72_13 rt_72
  · skip
    refine zl_tr (r_iload_n d_72_4 rfl) ?_
    refine zl_tr (r_aload_n d_72_5 rfl) ?_
    refine zl_tr (r_VI [zm_A 44] d_72_6 ow_72 cal_3_45 na_68 rfl rfl (Nat.le_of_ble_eq_true rfl) (by rw [rk_68]; decide) (zr_rcv la_44 ow_68) (zr_im mx_68 rfl (Nat.le_of_ble_eq_true rfl)) (by rw [rt_68]; decide)) (zl_I (fun v1 h2 => ?_))
    refine zl_tr (r_icmp_lt (tgt := 14) d_72_9 (by decide)) (zl_if ?_ ?_)
    · skip
      refine zl_tr (r_aload_n d_72_14 rfl) ?_
      refine zl_tr (r_getR d_72_15 ow_72 f_3_21 la_44 (by decide) fr_44_2) ?_
      refine zl_tr (r_aload_n d_72_18 rfl) ?_
      refine zl_tr (r_getI (kk := 4) d_72_19 ow_72 f_3_29 la_44 (by decide) rfl) ?_
      refine zl_tr (r_aload_n d_72_22 rfl) ?_
      refine zl_tr (r_VI [zm_A 44] d_72_23 ow_72 cal_3_45 na_68 rfl rfl (Nat.le_of_ble_eq_true rfl) (by rw [rk_68]; decide) (zr_rcv la_44 ow_68) (zr_im mx_68 rfl (Nat.le_of_ble_eq_true rfl)) (by rw [rt_68]; decide)) (zl_I (fun v3 h4 => ?_))
      refine zl_tr (r_isub d_72_26) (zl_ck ?_)
      refine zl_tr (r_iload_n d_72_27 rfl) ?_
      refine zl_tr (r_iadd d_72_28) (zl_ck ?_)
      refine zl_tr (r_sipush d_72_29 (by decide)) ?_
      refine zl_tr (r_irem d_72_32) (zl_ck ?_)
      refine zl_tr (r_iaload d_72_33 la_47) (zl_ck ?_)
      refine zl_tr (r_istore_n (loc' := [zm_A 44, zm_I x1, zm_I x2, zm_I (h4 47 ((((h2 44 4) - v3) + x1).tmod 3260))]) d_72_34 (Nat.le_of_ble_eq_true rfl) rfl) ?_
      refine zl_tr (r_iload_n d_72_35 rfl) ?_
      refine zl_eq 0 (fun hx => ?_) (fun hx0 => ?_)
      · refine zl_tr (r_tsw (tgt := 68) d_72_36 (by rw [hx]; decide) (by decide)) ?_
        refine zl_tr (r_iload_n d_72_68 rfl) ?_
        refine zl_tr (r_sipush d_72_69 (by decide)) ?_
        refine zl_tr (r_idiv d_72_72) (zl_ck ?_)
        refine zl_tr (r_bipush d_72_73 (by decide)) ?_
        refine zl_tr (r_idiv d_72_75) (zl_ck ?_)
        exact r_iret d_72_76 rt_72
      refine zl_eq 1 (fun hx => ?_) (fun hx1 => ?_)
      · refine zl_tr (r_tsw (tgt := 77) d_72_36 (by rw [hx]; decide) (by decide)) ?_
        refine zl_tr (r_iload_n d_72_77 rfl) ?_
        refine zl_tr (r_sipush d_72_78 (by decide)) ?_
        refine zl_tr (r_idiv d_72_81) (zl_ck ?_)
        refine zl_tr (r_bipush d_72_82 (by decide)) ?_
        refine zl_tr (r_irem d_72_84) (zl_ck ?_)
        exact r_iret d_72_85 rt_72
      refine zl_eq 2 (fun hx => ?_) (fun hx2 => ?_)
      · refine zl_tr (r_tsw (tgt := 86) d_72_36 (by rw [hx]; decide) (by decide)) ?_
        refine zl_tr (r_iload_n d_72_86 rfl) ?_
        refine zl_tr (r_bipush d_72_87 (by decide)) ?_
        refine zl_tr (r_idiv d_72_89) (zl_ck ?_)
        refine zl_tr (r_bipush d_72_90 (by decide)) ?_
        refine zl_tr (r_irem d_72_92) (zl_ck ?_)
        exact r_iret d_72_93 rt_72
      refine zl_eq 3 (fun hx => ?_) (fun hx3 => ?_)
      · refine zl_tr (r_tsw (tgt := 94) d_72_36 (by rw [hx]; decide) (by decide)) ?_
        refine zl_tr (r_iload_n d_72_94 rfl) ?_
        refine zl_tr (r_bipush d_72_95 (by decide)) ?_
        refine zl_tr (r_irem d_72_97) (zl_ck ?_)
        exact r_iret d_72_98 rt_72
      refine zl_tr (r_tsw (tgt := 99) d_72_36 (by rw [if_pos (by omega)]; decide) (by decide)) ?_
      refine zl_tr (r_iconst d_72_99 (by decide)) ?_
      exact r_iret d_72_100 rt_72
    · skip
      refine zl_tr (r_iconst d_72_12 (by decide)) ?_
      exact r_iret d_72_13 rt_72
