/-! MIRRORS 5 (printed by wip/gen/gen_mirror.py) -/
-- BranTubModel.isChild
set_option maxRecDepth 20000 in
theorem e_223 {h : zm_H} {x1 : Int} : zl (if x1 < 0 then (zm_ck (zm_bit 0) (some (zm_I 0, h))) else (zm_ck (0 ≤ (h 146 13) ∧ (h 146 13) < ((2 : Nat) : Int)) (if x1 < (h 153 (h 146 13)) then (zm_ck (zm_bit 1) (some (zm_I 1, h))) else (zm_ck (zm_bit 0) (some (zm_I 0, h)))))) (zc 223 [zm_A 146, zm_I x1] h) := by
  rw [zc_eq (loc := [zm_A 146, zm_I x1]) (rk_223 _) rfl]
  refine zl_tr (r_iload_n d_223_0 rfl) ?_
  refine zl_tr (r_if_lt (tgt := 21) d_223_1 (by decide)) (zl_if ?_ ?_)
  · skip
    refine zl_tr (r_iconst d_223_21 (by decide)) ?_
    exact r_zret d_223_22 rt_223
  · skip
    refine zl_tr (r_iload_n d_223_4 rfl) ?_
    refine zl_tr (r_aload_n d_223_5 rfl) ?_
    refine zl_tr (r_getR d_223_6 ow_223 f_12_69 la_146 (by decide) fr_146_19) ?_
    refine zl_tr (r_aload_n d_223_9 rfl) ?_
    refine zl_tr (r_getI (kk := 13) d_223_10 ow_223 f_12_51 la_146 (by decide) rfl) ?_
    refine zl_tr (r_iaload d_223_13 la_153) (zl_ck ?_)
    refine zl_tr (r_icmp_ge (tgt := 21) d_223_14 (by decide)) (zl_if ?_ ?_)
    · skip
      refine zl_tr (r_iconst d_223_17 (by decide)) ?_
      refine zl_tr (r_goto (tgt := 22) d_223_18 (by decide)) ?_
      exact r_zret d_223_22 rt_223
    · skip
      refine zl_tr (r_iconst d_223_21 (by decide)) ?_
      exact r_zret d_223_22 rt_223
-- BranTubModel.likedBy
set_option maxRecDepth 20000 in
theorem e_224 {h : zm_H} {x1 : Int} {x2 : Int} : zl (zm_ck (zm_i32 (8 * (h 146 13))) (zm_ck (zm_i32 ((8 * (h 146 13)) + x1)) (zm_ck (zm_i32 (8 * ((8 * (h 146 13)) + x1))) (zm_ck (zm_i32 ((8 * ((8 * (h 146 13)) + x1)) + x2)) (zm_ck (0 ≤ ((8 * ((8 * (h 146 13)) + x1)) + x2) ∧ ((8 * ((8 * (h 146 13)) + x1)) + x2) < ((128 : Nat) : Int)) (some (zm_I (h 157 ((8 * ((8 * (h 146 13)) + x1)) + x2)), h))))))) (zc 224 [zm_A 146, zm_I x1, zm_I x2] h) := by
  rw [zc_eq (loc := [zm_A 146, zm_I x1, zm_I x2]) (rk_224 _) rfl]
  refine zl_tr (r_aload_n d_224_0 rfl) ?_
  refine zl_tr (r_getR d_224_1 ow_224 f_12_81 la_146 (by decide) fr_146_23) ?_
  refine zl_tr (r_bipush d_224_4 (by decide)) ?_
  refine zl_tr (r_bipush d_224_6 (by decide)) ?_
  refine zl_tr (r_aload_n d_224_8 rfl) ?_
  refine zl_tr (r_getI (kk := 13) d_224_9 ow_224 f_12_51 la_146 (by decide) rfl) ?_
  refine zl_tr (r_imul d_224_12) (zl_ck ?_)
  refine zl_tr (r_iload_n d_224_13 rfl) ?_
  refine zl_tr (r_iadd d_224_14) (zl_ck ?_)
  refine zl_tr (r_imul d_224_15) (zl_ck ?_)
  refine zl_tr (r_iload_n d_224_16 rfl) ?_
  refine zl_tr (r_iadd d_224_17) (zl_ck ?_)
  refine zl_tr (r_iaload d_224_18 la_157) (zl_ck ?_)
  exact r_iret d_224_19 rt_224
-- BranTubModel.liesAsTold
set_option maxRecDepth 20000 in
theorem e_225 {h : zm_H}  : zl (zr none 1 225 2 [zm_A 146, zm_I 0] [] h) (zc 225 [zm_A 146] h) := by
  rw [zc_eq (loc := [zm_A 146, zm_U]) (rk_225 _) rfl]
  refine zl_tr (r_iconst d_225_0 (by decide)) ?_
  refine zl_tr (r_istore_n (loc' := [zm_A 146, zm_I 0]) d_225_1 (Nat.le_of_ble_eq_true rfl) rfl) ?_
  exact zl_rf
-- BranTubModel.liesAsTold, from 2
set_option maxRecDepth 20000 in
theorem e_225_2 {h : zm_H} {x1 : Int} : zl (if x1 < 5 then (zm_ck (0 ≤ x1 ∧ x1 < ((5 : Nat) : Int)) (zm_ck (zm_i32 (x1 + 1)) (zr none 1 225 2 [zm_A 146, zm_I (x1 + 1)] [] (zm_wr h 185 x1 x1)))) else (some (zm_U, h))) (zr none 1 225 2 [zm_A 146, zm_I x1] [] h) := by
  refine zl_tr (r_iload_n d_225_2 rfl) ?_
  refine zl_tr (r_iconst d_225_3 (by decide)) ?_
  refine zl_tr (r_icmp_ge (tgt := 20) d_225_4 (by decide)) (zl_if ?_ ?_)
  · skip
    refine zl_tr (r_aload_n d_225_7 rfl) ?_
    refine zl_tr (r_getR d_225_8 ow_225 f_12_213 la_146 (by decide) fr_146_66) ?_
    refine zl_tr (r_iload_n d_225_11 rfl) ?_
    refine zl_tr (r_iload_n d_225_12 rfl) ?_
    refine zl_tr (r_iastore d_225_13 la_185) (zl_ck ?_)
    refine zl_tr (r_iinc (loc' := [zm_A 146, zm_I (x1 + 1)]) d_225_14 rfl (Nat.le_of_ble_eq_true rfl) rfl) (zl_ck ?_)
    refine zl_tr (r_goto (tgt := 2) d_225_17 (by decide)) ?_
    exact zl_rf
  · skip
    exact r_vret d_225_20 rt_225
-- BranTubModel.finds
set_option maxRecDepth 20000 in
theorem e_226 {h : zm_H} {x1 : Int} {x2 : Int} : zl (zr none 5 226 7 [zm_A 146, zm_I x1, zm_I x2, zm_I 0, zm_U] [] (zm_wr h 146 68 0)) (zc 226 [zm_A 146, zm_I x1, zm_I x2] h) := by
  rw [zc_eq (loc := [zm_A 146, zm_I x1, zm_I x2, zm_U, zm_U]) (rk_226 _) rfl]
  refine zl_tr (r_aload_n d_226_0 rfl) ?_
  refine zl_tr (r_iconst d_226_1 (by decide)) ?_
  refine zl_tr (r_putI (kk := 68) d_226_2 ow_226 f_12_219 la_146 (by decide) rfl) ?_
  refine zl_tr (r_iconst d_226_5 (by decide)) ?_
  refine zl_tr (r_istore_n (loc' := [zm_A 146, zm_I x1, zm_I x2, zm_I 0, zm_U]) d_226_6 (Nat.le_of_ble_eq_true rfl) rfl) ?_
  exact zl_rf
-- BranTubModel.finds, from 7
set_option maxRecDepth 20000 in
theorem e_226_7 {h : zm_H} {x1 : Int} {x2 : Int} {x3 : Int} {w4 : zm_V} : zl (if x3 < 8 then (zm_ck (0 ≤ x3 ∧ x3 < ((8 : Nat) : Int)) (zm_ck (zm_i32 (x3 + 1)) (zr none 5 226 7 [zm_A 146, zm_I x1, zm_I x2, zm_I (x3 + 1), w4] [] (zm_wr h 186 x3 0)))) else (zk_I (zc 227 [zm_A 146, zm_I x1] h) (fun v1 h2 => zr none 5 226 32 [zm_A 146, zm_I x1, zm_I x2, zm_I v1, w4] [] h2))) (zr none 5 226 7 [zm_A 146, zm_I x1, zm_I x2, zm_I x3, w4] [] h) := by
  refine zl_tr (r_iload_n d_226_7 rfl) ?_
  refine zl_tr (r_bipush d_226_8 (by decide)) ?_
  refine zl_tr (r_icmp_ge (tgt := 26) d_226_10 (by decide)) (zl_if ?_ ?_)
  · skip
    refine zl_tr (r_aload_n d_226_13 rfl) ?_
    refine zl_tr (r_getR d_226_14 ow_226 f_12_216 la_146 (by decide) fr_146_67) ?_
    refine zl_tr (r_iload_n d_226_17 rfl) ?_
    refine zl_tr (r_iconst d_226_18 (by decide)) ?_
    refine zl_tr (r_iastore d_226_19 la_186) (zl_ck ?_)
    refine zl_tr (r_iinc (loc' := [zm_A 146, zm_I x1, zm_I x2, zm_I (x3 + 1), w4]) d_226_20 rfl (Nat.le_of_ble_eq_true rfl) rfl) (zl_ck ?_)
    refine zl_tr (r_goto (tgt := 7) d_226_23 (by decide)) ?_
    exact zl_rf
  · skip
    refine zl_tr (r_aload_n d_226_26 rfl) ?_
    refine zl_tr (r_iload_n d_226_27 rfl) ?_
    refine zl_tr (r_VI [zm_A 146, zm_I x1] d_226_28 ow_226 cal_12_467 na_227 rfl rfl (Nat.le_of_ble_eq_true rfl) (by rw [rk_227]; decide) (zr_rcv la_146 ow_227) (zr_im mx_227 rfl (Nat.le_of_ble_eq_true rfl)) (by rw [rt_227]; decide)) (zl_I (fun v1 h2 => ?_))
    refine zl_tr (r_istore_n (loc' := [zm_A 146, zm_I x1, zm_I x2, zm_I v1, w4]) d_226_31 (Nat.le_of_ble_eq_true rfl) rfl) ?_
    exact zl_rf
-- BranTubModel.finds, from 32
set_option maxRecDepth 20000 in
theorem e_226_32 {h : zm_H} {x1 : Int} {x2 : Int} {x3 : Int} {w4 : zm_V} : zl (zk_I (zc 228 [zm_A 146, zm_I x1, zm_I x2] h) (fun v1 h2 => if x3 < v1 then (zr none 5 226 45 [zm_A 146, zm_I x1, zm_I x2, zm_I x3, zm_I 0] [] h2) else (some (zm_U, h2)))) (zr none 5 226 32 [zm_A 146, zm_I x1, zm_I x2, zm_I x3, w4] [] h) := by
  refine zl_tr (r_iload_n d_226_32 rfl) ?_
  refine zl_tr (r_aload_n d_226_33 rfl) ?_
  refine zl_tr (r_iload_n d_226_34 rfl) ?_
  refine zl_tr (r_iload_n d_226_35 rfl) ?_
  refine zl_tr (r_VI [zm_A 146, zm_I x1, zm_I x2] d_226_36 ow_226 cal_12_470 na_228 rfl rfl (Nat.le_of_ble_eq_true rfl) (by rw [rk_228]; decide) (zr_rcv la_146 ow_228) (zr_im mx_228 rfl (Nat.le_of_ble_eq_true rfl)) (by rw [rt_228]; decide)) (zl_I (fun v1 h2 => ?_))
  refine zl_tr (r_icmp_ge (tgt := 116) d_226_39 (by decide)) (zl_if ?_ ?_)
  · skip
    refine zl_tr (r_iconst d_226_42 (by decide)) ?_
    refine zl_tr (r_istore (loc' := [zm_A 146, zm_I x1, zm_I x2, zm_I x3, zm_I 0]) d_226_43 (Nat.le_of_ble_eq_true rfl) rfl) ?_
    exact zl_rf
  · skip
    exact r_vret d_226_116 rt_226
-- BranTubModel.finds, from 45
set_option maxRecDepth 20000 in
theorem e_226_45 {h : zm_H} {x1 : Int} {x2 : Int} {x3 : Int} {x4 : Int} : zl (zm_ck (0 ≤ (h 146 13) ∧ (h 146 13) < ((2 : Nat) : Int)) (if x4 < (h 148 (h 146 13)) then (zm_ck (0 ≤ x4 ∧ x4 < ((8 : Nat) : Int)) (zm_ck (0 ≤ x3 ∧ x3 < ((5 : Nat) : Int)) (zk_I (zc 206 [zm_A 146, zm_I x1, zm_I (h 185 x3), zm_I x4] h) (fun v1 h2 => zm_ck (zm_i32 ((h 186 x4) + v1)) (zm_ck (0 ≤ x4 ∧ x4 < ((8 : Nat) : Int)) (zm_ck (0 ≤ x3 ∧ x3 < ((5 : Nat) : Int)) (zk_I (zc 206 [zm_A 146, zm_I x1, zm_I ((zm_wr h2 186 x4 ((h 186 x4) + v1)) 185 x3), zm_I x4] (zm_wr h2 186 x4 ((h 186 x4) + v1))) (fun v3 h4 => zm_ck (zm_i32 (((zm_wr h2 186 x4 ((h 186 x4) + v1)) 146 68) + v3)) (zm_ck (zm_i32 (x4 + 1)) (zr none 5 226 45 [zm_A 146, zm_I x1, zm_I x2, zm_I x3, zm_I (x4 + 1)] [] (zm_wr h4 146 68 (((zm_wr h2 186 x4 ((h 186 x4) + v1)) 146 68) + v3)))))))))))) else (zm_ck (zm_i32 (x3 + 1)) (zr none 5 226 32 [zm_A 146, zm_I x1, zm_I x2, zm_I (x3 + 1), zm_I x4] [] h)))) (zr none 5 226 45 [zm_A 146, zm_I x1, zm_I x2, zm_I x3, zm_I x4] [] h) := by
  refine zl_tr (r_iload d_226_45 rfl) ?_
  refine zl_tr (r_aload_n d_226_47 rfl) ?_
  refine zl_tr (r_getR d_226_48 ow_226 f_12_54 la_146 (by decide) fr_146_14) ?_
  refine zl_tr (r_aload_n d_226_51 rfl) ?_
  refine zl_tr (r_getI (kk := 13) d_226_52 ow_226 f_12_51 la_146 (by decide) rfl) ?_
  refine zl_tr (r_iaload d_226_55 la_148) (zl_ck ?_)
  refine zl_tr (r_icmp_ge (tgt := 110) d_226_56 (by decide)) (zl_if ?_ ?_)
  · skip
    refine zl_tr (r_aload_n d_226_59 rfl) ?_
    refine zl_tr (r_getR d_226_60 ow_226 f_12_216 la_146 (by decide) fr_146_67) ?_
    refine zl_tr (r_iload d_226_63 rfl) ?_
    refine zl_tr (r_dup2 d_226_65 ⟨rfl, rfl⟩) ?_
    refine zl_tr (r_iaload d_226_66 la_186) (zl_ck ?_)
    refine zl_tr (r_aload_n d_226_67 rfl) ?_
    refine zl_tr (r_iload_n d_226_68 rfl) ?_
    refine zl_tr (r_aload_n d_226_69 rfl) ?_
    refine zl_tr (r_getR d_226_70 ow_226 f_12_213 la_146 (by decide) fr_146_66) ?_
    refine zl_tr (r_iload_n d_226_73 rfl) ?_
    refine zl_tr (r_iaload d_226_74 la_185) (zl_ck ?_)
    refine zl_tr (r_iload d_226_75 rfl) ?_
    refine zl_tr (r_VI [zm_A 146, zm_I x1, zm_I (h 185 x3), zm_I x4] d_226_77 ow_226 cal_12_460 na_206 rfl rfl (Nat.le_of_ble_eq_true rfl) (by rw [rk_206]; decide) (zr_rcv la_146 ow_206) (zr_im mx_206 rfl (Nat.le_of_ble_eq_true rfl)) (by rw [rt_206]; decide)) (zl_I (fun v1 h2 => ?_))
    refine zl_tr (r_iadd d_226_80) (zl_ck ?_)
    refine zl_tr (r_iastore d_226_81 la_186) (zl_ck ?_)
    refine zl_tr (r_aload_n d_226_82 rfl) ?_
    refine zl_tr (r_dup d_226_83 rfl) ?_
    refine zl_tr (r_getI (kk := 68) d_226_84 ow_226 f_12_219 la_146 (by decide) rfl) ?_
    refine zl_tr (r_aload_n d_226_87 rfl) ?_
    refine zl_tr (r_iload_n d_226_88 rfl) ?_
    refine zl_tr (r_aload_n d_226_89 rfl) ?_
    refine zl_tr (r_getR d_226_90 ow_226 f_12_213 la_146 (by decide) fr_146_66) ?_
    refine zl_tr (r_iload_n d_226_93 rfl) ?_
    refine zl_tr (r_iaload d_226_94 la_185) (zl_ck ?_)
    refine zl_tr (r_iload d_226_95 rfl) ?_
    refine zl_tr (r_VI [zm_A 146, zm_I x1, zm_I ((zm_wr h2 186 x4 ((h 186 x4) + v1)) 185 x3), zm_I x4] d_226_97 ow_226 cal_12_460 na_206 rfl rfl (Nat.le_of_ble_eq_true rfl) (by rw [rk_206]; decide) (zr_rcv la_146 ow_206) (zr_im mx_206 rfl (Nat.le_of_ble_eq_true rfl)) (by rw [rt_206]; decide)) (zl_I (fun v3 h4 => ?_))
    refine zl_tr (r_iadd d_226_100) (zl_ck ?_)
    refine zl_tr (r_putI (kk := 68) d_226_101 ow_226 f_12_219 la_146 (by decide) rfl) ?_
    refine zl_tr (r_iinc (loc' := [zm_A 146, zm_I x1, zm_I x2, zm_I x3, zm_I (x4 + 1)]) d_226_104 rfl (Nat.le_of_ble_eq_true rfl) rfl) (zl_ck ?_)
    refine zl_tr (r_goto (tgt := 45) d_226_107 (by decide)) ?_
    exact zl_rf
  · skip
    refine zl_tr (r_iinc (loc' := [zm_A 146, zm_I x1, zm_I x2, zm_I (x3 + 1), zm_I x4]) d_226_110 rfl (Nat.le_of_ble_eq_true rfl) rfl) (zl_ck ?_)
    refine zl_tr (r_goto (tgt := 32) d_226_113 (by decide)) ?_
    exact zl_rf
-- BranTubModel.upper
set_option maxRecDepth 20000 in
theorem e_227 {h : zm_H} {x1 : Int} : zl (zr none 3 227 2 [zm_A 146, zm_I x1, zm_I 0] [] h) (zc 227 [zm_A 146, zm_I x1] h) := by
  rw [zc_eq (loc := [zm_A 146, zm_I x1, zm_U]) (rk_227 _) rfl]
  refine zl_tr (r_iconst d_227_0 (by decide)) ?_
  refine zl_tr (r_istore_n (loc' := [zm_A 146, zm_I x1, zm_I 0]) d_227_1 (Nat.le_of_ble_eq_true rfl) rfl) ?_
  exact zl_rf
-- BranTubModel.upper, from 2
set_option maxRecDepth 20000 in
theorem e_227_2 {h : zm_H} {x1 : Int} {x2 : Int} : zl (zm_ck (0 ≤ (h 146 13) ∧ (h 146 13) < ((2 : Nat) : Int)) (if x2 < (h 151 (h 146 13)) then (zm_ck (0 ≤ x2 ∧ x2 < ((5 : Nat) : Int)) (zk_I (zc 205 [zm_A 146, zm_I x1, zm_I (h 185 x2)] h) (fun v1 h2 => if v1 = 0 then (zm_ck (zm_i32 (x2 + 1)) (zr none 3 227 2 [zm_A 146, zm_I x1, zm_I (x2 + 1)] [] h2)) else (some (zm_I x2, h2))))) else (some (zm_I x2, h)))) (zr none 3 227 2 [zm_A 146, zm_I x1, zm_I x2] [] h) := by
  refine zl_tr (r_iload_n d_227_2 rfl) ?_
  refine zl_tr (r_aload_n d_227_3 rfl) ?_
  refine zl_tr (r_getR d_227_4 ow_227 f_12_63 la_146 (by decide) fr_146_17) ?_
  refine zl_tr (r_aload_n d_227_7 rfl) ?_
  refine zl_tr (r_getI (kk := 13) d_227_8 ow_227 f_12_51 la_146 (by decide) rfl) ?_
  refine zl_tr (r_iaload d_227_11 la_151) (zl_ck ?_)
  refine zl_tr (r_icmp_ge (tgt := 35) d_227_12 (by decide)) (zl_if ?_ ?_)
  · skip
    refine zl_tr (r_aload_n d_227_15 rfl) ?_
    refine zl_tr (r_iload_n d_227_16 rfl) ?_
    refine zl_tr (r_aload_n d_227_17 rfl) ?_
    refine zl_tr (r_getR d_227_18 ow_227 f_12_213 la_146 (by decide) fr_146_66) ?_
    refine zl_tr (r_iload_n d_227_21 rfl) ?_
    refine zl_tr (r_iaload d_227_22 la_185) (zl_ck ?_)
    refine zl_tr (r_VI [zm_A 146, zm_I x1, zm_I (h 185 x2)] d_227_23 ow_227 cal_12_464 na_205 rfl rfl (Nat.le_of_ble_eq_true rfl) (by rw [rk_205]; decide) (zr_rcv la_146 ow_205) (zr_im mx_205 rfl (Nat.le_of_ble_eq_true rfl)) (by rw [rt_205]; decide)) (zl_I (fun v1 h2 => ?_))
    refine zl_tr (r_if_ne (tgt := 35) d_227_26 (by decide)) (zl_if ?_ ?_)
    · skip
      refine zl_tr (r_iinc (loc' := [zm_A 146, zm_I x1, zm_I (x2 + 1)]) d_227_29 rfl (Nat.le_of_ble_eq_true rfl) rfl) (zl_ck ?_)
      refine zl_tr (r_goto (tgt := 2) d_227_32 (by decide)) ?_
      exact zl_rf
    · skip
      refine zl_tr (r_iload_n d_227_35 rfl) ?_
      exact r_iret d_227_36 rt_227
  · skip
    refine zl_tr (r_iload_n d_227_35 rfl) ?_
    exact r_iret d_227_36 rt_227
-- BranTubModel.deepest
set_option maxRecDepth 20000 in
theorem e_228 {h : zm_H} {x1 : Int} {x2 : Int} : zl (zk_I (zc 227 [zm_A 146, zm_I x1] h) (fun v1 h2 => zm_ck (zm_i32 (8 * (h2 146 13))) (zm_ck (zm_i32 ((8 * (h2 146 13)) + x2)) (zm_ck (0 ≤ ((8 * (h2 146 13)) + x2) ∧ ((8 * (h2 146 13)) + x2) < ((16 : Nat) : Int)) (zm_ck (zm_i32 (v1 + (h2 154 ((8 * (h2 146 13)) + x2)))) (zm_ck (0 ≤ (h2 146 13) ∧ (h2 146 13) < ((2 : Nat) : Int)) (if (v1 + (h2 154 ((8 * (h2 146 13)) + x2))) ≤ (h2 151 (h2 146 13)) then (some (zm_I (v1 + (h2 154 ((8 * (h2 146 13)) + x2))), h2)) else (zm_ck (0 ≤ (h2 146 13) ∧ (h2 146 13) < ((2 : Nat) : Int)) (some (zm_I (h2 151 (h2 146 13)), h2)))))))))) (zc 228 [zm_A 146, zm_I x1, zm_I x2] h) := by
  rw [zc_eq (loc := [zm_A 146, zm_I x1, zm_I x2, zm_U]) (rk_228 _) rfl]
  refine zl_tr (r_aload_n d_228_0 rfl) ?_
  refine zl_tr (r_iload_n d_228_1 rfl) ?_
  refine zl_tr (r_VI [zm_A 146, zm_I x1] d_228_2 ow_228 cal_12_467 na_227 rfl rfl (Nat.le_of_ble_eq_true rfl) (by rw [rk_227]; decide) (zr_rcv la_146 ow_227) (zr_im mx_227 rfl (Nat.le_of_ble_eq_true rfl)) (by rw [rt_227]; decide)) (zl_I (fun v1 h2 => ?_))
  refine zl_tr (r_aload_n d_228_5 rfl) ?_
  refine zl_tr (r_getR d_228_6 ow_228 f_12_72 la_146 (by decide) fr_146_20) ?_
  refine zl_tr (r_bipush d_228_9 (by decide)) ?_
  refine zl_tr (r_aload_n d_228_11 rfl) ?_
  refine zl_tr (r_getI (kk := 13) d_228_12 ow_228 f_12_51 la_146 (by decide) rfl) ?_
  refine zl_tr (r_imul d_228_15) (zl_ck ?_)
  refine zl_tr (r_iload_n d_228_16 rfl) ?_
  refine zl_tr (r_iadd d_228_17) (zl_ck ?_)
  refine zl_tr (r_iaload d_228_18 la_154) (zl_ck ?_)
  refine zl_tr (r_iadd d_228_19) (zl_ck ?_)
  refine zl_tr (r_istore_n (loc' := [zm_A 146, zm_I x1, zm_I x2, zm_I (v1 + (h2 154 ((8 * (h2 146 13)) + x2)))]) d_228_20 (Nat.le_of_ble_eq_true rfl) rfl) ?_
  refine zl_tr (r_iload_n d_228_21 rfl) ?_
  refine zl_tr (r_aload_n d_228_22 rfl) ?_
  refine zl_tr (r_getR d_228_23 ow_228 f_12_63 la_146 (by decide) fr_146_17) ?_
  refine zl_tr (r_aload_n d_228_26 rfl) ?_
  refine zl_tr (r_getI (kk := 13) d_228_27 ow_228 f_12_51 la_146 (by decide) rfl) ?_
  refine zl_tr (r_iaload d_228_30 la_151) (zl_ck ?_)
  refine zl_tr (r_icmp_le (tgt := 46) d_228_31 (by decide)) (zl_if ?_ ?_)
  · skip
    refine zl_tr (r_iload_n d_228_46 rfl) ?_
    exact r_iret d_228_47 rt_228
  · skip
    refine zl_tr (r_aload_n d_228_34 rfl) ?_
    refine zl_tr (r_getR d_228_35 ow_228 f_12_63 la_146 (by decide) fr_146_17) ?_
    refine zl_tr (r_aload_n d_228_38 rfl) ?_
    refine zl_tr (r_getI (kk := 13) d_228_39 ow_228 f_12_51 la_146 (by decide) rfl) ?_
    refine zl_tr (r_iaload d_228_42 la_151) (zl_ck ?_)
    refine zl_tr (r_goto (tgt := 47) d_228_43 (by decide)) ?_
    exact r_iret d_228_47 rt_228
-- BranTubModel.likes
set_option maxRecDepth 20000 in
theorem e_229 {h : zm_H} {x1 : Int} {x2 : Int} {x3 : Int} : zl (zk_I (zc 223 [zm_A 146, zm_I x1] h) (fun v1 h2 => if v1 = 0 then (some (zm_I (-1), h2)) else (zk_I (zc 218 [zm_A 146, zm_I x2] h2) (fun v3 h4 => if v3 = 0 then (some (zm_I (-1), h4)) else (zk_V (zc 225 [zm_A 146] h4) (fun h5 => zk_V (zc 226 [zm_A 146, zm_I 0, zm_I x1] h5) (fun h6 => if x3 = 0 then (zk_I (zc 224 [zm_A 146, zm_I x1, zm_I x2] h6) (fun v7 h8 => some (zm_I v7, h8))) else (if x3 = 1 then (zk_I (zc 215 [zm_A 146, zm_I 0, zm_I x1, zm_I x2] h6) (fun v9 h10 => some (zm_I v9, h10))) else (if x3 = 2 then (zm_ck (0 ≤ x2 ∧ x2 < ((8 : Nat) : Int)) (some (zm_I (h6 186 x2), h6))) else (some (zm_I (-1), h6))))))))))) (zc 229 [zm_A 146, zm_I x1, zm_I x2, zm_I x3] h) := by
  rw [zc_eq (loc := [zm_A 146, zm_I x1, zm_I x2, zm_I x3]) (rk_229 _) rfl]
  refine zl_tr (r_aload_n d_229_0 rfl) ?_
  refine zl_tr (r_iload_n d_229_1 rfl) ?_
  refine zl_tr (r_VI [zm_A 146, zm_I x1] d_229_2 ow_229 cal_12_529 na_223 rfl rfl (Nat.le_of_ble_eq_true rfl) (by rw [rk_223]; decide) (zr_rcv la_146 ow_223) (zr_im mx_223 rfl (Nat.le_of_ble_eq_true rfl)) (by rw [rt_223]; decide)) (zl_I (fun v1 h2 => ?_))
  refine zl_tr (r_if_eq (tgt := 16) d_229_5 (by decide)) (zl_if ?_ ?_)
  · skip
    refine zl_tr (r_iconst d_229_16 (by decide)) ?_
    exact r_iret d_229_17 rt_229
  · skip
    refine zl_tr (r_aload_n d_229_8 rfl) ?_
    refine zl_tr (r_iload_n d_229_9 rfl) ?_
    refine zl_tr (r_VI [zm_A 146, zm_I x2] d_229_10 ow_229 cal_12_523 na_218 rfl rfl (Nat.le_of_ble_eq_true rfl) (by rw [rk_218]; decide) (zr_rcv la_146 ow_218) (zr_im mx_218 rfl (Nat.le_of_ble_eq_true rfl)) (by rw [rt_218]; decide)) (zl_I (fun v3 h4 => ?_))
    refine zl_tr (r_if_ne (tgt := 18) d_229_13 (by decide)) (zl_if ?_ ?_)
    · skip
      refine zl_tr (r_iconst d_229_16 (by decide)) ?_
      exact r_iret d_229_17 rt_229
    · skip
      refine zl_tr (r_aload_n d_229_18 rfl) ?_
      refine zl_tr (r_VV [zm_A 146] d_229_19 ow_229 cal_12_532 na_225 rfl rfl (Nat.le_of_ble_eq_true rfl) (by rw [rk_225]; decide) (zr_rcv la_146 ow_225) (zr_im mx_225 rfl (Nat.le_of_ble_eq_true rfl)) rt_225) (zl_V (fun h5 => ?_))
      refine zl_tr (r_aload_n d_229_22 rfl) ?_
      refine zl_tr (r_iconst d_229_23 (by decide)) ?_
      refine zl_tr (r_iload_n d_229_24 rfl) ?_
      refine zl_tr (r_VV [zm_A 146, zm_I 0, zm_I x1] d_229_25 ow_229 cal_12_494 na_226 rfl rfl (Nat.le_of_ble_eq_true rfl) (by rw [rk_226]; decide) (zr_rcv la_146 ow_226) (zr_im mx_226 rfl (Nat.le_of_ble_eq_true rfl)) rt_226) (zl_V (fun h6 => ?_))
      refine zl_tr (r_iload_n d_229_28 rfl) ?_
      refine zl_tr (r_if_ne (tgt := 41) d_229_29 (by decide)) (zl_if ?_ ?_)
      · skip
        refine zl_tr (r_aload_n d_229_32 rfl) ?_
        refine zl_tr (r_iload_n d_229_33 rfl) ?_
        refine zl_tr (r_iload_n d_229_34 rfl) ?_
        refine zl_tr (r_VI [zm_A 146, zm_I x1, zm_I x2] d_229_35 ow_229 cal_12_473 na_224 rfl rfl (Nat.le_of_ble_eq_true rfl) (by rw [rk_224]; decide) (zr_rcv la_146 ow_224) (zr_im mx_224 rfl (Nat.le_of_ble_eq_true rfl)) (by rw [rt_224]; decide)) (zl_I (fun v7 h8 => ?_))
        refine zl_tr (r_goto (tgt := 71) d_229_38 (by decide)) ?_
        exact r_iret d_229_71 rt_229
      · skip
        refine zl_tr (r_iload_n d_229_41 rfl) ?_
        refine zl_tr (r_iconst d_229_42 (by decide)) ?_
        refine zl_tr (r_icmp_ne (tgt := 56) d_229_43 (by decide)) (zl_if ?_ ?_)
        · skip
          refine zl_tr (r_aload_n d_229_46 rfl) ?_
          refine zl_tr (r_iconst d_229_47 (by decide)) ?_
          refine zl_tr (r_iload_n d_229_48 rfl) ?_
          refine zl_tr (r_iload_n d_229_49 rfl) ?_
          refine zl_tr (r_VI [zm_A 146, zm_I 0, zm_I x1, zm_I x2] d_229_50 ow_229 cal_12_512 na_215 rfl rfl (Nat.le_of_ble_eq_true rfl) (by rw [rk_215]; decide) (zr_rcv la_146 ow_215) (zr_im mx_215 rfl (Nat.le_of_ble_eq_true rfl)) (by rw [rt_215]; decide)) (zl_I (fun v9 h10 => ?_))
          refine zl_tr (r_goto (tgt := 71) d_229_53 (by decide)) ?_
          exact r_iret d_229_71 rt_229
        · skip
          refine zl_tr (r_iload_n d_229_56 rfl) ?_
          refine zl_tr (r_iconst d_229_57 (by decide)) ?_
          refine zl_tr (r_icmp_ne (tgt := 70) d_229_58 (by decide)) (zl_if ?_ ?_)
          · skip
            refine zl_tr (r_aload_n d_229_61 rfl) ?_
            refine zl_tr (r_getR d_229_62 ow_229 f_12_216 la_146 (by decide) fr_146_67) ?_
            refine zl_tr (r_iload_n d_229_65 rfl) ?_
            refine zl_tr (r_iaload d_229_66 la_186) (zl_ck ?_)
            refine zl_tr (r_goto (tgt := 71) d_229_67 (by decide)) ?_
            exact r_iret d_229_71 rt_229
          · skip
            refine zl_tr (r_iconst d_229_70 (by decide)) ?_
            exact r_iret d_229_71 rt_229
-- BranTubModel.likely
set_option maxRecDepth 20000 in
theorem e_230 {h : zm_H} {x1 : Int} {x2 : Int} : zl (zk_I (zc 231 [zm_A 146, zm_I x1] h) (fun v1 h2 => if v1 = 0 then (some (zm_I (-1), h2)) else (zk_I (zc 218 [zm_A 146, zm_I x2] h2) (fun v3 h4 => if v3 = 0 then (some (zm_I (-1), h4)) else (zm_ck (0 ≤ x2 ∧ x2 < ((8 : Nat) : Int)) (zm_ck (zm_i32 (1000 * (h4 186 x2))) (zm_ck (((h4 146 68) : Int) ≠ 0 ∧ zm_i32 ((1000 * (h4 186 x2)).tdiv (h4 146 68))) (some (zm_I ((1000 * (h4 186 x2)).tdiv (h4 146 68)), h4))))))))) (zc 230 [zm_A 146, zm_I x1, zm_I x2] h) := by
  rw [zc_eq (loc := [zm_A 146, zm_I x1, zm_I x2]) (rk_230 _) rfl]
  refine zl_tr (r_aload_n d_230_0 rfl) ?_
  refine zl_tr (r_iload_n d_230_1 rfl) ?_
  refine zl_tr (r_VI [zm_A 146, zm_I x1] d_230_2 ow_230 cal_12_535 na_231 rfl rfl (Nat.le_of_ble_eq_true rfl) (by rw [rk_231]; decide) (zr_rcv la_146 ow_231) (zr_im mx_231 rfl (Nat.le_of_ble_eq_true rfl)) (by rw [rt_231]; decide)) (zl_I (fun v1 h2 => ?_))
  refine zl_tr (r_if_eq (tgt := 34) d_230_5 (by decide)) (zl_if ?_ ?_)
  · skip
    refine zl_tr (r_iconst d_230_34 (by decide)) ?_
    exact r_iret d_230_35 rt_230
  · skip
    refine zl_tr (r_aload_n d_230_8 rfl) ?_
    refine zl_tr (r_iload_n d_230_9 rfl) ?_
    refine zl_tr (r_VI [zm_A 146, zm_I x2] d_230_10 ow_230 cal_12_523 na_218 rfl rfl (Nat.le_of_ble_eq_true rfl) (by rw [rk_218]; decide) (zr_rcv la_146 ow_218) (zr_im mx_218 rfl (Nat.le_of_ble_eq_true rfl)) (by rw [rt_218]; decide)) (zl_I (fun v3 h4 => ?_))
    refine zl_tr (r_if_eq (tgt := 34) d_230_13 (by decide)) (zl_if ?_ ?_)
    · skip
      refine zl_tr (r_iconst d_230_34 (by decide)) ?_
      exact r_iret d_230_35 rt_230
    · skip
      refine zl_tr (r_sipush d_230_16 (by decide)) ?_
      refine zl_tr (r_aload_n d_230_19 rfl) ?_
      refine zl_tr (r_getR d_230_20 ow_230 f_12_216 la_146 (by decide) fr_146_67) ?_
      refine zl_tr (r_iload_n d_230_23 rfl) ?_
      refine zl_tr (r_iaload d_230_24 la_186) (zl_ck ?_)
      refine zl_tr (r_imul d_230_25) (zl_ck ?_)
      refine zl_tr (r_aload_n d_230_26 rfl) ?_
      refine zl_tr (r_getI (kk := 68) d_230_27 ow_230 f_12_219 la_146 (by decide) rfl) ?_
      refine zl_tr (r_idiv d_230_30) (zl_ck ?_)
      refine zl_tr (r_goto (tgt := 35) d_230_31 (by decide)) ?_
      exact r_iret d_230_35 rt_230
-- BranTubModel.canDip
set_option maxRecDepth 20000 in
theorem e_231 {h : zm_H} {x1 : Int} : zl (zk_I (zc 223 [zm_A 146, zm_I x1] h) (fun v1 h2 => if v1 = 0 then (zm_ck (zm_bit 0) (some (zm_I 0, h2))) else (zk_V (zc 225 [zm_A 146] h2) (fun h3 => zk_V (zc 226 [zm_A 146, zm_I 0, zm_I x1] h3) (fun h4 => if (h4 146 68) ≤ 0 then (zm_ck (zm_bit 0) (some (zm_I 0, h4))) else (zm_ck (zm_bit 1) (some (zm_I 1, h4)))))))) (zc 231 [zm_A 146, zm_I x1] h) := by
  rw [zc_eq (loc := [zm_A 146, zm_I x1]) (rk_231 _) rfl]
  refine zl_tr (r_aload_n d_231_0 rfl) ?_
  refine zl_tr (r_iload_n d_231_1 rfl) ?_
  refine zl_tr (r_VI [zm_A 146, zm_I x1] d_231_2 ow_231 cal_12_529 na_223 rfl rfl (Nat.le_of_ble_eq_true rfl) (by rw [rk_223]; decide) (zr_rcv la_146 ow_223) (zr_im mx_223 rfl (Nat.le_of_ble_eq_true rfl)) (by rw [rt_223]; decide)) (zl_I (fun v1 h2 => ?_))
  refine zl_tr (r_if_ne (tgt := 10) d_231_5 (by decide)) (zl_if ?_ ?_)
  · skip
    refine zl_tr (r_iconst d_231_8 (by decide)) ?_
    exact r_zret d_231_9 rt_231
  · skip
    refine zl_tr (r_aload_n d_231_10 rfl) ?_
    refine zl_tr (r_VV [zm_A 146] d_231_11 ow_231 cal_12_532 na_225 rfl rfl (Nat.le_of_ble_eq_true rfl) (by rw [rk_225]; decide) (zr_rcv la_146 ow_225) (zr_im mx_225 rfl (Nat.le_of_ble_eq_true rfl)) rt_225) (zl_V (fun h3 => ?_))
    refine zl_tr (r_aload_n d_231_14 rfl) ?_
    refine zl_tr (r_iconst d_231_15 (by decide)) ?_
    refine zl_tr (r_iload_n d_231_16 rfl) ?_
    refine zl_tr (r_VV [zm_A 146, zm_I 0, zm_I x1] d_231_17 ow_231 cal_12_494 na_226 rfl rfl (Nat.le_of_ble_eq_true rfl) (by rw [rk_226]; decide) (zr_rcv la_146 ow_226) (zr_im mx_226 rfl (Nat.le_of_ble_eq_true rfl)) rt_226) (zl_V (fun h4 => ?_))
    refine zl_tr (r_aload_n d_231_20 rfl) ?_
    refine zl_tr (r_getI (kk := 68) d_231_21 ow_231 f_12_219 la_146 (by decide) rfl) ?_
    refine zl_tr (r_if_le (tgt := 31) d_231_24 (by decide)) (zl_if ?_ ?_)
    · skip
      refine zl_tr (r_iconst d_231_31 (by decide)) ?_
      exact r_zret d_231_32 rt_231
    · skip
      refine zl_tr (r_iconst d_231_27 (by decide)) ?_
      refine zl_tr (r_goto (tgt := 32) d_231_28 (by decide)) ?_
      exact r_zret d_231_32 rt_231
-- BranTubModel.takes
set_option maxRecDepth 20000 in
theorem e_232 {h : zm_H} {x1 : Int} {x2 : Int} : zl (zk_I (zc 231 [zm_A 146, zm_I x1] h) (fun v1 h2 => if v1 = 0 then (some (zm_I (-1), h2)) else (zk_I (zc 218 [zm_A 146, zm_I x2] h2) (fun v3 h4 => if v3 = 0 then (some (zm_I (-1), h4)) else (zk_L (zc 233 [zm_A 146, zm_I x1, zm_I x2] h4) (fun v5 h6 => zk_I (zc 235 [zm_A 146, zm_I x1] h6) (fun v7 h8 => zk_L (zc 236 [zm_L (h6 146 68), zm_I v7] h8) (fun v9 h10 => zk_I (zc 237 [zm_L v5, zm_L v9] h10) (fun v11 h12 => some (zm_I v11, h12)))))))))) (zc 232 [zm_A 146, zm_I x1, zm_I x2] h) := by
  rw [zc_eq (loc := [zm_A 146, zm_I x1, zm_I x2]) (rk_232 _) rfl]
  refine zl_tr (r_aload_n d_232_0 rfl) ?_
  refine zl_tr (r_iload_n d_232_1 rfl) ?_
  refine zl_tr (r_VI [zm_A 146, zm_I x1] d_232_2 ow_232 cal_12_535 na_231 rfl rfl (Nat.le_of_ble_eq_true rfl) (by rw [rk_231]; decide) (zr_rcv la_146 ow_231) (zr_im mx_231 rfl (Nat.le_of_ble_eq_true rfl)) (by rw [rt_231]; decide)) (zl_I (fun v1 h2 => ?_))
  refine zl_tr (r_if_eq (tgt := 41) d_232_5 (by decide)) (zl_if ?_ ?_)
  · skip
    refine zl_tr (r_iconst d_232_41 (by decide)) ?_
    exact r_iret d_232_42 rt_232
  · skip
    refine zl_tr (r_aload_n d_232_8 rfl) ?_
    refine zl_tr (r_iload_n d_232_9 rfl) ?_
    refine zl_tr (r_VI [zm_A 146, zm_I x2] d_232_10 ow_232 cal_12_523 na_218 rfl rfl (Nat.le_of_ble_eq_true rfl) (by rw [rk_218]; decide) (zr_rcv la_146 ow_218) (zr_im mx_218 rfl (Nat.le_of_ble_eq_true rfl)) (by rw [rt_218]; decide)) (zl_I (fun v3 h4 => ?_))
    refine zl_tr (r_if_eq (tgt := 41) d_232_13 (by decide)) (zl_if ?_ ?_)
    · skip
      refine zl_tr (r_iconst d_232_41 (by decide)) ?_
      exact r_iret d_232_42 rt_232
    · skip
      refine zl_tr (r_aload_n d_232_16 rfl) ?_
      refine zl_tr (r_iload_n d_232_17 rfl) ?_
      refine zl_tr (r_iload_n d_232_18 rfl) ?_
      refine zl_tr (r_VL [zm_A 146, zm_I x1, zm_I x2] d_232_19 ow_232 cal_12_489 na_233 rfl rfl (Nat.le_of_ble_eq_true rfl) (by rw [rk_233]; decide) (zr_rcv la_146 ow_233) (zr_im mx_233 rfl (Nat.le_of_ble_eq_true rfl)) rt_233) (zl_L (fun v5 h6 => ?_))
      refine zl_tr (r_aload_n d_232_22 rfl) ?_
      refine zl_tr (r_getI (kk := 68) d_232_23 ow_232 f_12_219 la_146 (by decide) rfl) ?_
      refine zl_tr (r_i2l d_232_26) ?_
      refine zl_tr (r_aload_n d_232_27 rfl) ?_
      refine zl_tr (r_iload_n d_232_28 rfl) ?_
      refine zl_tr (r_VI [zm_A 146, zm_I x1] d_232_29 ow_232 cal_12_482 na_235 rfl rfl (Nat.le_of_ble_eq_true rfl) (by rw [rk_235]; decide) (zr_rcv la_146 ow_235) (zr_im mx_235 rfl (Nat.le_of_ble_eq_true rfl)) (by rw [rt_235]; decide)) (zl_I (fun v7 h8 => ?_))
      refine zl_tr (r_SL [zm_L (h6 146 68), zm_I v7] d_232_32 ow_232 cal_12_485 (by decide) na_236 rfl rfl (Nat.le_of_ble_eq_true rfl) (by rw [rk_236]; decide) (zr_im mx_236 rfl (Nat.le_of_ble_eq_true rfl)) rt_236) (zl_L (fun v9 h10 => ?_))
      refine zl_tr (r_SI [zm_L v5, zm_L v9] d_232_35 ow_232 cal_12_538 (by decide) na_237 rfl rfl (Nat.le_of_ble_eq_true rfl) (by rw [rk_237]; decide) (zr_im mx_237 rfl (Nat.le_of_ble_eq_true rfl)) (by rw [rt_237]; decide)) (zl_I (fun v11 h12 => ?_))
      refine zl_tr (r_goto (tgt := 42) d_232_38 (by decide)) ?_
      exact r_iret d_232_42 rt_232
-- BranTubModel.waysOf
set_option maxRecDepth 20000 in
theorem e_233 {h : zm_H} {x1 : Int} {x2 : Int} : zl (zm_ck (zm_i32 (8 * (h 146 13))) (zm_ck (zm_i32 ((8 * (h 146 13)) + x1)) (zm_ck (0 ≤ ((8 * (h 146 13)) + x1) ∧ ((8 * (h 146 13)) + x1) < ((16 : Nat) : Int)) (zk_I (zc 234 [zm_A 146, zm_I x1, zm_I x2, zm_I (h 156 ((8 * (h 146 13)) + x1))] h) (fun v1 h2 => zr none 3 233 33 [zm_A 146, zm_I x1, zm_I x2, zm_I (h 156 ((8 * (h 146 13)) + x1)), zm_I v1, zm_L 0, zm_U, zm_L 0, zm_U, zm_I 0] [] h2))))) (zc 233 [zm_A 146, zm_I x1, zm_I x2] h) := by
  rw [zc_eq (loc := [zm_A 146, zm_I x1, zm_I x2, zm_U, zm_U, zm_U, zm_U, zm_U, zm_U, zm_U]) (rk_233 _) rfl]
  refine zl_tr (r_aload_n d_233_0 rfl) ?_
  refine zl_tr (r_getR d_233_1 ow_233 f_12_78 la_146 (by decide) fr_146_22) ?_
  refine zl_tr (r_bipush d_233_4 (by decide)) ?_
  refine zl_tr (r_aload_n d_233_6 rfl) ?_
  refine zl_tr (r_getI (kk := 13) d_233_7 ow_233 f_12_51 la_146 (by decide) rfl) ?_
  refine zl_tr (r_imul d_233_10) (zl_ck ?_)
  refine zl_tr (r_iload_n d_233_11 rfl) ?_
  refine zl_tr (r_iadd d_233_12) (zl_ck ?_)
  refine zl_tr (r_iaload d_233_13 la_156) (zl_ck ?_)
  refine zl_tr (r_istore_n (loc' := [zm_A 146, zm_I x1, zm_I x2, zm_I (h 156 ((8 * (h 146 13)) + x1)), zm_U, zm_U, zm_U, zm_U, zm_U, zm_U]) d_233_14 (Nat.le_of_ble_eq_true rfl) rfl) ?_
  refine zl_tr (r_aload_n d_233_15 rfl) ?_
  refine zl_tr (r_iload_n d_233_16 rfl) ?_
  refine zl_tr (r_iload_n d_233_17 rfl) ?_
  refine zl_tr (r_iload_n d_233_18 rfl) ?_
  refine zl_tr (r_VI [zm_A 146, zm_I x1, zm_I x2, zm_I (h 156 ((8 * (h 146 13)) + x1))] d_233_19 ow_233 cal_12_479 na_234 rfl rfl (Nat.le_of_ble_eq_true rfl) (by rw [rk_234]; decide) (zr_rcv la_146 ow_234) (zr_im mx_234 rfl (Nat.le_of_ble_eq_true rfl)) (by rw [rt_234]; decide)) (zl_I (fun v1 h2 => ?_))
  refine zl_tr (r_istore (loc' := [zm_A 146, zm_I x1, zm_I x2, zm_I (h 156 ((8 * (h 146 13)) + x1)), zm_I v1, zm_U, zm_U, zm_U, zm_U, zm_U]) d_233_22 (Nat.le_of_ble_eq_true rfl) rfl) ?_
  refine zl_tr (r_lconst (z := 0) d_233_24 rfl) ?_
  refine zl_tr (r_lstore (loc' := [zm_A 146, zm_I x1, zm_I x2, zm_I (h 156 ((8 * (h 146 13)) + x1)), zm_I v1, zm_L 0, zm_U, zm_U, zm_U, zm_U]) d_233_25 (Nat.le_of_ble_eq_true rfl) rfl) ?_
  refine zl_tr (r_lconst (z := 0) d_233_27 rfl) ?_
  refine zl_tr (r_lstore (loc' := [zm_A 146, zm_I x1, zm_I x2, zm_I (h 156 ((8 * (h 146 13)) + x1)), zm_I v1, zm_L 0, zm_U, zm_L 0, zm_U, zm_U]) d_233_28 (Nat.le_of_ble_eq_true rfl) rfl) ?_
  refine zl_tr (r_iconst d_233_30 (by decide)) ?_
  refine zl_tr (r_istore (loc' := [zm_A 146, zm_I x1, zm_I x2, zm_I (h 156 ((8 * (h 146 13)) + x1)), zm_I v1, zm_L 0, zm_U, zm_L 0, zm_U, zm_I 0]) d_233_31 (Nat.le_of_ble_eq_true rfl) rfl) ?_
  exact zl_rf
-- BranTubModel.waysOf, from 33
set_option maxRecDepth 20000 in
theorem e_233_33 {h : zm_H} {x1 : Int} {x2 : Int} {x3 : Int} {x4 : Int} {x5 : Int} {x7 : Int} {x9 : Int} : zl (zm_ck (0 ≤ (h 146 13) ∧ (h 146 13) < ((2 : Nat) : Int)) (if x9 < (h 148 (h 146 13)) then (zk_I (zc 234 [zm_A 146, zm_I x1, zm_I x9, zm_I x3] h) (fun v1 h2 => if v1 < x4 then (zm_ck (0 ≤ x9 ∧ x9 < ((8 : Nat) : Int)) (zm_ck (zm_i64 (x5 + (h2 186 x9))) (zk_I (zc 234 [zm_A 146, zm_I x1, zm_I x9, zm_I x3] h2) (fun v3 h4 => if v3 = x4 then (zm_ck (0 ≤ x9 ∧ x9 < ((8 : Nat) : Int)) (zm_ck (zm_i64 (x7 + (h4 186 x9))) (zm_ck (zm_i32 (x9 + 1)) (zr none 3 233 33 [zm_A 146, zm_I x1, zm_I x2, zm_I x3, zm_I x4, zm_L (x5 + (h2 186 x9)), zm_U, zm_L (x7 + (h4 186 x9)), zm_U, zm_I (x9 + 1)] [] h4)))) else (zm_ck (zm_i64 (x7 + 0)) (zm_ck (zm_i32 (x9 + 1)) (zr none 3 233 33 [zm_A 146, zm_I x1, zm_I x2, zm_I x3, zm_I x4, zm_L (x5 + (h2 186 x9)), zm_U, zm_L (x7 + 0), zm_U, zm_I (x9 + 1)] [] h4))))))) else (zm_ck (zm_i64 (x5 + 0)) (zk_I (zc 234 [zm_A 146, zm_I x1, zm_I x9, zm_I x3] h2) (fun v5 h6 => if v5 = x4 then (zm_ck (0 ≤ x9 ∧ x9 < ((8 : Nat) : Int)) (zm_ck (zm_i64 (x7 + (h6 186 x9))) (zm_ck (zm_i32 (x9 + 1)) (zr none 3 233 33 [zm_A 146, zm_I x1, zm_I x2, zm_I x3, zm_I x4, zm_L (x5 + 0), zm_U, zm_L (x7 + (h6 186 x9)), zm_U, zm_I (x9 + 1)] [] h6)))) else (zm_ck (zm_i64 (x7 + 0)) (zm_ck (zm_i32 (x9 + 1)) (zr none 3 233 33 [zm_A 146, zm_I x1, zm_I x2, zm_I x3, zm_I x4, zm_L (x5 + 0), zm_U, zm_L (x7 + 0), zm_U, zm_I (x9 + 1)] [] h6)))))))) else (zm_ck (0 ≤ x2 ∧ x2 < ((8 : Nat) : Int)) (if (h 186 x2) = 0 then (some (zm_L 0, h)) else (zm_ck (zm_i64 (x5 + x7)) (zk_I (zc 235 [zm_A 146, zm_I x1] h) (fun v7 h8 => zk_L (zc 236 [zm_L (x5 + x7), zm_I v7] h8) (fun v9 h10 => zk_I (zc 235 [zm_A 146, zm_I x1] h10) (fun v11 h12 => zk_L (zc 236 [zm_L x5, zm_I v11] h12) (fun v13 h14 => zm_ck (zm_i64 (v9 - v13)) (zm_ck ((x7 : Int) ≠ 0 ∧ zm_i64 ((v9 - v13).tdiv x7)) (zm_ck (0 ≤ x2 ∧ x2 < ((8 : Nat) : Int)) (zm_ck (zm_i64 (((v9 - v13).tdiv x7) * (h14 186 x2))) (some (zm_L (((v9 - v13).tdiv x7) * (h14 186 x2)), h14))))))))))))))) (zr none 3 233 33 [zm_A 146, zm_I x1, zm_I x2, zm_I x3, zm_I x4, zm_L x5, zm_U, zm_L x7, zm_U, zm_I x9] [] h) := by
  refine zl_tr (r_iload d_233_33 rfl) ?_
  refine zl_tr (r_aload_n d_233_35 rfl) ?_
  refine zl_tr (r_getR d_233_36 ow_233 f_12_54 la_146 (by decide) fr_146_14) ?_
  refine zl_tr (r_aload_n d_233_39 rfl) ?_
  refine zl_tr (r_getI (kk := 13) d_233_40 ow_233 f_12_51 la_146 (by decide) rfl) ?_
  refine zl_tr (r_iaload d_233_43 la_148) (zl_ck ?_)
  refine zl_tr (r_icmp_ge (tgt := 113) d_233_44 (by decide)) (zl_if ?_ ?_)
  · skip
    refine zl_tr (r_lload d_233_47 rfl) ?_
    refine zl_tr (r_aload_n d_233_49 rfl) ?_
    refine zl_tr (r_iload_n d_233_50 rfl) ?_
    refine zl_tr (r_iload d_233_51 rfl) ?_
    refine zl_tr (r_iload_n d_233_53 rfl) ?_
    refine zl_tr (r_VI [zm_A 146, zm_I x1, zm_I x9, zm_I x3] d_233_54 ow_233 cal_12_479 na_234 rfl rfl (Nat.le_of_ble_eq_true rfl) (by rw [rk_234]; decide) (zr_rcv la_146 ow_234) (zr_im mx_234 rfl (Nat.le_of_ble_eq_true rfl)) (by rw [rt_234]; decide)) (zl_I (fun v1 h2 => ?_))
    refine zl_tr (r_iload d_233_57 rfl) ?_
    refine zl_tr (r_icmp_ge (tgt := 73) d_233_59 (by decide)) (zl_if ?_ ?_)
    · skip
      refine zl_tr (r_aload_n d_233_62 rfl) ?_
      refine zl_tr (r_getR d_233_63 ow_233 f_12_216 la_146 (by decide) fr_146_67) ?_
      refine zl_tr (r_iload d_233_66 rfl) ?_
      refine zl_tr (r_iaload d_233_68 la_186) (zl_ck ?_)
      refine zl_tr (r_i2l d_233_69) ?_
      refine zl_tr (r_goto (tgt := 74) d_233_70 (by decide)) ?_
      refine zl_tr (r_ladd d_233_74) (zl_ck ?_)
      refine zl_tr (r_lstore (loc' := [zm_A 146, zm_I x1, zm_I x2, zm_I x3, zm_I x4, zm_L (x5 + (h2 186 x9)), zm_U, zm_L x7, zm_U, zm_I x9]) d_233_75 (Nat.le_of_ble_eq_true rfl) rfl) ?_
      refine zl_tr (r_lload d_233_77 rfl) ?_
      refine zl_tr (r_aload_n d_233_79 rfl) ?_
      refine zl_tr (r_iload_n d_233_80 rfl) ?_
      refine zl_tr (r_iload d_233_81 rfl) ?_
      refine zl_tr (r_iload_n d_233_83 rfl) ?_
      refine zl_tr (r_VI [zm_A 146, zm_I x1, zm_I x9, zm_I x3] d_233_84 ow_233 cal_12_479 na_234 rfl rfl (Nat.le_of_ble_eq_true rfl) (by rw [rk_234]; decide) (zr_rcv la_146 ow_234) (zr_im mx_234 rfl (Nat.le_of_ble_eq_true rfl)) (by rw [rt_234]; decide)) (zl_I (fun v3 h4 => ?_))
      refine zl_tr (r_iload d_233_87 rfl) ?_
      refine zl_tr (r_icmp_ne (tgt := 103) d_233_89 (by decide)) (zl_if ?_ ?_)
      · skip
        refine zl_tr (r_aload_n d_233_92 rfl) ?_
        refine zl_tr (r_getR d_233_93 ow_233 f_12_216 la_146 (by decide) fr_146_67) ?_
        refine zl_tr (r_iload d_233_96 rfl) ?_
        refine zl_tr (r_iaload d_233_98 la_186) (zl_ck ?_)
        refine zl_tr (r_i2l d_233_99) ?_
        refine zl_tr (r_goto (tgt := 104) d_233_100 (by decide)) ?_
        refine zl_tr (r_ladd d_233_104) (zl_ck ?_)
        refine zl_tr (r_lstore (loc' := [zm_A 146, zm_I x1, zm_I x2, zm_I x3, zm_I x4, zm_L (x5 + (h2 186 x9)), zm_U, zm_L (x7 + (h4 186 x9)), zm_U, zm_I x9]) d_233_105 (Nat.le_of_ble_eq_true rfl) rfl) ?_
        refine zl_tr (r_iinc (loc' := [zm_A 146, zm_I x1, zm_I x2, zm_I x3, zm_I x4, zm_L (x5 + (h2 186 x9)), zm_U, zm_L (x7 + (h4 186 x9)), zm_U, zm_I (x9 + 1)]) d_233_107 rfl (Nat.le_of_ble_eq_true rfl) rfl) (zl_ck ?_)
        refine zl_tr (r_goto (tgt := 33) d_233_110 (by decide)) ?_
        exact zl_rf
      · skip
        refine zl_tr (r_lconst (z := 0) d_233_103 rfl) ?_
        refine zl_tr (r_ladd d_233_104) (zl_ck ?_)
        refine zl_tr (r_lstore (loc' := [zm_A 146, zm_I x1, zm_I x2, zm_I x3, zm_I x4, zm_L (x5 + (h2 186 x9)), zm_U, zm_L (x7 + 0), zm_U, zm_I x9]) d_233_105 (Nat.le_of_ble_eq_true rfl) rfl) ?_
        refine zl_tr (r_iinc (loc' := [zm_A 146, zm_I x1, zm_I x2, zm_I x3, zm_I x4, zm_L (x5 + (h2 186 x9)), zm_U, zm_L (x7 + 0), zm_U, zm_I (x9 + 1)]) d_233_107 rfl (Nat.le_of_ble_eq_true rfl) rfl) (zl_ck ?_)
        refine zl_tr (r_goto (tgt := 33) d_233_110 (by decide)) ?_
        exact zl_rf
    · skip
      refine zl_tr (r_lconst (z := 0) d_233_73 rfl) ?_
      refine zl_tr (r_ladd d_233_74) (zl_ck ?_)
      refine zl_tr (r_lstore (loc' := [zm_A 146, zm_I x1, zm_I x2, zm_I x3, zm_I x4, zm_L (x5 + 0), zm_U, zm_L x7, zm_U, zm_I x9]) d_233_75 (Nat.le_of_ble_eq_true rfl) rfl) ?_
      refine zl_tr (r_lload d_233_77 rfl) ?_
      refine zl_tr (r_aload_n d_233_79 rfl) ?_
      refine zl_tr (r_iload_n d_233_80 rfl) ?_
      refine zl_tr (r_iload d_233_81 rfl) ?_
      refine zl_tr (r_iload_n d_233_83 rfl) ?_
      refine zl_tr (r_VI [zm_A 146, zm_I x1, zm_I x9, zm_I x3] d_233_84 ow_233 cal_12_479 na_234 rfl rfl (Nat.le_of_ble_eq_true rfl) (by rw [rk_234]; decide) (zr_rcv la_146 ow_234) (zr_im mx_234 rfl (Nat.le_of_ble_eq_true rfl)) (by rw [rt_234]; decide)) (zl_I (fun v5 h6 => ?_))
      refine zl_tr (r_iload d_233_87 rfl) ?_
      refine zl_tr (r_icmp_ne (tgt := 103) d_233_89 (by decide)) (zl_if ?_ ?_)
      · skip
        refine zl_tr (r_aload_n d_233_92 rfl) ?_
        refine zl_tr (r_getR d_233_93 ow_233 f_12_216 la_146 (by decide) fr_146_67) ?_
        refine zl_tr (r_iload d_233_96 rfl) ?_
        refine zl_tr (r_iaload d_233_98 la_186) (zl_ck ?_)
        refine zl_tr (r_i2l d_233_99) ?_
        refine zl_tr (r_goto (tgt := 104) d_233_100 (by decide)) ?_
        refine zl_tr (r_ladd d_233_104) (zl_ck ?_)
        refine zl_tr (r_lstore (loc' := [zm_A 146, zm_I x1, zm_I x2, zm_I x3, zm_I x4, zm_L (x5 + 0), zm_U, zm_L (x7 + (h6 186 x9)), zm_U, zm_I x9]) d_233_105 (Nat.le_of_ble_eq_true rfl) rfl) ?_
        refine zl_tr (r_iinc (loc' := [zm_A 146, zm_I x1, zm_I x2, zm_I x3, zm_I x4, zm_L (x5 + 0), zm_U, zm_L (x7 + (h6 186 x9)), zm_U, zm_I (x9 + 1)]) d_233_107 rfl (Nat.le_of_ble_eq_true rfl) rfl) (zl_ck ?_)
        refine zl_tr (r_goto (tgt := 33) d_233_110 (by decide)) ?_
        exact zl_rf
      · skip
        refine zl_tr (r_lconst (z := 0) d_233_103 rfl) ?_
        refine zl_tr (r_ladd d_233_104) (zl_ck ?_)
        refine zl_tr (r_lstore (loc' := [zm_A 146, zm_I x1, zm_I x2, zm_I x3, zm_I x4, zm_L (x5 + 0), zm_U, zm_L (x7 + 0), zm_U, zm_I x9]) d_233_105 (Nat.le_of_ble_eq_true rfl) rfl) ?_
        refine zl_tr (r_iinc (loc' := [zm_A 146, zm_I x1, zm_I x2, zm_I x3, zm_I x4, zm_L (x5 + 0), zm_U, zm_L (x7 + 0), zm_U, zm_I (x9 + 1)]) d_233_107 rfl (Nat.le_of_ble_eq_true rfl) rfl) (zl_ck ?_)
        refine zl_tr (r_goto (tgt := 33) d_233_110 (by decide)) ?_
        exact zl_rf
  · skip
    refine zl_tr (r_aload_n d_233_113 rfl) ?_
    refine zl_tr (r_getR d_233_114 ow_233 f_12_216 la_146 (by decide) fr_146_67) ?_
    refine zl_tr (r_iload_n d_233_117 rfl) ?_
    refine zl_tr (r_iaload d_233_118 la_186) (zl_ck ?_)
    refine zl_tr (r_if_ne (tgt := 124) d_233_119 (by decide)) (zl_if ?_ ?_)
    · skip
      refine zl_tr (r_lconst (z := 0) d_233_122 rfl) ?_
      exact r_lret d_233_123 rt_233
    · skip
      refine zl_tr (r_lload d_233_124 rfl) ?_
      refine zl_tr (r_lload d_233_126 rfl) ?_
      refine zl_tr (r_ladd d_233_128) (zl_ck ?_)
      refine zl_tr (r_aload_n d_233_129 rfl) ?_
      refine zl_tr (r_iload_n d_233_130 rfl) ?_
      refine zl_tr (r_VI [zm_A 146, zm_I x1] d_233_131 ow_233 cal_12_482 na_235 rfl rfl (Nat.le_of_ble_eq_true rfl) (by rw [rk_235]; decide) (zr_rcv la_146 ow_235) (zr_im mx_235 rfl (Nat.le_of_ble_eq_true rfl)) (by rw [rt_235]; decide)) (zl_I (fun v7 h8 => ?_))
      refine zl_tr (r_SL [zm_L (x5 + x7), zm_I v7] d_233_134 ow_233 cal_12_485 (by decide) na_236 rfl rfl (Nat.le_of_ble_eq_true rfl) (by rw [rk_236]; decide) (zr_im mx_236 rfl (Nat.le_of_ble_eq_true rfl)) rt_236) (zl_L (fun v9 h10 => ?_))
      refine zl_tr (r_lload d_233_137 rfl) ?_
      refine zl_tr (r_aload_n d_233_139 rfl) ?_
      refine zl_tr (r_iload_n d_233_140 rfl) ?_
      refine zl_tr (r_VI [zm_A 146, zm_I x1] d_233_141 ow_233 cal_12_482 na_235 rfl rfl (Nat.le_of_ble_eq_true rfl) (by rw [rk_235]; decide) (zr_rcv la_146 ow_235) (zr_im mx_235 rfl (Nat.le_of_ble_eq_true rfl)) (by rw [rt_235]; decide)) (zl_I (fun v11 h12 => ?_))
      refine zl_tr (r_SL [zm_L x5, zm_I v11] d_233_144 ow_233 cal_12_485 (by decide) na_236 rfl rfl (Nat.le_of_ble_eq_true rfl) (by rw [rk_236]; decide) (zr_im mx_236 rfl (Nat.le_of_ble_eq_true rfl)) rt_236) (zl_L (fun v13 h14 => ?_))
      refine zl_tr (r_lsub d_233_147) (zl_ck ?_)
      refine zl_tr (r_lload d_233_148 rfl) ?_
      refine zl_tr (r_ldiv d_233_150) (zl_ck ?_)
      refine zl_tr (r_aload_n d_233_151 rfl) ?_
      refine zl_tr (r_getR d_233_152 ow_233 f_12_216 la_146 (by decide) fr_146_67) ?_
      refine zl_tr (r_iload_n d_233_155 rfl) ?_
      refine zl_tr (r_iaload d_233_156 la_186) (zl_ck ?_)
      refine zl_tr (r_i2l d_233_157) ?_
      refine zl_tr (r_lmul d_233_158) (zl_ck ?_)
      exact r_lret d_233_159 rt_233
-- BranTubModel.rankOf
set_option maxRecDepth 20000 in
theorem e_234 {h : zm_H} {x1 : Int} {x2 : Int} {x3 : Int} : zl (if x3 = 1 then (zk_I (zc 224 [zm_A 146, zm_I x1, zm_I x2] h) (fun v1 h2 => some (zm_I v1, h2))) else (if x3 = 2 then (zk_I (zc 219 [zm_A 146, zm_I x2] h) (fun v3 h4 => some (zm_I v3, h4))) else (if x3 = 3 then (zk_I (zc 219 [zm_A 146, zm_I x2] h) (fun v5 h6 => zm_ck (zm_i32 (-v5)) (some (zm_I (-v5), h6)))) else (some (zm_I 0, h))))) (zc 234 [zm_A 146, zm_I x1, zm_I x2, zm_I x3] h) := by
  rw [zc_eq (loc := [zm_A 146, zm_I x1, zm_I x2, zm_I x3]) (rk_234 _) rfl]
  refine zl_tr (r_iload_n d_234_0 rfl) ?_
  refine zl_tr (r_iconst d_234_1 (by decide)) ?_
  refine zl_tr (r_icmp_ne (tgt := 14) d_234_2 (by decide)) (zl_if ?_ ?_)
  · skip
    refine zl_tr (r_aload_n d_234_5 rfl) ?_
    refine zl_tr (r_iload_n d_234_6 rfl) ?_
    refine zl_tr (r_iload_n d_234_7 rfl) ?_
    refine zl_tr (r_VI [zm_A 146, zm_I x1, zm_I x2] d_234_8 ow_234 cal_12_473 na_224 rfl rfl (Nat.le_of_ble_eq_true rfl) (by rw [rk_224]; decide) (zr_rcv la_146 ow_224) (zr_im mx_224 rfl (Nat.le_of_ble_eq_true rfl)) (by rw [rt_224]; decide)) (zl_I (fun v1 h2 => ?_))
    refine zl_tr (r_goto (tgt := 42) d_234_11 (by decide)) ?_
    exact r_iret d_234_42 rt_234
  · skip
    refine zl_tr (r_iload_n d_234_14 rfl) ?_
    refine zl_tr (r_iconst d_234_15 (by decide)) ?_
    refine zl_tr (r_icmp_ne (tgt := 27) d_234_16 (by decide)) (zl_if ?_ ?_)
    · skip
      refine zl_tr (r_aload_n d_234_19 rfl) ?_
      refine zl_tr (r_iload_n d_234_20 rfl) ?_
      refine zl_tr (r_VI [zm_A 146, zm_I x2] d_234_21 ow_234 cal_12_476 na_219 rfl rfl (Nat.le_of_ble_eq_true rfl) (by rw [rk_219]; decide) (zr_rcv la_146 ow_219) (zr_im mx_219 rfl (Nat.le_of_ble_eq_true rfl)) (by rw [rt_219]; decide)) (zl_I (fun v3 h4 => ?_))
      refine zl_tr (r_goto (tgt := 42) d_234_24 (by decide)) ?_
      exact r_iret d_234_42 rt_234
    · skip
      refine zl_tr (r_iload_n d_234_27 rfl) ?_
      refine zl_tr (r_iconst d_234_28 (by decide)) ?_
      refine zl_tr (r_icmp_ne (tgt := 41) d_234_29 (by decide)) (zl_if ?_ ?_)
      · skip
        refine zl_tr (r_aload_n d_234_32 rfl) ?_
        refine zl_tr (r_iload_n d_234_33 rfl) ?_
        refine zl_tr (r_VI [zm_A 146, zm_I x2] d_234_34 ow_234 cal_12_476 na_219 rfl rfl (Nat.le_of_ble_eq_true rfl) (by rw [rk_219]; decide) (zr_rcv la_146 ow_219) (zr_im mx_219 rfl (Nat.le_of_ble_eq_true rfl)) (by rw [rt_219]; decide)) (zl_I (fun v5 h6 => ?_))
        refine zl_tr (r_ineg d_234_37) (zl_ck ?_)
        refine zl_tr (r_goto (tgt := 42) d_234_38 (by decide)) ?_
        exact r_iret d_234_42 rt_234
      · skip
        refine zl_tr (r_iconst d_234_41 (by decide)) ?_
        exact r_iret d_234_42 rt_234
-- BranTubModel.touches
set_option maxRecDepth 20000 in
theorem e_235 {h : zm_H} {x1 : Int} : zl (zm_ck (zm_i32 (8 * (h 146 13))) (zm_ck (zm_i32 ((8 * (h 146 13)) + x1)) (zm_ck (0 ≤ ((8 * (h 146 13)) + x1) ∧ ((8 * (h 146 13)) + x1) < ((16 : Nat) : Int)) (zm_ck (zm_i32 (1 + (h 155 ((8 * (h 146 13)) + x1)))) (some (zm_I (1 + (h 155 ((8 * (h 146 13)) + x1))), h)))))) (zc 235 [zm_A 146, zm_I x1] h) := by
  rw [zc_eq (loc := [zm_A 146, zm_I x1]) (rk_235 _) rfl]
  refine zl_tr (r_iconst d_235_0 (by decide)) ?_
  refine zl_tr (r_aload_n d_235_1 rfl) ?_
  refine zl_tr (r_getR d_235_2 ow_235 f_12_75 la_146 (by decide) fr_146_21) ?_
  refine zl_tr (r_bipush d_235_5 (by decide)) ?_
  refine zl_tr (r_aload_n d_235_7 rfl) ?_
  refine zl_tr (r_getI (kk := 13) d_235_8 ow_235 f_12_51 la_146 (by decide) rfl) ?_
  refine zl_tr (r_imul d_235_11) (zl_ck ?_)
  refine zl_tr (r_iload_n d_235_12 rfl) ?_
  refine zl_tr (r_iadd d_235_13) (zl_ck ?_)
  refine zl_tr (r_iaload d_235_14 la_155) (zl_ck ?_)
  refine zl_tr (r_iadd d_235_15) (zl_ck ?_)
  exact r_iret d_235_16 rt_235
-- BranTubModel.power
set_option maxRecDepth 20000 in
theorem e_236 {h : zm_H} {x1 : Int} {x2 : Int} : zl (zr none 1 236 5 [zm_L x1, zm_U, zm_I x2, zm_L 1, zm_U, zm_I 0] [] h) (zc 236 [zm_L x1, zm_I x2] h) := by
  rw [zc_eq (loc := [zm_L x1, zm_U, zm_I x2, zm_U, zm_U, zm_U]) (rk_236 _) rfl]
  refine zl_tr (r_lconst (z := 1) d_236_0 rfl) ?_
  refine zl_tr (r_lstore_n (loc' := [zm_L x1, zm_U, zm_I x2, zm_L 1, zm_U, zm_U]) d_236_1 (Nat.le_of_ble_eq_true rfl) rfl) ?_
  refine zl_tr (r_iconst d_236_2 (by decide)) ?_
  refine zl_tr (r_istore (loc' := [zm_L x1, zm_U, zm_I x2, zm_L 1, zm_U, zm_I 0]) d_236_3 (Nat.le_of_ble_eq_true rfl) rfl) ?_
  exact zl_rf
-- BranTubModel.power, from 5
set_option maxRecDepth 20000 in
theorem e_236_5 {h : zm_H} {x0 : Int} {x2 : Int} {x3 : Int} {x5 : Int} : zl (if x5 < x2 then (zm_ck (zm_i64 (x3 * x0)) (zm_ck (zm_i32 (x5 + 1)) (zr none 1 236 5 [zm_L x0, zm_U, zm_I x2, zm_L (x3 * x0), zm_U, zm_I (x5 + 1)] [] h))) else (some (zm_L x3, h))) (zr none 1 236 5 [zm_L x0, zm_U, zm_I x2, zm_L x3, zm_U, zm_I x5] [] h) := by
  refine zl_tr (r_iload d_236_5 rfl) ?_
  refine zl_tr (r_iload_n d_236_7 rfl) ?_
  refine zl_tr (r_icmp_ge (tgt := 21) d_236_8 (by decide)) (zl_if ?_ ?_)
  · skip
    refine zl_tr (r_lload_n d_236_11 rfl) ?_
    refine zl_tr (r_lload_n d_236_12 rfl) ?_
    refine zl_tr (r_lmul d_236_13) (zl_ck ?_)
    refine zl_tr (r_lstore_n (loc' := [zm_L x0, zm_U, zm_I x2, zm_L (x3 * x0), zm_U, zm_I x5]) d_236_14 (Nat.le_of_ble_eq_true rfl) rfl) ?_
    refine zl_tr (r_iinc (loc' := [zm_L x0, zm_U, zm_I x2, zm_L (x3 * x0), zm_U, zm_I (x5 + 1)]) d_236_15 rfl (Nat.le_of_ble_eq_true rfl) rfl) (zl_ck ?_)
    refine zl_tr (r_goto (tgt := 5) d_236_18 (by decide)) ?_
    exact zl_rf
  · skip
    refine zl_tr (r_lload_n d_236_21 rfl) ?_
    exact r_lret d_236_22 rt_236
-- BranTubModel.thousandths
set_option maxRecDepth 20000 in
theorem e_237 {h : zm_H} {x1 : Int} {x2 : Int} : zl (zm_ck ((x2 : Int) ≠ 0 ∧ zm_i64 (x1.tdiv x2)) (zm_ck (zm_i64 ((x1.tdiv x2) * 1000)) (zm_ck ((x2 : Int) ≠ 0 ∧ zm_i64 (x1.tdiv x2) ∧ zm_i64 (x1.tmod x2)) (zm_ck (zm_i64 ((x1.tmod x2) * 1000)) (zm_ck ((x2 : Int) ≠ 0 ∧ zm_i64 (((x1.tmod x2) * 1000).tdiv x2)) (zm_ck (zm_i64 (((x1.tdiv x2) * 1000) + (((x1.tmod x2) * 1000).tdiv x2))) (zm_ck (zm_i32 (((x1.tdiv x2) * 1000) + (((x1.tmod x2) * 1000).tdiv x2))) (some (zm_I (((x1.tdiv x2) * 1000) + (((x1.tmod x2) * 1000).tdiv x2)), h))))))))) (zc 237 [zm_L x1, zm_L x2] h) := by
  rw [zc_eq (loc := [zm_L x1, zm_U, zm_L x2, zm_U]) (rk_237 _) rfl]
  refine zl_tr (r_lload_n d_237_0 rfl) ?_
  refine zl_tr (r_lload_n d_237_1 rfl) ?_
  refine zl_tr (r_ldiv d_237_2) (zl_ck ?_)
  refine zl_tr (r_ldc2 d_237_3 ow_237 lng_12_492) ?_
  refine zl_tr (r_lmul d_237_6) (zl_ck ?_)
  refine zl_tr (r_lload_n d_237_7 rfl) ?_
  refine zl_tr (r_lload_n d_237_8 rfl) ?_
  refine zl_tr (r_lrem d_237_9) (zl_ck ?_)
  refine zl_tr (r_ldc2 d_237_10 ow_237 lng_12_492) ?_
  refine zl_tr (r_lmul d_237_13) (zl_ck ?_)
  refine zl_tr (r_lload_n d_237_14 rfl) ?_
  refine zl_tr (r_ldiv d_237_15) (zl_ck ?_)
  refine zl_tr (r_ladd d_237_16) (zl_ck ?_)
  refine zl_tr (r_l2i d_237_17) (zl_ck ?_)
  exact r_iret d_237_18 rt_237
-- BranTubModel.mean
set_option maxRecDepth 20000 in
theorem e_238 {h : zm_H} {x1 : Int} : zl (zk_I (zc 231 [zm_A 146, zm_I x1] h) (fun v1 h2 => if v1 = 0 then (some (zm_I (-1), h2)) else (zk_L (zc 239 [zm_A 146, zm_I x1] h2) (fun v3 h4 => zk_I (zc 235 [zm_A 146, zm_I x1] h4) (fun v5 h6 => zk_L (zc 236 [zm_L (h4 146 68), zm_I v5] h6) (fun v7 h8 => zk_I (zc 237 [zm_L v3, zm_L v7] h8) (fun v9 h10 => some (zm_I v9, h10)))))))) (zc 238 [zm_A 146, zm_I x1] h) := by
  rw [zc_eq (loc := [zm_A 146, zm_I x1]) (rk_238 _) rfl]
  refine zl_tr (r_aload_n d_238_0 rfl) ?_
  refine zl_tr (r_iload_n d_238_1 rfl) ?_
  refine zl_tr (r_VI [zm_A 146, zm_I x1] d_238_2 ow_238 cal_12_535 na_231 rfl rfl (Nat.le_of_ble_eq_true rfl) (by rw [rk_231]; decide) (zr_rcv la_146 ow_231) (zr_im mx_231 rfl (Nat.le_of_ble_eq_true rfl)) (by rw [rt_231]; decide)) (zl_I (fun v1 h2 => ?_))
  refine zl_tr (r_if_eq (tgt := 32) d_238_5 (by decide)) (zl_if ?_ ?_)
  · skip
    refine zl_tr (r_iconst d_238_32 (by decide)) ?_
    exact r_iret d_238_33 rt_238
  · skip
    refine zl_tr (r_aload_n d_238_8 rfl) ?_
    refine zl_tr (r_iload_n d_238_9 rfl) ?_
    refine zl_tr (r_VL [zm_A 146, zm_I x1] d_238_10 ow_238 cal_12_497 na_239 rfl rfl (Nat.le_of_ble_eq_true rfl) (by rw [rk_239]; decide) (zr_rcv la_146 ow_239) (zr_im mx_239 rfl (Nat.le_of_ble_eq_true rfl)) rt_239) (zl_L (fun v3 h4 => ?_))
    refine zl_tr (r_aload_n d_238_13 rfl) ?_
    refine zl_tr (r_getI (kk := 68) d_238_14 ow_238 f_12_219 la_146 (by decide) rfl) ?_
    refine zl_tr (r_i2l d_238_17) ?_
    refine zl_tr (r_aload_n d_238_18 rfl) ?_
    refine zl_tr (r_iload_n d_238_19 rfl) ?_
    refine zl_tr (r_VI [zm_A 146, zm_I x1] d_238_20 ow_238 cal_12_482 na_235 rfl rfl (Nat.le_of_ble_eq_true rfl) (by rw [rk_235]; decide) (zr_rcv la_146 ow_235) (zr_im mx_235 rfl (Nat.le_of_ble_eq_true rfl)) (by rw [rt_235]; decide)) (zl_I (fun v5 h6 => ?_))
    refine zl_tr (r_SL [zm_L (h4 146 68), zm_I v5] d_238_23 ow_238 cal_12_485 (by decide) na_236 rfl rfl (Nat.le_of_ble_eq_true rfl) (by rw [rk_236]; decide) (zr_im mx_236 rfl (Nat.le_of_ble_eq_true rfl)) rt_236) (zl_L (fun v7 h8 => ?_))
    refine zl_tr (r_SI [zm_L v3, zm_L v7] d_238_26 ow_238 cal_12_538 (by decide) na_237 rfl rfl (Nat.le_of_ble_eq_true rfl) (by rw [rk_237]; decide) (zr_im mx_237 rfl (Nat.le_of_ble_eq_true rfl)) (by rw [rt_237]; decide)) (zl_I (fun v9 h10 => ?_))
    refine zl_tr (r_goto (tgt := 33) d_238_29 (by decide)) ?_
    exact r_iret d_238_33 rt_238
-- BranTubModel.worthOf
set_option maxRecDepth 20000 in
theorem e_239 {h : zm_H} {x1 : Int} : zl (zr none 4 239 5 [zm_A 146, zm_I x1, zm_L 0, zm_U, zm_I 0] [] h) (zc 239 [zm_A 146, zm_I x1] h) := by
  rw [zc_eq (loc := [zm_A 146, zm_I x1, zm_U, zm_U, zm_U]) (rk_239 _) rfl]
  refine zl_tr (r_lconst (z := 0) d_239_0 rfl) ?_
  refine zl_tr (r_lstore_n (loc' := [zm_A 146, zm_I x1, zm_L 0, zm_U, zm_U]) d_239_1 (Nat.le_of_ble_eq_true rfl) rfl) ?_
  refine zl_tr (r_iconst d_239_2 (by decide)) ?_
  refine zl_tr (r_istore (loc' := [zm_A 146, zm_I x1, zm_L 0, zm_U, zm_I 0]) d_239_3 (Nat.le_of_ble_eq_true rfl) rfl) ?_
  exact zl_rf
-- BranTubModel.worthOf, from 5
set_option maxRecDepth 20000 in
theorem e_239_5 {h : zm_H} {x1 : Int} {x2 : Int} {x4 : Int} : zl (zm_ck (0 ≤ (h 146 13) ∧ (h 146 13) < ((2 : Nat) : Int)) (if x4 < (h 148 (h 146 13)) then (zk_I (zc 224 [zm_A 146, zm_I x1, zm_I x4] h) (fun v1 h2 => zk_L (zc 233 [zm_A 146, zm_I x1, zm_I x4] h2) (fun v3 h4 => zm_ck (zm_i64 (v1 * v3)) (zm_ck (zm_i64 (x2 + (v1 * v3))) (zm_ck (zm_i32 (x4 + 1)) (zr none 4 239 5 [zm_A 146, zm_I x1, zm_L (x2 + (v1 * v3)), zm_U, zm_I (x4 + 1)] [] h4)))))) else (some (zm_L x2, h)))) (zr none 4 239 5 [zm_A 146, zm_I x1, zm_L x2, zm_U, zm_I x4] [] h) := by
  refine zl_tr (r_iload d_239_5 rfl) ?_
  refine zl_tr (r_aload_n d_239_7 rfl) ?_
  refine zl_tr (r_getR d_239_8 ow_239 f_12_54 la_146 (by decide) fr_146_14) ?_
  refine zl_tr (r_aload_n d_239_11 rfl) ?_
  refine zl_tr (r_getI (kk := 13) d_239_12 ow_239 f_12_51 la_146 (by decide) rfl) ?_
  refine zl_tr (r_iaload d_239_15 la_148) (zl_ck ?_)
  refine zl_tr (r_icmp_ge (tgt := 44) d_239_16 (by decide)) (zl_if ?_ ?_)
  · skip
    refine zl_tr (r_lload_n d_239_19 rfl) ?_
    refine zl_tr (r_aload_n d_239_20 rfl) ?_
    refine zl_tr (r_iload_n d_239_21 rfl) ?_
    refine zl_tr (r_iload d_239_22 rfl) ?_
    refine zl_tr (r_VI [zm_A 146, zm_I x1, zm_I x4] d_239_24 ow_239 cal_12_473 na_224 rfl rfl (Nat.le_of_ble_eq_true rfl) (by rw [rk_224]; decide) (zr_rcv la_146 ow_224) (zr_im mx_224 rfl (Nat.le_of_ble_eq_true rfl)) (by rw [rt_224]; decide)) (zl_I (fun v1 h2 => ?_))
    refine zl_tr (r_i2l d_239_27) ?_
    refine zl_tr (r_aload_n d_239_28 rfl) ?_
    refine zl_tr (r_iload_n d_239_29 rfl) ?_
    refine zl_tr (r_iload d_239_30 rfl) ?_
    refine zl_tr (r_VL [zm_A 146, zm_I x1, zm_I x4] d_239_32 ow_239 cal_12_489 na_233 rfl rfl (Nat.le_of_ble_eq_true rfl) (by rw [rk_233]; decide) (zr_rcv la_146 ow_233) (zr_im mx_233 rfl (Nat.le_of_ble_eq_true rfl)) rt_233) (zl_L (fun v3 h4 => ?_))
    refine zl_tr (r_lmul d_239_35) (zl_ck ?_)
    refine zl_tr (r_ladd d_239_36) (zl_ck ?_)
    refine zl_tr (r_lstore_n (loc' := [zm_A 146, zm_I x1, zm_L (x2 + (v1 * v3)), zm_U, zm_I x4]) d_239_37 (Nat.le_of_ble_eq_true rfl) rfl) ?_
    refine zl_tr (r_iinc (loc' := [zm_A 146, zm_I x1, zm_L (x2 + (v1 * v3)), zm_U, zm_I (x4 + 1)]) d_239_38 rfl (Nat.le_of_ble_eq_true rfl) rfl) (zl_ck ?_)
    refine zl_tr (r_goto (tgt := 5) d_239_41 (by decide)) ?_
    exact zl_rf
  · skip
    refine zl_tr (r_lload_n d_239_44 rfl) ?_
    exact r_lret d_239_45 rt_239
-- BranTubModel.comes
set_option maxRecDepth 20000 in
theorem e_240 {h : zm_H} {x1 : Int} {x2 : Int} : zl (zk_I (zc 223 [zm_A 146, zm_I x1] h) (fun v1 h2 => if v1 = 0 then (some (zm_I (-1), h2)) else (zk_I (zc 175 [zm_I x2, zm_I 0, zm_I 99] h2) (fun v3 h4 => if v3 = 0 then (some (zm_I (-1), h4)) else (zk_V (zc 225 [zm_A 146] h4) (fun h5 => zk_I (zc 241 [zm_A 146, zm_I x1, zm_I x2] h5) (fun v6 h7 => if v6 = 0 then (some (zm_I 0, h7)) else (some (zm_I 1, h7))))))))) (zc 240 [zm_A 146, zm_I x1, zm_I x2] h) := by
  rw [zc_eq (loc := [zm_A 146, zm_I x1, zm_I x2]) (rk_240 _) rfl]
  refine zl_tr (r_aload_n d_240_0 rfl) ?_
  refine zl_tr (r_iload_n d_240_1 rfl) ?_
  refine zl_tr (r_VI [zm_A 146, zm_I x1] d_240_2 ow_240 cal_12_529 na_223 rfl rfl (Nat.le_of_ble_eq_true rfl) (by rw [rk_223]; decide) (zr_rcv la_146 ow_223) (zr_im mx_223 rfl (Nat.le_of_ble_eq_true rfl)) (by rw [rt_223]; decide)) (zl_I (fun v1 h2 => ?_))
  refine zl_tr (r_if_eq (tgt := 18) d_240_5 (by decide)) (zl_if ?_ ?_)
  · skip
    refine zl_tr (r_iconst d_240_18 (by decide)) ?_
    exact r_iret d_240_19 rt_240
  · skip
    refine zl_tr (r_iload_n d_240_8 rfl) ?_
    refine zl_tr (r_iconst d_240_9 (by decide)) ?_
    refine zl_tr (r_bipush d_240_10 (by decide)) ?_
    refine zl_tr (r_SI [zm_I x2, zm_I 0, zm_I 99] d_240_12 ow_240 cal_12_335 (by decide) na_175 rfl rfl (Nat.le_of_ble_eq_true rfl) (by rw [rk_175]; decide) (zr_im mx_175 rfl (Nat.le_of_ble_eq_true rfl)) (by rw [rt_175]; decide)) (zl_I (fun v3 h4 => ?_))
    refine zl_tr (r_if_ne (tgt := 20) d_240_15 (by decide)) (zl_if ?_ ?_)
    · skip
      refine zl_tr (r_iconst d_240_18 (by decide)) ?_
      exact r_iret d_240_19 rt_240
    · skip
      refine zl_tr (r_aload_n d_240_20 rfl) ?_
      refine zl_tr (r_VV [zm_A 146] d_240_21 ow_240 cal_12_532 na_225 rfl rfl (Nat.le_of_ble_eq_true rfl) (by rw [rk_225]; decide) (zr_rcv la_146 ow_225) (zr_im mx_225 rfl (Nat.le_of_ble_eq_true rfl)) rt_225) (zl_V (fun h5 => ?_))
      refine zl_tr (r_aload_n d_240_24 rfl) ?_
      refine zl_tr (r_iload_n d_240_25 rfl) ?_
      refine zl_tr (r_iload_n d_240_26 rfl) ?_
      refine zl_tr (r_VI [zm_A 146, zm_I x1, zm_I x2] d_240_27 ow_240 cal_12_545 na_241 rfl rfl (Nat.le_of_ble_eq_true rfl) (by rw [rk_241]; decide) (zr_rcv la_146 ow_241) (zr_im mx_241 rfl (Nat.le_of_ble_eq_true rfl)) (by rw [rt_241]; decide)) (zl_I (fun v6 h7 => ?_))
      refine zl_tr (r_if_eq (tgt := 37) d_240_30 (by decide)) (zl_if ?_ ?_)
      · skip
        refine zl_tr (r_iconst d_240_37 (by decide)) ?_
        exact r_iret d_240_38 rt_240
      · skip
        refine zl_tr (r_iconst d_240_33 (by decide)) ?_
        refine zl_tr (r_goto (tgt := 38) d_240_34 (by decide)) ?_
        exact r_iret d_240_38 rt_240
-- BranTubModel.comesAt
set_option maxRecDepth 20000 in
theorem e_241 {h : zm_H} {x1 : Int} {x2 : Int} : zl (zk_I (zc 242 [zm_A 146, zm_I 0, zm_I x1] h) (fun v1 h2 => if v1 = (-1) then (zm_ck (zm_bit 0) (some (zm_I 0, h2))) else (if v1 < x2 then (zm_ck (zm_bit 0) (some (zm_I 0, h2))) else (zm_ck (0 ≤ x1 ∧ x1 < ((176 : Nat) : Int)) (if (h2 177 x1) < x2 then (zm_ck (zm_bit 0) (some (zm_I 0, h2))) else (zm_ck (zm_bit 1) (some (zm_I 1, h2)))))))) (zc 241 [zm_A 146, zm_I x1, zm_I x2] h) := by
  rw [zc_eq (loc := [zm_A 146, zm_I x1, zm_I x2, zm_U]) (rk_241 _) rfl]
  refine zl_tr (r_aload_n d_241_0 rfl) ?_
  refine zl_tr (r_iconst d_241_1 (by decide)) ?_
  refine zl_tr (r_iload_n d_241_2 rfl) ?_
  refine zl_tr (r_VI [zm_A 146, zm_I 0, zm_I x1] d_241_3 ow_241 cal_12_542 na_242 rfl rfl (Nat.le_of_ble_eq_true rfl) (by rw [rk_242]; decide) (zr_rcv la_146 ow_242) (zr_im mx_242 rfl (Nat.le_of_ble_eq_true rfl)) (by rw [rt_242]; decide)) (zl_I (fun v1 h2 => ?_))
  refine zl_tr (r_istore_n (loc' := [zm_A 146, zm_I x1, zm_I x2, zm_I v1]) d_241_6 (Nat.le_of_ble_eq_true rfl) rfl) ?_
  refine zl_tr (r_iload_n d_241_7 rfl) ?_
  refine zl_tr (r_iconst d_241_8 (by decide)) ?_
  refine zl_tr (r_icmp_eq (tgt := 31) d_241_9 (by decide)) (zl_if ?_ ?_)
  · skip
    refine zl_tr (r_iconst d_241_31 (by decide)) ?_
    exact r_zret d_241_32 rt_241
  · skip
    refine zl_tr (r_iload_n d_241_12 rfl) ?_
    refine zl_tr (r_iload_n d_241_13 rfl) ?_
    refine zl_tr (r_icmp_gt (tgt := 31) d_241_14 (by decide)) (zl_if ?_ ?_)
    · skip
      refine zl_tr (r_iconst d_241_31 (by decide)) ?_
      exact r_zret d_241_32 rt_241
    · skip
      refine zl_tr (r_iload_n d_241_17 rfl) ?_
      refine zl_tr (r_aload_n d_241_18 rfl) ?_
      refine zl_tr (r_getR d_241_19 ow_241 f_12_162 la_146 (by decide) fr_146_49) ?_
      refine zl_tr (r_iload_n d_241_22 rfl) ?_
      refine zl_tr (r_iaload d_241_23 la_177) (zl_ck ?_)
      refine zl_tr (r_icmp_gt (tgt := 31) d_241_24 (by decide)) (zl_if ?_ ?_)
      · skip
        refine zl_tr (r_iconst d_241_31 (by decide)) ?_
        exact r_zret d_241_32 rt_241
      · skip
        refine zl_tr (r_iconst d_241_27 (by decide)) ?_
        refine zl_tr (r_goto (tgt := 32) d_241_28 (by decide)) ?_
        exact r_zret d_241_32 rt_241
-- BranTubModel.floorOf
set_option maxRecDepth 20000 in
theorem e_242 {h : zm_H} {x1 : Int} {x2 : Int} : zl (zk_V (zc 226 [zm_A 146, zm_I x1, zm_I x2] h) (fun h1 => if (h1 146 68) = 0 then (some (zm_I (-1), h1)) else (zk_L (zc 239 [zm_A 146, zm_I x2] h1) (fun v2 h3 => zk_I (zc 235 [zm_A 146, zm_I x2] h3) (fun v4 h5 => zk_L (zc 236 [zm_L (h3 146 68), zm_I v4] h5) (fun v6 h7 => zm_ck ((v6 : Int) ≠ 0 ∧ zm_i64 (v2.tdiv v6)) (zm_ck (zm_i32 (v2.tdiv v6)) (some (zm_I (v2.tdiv v6), h7))))))))) (zc 242 [zm_A 146, zm_I x1, zm_I x2] h) := by
  rw [zc_eq (loc := [zm_A 146, zm_I x1, zm_I x2]) (rk_242 _) rfl]
  refine zl_tr (r_aload_n d_242_0 rfl) ?_
  refine zl_tr (r_iload_n d_242_1 rfl) ?_
  refine zl_tr (r_iload_n d_242_2 rfl) ?_
  refine zl_tr (r_VV [zm_A 146, zm_I x1, zm_I x2] d_242_3 ow_242 cal_12_494 na_226 rfl rfl (Nat.le_of_ble_eq_true rfl) (by rw [rk_226]; decide) (zr_rcv la_146 ow_226) (zr_im mx_226 rfl (Nat.le_of_ble_eq_true rfl)) rt_226) (zl_V (fun h1 => ?_))
  refine zl_tr (r_aload_n d_242_6 rfl) ?_
  refine zl_tr (r_getI (kk := 68) d_242_7 ow_242 f_12_219 la_146 (by decide) rfl) ?_
  refine zl_tr (r_if_ne (tgt := 17) d_242_10 (by decide)) (zl_if ?_ ?_)
  · skip
    refine zl_tr (r_iconst d_242_13 (by decide)) ?_
    refine zl_tr (r_goto (tgt := 37) d_242_14 (by decide)) ?_
    exact r_iret d_242_37 rt_242
  · skip
    refine zl_tr (r_aload_n d_242_17 rfl) ?_
    refine zl_tr (r_iload_n d_242_18 rfl) ?_
    refine zl_tr (r_VL [zm_A 146, zm_I x2] d_242_19 ow_242 cal_12_497 na_239 rfl rfl (Nat.le_of_ble_eq_true rfl) (by rw [rk_239]; decide) (zr_rcv la_146 ow_239) (zr_im mx_239 rfl (Nat.le_of_ble_eq_true rfl)) rt_239) (zl_L (fun v2 h3 => ?_))
    refine zl_tr (r_aload_n d_242_22 rfl) ?_
    refine zl_tr (r_getI (kk := 68) d_242_23 ow_242 f_12_219 la_146 (by decide) rfl) ?_
    refine zl_tr (r_i2l d_242_26) ?_
    refine zl_tr (r_aload_n d_242_27 rfl) ?_
    refine zl_tr (r_iload_n d_242_28 rfl) ?_
    refine zl_tr (r_VI [zm_A 146, zm_I x2] d_242_29 ow_242 cal_12_482 na_235 rfl rfl (Nat.le_of_ble_eq_true rfl) (by rw [rk_235]; decide) (zr_rcv la_146 ow_235) (zr_im mx_235 rfl (Nat.le_of_ble_eq_true rfl)) (by rw [rt_235]; decide)) (zl_I (fun v4 h5 => ?_))
    refine zl_tr (r_SL [zm_L (h3 146 68), zm_I v4] d_242_32 ow_242 cal_12_485 (by decide) na_236 rfl rfl (Nat.le_of_ble_eq_true rfl) (by rw [rk_236]; decide) (zr_im mx_236 rfl (Nat.le_of_ble_eq_true rfl)) rt_236) (zl_L (fun v6 h7 => ?_))
    refine zl_tr (r_ldiv d_242_35) (zl_ck ?_)
    refine zl_tr (r_l2i d_242_36) (zl_ck ?_)
    exact r_iret d_242_37 rt_242
-- BranTubModel.price
set_option maxRecDepth 20000 in
theorem e_243 {h : zm_H} {x1 : Int} : zl (zk_I (zc 175 [zm_I x1, zm_I 0, zm_I 1] h) (fun v1 h2 => if v1 = 0 then (some (zm_I (-1), h2)) else (zk_V (zc 225 [zm_A 146] h2) (fun h3 => zr none 8 243 22 [zm_A 146, zm_I x1, zm_I 0, zm_I 0, zm_I 1, zm_U, zm_U] [] h3)))) (zc 243 [zm_A 146, zm_I x1] h) := by
  rw [zc_eq (loc := [zm_A 146, zm_I x1, zm_U, zm_U, zm_U, zm_U, zm_U]) (rk_243 _) rfl]
  refine zl_tr (r_iload_n d_243_0 rfl) ?_
  refine zl_tr (r_iconst d_243_1 (by decide)) ?_
  refine zl_tr (r_iconst d_243_2 (by decide)) ?_
  refine zl_tr (r_SI [zm_I x1, zm_I 0, zm_I 1] d_243_3 ow_243 cal_12_335 (by decide) na_175 rfl rfl (Nat.le_of_ble_eq_true rfl) (by rw [rk_175]; decide) (zr_im mx_175 rfl (Nat.le_of_ble_eq_true rfl)) (by rw [rt_175]; decide)) (zl_I (fun v1 h2 => ?_))
  refine zl_tr (r_if_ne (tgt := 11) d_243_6 (by decide)) (zl_if ?_ ?_)
  · skip
    refine zl_tr (r_iconst d_243_9 (by decide)) ?_
    exact r_iret d_243_10 rt_243
  · skip
    refine zl_tr (r_aload_n d_243_11 rfl) ?_
    refine zl_tr (r_VV [zm_A 146] d_243_12 ow_243 cal_12_532 na_225 rfl rfl (Nat.le_of_ble_eq_true rfl) (by rw [rk_225]; decide) (zr_rcv la_146 ow_225) (zr_im mx_225 rfl (Nat.le_of_ble_eq_true rfl)) rt_225) (zl_V (fun h3 => ?_))
    refine zl_tr (r_iconst d_243_15 (by decide)) ?_
    refine zl_tr (r_istore_n (loc' := [zm_A 146, zm_I x1, zm_I 0, zm_U, zm_U, zm_U, zm_U]) d_243_16 (Nat.le_of_ble_eq_true rfl) rfl) ?_
    refine zl_tr (r_iconst d_243_17 (by decide)) ?_
    refine zl_tr (r_istore_n (loc' := [zm_A 146, zm_I x1, zm_I 0, zm_I 0, zm_U, zm_U, zm_U]) d_243_18 (Nat.le_of_ble_eq_true rfl) rfl) ?_
    refine zl_tr (r_iconst d_243_19 (by decide)) ?_
    refine zl_tr (r_istore (loc' := [zm_A 146, zm_I x1, zm_I 0, zm_I 0, zm_I 1, zm_U, zm_U]) d_243_20 (Nat.le_of_ble_eq_true rfl) rfl) ?_
    exact zl_rf
-- BranTubModel.price, from 22
set_option maxRecDepth 20000 in
theorem e_243_22 {h : zm_H} {x1 : Int} {x2 : Int} {x3 : Int} {x4 : Int} {w5 : zm_V} {w6 : zm_V} : zl (if 99 < x4 then (if x1 = 0 then (some (zm_I x2, h)) else (some (zm_I x3, h))) else (zr none 8 243 35 [zm_A 146, zm_I x1, zm_I x2, zm_I x3, zm_I x4, zm_I 0, zm_I 0] [] h)) (zr none 8 243 22 [zm_A 146, zm_I x1, zm_I x2, zm_I x3, zm_I x4, w5, w6] [] h) := by
  refine zl_tr (r_iload d_243_22 rfl) ?_
  refine zl_tr (r_bipush d_243_24 (by decide)) ?_
  refine zl_tr (r_icmp_gt (tgt := 98) d_243_26 (by decide)) (zl_if ?_ ?_)
  · skip
    refine zl_tr (r_iload_n d_243_98 rfl) ?_
    refine zl_tr (r_if_ne (tgt := 106) d_243_99 (by decide)) (zl_if ?_ ?_)
    · skip
      refine zl_tr (r_iload_n d_243_102 rfl) ?_
      refine zl_tr (r_goto (tgt := 107) d_243_103 (by decide)) ?_
      exact r_iret d_243_107 rt_243
    · skip
      refine zl_tr (r_iload_n d_243_106 rfl) ?_
      exact r_iret d_243_107 rt_243
  · skip
    refine zl_tr (r_iconst d_243_29 (by decide)) ?_
    refine zl_tr (r_istore (loc' := [zm_A 146, zm_I x1, zm_I x2, zm_I x3, zm_I x4, zm_I 0, w6]) d_243_30 (Nat.le_of_ble_eq_true rfl) rfl) ?_
    refine zl_tr (r_iconst d_243_32 (by decide)) ?_
    refine zl_tr (r_istore (loc' := [zm_A 146, zm_I x1, zm_I x2, zm_I x3, zm_I x4, zm_I 0, zm_I 0]) d_243_33 (Nat.le_of_ble_eq_true rfl) rfl) ?_
    exact zl_rf
-- BranTubModel.price, from 35
set_option maxRecDepth 20000 in
theorem e_243_35 {h : zm_H} {x1 : Int} {x2 : Int} {x3 : Int} {x4 : Int} {x5 : Int} {x6 : Int} : zl (zm_ck (0 ≤ (h 146 13) ∧ (h 146 13) < ((2 : Nat) : Int)) (if x6 < (h 153 (h 146 13)) then (zk_I (zc 241 [zm_A 146, zm_I x6, zm_I x4] h) (fun v1 h2 => if v1 = 0 then (zm_ck (zm_i32 (x5 + 0)) (zm_ck (zm_i32 (x6 + 1)) (zr none 8 243 35 [zm_A 146, zm_I x1, zm_I x2, zm_I x3, zm_I x4, zm_I (x5 + 0), zm_I (x6 + 1)] [] h2))) else (zm_ck (zm_i32 (x5 + x4)) (zm_ck (zm_i32 (x6 + 1)) (zr none 8 243 35 [zm_A 146, zm_I x1, zm_I x2, zm_I x3, zm_I x4, zm_I (x5 + x4), zm_I (x6 + 1)] [] h2))))) else (if x3 < x5 then (zm_ck (zm_i32 (x4 + 1)) (zr none 8 243 22 [zm_A 146, zm_I x1, zm_I x4, zm_I x5, zm_I (x4 + 1), zm_I x5, zm_I x6] [] h)) else (zm_ck (zm_i32 (x4 + 1)) (zr none 8 243 22 [zm_A 146, zm_I x1, zm_I x2, zm_I x3, zm_I (x4 + 1), zm_I x5, zm_I x6] [] h))))) (zr none 8 243 35 [zm_A 146, zm_I x1, zm_I x2, zm_I x3, zm_I x4, zm_I x5, zm_I x6] [] h) := by
  refine zl_tr (r_iload d_243_35 rfl) ?_
  refine zl_tr (r_aload_n d_243_37 rfl) ?_
  refine zl_tr (r_getR d_243_38 ow_243 f_12_69 la_146 (by decide) fr_146_19) ?_
  refine zl_tr (r_aload_n d_243_41 rfl) ?_
  refine zl_tr (r_getI (kk := 13) d_243_42 ow_243 f_12_51 la_146 (by decide) rfl) ?_
  refine zl_tr (r_iaload d_243_45 la_153) (zl_ck ?_)
  refine zl_tr (r_icmp_ge (tgt := 77) d_243_46 (by decide)) (zl_if ?_ ?_)
  · skip
    refine zl_tr (r_iload d_243_49 rfl) ?_
    refine zl_tr (r_aload_n d_243_51 rfl) ?_
    refine zl_tr (r_iload d_243_52 rfl) ?_
    refine zl_tr (r_iload d_243_54 rfl) ?_
    refine zl_tr (r_VI [zm_A 146, zm_I x6, zm_I x4] d_243_56 ow_243 cal_12_545 na_241 rfl rfl (Nat.le_of_ble_eq_true rfl) (by rw [rk_241]; decide) (zr_rcv la_146 ow_241) (zr_im mx_241 rfl (Nat.le_of_ble_eq_true rfl)) (by rw [rt_241]; decide)) (zl_I (fun v1 h2 => ?_))
    refine zl_tr (r_if_eq (tgt := 67) d_243_59 (by decide)) (zl_if ?_ ?_)
    · skip
      refine zl_tr (r_iconst d_243_67 (by decide)) ?_
      refine zl_tr (r_iadd d_243_68) (zl_ck ?_)
      refine zl_tr (r_istore (loc' := [zm_A 146, zm_I x1, zm_I x2, zm_I x3, zm_I x4, zm_I (x5 + 0), zm_I x6]) d_243_69 (Nat.le_of_ble_eq_true rfl) rfl) ?_
      refine zl_tr (r_iinc (loc' := [zm_A 146, zm_I x1, zm_I x2, zm_I x3, zm_I x4, zm_I (x5 + 0), zm_I (x6 + 1)]) d_243_71 rfl (Nat.le_of_ble_eq_true rfl) rfl) (zl_ck ?_)
      refine zl_tr (r_goto (tgt := 35) d_243_74 (by decide)) ?_
      exact zl_rf
    · skip
      refine zl_tr (r_iload d_243_62 rfl) ?_
      refine zl_tr (r_goto (tgt := 68) d_243_64 (by decide)) ?_
      refine zl_tr (r_iadd d_243_68) (zl_ck ?_)
      refine zl_tr (r_istore (loc' := [zm_A 146, zm_I x1, zm_I x2, zm_I x3, zm_I x4, zm_I (x5 + x4), zm_I x6]) d_243_69 (Nat.le_of_ble_eq_true rfl) rfl) ?_
      refine zl_tr (r_iinc (loc' := [zm_A 146, zm_I x1, zm_I x2, zm_I x3, zm_I x4, zm_I (x5 + x4), zm_I (x6 + 1)]) d_243_71 rfl (Nat.le_of_ble_eq_true rfl) rfl) (zl_ck ?_)
      refine zl_tr (r_goto (tgt := 35) d_243_74 (by decide)) ?_
      exact zl_rf
  · skip
    refine zl_tr (r_iload d_243_77 rfl) ?_
    refine zl_tr (r_iload_n d_243_79 rfl) ?_
    refine zl_tr (r_icmp_gt (tgt := 86) d_243_80 (by decide)) (zl_if ?_ ?_)
    · skip
      refine zl_tr (r_iload d_243_86 rfl) ?_
      refine zl_tr (r_istore_n (loc' := [zm_A 146, zm_I x1, zm_I x2, zm_I x5, zm_I x4, zm_I x5, zm_I x6]) d_243_88 (Nat.le_of_ble_eq_true rfl) rfl) ?_
      refine zl_tr (r_iload d_243_89 rfl) ?_
      refine zl_tr (r_istore_n (loc' := [zm_A 146, zm_I x1, zm_I x4, zm_I x5, zm_I x4, zm_I x5, zm_I x6]) d_243_91 (Nat.le_of_ble_eq_true rfl) rfl) ?_
      refine zl_tr (r_iinc (loc' := [zm_A 146, zm_I x1, zm_I x4, zm_I x5, zm_I (x4 + 1), zm_I x5, zm_I x6]) d_243_92 rfl (Nat.le_of_ble_eq_true rfl) rfl) (zl_ck ?_)
      refine zl_tr (r_goto (tgt := 22) d_243_95 (by decide)) ?_
      exact zl_rf
    · skip
      refine zl_tr (r_goto (tgt := 92) d_243_83 (by decide)) ?_
      refine zl_tr (r_iinc (loc' := [zm_A 146, zm_I x1, zm_I x2, zm_I x3, zm_I (x4 + 1), zm_I x5, zm_I x6]) d_243_92 rfl (Nat.le_of_ble_eq_true rfl) rfl) (zl_ck ?_)
      refine zl_tr (r_goto (tgt := 22) d_243_95 (by decide)) ?_
      exact zl_rf
-- BranTubModel.laid
set_option maxRecDepth 20000 in
theorem e_244 {h : zm_H} {x1 : Int} {x2 : Int} : zl (zk_I (zc 223 [zm_A 146, zm_I x1] h) (fun v1 h2 => if v1 = 0 then (some (zm_I (-1), h2)) else (zk_I (zc 204 [zm_A 146, zm_I 0] h2) (fun v3 h4 => if v3 = 0 then (some (zm_I (-1), h4)) else (if x2 = (-1) then (zr none 6 244 36 [zm_A 146, zm_I x1, zm_I x2, zm_I 1, zm_I 0, zm_U, zm_U, zm_U] [] h4) else (zk_I (zc 221 [zm_A 146, zm_I x2] h4) (fun v5 h6 => if v5 = 0 then (some (zm_I (-1), h6)) else (zr none 6 244 36 [zm_A 146, zm_I x1, zm_I x2, zm_I 1, zm_I 0, zm_U, zm_U, zm_U] [] h6)))))))) (zc 244 [zm_A 146, zm_I x1, zm_I x2] h) := by
  rw [zc_eq (loc := [zm_A 146, zm_I x1, zm_I x2, zm_U, zm_U, zm_U, zm_U, zm_U]) (rk_244 _) rfl]
  refine zl_tr (r_aload_n d_244_0 rfl) ?_
  refine zl_tr (r_iload_n d_244_1 rfl) ?_
  refine zl_tr (r_VI [zm_A 146, zm_I x1] d_244_2 ow_244 cal_12_529 na_223 rfl rfl (Nat.le_of_ble_eq_true rfl) (by rw [rk_223]; decide) (zr_rcv la_146 ow_223) (zr_im mx_223 rfl (Nat.le_of_ble_eq_true rfl)) (by rw [rt_223]; decide)) (zl_I (fun v1 h2 => ?_))
  refine zl_tr (r_if_eq (tgt := 29) d_244_5 (by decide)) (zl_if ?_ ?_)
  · skip
    refine zl_tr (r_iconst d_244_29 (by decide)) ?_
    exact r_iret d_244_30 rt_244
  · skip
    refine zl_tr (r_aload_n d_244_8 rfl) ?_
    refine zl_tr (r_iconst d_244_9 (by decide)) ?_
    refine zl_tr (r_VI [zm_A 146, zm_I 0] d_244_10 ow_244 cal_12_501 na_204 rfl rfl (Nat.le_of_ble_eq_true rfl) (by rw [rk_204]; decide) (zr_rcv la_146 ow_204) (zr_im mx_204 rfl (Nat.le_of_ble_eq_true rfl)) (by rw [rt_204]; decide)) (zl_I (fun v3 h4 => ?_))
    refine zl_tr (r_if_eq (tgt := 29) d_244_13 (by decide)) (zl_if ?_ ?_)
    · skip
      refine zl_tr (r_iconst d_244_29 (by decide)) ?_
      exact r_iret d_244_30 rt_244
    · skip
      refine zl_tr (r_iload_n d_244_16 rfl) ?_
      refine zl_tr (r_iconst d_244_17 (by decide)) ?_
      refine zl_tr (r_icmp_eq (tgt := 31) d_244_18 (by decide)) (zl_if ?_ ?_)
      · skip
        refine zl_tr (r_iconst d_244_31 (by decide)) ?_
        refine zl_tr (r_istore_n (loc' := [zm_A 146, zm_I x1, zm_I x2, zm_I 1, zm_U, zm_U, zm_U, zm_U]) d_244_32 (Nat.le_of_ble_eq_true rfl) rfl) ?_
        refine zl_tr (r_iconst d_244_33 (by decide)) ?_
        refine zl_tr (r_istore (loc' := [zm_A 146, zm_I x1, zm_I x2, zm_I 1, zm_I 0, zm_U, zm_U, zm_U]) d_244_34 (Nat.le_of_ble_eq_true rfl) rfl) ?_
        exact zl_rf
      · skip
        refine zl_tr (r_aload_n d_244_21 rfl) ?_
        refine zl_tr (r_iload_n d_244_22 rfl) ?_
        refine zl_tr (r_VI [zm_A 146, zm_I x2] d_244_23 ow_244 cal_12_526 na_221 rfl rfl (Nat.le_of_ble_eq_true rfl) (by rw [rk_221]; decide) (zr_rcv la_146 ow_221) (zr_im mx_221 rfl (Nat.le_of_ble_eq_true rfl)) (by rw [rt_221]; decide)) (zl_I (fun v5 h6 => ?_))
        refine zl_tr (r_if_ne (tgt := 31) d_244_26 (by decide)) (zl_if ?_ ?_)
        · skip
          refine zl_tr (r_iconst d_244_29 (by decide)) ?_
          exact r_iret d_244_30 rt_244
        · skip
          refine zl_tr (r_iconst d_244_31 (by decide)) ?_
          refine zl_tr (r_istore_n (loc' := [zm_A 146, zm_I x1, zm_I x2, zm_I 1, zm_U, zm_U, zm_U, zm_U]) d_244_32 (Nat.le_of_ble_eq_true rfl) rfl) ?_
          refine zl_tr (r_iconst d_244_33 (by decide)) ?_
          refine zl_tr (r_istore (loc' := [zm_A 146, zm_I x1, zm_I x2, zm_I 1, zm_I 0, zm_U, zm_U, zm_U]) d_244_34 (Nat.le_of_ble_eq_true rfl) rfl) ?_
          exact zl_rf
-- BranTubModel.laid, from 36
set_option maxRecDepth 20000 in
theorem e_244_36 {h : zm_H} {x1 : Int} {x2 : Int} {x3 : Int} {x4 : Int} {w5 : zm_V} {w6 : zm_V} {w7 : zm_V} : zl (zm_ck (0 ≤ (h 146 13) ∧ (h 146 13) < ((2 : Nat) : Int)) (if x4 < (h 151 (h 146 13)) then (zm_ck (0 ≤ (h 146 13) ∧ (h 146 13) < ((2 : Nat) : Int)) (zm_ck (zm_i32 (x3 * (h 151 (h 146 13)))) (zm_ck (zm_i32 (x4 + 1)) (zr none 6 244 36 [zm_A 146, zm_I x1, zm_I x2, zm_I (x3 * (h 151 (h 146 13))), zm_I (x4 + 1), w5, w6, w7] [] h)))) else (zr none 6 244 74 [zm_A 146, zm_I x1, zm_I x2, zm_I x3, zm_I (-1), zm_I 0, w6, w7] [] h))) (zr none 6 244 36 [zm_A 146, zm_I x1, zm_I x2, zm_I x3, zm_I x4, w5, w6, w7] [] h) := by
  refine zl_tr (r_iload d_244_36 rfl) ?_
  refine zl_tr (r_aload_n d_244_38 rfl) ?_
  refine zl_tr (r_getR d_244_39 ow_244 f_12_63 la_146 (by decide) fr_146_17) ?_
  refine zl_tr (r_aload_n d_244_42 rfl) ?_
  refine zl_tr (r_getI (kk := 13) d_244_43 ow_244 f_12_51 la_146 (by decide) rfl) ?_
  refine zl_tr (r_iaload d_244_46 la_151) (zl_ck ?_)
  refine zl_tr (r_icmp_ge (tgt := 68) d_244_47 (by decide)) (zl_if ?_ ?_)
  · skip
    refine zl_tr (r_iload_n d_244_50 rfl) ?_
    refine zl_tr (r_aload_n d_244_51 rfl) ?_
    refine zl_tr (r_getR d_244_52 ow_244 f_12_63 la_146 (by decide) fr_146_17) ?_
    refine zl_tr (r_aload_n d_244_55 rfl) ?_
    refine zl_tr (r_getI (kk := 13) d_244_56 ow_244 f_12_51 la_146 (by decide) rfl) ?_
    refine zl_tr (r_iaload d_244_59 la_151) (zl_ck ?_)
    refine zl_tr (r_imul d_244_60) (zl_ck ?_)
    refine zl_tr (r_istore_n (loc' := [zm_A 146, zm_I x1, zm_I x2, zm_I (x3 * (h 151 (h 146 13))), zm_I x4, w5, w6, w7]) d_244_61 (Nat.le_of_ble_eq_true rfl) rfl) ?_
    refine zl_tr (r_iinc (loc' := [zm_A 146, zm_I x1, zm_I x2, zm_I (x3 * (h 151 (h 146 13))), zm_I (x4 + 1), w5, w6, w7]) d_244_62 rfl (Nat.le_of_ble_eq_true rfl) rfl) (zl_ck ?_)
    refine zl_tr (r_goto (tgt := 36) d_244_65 (by decide)) ?_
    exact zl_rf
  · skip
    refine zl_tr (r_iconst d_244_68 (by decide)) ?_
    refine zl_tr (r_istore (loc' := [zm_A 146, zm_I x1, zm_I x2, zm_I x3, zm_I (-1), w5, w6, w7]) d_244_69 (Nat.le_of_ble_eq_true rfl) rfl) ?_
    refine zl_tr (r_iconst d_244_71 (by decide)) ?_
    refine zl_tr (r_istore (loc' := [zm_A 146, zm_I x1, zm_I x2, zm_I x3, zm_I (-1), zm_I 0, w6, w7]) d_244_72 (Nat.le_of_ble_eq_true rfl) rfl) ?_
    exact zl_rf
-- BranTubModel.laid, from 74
set_option maxRecDepth 20000 in
theorem e_244_74 {h : zm_H} {x1 : Int} {x2 : Int} {x3 : Int} {x4 : Int} {x5 : Int} {w6 : zm_V} {w7 : zm_V} : zl (if x5 < x3 then (zk_I (zc 245 [zm_A 146, zm_I x5] h) (fun v1 h2 => if v1 = 0 then (zm_ck (zm_i32 (x5 + 1)) (zr none 6 244 74 [zm_A 146, zm_I x1, zm_I x2, zm_I x3, zm_I x4, zm_I (x5 + 1), w6, w7] [] h2)) else (zk_V (zc 226 [zm_A 146, zm_I 0, zm_I x1] h2) (fun h3 => zk_L (zc 239 [zm_A 146, zm_I x1] h3) (fun v4 h5 => zk_I (zc 235 [zm_A 146, zm_I x1] h5) (fun v6 h7 => zk_L (zc 236 [zm_L (h5 146 68), zm_I v6] h7) (fun v8 h9 => zk_I (zc 237 [zm_L v4, zm_L v8] h9) (fun v10 h11 => if x4 < v10 then (zr none 6 244 138 [zm_A 146, zm_I x1, zm_I x2, zm_I x3, zm_I v10, zm_I x5, zm_I v10, zm_I 0] [] h11) else (zm_ck (zm_i32 (x5 + 1)) (zr none 6 244 74 [zm_A 146, zm_I x1, zm_I x2, zm_I x3, zm_I x4, zm_I (x5 + 1), zm_I v10, w7] [] h11)))))))))) else (if x2 = (-1) then (some (zm_I x4, h)) else (zm_ck (0 ≤ x2 ∧ x2 < ((5 : Nat) : Int)) (some (zm_I (h 187 x2), h))))) (zr none 6 244 74 [zm_A 146, zm_I x1, zm_I x2, zm_I x3, zm_I x4, zm_I x5, w6, w7] [] h) := by
  refine zl_tr (r_iload d_244_74 rfl) ?_
  refine zl_tr (r_iload_n d_244_76 rfl) ?_
  refine zl_tr (r_icmp_ge (tgt := 178) d_244_77 (by decide)) (zl_if ?_ ?_)
  · skip
    refine zl_tr (r_aload_n d_244_80 rfl) ?_
    refine zl_tr (r_iload d_244_81 rfl) ?_
    refine zl_tr (r_VI [zm_A 146, zm_I x5] d_244_83 ow_244 cal_12_549 na_245 rfl rfl (Nat.le_of_ble_eq_true rfl) (by rw [rk_245]; decide) (zr_rcv la_146 ow_245) (zr_im mx_245 rfl (Nat.le_of_ble_eq_true rfl)) (by rw [rt_245]; decide)) (zl_I (fun v1 h2 => ?_))
    refine zl_tr (r_if_ne (tgt := 92) d_244_86 (by decide)) (zl_if ?_ ?_)
    · skip
      refine zl_tr (r_goto (tgt := 172) d_244_89 (by decide)) ?_
      refine zl_tr (r_iinc (loc' := [zm_A 146, zm_I x1, zm_I x2, zm_I x3, zm_I x4, zm_I (x5 + 1), w6, w7]) d_244_172 rfl (Nat.le_of_ble_eq_true rfl) rfl) (zl_ck ?_)
      refine zl_tr (r_goto (tgt := 74) d_244_175 (by decide)) ?_
      exact zl_rf
    · skip
      refine zl_tr (r_aload_n d_244_92 rfl) ?_
      refine zl_tr (r_iconst d_244_93 (by decide)) ?_
      refine zl_tr (r_iload_n d_244_94 rfl) ?_
      refine zl_tr (r_VV [zm_A 146, zm_I 0, zm_I x1] d_244_95 ow_244 cal_12_494 na_226 rfl rfl (Nat.le_of_ble_eq_true rfl) (by rw [rk_226]; decide) (zr_rcv la_146 ow_226) (zr_im mx_226 rfl (Nat.le_of_ble_eq_true rfl)) rt_226) (zl_V (fun h3 => ?_))
      refine zl_tr (r_aload_n d_244_98 rfl) ?_
      refine zl_tr (r_iload_n d_244_99 rfl) ?_
      refine zl_tr (r_VL [zm_A 146, zm_I x1] d_244_100 ow_244 cal_12_497 na_239 rfl rfl (Nat.le_of_ble_eq_true rfl) (by rw [rk_239]; decide) (zr_rcv la_146 ow_239) (zr_im mx_239 rfl (Nat.le_of_ble_eq_true rfl)) rt_239) (zl_L (fun v4 h5 => ?_))
      refine zl_tr (r_aload_n d_244_103 rfl) ?_
      refine zl_tr (r_getI (kk := 68) d_244_104 ow_244 f_12_219 la_146 (by decide) rfl) ?_
      refine zl_tr (r_i2l d_244_107) ?_
      refine zl_tr (r_aload_n d_244_108 rfl) ?_
      refine zl_tr (r_iload_n d_244_109 rfl) ?_
      refine zl_tr (r_VI [zm_A 146, zm_I x1] d_244_110 ow_244 cal_12_482 na_235 rfl rfl (Nat.le_of_ble_eq_true rfl) (by rw [rk_235]; decide) (zr_rcv la_146 ow_235) (zr_im mx_235 rfl (Nat.le_of_ble_eq_true rfl)) (by rw [rt_235]; decide)) (zl_I (fun v6 h7 => ?_))
      refine zl_tr (r_SL [zm_L (h5 146 68), zm_I v6] d_244_113 ow_244 cal_12_485 (by decide) na_236 rfl rfl (Nat.le_of_ble_eq_true rfl) (by rw [rk_236]; decide) (zr_im mx_236 rfl (Nat.le_of_ble_eq_true rfl)) rt_236) (zl_L (fun v8 h9 => ?_))
      refine zl_tr (r_SI [zm_L v4, zm_L v8] d_244_116 ow_244 cal_12_538 (by decide) na_237 rfl rfl (Nat.le_of_ble_eq_true rfl) (by rw [rk_237]; decide) (zr_im mx_237 rfl (Nat.le_of_ble_eq_true rfl)) (by rw [rt_237]; decide)) (zl_I (fun v10 h11 => ?_))
      refine zl_tr (r_istore (loc' := [zm_A 146, zm_I x1, zm_I x2, zm_I x3, zm_I x4, zm_I x5, zm_I v10, w7]) d_244_119 (Nat.le_of_ble_eq_true rfl) rfl) ?_
      refine zl_tr (r_iload d_244_121 rfl) ?_
      refine zl_tr (r_iload d_244_123 rfl) ?_
      refine zl_tr (r_icmp_gt (tgt := 131) d_244_125 (by decide)) (zl_if ?_ ?_)
      · skip
        refine zl_tr (r_iload d_244_131 rfl) ?_
        refine zl_tr (r_istore (loc' := [zm_A 146, zm_I x1, zm_I x2, zm_I x3, zm_I v10, zm_I x5, zm_I v10, w7]) d_244_133 (Nat.le_of_ble_eq_true rfl) rfl) ?_
        refine zl_tr (r_iconst d_244_135 (by decide)) ?_
        refine zl_tr (r_istore (loc' := [zm_A 146, zm_I x1, zm_I x2, zm_I x3, zm_I v10, zm_I x5, zm_I v10, zm_I 0]) d_244_136 (Nat.le_of_ble_eq_true rfl) rfl) ?_
        exact zl_rf
      · skip
        refine zl_tr (r_goto (tgt := 172) d_244_128 (by decide)) ?_
        refine zl_tr (r_iinc (loc' := [zm_A 146, zm_I x1, zm_I x2, zm_I x3, zm_I x4, zm_I (x5 + 1), zm_I v10, w7]) d_244_172 rfl (Nat.le_of_ble_eq_true rfl) rfl) (zl_ck ?_)
        refine zl_tr (r_goto (tgt := 74) d_244_175 (by decide)) ?_
        exact zl_rf
  · skip
    refine zl_tr (r_iload_n d_244_178 rfl) ?_
    refine zl_tr (r_iconst d_244_179 (by decide)) ?_
    refine zl_tr (r_icmp_ne (tgt := 188) d_244_180 (by decide)) (zl_if ?_ ?_)
    · skip
      refine zl_tr (r_iload d_244_183 rfl) ?_
      refine zl_tr (r_goto (tgt := 194) d_244_185 (by decide)) ?_
      exact r_iret d_244_194 rt_244
    · skip
      refine zl_tr (r_aload_n d_244_188 rfl) ?_
      refine zl_tr (r_getR d_244_189 ow_244 f_12_222 la_146 (by decide) fr_146_69) ?_
      refine zl_tr (r_iload_n d_244_192 rfl) ?_
      refine zl_tr (r_iaload d_244_193 la_187) (zl_ck ?_)
      exact r_iret d_244_194 rt_244
-- BranTubModel.laid, from 138
set_option maxRecDepth 20000 in
theorem e_244_138 {h : zm_H} {x1 : Int} {x2 : Int} {x3 : Int} {x4 : Int} {x5 : Int} {w6 : zm_V} {x7 : Int} (hw6 : zm_cat w6 ≠ 2) : zl (zm_ck (0 ≤ (h 146 13) ∧ (h 146 13) < ((2 : Nat) : Int)) (if x7 < (h 151 (h 146 13)) then (zm_ck (0 ≤ x7 ∧ x7 < ((5 : Nat) : Int)) (zm_ck (0 ≤ x7 ∧ x7 < ((5 : Nat) : Int)) (zm_ck (zm_i32 (x7 + 1)) (zr none 6 244 138 [zm_A 146, zm_I x1, zm_I x2, zm_I x3, zm_I x4, zm_I x5, w6, zm_I (x7 + 1)] [] (zm_wr h 187 x7 (h 185 x7)))))) else (zm_ck (zm_i32 (x5 + 1)) (zr none 6 244 74 [zm_A 146, zm_I x1, zm_I x2, zm_I x3, zm_I x4, zm_I (x5 + 1), w6, zm_I x7] [] h)))) (zr none 6 244 138 [zm_A 146, zm_I x1, zm_I x2, zm_I x3, zm_I x4, zm_I x5, w6, zm_I x7] [] h) := by
  refine zl_tr (r_iload d_244_138 rfl) ?_
  refine zl_tr (r_aload_n d_244_140 rfl) ?_
  refine zl_tr (r_getR d_244_141 ow_244 f_12_63 la_146 (by decide) fr_146_17) ?_
  refine zl_tr (r_aload_n d_244_144 rfl) ?_
  refine zl_tr (r_getI (kk := 13) d_244_145 ow_244 f_12_51 la_146 (by decide) rfl) ?_
  refine zl_tr (r_iaload d_244_148 la_151) (zl_ck ?_)
  refine zl_tr (r_icmp_ge (tgt := 172) d_244_149 (by decide)) (zl_if ?_ ?_)
  · skip
    refine zl_tr (r_aload_n d_244_152 rfl) ?_
    refine zl_tr (r_getR d_244_153 ow_244 f_12_222 la_146 (by decide) fr_146_69) ?_
    refine zl_tr (r_iload d_244_156 rfl) ?_
    refine zl_tr (r_aload_n d_244_158 rfl) ?_
    refine zl_tr (r_getR d_244_159 ow_244 f_12_213 la_146 (by decide) fr_146_66) ?_
    refine zl_tr (r_iload d_244_162 rfl) ?_
    refine zl_tr (r_iaload d_244_164 la_185) (zl_ck ?_)
    refine zl_tr (r_iastore d_244_165 la_187) (zl_ck ?_)
    refine zl_tr (r_iinc (loc' := [zm_A 146, zm_I x1, zm_I x2, zm_I x3, zm_I x4, zm_I x5, w6, zm_I (x7 + 1)]) d_244_166 rfl (Nat.le_of_ble_eq_true rfl) (zr_k1 rfl hw6 rfl)) (zl_ck ?_)
    refine zl_tr (r_goto (tgt := 138) d_244_169 (by decide)) ?_
    exact zl_rf
  · skip
    refine zl_tr (r_iinc (loc' := [zm_A 146, zm_I x1, zm_I x2, zm_I x3, zm_I x4, zm_I (x5 + 1), w6, zm_I x7]) d_244_172 rfl (Nat.le_of_ble_eq_true rfl) rfl) (zl_ck ?_)
    refine zl_tr (r_goto (tgt := 74) d_244_175 (by decide)) ?_
    exact zl_rf
-- BranTubModel.isOrder
set_option maxRecDepth 20000 in
theorem e_245 {h : zm_H} {x1 : Int} : zl (zm_ck (0 ≤ (h 146 13) ∧ (h 146 13) < ((2 : Nat) : Int)) (zm_ck (zm_i32 ((h 151 (h 146 13)) - 1)) (zr none 1 245 14 [zm_A 146, zm_I x1, zm_I x1, zm_I ((h 151 (h 146 13)) - 1), zm_U] [] h))) (zc 245 [zm_A 146, zm_I x1] h) := by
  rw [zc_eq (loc := [zm_A 146, zm_I x1, zm_U, zm_U, zm_U]) (rk_245 _) rfl]
  refine zl_tr (r_iload_n d_245_0 rfl) ?_
  refine zl_tr (r_istore_n (loc' := [zm_A 146, zm_I x1, zm_I x1, zm_U, zm_U]) d_245_1 (Nat.le_of_ble_eq_true rfl) rfl) ?_
  refine zl_tr (r_aload_n d_245_2 rfl) ?_
  refine zl_tr (r_getR d_245_3 ow_245 f_12_63 la_146 (by decide) fr_146_17) ?_
  refine zl_tr (r_aload_n d_245_6 rfl) ?_
  refine zl_tr (r_getI (kk := 13) d_245_7 ow_245 f_12_51 la_146 (by decide) rfl) ?_
  refine zl_tr (r_iaload d_245_10 la_151) (zl_ck ?_)
  refine zl_tr (r_iconst d_245_11 (by decide)) ?_
  refine zl_tr (r_isub d_245_12) (zl_ck ?_)
  refine zl_tr (r_istore_n (loc' := [zm_A 146, zm_I x1, zm_I x1, zm_I ((h 151 (h 146 13)) - 1), zm_U]) d_245_13 (Nat.le_of_ble_eq_true rfl) rfl) ?_
  exact zl_rf
-- BranTubModel.isOrder, from 14
set_option maxRecDepth 20000 in
theorem e_245_14 {h : zm_H} {w1 : zm_V} {x2 : Int} {x3 : Int} {w4 : zm_V} (hw1 : zm_cat w1 ≠ 2) : zl (if x3 < 0 then (zr none 1 245 58 [zm_A 146, w1, zm_I x2, zm_I 0, zm_I 0] [] h) else (zm_ck (0 ≤ (h 146 13) ∧ (h 146 13) < ((2 : Nat) : Int)) (zm_ck (((h 151 (h 146 13)) : Int) ≠ 0 ∧ zm_i32 (x2.tdiv (h 151 (h 146 13))) ∧ zm_i32 (x2.tmod (h 151 (h 146 13)))) (zm_ck (0 ≤ x3 ∧ x3 < ((5 : Nat) : Int)) (zm_ck (0 ≤ ((zm_wr h 185 x3 (x2.tmod (h 151 (h 146 13)))) 146 13) ∧ ((zm_wr h 185 x3 (x2.tmod (h 151 (h 146 13)))) 146 13) < ((2 : Nat) : Int)) (zm_ck ((((zm_wr h 185 x3 (x2.tmod (h 151 (h 146 13)))) 151 ((zm_wr h 185 x3 (x2.tmod (h 151 (h 146 13)))) 146 13)) : Int) ≠ 0 ∧ zm_i32 (x2.tdiv ((zm_wr h 185 x3 (x2.tmod (h 151 (h 146 13)))) 151 ((zm_wr h 185 x3 (x2.tmod (h 151 (h 146 13)))) 146 13)))) (zm_ck (zm_i32 (x3 + (-1))) (zr none 1 245 14 [zm_A 146, w1, zm_I (x2.tdiv ((zm_wr h 185 x3 (x2.tmod (h 151 (h 146 13)))) 151 ((zm_wr h 185 x3 (x2.tmod (h 151 (h 146 13)))) 146 13))), zm_I (x3 + (-1)), w4] [] (zm_wr h 185 x3 (x2.tmod (h 151 (h 146 13)))))))))))) (zr none 1 245 14 [zm_A 146, w1, zm_I x2, zm_I x3, w4] [] h) := by
  refine zl_tr (r_iload_n d_245_14 rfl) ?_
  refine zl_tr (r_if_lt (tgt := 53) d_245_15 (by decide)) (zl_if ?_ ?_)
  · skip
    refine zl_tr (r_iconst d_245_53 (by decide)) ?_
    refine zl_tr (r_istore_n (loc' := [zm_A 146, w1, zm_I x2, zm_I 0, w4]) d_245_54 (Nat.le_of_ble_eq_true rfl) rfl) ?_
    refine zl_tr (r_iconst d_245_55 (by decide)) ?_
    refine zl_tr (r_istore (loc' := [zm_A 146, w1, zm_I x2, zm_I 0, zm_I 0]) d_245_56 (Nat.le_of_ble_eq_true rfl) rfl) ?_
    exact zl_rf
  · skip
    refine zl_tr (r_aload_n d_245_18 rfl) ?_
    refine zl_tr (r_getR d_245_19 ow_245 f_12_213 la_146 (by decide) fr_146_66) ?_
    refine zl_tr (r_iload_n d_245_22 rfl) ?_
    refine zl_tr (r_iload_n d_245_23 rfl) ?_
    refine zl_tr (r_aload_n d_245_24 rfl) ?_
    refine zl_tr (r_getR d_245_25 ow_245 f_12_63 la_146 (by decide) fr_146_17) ?_
    refine zl_tr (r_aload_n d_245_28 rfl) ?_
    refine zl_tr (r_getI (kk := 13) d_245_29 ow_245 f_12_51 la_146 (by decide) rfl) ?_
    refine zl_tr (r_iaload d_245_32 la_151) (zl_ck ?_)
    refine zl_tr (r_irem d_245_33) (zl_ck ?_)
    refine zl_tr (r_iastore d_245_34 la_185) (zl_ck ?_)
    refine zl_tr (r_iload_n d_245_35 rfl) ?_
    refine zl_tr (r_aload_n d_245_36 rfl) ?_
    refine zl_tr (r_getR d_245_37 ow_245 f_12_63 la_146 (by decide) fr_146_17) ?_
    refine zl_tr (r_aload_n d_245_40 rfl) ?_
    refine zl_tr (r_getI (kk := 13) d_245_41 ow_245 f_12_51 la_146 (by decide) rfl) ?_
    refine zl_tr (r_iaload d_245_44 la_151) (zl_ck ?_)
    refine zl_tr (r_idiv d_245_45) (zl_ck ?_)
    refine zl_tr (r_istore_n (loc' := [zm_A 146, w1, zm_I (x2.tdiv ((zm_wr h 185 x3 (x2.tmod (h 151 (h 146 13)))) 151 ((zm_wr h 185 x3 (x2.tmod (h 151 (h 146 13)))) 146 13))), zm_I x3, w4]) d_245_46 (Nat.le_of_ble_eq_true rfl) (zr_k1 rfl hw1 rfl)) ?_
    refine zl_tr (r_iinc (loc' := [zm_A 146, w1, zm_I (x2.tdiv ((zm_wr h 185 x3 (x2.tmod (h 151 (h 146 13)))) 151 ((zm_wr h 185 x3 (x2.tmod (h 151 (h 146 13)))) 146 13))), zm_I (x3 + (-1)), w4]) d_245_47 rfl (Nat.le_of_ble_eq_true rfl) rfl) (zl_ck ?_)
    refine zl_tr (r_goto (tgt := 14) d_245_50 (by decide)) ?_
    exact zl_rf
-- BranTubModel.isOrder, from 58
set_option maxRecDepth 20000 in
theorem e_245_58 {h : zm_H} {w1 : zm_V} {w2 : zm_V} {x3 : Int} {x4 : Int} (hw2 : zm_cat w2 ≠ 2) : zl (zm_ck (0 ≤ (h 146 13) ∧ (h 146 13) < ((2 : Nat) : Int)) (if x4 < (h 151 (h 146 13)) then (zm_ck (0 ≤ x4 ∧ x4 < ((5 : Nat) : Int)) (zm_ck (zm_i32 (x4 + 1)) (zr none 1 245 58 [zm_A 146, w1, w2, zm_I (zb_ior x3 (zb_ishl 1 (h 185 x4))), zm_I (x4 + 1)] [] h))) else (zm_ck (0 ≤ (h 146 13) ∧ (h 146 13) < ((2 : Nat) : Int)) (zm_ck (zm_i32 ((zb_ishl 1 (h 151 (h 146 13))) - 1)) (if x3 = ((zb_ishl 1 (h 151 (h 146 13))) - 1) then (zm_ck (zm_bit 1) (some (zm_I 1, h))) else (zm_ck (zm_bit 0) (some (zm_I 0, h)))))))) (zr none 1 245 58 [zm_A 146, w1, w2, zm_I x3, zm_I x4] [] h) := by
  refine zl_tr (r_iload d_245_58 rfl) ?_
  refine zl_tr (r_aload_n d_245_60 rfl) ?_
  refine zl_tr (r_getR d_245_61 ow_245 f_12_63 la_146 (by decide) fr_146_17) ?_
  refine zl_tr (r_aload_n d_245_64 rfl) ?_
  refine zl_tr (r_getI (kk := 13) d_245_65 ow_245 f_12_51 la_146 (by decide) rfl) ?_
  refine zl_tr (r_iaload d_245_68 la_151) (zl_ck ?_)
  refine zl_tr (r_icmp_ge (tgt := 90) d_245_69 (by decide)) (zl_if ?_ ?_)
  · skip
    refine zl_tr (r_iload_n d_245_72 rfl) ?_
    refine zl_tr (r_iconst d_245_73 (by decide)) ?_
    refine zl_tr (r_aload_n d_245_74 rfl) ?_
    refine zl_tr (r_getR d_245_75 ow_245 f_12_213 la_146 (by decide) fr_146_66) ?_
    refine zl_tr (r_iload d_245_78 rfl) ?_
    refine zl_tr (r_iaload d_245_80 la_185) (zl_ck ?_)
    refine zl_tr (r_ishl d_245_81) ?_
    refine zl_tr (r_ior d_245_82) ?_
    refine zl_tr (r_istore_n (loc' := [zm_A 146, w1, w2, zm_I (zb_ior x3 (zb_ishl 1 (h 185 x4))), zm_I x4]) d_245_83 (Nat.le_of_ble_eq_true rfl) (zr_k1 rfl hw2 rfl)) ?_
    refine zl_tr (r_iinc (loc' := [zm_A 146, w1, w2, zm_I (zb_ior x3 (zb_ishl 1 (h 185 x4))), zm_I (x4 + 1)]) d_245_84 rfl (Nat.le_of_ble_eq_true rfl) rfl) (zl_ck ?_)
    refine zl_tr (r_goto (tgt := 58) d_245_87 (by decide)) ?_
    exact zl_rf
  · skip
    refine zl_tr (r_iload_n d_245_90 rfl) ?_
    refine zl_tr (r_iconst d_245_91 (by decide)) ?_
    refine zl_tr (r_aload_n d_245_92 rfl) ?_
    refine zl_tr (r_getR d_245_93 ow_245 f_12_63 la_146 (by decide) fr_146_17) ?_
    refine zl_tr (r_aload_n d_245_96 rfl) ?_
    refine zl_tr (r_getI (kk := 13) d_245_97 ow_245 f_12_51 la_146 (by decide) rfl) ?_
    refine zl_tr (r_iaload d_245_100 la_151) (zl_ck ?_)
    refine zl_tr (r_ishl d_245_101) ?_
    refine zl_tr (r_iconst d_245_102 (by decide)) ?_
    refine zl_tr (r_isub d_245_103) (zl_ck ?_)
    refine zl_tr (r_icmp_ne (tgt := 111) d_245_104 (by decide)) (zl_if ?_ ?_)
    · skip
      refine zl_tr (r_iconst d_245_107 (by decide)) ?_
      refine zl_tr (r_goto (tgt := 112) d_245_108 (by decide)) ?_
      exact r_zret d_245_112 rt_245
    · skip
      refine zl_tr (r_iconst d_245_111 (by decide)) ?_
      exact r_zret d_245_112 rt_245
-- BranTubModel.dip
set_option maxRecDepth 20000 in
theorem e_246 {h : zm_H} {x1 : Int} : zl (zk_I (zc 231 [zm_A 146, zm_I x1] h) (fun v1 h2 => if v1 = 0 then (zk_I (zc 155 [zm_A 146, zm_I 2] h2) (fun v3 h4 => some (zm_I v3, h4))) else (zm_ck (0 ≤ x1 ∧ x1 < ((176 : Nat) : Int)) (zk_I (zc 207 [zm_A 146, zm_I 0] h2) (fun v5 h6 => if (h2 177 x1) < v5 then (zk_I (zc 155 [zm_A 146, zm_I 2] h6) (fun v7 h8 => some (zm_I v7, h8))) else (zk_V (zc 247 [zm_A 146] h6) (fun h9 => zk_I (zc 248 [zm_A 146, zm_I x1] h9) (fun v10 h11 => some (zm_I v10, h11))))))))) (zc 246 [zm_A 146, zm_I x1] h) := by
  rw [zc_eq (loc := [zm_A 146, zm_I x1]) (rk_246 _) rfl]
  refine zl_tr (r_aload_n d_246_0 rfl) ?_
  refine zl_tr (r_iload_n d_246_1 rfl) ?_
  refine zl_tr (r_VI [zm_A 146, zm_I x1] d_246_2 ow_246 cal_12_535 na_231 rfl rfl (Nat.le_of_ble_eq_true rfl) (by rw [rk_231]; decide) (zr_rcv la_146 ow_231) (zr_im mx_231 rfl (Nat.le_of_ble_eq_true rfl)) (by rw [rt_231]; decide)) (zl_I (fun v1 h2 => ?_))
  refine zl_tr (r_if_eq (tgt := 22) d_246_5 (by decide)) (zl_if ?_ ?_)
  · skip
    refine zl_tr (r_aload_n d_246_22 rfl) ?_
    refine zl_tr (r_iconst d_246_23 (by decide)) ?_
    refine zl_tr (r_VI [zm_A 146, zm_I 2] d_246_24 ow_246 cal_12_249 na_155 rfl rfl (Nat.le_of_ble_eq_true rfl) (by rw [rk_155]; decide) (zr_rcv la_146 ow_155) (zr_im mx_155 rfl (Nat.le_of_ble_eq_true rfl)) (by rw [rt_155]; decide)) (zl_I (fun v3 h4 => ?_))
    exact r_iret d_246_27 rt_246
  · skip
    refine zl_tr (r_aload_n d_246_8 rfl) ?_
    refine zl_tr (r_getR d_246_9 ow_246 f_12_162 la_146 (by decide) fr_146_49) ?_
    refine zl_tr (r_iload_n d_246_12 rfl) ?_
    refine zl_tr (r_iaload d_246_13 la_177) (zl_ck ?_)
    refine zl_tr (r_aload_n d_246_14 rfl) ?_
    refine zl_tr (r_iconst d_246_15 (by decide)) ?_
    refine zl_tr (r_VI [zm_A 146, zm_I 0] d_246_16 ow_246 cal_12_515 na_207 rfl rfl (Nat.le_of_ble_eq_true rfl) (by rw [rk_207]; decide) (zr_rcv la_146 ow_207) (zr_im mx_207 rfl (Nat.le_of_ble_eq_true rfl)) (by rw [rt_207]; decide)) (zl_I (fun v5 h6 => ?_))
    refine zl_tr (r_icmp_ge (tgt := 28) d_246_19 (by decide)) (zl_if ?_ ?_)
    · skip
      refine zl_tr (r_aload_n d_246_22 rfl) ?_
      refine zl_tr (r_iconst d_246_23 (by decide)) ?_
      refine zl_tr (r_VI [zm_A 146, zm_I 2] d_246_24 ow_246 cal_12_249 na_155 rfl rfl (Nat.le_of_ble_eq_true rfl) (by rw [rk_155]; decide) (zr_rcv la_146 ow_155) (zr_im mx_155 rfl (Nat.le_of_ble_eq_true rfl)) (by rw [rt_155]; decide)) (zl_I (fun v7 h8 => ?_))
      exact r_iret d_246_27 rt_246
    · skip
      refine zl_tr (r_aload_n d_246_28 rfl) ?_
      refine zl_tr (r_VV [zm_A 146] d_246_29 ow_246 cal_12_573 na_247 rfl rfl (Nat.le_of_ble_eq_true rfl) (by rw [rk_247]; decide) (zr_rcv la_146 ow_247) (zr_im mx_247 rfl (Nat.le_of_ble_eq_true rfl)) rt_247) (zl_V (fun h9 => ?_))
      refine zl_tr (r_aload_n d_246_32 rfl) ?_
      refine zl_tr (r_iload_n d_246_33 rfl) ?_
      refine zl_tr (r_VI [zm_A 146, zm_I x1] d_246_34 ow_246 cal_12_576 na_248 rfl rfl (Nat.le_of_ble_eq_true rfl) (by rw [rk_248]; decide) (zr_rcv la_146 ow_248) (zr_im mx_248 rfl (Nat.le_of_ble_eq_true rfl)) (by rw [rt_248]; decide)) (zl_I (fun v10 h11 => ?_))
      exact r_iret d_246_37 rt_246
-- BranTubModel.keeps
set_option maxRecDepth 20000 in
theorem e_247 {h : zm_H}  : zl (if (h 146 57) = 20 then (zm_ck (zm_i32 ((h 146 56) + 1)) (zm_ck ((20 : Int) ≠ 0 ∧ zm_i32 (((h 146 56) + 1).tdiv 20) ∧ zm_i32 (((h 146 56) + 1).tmod 20)) (zm_ck (zm_i32 (((zm_wr h 146 56 (((h 146 56) + 1).tmod 20)) 146 57) - 1)) (zk_I (zc 201 [zm_A 146, zm_I ((zm_wr (zm_wr h 146 56 (((h 146 56) + 1).tmod 20)) 146 57 (((zm_wr h 146 56 (((h 146 56) + 1).tmod 20)) 146 57) - 1)) 146 57)] (zm_wr (zm_wr h 146 56 (((h 146 56) + 1).tmod 20)) 146 57 (((zm_wr h 146 56 (((h 146 56) + 1).tmod 20)) 146 57) - 1))) (fun v1 h2 => zk_V (zc 202 [zm_A 146, zm_I v1, zm_I 0] h2) (fun h3 => zm_ck (zm_i32 ((h3 146 57) + 1)) (some (zm_U, (zm_wr h3 146 57 ((h3 146 57) + 1)))))))))) else (zk_I (zc 201 [zm_A 146, zm_I (h 146 57)] h) (fun v4 h5 => zk_V (zc 202 [zm_A 146, zm_I v4, zm_I 0] h5) (fun h6 => zm_ck (zm_i32 ((h6 146 57) + 1)) (some (zm_U, (zm_wr h6 146 57 ((h6 146 57) + 1)))))))) (zc 247 [zm_A 146] h) := by
  rw [zc_eq (loc := [zm_A 146]) (rk_247 _) rfl]
  refine zl_tr (r_aload_n d_247_0 rfl) ?_
  refine zl_tr (r_getI (kk := 57) d_247_1 ow_247 f_12_186 la_146 (by decide) rfl) ?_
  refine zl_tr (r_bipush d_247_4 (by decide)) ?_
  refine zl_tr (r_icmp_ne (tgt := 32) d_247_6 (by decide)) (zl_if ?_ ?_)
  · skip
    refine zl_tr (r_aload_n d_247_9 rfl) ?_
    refine zl_tr (r_aload_n d_247_10 rfl) ?_
    refine zl_tr (r_getI (kk := 56) d_247_11 ow_247 f_12_183 la_146 (by decide) rfl) ?_
    refine zl_tr (r_iconst d_247_14 (by decide)) ?_
    refine zl_tr (r_iadd d_247_15) (zl_ck ?_)
    refine zl_tr (r_bipush d_247_16 (by decide)) ?_
    refine zl_tr (r_irem d_247_18) (zl_ck ?_)
    refine zl_tr (r_putI (kk := 56) d_247_19 ow_247 f_12_183 la_146 (by decide) rfl) ?_
    refine zl_tr (r_aload_n d_247_22 rfl) ?_
    refine zl_tr (r_dup d_247_23 rfl) ?_
    refine zl_tr (r_getI (kk := 57) d_247_24 ow_247 f_12_186 la_146 (by decide) rfl) ?_
    refine zl_tr (r_iconst d_247_27 (by decide)) ?_
    refine zl_tr (r_isub d_247_28) (zl_ck ?_)
    refine zl_tr (r_putI (kk := 57) d_247_29 ow_247 f_12_186 la_146 (by decide) rfl) ?_
    refine zl_tr (r_aload_n d_247_32 rfl) ?_
    refine zl_tr (r_aload_n d_247_33 rfl) ?_
    refine zl_tr (r_aload_n d_247_34 rfl) ?_
    refine zl_tr (r_getI (kk := 57) d_247_35 ow_247 f_12_186 la_146 (by decide) rfl) ?_
    refine zl_tr (r_VI [zm_A 146, zm_I ((zm_wr (zm_wr h 146 56 (((h 146 56) + 1).tmod 20)) 146 57 (((zm_wr h 146 56 (((h 146 56) + 1).tmod 20)) 146 57) - 1)) 146 57)] d_247_38 ow_247 cal_12_434 na_201 rfl rfl (Nat.le_of_ble_eq_true rfl) (by rw [rk_201]; decide) (zr_rcv la_146 ow_201) (zr_im mx_201 rfl (Nat.le_of_ble_eq_true rfl)) (by rw [rt_201]; decide)) (zl_I (fun v1 h2 => ?_))
    refine zl_tr (r_iconst d_247_41 (by decide)) ?_
    refine zl_tr (r_VV [zm_A 146, zm_I v1, zm_I 0] d_247_42 ow_247 cal_12_437 na_202 rfl rfl (Nat.le_of_ble_eq_true rfl) (by rw [rk_202]; decide) (zr_rcv la_146 ow_202) (zr_im mx_202 rfl (Nat.le_of_ble_eq_true rfl)) rt_202) (zl_V (fun h3 => ?_))
    refine zl_tr (r_aload_n d_247_45 rfl) ?_
    refine zl_tr (r_dup d_247_46 rfl) ?_
    refine zl_tr (r_getI (kk := 57) d_247_47 ow_247 f_12_186 la_146 (by decide) rfl) ?_
    refine zl_tr (r_iconst d_247_50 (by decide)) ?_
    refine zl_tr (r_iadd d_247_51) (zl_ck ?_)
    refine zl_tr (r_putI (kk := 57) d_247_52 ow_247 f_12_186 la_146 (by decide) rfl) ?_
    exact r_vret d_247_55 rt_247
  · skip
    refine zl_tr (r_aload_n d_247_32 rfl) ?_
    refine zl_tr (r_aload_n d_247_33 rfl) ?_
    refine zl_tr (r_aload_n d_247_34 rfl) ?_
    refine zl_tr (r_getI (kk := 57) d_247_35 ow_247 f_12_186 la_146 (by decide) rfl) ?_
    refine zl_tr (r_VI [zm_A 146, zm_I (h 146 57)] d_247_38 ow_247 cal_12_434 na_201 rfl rfl (Nat.le_of_ble_eq_true rfl) (by rw [rk_201]; decide) (zr_rcv la_146 ow_201) (zr_im mx_201 rfl (Nat.le_of_ble_eq_true rfl)) (by rw [rt_201]; decide)) (zl_I (fun v4 h5 => ?_))
    refine zl_tr (r_iconst d_247_41 (by decide)) ?_
    refine zl_tr (r_VV [zm_A 146, zm_I v4, zm_I 0] d_247_42 ow_247 cal_12_437 na_202 rfl rfl (Nat.le_of_ble_eq_true rfl) (by rw [rk_202]; decide) (zr_rcv la_146 ow_202) (zr_im mx_202 rfl (Nat.le_of_ble_eq_true rfl)) rt_202) (zl_V (fun h6 => ?_))
    refine zl_tr (r_aload_n d_247_45 rfl) ?_
    refine zl_tr (r_dup d_247_46 rfl) ?_
    refine zl_tr (r_getI (kk := 57) d_247_47 ow_247 f_12_186 la_146 (by decide) rfl) ?_
    refine zl_tr (r_iconst d_247_50 (by decide)) ?_
    refine zl_tr (r_iadd d_247_51) (zl_ck ?_)
    refine zl_tr (r_putI (kk := 57) d_247_52 ow_247 f_12_186 la_146 (by decide) rfl) ?_
    exact r_vret d_247_55 rt_247
-- BranTubModel.dips
set_option maxRecDepth 20000 in
theorem e_248 {h : zm_H} {x1 : Int} : zl (zk_I (zc 207 [zm_A 146, zm_I 0] h) (fun v1 h2 => zm_ck (zm_i32 (8 * (h2 146 13))) (zm_ck (zm_i32 ((8 * (h2 146 13)) + x1)) (zm_ck (0 ≤ ((8 * (h2 146 13)) + x1) ∧ ((8 * (h2 146 13)) + x1) < ((16 : Nat) : Int)) (zk_I (zc 249 [zm_A 146, zm_I x1] h2) (fun v3 h4 => zr none 6 248 31 [zm_A 146, zm_I x1, zm_I v1, zm_I (h2 156 ((8 * (h2 146 13)) + x1)), zm_I v3, zm_I 1, zm_U] [] h4)))))) (zc 248 [zm_A 146, zm_I x1] h) := by
  rw [zc_eq (loc := [zm_A 146, zm_I x1, zm_U, zm_U, zm_U, zm_U, zm_U]) (rk_248 _) rfl]
  refine zl_tr (r_aload_n d_248_0 rfl) ?_
  refine zl_tr (r_iconst d_248_1 (by decide)) ?_
  refine zl_tr (r_VI [zm_A 146, zm_I 0] d_248_2 ow_248 cal_12_515 na_207 rfl rfl (Nat.le_of_ble_eq_true rfl) (by rw [rk_207]; decide) (zr_rcv la_146 ow_207) (zr_im mx_207 rfl (Nat.le_of_ble_eq_true rfl)) (by rw [rt_207]; decide)) (zl_I (fun v1 h2 => ?_))
  refine zl_tr (r_istore_n (loc' := [zm_A 146, zm_I x1, zm_I v1, zm_U, zm_U, zm_U, zm_U]) d_248_5 (Nat.le_of_ble_eq_true rfl) rfl) ?_
  refine zl_tr (r_aload_n d_248_6 rfl) ?_
  refine zl_tr (r_getR d_248_7 ow_248 f_12_78 la_146 (by decide) fr_146_22) ?_
  refine zl_tr (r_bipush d_248_10 (by decide)) ?_
  refine zl_tr (r_aload_n d_248_12 rfl) ?_
  refine zl_tr (r_getI (kk := 13) d_248_13 ow_248 f_12_51 la_146 (by decide) rfl) ?_
  refine zl_tr (r_imul d_248_16) (zl_ck ?_)
  refine zl_tr (r_iload_n d_248_17 rfl) ?_
  refine zl_tr (r_iadd d_248_18) (zl_ck ?_)
  refine zl_tr (r_iaload d_248_19 la_156) (zl_ck ?_)
  refine zl_tr (r_istore_n (loc' := [zm_A 146, zm_I x1, zm_I v1, zm_I (h2 156 ((8 * (h2 146 13)) + x1)), zm_U, zm_U, zm_U]) d_248_20 (Nat.le_of_ble_eq_true rfl) rfl) ?_
  refine zl_tr (r_aload_n d_248_21 rfl) ?_
  refine zl_tr (r_iload_n d_248_22 rfl) ?_
  refine zl_tr (r_VI [zm_A 146, zm_I x1] d_248_23 ow_248 cal_12_563 na_249 rfl rfl (Nat.le_of_ble_eq_true rfl) (by rw [rk_249]; decide) (zr_rcv la_146 ow_249) (zr_im mx_249 rfl (Nat.le_of_ble_eq_true rfl)) (by rw [rt_249]; decide)) (zl_I (fun v3 h4 => ?_))
  refine zl_tr (r_istore (loc' := [zm_A 146, zm_I x1, zm_I v1, zm_I (h2 156 ((8 * (h2 146 13)) + x1)), zm_I v3, zm_U, zm_U]) d_248_26 (Nat.le_of_ble_eq_true rfl) rfl) ?_
  refine zl_tr (r_iconst d_248_28 (by decide)) ?_
  refine zl_tr (r_istore (loc' := [zm_A 146, zm_I x1, zm_I v1, zm_I (h2 156 ((8 * (h2 146 13)) + x1)), zm_I v3, zm_I 1, zm_U]) d_248_29 (Nat.le_of_ble_eq_true rfl) rfl) ?_
  exact zl_rf
-- BranTubModel.dips, from 31
set_option maxRecDepth 20000 in
theorem e_248_31 {h : zm_H} {x1 : Int} {x2 : Int} {x3 : Int} {x4 : Int} {x5 : Int} {w6 : zm_V} : zl (zk_I (zc 235 [zm_A 146, zm_I x1] h) (fun v1 h2 => if x5 < v1 then (zk_I (zc 249 [zm_A 146, zm_I x1] h2) (fun v3 h4 => zm_ck ((8 : Int) ≠ 0 ∧ zm_i32 (v3.tdiv 8) ∧ zm_i32 (v3.tmod 8)) (zk_I (zc 234 [zm_A 146, zm_I x1, zm_I (v3.tmod 8), zm_I x3] h4) (fun v5 h6 => zm_ck ((8 : Int) ≠ 0 ∧ zm_i32 (x4.tdiv 8) ∧ zm_i32 (x4.tmod 8)) (zk_I (zc 234 [zm_A 146, zm_I x1, zm_I (x4.tmod 8), zm_I x3] h6) (fun v7 h8 => if v5 ≤ v7 then (zm_ck (zm_i32 (x5 + 1)) (zr none 6 248 31 [zm_A 146, zm_I x1, zm_I x2, zm_I x3, zm_I x4, zm_I (x5 + 1), zm_I v3] [] h8)) else (zm_ck (zm_i32 (x5 + 1)) (zr none 6 248 31 [zm_A 146, zm_I x1, zm_I x2, zm_I x3, zm_I v3, zm_I (x5 + 1), zm_I v3] [] h8)))))))) else (zm_ck ((8 : Int) ≠ 0 ∧ zm_i32 (x4.tdiv 8) ∧ zm_i32 (x4.tmod 8)) (zk_I (zc 251 [zm_A 146, zm_I x1, zm_I (x4.tmod 8)] h2) (fun v9 h10 => if v9 = 0 then (zr none 6 248 103 [zm_A 146, zm_I x1, zm_I x2, zm_I x3, zm_I x4, zm_I x5, w6] [] h10) else (zk_I (zc 249 [zm_A 146, zm_I x1] h10) (fun v11 h12 => zr none 6 248 103 [zm_A 146, zm_I x1, zm_I x2, zm_I x3, zm_I v11, zm_I x5, w6] [] h12))))))) (zr none 6 248 31 [zm_A 146, zm_I x1, zm_I x2, zm_I x3, zm_I x4, zm_I x5, w6] [] h) := by
  refine zl_tr (r_iload d_248_31 rfl) ?_
  refine zl_tr (r_aload_n d_248_33 rfl) ?_
  refine zl_tr (r_iload_n d_248_34 rfl) ?_
  refine zl_tr (r_VI [zm_A 146, zm_I x1] d_248_35 ow_248 cal_12_482 na_235 rfl rfl (Nat.le_of_ble_eq_true rfl) (by rw [rk_235]; decide) (zr_rcv la_146 ow_235) (zr_im mx_235 rfl (Nat.le_of_ble_eq_true rfl)) (by rw [rt_235]; decide)) (zl_I (fun v1 h2 => ?_))
  refine zl_tr (r_icmp_ge (tgt := 83) d_248_38 (by decide)) (zl_if ?_ ?_)
  · skip
    refine zl_tr (r_aload_n d_248_41 rfl) ?_
    refine zl_tr (r_iload_n d_248_42 rfl) ?_
    refine zl_tr (r_VI [zm_A 146, zm_I x1] d_248_43 ow_248 cal_12_563 na_249 rfl rfl (Nat.le_of_ble_eq_true rfl) (by rw [rk_249]; decide) (zr_rcv la_146 ow_249) (zr_im mx_249 rfl (Nat.le_of_ble_eq_true rfl)) (by rw [rt_249]; decide)) (zl_I (fun v3 h4 => ?_))
    refine zl_tr (r_istore (loc' := [zm_A 146, zm_I x1, zm_I x2, zm_I x3, zm_I x4, zm_I x5, zm_I v3]) d_248_46 (Nat.le_of_ble_eq_true rfl) rfl) ?_
    refine zl_tr (r_aload_n d_248_48 rfl) ?_
    refine zl_tr (r_iload_n d_248_49 rfl) ?_
    refine zl_tr (r_iload d_248_50 rfl) ?_
    refine zl_tr (r_bipush d_248_52 (by decide)) ?_
    refine zl_tr (r_irem d_248_54) (zl_ck ?_)
    refine zl_tr (r_iload_n d_248_55 rfl) ?_
    refine zl_tr (r_VI [zm_A 146, zm_I x1, zm_I (v3.tmod 8), zm_I x3] d_248_56 ow_248 cal_12_479 na_234 rfl rfl (Nat.le_of_ble_eq_true rfl) (by rw [rk_234]; decide) (zr_rcv la_146 ow_234) (zr_im mx_234 rfl (Nat.le_of_ble_eq_true rfl)) (by rw [rt_234]; decide)) (zl_I (fun v5 h6 => ?_))
    refine zl_tr (r_aload_n d_248_59 rfl) ?_
    refine zl_tr (r_iload_n d_248_60 rfl) ?_
    refine zl_tr (r_iload d_248_61 rfl) ?_
    refine zl_tr (r_bipush d_248_63 (by decide)) ?_
    refine zl_tr (r_irem d_248_65) (zl_ck ?_)
    refine zl_tr (r_iload_n d_248_66 rfl) ?_
    refine zl_tr (r_VI [zm_A 146, zm_I x1, zm_I (x4.tmod 8), zm_I x3] d_248_67 ow_248 cal_12_479 na_234 rfl rfl (Nat.le_of_ble_eq_true rfl) (by rw [rk_234]; decide) (zr_rcv la_146 ow_234) (zr_im mx_234 rfl (Nat.le_of_ble_eq_true rfl)) (by rw [rt_234]; decide)) (zl_I (fun v7 h8 => ?_))
    refine zl_tr (r_icmp_le (tgt := 77) d_248_70 (by decide)) (zl_if ?_ ?_)
    · skip
      refine zl_tr (r_iinc (loc' := [zm_A 146, zm_I x1, zm_I x2, zm_I x3, zm_I x4, zm_I (x5 + 1), zm_I v3]) d_248_77 rfl (Nat.le_of_ble_eq_true rfl) rfl) (zl_ck ?_)
      refine zl_tr (r_goto (tgt := 31) d_248_80 (by decide)) ?_
      exact zl_rf
    · skip
      refine zl_tr (r_iload d_248_73 rfl) ?_
      refine zl_tr (r_istore (loc' := [zm_A 146, zm_I x1, zm_I x2, zm_I x3, zm_I v3, zm_I x5, zm_I v3]) d_248_75 (Nat.le_of_ble_eq_true rfl) rfl) ?_
      refine zl_tr (r_iinc (loc' := [zm_A 146, zm_I x1, zm_I x2, zm_I x3, zm_I v3, zm_I (x5 + 1), zm_I v3]) d_248_77 rfl (Nat.le_of_ble_eq_true rfl) rfl) (zl_ck ?_)
      refine zl_tr (r_goto (tgt := 31) d_248_80 (by decide)) ?_
      exact zl_rf
  · skip
    refine zl_tr (r_aload_n d_248_83 rfl) ?_
    refine zl_tr (r_iload_n d_248_84 rfl) ?_
    refine zl_tr (r_iload d_248_85 rfl) ?_
    refine zl_tr (r_bipush d_248_87 (by decide)) ?_
    refine zl_tr (r_irem d_248_89) (zl_ck ?_)
    refine zl_tr (r_VI [zm_A 146, zm_I x1, zm_I (x4.tmod 8)] d_248_90 ow_248 cal_12_566 na_251 rfl rfl (Nat.le_of_ble_eq_true rfl) (by rw [rk_251]; decide) (zr_rcv la_146 ow_251) (zr_im mx_251 rfl (Nat.le_of_ble_eq_true rfl)) (by rw [rt_251]; decide)) (zl_I (fun v9 h10 => ?_))
    refine zl_tr (r_if_eq (tgt := 103) d_248_93 (by decide)) (zl_if ?_ ?_)
    · skip
      exact zl_rf
    · skip
      refine zl_tr (r_aload_n d_248_96 rfl) ?_
      refine zl_tr (r_iload_n d_248_97 rfl) ?_
      refine zl_tr (r_VI [zm_A 146, zm_I x1] d_248_98 ow_248 cal_12_563 na_249 rfl rfl (Nat.le_of_ble_eq_true rfl) (by rw [rk_249]; decide) (zr_rcv la_146 ow_249) (zr_im mx_249 rfl (Nat.le_of_ble_eq_true rfl)) (by rw [rt_249]; decide)) (zl_I (fun v11 h12 => ?_))
      refine zl_tr (r_istore (loc' := [zm_A 146, zm_I x1, zm_I x2, zm_I x3, zm_I v11, zm_I x5, w6]) d_248_101 (Nat.le_of_ble_eq_true rfl) rfl) ?_
      exact zl_rf
-- BranTubModel.dips, from 103
set_option maxRecDepth 20000 in
theorem e_248_103 {h : zm_H} {x1 : Int} {x2 : Int} {w3 : zm_V} {x4 : Int} {w5 : zm_V} {w6 : zm_V} : zl (zm_ck ((8 : Int) ≠ 0 ∧ zm_i32 (x4.tdiv 8) ∧ zm_i32 (x4.tmod 8)) (zm_ck (0 ≤ x4 ∧ x4 < ((880 : Nat) : Int)) (zm_ck (zm_i32 ((h 176 x4) - 1)) (zm_ck (0 ≤ x4 ∧ x4 < ((880 : Nat) : Int)) (zm_ck (zm_i32 (8 * x1)) (zm_ck (zm_i32 ((8 * x1) + (x4.tmod 8))) (zm_ck (0 ≤ ((8 * x1) + (x4.tmod 8)) ∧ ((8 * x1) + (x4.tmod 8)) < ((1408 : Nat) : Int)) (zm_ck (zm_i32 (((zm_wr h 176 x4 ((h 176 x4) - 1)) 178 ((8 * x1) + (x4.tmod 8))) + 1)) (zm_ck (0 ≤ ((8 * x1) + (x4.tmod 8)) ∧ ((8 * x1) + (x4.tmod 8)) < ((1408 : Nat) : Int)) (zm_ck (0 ≤ x1 ∧ x1 < ((176 : Nat) : Int)) (zm_ck (zm_i32 (((zm_wr (zm_wr h 176 x4 ((h 176 x4) - 1)) 178 ((8 * x1) + (x4.tmod 8)) (((zm_wr h 176 x4 ((h 176 x4) - 1)) 178 ((8 * x1) + (x4.tmod 8))) + 1)) 177 x1) - x2)) (zm_ck (0 ≤ x1 ∧ x1 < ((176 : Nat) : Int)) (zk_V (zc 252 [zm_A 146, zm_I x1, zm_I (x4.tmod 8), zm_I x2] (zm_wr (zm_wr (zm_wr h 176 x4 ((h 176 x4) - 1)) 178 ((8 * x1) + (x4.tmod 8)) (((zm_wr h 176 x4 ((h 176 x4) - 1)) 178 ((8 * x1) + (x4.tmod 8))) + 1)) 177 x1 (((zm_wr (zm_wr h 176 x4 ((h 176 x4) - 1)) 178 ((8 * x1) + (x4.tmod 8)) (((zm_wr h 176 x4 ((h 176 x4) - 1)) 178 ((8 * x1) + (x4.tmod 8))) + 1)) 177 x1) - x2))) (fun h1 => zm_ck (0 ≤ 0 ∧ 0 < ((22 : Nat) : Int)) (zm_ck (zm_i32 ((h1 175 0) + 1)) (zm_ck (0 ≤ 0 ∧ 0 < ((22 : Nat) : Int)) (some (zm_I (x4.tmod 8), (zm_wr h1 175 0 ((h1 175 0) + 1)))))))))))))))))))) (zr none 6 248 103 [zm_A 146, zm_I x1, zm_I x2, w3, zm_I x4, w5, w6] [] h) := by
  refine zl_tr (r_iload d_248_103 rfl) ?_
  refine zl_tr (r_bipush d_248_105 (by decide)) ?_
  refine zl_tr (r_irem d_248_107) (zl_ck ?_)
  refine zl_tr (r_istore (loc' := [zm_A 146, zm_I x1, zm_I x2, w3, zm_I x4, zm_I (x4.tmod 8), w6]) d_248_108 (Nat.le_of_ble_eq_true rfl) rfl) ?_
  refine zl_tr (r_aload_n d_248_110 rfl) ?_
  refine zl_tr (r_getR d_248_111 ow_248 f_12_159 la_146 (by decide) fr_146_48) ?_
  refine zl_tr (r_iload d_248_114 rfl) ?_
  refine zl_tr (r_dup2 d_248_116 ⟨rfl, rfl⟩) ?_
  refine zl_tr (r_iaload d_248_117 la_176) (zl_ck ?_)
  refine zl_tr (r_iconst d_248_118 (by decide)) ?_
  refine zl_tr (r_isub d_248_119) (zl_ck ?_)
  refine zl_tr (r_iastore d_248_120 la_176) (zl_ck ?_)
  refine zl_tr (r_aload_n d_248_121 rfl) ?_
  refine zl_tr (r_getR d_248_122 ow_248 f_12_165 la_146 (by decide) fr_146_50) ?_
  refine zl_tr (r_bipush d_248_125 (by decide)) ?_
  refine zl_tr (r_iload_n d_248_127 rfl) ?_
  refine zl_tr (r_imul d_248_128) (zl_ck ?_)
  refine zl_tr (r_iload d_248_129 rfl) ?_
  refine zl_tr (r_iadd d_248_131) (zl_ck ?_)
  refine zl_tr (r_dup2 d_248_132 ⟨rfl, rfl⟩) ?_
  refine zl_tr (r_iaload d_248_133 la_178) (zl_ck ?_)
  refine zl_tr (r_iconst d_248_134 (by decide)) ?_
  refine zl_tr (r_iadd d_248_135) (zl_ck ?_)
  refine zl_tr (r_iastore d_248_136 la_178) (zl_ck ?_)
  refine zl_tr (r_aload_n d_248_137 rfl) ?_
  refine zl_tr (r_getR d_248_138 ow_248 f_12_162 la_146 (by decide) fr_146_49) ?_
  refine zl_tr (r_iload_n d_248_141 rfl) ?_
  refine zl_tr (r_dup2 d_248_142 ⟨rfl, rfl⟩) ?_
  refine zl_tr (r_iaload d_248_143 la_177) (zl_ck ?_)
  refine zl_tr (r_iload_n d_248_144 rfl) ?_
  refine zl_tr (r_isub d_248_145) (zl_ck ?_)
  refine zl_tr (r_iastore d_248_146 la_177) (zl_ck ?_)
  refine zl_tr (r_aload_n d_248_147 rfl) ?_
  refine zl_tr (r_iload_n d_248_148 rfl) ?_
  refine zl_tr (r_iload d_248_149 rfl) ?_
  refine zl_tr (r_iload_n d_248_151 rfl) ?_
  refine zl_tr (r_VV [zm_A 146, zm_I x1, zm_I (x4.tmod 8), zm_I x2] d_248_152 ow_248 cal_12_569 na_252 rfl rfl (Nat.le_of_ble_eq_true rfl) (by rw [rk_252]; decide) (zr_rcv la_146 ow_252) (zr_im mx_252 rfl (Nat.le_of_ble_eq_true rfl)) rt_252) (zl_V (fun h1 => ?_))
  refine zl_tr (r_aload_n d_248_155 rfl) ?_
  refine zl_tr (r_getR d_248_156 ow_248 f_12_156 la_146 (by decide) fr_146_47) ?_
  refine zl_tr (r_iconst d_248_159 (by decide)) ?_
  refine zl_tr (r_dup2 d_248_160 ⟨rfl, rfl⟩) ?_
  refine zl_tr (r_iaload d_248_161 la_175) (zl_ck ?_)
  refine zl_tr (r_iconst d_248_162 (by decide)) ?_
  refine zl_tr (r_iadd d_248_163) (zl_ck ?_)
  refine zl_tr (r_iastore d_248_164 la_175) (zl_ck ?_)
  refine zl_tr (r_iload d_248_165 rfl) ?_
  exact r_iret d_248_167 rt_248
-- BranTubModel.touched
set_option maxRecDepth 20000 in
theorem e_249 {h : zm_H} {x1 : Int} : zl (zk_I (zc 250 [zm_A 146, zm_I (h 146 68)] h) (fun v1 h2 => zk_I (zc 227 [zm_A 146, zm_I 0] h2) (fun v3 h4 => zr none 5 249 15 [zm_A 146, zm_I x1, zm_I v1, zm_I v3, zm_U] [] h4))) (zc 249 [zm_A 146, zm_I x1] h) := by
  rw [zc_eq (loc := [zm_A 146, zm_I x1, zm_U, zm_U, zm_U]) (rk_249 _) rfl]
  refine zl_tr (r_aload_n d_249_0 rfl) ?_
  refine zl_tr (r_aload_n d_249_1 rfl) ?_
  refine zl_tr (r_getI (kk := 68) d_249_2 ow_249 f_12_219 la_146 (by decide) rfl) ?_
  refine zl_tr (r_VI [zm_A 146, zm_I (h 146 68)] d_249_5 ow_249 cal_12_560 na_250 rfl rfl (Nat.le_of_ble_eq_true rfl) (by rw [rk_250]; decide) (zr_rcv la_146 ow_250) (zr_im mx_250 rfl (Nat.le_of_ble_eq_true rfl)) (by rw [rt_250]; decide)) (zl_I (fun v1 h2 => ?_))
  refine zl_tr (r_istore_n (loc' := [zm_A 146, zm_I x1, zm_I v1, zm_U, zm_U]) d_249_8 (Nat.le_of_ble_eq_true rfl) rfl) ?_
  refine zl_tr (r_aload_n d_249_9 rfl) ?_
  refine zl_tr (r_iconst d_249_10 (by decide)) ?_
  refine zl_tr (r_VI [zm_A 146, zm_I 0] d_249_11 ow_249 cal_12_467 na_227 rfl rfl (Nat.le_of_ble_eq_true rfl) (by rw [rk_227]; decide) (zr_rcv la_146 ow_227) (zr_im mx_227 rfl (Nat.le_of_ble_eq_true rfl)) (by rw [rt_227]; decide)) (zl_I (fun v3 h4 => ?_))
  refine zl_tr (r_istore_n (loc' := [zm_A 146, zm_I x1, zm_I v1, zm_I v3, zm_U]) d_249_14 (Nat.le_of_ble_eq_true rfl) rfl) ?_
  exact zl_rf
-- BranTubModel.touched, from 15
set_option maxRecDepth 20000 in
theorem e_249_15 {h : zm_H} {x1 : Int} {x2 : Int} {x3 : Int} {w4 : zm_V} : zl (zk_I (zc 228 [zm_A 146, zm_I 0, zm_I x1] h) (fun v1 h2 => if x3 < v1 then (zr none 5 249 28 [zm_A 146, zm_I x1, zm_I x2, zm_I x3, zm_I 0] [] h2) else (some (zm_I (-1), h2)))) (zr none 5 249 15 [zm_A 146, zm_I x1, zm_I x2, zm_I x3, w4] [] h) := by
  refine zl_tr (r_iload_n d_249_15 rfl) ?_
  refine zl_tr (r_aload_n d_249_16 rfl) ?_
  refine zl_tr (r_iconst d_249_17 (by decide)) ?_
  refine zl_tr (r_iload_n d_249_18 rfl) ?_
  refine zl_tr (r_VI [zm_A 146, zm_I 0, zm_I x1] d_249_19 ow_249 cal_12_470 na_228 rfl rfl (Nat.le_of_ble_eq_true rfl) (by rw [rk_228]; decide) (zr_rcv la_146 ow_228) (zr_im mx_228 rfl (Nat.le_of_ble_eq_true rfl)) (by rw [rt_228]; decide)) (zl_I (fun v1 h2 => ?_))
  refine zl_tr (r_icmp_ge (tgt := 85) d_249_22 (by decide)) (zl_if ?_ ?_)
  · skip
    refine zl_tr (r_iconst d_249_25 (by decide)) ?_
    refine zl_tr (r_istore (loc' := [zm_A 146, zm_I x1, zm_I x2, zm_I x3, zm_I 0]) d_249_26 (Nat.le_of_ble_eq_true rfl) rfl) ?_
    exact zl_rf
  · skip
    refine zl_tr (r_iconst d_249_85 (by decide)) ?_
    exact r_iret d_249_86 rt_249
-- BranTubModel.touched, from 28
set_option maxRecDepth 20000 in
theorem e_249_28 {h : zm_H} {x1 : Int} {x2 : Int} {x3 : Int} {x4 : Int} : zl (zm_ck (0 ≤ (h 146 13) ∧ (h 146 13) < ((2 : Nat) : Int)) (if x4 < (h 148 (h 146 13)) then (zk_I (zc 206 [zm_A 146, zm_I 0, zm_I x3, zm_I x4] h) (fun v1 h2 => if x2 < v1 then (zm_ck (zm_i32 (8 * x3)) (zm_ck (zm_i32 ((8 * x3) + x4)) (some (zm_I ((8 * x3) + x4), h2)))) else (zk_I (zc 206 [zm_A 146, zm_I 0, zm_I x3, zm_I x4] h2) (fun v3 h4 => zm_ck (zm_i32 (x2 - v3)) (zm_ck (zm_i32 (x4 + 1)) (zr none 5 249 28 [zm_A 146, zm_I x1, zm_I (x2 - v3), zm_I x3, zm_I (x4 + 1)] [] h4)))))) else (zm_ck (zm_i32 (x3 + 1)) (zr none 5 249 15 [zm_A 146, zm_I x1, zm_I x2, zm_I (x3 + 1), zm_I x4] [] h)))) (zr none 5 249 28 [zm_A 146, zm_I x1, zm_I x2, zm_I x3, zm_I x4] [] h) := by
  refine zl_tr (r_iload d_249_28 rfl) ?_
  refine zl_tr (r_aload_n d_249_30 rfl) ?_
  refine zl_tr (r_getR d_249_31 ow_249 f_12_54 la_146 (by decide) fr_146_14) ?_
  refine zl_tr (r_aload_n d_249_34 rfl) ?_
  refine zl_tr (r_getI (kk := 13) d_249_35 ow_249 f_12_51 la_146 (by decide) rfl) ?_
  refine zl_tr (r_iaload d_249_38 la_148) (zl_ck ?_)
  refine zl_tr (r_icmp_ge (tgt := 79) d_249_39 (by decide)) (zl_if ?_ ?_)
  · skip
    refine zl_tr (r_iload_n d_249_42 rfl) ?_
    refine zl_tr (r_aload_n d_249_43 rfl) ?_
    refine zl_tr (r_iconst d_249_44 (by decide)) ?_
    refine zl_tr (r_iload_n d_249_45 rfl) ?_
    refine zl_tr (r_iload d_249_46 rfl) ?_
    refine zl_tr (r_VI [zm_A 146, zm_I 0, zm_I x3, zm_I x4] d_249_48 ow_249 cal_12_460 na_206 rfl rfl (Nat.le_of_ble_eq_true rfl) (by rw [rk_206]; decide) (zr_rcv la_146 ow_206) (zr_im mx_206 rfl (Nat.le_of_ble_eq_true rfl)) (by rw [rt_206]; decide)) (zl_I (fun v1 h2 => ?_))
    refine zl_tr (r_icmp_ge (tgt := 62) d_249_51 (by decide)) (zl_if ?_ ?_)
    · skip
      refine zl_tr (r_bipush d_249_54 (by decide)) ?_
      refine zl_tr (r_iload_n d_249_56 rfl) ?_
      refine zl_tr (r_imul d_249_57) (zl_ck ?_)
      refine zl_tr (r_iload d_249_58 rfl) ?_
      refine zl_tr (r_iadd d_249_60) (zl_ck ?_)
      exact r_iret d_249_61 rt_249
    · skip
      refine zl_tr (r_iload_n d_249_62 rfl) ?_
      refine zl_tr (r_aload_n d_249_63 rfl) ?_
      refine zl_tr (r_iconst d_249_64 (by decide)) ?_
      refine zl_tr (r_iload_n d_249_65 rfl) ?_
      refine zl_tr (r_iload d_249_66 rfl) ?_
      refine zl_tr (r_VI [zm_A 146, zm_I 0, zm_I x3, zm_I x4] d_249_68 ow_249 cal_12_460 na_206 rfl rfl (Nat.le_of_ble_eq_true rfl) (by rw [rk_206]; decide) (zr_rcv la_146 ow_206) (zr_im mx_206 rfl (Nat.le_of_ble_eq_true rfl)) (by rw [rt_206]; decide)) (zl_I (fun v3 h4 => ?_))
      refine zl_tr (r_isub d_249_71) (zl_ck ?_)
      refine zl_tr (r_istore_n (loc' := [zm_A 146, zm_I x1, zm_I (x2 - v3), zm_I x3, zm_I x4]) d_249_72 (Nat.le_of_ble_eq_true rfl) rfl) ?_
      refine zl_tr (r_iinc (loc' := [zm_A 146, zm_I x1, zm_I (x2 - v3), zm_I x3, zm_I (x4 + 1)]) d_249_73 rfl (Nat.le_of_ble_eq_true rfl) rfl) (zl_ck ?_)
      refine zl_tr (r_goto (tgt := 28) d_249_76 (by decide)) ?_
      exact zl_rf
  · skip
    refine zl_tr (r_iinc (loc' := [zm_A 146, zm_I x1, zm_I x2, zm_I (x3 + 1), zm_I x4]) d_249_79 rfl (Nat.le_of_ble_eq_true rfl) rfl) (zl_ck ?_)
    refine zl_tr (r_goto (tgt := 15) d_249_82 (by decide)) ?_
    exact zl_rf
-- BranTubModel.draw
set_option maxRecDepth 20000 in
theorem e_250 {h : zm_H} {x1 : Int} : zl (zm_ck (zm_i64 (1103515245 * (h 146 58))) (zm_ck (zm_i64 ((1103515245 * (h 146 58)) + 12345)) (zm_ck ((2147483648 : Int) ≠ 0 ∧ zm_i64 (((1103515245 * (h 146 58)) + 12345).tdiv 2147483648) ∧ zm_i64 (((1103515245 * (h 146 58)) + 12345).tmod 2147483648)) (zm_ck ((64 : Int) ≠ 0 ∧ zm_i64 (((zm_wr h 146 58 (((1103515245 * (h 146 58)) + 12345).tmod 2147483648)) 146 58).tdiv 64)) (zm_ck ((x1 : Int) ≠ 0 ∧ zm_i64 ((((zm_wr h 146 58 (((1103515245 * (h 146 58)) + 12345).tmod 2147483648)) 146 58).tdiv 64).tdiv x1) ∧ zm_i64 ((((zm_wr h 146 58 (((1103515245 * (h 146 58)) + 12345).tmod 2147483648)) 146 58).tdiv 64).tmod x1)) (zm_ck (zm_i32 ((((zm_wr h 146 58 (((1103515245 * (h 146 58)) + 12345).tmod 2147483648)) 146 58).tdiv 64).tmod x1)) (some (zm_I ((((zm_wr h 146 58 (((1103515245 * (h 146 58)) + 12345).tmod 2147483648)) 146 58).tdiv 64).tmod x1), (zm_wr h 146 58 (((1103515245 * (h 146 58)) + 12345).tmod 2147483648)))))))))) (zc 250 [zm_A 146, zm_I x1] h) := by
  rw [zc_eq (loc := [zm_A 146, zm_I x1]) (rk_250 _) rfl]
  refine zl_tr (r_aload_n d_250_0 rfl) ?_
  refine zl_tr (r_ldc2 d_250_1 ow_250 lng_12_552) ?_
  refine zl_tr (r_aload_n d_250_4 rfl) ?_
  refine zl_tr (r_getL (kk := 58) d_250_5 ow_250 f_12_189 la_146 (by decide) rfl) ?_
  refine zl_tr (r_lmul d_250_8) (zl_ck ?_)
  refine zl_tr (r_ldc2 d_250_9 ow_250 lng_12_554) ?_
  refine zl_tr (r_ladd d_250_12) (zl_ck ?_)
  refine zl_tr (r_ldc2 d_250_13 ow_250 lng_12_556) ?_
  refine zl_tr (r_lrem d_250_16) (zl_ck ?_)
  refine zl_tr (r_putL (kk := 58) d_250_17 ow_250 f_12_189 la_146 (by decide) rfl) ?_
  refine zl_tr (r_aload_n d_250_20 rfl) ?_
  refine zl_tr (r_getL (kk := 58) d_250_21 ow_250 f_12_189 la_146 (by decide) rfl) ?_
  refine zl_tr (r_ldc2 d_250_24 ow_250 lng_12_558) ?_
  refine zl_tr (r_ldiv d_250_27) (zl_ck ?_)
  refine zl_tr (r_iload_n d_250_28 rfl) ?_
  refine zl_tr (r_i2l d_250_29) ?_
  refine zl_tr (r_lrem d_250_30) (zl_ck ?_)
  refine zl_tr (r_l2i d_250_31) (zl_ck ?_)
  exact r_iret d_250_32 rt_250
-- BranTubModel.letsGo
set_option maxRecDepth 20000 in
theorem e_251 {h : zm_H} {x1 : Int} {x2 : Int} : zl (zm_ck (0 ≤ (h 146 13) ∧ (h 146 13) < ((2 : Nat) : Int)) (if (h 161 (h 146 13)) = (-1) then (zm_ck (zm_bit 0) (some (zm_I 0, h))) else (zr none 5 251 20 [zm_A 146, zm_I x1, zm_I x2, zm_L 0, zm_U, zm_I 0] [] h))) (zc 251 [zm_A 146, zm_I x1, zm_I x2] h) := by
  rw [zc_eq (loc := [zm_A 146, zm_I x1, zm_I x2, zm_U, zm_U, zm_U]) (rk_251 _) rfl]
  refine zl_tr (r_aload_n d_251_0 rfl) ?_
  refine zl_tr (r_getR d_251_1 ow_251 f_12_93 la_146 (by decide) fr_146_27) ?_
  refine zl_tr (r_aload_n d_251_4 rfl) ?_
  refine zl_tr (r_getI (kk := 13) d_251_5 ow_251 f_12_51 la_146 (by decide) rfl) ?_
  refine zl_tr (r_iaload d_251_8 la_161) (zl_ck ?_)
  refine zl_tr (r_iconst d_251_9 (by decide)) ?_
  refine zl_tr (r_icmp_ne (tgt := 15) d_251_10 (by decide)) (zl_if ?_ ?_)
  · skip
    refine zl_tr (r_iconst d_251_13 (by decide)) ?_
    exact r_zret d_251_14 rt_251
  · skip
    refine zl_tr (r_lconst (z := 0) d_251_15 rfl) ?_
    refine zl_tr (r_lstore_n (loc' := [zm_A 146, zm_I x1, zm_I x2, zm_L 0, zm_U, zm_U]) d_251_16 (Nat.le_of_ble_eq_true rfl) rfl) ?_
    refine zl_tr (r_iconst d_251_17 (by decide)) ?_
    refine zl_tr (r_istore (loc' := [zm_A 146, zm_I x1, zm_I x2, zm_L 0, zm_U, zm_I 0]) d_251_18 (Nat.le_of_ble_eq_true rfl) rfl) ?_
    exact zl_rf
-- BranTubModel.letsGo, from 20
set_option maxRecDepth 20000 in
theorem e_251_20 {h : zm_H} {x1 : Int} {x2 : Int} {x3 : Int} {x5 : Int} : zl (zm_ck (0 ≤ (h 146 13) ∧ (h 146 13) < ((2 : Nat) : Int)) (if x5 < (h 148 (h 146 13)) then (zk_I (zc 224 [zm_A 146, zm_I x1, zm_I x5] h) (fun v1 h2 => zm_ck (0 ≤ x5 ∧ x5 < ((8 : Nat) : Int)) (zm_ck (zm_i32 (v1 * (h2 186 x5))) (zm_ck (zm_i64 (x3 + (v1 * (h2 186 x5)))) (zm_ck (zm_i32 (x5 + 1)) (zr none 5 251 20 [zm_A 146, zm_I x1, zm_I x2, zm_L (x3 + (v1 * (h2 186 x5))), zm_U, zm_I (x5 + 1)] [] h2)))))) else (zk_V (zc 208 [zm_A 146, zm_I 0] h) (fun h3 => zk_I (zc 224 [zm_A 146, zm_I x1, zm_I x2] h3) (fun v4 h5 => zk_I (zc 219 [zm_A 146, zm_I x2] (zm_wr h5 146 63 v4)) (fun v6 h7 => zm_ck ((((zm_wr h7 146 64 v6) 146 68) : Int) ≠ 0 ∧ zm_i64 (x3.tdiv ((zm_wr h7 146 64 v6) 146 68))) (zm_ck (zm_i32 (x3.tdiv ((zm_wr h7 146 64 v6) 146 68))) (zm_ck (0 ≤ ((zm_wr (zm_wr h7 146 64 v6) 146 65 (x3.tdiv ((zm_wr h7 146 64 v6) 146 68))) 146 13) ∧ ((zm_wr (zm_wr h7 146 64 v6) 146 65 (x3.tdiv ((zm_wr h7 146 64 v6) 146 68))) 146 13) < ((2 : Nat) : Int)) (zm_ck (0 ≤ ((zm_wr (zm_wr h7 146 64 v6) 146 65 (x3.tdiv ((zm_wr h7 146 64 v6) 146 68))) 146 13) ∧ ((zm_wr (zm_wr h7 146 64 v6) 146 65 (x3.tdiv ((zm_wr h7 146 64 v6) 146 68))) 146 13) < ((2 : Nat) : Int)) (zk_L (zc 209 [zm_A 146, zm_I ((zm_wr (zm_wr h7 146 64 v6) 146 65 (x3.tdiv ((zm_wr h7 146 64 v6) 146 68))) 161 ((zm_wr (zm_wr h7 146 64 v6) 146 65 (x3.tdiv ((zm_wr h7 146 64 v6) 146 68))) 146 13)), zm_I ((zm_wr (zm_wr h7 146 64 v6) 146 65 (x3.tdiv ((zm_wr h7 146 64 v6) 146 68))) 162 ((zm_wr (zm_wr h7 146 64 v6) 146 65 (x3.tdiv ((zm_wr h7 146 64 v6) 146 68))) 146 13))] (zm_wr (zm_wr h7 146 64 v6) 146 65 (x3.tdiv ((zm_wr h7 146 64 v6) 146 68)))) (fun v8 h9 => if (if v8 < 1 then -1 else if v8 = 1 then 0 else 1) = 0 then (zm_ck (zm_bit 1) (some (zm_I 1, h9))) else (zm_ck (zm_bit 0) (some (zm_I 0, h9)))))))))))))) (zr none 5 251 20 [zm_A 146, zm_I x1, zm_I x2, zm_L x3, zm_U, zm_I x5] [] h) := by
  refine zl_tr (r_iload d_251_20 rfl) ?_
  refine zl_tr (r_aload_n d_251_22 rfl) ?_
  refine zl_tr (r_getR d_251_23 ow_251 f_12_54 la_146 (by decide) fr_146_14) ?_
  refine zl_tr (r_aload_n d_251_26 rfl) ?_
  refine zl_tr (r_getI (kk := 13) d_251_27 ow_251 f_12_51 la_146 (by decide) rfl) ?_
  refine zl_tr (r_iaload d_251_30 la_148) (zl_ck ?_)
  refine zl_tr (r_icmp_ge (tgt := 59) d_251_31 (by decide)) (zl_if ?_ ?_)
  · skip
    refine zl_tr (r_lload_n d_251_34 rfl) ?_
    refine zl_tr (r_aload_n d_251_35 rfl) ?_
    refine zl_tr (r_iload_n d_251_36 rfl) ?_
    refine zl_tr (r_iload d_251_37 rfl) ?_
    refine zl_tr (r_VI [zm_A 146, zm_I x1, zm_I x5] d_251_39 ow_251 cal_12_473 na_224 rfl rfl (Nat.le_of_ble_eq_true rfl) (by rw [rk_224]; decide) (zr_rcv la_146 ow_224) (zr_im mx_224 rfl (Nat.le_of_ble_eq_true rfl)) (by rw [rt_224]; decide)) (zl_I (fun v1 h2 => ?_))
    refine zl_tr (r_aload_n d_251_42 rfl) ?_
    refine zl_tr (r_getR d_251_43 ow_251 f_12_216 la_146 (by decide) fr_146_67) ?_
    refine zl_tr (r_iload d_251_46 rfl) ?_
    refine zl_tr (r_iaload d_251_48 la_186) (zl_ck ?_)
    refine zl_tr (r_imul d_251_49) (zl_ck ?_)
    refine zl_tr (r_i2l d_251_50) ?_
    refine zl_tr (r_ladd d_251_51) (zl_ck ?_)
    refine zl_tr (r_lstore_n (loc' := [zm_A 146, zm_I x1, zm_I x2, zm_L (x3 + (v1 * (h2 186 x5))), zm_U, zm_I x5]) d_251_52 (Nat.le_of_ble_eq_true rfl) rfl) ?_
    refine zl_tr (r_iinc (loc' := [zm_A 146, zm_I x1, zm_I x2, zm_L (x3 + (v1 * (h2 186 x5))), zm_U, zm_I (x5 + 1)]) d_251_53 rfl (Nat.le_of_ble_eq_true rfl) rfl) (zl_ck ?_)
    refine zl_tr (r_goto (tgt := 20) d_251_56 (by decide)) ?_
    exact zl_rf
  · skip
    refine zl_tr (r_aload_n d_251_59 rfl) ?_
    refine zl_tr (r_iconst d_251_60 (by decide)) ?_
    refine zl_tr (r_VV [zm_A 146, zm_I 0] d_251_61 ow_251 cal_12_504 na_208 rfl rfl (Nat.le_of_ble_eq_true rfl) (by rw [rk_208]; decide) (zr_rcv la_146 ow_208) (zr_im mx_208 rfl (Nat.le_of_ble_eq_true rfl)) rt_208) (zl_V (fun h3 => ?_))
    refine zl_tr (r_aload_n d_251_64 rfl) ?_
    refine zl_tr (r_aload_n d_251_65 rfl) ?_
    refine zl_tr (r_iload_n d_251_66 rfl) ?_
    refine zl_tr (r_iload_n d_251_67 rfl) ?_
    refine zl_tr (r_VI [zm_A 146, zm_I x1, zm_I x2] d_251_68 ow_251 cal_12_473 na_224 rfl rfl (Nat.le_of_ble_eq_true rfl) (by rw [rk_224]; decide) (zr_rcv la_146 ow_224) (zr_im mx_224 rfl (Nat.le_of_ble_eq_true rfl)) (by rw [rt_224]; decide)) (zl_I (fun v4 h5 => ?_))
    refine zl_tr (r_putI (kk := 63) d_251_71 ow_251 f_12_204 la_146 (by decide) rfl) ?_
    refine zl_tr (r_aload_n d_251_74 rfl) ?_
    refine zl_tr (r_aload_n d_251_75 rfl) ?_
    refine zl_tr (r_iload_n d_251_76 rfl) ?_
    refine zl_tr (r_VI [zm_A 146, zm_I x2] d_251_77 ow_251 cal_12_476 na_219 rfl rfl (Nat.le_of_ble_eq_true rfl) (by rw [rk_219]; decide) (zr_rcv la_146 ow_219) (zr_im mx_219 rfl (Nat.le_of_ble_eq_true rfl)) (by rw [rt_219]; decide)) (zl_I (fun v6 h7 => ?_))
    refine zl_tr (r_putI (kk := 64) d_251_80 ow_251 f_12_207 la_146 (by decide) rfl) ?_
    refine zl_tr (r_aload_n d_251_83 rfl) ?_
    refine zl_tr (r_lload_n d_251_84 rfl) ?_
    refine zl_tr (r_aload_n d_251_85 rfl) ?_
    refine zl_tr (r_getI (kk := 68) d_251_86 ow_251 f_12_219 la_146 (by decide) rfl) ?_
    refine zl_tr (r_i2l d_251_89) ?_
    refine zl_tr (r_ldiv d_251_90) (zl_ck ?_)
    refine zl_tr (r_l2i d_251_91) (zl_ck ?_)
    refine zl_tr (r_putI (kk := 65) d_251_92 ow_251 f_12_210 la_146 (by decide) rfl) ?_
    refine zl_tr (r_aload_n d_251_95 rfl) ?_
    refine zl_tr (r_aload_n d_251_96 rfl) ?_
    refine zl_tr (r_getR d_251_97 ow_251 f_12_93 la_146 (by decide) fr_146_27) ?_
    refine zl_tr (r_aload_n d_251_100 rfl) ?_
    refine zl_tr (r_getI (kk := 13) d_251_101 ow_251 f_12_51 la_146 (by decide) rfl) ?_
    refine zl_tr (r_iaload d_251_104 la_161) (zl_ck ?_)
    refine zl_tr (r_aload_n d_251_105 rfl) ?_
    refine zl_tr (r_getR d_251_106 ow_251 f_12_96 la_146 (by decide) fr_146_28) ?_
    refine zl_tr (r_aload_n d_251_109 rfl) ?_
    refine zl_tr (r_getI (kk := 13) d_251_110 ow_251 f_12_51 la_146 (by decide) rfl) ?_
    refine zl_tr (r_iaload d_251_113 la_162) (zl_ck ?_)
    refine zl_tr (r_VL [zm_A 146, zm_I ((zm_wr (zm_wr h7 146 64 v6) 146 65 (x3.tdiv ((zm_wr h7 146 64 v6) 146 68))) 161 ((zm_wr (zm_wr h7 146 64 v6) 146 65 (x3.tdiv ((zm_wr h7 146 64 v6) 146 68))) 146 13)), zm_I ((zm_wr (zm_wr h7 146 64 v6) 146 65 (x3.tdiv ((zm_wr h7 146 64 v6) 146 68))) 162 ((zm_wr (zm_wr h7 146 64 v6) 146 65 (x3.tdiv ((zm_wr h7 146 64 v6) 146 68))) 146 13))] d_251_114 ow_251 cal_12_507 na_209 rfl rfl (Nat.le_of_ble_eq_true rfl) (by rw [rk_209]; decide) (zr_rcv la_146 ow_209) (zr_im mx_209 rfl (Nat.le_of_ble_eq_true rfl)) rt_209) (zl_L (fun v8 h9 => ?_))
    refine zl_tr (r_lconst (z := 1) d_251_117 rfl) ?_
    refine zl_tr (r_lcmp d_251_118) ?_
    refine zl_tr (r_if_ne (tgt := 126) d_251_119 (by decide)) (zl_if ?_ ?_)
    · skip
      refine zl_tr (r_iconst d_251_122 (by decide)) ?_
      refine zl_tr (r_goto (tgt := 127) d_251_123 (by decide)) ?_
      exact r_zret d_251_127 rt_251
    · skip
      refine zl_tr (r_iconst d_251_126 (by decide)) ?_
      exact r_zret d_251_127 rt_251
-- BranTubModel.writesDown
set_option maxRecDepth 20000 in
theorem e_252 {h : zm_H} {x1 : Int} {x2 : Int} {x3 : Int} : zl (zm_ck (0 ≤ 0 ∧ 0 < ((22 : Nat) : Int)) (if (h 179 0) = 60 then (zr none 1 252 14 [zm_A 146, zm_I x1, zm_I x2, zm_I x3, zm_I 0] [] h) else (zr none 1 252 101 [zm_A 146, zm_I x1, zm_I x2, zm_I x3, zm_U] [] h))) (zc 252 [zm_A 146, zm_I x1, zm_I x2, zm_I x3] h) := by
  rw [zc_eq (loc := [zm_A 146, zm_I x1, zm_I x2, zm_I x3, zm_U]) (rk_252 _) rfl]
  refine zl_tr (r_aload_n d_252_0 rfl) ?_
  refine zl_tr (r_getR d_252_1 ow_252 f_12_168 la_146 (by decide) fr_146_51) ?_
  refine zl_tr (r_iconst d_252_4 (by decide)) ?_
  refine zl_tr (r_iaload d_252_5 la_179) (zl_ck ?_)
  refine zl_tr (r_bipush d_252_6 (by decide)) ?_
  refine zl_tr (r_icmp_ne (tgt := 101) d_252_8 (by decide)) (zl_if ?_ ?_)
  · skip
    refine zl_tr (r_iconst d_252_11 (by decide)) ?_
    refine zl_tr (r_istore (loc' := [zm_A 146, zm_I x1, zm_I x2, zm_I x3, zm_I 0]) d_252_12 (Nat.le_of_ble_eq_true rfl) rfl) ?_
    exact zl_rf
  · skip
    exact zl_rf
-- BranTubModel.writesDown, from 14
set_option maxRecDepth 20000 in
theorem e_252_14 {h : zm_H} {x1 : Int} {x2 : Int} {x3 : Int} {x4 : Int} : zl (if x4 < 59 then (zm_ck (zm_i32 (x4 + 1)) (zm_ck (0 ≤ (x4 + 1) ∧ (x4 + 1) < ((1320 : Nat) : Int)) (zm_ck (0 ≤ x4 ∧ x4 < ((1320 : Nat) : Int)) (zm_ck (zm_i32 (x4 + 1)) (zm_ck (0 ≤ (x4 + 1) ∧ (x4 + 1) < ((1320 : Nat) : Int)) (zm_ck (0 ≤ x4 ∧ x4 < ((1320 : Nat) : Int)) (zm_ck (zm_i32 (x4 + 1)) (zm_ck (0 ≤ (x4 + 1) ∧ (x4 + 1) < ((1320 : Nat) : Int)) (zm_ck (0 ≤ x4 ∧ x4 < ((1320 : Nat) : Int)) (zm_ck (zm_i32 (x4 + 1)) (zm_ck (0 ≤ (x4 + 1) ∧ (x4 + 1) < ((1320 : Nat) : Int)) (zm_ck (0 ≤ x4 ∧ x4 < ((1320 : Nat) : Int)) (zm_ck (zm_i32 (x4 + 1)) (zr none 1 252 14 [zm_A 146, zm_I x1, zm_I x2, zm_I x3, zm_I (x4 + 1)] [] (zm_wr (zm_wr (zm_wr (zm_wr h 180 x4 (h 180 (x4 + 1))) 181 x4 ((zm_wr h 180 x4 (h 180 (x4 + 1))) 181 (x4 + 1))) 182 x4 ((zm_wr (zm_wr h 180 x4 (h 180 (x4 + 1))) 181 x4 ((zm_wr h 180 x4 (h 180 (x4 + 1))) 181 (x4 + 1))) 182 (x4 + 1))) 183 x4 ((zm_wr (zm_wr (zm_wr h 180 x4 (h 180 (x4 + 1))) 181 x4 ((zm_wr h 180 x4 (h 180 (x4 + 1))) 181 (x4 + 1))) 182 x4 ((zm_wr (zm_wr h 180 x4 (h 180 (x4 + 1))) 181 x4 ((zm_wr h 180 x4 (h 180 (x4 + 1))) 181 (x4 + 1))) 182 (x4 + 1))) 183 (x4 + 1))))))))))))))))) else (zm_ck (0 ≤ 0 ∧ 0 < ((22 : Nat) : Int)) (zm_ck (zm_i32 ((h 179 0) - 1)) (zm_ck (0 ≤ 0 ∧ 0 < ((22 : Nat) : Int)) (zr none 1 252 101 [zm_A 146, zm_I x1, zm_I x2, zm_I x3, zm_I x4] [] (zm_wr h 179 0 ((h 179 0) - 1))))))) (zr none 1 252 14 [zm_A 146, zm_I x1, zm_I x2, zm_I x3, zm_I x4] [] h) := by
  refine zl_tr (r_iload d_252_14 rfl) ?_
  refine zl_tr (r_bipush d_252_16 (by decide)) ?_
  refine zl_tr (r_icmp_ge (tgt := 91) d_252_18 (by decide)) (zl_if ?_ ?_)
  · skip
    refine zl_tr (r_aload_n d_252_21 rfl) ?_
    refine zl_tr (r_getR d_252_22 ow_252 f_12_171 la_146 (by decide) fr_146_52) ?_
    refine zl_tr (r_iload d_252_25 rfl) ?_
    refine zl_tr (r_aload_n d_252_27 rfl) ?_
    refine zl_tr (r_getR d_252_28 ow_252 f_12_171 la_146 (by decide) fr_146_52) ?_
    refine zl_tr (r_iload d_252_31 rfl) ?_
    refine zl_tr (r_iconst d_252_33 (by decide)) ?_
    refine zl_tr (r_iadd d_252_34) (zl_ck ?_)
    refine zl_tr (r_iaload d_252_35 la_180) (zl_ck ?_)
    refine zl_tr (r_iastore d_252_36 la_180) (zl_ck ?_)
    refine zl_tr (r_aload_n d_252_37 rfl) ?_
    refine zl_tr (r_getR d_252_38 ow_252 f_12_174 la_146 (by decide) fr_146_53) ?_
    refine zl_tr (r_iload d_252_41 rfl) ?_
    refine zl_tr (r_aload_n d_252_43 rfl) ?_
    refine zl_tr (r_getR d_252_44 ow_252 f_12_174 la_146 (by decide) fr_146_53) ?_
    refine zl_tr (r_iload d_252_47 rfl) ?_
    refine zl_tr (r_iconst d_252_49 (by decide)) ?_
    refine zl_tr (r_iadd d_252_50) (zl_ck ?_)
    refine zl_tr (r_iaload d_252_51 la_181) (zl_ck ?_)
    refine zl_tr (r_iastore d_252_52 la_181) (zl_ck ?_)
    refine zl_tr (r_aload_n d_252_53 rfl) ?_
    refine zl_tr (r_getR d_252_54 ow_252 f_12_177 la_146 (by decide) fr_146_54) ?_
    refine zl_tr (r_iload d_252_57 rfl) ?_
    refine zl_tr (r_aload_n d_252_59 rfl) ?_
    refine zl_tr (r_getR d_252_60 ow_252 f_12_177 la_146 (by decide) fr_146_54) ?_
    refine zl_tr (r_iload d_252_63 rfl) ?_
    refine zl_tr (r_iconst d_252_65 (by decide)) ?_
    refine zl_tr (r_iadd d_252_66) (zl_ck ?_)
    refine zl_tr (r_iaload d_252_67 la_182) (zl_ck ?_)
    refine zl_tr (r_iastore d_252_68 la_182) (zl_ck ?_)
    refine zl_tr (r_aload_n d_252_69 rfl) ?_
    refine zl_tr (r_getR d_252_70 ow_252 f_12_180 la_146 (by decide) fr_146_55) ?_
    refine zl_tr (r_iload d_252_73 rfl) ?_
    refine zl_tr (r_aload_n d_252_75 rfl) ?_
    refine zl_tr (r_getR d_252_76 ow_252 f_12_180 la_146 (by decide) fr_146_55) ?_
    refine zl_tr (r_iload d_252_79 rfl) ?_
    refine zl_tr (r_iconst d_252_81 (by decide)) ?_
    refine zl_tr (r_iadd d_252_82) (zl_ck ?_)
    refine zl_tr (r_iaload d_252_83 la_183) (zl_ck ?_)
    refine zl_tr (r_iastore d_252_84 la_183) (zl_ck ?_)
    refine zl_tr (r_iinc (loc' := [zm_A 146, zm_I x1, zm_I x2, zm_I x3, zm_I (x4 + 1)]) d_252_85 rfl (Nat.le_of_ble_eq_true rfl) rfl) (zl_ck ?_)
    refine zl_tr (r_goto (tgt := 14) d_252_88 (by decide)) ?_
    exact zl_rf
  · skip
    refine zl_tr (r_aload_n d_252_91 rfl) ?_
    refine zl_tr (r_getR d_252_92 ow_252 f_12_168 la_146 (by decide) fr_146_51) ?_
    refine zl_tr (r_iconst d_252_95 (by decide)) ?_
    refine zl_tr (r_dup2 d_252_96 ⟨rfl, rfl⟩) ?_
    refine zl_tr (r_iaload d_252_97 la_179) (zl_ck ?_)
    refine zl_tr (r_iconst d_252_98 (by decide)) ?_
    refine zl_tr (r_isub d_252_99) (zl_ck ?_)
    refine zl_tr (r_iastore d_252_100 la_179) (zl_ck ?_)
    exact zl_rf
-- BranTubModel.writesDown, from 101
set_option maxRecDepth 20000 in
theorem e_252_101 {h : zm_H} {x1 : Int} {x2 : Int} {x3 : Int} {w4 : zm_V} : zl (zm_ck (0 ≤ 0 ∧ 0 < ((22 : Nat) : Int)) (zm_ck (0 ≤ (h 179 0) ∧ (h 179 0) < ((1320 : Nat) : Int)) (zm_ck (0 ≤ (h 179 0) ∧ (h 179 0) < ((1320 : Nat) : Int)) (zm_ck (0 ≤ 0 ∧ 0 < ((22 : Nat) : Int)) (zm_ck (0 ≤ (h 179 0) ∧ (h 179 0) < ((1320 : Nat) : Int)) (zm_ck (0 ≤ (h 179 0) ∧ (h 179 0) < ((1320 : Nat) : Int)) (zm_ck (0 ≤ 0 ∧ 0 < ((22 : Nat) : Int)) (zm_ck (zm_i32 (((zm_wr (zm_wr (zm_wr (zm_wr h 180 (h 179 0) x1) 181 (h 179 0) x2) 182 (h 179 0) ((zm_wr (zm_wr h 180 (h 179 0) x1) 181 (h 179 0) x2) 174 0)) 183 (h 179 0) x3) 179 0) + 1)) (zm_ck (0 ≤ 0 ∧ 0 < ((22 : Nat) : Int)) (some (zm_U, (zm_wr (zm_wr (zm_wr (zm_wr (zm_wr h 180 (h 179 0) x1) 181 (h 179 0) x2) 182 (h 179 0) ((zm_wr (zm_wr h 180 (h 179 0) x1) 181 (h 179 0) x2) 174 0)) 183 (h 179 0) x3) 179 0 (((zm_wr (zm_wr (zm_wr (zm_wr h 180 (h 179 0) x1) 181 (h 179 0) x2) 182 (h 179 0) ((zm_wr (zm_wr h 180 (h 179 0) x1) 181 (h 179 0) x2) 174 0)) 183 (h 179 0) x3) 179 0) + 1))))))))))))) (zr none 1 252 101 [zm_A 146, zm_I x1, zm_I x2, zm_I x3, w4] [] h) := by
  refine zl_tr (r_aload_n d_252_101 rfl) ?_
  refine zl_tr (r_getR d_252_102 ow_252 f_12_168 la_146 (by decide) fr_146_51) ?_
  refine zl_tr (r_iconst d_252_105 (by decide)) ?_
  refine zl_tr (r_iaload d_252_106 la_179) (zl_ck ?_)
  refine zl_tr (r_istore (loc' := [zm_A 146, zm_I x1, zm_I x2, zm_I x3, zm_I (h 179 0)]) d_252_107 (Nat.le_of_ble_eq_true rfl) rfl) ?_
  refine zl_tr (r_aload_n d_252_109 rfl) ?_
  refine zl_tr (r_getR d_252_110 ow_252 f_12_171 la_146 (by decide) fr_146_52) ?_
  refine zl_tr (r_iload d_252_113 rfl) ?_
  refine zl_tr (r_iload_n d_252_115 rfl) ?_
  refine zl_tr (r_iastore d_252_116 la_180) (zl_ck ?_)
  refine zl_tr (r_aload_n d_252_117 rfl) ?_
  refine zl_tr (r_getR d_252_118 ow_252 f_12_174 la_146 (by decide) fr_146_53) ?_
  refine zl_tr (r_iload d_252_121 rfl) ?_
  refine zl_tr (r_iload_n d_252_123 rfl) ?_
  refine zl_tr (r_iastore d_252_124 la_181) (zl_ck ?_)
  refine zl_tr (r_aload_n d_252_125 rfl) ?_
  refine zl_tr (r_getR d_252_126 ow_252 f_12_177 la_146 (by decide) fr_146_54) ?_
  refine zl_tr (r_iload d_252_129 rfl) ?_
  refine zl_tr (r_aload_n d_252_131 rfl) ?_
  refine zl_tr (r_getR d_252_132 ow_252 f_12_153 la_146 (by decide) fr_146_46) ?_
  refine zl_tr (r_iconst d_252_135 (by decide)) ?_
  refine zl_tr (r_iaload d_252_136 la_174) (zl_ck ?_)
  refine zl_tr (r_iastore d_252_137 la_182) (zl_ck ?_)
  refine zl_tr (r_aload_n d_252_138 rfl) ?_
  refine zl_tr (r_getR d_252_139 ow_252 f_12_180 la_146 (by decide) fr_146_55) ?_
  refine zl_tr (r_iload d_252_142 rfl) ?_
  refine zl_tr (r_iload_n d_252_144 rfl) ?_
  refine zl_tr (r_iastore d_252_145 la_183) (zl_ck ?_)
  refine zl_tr (r_aload_n d_252_146 rfl) ?_
  refine zl_tr (r_getR d_252_147 ow_252 f_12_168 la_146 (by decide) fr_146_51) ?_
  refine zl_tr (r_iconst d_252_150 (by decide)) ?_
  refine zl_tr (r_dup2 d_252_151 ⟨rfl, rfl⟩) ?_
  refine zl_tr (r_iaload d_252_152 la_179) (zl_ck ?_)
  refine zl_tr (r_iconst d_252_153 (by decide)) ?_
  refine zl_tr (r_iadd d_252_154) (zl_ck ?_)
  refine zl_tr (r_iastore d_252_155 la_179) (zl_ck ?_)
  exact r_vret d_252_156 rt_252
-- BranTubModel.hour
set_option maxRecDepth 20000 in
theorem e_253 {h : zm_H}  : zl (zm_ck (0 ≤ 0 ∧ 0 < ((22 : Nat) : Int)) (if (h 174 0) = 99 then (zk_I (zc 155 [zm_A 146, zm_I 3] h) (fun v1 h2 => some (zm_I v1, h2))) else (zk_V (zc 247 [zm_A 146] h) (fun h3 => zm_ck (0 ≤ 0 ∧ 0 < ((22 : Nat) : Int)) (zm_ck (zm_i32 ((h3 174 0) + 1)) (zm_ck (0 ≤ 0 ∧ 0 < ((22 : Nat) : Int)) (zm_ck (0 ≤ 0 ∧ 0 < ((22 : Nat) : Int)) (some (zm_I ((zm_wr h3 174 0 ((h3 174 0) + 1)) 174 0), (zm_wr h3 174 0 ((h3 174 0) + 1))))))))))) (zc 253 [zm_A 146] h) := by
  rw [zc_eq (loc := [zm_A 146]) (rk_253 _) rfl]
  refine zl_tr (r_aload_n d_253_0 rfl) ?_
  refine zl_tr (r_getR d_253_1 ow_253 f_12_153 la_146 (by decide) fr_146_46) ?_
  refine zl_tr (r_iconst d_253_4 (by decide)) ?_
  refine zl_tr (r_iaload d_253_5 la_174) (zl_ck ?_)
  refine zl_tr (r_bipush d_253_6 (by decide)) ?_
  refine zl_tr (r_icmp_ne (tgt := 17) d_253_8 (by decide)) (zl_if ?_ ?_)
  · skip
    refine zl_tr (r_aload_n d_253_11 rfl) ?_
    refine zl_tr (r_iconst d_253_12 (by decide)) ?_
    refine zl_tr (r_VI [zm_A 146, zm_I 3] d_253_13 ow_253 cal_12_249 na_155 rfl rfl (Nat.le_of_ble_eq_true rfl) (by rw [rk_155]; decide) (zr_rcv la_146 ow_155) (zr_im mx_155 rfl (Nat.le_of_ble_eq_true rfl)) (by rw [rt_155]; decide)) (zl_I (fun v1 h2 => ?_))
    exact r_iret d_253_16 rt_253
  · skip
    refine zl_tr (r_aload_n d_253_17 rfl) ?_
    refine zl_tr (r_VV [zm_A 146] d_253_18 ow_253 cal_12_573 na_247 rfl rfl (Nat.le_of_ble_eq_true rfl) (by rw [rk_247]; decide) (zr_rcv la_146 ow_247) (zr_im mx_247 rfl (Nat.le_of_ble_eq_true rfl)) rt_247) (zl_V (fun h3 => ?_))
    refine zl_tr (r_aload_n d_253_21 rfl) ?_
    refine zl_tr (r_getR d_253_22 ow_253 f_12_153 la_146 (by decide) fr_146_46) ?_
    refine zl_tr (r_iconst d_253_25 (by decide)) ?_
    refine zl_tr (r_dup2 d_253_26 ⟨rfl, rfl⟩) ?_
    refine zl_tr (r_iaload d_253_27 la_174) (zl_ck ?_)
    refine zl_tr (r_iconst d_253_28 (by decide)) ?_
    refine zl_tr (r_iadd d_253_29) (zl_ck ?_)
    refine zl_tr (r_iastore d_253_30 la_174) (zl_ck ?_)
    refine zl_tr (r_aload_n d_253_31 rfl) ?_
    refine zl_tr (r_getR d_253_32 ow_253 f_12_153 la_146 (by decide) fr_146_46) ?_
    refine zl_tr (r_iconst d_253_35 (by decide)) ?_
    refine zl_tr (r_iaload d_253_36 la_174) (zl_ck ?_)
    exact r_iret d_253_37 rt_253
-- BranTubModel.put
set_option maxRecDepth 20000 in
theorem e_254 {h : zm_H} {x1 : Int} {x2 : Int} {x3 : Int} : zl (zk_I (zc 221 [zm_A 146, zm_I x1] h) (fun v1 h2 => if v1 = 0 then (zk_I (zc 155 [zm_A 146, zm_I 3] h2) (fun v3 h4 => some (zm_I v3, h4))) else (zk_I (zc 218 [zm_A 146, zm_I x2] h2) (fun v5 h6 => if v5 = 0 then (zk_I (zc 155 [zm_A 146, zm_I 3] h6) (fun v7 h8 => some (zm_I v7, h8))) else (zk_I (zc 175 [zm_I x3, zm_I 1, zm_I 30] h6) (fun v9 h10 => if v9 = 0 then (zk_I (zc 155 [zm_A 146, zm_I 3] h10) (fun v11 h12 => some (zm_I v11, h12))) else (zk_I (zc 206 [zm_A 146, zm_I 0, zm_I x1, zm_I x2] h10) (fun v13 h14 => zm_ck (zm_i32 (99 - x3)) (if v13 ≤ (99 - x3) then (zk_V (zc 247 [zm_A 146] h14) (fun h15 => zm_ck (zm_i32 (8 * x1)) (zm_ck (zm_i32 ((8 * x1) + x2)) (zm_ck (0 ≤ ((8 * x1) + x2) ∧ ((8 * x1) + x2) < ((880 : Nat) : Int)) (zm_ck (zm_i32 ((h15 176 ((8 * x1) + x2)) + x3)) (zm_ck (0 ≤ ((8 * x1) + x2) ∧ ((8 * x1) + x2) < ((880 : Nat) : Int)) (zk_I (zc 206 [zm_A 146, zm_I 0, zm_I x1, zm_I x2] (zm_wr h15 176 ((8 * x1) + x2) ((h15 176 ((8 * x1) + x2)) + x3))) (fun v16 h17 => some (zm_I v16, h17))))))))) else (zk_I (zc 155 [zm_A 146, zm_I 3] h14) (fun v18 h19 => some (zm_I v18, h19)))))))))))) (zc 254 [zm_A 146, zm_I x1, zm_I x2, zm_I x3] h) := by
  rw [zc_eq (loc := [zm_A 146, zm_I x1, zm_I x2, zm_I x3]) (rk_254 _) rfl]
  refine zl_tr (r_aload_n d_254_0 rfl) ?_
  refine zl_tr (r_iload_n d_254_1 rfl) ?_
  refine zl_tr (r_VI [zm_A 146, zm_I x1] d_254_2 ow_254 cal_12_526 na_221 rfl rfl (Nat.le_of_ble_eq_true rfl) (by rw [rk_221]; decide) (zr_rcv la_146 ow_221) (zr_im mx_221 rfl (Nat.le_of_ble_eq_true rfl)) (by rw [rt_221]; decide)) (zl_I (fun v1 h2 => ?_))
  refine zl_tr (r_if_eq (tgt := 40) d_254_5 (by decide)) (zl_if ?_ ?_)
  · skip
    refine zl_tr (r_aload_n d_254_40 rfl) ?_
    refine zl_tr (r_iconst d_254_41 (by decide)) ?_
    refine zl_tr (r_VI [zm_A 146, zm_I 3] d_254_42 ow_254 cal_12_249 na_155 rfl rfl (Nat.le_of_ble_eq_true rfl) (by rw [rk_155]; decide) (zr_rcv la_146 ow_155) (zr_im mx_155 rfl (Nat.le_of_ble_eq_true rfl)) (by rw [rt_155]; decide)) (zl_I (fun v3 h4 => ?_))
    exact r_iret d_254_45 rt_254
  · skip
    refine zl_tr (r_aload_n d_254_8 rfl) ?_
    refine zl_tr (r_iload_n d_254_9 rfl) ?_
    refine zl_tr (r_VI [zm_A 146, zm_I x2] d_254_10 ow_254 cal_12_523 na_218 rfl rfl (Nat.le_of_ble_eq_true rfl) (by rw [rk_218]; decide) (zr_rcv la_146 ow_218) (zr_im mx_218 rfl (Nat.le_of_ble_eq_true rfl)) (by rw [rt_218]; decide)) (zl_I (fun v5 h6 => ?_))
    refine zl_tr (r_if_eq (tgt := 40) d_254_13 (by decide)) (zl_if ?_ ?_)
    · skip
      refine zl_tr (r_aload_n d_254_40 rfl) ?_
      refine zl_tr (r_iconst d_254_41 (by decide)) ?_
      refine zl_tr (r_VI [zm_A 146, zm_I 3] d_254_42 ow_254 cal_12_249 na_155 rfl rfl (Nat.le_of_ble_eq_true rfl) (by rw [rk_155]; decide) (zr_rcv la_146 ow_155) (zr_im mx_155 rfl (Nat.le_of_ble_eq_true rfl)) (by rw [rt_155]; decide)) (zl_I (fun v7 h8 => ?_))
      exact r_iret d_254_45 rt_254
    · skip
      refine zl_tr (r_iload_n d_254_16 rfl) ?_
      refine zl_tr (r_iconst d_254_17 (by decide)) ?_
      refine zl_tr (r_bipush d_254_18 (by decide)) ?_
      refine zl_tr (r_SI [zm_I x3, zm_I 1, zm_I 30] d_254_20 ow_254 cal_12_335 (by decide) na_175 rfl rfl (Nat.le_of_ble_eq_true rfl) (by rw [rk_175]; decide) (zr_im mx_175 rfl (Nat.le_of_ble_eq_true rfl)) (by rw [rt_175]; decide)) (zl_I (fun v9 h10 => ?_))
      refine zl_tr (r_if_eq (tgt := 40) d_254_23 (by decide)) (zl_if ?_ ?_)
      · skip
        refine zl_tr (r_aload_n d_254_40 rfl) ?_
        refine zl_tr (r_iconst d_254_41 (by decide)) ?_
        refine zl_tr (r_VI [zm_A 146, zm_I 3] d_254_42 ow_254 cal_12_249 na_155 rfl rfl (Nat.le_of_ble_eq_true rfl) (by rw [rk_155]; decide) (zr_rcv la_146 ow_155) (zr_im mx_155 rfl (Nat.le_of_ble_eq_true rfl)) (by rw [rt_155]; decide)) (zl_I (fun v11 h12 => ?_))
        exact r_iret d_254_45 rt_254
      · skip
        refine zl_tr (r_aload_n d_254_26 rfl) ?_
        refine zl_tr (r_iconst d_254_27 (by decide)) ?_
        refine zl_tr (r_iload_n d_254_28 rfl) ?_
        refine zl_tr (r_iload_n d_254_29 rfl) ?_
        refine zl_tr (r_VI [zm_A 146, zm_I 0, zm_I x1, zm_I x2] d_254_30 ow_254 cal_12_460 na_206 rfl rfl (Nat.le_of_ble_eq_true rfl) (by rw [rk_206]; decide) (zr_rcv la_146 ow_206) (zr_im mx_206 rfl (Nat.le_of_ble_eq_true rfl)) (by rw [rt_206]; decide)) (zl_I (fun v13 h14 => ?_))
        refine zl_tr (r_bipush d_254_33 (by decide)) ?_
        refine zl_tr (r_iload_n d_254_35 rfl) ?_
        refine zl_tr (r_isub d_254_36) (zl_ck ?_)
        refine zl_tr (r_icmp_le (tgt := 46) d_254_37 (by decide)) (zl_if ?_ ?_)
        · skip
          refine zl_tr (r_aload_n d_254_46 rfl) ?_
          refine zl_tr (r_VV [zm_A 146] d_254_47 ow_254 cal_12_573 na_247 rfl rfl (Nat.le_of_ble_eq_true rfl) (by rw [rk_247]; decide) (zr_rcv la_146 ow_247) (zr_im mx_247 rfl (Nat.le_of_ble_eq_true rfl)) rt_247) (zl_V (fun h15 => ?_))
          refine zl_tr (r_aload_n d_254_50 rfl) ?_
          refine zl_tr (r_getR d_254_51 ow_254 f_12_159 la_146 (by decide) fr_146_48) ?_
          refine zl_tr (r_bipush d_254_54 (by decide)) ?_
          refine zl_tr (r_iload_n d_254_56 rfl) ?_
          refine zl_tr (r_imul d_254_57) (zl_ck ?_)
          refine zl_tr (r_iload_n d_254_58 rfl) ?_
          refine zl_tr (r_iadd d_254_59) (zl_ck ?_)
          refine zl_tr (r_dup2 d_254_60 ⟨rfl, rfl⟩) ?_
          refine zl_tr (r_iaload d_254_61 la_176) (zl_ck ?_)
          refine zl_tr (r_iload_n d_254_62 rfl) ?_
          refine zl_tr (r_iadd d_254_63) (zl_ck ?_)
          refine zl_tr (r_iastore d_254_64 la_176) (zl_ck ?_)
          refine zl_tr (r_aload_n d_254_65 rfl) ?_
          refine zl_tr (r_iconst d_254_66 (by decide)) ?_
          refine zl_tr (r_iload_n d_254_67 rfl) ?_
          refine zl_tr (r_iload_n d_254_68 rfl) ?_
          refine zl_tr (r_VI [zm_A 146, zm_I 0, zm_I x1, zm_I x2] d_254_69 ow_254 cal_12_460 na_206 rfl rfl (Nat.le_of_ble_eq_true rfl) (by rw [rk_206]; decide) (zr_rcv la_146 ow_206) (zr_im mx_206 rfl (Nat.le_of_ble_eq_true rfl)) (by rw [rt_206]; decide)) (zl_I (fun v16 h17 => ?_))
          exact r_iret d_254_72 rt_254
        · skip
          refine zl_tr (r_aload_n d_254_40 rfl) ?_
          refine zl_tr (r_iconst d_254_41 (by decide)) ?_
          refine zl_tr (r_VI [zm_A 146, zm_I 3] d_254_42 ow_254 cal_12_249 na_155 rfl rfl (Nat.le_of_ble_eq_true rfl) (by rw [rk_155]; decide) (zr_rcv la_146 ow_155) (zr_im mx_155 rfl (Nat.le_of_ble_eq_true rfl)) (by rw [rt_155]; decide)) (zl_I (fun v18 h19 => ?_))
          exact r_iret d_254_45 rt_254
-- BranTubModel.back
set_option maxRecDepth 20000 in
theorem e_255 {h : zm_H} {x1 : Int} {x2 : Int} : zl (zk_I (zc 223 [zm_A 146, zm_I x1] h) (fun v1 h2 => if v1 = 0 then (zk_I (zc 155 [zm_A 146, zm_I 3] h2) (fun v3 h4 => if v3 < 0 then (zm_ck (zm_bit 0) (some (zm_I 0, h4))) else (zm_ck (zm_bit 1) (some (zm_I 1, h4))))) else (zk_I (zc 218 [zm_A 146, zm_I x2] h2) (fun v5 h6 => if v5 = 0 then (zk_I (zc 155 [zm_A 146, zm_I 3] h6) (fun v7 h8 => if v7 < 0 then (zm_ck (zm_bit 0) (some (zm_I 0, h8))) else (zm_ck (zm_bit 1) (some (zm_I 1, h8))))) else (zm_ck (0 ≤ (h6 146 13) ∧ (h6 146 13) < ((2 : Nat) : Int)) (if (h6 151 (h6 146 13)) = 0 then (zk_I (zc 155 [zm_A 146, zm_I 3] h6) (fun v9 h10 => if v9 < 0 then (zm_ck (zm_bit 0) (some (zm_I 0, h10))) else (zm_ck (zm_bit 1) (some (zm_I 1, h10))))) else (zk_I (zc 215 [zm_A 146, zm_I 0, zm_I x1, zm_I x2] h6) (fun v11 h12 => if v11 = 0 then (zk_I (zc 155 [zm_A 146, zm_I 3] h12) (fun v13 h14 => if v13 < 0 then (zm_ck (zm_bit 0) (some (zm_I 0, h14))) else (zm_ck (zm_bit 1) (some (zm_I 1, h14))))) else (zk_I (zc 206 [zm_A 146, zm_I 0, zm_I 0, zm_I x2] h12) (fun v15 h16 => if v15 = 99 then (zk_I (zc 155 [zm_A 146, zm_I 3] h16) (fun v17 h18 => if v17 < 0 then (zm_ck (zm_bit 0) (some (zm_I 0, h18))) else (zm_ck (zm_bit 1) (some (zm_I 1, h18))))) else (zk_V (zc 247 [zm_A 146] h16) (fun h19 => zm_ck (zm_i32 (8 * x1)) (zm_ck (zm_i32 ((8 * x1) + x2)) (zm_ck (0 ≤ ((8 * x1) + x2) ∧ ((8 * x1) + x2) < ((1408 : Nat) : Int)) (zm_ck (zm_i32 ((h19 178 ((8 * x1) + x2)) - 1)) (zm_ck (0 ≤ ((8 * x1) + x2) ∧ ((8 * x1) + x2) < ((1408 : Nat) : Int)) (zm_ck (0 ≤ x2 ∧ x2 < ((880 : Nat) : Int)) (zm_ck (zm_i32 (((zm_wr h19 178 ((8 * x1) + x2) ((h19 178 ((8 * x1) + x2)) - 1)) 176 x2) + 1)) (zm_ck (0 ≤ x2 ∧ x2 < ((880 : Nat) : Int)) (zm_ck (zm_bit 1) (some (zm_I 1, (zm_wr (zm_wr h19 178 ((8 * x1) + x2) ((h19 178 ((8 * x1) + x2)) - 1)) 176 x2 (((zm_wr h19 178 ((8 * x1) + x2) ((h19 178 ((8 * x1) + x2)) - 1)) 176 x2) + 1)))))))))))))))))))))))) (zc 255 [zm_A 146, zm_I x1, zm_I x2] h) := by
  rw [zc_eq (loc := [zm_A 146, zm_I x1, zm_I x2]) (rk_255 _) rfl]
  refine zl_tr (r_aload_n d_255_0 rfl) ?_
  refine zl_tr (r_iload_n d_255_1 rfl) ?_
  refine zl_tr (r_VI [zm_A 146, zm_I x1] d_255_2 ow_255 cal_12_529 na_223 rfl rfl (Nat.le_of_ble_eq_true rfl) (by rw [rk_223]; decide) (zr_rcv la_146 ow_223) (zr_im mx_223 rfl (Nat.le_of_ble_eq_true rfl)) (by rw [rt_223]; decide)) (zl_I (fun v1 h2 => ?_))
  refine zl_tr (r_if_eq (tgt := 50) d_255_5 (by decide)) (zl_if ?_ ?_)
  · skip
    refine zl_tr (r_aload_n d_255_50 rfl) ?_
    refine zl_tr (r_iconst d_255_51 (by decide)) ?_
    refine zl_tr (r_VI [zm_A 146, zm_I 3] d_255_52 ow_255 cal_12_249 na_155 rfl rfl (Nat.le_of_ble_eq_true rfl) (by rw [rk_155]; decide) (zr_rcv la_146 ow_155) (zr_im mx_155 rfl (Nat.le_of_ble_eq_true rfl)) (by rw [rt_155]; decide)) (zl_I (fun v3 h4 => ?_))
    refine zl_tr (r_if_lt (tgt := 62) d_255_55 (by decide)) (zl_if ?_ ?_)
    · skip
      refine zl_tr (r_iconst d_255_62 (by decide)) ?_
      exact r_zret d_255_63 rt_255
    · skip
      refine zl_tr (r_iconst d_255_58 (by decide)) ?_
      refine zl_tr (r_goto (tgt := 63) d_255_59 (by decide)) ?_
      exact r_zret d_255_63 rt_255
  · skip
    refine zl_tr (r_aload_n d_255_8 rfl) ?_
    refine zl_tr (r_iload_n d_255_9 rfl) ?_
    refine zl_tr (r_VI [zm_A 146, zm_I x2] d_255_10 ow_255 cal_12_523 na_218 rfl rfl (Nat.le_of_ble_eq_true rfl) (by rw [rk_218]; decide) (zr_rcv la_146 ow_218) (zr_im mx_218 rfl (Nat.le_of_ble_eq_true rfl)) (by rw [rt_218]; decide)) (zl_I (fun v5 h6 => ?_))
    refine zl_tr (r_if_eq (tgt := 50) d_255_13 (by decide)) (zl_if ?_ ?_)
    · skip
      refine zl_tr (r_aload_n d_255_50 rfl) ?_
      refine zl_tr (r_iconst d_255_51 (by decide)) ?_
      refine zl_tr (r_VI [zm_A 146, zm_I 3] d_255_52 ow_255 cal_12_249 na_155 rfl rfl (Nat.le_of_ble_eq_true rfl) (by rw [rk_155]; decide) (zr_rcv la_146 ow_155) (zr_im mx_155 rfl (Nat.le_of_ble_eq_true rfl)) (by rw [rt_155]; decide)) (zl_I (fun v7 h8 => ?_))
      refine zl_tr (r_if_lt (tgt := 62) d_255_55 (by decide)) (zl_if ?_ ?_)
      · skip
        refine zl_tr (r_iconst d_255_62 (by decide)) ?_
        exact r_zret d_255_63 rt_255
      · skip
        refine zl_tr (r_iconst d_255_58 (by decide)) ?_
        refine zl_tr (r_goto (tgt := 63) d_255_59 (by decide)) ?_
        exact r_zret d_255_63 rt_255
    · skip
      refine zl_tr (r_aload_n d_255_16 rfl) ?_
      refine zl_tr (r_getR d_255_17 ow_255 f_12_63 la_146 (by decide) fr_146_17) ?_
      refine zl_tr (r_aload_n d_255_20 rfl) ?_
      refine zl_tr (r_getI (kk := 13) d_255_21 ow_255 f_12_51 la_146 (by decide) rfl) ?_
      refine zl_tr (r_iaload d_255_24 la_151) (zl_ck ?_)
      refine zl_tr (r_if_eq (tgt := 50) d_255_25 (by decide)) (zl_if ?_ ?_)
      · skip
        refine zl_tr (r_aload_n d_255_50 rfl) ?_
        refine zl_tr (r_iconst d_255_51 (by decide)) ?_
        refine zl_tr (r_VI [zm_A 146, zm_I 3] d_255_52 ow_255 cal_12_249 na_155 rfl rfl (Nat.le_of_ble_eq_true rfl) (by rw [rk_155]; decide) (zr_rcv la_146 ow_155) (zr_im mx_155 rfl (Nat.le_of_ble_eq_true rfl)) (by rw [rt_155]; decide)) (zl_I (fun v9 h10 => ?_))
        refine zl_tr (r_if_lt (tgt := 62) d_255_55 (by decide)) (zl_if ?_ ?_)
        · skip
          refine zl_tr (r_iconst d_255_62 (by decide)) ?_
          exact r_zret d_255_63 rt_255
        · skip
          refine zl_tr (r_iconst d_255_58 (by decide)) ?_
          refine zl_tr (r_goto (tgt := 63) d_255_59 (by decide)) ?_
          exact r_zret d_255_63 rt_255
      · skip
        refine zl_tr (r_aload_n d_255_28 rfl) ?_
        refine zl_tr (r_iconst d_255_29 (by decide)) ?_
        refine zl_tr (r_iload_n d_255_30 rfl) ?_
        refine zl_tr (r_iload_n d_255_31 rfl) ?_
        refine zl_tr (r_VI [zm_A 146, zm_I 0, zm_I x1, zm_I x2] d_255_32 ow_255 cal_12_512 na_215 rfl rfl (Nat.le_of_ble_eq_true rfl) (by rw [rk_215]; decide) (zr_rcv la_146 ow_215) (zr_im mx_215 rfl (Nat.le_of_ble_eq_true rfl)) (by rw [rt_215]; decide)) (zl_I (fun v11 h12 => ?_))
        refine zl_tr (r_if_eq (tgt := 50) d_255_35 (by decide)) (zl_if ?_ ?_)
        · skip
          refine zl_tr (r_aload_n d_255_50 rfl) ?_
          refine zl_tr (r_iconst d_255_51 (by decide)) ?_
          refine zl_tr (r_VI [zm_A 146, zm_I 3] d_255_52 ow_255 cal_12_249 na_155 rfl rfl (Nat.le_of_ble_eq_true rfl) (by rw [rk_155]; decide) (zr_rcv la_146 ow_155) (zr_im mx_155 rfl (Nat.le_of_ble_eq_true rfl)) (by rw [rt_155]; decide)) (zl_I (fun v13 h14 => ?_))
          refine zl_tr (r_if_lt (tgt := 62) d_255_55 (by decide)) (zl_if ?_ ?_)
          · skip
            refine zl_tr (r_iconst d_255_62 (by decide)) ?_
            exact r_zret d_255_63 rt_255
          · skip
            refine zl_tr (r_iconst d_255_58 (by decide)) ?_
            refine zl_tr (r_goto (tgt := 63) d_255_59 (by decide)) ?_
            exact r_zret d_255_63 rt_255
        · skip
          refine zl_tr (r_aload_n d_255_38 rfl) ?_
          refine zl_tr (r_iconst d_255_39 (by decide)) ?_
          refine zl_tr (r_iconst d_255_40 (by decide)) ?_
          refine zl_tr (r_iload_n d_255_41 rfl) ?_
          refine zl_tr (r_VI [zm_A 146, zm_I 0, zm_I 0, zm_I x2] d_255_42 ow_255 cal_12_460 na_206 rfl rfl (Nat.le_of_ble_eq_true rfl) (by rw [rk_206]; decide) (zr_rcv la_146 ow_206) (zr_im mx_206 rfl (Nat.le_of_ble_eq_true rfl)) (by rw [rt_206]; decide)) (zl_I (fun v15 h16 => ?_))
          refine zl_tr (r_bipush d_255_45 (by decide)) ?_
          refine zl_tr (r_icmp_ne (tgt := 64) d_255_47 (by decide)) (zl_if ?_ ?_)
          · skip
            refine zl_tr (r_aload_n d_255_50 rfl) ?_
            refine zl_tr (r_iconst d_255_51 (by decide)) ?_
            refine zl_tr (r_VI [zm_A 146, zm_I 3] d_255_52 ow_255 cal_12_249 na_155 rfl rfl (Nat.le_of_ble_eq_true rfl) (by rw [rk_155]; decide) (zr_rcv la_146 ow_155) (zr_im mx_155 rfl (Nat.le_of_ble_eq_true rfl)) (by rw [rt_155]; decide)) (zl_I (fun v17 h18 => ?_))
            refine zl_tr (r_if_lt (tgt := 62) d_255_55 (by decide)) (zl_if ?_ ?_)
            · skip
              refine zl_tr (r_iconst d_255_62 (by decide)) ?_
              exact r_zret d_255_63 rt_255
            · skip
              refine zl_tr (r_iconst d_255_58 (by decide)) ?_
              refine zl_tr (r_goto (tgt := 63) d_255_59 (by decide)) ?_
              exact r_zret d_255_63 rt_255
          · skip
            refine zl_tr (r_aload_n d_255_64 rfl) ?_
            refine zl_tr (r_VV [zm_A 146] d_255_65 ow_255 cal_12_573 na_247 rfl rfl (Nat.le_of_ble_eq_true rfl) (by rw [rk_247]; decide) (zr_rcv la_146 ow_247) (zr_im mx_247 rfl (Nat.le_of_ble_eq_true rfl)) rt_247) (zl_V (fun h19 => ?_))
            refine zl_tr (r_aload_n d_255_68 rfl) ?_
            refine zl_tr (r_getR d_255_69 ow_255 f_12_165 la_146 (by decide) fr_146_50) ?_
            refine zl_tr (r_bipush d_255_72 (by decide)) ?_
            refine zl_tr (r_iload_n d_255_74 rfl) ?_
            refine zl_tr (r_imul d_255_75) (zl_ck ?_)
            refine zl_tr (r_iload_n d_255_76 rfl) ?_
            refine zl_tr (r_iadd d_255_77) (zl_ck ?_)
            refine zl_tr (r_dup2 d_255_78 ⟨rfl, rfl⟩) ?_
            refine zl_tr (r_iaload d_255_79 la_178) (zl_ck ?_)
            refine zl_tr (r_iconst d_255_80 (by decide)) ?_
            refine zl_tr (r_isub d_255_81) (zl_ck ?_)
            refine zl_tr (r_iastore d_255_82 la_178) (zl_ck ?_)
            refine zl_tr (r_aload_n d_255_83 rfl) ?_
            refine zl_tr (r_getR d_255_84 ow_255 f_12_159 la_146 (by decide) fr_146_48) ?_
            refine zl_tr (r_iload_n d_255_87 rfl) ?_
            refine zl_tr (r_dup2 d_255_88 ⟨rfl, rfl⟩) ?_
            refine zl_tr (r_iaload d_255_89 la_176) (zl_ck ?_)
            refine zl_tr (r_iconst d_255_90 (by decide)) ?_
            refine zl_tr (r_iadd d_255_91) (zl_ck ?_)
            refine zl_tr (r_iastore d_255_92 la_176) (zl_ck ?_)
            refine zl_tr (r_iconst d_255_93 (by decide)) ?_
            exact r_zret d_255_94 rt_255
-- BranTubModel.swap
set_option maxRecDepth 20000 in
theorem e_256 {h : zm_H} {x1 : Int} {x2 : Int} {x3 : Int} {x4 : Int} : zl (zk_I (zc 223 [zm_A 146, zm_I x1] h) (fun v1 h2 => if v1 = 0 then (zr none 3 256 63 [zm_A 146, zm_I x1, zm_I x2, zm_I x3, zm_I x4, zm_U] [] h2) else (zk_I (zc 223 [zm_A 146, zm_I x3] h2) (fun v3 h4 => if v3 = 0 then (zr none 3 256 63 [zm_A 146, zm_I x1, zm_I x2, zm_I x3, zm_I x4, zm_U] [] h4) else (if x1 = x3 then (zr none 3 256 63 [zm_A 146, zm_I x1, zm_I x2, zm_I x3, zm_I x4, zm_U] [] h4) else (zk_I (zc 218 [zm_A 146, zm_I x2] h4) (fun v5 h6 => if v5 = 0 then (zr none 3 256 63 [zm_A 146, zm_I x1, zm_I x2, zm_I x3, zm_I x4, zm_U] [] h6) else (zk_I (zc 218 [zm_A 146, zm_I x4] h6) (fun v7 h8 => if v7 = 0 then (zr none 3 256 63 [zm_A 146, zm_I x1, zm_I x2, zm_I x3, zm_I x4, zm_U] [] h8) else (zk_I (zc 215 [zm_A 146, zm_I 0, zm_I x1, zm_I x2] h8) (fun v9 h10 => if v9 ≤ 0 then (zr none 3 256 63 [zm_A 146, zm_I x1, zm_I x2, zm_I x3, zm_I x4, zm_U] [] h10) else (zk_I (zc 215 [zm_A 146, zm_I 0, zm_I x3, zm_I x4] h10) (fun v11 h12 => if v11 ≤ 0 then (zr none 3 256 63 [zm_A 146, zm_I x1, zm_I x2, zm_I x3, zm_I x4, zm_U] [] h12) else (if (1 : Int) = 0 then (zk_I (zc 155 [zm_A 146, zm_I 3] h12) (fun v13 h14 => if v13 < 0 then (zm_ck (zm_bit 0) (some (zm_I 0, h14))) else (zm_ck (zm_bit 1) (some (zm_I 1, h14))))) else (zk_V (zc 247 [zm_A 146] h12) (fun h15 => zm_ck (zm_i32 (8 * x1)) (zm_ck (zm_i32 ((8 * x1) + x2)) (zm_ck (0 ≤ ((8 * x1) + x2) ∧ ((8 * x1) + x2) < ((1408 : Nat) : Int)) (zm_ck (zm_i32 ((h15 178 ((8 * x1) + x2)) - 1)) (zm_ck (0 ≤ ((8 * x1) + x2) ∧ ((8 * x1) + x2) < ((1408 : Nat) : Int)) (zm_ck (zm_i32 (8 * x3)) (zm_ck (zm_i32 ((8 * x3) + x2)) (zm_ck (0 ≤ ((8 * x3) + x2) ∧ ((8 * x3) + x2) < ((1408 : Nat) : Int)) (zm_ck (zm_i32 (((zm_wr h15 178 ((8 * x1) + x2) ((h15 178 ((8 * x1) + x2)) - 1)) 178 ((8 * x3) + x2)) + 1)) (zm_ck (0 ≤ ((8 * x3) + x2) ∧ ((8 * x3) + x2) < ((1408 : Nat) : Int)) (zm_ck (zm_i32 (8 * x3)) (zm_ck (zm_i32 ((8 * x3) + x4)) (zm_ck (0 ≤ ((8 * x3) + x4) ∧ ((8 * x3) + x4) < ((1408 : Nat) : Int)) (zm_ck (zm_i32 (((zm_wr (zm_wr h15 178 ((8 * x1) + x2) ((h15 178 ((8 * x1) + x2)) - 1)) 178 ((8 * x3) + x2) (((zm_wr h15 178 ((8 * x1) + x2) ((h15 178 ((8 * x1) + x2)) - 1)) 178 ((8 * x3) + x2)) + 1)) 178 ((8 * x3) + x4)) - 1)) (zm_ck (0 ≤ ((8 * x3) + x4) ∧ ((8 * x3) + x4) < ((1408 : Nat) : Int)) (zm_ck (zm_i32 (8 * x1)) (zm_ck (zm_i32 ((8 * x1) + x4)) (zm_ck (0 ≤ ((8 * x1) + x4) ∧ ((8 * x1) + x4) < ((1408 : Nat) : Int)) (zm_ck (zm_i32 (((zm_wr (zm_wr (zm_wr h15 178 ((8 * x1) + x2) ((h15 178 ((8 * x1) + x2)) - 1)) 178 ((8 * x3) + x2) (((zm_wr h15 178 ((8 * x1) + x2) ((h15 178 ((8 * x1) + x2)) - 1)) 178 ((8 * x3) + x2)) + 1)) 178 ((8 * x3) + x4) (((zm_wr (zm_wr h15 178 ((8 * x1) + x2) ((h15 178 ((8 * x1) + x2)) - 1)) 178 ((8 * x3) + x2) (((zm_wr h15 178 ((8 * x1) + x2) ((h15 178 ((8 * x1) + x2)) - 1)) 178 ((8 * x3) + x2)) + 1)) 178 ((8 * x3) + x4)) - 1)) 178 ((8 * x1) + x4)) + 1)) (zm_ck (0 ≤ ((8 * x1) + x4) ∧ ((8 * x1) + x4) < ((1408 : Nat) : Int)) (zm_ck (zm_bit 1) (some (zm_I 1, (zm_wr (zm_wr (zm_wr (zm_wr h15 178 ((8 * x1) + x2) ((h15 178 ((8 * x1) + x2)) - 1)) 178 ((8 * x3) + x2) (((zm_wr h15 178 ((8 * x1) + x2) ((h15 178 ((8 * x1) + x2)) - 1)) 178 ((8 * x3) + x2)) + 1)) 178 ((8 * x3) + x4) (((zm_wr (zm_wr h15 178 ((8 * x1) + x2) ((h15 178 ((8 * x1) + x2)) - 1)) 178 ((8 * x3) + x2) (((zm_wr h15 178 ((8 * x1) + x2) ((h15 178 ((8 * x1) + x2)) - 1)) 178 ((8 * x3) + x2)) + 1)) 178 ((8 * x3) + x4)) - 1)) 178 ((8 * x1) + x4) (((zm_wr (zm_wr (zm_wr h15 178 ((8 * x1) + x2) ((h15 178 ((8 * x1) + x2)) - 1)) 178 ((8 * x3) + x2) (((zm_wr h15 178 ((8 * x1) + x2) ((h15 178 ((8 * x1) + x2)) - 1)) 178 ((8 * x3) + x2)) + 1)) 178 ((8 * x3) + x4) (((zm_wr (zm_wr h15 178 ((8 * x1) + x2) ((h15 178 ((8 * x1) + x2)) - 1)) 178 ((8 * x3) + x2) (((zm_wr h15 178 ((8 * x1) + x2) ((h15 178 ((8 * x1) + x2)) - 1)) 178 ((8 * x3) + x2)) + 1)) 178 ((8 * x3) + x4)) - 1)) 178 ((8 * x1) + x4)) + 1)))))))))))))))))))))))))))))))))))))))) (zc 256 [zm_A 146, zm_I x1, zm_I x2, zm_I x3, zm_I x4] h) := by
  rw [zc_eq (loc := [zm_A 146, zm_I x1, zm_I x2, zm_I x3, zm_I x4, zm_U]) (rk_256 _) rfl]
  refine zl_tr (r_aload_n d_256_0 rfl) ?_
  refine zl_tr (r_iload_n d_256_1 rfl) ?_
  refine zl_tr (r_VI [zm_A 146, zm_I x1] d_256_2 ow_256 cal_12_529 na_223 rfl rfl (Nat.le_of_ble_eq_true rfl) (by rw [rk_223]; decide) (zr_rcv la_146 ow_223) (zr_im mx_223 rfl (Nat.le_of_ble_eq_true rfl)) (by rw [rt_223]; decide)) (zl_I (fun v1 h2 => ?_))
  refine zl_tr (r_if_eq (tgt := 63) d_256_5 (by decide)) (zl_if ?_ ?_)
  · skip
    exact zl_rf
  · skip
    refine zl_tr (r_aload_n d_256_8 rfl) ?_
    refine zl_tr (r_iload_n d_256_9 rfl) ?_
    refine zl_tr (r_VI [zm_A 146, zm_I x3] d_256_10 ow_256 cal_12_529 na_223 rfl rfl (Nat.le_of_ble_eq_true rfl) (by rw [rk_223]; decide) (zr_rcv la_146 ow_223) (zr_im mx_223 rfl (Nat.le_of_ble_eq_true rfl)) (by rw [rt_223]; decide)) (zl_I (fun v3 h4 => ?_))
    refine zl_tr (r_if_eq (tgt := 63) d_256_13 (by decide)) (zl_if ?_ ?_)
    · skip
      exact zl_rf
    · skip
      refine zl_tr (r_iload_n d_256_16 rfl) ?_
      refine zl_tr (r_iload_n d_256_17 rfl) ?_
      refine zl_tr (r_icmp_eq (tgt := 63) d_256_18 (by decide)) (zl_if ?_ ?_)
      · skip
        exact zl_rf
      · skip
        refine zl_tr (r_aload_n d_256_21 rfl) ?_
        refine zl_tr (r_iload_n d_256_22 rfl) ?_
        refine zl_tr (r_VI [zm_A 146, zm_I x2] d_256_23 ow_256 cal_12_523 na_218 rfl rfl (Nat.le_of_ble_eq_true rfl) (by rw [rk_218]; decide) (zr_rcv la_146 ow_218) (zr_im mx_218 rfl (Nat.le_of_ble_eq_true rfl)) (by rw [rt_218]; decide)) (zl_I (fun v5 h6 => ?_))
        refine zl_tr (r_if_eq (tgt := 63) d_256_26 (by decide)) (zl_if ?_ ?_)
        · skip
          exact zl_rf
        · skip
          refine zl_tr (r_aload_n d_256_29 rfl) ?_
          refine zl_tr (r_iload d_256_30 rfl) ?_
          refine zl_tr (r_VI [zm_A 146, zm_I x4] d_256_32 ow_256 cal_12_523 na_218 rfl rfl (Nat.le_of_ble_eq_true rfl) (by rw [rk_218]; decide) (zr_rcv la_146 ow_218) (zr_im mx_218 rfl (Nat.le_of_ble_eq_true rfl)) (by rw [rt_218]; decide)) (zl_I (fun v7 h8 => ?_))
          refine zl_tr (r_if_eq (tgt := 63) d_256_35 (by decide)) (zl_if ?_ ?_)
          · skip
            exact zl_rf
          · skip
            refine zl_tr (r_aload_n d_256_38 rfl) ?_
            refine zl_tr (r_iconst d_256_39 (by decide)) ?_
            refine zl_tr (r_iload_n d_256_40 rfl) ?_
            refine zl_tr (r_iload_n d_256_41 rfl) ?_
            refine zl_tr (r_VI [zm_A 146, zm_I 0, zm_I x1, zm_I x2] d_256_42 ow_256 cal_12_512 na_215 rfl rfl (Nat.le_of_ble_eq_true rfl) (by rw [rk_215]; decide) (zr_rcv la_146 ow_215) (zr_im mx_215 rfl (Nat.le_of_ble_eq_true rfl)) (by rw [rt_215]; decide)) (zl_I (fun v9 h10 => ?_))
            refine zl_tr (r_if_le (tgt := 63) d_256_45 (by decide)) (zl_if ?_ ?_)
            · skip
              exact zl_rf
            · skip
              refine zl_tr (r_aload_n d_256_48 rfl) ?_
              refine zl_tr (r_iconst d_256_49 (by decide)) ?_
              refine zl_tr (r_iload_n d_256_50 rfl) ?_
              refine zl_tr (r_iload d_256_51 rfl) ?_
              refine zl_tr (r_VI [zm_A 146, zm_I 0, zm_I x3, zm_I x4] d_256_53 ow_256 cal_12_512 na_215 rfl rfl (Nat.le_of_ble_eq_true rfl) (by rw [rk_215]; decide) (zr_rcv la_146 ow_215) (zr_im mx_215 rfl (Nat.le_of_ble_eq_true rfl)) (by rw [rt_215]; decide)) (zl_I (fun v11 h12 => ?_))
              refine zl_tr (r_if_le (tgt := 63) d_256_56 (by decide)) (zl_if ?_ ?_)
              · skip
                exact zl_rf
              · skip
                refine zl_tr (r_iconst d_256_59 (by decide)) ?_
                refine zl_tr (r_goto (tgt := 64) d_256_60 (by decide)) ?_
                refine zl_tr (r_istore (loc' := [zm_A 146, zm_I x1, zm_I x2, zm_I x3, zm_I x4, zm_I 1]) d_256_64 (Nat.le_of_ble_eq_true rfl) rfl) ?_
                refine zl_tr (r_iload d_256_66 rfl) ?_
                refine zl_tr (r_if_ne (tgt := 85) d_256_68 (by decide)) (zl_if ?_ ?_)
                · skip
                  refine zl_tr (r_aload_n d_256_71 rfl) ?_
                  refine zl_tr (r_iconst d_256_72 (by decide)) ?_
                  refine zl_tr (r_VI [zm_A 146, zm_I 3] d_256_73 ow_256 cal_12_249 na_155 rfl rfl (Nat.le_of_ble_eq_true rfl) (by rw [rk_155]; decide) (zr_rcv la_146 ow_155) (zr_im mx_155 rfl (Nat.le_of_ble_eq_true rfl)) (by rw [rt_155]; decide)) (zl_I (fun v13 h14 => ?_))
                  refine zl_tr (r_if_lt (tgt := 83) d_256_76 (by decide)) (zl_if ?_ ?_)
                  · skip
                    refine zl_tr (r_iconst d_256_83 (by decide)) ?_
                    exact r_zret d_256_84 rt_256
                  · skip
                    refine zl_tr (r_iconst d_256_79 (by decide)) ?_
                    refine zl_tr (r_goto (tgt := 84) d_256_80 (by decide)) ?_
                    exact r_zret d_256_84 rt_256
                · skip
                  refine zl_tr (r_aload_n d_256_85 rfl) ?_
                  refine zl_tr (r_VV [zm_A 146] d_256_86 ow_256 cal_12_573 na_247 rfl rfl (Nat.le_of_ble_eq_true rfl) (by rw [rk_247]; decide) (zr_rcv la_146 ow_247) (zr_im mx_247 rfl (Nat.le_of_ble_eq_true rfl)) rt_247) (zl_V (fun h15 => ?_))
                  refine zl_tr (r_aload_n d_256_89 rfl) ?_
                  refine zl_tr (r_getR d_256_90 ow_256 f_12_165 la_146 (by decide) fr_146_50) ?_
                  refine zl_tr (r_bipush d_256_93 (by decide)) ?_
                  refine zl_tr (r_iload_n d_256_95 rfl) ?_
                  refine zl_tr (r_imul d_256_96) (zl_ck ?_)
                  refine zl_tr (r_iload_n d_256_97 rfl) ?_
                  refine zl_tr (r_iadd d_256_98) (zl_ck ?_)
                  refine zl_tr (r_dup2 d_256_99 ⟨rfl, rfl⟩) ?_
                  refine zl_tr (r_iaload d_256_100 la_178) (zl_ck ?_)
                  refine zl_tr (r_iconst d_256_101 (by decide)) ?_
                  refine zl_tr (r_isub d_256_102) (zl_ck ?_)
                  refine zl_tr (r_iastore d_256_103 la_178) (zl_ck ?_)
                  refine zl_tr (r_aload_n d_256_104 rfl) ?_
                  refine zl_tr (r_getR d_256_105 ow_256 f_12_165 la_146 (by decide) fr_146_50) ?_
                  refine zl_tr (r_bipush d_256_108 (by decide)) ?_
                  refine zl_tr (r_iload_n d_256_110 rfl) ?_
                  refine zl_tr (r_imul d_256_111) (zl_ck ?_)
                  refine zl_tr (r_iload_n d_256_112 rfl) ?_
                  refine zl_tr (r_iadd d_256_113) (zl_ck ?_)
                  refine zl_tr (r_dup2 d_256_114 ⟨rfl, rfl⟩) ?_
                  refine zl_tr (r_iaload d_256_115 la_178) (zl_ck ?_)
                  refine zl_tr (r_iconst d_256_116 (by decide)) ?_
                  refine zl_tr (r_iadd d_256_117) (zl_ck ?_)
                  refine zl_tr (r_iastore d_256_118 la_178) (zl_ck ?_)
                  refine zl_tr (r_aload_n d_256_119 rfl) ?_
                  refine zl_tr (r_getR d_256_120 ow_256 f_12_165 la_146 (by decide) fr_146_50) ?_
                  refine zl_tr (r_bipush d_256_123 (by decide)) ?_
                  refine zl_tr (r_iload_n d_256_125 rfl) ?_
                  refine zl_tr (r_imul d_256_126) (zl_ck ?_)
                  refine zl_tr (r_iload d_256_127 rfl) ?_
                  refine zl_tr (r_iadd d_256_129) (zl_ck ?_)
                  refine zl_tr (r_dup2 d_256_130 ⟨rfl, rfl⟩) ?_
                  refine zl_tr (r_iaload d_256_131 la_178) (zl_ck ?_)
                  refine zl_tr (r_iconst d_256_132 (by decide)) ?_
                  refine zl_tr (r_isub d_256_133) (zl_ck ?_)
                  refine zl_tr (r_iastore d_256_134 la_178) (zl_ck ?_)
                  refine zl_tr (r_aload_n d_256_135 rfl) ?_
                  refine zl_tr (r_getR d_256_136 ow_256 f_12_165 la_146 (by decide) fr_146_50) ?_
                  refine zl_tr (r_bipush d_256_139 (by decide)) ?_
                  refine zl_tr (r_iload_n d_256_141 rfl) ?_
                  refine zl_tr (r_imul d_256_142) (zl_ck ?_)
                  refine zl_tr (r_iload d_256_143 rfl) ?_
                  refine zl_tr (r_iadd d_256_145) (zl_ck ?_)
                  refine zl_tr (r_dup2 d_256_146 ⟨rfl, rfl⟩) ?_
                  refine zl_tr (r_iaload d_256_147 la_178) (zl_ck ?_)
                  refine zl_tr (r_iconst d_256_148 (by decide)) ?_
                  refine zl_tr (r_iadd d_256_149) (zl_ck ?_)
                  refine zl_tr (r_iastore d_256_150 la_178) (zl_ck ?_)
                  refine zl_tr (r_iconst d_256_151 (by decide)) ?_
                  exact r_zret d_256_152 rt_256
-- BranTubModel.swap, from 63
set_option maxRecDepth 20000 in
theorem e_256_63 {h : zm_H} {x1 : Int} {x2 : Int} {x3 : Int} {x4 : Int} {w5 : zm_V} : zl (if (0 : Int) = 0 then (zk_I (zc 155 [zm_A 146, zm_I 3] h) (fun v1 h2 => if v1 < 0 then (zm_ck (zm_bit 0) (some (zm_I 0, h2))) else (zm_ck (zm_bit 1) (some (zm_I 1, h2))))) else (zk_V (zc 247 [zm_A 146] h) (fun h3 => zm_ck (zm_i32 (8 * x1)) (zm_ck (zm_i32 ((8 * x1) + x2)) (zm_ck (0 ≤ ((8 * x1) + x2) ∧ ((8 * x1) + x2) < ((1408 : Nat) : Int)) (zm_ck (zm_i32 ((h3 178 ((8 * x1) + x2)) - 1)) (zm_ck (0 ≤ ((8 * x1) + x2) ∧ ((8 * x1) + x2) < ((1408 : Nat) : Int)) (zm_ck (zm_i32 (8 * x3)) (zm_ck (zm_i32 ((8 * x3) + x2)) (zm_ck (0 ≤ ((8 * x3) + x2) ∧ ((8 * x3) + x2) < ((1408 : Nat) : Int)) (zm_ck (zm_i32 (((zm_wr h3 178 ((8 * x1) + x2) ((h3 178 ((8 * x1) + x2)) - 1)) 178 ((8 * x3) + x2)) + 1)) (zm_ck (0 ≤ ((8 * x3) + x2) ∧ ((8 * x3) + x2) < ((1408 : Nat) : Int)) (zm_ck (zm_i32 (8 * x3)) (zm_ck (zm_i32 ((8 * x3) + x4)) (zm_ck (0 ≤ ((8 * x3) + x4) ∧ ((8 * x3) + x4) < ((1408 : Nat) : Int)) (zm_ck (zm_i32 (((zm_wr (zm_wr h3 178 ((8 * x1) + x2) ((h3 178 ((8 * x1) + x2)) - 1)) 178 ((8 * x3) + x2) (((zm_wr h3 178 ((8 * x1) + x2) ((h3 178 ((8 * x1) + x2)) - 1)) 178 ((8 * x3) + x2)) + 1)) 178 ((8 * x3) + x4)) - 1)) (zm_ck (0 ≤ ((8 * x3) + x4) ∧ ((8 * x3) + x4) < ((1408 : Nat) : Int)) (zm_ck (zm_i32 (8 * x1)) (zm_ck (zm_i32 ((8 * x1) + x4)) (zm_ck (0 ≤ ((8 * x1) + x4) ∧ ((8 * x1) + x4) < ((1408 : Nat) : Int)) (zm_ck (zm_i32 (((zm_wr (zm_wr (zm_wr h3 178 ((8 * x1) + x2) ((h3 178 ((8 * x1) + x2)) - 1)) 178 ((8 * x3) + x2) (((zm_wr h3 178 ((8 * x1) + x2) ((h3 178 ((8 * x1) + x2)) - 1)) 178 ((8 * x3) + x2)) + 1)) 178 ((8 * x3) + x4) (((zm_wr (zm_wr h3 178 ((8 * x1) + x2) ((h3 178 ((8 * x1) + x2)) - 1)) 178 ((8 * x3) + x2) (((zm_wr h3 178 ((8 * x1) + x2) ((h3 178 ((8 * x1) + x2)) - 1)) 178 ((8 * x3) + x2)) + 1)) 178 ((8 * x3) + x4)) - 1)) 178 ((8 * x1) + x4)) + 1)) (zm_ck (0 ≤ ((8 * x1) + x4) ∧ ((8 * x1) + x4) < ((1408 : Nat) : Int)) (zm_ck (zm_bit 1) (some (zm_I 1, (zm_wr (zm_wr (zm_wr (zm_wr h3 178 ((8 * x1) + x2) ((h3 178 ((8 * x1) + x2)) - 1)) 178 ((8 * x3) + x2) (((zm_wr h3 178 ((8 * x1) + x2) ((h3 178 ((8 * x1) + x2)) - 1)) 178 ((8 * x3) + x2)) + 1)) 178 ((8 * x3) + x4) (((zm_wr (zm_wr h3 178 ((8 * x1) + x2) ((h3 178 ((8 * x1) + x2)) - 1)) 178 ((8 * x3) + x2) (((zm_wr h3 178 ((8 * x1) + x2) ((h3 178 ((8 * x1) + x2)) - 1)) 178 ((8 * x3) + x2)) + 1)) 178 ((8 * x3) + x4)) - 1)) 178 ((8 * x1) + x4) (((zm_wr (zm_wr (zm_wr h3 178 ((8 * x1) + x2) ((h3 178 ((8 * x1) + x2)) - 1)) 178 ((8 * x3) + x2) (((zm_wr h3 178 ((8 * x1) + x2) ((h3 178 ((8 * x1) + x2)) - 1)) 178 ((8 * x3) + x2)) + 1)) 178 ((8 * x3) + x4) (((zm_wr (zm_wr h3 178 ((8 * x1) + x2) ((h3 178 ((8 * x1) + x2)) - 1)) 178 ((8 * x3) + x2) (((zm_wr h3 178 ((8 * x1) + x2) ((h3 178 ((8 * x1) + x2)) - 1)) 178 ((8 * x3) + x2)) + 1)) 178 ((8 * x3) + x4)) - 1)) 178 ((8 * x1) + x4)) + 1))))))))))))))))))))))))))) (zr none 3 256 63 [zm_A 146, zm_I x1, zm_I x2, zm_I x3, zm_I x4, w5] [] h) := by
  refine zl_tr (r_iconst d_256_63 (by decide)) ?_
  refine zl_tr (r_istore (loc' := [zm_A 146, zm_I x1, zm_I x2, zm_I x3, zm_I x4, zm_I 0]) d_256_64 (Nat.le_of_ble_eq_true rfl) rfl) ?_
  refine zl_tr (r_iload d_256_66 rfl) ?_
  refine zl_tr (r_if_ne (tgt := 85) d_256_68 (by decide)) (zl_if ?_ ?_)
  · skip
    refine zl_tr (r_aload_n d_256_71 rfl) ?_
    refine zl_tr (r_iconst d_256_72 (by decide)) ?_
    refine zl_tr (r_VI [zm_A 146, zm_I 3] d_256_73 ow_256 cal_12_249 na_155 rfl rfl (Nat.le_of_ble_eq_true rfl) (by rw [rk_155]; decide) (zr_rcv la_146 ow_155) (zr_im mx_155 rfl (Nat.le_of_ble_eq_true rfl)) (by rw [rt_155]; decide)) (zl_I (fun v1 h2 => ?_))
    refine zl_tr (r_if_lt (tgt := 83) d_256_76 (by decide)) (zl_if ?_ ?_)
    · skip
      refine zl_tr (r_iconst d_256_83 (by decide)) ?_
      exact r_zret d_256_84 rt_256
    · skip
      refine zl_tr (r_iconst d_256_79 (by decide)) ?_
      refine zl_tr (r_goto (tgt := 84) d_256_80 (by decide)) ?_
      exact r_zret d_256_84 rt_256
  · skip
    refine zl_tr (r_aload_n d_256_85 rfl) ?_
    refine zl_tr (r_VV [zm_A 146] d_256_86 ow_256 cal_12_573 na_247 rfl rfl (Nat.le_of_ble_eq_true rfl) (by rw [rk_247]; decide) (zr_rcv la_146 ow_247) (zr_im mx_247 rfl (Nat.le_of_ble_eq_true rfl)) rt_247) (zl_V (fun h3 => ?_))
    refine zl_tr (r_aload_n d_256_89 rfl) ?_
    refine zl_tr (r_getR d_256_90 ow_256 f_12_165 la_146 (by decide) fr_146_50) ?_
    refine zl_tr (r_bipush d_256_93 (by decide)) ?_
    refine zl_tr (r_iload_n d_256_95 rfl) ?_
    refine zl_tr (r_imul d_256_96) (zl_ck ?_)
    refine zl_tr (r_iload_n d_256_97 rfl) ?_
    refine zl_tr (r_iadd d_256_98) (zl_ck ?_)
    refine zl_tr (r_dup2 d_256_99 ⟨rfl, rfl⟩) ?_
    refine zl_tr (r_iaload d_256_100 la_178) (zl_ck ?_)
    refine zl_tr (r_iconst d_256_101 (by decide)) ?_
    refine zl_tr (r_isub d_256_102) (zl_ck ?_)
    refine zl_tr (r_iastore d_256_103 la_178) (zl_ck ?_)
    refine zl_tr (r_aload_n d_256_104 rfl) ?_
    refine zl_tr (r_getR d_256_105 ow_256 f_12_165 la_146 (by decide) fr_146_50) ?_
    refine zl_tr (r_bipush d_256_108 (by decide)) ?_
    refine zl_tr (r_iload_n d_256_110 rfl) ?_
    refine zl_tr (r_imul d_256_111) (zl_ck ?_)
    refine zl_tr (r_iload_n d_256_112 rfl) ?_
    refine zl_tr (r_iadd d_256_113) (zl_ck ?_)
    refine zl_tr (r_dup2 d_256_114 ⟨rfl, rfl⟩) ?_
    refine zl_tr (r_iaload d_256_115 la_178) (zl_ck ?_)
    refine zl_tr (r_iconst d_256_116 (by decide)) ?_
    refine zl_tr (r_iadd d_256_117) (zl_ck ?_)
    refine zl_tr (r_iastore d_256_118 la_178) (zl_ck ?_)
    refine zl_tr (r_aload_n d_256_119 rfl) ?_
    refine zl_tr (r_getR d_256_120 ow_256 f_12_165 la_146 (by decide) fr_146_50) ?_
    refine zl_tr (r_bipush d_256_123 (by decide)) ?_
    refine zl_tr (r_iload_n d_256_125 rfl) ?_
    refine zl_tr (r_imul d_256_126) (zl_ck ?_)
    refine zl_tr (r_iload d_256_127 rfl) ?_
    refine zl_tr (r_iadd d_256_129) (zl_ck ?_)
    refine zl_tr (r_dup2 d_256_130 ⟨rfl, rfl⟩) ?_
    refine zl_tr (r_iaload d_256_131 la_178) (zl_ck ?_)
    refine zl_tr (r_iconst d_256_132 (by decide)) ?_
    refine zl_tr (r_isub d_256_133) (zl_ck ?_)
    refine zl_tr (r_iastore d_256_134 la_178) (zl_ck ?_)
    refine zl_tr (r_aload_n d_256_135 rfl) ?_
    refine zl_tr (r_getR d_256_136 ow_256 f_12_165 la_146 (by decide) fr_146_50) ?_
    refine zl_tr (r_bipush d_256_139 (by decide)) ?_
    refine zl_tr (r_iload_n d_256_141 rfl) ?_
    refine zl_tr (r_imul d_256_142) (zl_ck ?_)
    refine zl_tr (r_iload d_256_143 rfl) ?_
    refine zl_tr (r_iadd d_256_145) (zl_ck ?_)
    refine zl_tr (r_dup2 d_256_146 ⟨rfl, rfl⟩) ?_
    refine zl_tr (r_iaload d_256_147 la_178) (zl_ck ?_)
    refine zl_tr (r_iconst d_256_148 (by decide)) ?_
    refine zl_tr (r_iadd d_256_149) (zl_ck ?_)
    refine zl_tr (r_iastore d_256_150 la_178) (zl_ck ?_)
    refine zl_tr (r_iconst d_256_151 (by decide)) ?_
    exact r_zret d_256_152 rt_256
-- BranTubModel.afternoon
set_option maxRecDepth 20000 in
theorem e_257 {h : zm_H} {x1 : Int} : zl (zk_I (zc 175 [zm_I x1, zm_I 1, zm_I 20] h) (fun v1 h2 => if v1 = 0 then (zk_I (zc 155 [zm_A 146, zm_I 3] h2) (fun v3 h4 => some (zm_I v3, h4))) else (zk_V (zc 247 [zm_A 146] h2) (fun h5 => zk_V (zc 225 [zm_A 146] h5) (fun h6 => zr none 8 257 31 [zm_A 146, zm_I x1, zm_I 0, zm_I 1, zm_I 0, zm_U] [] h6))))) (zc 257 [zm_A 146, zm_I x1] h) := by
  rw [zc_eq (loc := [zm_A 146, zm_I x1, zm_U, zm_U, zm_U, zm_U]) (rk_257 _) rfl]
  refine zl_tr (r_iload_n d_257_0 rfl) ?_
  refine zl_tr (r_iconst d_257_1 (by decide)) ?_
  refine zl_tr (r_bipush d_257_2 (by decide)) ?_
  refine zl_tr (r_SI [zm_I x1, zm_I 1, zm_I 20] d_257_4 ow_257 cal_12_335 (by decide) na_175 rfl rfl (Nat.le_of_ble_eq_true rfl) (by rw [rk_175]; decide) (zr_im mx_175 rfl (Nat.le_of_ble_eq_true rfl)) (by rw [rt_175]; decide)) (zl_I (fun v1 h2 => ?_))
  refine zl_tr (r_if_ne (tgt := 16) d_257_7 (by decide)) (zl_if ?_ ?_)
  · skip
    refine zl_tr (r_aload_n d_257_10 rfl) ?_
    refine zl_tr (r_iconst d_257_11 (by decide)) ?_
    refine zl_tr (r_VI [zm_A 146, zm_I 3] d_257_12 ow_257 cal_12_249 na_155 rfl rfl (Nat.le_of_ble_eq_true rfl) (by rw [rk_155]; decide) (zr_rcv la_146 ow_155) (zr_im mx_155 rfl (Nat.le_of_ble_eq_true rfl)) (by rw [rt_155]; decide)) (zl_I (fun v3 h4 => ?_))
    exact r_iret d_257_15 rt_257
  · skip
    refine zl_tr (r_aload_n d_257_16 rfl) ?_
    refine zl_tr (r_VV [zm_A 146] d_257_17 ow_257 cal_12_573 na_247 rfl rfl (Nat.le_of_ble_eq_true rfl) (by rw [rk_247]; decide) (zr_rcv la_146 ow_247) (zr_im mx_247 rfl (Nat.le_of_ble_eq_true rfl)) rt_247) (zl_V (fun h5 => ?_))
    refine zl_tr (r_aload_n d_257_20 rfl) ?_
    refine zl_tr (r_VV [zm_A 146] d_257_21 ow_257 cal_12_532 na_225 rfl rfl (Nat.le_of_ble_eq_true rfl) (by rw [rk_225]; decide) (zr_rcv la_146 ow_225) (zr_im mx_225 rfl (Nat.le_of_ble_eq_true rfl)) rt_225) (zl_V (fun h6 => ?_))
    refine zl_tr (r_iconst d_257_24 (by decide)) ?_
    refine zl_tr (r_istore_n (loc' := [zm_A 146, zm_I x1, zm_I 0, zm_U, zm_U, zm_U]) d_257_25 (Nat.le_of_ble_eq_true rfl) rfl) ?_
    refine zl_tr (r_iconst d_257_26 (by decide)) ?_
    refine zl_tr (r_istore_n (loc' := [zm_A 146, zm_I x1, zm_I 0, zm_I 1, zm_U, zm_U]) d_257_27 (Nat.le_of_ble_eq_true rfl) rfl) ?_
    refine zl_tr (r_iconst d_257_28 (by decide)) ?_
    refine zl_tr (r_istore (loc' := [zm_A 146, zm_I x1, zm_I 0, zm_I 1, zm_I 0, zm_U]) d_257_29 (Nat.le_of_ble_eq_true rfl) rfl) ?_
    exact zl_rf
-- BranTubModel.afternoon, from 31
set_option maxRecDepth 20000 in
theorem e_257_31 {h : zm_H} {x1 : Int} {x2 : Int} {x3 : Int} {x4 : Int} {w5 : zm_V} : zl (if x4 < x1 then (if x3 = 0 then (some (zm_I x2, h)) else (zr none 8 257 46 [zm_A 146, zm_I x1, zm_I x2, zm_I 0, zm_I x4, zm_I 0] [] h)) else (some (zm_I x2, h))) (zr none 8 257 31 [zm_A 146, zm_I x1, zm_I x2, zm_I x3, zm_I x4, w5] [] h) := by
  refine zl_tr (r_iload d_257_31 rfl) ?_
  refine zl_tr (r_iload_n d_257_33 rfl) ?_
  refine zl_tr (r_icmp_ge (tgt := 122) d_257_34 (by decide)) (zl_if ?_ ?_)
  · skip
    refine zl_tr (r_iload_n d_257_37 rfl) ?_
    refine zl_tr (r_if_eq (tgt := 122) d_257_38 (by decide)) (zl_if ?_ ?_)
    · skip
      refine zl_tr (r_iload_n d_257_122 rfl) ?_
      exact r_iret d_257_123 rt_257
    · skip
      refine zl_tr (r_iconst d_257_41 (by decide)) ?_
      refine zl_tr (r_istore_n (loc' := [zm_A 146, zm_I x1, zm_I x2, zm_I 0, zm_I x4, w5]) d_257_42 (Nat.le_of_ble_eq_true rfl) rfl) ?_
      refine zl_tr (r_iconst d_257_43 (by decide)) ?_
      refine zl_tr (r_istore (loc' := [zm_A 146, zm_I x1, zm_I x2, zm_I 0, zm_I x4, zm_I 0]) d_257_44 (Nat.le_of_ble_eq_true rfl) rfl) ?_
      exact zl_rf
  · skip
    refine zl_tr (r_iload_n d_257_122 rfl) ?_
    exact r_iret d_257_123 rt_257
-- BranTubModel.afternoon, from 46
set_option maxRecDepth 20000 in
theorem e_257_46 {h : zm_H} {x1 : Int} {x2 : Int} {x3 : Int} {x4 : Int} {x5 : Int} : zl (zm_ck (0 ≤ (h 146 13) ∧ (h 146 13) < ((2 : Nat) : Int)) (if x5 < (h 153 (h 146 13)) then (zk_I (zc 207 [zm_A 146, zm_I 0] h) (fun v1 h2 => zk_I (zc 241 [zm_A 146, zm_I x5, zm_I v1] h2) (fun v3 h4 => if v3 = 0 then (zm_ck (zm_i32 (x5 + 1)) (zr none 8 257 46 [zm_A 146, zm_I x1, zm_I x2, zm_I x3, zm_I x4, zm_I (x5 + 1)] [] h4)) else (zk_I (zc 248 [zm_A 146, zm_I x5] h4) (fun v5 h6 => zm_ck (zm_i32 (x2 + 1)) (zm_ck (zm_i32 (x5 + 1)) (zr none 8 257 46 [zm_A 146, zm_I x1, zm_I (x2 + 1), zm_I 1, zm_I x4, zm_I (x5 + 1)] [] h6))))))) else (zm_ck (0 ≤ 0 ∧ 0 < ((22 : Nat) : Int)) (if (h 174 0) < 99 then (zm_ck (0 ≤ 0 ∧ 0 < ((22 : Nat) : Int)) (zm_ck (zm_i32 ((h 174 0) + 1)) (zm_ck (0 ≤ 0 ∧ 0 < ((22 : Nat) : Int)) (zm_ck (zm_i32 (x4 + 1)) (zr none 8 257 31 [zm_A 146, zm_I x1, zm_I x2, zm_I x3, zm_I (x4 + 1), zm_I x5] [] (zm_wr h 174 0 ((h 174 0) + 1))))))) else (zm_ck (zm_i32 (x4 + 1)) (zr none 8 257 31 [zm_A 146, zm_I x1, zm_I x2, zm_I x3, zm_I (x4 + 1), zm_I x5] [] h)))))) (zr none 8 257 46 [zm_A 146, zm_I x1, zm_I x2, zm_I x3, zm_I x4, zm_I x5] [] h) := by
  refine zl_tr (r_iload d_257_46 rfl) ?_
  refine zl_tr (r_aload_n d_257_48 rfl) ?_
  refine zl_tr (r_getR d_257_49 ow_257 f_12_69 la_146 (by decide) fr_146_19) ?_
  refine zl_tr (r_aload_n d_257_52 rfl) ?_
  refine zl_tr (r_getI (kk := 13) d_257_53 ow_257 f_12_51 la_146 (by decide) rfl) ?_
  refine zl_tr (r_iaload d_257_56 la_153) (zl_ck ?_)
  refine zl_tr (r_icmp_ge (tgt := 95) d_257_57 (by decide)) (zl_if ?_ ?_)
  · skip
    refine zl_tr (r_aload_n d_257_60 rfl) ?_
    refine zl_tr (r_iload d_257_61 rfl) ?_
    refine zl_tr (r_aload_n d_257_63 rfl) ?_
    refine zl_tr (r_iconst d_257_64 (by decide)) ?_
    refine zl_tr (r_VI [zm_A 146, zm_I 0] d_257_65 ow_257 cal_12_515 na_207 rfl rfl (Nat.le_of_ble_eq_true rfl) (by rw [rk_207]; decide) (zr_rcv la_146 ow_207) (zr_im mx_207 rfl (Nat.le_of_ble_eq_true rfl)) (by rw [rt_207]; decide)) (zl_I (fun v1 h2 => ?_))
    refine zl_tr (r_VI [zm_A 146, zm_I x5, zm_I v1] d_257_68 ow_257 cal_12_545 na_241 rfl rfl (Nat.le_of_ble_eq_true rfl) (by rw [rk_241]; decide) (zr_rcv la_146 ow_241) (zr_im mx_241 rfl (Nat.le_of_ble_eq_true rfl)) (by rw [rt_241]; decide)) (zl_I (fun v3 h4 => ?_))
    refine zl_tr (r_if_ne (tgt := 77) d_257_71 (by decide)) (zl_if ?_ ?_)
    · skip
      refine zl_tr (r_goto (tgt := 89) d_257_74 (by decide)) ?_
      refine zl_tr (r_iinc (loc' := [zm_A 146, zm_I x1, zm_I x2, zm_I x3, zm_I x4, zm_I (x5 + 1)]) d_257_89 rfl (Nat.le_of_ble_eq_true rfl) rfl) (zl_ck ?_)
      refine zl_tr (r_goto (tgt := 46) d_257_92 (by decide)) ?_
      exact zl_rf
    · skip
      refine zl_tr (r_aload_n d_257_77 rfl) ?_
      refine zl_tr (r_iload d_257_78 rfl) ?_
      refine zl_tr (r_VI [zm_A 146, zm_I x5] d_257_80 ow_257 cal_12_576 na_248 rfl rfl (Nat.le_of_ble_eq_true rfl) (by rw [rk_248]; decide) (zr_rcv la_146 ow_248) (zr_im mx_248 rfl (Nat.le_of_ble_eq_true rfl)) (by rw [rt_248]; decide)) (zl_I (fun v5 h6 => ?_))
      refine zl_tr (r_pop d_257_83 rfl) ?_
      refine zl_tr (r_iinc (loc' := [zm_A 146, zm_I x1, zm_I (x2 + 1), zm_I x3, zm_I x4, zm_I x5]) d_257_84 rfl (Nat.le_of_ble_eq_true rfl) rfl) (zl_ck ?_)
      refine zl_tr (r_iconst d_257_87 (by decide)) ?_
      refine zl_tr (r_istore_n (loc' := [zm_A 146, zm_I x1, zm_I (x2 + 1), zm_I 1, zm_I x4, zm_I x5]) d_257_88 (Nat.le_of_ble_eq_true rfl) rfl) ?_
      refine zl_tr (r_iinc (loc' := [zm_A 146, zm_I x1, zm_I (x2 + 1), zm_I 1, zm_I x4, zm_I (x5 + 1)]) d_257_89 rfl (Nat.le_of_ble_eq_true rfl) rfl) (zl_ck ?_)
      refine zl_tr (r_goto (tgt := 46) d_257_92 (by decide)) ?_
      exact zl_rf
  · skip
    refine zl_tr (r_aload_n d_257_95 rfl) ?_
    refine zl_tr (r_getR d_257_96 ow_257 f_12_153 la_146 (by decide) fr_146_46) ?_
    refine zl_tr (r_iconst d_257_99 (by decide)) ?_
    refine zl_tr (r_iaload d_257_100 la_174) (zl_ck ?_)
    refine zl_tr (r_bipush d_257_101 (by decide)) ?_
    refine zl_tr (r_icmp_ge (tgt := 116) d_257_103 (by decide)) (zl_if ?_ ?_)
    · skip
      refine zl_tr (r_aload_n d_257_106 rfl) ?_
      refine zl_tr (r_getR d_257_107 ow_257 f_12_153 la_146 (by decide) fr_146_46) ?_
      refine zl_tr (r_iconst d_257_110 (by decide)) ?_
      refine zl_tr (r_dup2 d_257_111 ⟨rfl, rfl⟩) ?_
      refine zl_tr (r_iaload d_257_112 la_174) (zl_ck ?_)
      refine zl_tr (r_iconst d_257_113 (by decide)) ?_
      refine zl_tr (r_iadd d_257_114) (zl_ck ?_)
      refine zl_tr (r_iastore d_257_115 la_174) (zl_ck ?_)
      refine zl_tr (r_iinc (loc' := [zm_A 146, zm_I x1, zm_I x2, zm_I x3, zm_I (x4 + 1), zm_I x5]) d_257_116 rfl (Nat.le_of_ble_eq_true rfl) rfl) (zl_ck ?_)
      refine zl_tr (r_goto (tgt := 31) d_257_119 (by decide)) ?_
      exact zl_rf
    · skip
      refine zl_tr (r_iinc (loc' := [zm_A 146, zm_I x1, zm_I x2, zm_I x3, zm_I (x4 + 1), zm_I x5]) d_257_116 rfl (Nat.le_of_ble_eq_true rfl) rfl) (zl_ck ?_)
      refine zl_tr (r_goto (tgt := 31) d_257_119 (by decide)) ?_
      exact zl_rf
-- BranTubModel.seed
set_option maxRecDepth 20000 in
theorem e_258 {h : zm_H} {x1 : Int} : zl (if x1 < 0 then (zk_I (zc 155 [zm_A 146, zm_I 5] h) (fun v1 h2 => if v1 < 0 then (zm_ck (zm_bit 0) (some (zm_I 0, h2))) else (zm_ck (zm_bit 1) (some (zm_I 1, h2))))) else (zm_ck (zm_bit 1) (some (zm_I 1, (zm_wr h 146 58 x1))))) (zc 258 [zm_A 146, zm_I x1] h) := by
  rw [zc_eq (loc := [zm_A 146, zm_I x1]) (rk_258 _) rfl]
  refine zl_tr (r_iload_n d_258_0 rfl) ?_
  refine zl_tr (r_if_ge (tgt := 18) d_258_1 (by decide)) (zl_if ?_ ?_)
  · skip
    refine zl_tr (r_aload_n d_258_4 rfl) ?_
    refine zl_tr (r_iconst d_258_5 (by decide)) ?_
    refine zl_tr (r_VI [zm_A 146, zm_I 5] d_258_6 ow_258 cal_12_249 na_155 rfl rfl (Nat.le_of_ble_eq_true rfl) (by rw [rk_155]; decide) (zr_rcv la_146 ow_155) (zr_im mx_155 rfl (Nat.le_of_ble_eq_true rfl)) (by rw [rt_155]; decide)) (zl_I (fun v1 h2 => ?_))
    refine zl_tr (r_if_lt (tgt := 16) d_258_9 (by decide)) (zl_if ?_ ?_)
    · skip
      refine zl_tr (r_iconst d_258_16 (by decide)) ?_
      exact r_zret d_258_17 rt_258
    · skip
      refine zl_tr (r_iconst d_258_12 (by decide)) ?_
      refine zl_tr (r_goto (tgt := 17) d_258_13 (by decide)) ?_
      exact r_zret d_258_17 rt_258
  · skip
    refine zl_tr (r_aload_n d_258_18 rfl) ?_
    refine zl_tr (r_iload_n d_258_19 rfl) ?_
    refine zl_tr (r_i2l d_258_20) ?_
    refine zl_tr (r_putL (kk := 58) d_258_21 ow_258 f_12_189 la_146 (by decide) rfl) ?_
    refine zl_tr (r_iconst d_258_24 (by decide)) ?_
    exact r_zret d_258_25 rt_258
-- BranTubModel.kept
set_option maxRecDepth 20000 in
theorem e_259 {h : zm_H} {x1 : Int} {x2 : Int} : zl (zm_ck (0 ≤ 0 ∧ 0 < ((22 : Nat) : Int)) (zm_ck (zm_i32 ((h 179 0) - 1)) (zk_I (zc 175 [zm_I x1, zm_I 0, zm_I ((h 179 0) - 1)] h) (fun v1 h2 => if v1 = 0 then (some (zm_I (-1), h2)) else (zk_I (zc 175 [zm_I x2, zm_I 0, zm_I 3] h2) (fun v3 h4 => if v3 = 0 then (some (zm_I (-1), h4)) else (if x2 = 0 then (zm_ck (0 ≤ x1 ∧ x1 < ((1320 : Nat) : Int)) (some (zm_I (h4 180 x1), h4))) else (if x2 = 1 then (zm_ck (0 ≤ x1 ∧ x1 < ((1320 : Nat) : Int)) (some (zm_I (h4 181 x1), h4))) else (if x2 = 2 then (zm_ck (0 ≤ x1 ∧ x1 < ((1320 : Nat) : Int)) (some (zm_I (h4 182 x1), h4))) else (zm_ck (0 ≤ x1 ∧ x1 < ((1320 : Nat) : Int)) (some (zm_I (h4 183 x1), h4)))))))))))) (zc 259 [zm_A 146, zm_I x1, zm_I x2] h) := by
  rw [zc_eq (loc := [zm_A 146, zm_I x1, zm_I x2]) (rk_259 _) rfl]
  refine zl_tr (r_iload_n d_259_0 rfl) ?_
  refine zl_tr (r_iconst d_259_1 (by decide)) ?_
  refine zl_tr (r_aload_n d_259_2 rfl) ?_
  refine zl_tr (r_getR d_259_3 ow_259 f_12_168 la_146 (by decide) fr_146_51) ?_
  refine zl_tr (r_iconst d_259_6 (by decide)) ?_
  refine zl_tr (r_iaload d_259_7 la_179) (zl_ck ?_)
  refine zl_tr (r_iconst d_259_8 (by decide)) ?_
  refine zl_tr (r_isub d_259_9) (zl_ck ?_)
  refine zl_tr (r_SI [zm_I x1, zm_I 0, zm_I ((h 179 0) - 1)] d_259_10 ow_259 cal_12_335 (by decide) na_175 rfl rfl (Nat.le_of_ble_eq_true rfl) (by rw [rk_175]; decide) (zr_im mx_175 rfl (Nat.le_of_ble_eq_true rfl)) (by rw [rt_175]; decide)) (zl_I (fun v1 h2 => ?_))
  refine zl_tr (r_if_eq (tgt := 25) d_259_13 (by decide)) (zl_if ?_ ?_)
  · skip
    refine zl_tr (r_iconst d_259_25 (by decide)) ?_
    exact r_iret d_259_26 rt_259
  · skip
    refine zl_tr (r_iload_n d_259_16 rfl) ?_
    refine zl_tr (r_iconst d_259_17 (by decide)) ?_
    refine zl_tr (r_iconst d_259_18 (by decide)) ?_
    refine zl_tr (r_SI [zm_I x2, zm_I 0, zm_I 3] d_259_19 ow_259 cal_12_335 (by decide) na_175 rfl rfl (Nat.le_of_ble_eq_true rfl) (by rw [rk_175]; decide) (zr_im mx_175 rfl (Nat.le_of_ble_eq_true rfl)) (by rw [rt_175]; decide)) (zl_I (fun v3 h4 => ?_))
    refine zl_tr (r_if_ne (tgt := 27) d_259_22 (by decide)) (zl_if ?_ ?_)
    · skip
      refine zl_tr (r_iconst d_259_25 (by decide)) ?_
      exact r_iret d_259_26 rt_259
    · skip
      refine zl_tr (r_iload_n d_259_27 rfl) ?_
      refine zl_tr (r_if_ne (tgt := 40) d_259_28 (by decide)) (zl_if ?_ ?_)
      · skip
        refine zl_tr (r_aload_n d_259_31 rfl) ?_
        refine zl_tr (r_getR d_259_32 ow_259 f_12_171 la_146 (by decide) fr_146_52) ?_
        refine zl_tr (r_iload_n d_259_35 rfl) ?_
        refine zl_tr (r_iaload d_259_36 la_180) (zl_ck ?_)
        refine zl_tr (r_goto (tgt := 74) d_259_37 (by decide)) ?_
        exact r_iret d_259_74 rt_259
      · skip
        refine zl_tr (r_iload_n d_259_40 rfl) ?_
        refine zl_tr (r_iconst d_259_41 (by decide)) ?_
        refine zl_tr (r_icmp_ne (tgt := 54) d_259_42 (by decide)) (zl_if ?_ ?_)
        · skip
          refine zl_tr (r_aload_n d_259_45 rfl) ?_
          refine zl_tr (r_getR d_259_46 ow_259 f_12_174 la_146 (by decide) fr_146_53) ?_
          refine zl_tr (r_iload_n d_259_49 rfl) ?_
          refine zl_tr (r_iaload d_259_50 la_181) (zl_ck ?_)
          refine zl_tr (r_goto (tgt := 74) d_259_51 (by decide)) ?_
          exact r_iret d_259_74 rt_259
        · skip
          refine zl_tr (r_iload_n d_259_54 rfl) ?_
          refine zl_tr (r_iconst d_259_55 (by decide)) ?_
          refine zl_tr (r_icmp_ne (tgt := 68) d_259_56 (by decide)) (zl_if ?_ ?_)
          · skip
            refine zl_tr (r_aload_n d_259_59 rfl) ?_
            refine zl_tr (r_getR d_259_60 ow_259 f_12_177 la_146 (by decide) fr_146_54) ?_
            refine zl_tr (r_iload_n d_259_63 rfl) ?_
            refine zl_tr (r_iaload d_259_64 la_182) (zl_ck ?_)
            refine zl_tr (r_goto (tgt := 74) d_259_65 (by decide)) ?_
            exact r_iret d_259_74 rt_259
          · skip
            refine zl_tr (r_aload_n d_259_68 rfl) ?_
            refine zl_tr (r_getR d_259_69 ow_259 f_12_180 la_146 (by decide) fr_146_55) ?_
            refine zl_tr (r_iload_n d_259_72 rfl) ?_
            refine zl_tr (r_iaload d_259_73 la_183) (zl_ck ?_)
            exact r_iret d_259_74 rt_259
-- BranTubModel.row
set_option maxRecDepth 20000 in
theorem e_260 {h : zm_H}  : zl (if (h 146 1) ≤ 0 then (zr none 6 260 34 [zm_A 146, zm_I (h 146 1), zm_I 0, zm_I 0, zm_U] [] (zm_wr h 146 1 0)) else (zm_ck ((2 : Int) ≠ 0 ∧ zm_i32 ((h 146 1).tdiv 2) ∧ zm_i32 ((h 146 1).tmod 2)) (if ((h 146 1).tmod 2) = 0 then (if 40 < (h 146 1) then (zr none 6 260 34 [zm_A 146, zm_I (h 146 1), zm_I 0, zm_I 0, zm_U] [] (zm_wr h 146 1 0)) else (zr none 6 260 34 [zm_A 146, zm_I (h 146 1), zm_I 1, zm_I 0, zm_U] [] (zm_wr h 146 1 0))) else (zr none 6 260 34 [zm_A 146, zm_I (h 146 1), zm_I 0, zm_I 0, zm_U] [] (zm_wr h 146 1 0))))) (zc 260 [zm_A 146] h) := by
  rw [zc_eq (loc := [zm_A 146, zm_U, zm_U, zm_U, zm_U]) (rk_260 _) rfl]
  refine zl_tr (r_aload_n d_260_0 rfl) ?_
  refine zl_tr (r_getI (kk := 1) d_260_1 ow_260 f_12_13 la_146 (by decide) rfl) ?_
  refine zl_tr (r_istore_n (loc' := [zm_A 146, zm_I (h 146 1), zm_U, zm_U, zm_U]) d_260_4 (Nat.le_of_ble_eq_true rfl) rfl) ?_
  refine zl_tr (r_aload_n d_260_5 rfl) ?_
  refine zl_tr (r_iconst d_260_6 (by decide)) ?_
  refine zl_tr (r_putI (kk := 1) d_260_7 ow_260 f_12_13 la_146 (by decide) rfl) ?_
  refine zl_tr (r_iload_n d_260_10 rfl) ?_
  refine zl_tr (r_if_le (tgt := 30) d_260_11 (by decide)) (zl_if ?_ ?_)
  · skip
    refine zl_tr (r_iconst d_260_30 (by decide)) ?_
    refine zl_tr (r_istore_n (loc' := [zm_A 146, zm_I (h 146 1), zm_I 0, zm_U, zm_U]) d_260_31 (Nat.le_of_ble_eq_true rfl) rfl) ?_
    refine zl_tr (r_iconst d_260_32 (by decide)) ?_
    refine zl_tr (r_istore_n (loc' := [zm_A 146, zm_I (h 146 1), zm_I 0, zm_I 0, zm_U]) d_260_33 (Nat.le_of_ble_eq_true rfl) rfl) ?_
    exact zl_rf
  · skip
    refine zl_tr (r_iload_n d_260_14 rfl) ?_
    refine zl_tr (r_iconst d_260_15 (by decide)) ?_
    refine zl_tr (r_irem d_260_16) (zl_ck ?_)
    refine zl_tr (r_if_ne (tgt := 30) d_260_17 (by decide)) (zl_if ?_ ?_)
    · skip
      refine zl_tr (r_iload_n d_260_20 rfl) ?_
      refine zl_tr (r_bipush d_260_21 (by decide)) ?_
      refine zl_tr (r_icmp_gt (tgt := 30) d_260_23 (by decide)) (zl_if ?_ ?_)
      · skip
        refine zl_tr (r_iconst d_260_30 (by decide)) ?_
        refine zl_tr (r_istore_n (loc' := [zm_A 146, zm_I (h 146 1), zm_I 0, zm_U, zm_U]) d_260_31 (Nat.le_of_ble_eq_true rfl) rfl) ?_
        refine zl_tr (r_iconst d_260_32 (by decide)) ?_
        refine zl_tr (r_istore_n (loc' := [zm_A 146, zm_I (h 146 1), zm_I 0, zm_I 0, zm_U]) d_260_33 (Nat.le_of_ble_eq_true rfl) rfl) ?_
        exact zl_rf
      · skip
        refine zl_tr (r_iconst d_260_26 (by decide)) ?_
        refine zl_tr (r_goto (tgt := 31) d_260_27 (by decide)) ?_
        refine zl_tr (r_istore_n (loc' := [zm_A 146, zm_I (h 146 1), zm_I 1, zm_U, zm_U]) d_260_31 (Nat.le_of_ble_eq_true rfl) rfl) ?_
        refine zl_tr (r_iconst d_260_32 (by decide)) ?_
        refine zl_tr (r_istore_n (loc' := [zm_A 146, zm_I (h 146 1), zm_I 1, zm_I 0, zm_U]) d_260_33 (Nat.le_of_ble_eq_true rfl) rfl) ?_
        exact zl_rf
    · skip
      refine zl_tr (r_iconst d_260_30 (by decide)) ?_
      refine zl_tr (r_istore_n (loc' := [zm_A 146, zm_I (h 146 1), zm_I 0, zm_U, zm_U]) d_260_31 (Nat.le_of_ble_eq_true rfl) rfl) ?_
      refine zl_tr (r_iconst d_260_32 (by decide)) ?_
      refine zl_tr (r_istore_n (loc' := [zm_A 146, zm_I (h 146 1), zm_I 0, zm_I 0, zm_U]) d_260_33 (Nat.le_of_ble_eq_true rfl) rfl) ?_
      exact zl_rf
-- BranTubModel.row, from 34
set_option maxRecDepth 20000 in
theorem e_260_34 {h : zm_H} {x1 : Int} {x2 : Int} {x3 : Int} {w4 : zm_V} : zl (if x3 < x1 then (if x2 = 0 then (if x2 = 0 then (zk_I (zc 155 [zm_A 146, zm_I 5] h) (fun v1 h2 => some (zm_I v1, h2))) else (zk_V (zc 202 [zm_A 146, zm_I 1, zm_I 0] h) (fun h3 => zk_V (zc 225 [zm_A 146] h3) (fun h4 => zr none 6 260 105 [zm_A 146, zm_I x1, zm_I x2, zm_I 0, w4] [] h4)))) else (zm_ck (0 ≤ x3 ∧ x3 < ((1800 : Nat) : Int)) (zk_I (zc 223 [zm_A 146, zm_I (h 147 x3)] h) (fun v5 h6 => if v5 = 0 then (zm_ck (zm_i32 (x3 + 2)) (zr none 6 260 34 [zm_A 146, zm_I x1, zm_I 0, zm_I (x3 + 2), w4] [] h6)) else (zm_ck (zm_i32 (x3 + 1)) (zm_ck (0 ≤ (x3 + 1) ∧ (x3 + 1) < ((1800 : Nat) : Int)) (zk_I (zc 218 [zm_A 146, zm_I (h6 147 (x3 + 1))] h6) (fun v7 h8 => if v7 = 0 then (zm_ck (zm_i32 (x3 + 2)) (zr none 6 260 34 [zm_A 146, zm_I x1, zm_I 0, zm_I (x3 + 2), w4] [] h8)) else (zm_ck (zm_i32 (x3 + 2)) (zr none 6 260 34 [zm_A 146, zm_I x1, zm_I 1, zm_I (x3 + 2), w4] [] h8)))))))))) else (if x2 = 0 then (zk_I (zc 155 [zm_A 146, zm_I 5] h) (fun v9 h10 => some (zm_I v9, h10))) else (zk_V (zc 202 [zm_A 146, zm_I 1, zm_I 0] h) (fun h11 => zk_V (zc 225 [zm_A 146] h11) (fun h12 => zr none 6 260 105 [zm_A 146, zm_I x1, zm_I x2, zm_I 0, w4] [] h12))))) (zr none 6 260 34 [zm_A 146, zm_I x1, zm_I x2, zm_I x3, w4] [] h) := by
  refine zl_tr (r_iload_n d_260_34 rfl) ?_
  refine zl_tr (r_iload_n d_260_35 rfl) ?_
  refine zl_tr (r_icmp_ge (tgt := 83) d_260_36 (by decide)) (zl_if ?_ ?_)
  · skip
    refine zl_tr (r_iload_n d_260_39 rfl) ?_
    refine zl_tr (r_if_eq (tgt := 83) d_260_40 (by decide)) (zl_if ?_ ?_)
    · skip
      refine zl_tr (r_iload_n d_260_83 rfl) ?_
      refine zl_tr (r_if_ne (tgt := 93) d_260_84 (by decide)) (zl_if ?_ ?_)
      · skip
        refine zl_tr (r_aload_n d_260_87 rfl) ?_
        refine zl_tr (r_iconst d_260_88 (by decide)) ?_
        refine zl_tr (r_VI [zm_A 146, zm_I 5] d_260_89 ow_260 cal_12_249 na_155 rfl rfl (Nat.le_of_ble_eq_true rfl) (by rw [rk_155]; decide) (zr_rcv la_146 ow_155) (zr_im mx_155 rfl (Nat.le_of_ble_eq_true rfl)) (by rw [rt_155]; decide)) (zl_I (fun v1 h2 => ?_))
        exact r_iret d_260_92 rt_260
      · skip
        refine zl_tr (r_aload_n d_260_93 rfl) ?_
        refine zl_tr (r_iconst d_260_94 (by decide)) ?_
        refine zl_tr (r_iconst d_260_95 (by decide)) ?_
        refine zl_tr (r_VV [zm_A 146, zm_I 1, zm_I 0] d_260_96 ow_260 cal_12_437 na_202 rfl rfl (Nat.le_of_ble_eq_true rfl) (by rw [rk_202]; decide) (zr_rcv la_146 ow_202) (zr_im mx_202 rfl (Nat.le_of_ble_eq_true rfl)) rt_202) (zl_V (fun h3 => ?_))
        refine zl_tr (r_aload_n d_260_99 rfl) ?_
        refine zl_tr (r_VV [zm_A 146] d_260_100 ow_260 cal_12_532 na_225 rfl rfl (Nat.le_of_ble_eq_true rfl) (by rw [rk_225]; decide) (zr_rcv la_146 ow_225) (zr_im mx_225 rfl (Nat.le_of_ble_eq_true rfl)) rt_225) (zl_V (fun h4 => ?_))
        refine zl_tr (r_iconst d_260_103 (by decide)) ?_
        refine zl_tr (r_istore_n (loc' := [zm_A 146, zm_I x1, zm_I x2, zm_I 0, w4]) d_260_104 (Nat.le_of_ble_eq_true rfl) rfl) ?_
        exact zl_rf
    · skip
      refine zl_tr (r_aload_n d_260_43 rfl) ?_
      refine zl_tr (r_aload_n d_260_44 rfl) ?_
      refine zl_tr (r_getR d_260_45 ow_260 f_12_7 la_146 (by decide) fr_146_0) ?_
      refine zl_tr (r_iload_n d_260_48 rfl) ?_
      refine zl_tr (r_iaload d_260_49 la_147) (zl_ck ?_)
      refine zl_tr (r_VI [zm_A 146, zm_I (h 147 x3)] d_260_50 ow_260 cal_12_529 na_223 rfl rfl (Nat.le_of_ble_eq_true rfl) (by rw [rk_223]; decide) (zr_rcv la_146 ow_223) (zr_im mx_223 rfl (Nat.le_of_ble_eq_true rfl)) (by rw [rt_223]; decide)) (zl_I (fun v5 h6 => ?_))
      refine zl_tr (r_if_eq (tgt := 75) d_260_53 (by decide)) (zl_if ?_ ?_)
      · skip
        refine zl_tr (r_iconst d_260_75 (by decide)) ?_
        refine zl_tr (r_istore_n (loc' := [zm_A 146, zm_I x1, zm_I 0, zm_I x3, w4]) d_260_76 (Nat.le_of_ble_eq_true rfl) rfl) ?_
        refine zl_tr (r_iinc (loc' := [zm_A 146, zm_I x1, zm_I 0, zm_I (x3 + 2), w4]) d_260_77 rfl (Nat.le_of_ble_eq_true rfl) rfl) (zl_ck ?_)
        refine zl_tr (r_goto (tgt := 34) d_260_80 (by decide)) ?_
        exact zl_rf
      · skip
        refine zl_tr (r_aload_n d_260_56 rfl) ?_
        refine zl_tr (r_aload_n d_260_57 rfl) ?_
        refine zl_tr (r_getR d_260_58 ow_260 f_12_7 la_146 (by decide) fr_146_0) ?_
        refine zl_tr (r_iload_n d_260_61 rfl) ?_
        refine zl_tr (r_iconst d_260_62 (by decide)) ?_
        refine zl_tr (r_iadd d_260_63) (zl_ck ?_)
        refine zl_tr (r_iaload d_260_64 la_147) (zl_ck ?_)
        refine zl_tr (r_VI [zm_A 146, zm_I (h6 147 (x3 + 1))] d_260_65 ow_260 cal_12_523 na_218 rfl rfl (Nat.le_of_ble_eq_true rfl) (by rw [rk_218]; decide) (zr_rcv la_146 ow_218) (zr_im mx_218 rfl (Nat.le_of_ble_eq_true rfl)) (by rw [rt_218]; decide)) (zl_I (fun v7 h8 => ?_))
        refine zl_tr (r_if_eq (tgt := 75) d_260_68 (by decide)) (zl_if ?_ ?_)
        · skip
          refine zl_tr (r_iconst d_260_75 (by decide)) ?_
          refine zl_tr (r_istore_n (loc' := [zm_A 146, zm_I x1, zm_I 0, zm_I x3, w4]) d_260_76 (Nat.le_of_ble_eq_true rfl) rfl) ?_
          refine zl_tr (r_iinc (loc' := [zm_A 146, zm_I x1, zm_I 0, zm_I (x3 + 2), w4]) d_260_77 rfl (Nat.le_of_ble_eq_true rfl) rfl) (zl_ck ?_)
          refine zl_tr (r_goto (tgt := 34) d_260_80 (by decide)) ?_
          exact zl_rf
        · skip
          refine zl_tr (r_iconst d_260_71 (by decide)) ?_
          refine zl_tr (r_goto (tgt := 76) d_260_72 (by decide)) ?_
          refine zl_tr (r_istore_n (loc' := [zm_A 146, zm_I x1, zm_I 1, zm_I x3, w4]) d_260_76 (Nat.le_of_ble_eq_true rfl) rfl) ?_
          refine zl_tr (r_iinc (loc' := [zm_A 146, zm_I x1, zm_I 1, zm_I (x3 + 2), w4]) d_260_77 rfl (Nat.le_of_ble_eq_true rfl) rfl) (zl_ck ?_)
          refine zl_tr (r_goto (tgt := 34) d_260_80 (by decide)) ?_
          exact zl_rf
  · skip
    refine zl_tr (r_iload_n d_260_83 rfl) ?_
    refine zl_tr (r_if_ne (tgt := 93) d_260_84 (by decide)) (zl_if ?_ ?_)
    · skip
      refine zl_tr (r_aload_n d_260_87 rfl) ?_
      refine zl_tr (r_iconst d_260_88 (by decide)) ?_
      refine zl_tr (r_VI [zm_A 146, zm_I 5] d_260_89 ow_260 cal_12_249 na_155 rfl rfl (Nat.le_of_ble_eq_true rfl) (by rw [rk_155]; decide) (zr_rcv la_146 ow_155) (zr_im mx_155 rfl (Nat.le_of_ble_eq_true rfl)) (by rw [rt_155]; decide)) (zl_I (fun v9 h10 => ?_))
      exact r_iret d_260_92 rt_260
    · skip
      refine zl_tr (r_aload_n d_260_93 rfl) ?_
      refine zl_tr (r_iconst d_260_94 (by decide)) ?_
      refine zl_tr (r_iconst d_260_95 (by decide)) ?_
      refine zl_tr (r_VV [zm_A 146, zm_I 1, zm_I 0] d_260_96 ow_260 cal_12_437 na_202 rfl rfl (Nat.le_of_ble_eq_true rfl) (by rw [rk_202]; decide) (zr_rcv la_146 ow_202) (zr_im mx_202 rfl (Nat.le_of_ble_eq_true rfl)) rt_202) (zl_V (fun h11 => ?_))
      refine zl_tr (r_aload_n d_260_99 rfl) ?_
      refine zl_tr (r_VV [zm_A 146] d_260_100 ow_260 cal_12_532 na_225 rfl rfl (Nat.le_of_ble_eq_true rfl) (by rw [rk_225]; decide) (zr_rcv la_146 ow_225) (zr_im mx_225 rfl (Nat.le_of_ble_eq_true rfl)) rt_225) (zl_V (fun h12 => ?_))
      refine zl_tr (r_iconst d_260_103 (by decide)) ?_
      refine zl_tr (r_istore_n (loc' := [zm_A 146, zm_I x1, zm_I x2, zm_I 0, w4]) d_260_104 (Nat.le_of_ble_eq_true rfl) rfl) ?_
      exact zl_rf
-- BranTubModel.row, from 105
set_option maxRecDepth 20000 in
theorem e_260_105 {h : zm_H} {x1 : Int} {w2 : zm_V} {x3 : Int} {w4 : zm_V} (hw2 : zm_cat w2 ≠ 2) : zl (zm_ck (zm_i32 (2 * x3)) (if (2 * x3) < x1 then (zm_ck (zm_i32 (2 * x3)) (zm_ck (0 ≤ (2 * x3) ∧ (2 * x3) < ((1800 : Nat) : Int)) (zm_ck (zm_i32 (2 * x3)) (zm_ck (zm_i32 ((2 * x3) + 1)) (zm_ck (0 ≤ ((2 * x3) + 1) ∧ ((2 * x3) + 1) < ((1800 : Nat) : Int)) (zk_I (zc 261 [zm_A 146, zm_I (h 147 (2 * x3)), zm_I (h 147 ((2 * x3) + 1))] h) (fun v1 h2 => if v1 = 0 then (zm_ck (zm_bit 1) (zr none 6 260 151 [zm_A 146, zm_I x1, w2, zm_I x3, zm_I 0] [] (zm_wr h2 146 70 1))) else (zm_ck (zm_i32 (x3 + 1)) (zr none 6 260 105 [zm_A 146, zm_I x1, w2, zm_I (x3 + 1), w4] [] h2))))))))) else (zm_ck (zm_bit 1) (zr none 6 260 151 [zm_A 146, zm_I x1, w2, zm_I x3, zm_I 0] [] (zm_wr h 146 70 1))))) (zr none 6 260 105 [zm_A 146, zm_I x1, w2, zm_I x3, w4] [] h) := by
  refine zl_tr (r_iconst d_260_105 (by decide)) ?_
  refine zl_tr (r_iload_n d_260_106 rfl) ?_
  refine zl_tr (r_imul d_260_107) (zl_ck ?_)
  refine zl_tr (r_iload_n d_260_108 rfl) ?_
  refine zl_tr (r_icmp_ge (tgt := 143) d_260_109 (by decide)) (zl_if ?_ ?_)
  · skip
    refine zl_tr (r_aload_n d_260_112 rfl) ?_
    refine zl_tr (r_aload_n d_260_113 rfl) ?_
    refine zl_tr (r_getR d_260_114 ow_260 f_12_7 la_146 (by decide) fr_146_0) ?_
    refine zl_tr (r_iconst d_260_117 (by decide)) ?_
    refine zl_tr (r_iload_n d_260_118 rfl) ?_
    refine zl_tr (r_imul d_260_119) (zl_ck ?_)
    refine zl_tr (r_iaload d_260_120 la_147) (zl_ck ?_)
    refine zl_tr (r_aload_n d_260_121 rfl) ?_
    refine zl_tr (r_getR d_260_122 ow_260 f_12_7 la_146 (by decide) fr_146_0) ?_
    refine zl_tr (r_iconst d_260_125 (by decide)) ?_
    refine zl_tr (r_iload_n d_260_126 rfl) ?_
    refine zl_tr (r_imul d_260_127) (zl_ck ?_)
    refine zl_tr (r_iconst d_260_128 (by decide)) ?_
    refine zl_tr (r_iadd d_260_129) (zl_ck ?_)
    refine zl_tr (r_iaload d_260_130 la_147) (zl_ck ?_)
    refine zl_tr (r_VI [zm_A 146, zm_I (h 147 (2 * x3)), zm_I (h 147 ((2 * x3) + 1))] d_260_131 ow_260 cal_12_579 na_261 rfl rfl (Nat.le_of_ble_eq_true rfl) (by rw [rk_261]; decide) (zr_rcv la_146 ow_261) (zr_im mx_261 rfl (Nat.le_of_ble_eq_true rfl)) (by rw [rt_261]; decide)) (zl_I (fun v1 h2 => ?_))
    refine zl_tr (r_if_eq (tgt := 143) d_260_134 (by decide)) (zl_if ?_ ?_)
    · skip
      refine zl_tr (r_aload_n d_260_143 rfl) ?_
      refine zl_tr (r_iconst d_260_144 (by decide)) ?_
      refine zl_tr (r_putZ (kk := 70) d_260_145 ow_260 f_12_225 la_146 (by decide) rfl) (zl_ck ?_)
      refine zl_tr (r_iconst d_260_148 (by decide)) ?_
      refine zl_tr (r_istore (loc' := [zm_A 146, zm_I x1, w2, zm_I x3, zm_I 0]) d_260_149 (Nat.le_of_ble_eq_true rfl) rfl) ?_
      exact zl_rf
    · skip
      refine zl_tr (r_iinc (loc' := [zm_A 146, zm_I x1, w2, zm_I (x3 + 1), w4]) d_260_137 rfl (Nat.le_of_ble_eq_true rfl) (zr_k1 rfl hw2 rfl)) (zl_ck ?_)
      refine zl_tr (r_goto (tgt := 105) d_260_140 (by decide)) ?_
      exact zl_rf
  · skip
    refine zl_tr (r_aload_n d_260_143 rfl) ?_
    refine zl_tr (r_iconst d_260_144 (by decide)) ?_
    refine zl_tr (r_putZ (kk := 70) d_260_145 ow_260 f_12_225 la_146 (by decide) rfl) (zl_ck ?_)
    refine zl_tr (r_iconst d_260_148 (by decide)) ?_
    refine zl_tr (r_istore (loc' := [zm_A 146, zm_I x1, w2, zm_I x3, zm_I 0]) d_260_149 (Nat.le_of_ble_eq_true rfl) rfl) ?_
    exact zl_rf
-- BranTubModel.row, from 151
set_option maxRecDepth 20000 in
theorem e_260_151 {h : zm_H} {w1 : zm_V} {w2 : zm_V} {x3 : Int} {x4 : Int} : zl (if x4 < 40 then (zm_ck (zm_i32 (40 + x4)) (zm_ck (0 ≤ (40 + x4) ∧ (40 + x4) < ((880 : Nat) : Int)) (zm_ck (0 ≤ x4 ∧ x4 < ((40 : Nat) : Int)) (zm_ck (zm_i32 (x4 + 1)) (zr none 6 260 151 [zm_A 146, w1, w2, zm_I x3, zm_I (x4 + 1)] [] (zm_wr h 188 x4 (h 176 (40 + x4)))))))) else (some (zm_I x3, h))) (zr none 6 260 151 [zm_A 146, w1, w2, zm_I x3, zm_I x4] [] h) := by
  refine zl_tr (r_iload d_260_151 rfl) ?_
  refine zl_tr (r_bipush d_260_153 (by decide)) ?_
  refine zl_tr (r_icmp_ge (tgt := 181) d_260_155 (by decide)) (zl_if ?_ ?_)
  · skip
    refine zl_tr (r_aload_n d_260_158 rfl) ?_
    refine zl_tr (r_getR d_260_159 ow_260 f_12_228 la_146 (by decide) fr_146_71) ?_
    refine zl_tr (r_iload d_260_162 rfl) ?_
    refine zl_tr (r_aload_n d_260_164 rfl) ?_
    refine zl_tr (r_getR d_260_165 ow_260 f_12_159 la_146 (by decide) fr_146_48) ?_
    refine zl_tr (r_bipush d_260_168 (by decide)) ?_
    refine zl_tr (r_iload d_260_170 rfl) ?_
    refine zl_tr (r_iadd d_260_172) (zl_ck ?_)
    refine zl_tr (r_iaload d_260_173 la_176) (zl_ck ?_)
    refine zl_tr (r_iastore d_260_174 la_188) (zl_ck ?_)
    refine zl_tr (r_iinc (loc' := [zm_A 146, w1, w2, zm_I x3, zm_I (x4 + 1)]) d_260_175 rfl (Nat.le_of_ble_eq_true rfl) rfl) (zl_ck ?_)
    refine zl_tr (r_goto (tgt := 151) d_260_178 (by decide)) ?_
    exact zl_rf
  · skip
    refine zl_tr (r_iload_n d_260_181 rfl) ?_
    exact r_iret d_260_182 rt_260
-- BranTubModel.takesRow
set_option maxRecDepth 20000 in
theorem e_261 {h : zm_H} {x1 : Int} {x2 : Int} : zl (zk_I (zc 227 [zm_A 146, zm_I 1] h) (fun v1 h2 => zr none 5 261 6 [zm_A 146, zm_I x1, zm_I x2, zm_I v1] [] h2)) (zc 261 [zm_A 146, zm_I x1, zm_I x2] h) := by
  rw [zc_eq (loc := [zm_A 146, zm_I x1, zm_I x2, zm_U]) (rk_261 _) rfl]
  refine zl_tr (r_aload_n d_261_0 rfl) ?_
  refine zl_tr (r_iconst d_261_1 (by decide)) ?_
  refine zl_tr (r_VI [zm_A 146, zm_I 1] d_261_2 ow_261 cal_12_467 na_227 rfl rfl (Nat.le_of_ble_eq_true rfl) (by rw [rk_227]; decide) (zr_rcv la_146 ow_227) (zr_im mx_227 rfl (Nat.le_of_ble_eq_true rfl)) (by rw [rt_227]; decide)) (zl_I (fun v1 h2 => ?_))
  refine zl_tr (r_istore_n (loc' := [zm_A 146, zm_I x1, zm_I x2, zm_I v1]) d_261_5 (Nat.le_of_ble_eq_true rfl) rfl) ?_
  exact zl_rf
-- BranTubModel.takesRow, from 6
set_option maxRecDepth 20000 in
theorem e_261_6 {h : zm_H} {x1 : Int} {x2 : Int} {x3 : Int} : zl (zk_I (zc 228 [zm_A 146, zm_I 1, zm_I x1] h) (fun v1 h2 => if x3 < v1 then (zk_I (zc 206 [zm_A 146, zm_I 1, zm_I x3, zm_I x2] h2) (fun v3 h4 => if v3 = 0 then (zm_ck (zm_i32 (x3 + 1)) (zr none 5 261 6 [zm_A 146, zm_I x1, zm_I x2, zm_I (x3 + 1)] [] h4)) else (zm_ck (zm_i32 (8 * x3)) (zm_ck (zm_i32 (40 + (8 * x3))) (zm_ck (zm_i32 ((40 + (8 * x3)) + x2)) (zm_ck (0 ≤ ((40 + (8 * x3)) + x2) ∧ ((40 + (8 * x3)) + x2) < ((880 : Nat) : Int)) (zm_ck (zm_i32 ((h4 176 ((40 + (8 * x3)) + x2)) - 1)) (zm_ck (0 ≤ ((40 + (8 * x3)) + x2) ∧ ((40 + (8 * x3)) + x2) < ((880 : Nat) : Int)) (zm_ck (zm_bit 1) (some (zm_I 1, (zm_wr h4 176 ((40 + (8 * x3)) + x2) ((h4 176 ((40 + (8 * x3)) + x2)) - 1))))))))))))) else (zm_ck (zm_bit 0) (some (zm_I 0, h2))))) (zr none 5 261 6 [zm_A 146, zm_I x1, zm_I x2, zm_I x3] [] h) := by
  refine zl_tr (r_iload_n d_261_6 rfl) ?_
  refine zl_tr (r_aload_n d_261_7 rfl) ?_
  refine zl_tr (r_iconst d_261_8 (by decide)) ?_
  refine zl_tr (r_iload_n d_261_9 rfl) ?_
  refine zl_tr (r_VI [zm_A 146, zm_I 1, zm_I x1] d_261_10 ow_261 cal_12_470 na_228 rfl rfl (Nat.le_of_ble_eq_true rfl) (by rw [rk_228]; decide) (zr_rcv la_146 ow_228) (zr_im mx_228 rfl (Nat.le_of_ble_eq_true rfl)) (by rw [rt_228]; decide)) (zl_I (fun v1 h2 => ?_))
  refine zl_tr (r_icmp_ge (tgt := 55) d_261_13 (by decide)) (zl_if ?_ ?_)
  · skip
    refine zl_tr (r_aload_n d_261_16 rfl) ?_
    refine zl_tr (r_iconst d_261_17 (by decide)) ?_
    refine zl_tr (r_iload_n d_261_18 rfl) ?_
    refine zl_tr (r_iload_n d_261_19 rfl) ?_
    refine zl_tr (r_VI [zm_A 146, zm_I 1, zm_I x3, zm_I x2] d_261_20 ow_261 cal_12_460 na_206 rfl rfl (Nat.le_of_ble_eq_true rfl) (by rw [rk_206]; decide) (zr_rcv la_146 ow_206) (zr_im mx_206 rfl (Nat.le_of_ble_eq_true rfl)) (by rw [rt_206]; decide)) (zl_I (fun v3 h4 => ?_))
    refine zl_tr (r_if_ne (tgt := 29) d_261_23 (by decide)) (zl_if ?_ ?_)
    · skip
      refine zl_tr (r_goto (tgt := 49) d_261_26 (by decide)) ?_
      refine zl_tr (r_iinc (loc' := [zm_A 146, zm_I x1, zm_I x2, zm_I (x3 + 1)]) d_261_49 rfl (Nat.le_of_ble_eq_true rfl) rfl) (zl_ck ?_)
      refine zl_tr (r_goto (tgt := 6) d_261_52 (by decide)) ?_
      exact zl_rf
    · skip
      refine zl_tr (r_aload_n d_261_29 rfl) ?_
      refine zl_tr (r_getR d_261_30 ow_261 f_12_159 la_146 (by decide) fr_146_48) ?_
      refine zl_tr (r_bipush d_261_33 (by decide)) ?_
      refine zl_tr (r_bipush d_261_35 (by decide)) ?_
      refine zl_tr (r_iload_n d_261_37 rfl) ?_
      refine zl_tr (r_imul d_261_38) (zl_ck ?_)
      refine zl_tr (r_iadd d_261_39) (zl_ck ?_)
      refine zl_tr (r_iload_n d_261_40 rfl) ?_
      refine zl_tr (r_iadd d_261_41) (zl_ck ?_)
      refine zl_tr (r_dup2 d_261_42 ⟨rfl, rfl⟩) ?_
      refine zl_tr (r_iaload d_261_43 la_176) (zl_ck ?_)
      refine zl_tr (r_iconst d_261_44 (by decide)) ?_
      refine zl_tr (r_isub d_261_45) (zl_ck ?_)
      refine zl_tr (r_iastore d_261_46 la_176) (zl_ck ?_)
      refine zl_tr (r_iconst d_261_47 (by decide)) ?_
      exact r_zret d_261_48 rt_261
  · skip
    refine zl_tr (r_iconst d_261_55 (by decide)) ?_
    exact r_zret d_261_56 rt_261
-- BranTubModel.leaves
set_option maxRecDepth 20000 in
theorem e_262 {h : zm_H} {x1 : Int} {x2 : Int} : zl (if (h 146 70) = 0 then (some (zm_I (-1), h)) else (zk_I (zc 221 [zm_A 146, zm_I x1] h) (fun v1 h2 => if v1 = 0 then (some (zm_I (-1), h2)) else (zk_I (zc 218 [zm_A 146, zm_I x2] h2) (fun v3 h4 => if v3 = 0 then (some (zm_I (-1), h4)) else (zm_ck (zm_i32 (8 * x1)) (zm_ck (zm_i32 ((8 * x1) + x2)) (zm_ck (0 ≤ ((8 * x1) + x2) ∧ ((8 * x1) + x2) < ((40 : Nat) : Int)) (some (zm_I (h4 188 ((8 * x1) + x2)), h4)))))))))) (zc 262 [zm_A 146, zm_I x1, zm_I x2] h) := by
  rw [zc_eq (loc := [zm_A 146, zm_I x1, zm_I x2]) (rk_262 _) rfl]
  refine zl_tr (r_aload_n d_262_0 rfl) ?_
  refine zl_tr (r_getI (kk := 70) d_262_1 ow_262 f_12_225 la_146 (by decide) rfl) ?_
  refine zl_tr (r_if_eq (tgt := 37) d_262_4 (by decide)) (zl_if ?_ ?_)
  · skip
    refine zl_tr (r_iconst d_262_37 (by decide)) ?_
    exact r_iret d_262_38 rt_262
  · skip
    refine zl_tr (r_aload_n d_262_7 rfl) ?_
    refine zl_tr (r_iload_n d_262_8 rfl) ?_
    refine zl_tr (r_VI [zm_A 146, zm_I x1] d_262_9 ow_262 cal_12_526 na_221 rfl rfl (Nat.le_of_ble_eq_true rfl) (by rw [rk_221]; decide) (zr_rcv la_146 ow_221) (zr_im mx_221 rfl (Nat.le_of_ble_eq_true rfl)) (by rw [rt_221]; decide)) (zl_I (fun v1 h2 => ?_))
    refine zl_tr (r_if_eq (tgt := 37) d_262_12 (by decide)) (zl_if ?_ ?_)
    · skip
      refine zl_tr (r_iconst d_262_37 (by decide)) ?_
      exact r_iret d_262_38 rt_262
    · skip
      refine zl_tr (r_aload_n d_262_15 rfl) ?_
      refine zl_tr (r_iload_n d_262_16 rfl) ?_
      refine zl_tr (r_VI [zm_A 146, zm_I x2] d_262_17 ow_262 cal_12_523 na_218 rfl rfl (Nat.le_of_ble_eq_true rfl) (by rw [rk_218]; decide) (zr_rcv la_146 ow_218) (zr_im mx_218 rfl (Nat.le_of_ble_eq_true rfl)) (by rw [rt_218]; decide)) (zl_I (fun v3 h4 => ?_))
      refine zl_tr (r_if_eq (tgt := 37) d_262_20 (by decide)) (zl_if ?_ ?_)
      · skip
        refine zl_tr (r_iconst d_262_37 (by decide)) ?_
        exact r_iret d_262_38 rt_262
      · skip
        refine zl_tr (r_aload_n d_262_23 rfl) ?_
        refine zl_tr (r_getR d_262_24 ow_262 f_12_228 la_146 (by decide) fr_146_71) ?_
        refine zl_tr (r_bipush d_262_27 (by decide)) ?_
        refine zl_tr (r_iload_n d_262_29 rfl) ?_
        refine zl_tr (r_imul d_262_30) (zl_ck ?_)
        refine zl_tr (r_iload_n d_262_31 rfl) ?_
        refine zl_tr (r_iadd d_262_32) (zl_ck ?_)
        refine zl_tr (r_iaload d_262_33 la_188) (zl_ck ?_)
        refine zl_tr (r_goto (tgt := 38) d_262_34 (by decide)) ?_
        exact r_iret d_262_38 rt_262
-- BranTubModel.ring
set_option maxRecDepth 20000 in
theorem e_263 {h : zm_H} {x1 : Int} {x2 : Int} : zl (zk_I (zc 223 [zm_A 146, zm_I x1] h) (fun v1 h2 => if v1 = 0 then (some (zm_I (-1), h2)) else (zk_I (zc 214 [zm_A 146, zm_I x1] h2) (fun v3 h4 => if v3 = 0 then (some (zm_I (-1), h4)) else (zk_I (zc 175 [zm_I x2, zm_I 0, zm_I 2] h4) (fun v5 h6 => if v5 = 0 then (some (zm_I (-1), h6)) else (zk_V (zc 264 [zm_A 146] h6) (fun h7 => if x2 = 0 then (zm_ck (0 ≤ x1 ∧ x1 < ((8 : Nat) : Int)) (some (zm_I (h7 191 x1), h7))) else (if x2 = 1 then (zm_ck (0 ≤ x1 ∧ x1 < ((8 : Nat) : Int)) (some (zm_I (h7 189 x1), h7))) else (zm_ck (0 ≤ x1 ∧ x1 < ((8 : Nat) : Int)) (some (zm_I (h7 192 x1), h7)))))))))))) (zc 263 [zm_A 146, zm_I x1, zm_I x2] h) := by
  rw [zc_eq (loc := [zm_A 146, zm_I x1, zm_I x2]) (rk_263 _) rfl]
  refine zl_tr (r_aload_n d_263_0 rfl) ?_
  refine zl_tr (r_iload_n d_263_1 rfl) ?_
  refine zl_tr (r_VI [zm_A 146, zm_I x1] d_263_2 ow_263 cal_12_529 na_223 rfl rfl (Nat.le_of_ble_eq_true rfl) (by rw [rk_223]; decide) (zr_rcv la_146 ow_223) (zr_im mx_223 rfl (Nat.le_of_ble_eq_true rfl)) (by rw [rt_223]; decide)) (zl_I (fun v1 h2 => ?_))
  refine zl_tr (r_if_eq (tgt := 25) d_263_5 (by decide)) (zl_if ?_ ?_)
  · skip
    refine zl_tr (r_iconst d_263_25 (by decide)) ?_
    exact r_iret d_263_26 rt_263
  · skip
    refine zl_tr (r_aload_n d_263_8 rfl) ?_
    refine zl_tr (r_iload_n d_263_9 rfl) ?_
    refine zl_tr (r_VI [zm_A 146, zm_I x1] d_263_10 ow_263 cal_12_518 na_214 rfl rfl (Nat.le_of_ble_eq_true rfl) (by rw [rk_214]; decide) (zr_rcv la_146 ow_214) (zr_im mx_214 rfl (Nat.le_of_ble_eq_true rfl)) (by rw [rt_214]; decide)) (zl_I (fun v3 h4 => ?_))
    refine zl_tr (r_if_eq (tgt := 25) d_263_13 (by decide)) (zl_if ?_ ?_)
    · skip
      refine zl_tr (r_iconst d_263_25 (by decide)) ?_
      exact r_iret d_263_26 rt_263
    · skip
      refine zl_tr (r_iload_n d_263_16 rfl) ?_
      refine zl_tr (r_iconst d_263_17 (by decide)) ?_
      refine zl_tr (r_iconst d_263_18 (by decide)) ?_
      refine zl_tr (r_SI [zm_I x2, zm_I 0, zm_I 2] d_263_19 ow_263 cal_12_335 (by decide) na_175 rfl rfl (Nat.le_of_ble_eq_true rfl) (by rw [rk_175]; decide) (zr_im mx_175 rfl (Nat.le_of_ble_eq_true rfl)) (by rw [rt_175]; decide)) (zl_I (fun v5 h6 => ?_))
      refine zl_tr (r_if_ne (tgt := 27) d_263_22 (by decide)) (zl_if ?_ ?_)
      · skip
        refine zl_tr (r_iconst d_263_25 (by decide)) ?_
        exact r_iret d_263_26 rt_263
      · skip
        refine zl_tr (r_aload_n d_263_27 rfl) ?_
        refine zl_tr (r_VV [zm_A 146] d_263_28 ow_263 cal_12_591 na_264 rfl rfl (Nat.le_of_ble_eq_true rfl) (by rw [rk_264]; decide) (zr_rcv la_146 ow_264) (zr_im mx_264 rfl (Nat.le_of_ble_eq_true rfl)) rt_264) (zl_V (fun h7 => ?_))
        refine zl_tr (r_iload_n d_263_31 rfl) ?_
        refine zl_tr (r_if_ne (tgt := 44) d_263_32 (by decide)) (zl_if ?_ ?_)
        · skip
          refine zl_tr (r_aload_n d_263_35 rfl) ?_
          refine zl_tr (r_getR d_263_36 ow_263 f_12_237 la_146 (by decide) fr_146_74) ?_
          refine zl_tr (r_iload_n d_263_39 rfl) ?_
          refine zl_tr (r_iaload d_263_40 la_191) (zl_ck ?_)
          refine zl_tr (r_goto (tgt := 64) d_263_41 (by decide)) ?_
          exact r_iret d_263_64 rt_263
        · skip
          refine zl_tr (r_iload_n d_263_44 rfl) ?_
          refine zl_tr (r_iconst d_263_45 (by decide)) ?_
          refine zl_tr (r_icmp_ne (tgt := 58) d_263_46 (by decide)) (zl_if ?_ ?_)
          · skip
            refine zl_tr (r_aload_n d_263_49 rfl) ?_
            refine zl_tr (r_getR d_263_50 ow_263 f_12_231 la_146 (by decide) fr_146_72) ?_
            refine zl_tr (r_iload_n d_263_53 rfl) ?_
            refine zl_tr (r_iaload d_263_54 la_189) (zl_ck ?_)
            refine zl_tr (r_goto (tgt := 64) d_263_55 (by decide)) ?_
            exact r_iret d_263_64 rt_263
          · skip
            refine zl_tr (r_aload_n d_263_58 rfl) ?_
            refine zl_tr (r_getR d_263_59 ow_263 f_12_240 la_146 (by decide) fr_146_75) ?_
            refine zl_tr (r_iload_n d_263_62 rfl) ?_
            refine zl_tr (r_iaload d_263_63 la_192) (zl_ck ?_)
            exact r_iret d_263_64 rt_263
-- BranTubModel.rings
set_option maxRecDepth 20000 in
theorem e_264 {h : zm_H}  : zl (zr none 3 264 4 [zm_A 146, zm_I 0, zm_I 0, zm_U, zm_U] [] h) (zc 264 [zm_A 146] h) := by
  rw [zc_eq (loc := [zm_A 146, zm_U, zm_U, zm_U, zm_U]) (rk_264 _) rfl]
  refine zl_tr (r_iconst d_264_0 (by decide)) ?_
  refine zl_tr (r_istore_n (loc' := [zm_A 146, zm_I 0, zm_U, zm_U, zm_U]) d_264_1 (Nat.le_of_ble_eq_true rfl) rfl) ?_
  refine zl_tr (r_iconst d_264_2 (by decide)) ?_
  refine zl_tr (r_istore_n (loc' := [zm_A 146, zm_I 0, zm_I 0, zm_U, zm_U]) d_264_3 (Nat.le_of_ble_eq_true rfl) rfl) ?_
  exact zl_rf
-- BranTubModel.rings, from 4
set_option maxRecDepth 20000 in
theorem e_264_4 {h : zm_H} {x1 : Int} {x2 : Int} {w3 : zm_V} {w4 : zm_V} : zl (zm_ck (0 ≤ (h 146 13) ∧ (h 146 13) < ((2 : Nat) : Int)) (if x2 < (h 153 (h 146 13)) then (zk_I (zc 265 [zm_A 146, zm_I x2] h) (fun v1 h2 => zm_ck (0 ≤ x2 ∧ x2 < ((8 : Nat) : Int)) (zm_ck (0 ≤ x2 ∧ x2 < ((8 : Nat) : Int)) (if ((zm_wr h2 189 x2 v1) 189 x2) = (-1) then (zm_ck (zm_i32 (x2 + 1)) (zr none 3 264 4 [zm_A 146, zm_I (zb_ior x1 0), zm_I (x2 + 1), w3, w4] [] (zm_wr h2 189 x2 v1))) else (zm_ck (zm_i32 (x2 + 1)) (zr none 3 264 4 [zm_A 146, zm_I (zb_ior x1 (zb_ishl 1 x2)), zm_I (x2 + 1), w3, w4] [] (zm_wr h2 189 x2 v1))))))) else (zr none 3 264 56 [zm_A 146, zm_I x1, zm_I 1, w3, w4] [] h))) (zr none 3 264 4 [zm_A 146, zm_I x1, zm_I x2, w3, w4] [] h) := by
  refine zl_tr (r_iload_n d_264_4 rfl) ?_
  refine zl_tr (r_aload_n d_264_5 rfl) ?_
  refine zl_tr (r_getR d_264_6 ow_264 f_12_69 la_146 (by decide) fr_146_19) ?_
  refine zl_tr (r_aload_n d_264_9 rfl) ?_
  refine zl_tr (r_getI (kk := 13) d_264_10 ow_264 f_12_51 la_146 (by decide) rfl) ?_
  refine zl_tr (r_iaload d_264_13 la_153) (zl_ck ?_)
  refine zl_tr (r_icmp_ge (tgt := 54) d_264_14 (by decide)) (zl_if ?_ ?_)
  · skip
    refine zl_tr (r_aload_n d_264_17 rfl) ?_
    refine zl_tr (r_getR d_264_18 ow_264 f_12_231 la_146 (by decide) fr_146_72) ?_
    refine zl_tr (r_iload_n d_264_21 rfl) ?_
    refine zl_tr (r_aload_n d_264_22 rfl) ?_
    refine zl_tr (r_iload_n d_264_23 rfl) ?_
    refine zl_tr (r_VI [zm_A 146, zm_I x2] d_264_24 ow_264 cal_12_582 na_265 rfl rfl (Nat.le_of_ble_eq_true rfl) (by rw [rk_265]; decide) (zr_rcv la_146 ow_265) (zr_im mx_265 rfl (Nat.le_of_ble_eq_true rfl)) (by rw [rt_265]; decide)) (zl_I (fun v1 h2 => ?_))
    refine zl_tr (r_iastore d_264_27 la_189) (zl_ck ?_)
    refine zl_tr (r_iload_n d_264_28 rfl) ?_
    refine zl_tr (r_aload_n d_264_29 rfl) ?_
    refine zl_tr (r_getR d_264_30 ow_264 f_12_231 la_146 (by decide) fr_146_72) ?_
    refine zl_tr (r_iload_n d_264_33 rfl) ?_
    refine zl_tr (r_iaload d_264_34 la_189) (zl_ck ?_)
    refine zl_tr (r_iconst d_264_35 (by decide)) ?_
    refine zl_tr (r_icmp_ne (tgt := 43) d_264_36 (by decide)) (zl_if ?_ ?_)
    · skip
      refine zl_tr (r_iconst d_264_39 (by decide)) ?_
      refine zl_tr (r_goto (tgt := 46) d_264_40 (by decide)) ?_
      refine zl_tr (r_ior d_264_46) ?_
      refine zl_tr (r_istore_n (loc' := [zm_A 146, zm_I (zb_ior x1 0), zm_I x2, w3, w4]) d_264_47 (Nat.le_of_ble_eq_true rfl) rfl) ?_
      refine zl_tr (r_iinc (loc' := [zm_A 146, zm_I (zb_ior x1 0), zm_I (x2 + 1), w3, w4]) d_264_48 rfl (Nat.le_of_ble_eq_true rfl) rfl) (zl_ck ?_)
      refine zl_tr (r_goto (tgt := 4) d_264_51 (by decide)) ?_
      exact zl_rf
    · skip
      refine zl_tr (r_iconst d_264_43 (by decide)) ?_
      refine zl_tr (r_iload_n d_264_44 rfl) ?_
      refine zl_tr (r_ishl d_264_45) ?_
      refine zl_tr (r_ior d_264_46) ?_
      refine zl_tr (r_istore_n (loc' := [zm_A 146, zm_I (zb_ior x1 (zb_ishl 1 x2)), zm_I x2, w3, w4]) d_264_47 (Nat.le_of_ble_eq_true rfl) rfl) ?_
      refine zl_tr (r_iinc (loc' := [zm_A 146, zm_I (zb_ior x1 (zb_ishl 1 x2)), zm_I (x2 + 1), w3, w4]) d_264_48 rfl (Nat.le_of_ble_eq_true rfl) rfl) (zl_ck ?_)
      refine zl_tr (r_goto (tgt := 4) d_264_51 (by decide)) ?_
      exact zl_rf
  · skip
    refine zl_tr (r_iconst d_264_54 (by decide)) ?_
    refine zl_tr (r_istore_n (loc' := [zm_A 146, zm_I x1, zm_I 1, w3, w4]) d_264_55 (Nat.le_of_ble_eq_true rfl) rfl) ?_
    exact zl_rf
-- BranTubModel.rings, from 56
set_option maxRecDepth 20000 in
theorem e_264_56 {h : zm_H} {x1 : Int} {x2 : Int} {w3 : zm_V} {w4 : zm_V} : zl (if x1 = 0 then (some (zm_U, h)) else (zr none 3 264 65 [zm_A 146, zm_I x1, zm_I x2, zm_I 0, zm_I 0] [] h)) (zr none 3 264 56 [zm_A 146, zm_I x1, zm_I x2, w3, w4] [] h) := by
  refine zl_tr (r_iload_n d_264_56 rfl) ?_
  refine zl_tr (r_if_eq (tgt := 194) d_264_57 (by decide)) (zl_if ?_ ?_)
  · skip
    exact r_vret d_264_194 rt_264
  · skip
    refine zl_tr (r_iconst d_264_60 (by decide)) ?_
    refine zl_tr (r_istore_n (loc' := [zm_A 146, zm_I x1, zm_I x2, zm_I 0, w4]) d_264_61 (Nat.le_of_ble_eq_true rfl) rfl) ?_
    refine zl_tr (r_iconst d_264_62 (by decide)) ?_
    refine zl_tr (r_istore (loc' := [zm_A 146, zm_I x1, zm_I x2, zm_I 0, zm_I 0]) d_264_63 (Nat.le_of_ble_eq_true rfl) rfl) ?_
    exact zl_rf
-- BranTubModel.rings, from 65
set_option maxRecDepth 20000 in
theorem e_264_65 {h : zm_H} {x1 : Int} {x2 : Int} {x3 : Int} {x4 : Int} : zl (zm_ck (0 ≤ (h 146 13) ∧ (h 146 13) < ((2 : Nat) : Int)) (if x4 < (h 153 (h 146 13)) then (if (zb_iand (zb_ishr x1 x4) 1) = 1 then (zk_I (zc 266 [zm_A 146, zm_I x4, zm_I x1] h) (fun v1 h2 => zm_ck (0 ≤ x4 ∧ x4 < ((8 : Nat) : Int)) (zm_ck (zm_i32 (x4 + 1)) (zr none 3 264 65 [zm_A 146, zm_I x1, zm_I x2, zm_I x3, zm_I (x4 + 1)] [] (zm_wr h2 190 x4 v1))))) else (zm_ck (zm_i32 (x4 + 1)) (zr none 3 264 65 [zm_A 146, zm_I x1, zm_I x2, zm_I x3, zm_I (x4 + 1)] [] h))) else (zr none 3 264 112 [zm_A 146, zm_I x1, zm_I x2, zm_I x3, zm_I 0] [] h))) (zr none 3 264 65 [zm_A 146, zm_I x1, zm_I x2, zm_I x3, zm_I x4] [] h) := by
  refine zl_tr (r_iload d_264_65 rfl) ?_
  refine zl_tr (r_aload_n d_264_67 rfl) ?_
  refine zl_tr (r_getR d_264_68 ow_264 f_12_69 la_146 (by decide) fr_146_19) ?_
  refine zl_tr (r_aload_n d_264_71 rfl) ?_
  refine zl_tr (r_getI (kk := 13) d_264_72 ow_264 f_12_51 la_146 (by decide) rfl) ?_
  refine zl_tr (r_iaload d_264_75 la_153) (zl_ck ?_)
  refine zl_tr (r_icmp_ge (tgt := 109) d_264_76 (by decide)) (zl_if ?_ ?_)
  · skip
    refine zl_tr (r_iload_n d_264_79 rfl) ?_
    refine zl_tr (r_iload d_264_80 rfl) ?_
    refine zl_tr (r_ishr d_264_82) ?_
    refine zl_tr (r_iconst d_264_83 (by decide)) ?_
    refine zl_tr (r_iand d_264_84) ?_
    refine zl_tr (r_iconst d_264_85 (by decide)) ?_
    refine zl_tr (r_icmp_ne (tgt := 103) d_264_86 (by decide)) (zl_if ?_ ?_)
    · skip
      refine zl_tr (r_aload_n d_264_89 rfl) ?_
      refine zl_tr (r_getR d_264_90 ow_264 f_12_234 la_146 (by decide) fr_146_73) ?_
      refine zl_tr (r_iload d_264_93 rfl) ?_
      refine zl_tr (r_aload_n d_264_95 rfl) ?_
      refine zl_tr (r_iload d_264_96 rfl) ?_
      refine zl_tr (r_iload_n d_264_98 rfl) ?_
      refine zl_tr (r_VI [zm_A 146, zm_I x4, zm_I x1] d_264_99 ow_264 cal_12_585 na_266 rfl rfl (Nat.le_of_ble_eq_true rfl) (by rw [rk_266]; decide) (zr_rcv la_146 ow_266) (zr_im mx_266 rfl (Nat.le_of_ble_eq_true rfl)) (by rw [rt_266]; decide)) (zl_I (fun v1 h2 => ?_))
      refine zl_tr (r_iastore d_264_102 la_190) (zl_ck ?_)
      refine zl_tr (r_iinc (loc' := [zm_A 146, zm_I x1, zm_I x2, zm_I x3, zm_I (x4 + 1)]) d_264_103 rfl (Nat.le_of_ble_eq_true rfl) rfl) (zl_ck ?_)
      refine zl_tr (r_goto (tgt := 65) d_264_106 (by decide)) ?_
      exact zl_rf
    · skip
      refine zl_tr (r_iinc (loc' := [zm_A 146, zm_I x1, zm_I x2, zm_I x3, zm_I (x4 + 1)]) d_264_103 rfl (Nat.le_of_ble_eq_true rfl) rfl) (zl_ck ?_)
      refine zl_tr (r_goto (tgt := 65) d_264_106 (by decide)) ?_
      exact zl_rf
  · skip
    refine zl_tr (r_iconst d_264_109 (by decide)) ?_
    refine zl_tr (r_istore (loc' := [zm_A 146, zm_I x1, zm_I x2, zm_I x3, zm_I 0]) d_264_110 (Nat.le_of_ble_eq_true rfl) rfl) ?_
    exact zl_rf
-- BranTubModel.rings, from 112
set_option maxRecDepth 20000 in
theorem e_264_112 {h : zm_H} {x1 : Int} {x2 : Int} {x3 : Int} {x4 : Int} : zl (zm_ck (0 ≤ (h 146 13) ∧ (h 146 13) < ((2 : Nat) : Int)) (if x4 < (h 153 (h 146 13)) then (if (zb_iand (zb_ishr x1 x4) 1) = 0 then (zm_ck (zm_i32 (x4 + 1)) (zr none 3 264 112 [zm_A 146, zm_I x1, zm_I x2, zm_I x3, zm_I (x4 + 1)] [] h)) else (zk_I (zc 267 [zm_A 146, zm_I x4] h) (fun v1 h2 => if v1 = 0 then (zm_ck (zm_i32 (x4 + 1)) (zr none 3 264 112 [zm_A 146, zm_I x1, zm_I x2, zm_I x3, zm_I (x4 + 1)] [] h2)) else (zm_ck (0 ≤ x4 ∧ x4 < ((8 : Nat) : Int)) (zm_ck (0 ≤ x4 ∧ x4 < ((8 : Nat) : Int)) (zm_ck (0 ≤ x4 ∧ x4 < ((8 : Nat) : Int)) (zm_ck (zm_i32 (x4 + 1)) (zr none 3 264 112 [zm_A 146, zm_I x1, zm_I x2, zm_I (zb_ior x3 (zb_ishl 1 x4)), zm_I (x4 + 1)] [] (zm_wr (zm_wr h2 191 x4 (h2 190 x4)) 192 x4 x2))))))))) else (zm_ck (zm_i32 (x2 + 1)) (zr none 3 264 56 [zm_A 146, zm_I (zb_iand x1 (zb_ixor x3 (-1))), zm_I (x2 + 1), zm_I x3, zm_I x4] [] h)))) (zr none 3 264 112 [zm_A 146, zm_I x1, zm_I x2, zm_I x3, zm_I x4] [] h) := by
  refine zl_tr (r_iload d_264_112 rfl) ?_
  refine zl_tr (r_aload_n d_264_114 rfl) ?_
  refine zl_tr (r_getR d_264_115 ow_264 f_12_69 la_146 (by decide) fr_146_19) ?_
  refine zl_tr (r_aload_n d_264_118 rfl) ?_
  refine zl_tr (r_getI (kk := 13) d_264_119 ow_264 f_12_51 la_146 (by decide) rfl) ?_
  refine zl_tr (r_iaload d_264_122 la_153) (zl_ck ?_)
  refine zl_tr (r_icmp_ge (tgt := 182) d_264_123 (by decide)) (zl_if ?_ ?_)
  · skip
    refine zl_tr (r_iload_n d_264_126 rfl) ?_
    refine zl_tr (r_iload d_264_127 rfl) ?_
    refine zl_tr (r_ishr d_264_129) ?_
    refine zl_tr (r_iconst d_264_130 (by decide)) ?_
    refine zl_tr (r_iand d_264_131) ?_
    refine zl_tr (r_if_eq (tgt := 176) d_264_132 (by decide)) (zl_if ?_ ?_)
    · skip
      refine zl_tr (r_iinc (loc' := [zm_A 146, zm_I x1, zm_I x2, zm_I x3, zm_I (x4 + 1)]) d_264_176 rfl (Nat.le_of_ble_eq_true rfl) rfl) (zl_ck ?_)
      refine zl_tr (r_goto (tgt := 112) d_264_179 (by decide)) ?_
      exact zl_rf
    · skip
      refine zl_tr (r_aload_n d_264_135 rfl) ?_
      refine zl_tr (r_iload d_264_136 rfl) ?_
      refine zl_tr (r_VI [zm_A 146, zm_I x4] d_264_138 ow_264 cal_12_588 na_267 rfl rfl (Nat.le_of_ble_eq_true rfl) (by rw [rk_267]; decide) (zr_rcv la_146 ow_267) (zr_im mx_267 rfl (Nat.le_of_ble_eq_true rfl)) (by rw [rt_267]; decide)) (zl_I (fun v1 h2 => ?_))
      refine zl_tr (r_if_ne (tgt := 147) d_264_141 (by decide)) (zl_if ?_ ?_)
      · skip
        refine zl_tr (r_goto (tgt := 176) d_264_144 (by decide)) ?_
        refine zl_tr (r_iinc (loc' := [zm_A 146, zm_I x1, zm_I x2, zm_I x3, zm_I (x4 + 1)]) d_264_176 rfl (Nat.le_of_ble_eq_true rfl) rfl) (zl_ck ?_)
        refine zl_tr (r_goto (tgt := 112) d_264_179 (by decide)) ?_
        exact zl_rf
      · skip
        refine zl_tr (r_aload_n d_264_147 rfl) ?_
        refine zl_tr (r_getR d_264_148 ow_264 f_12_237 la_146 (by decide) fr_146_74) ?_
        refine zl_tr (r_iload d_264_151 rfl) ?_
        refine zl_tr (r_aload_n d_264_153 rfl) ?_
        refine zl_tr (r_getR d_264_154 ow_264 f_12_234 la_146 (by decide) fr_146_73) ?_
        refine zl_tr (r_iload d_264_157 rfl) ?_
        refine zl_tr (r_iaload d_264_159 la_190) (zl_ck ?_)
        refine zl_tr (r_iastore d_264_160 la_191) (zl_ck ?_)
        refine zl_tr (r_aload_n d_264_161 rfl) ?_
        refine zl_tr (r_getR d_264_162 ow_264 f_12_240 la_146 (by decide) fr_146_75) ?_
        refine zl_tr (r_iload d_264_165 rfl) ?_
        refine zl_tr (r_iload_n d_264_167 rfl) ?_
        refine zl_tr (r_iastore d_264_168 la_192) (zl_ck ?_)
        refine zl_tr (r_iload_n d_264_169 rfl) ?_
        refine zl_tr (r_iconst d_264_170 (by decide)) ?_
        refine zl_tr (r_iload d_264_171 rfl) ?_
        refine zl_tr (r_ishl d_264_173) ?_
        refine zl_tr (r_ior d_264_174) ?_
        refine zl_tr (r_istore_n (loc' := [zm_A 146, zm_I x1, zm_I x2, zm_I (zb_ior x3 (zb_ishl 1 x4)), zm_I x4]) d_264_175 (Nat.le_of_ble_eq_true rfl) rfl) ?_
        refine zl_tr (r_iinc (loc' := [zm_A 146, zm_I x1, zm_I x2, zm_I (zb_ior x3 (zb_ishl 1 x4)), zm_I (x4 + 1)]) d_264_176 rfl (Nat.le_of_ble_eq_true rfl) rfl) (zl_ck ?_)
        refine zl_tr (r_goto (tgt := 112) d_264_179 (by decide)) ?_
        exact zl_rf
  · skip
    refine zl_tr (r_iload_n d_264_182 rfl) ?_
    refine zl_tr (r_iload_n d_264_183 rfl) ?_
    refine zl_tr (r_iconst d_264_184 (by decide)) ?_
    refine zl_tr (r_ixor d_264_185) ?_
    refine zl_tr (r_iand d_264_186) ?_
    refine zl_tr (r_istore_n (loc' := [zm_A 146, zm_I (zb_iand x1 (zb_ixor x3 (-1))), zm_I x2, zm_I x3, zm_I x4]) d_264_187 (Nat.le_of_ble_eq_true rfl) rfl) ?_
    refine zl_tr (r_iinc (loc' := [zm_A 146, zm_I (zb_iand x1 (zb_ixor x3 (-1))), zm_I (x2 + 1), zm_I x3, zm_I x4]) d_264_188 rfl (Nat.le_of_ble_eq_true rfl) rfl) (zl_ck ?_)
    refine zl_tr (r_goto (tgt := 56) d_264_191 (by decide)) ?_
    exact zl_rf
