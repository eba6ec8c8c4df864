/-! MIRRORS 4 (printed by wip/gen/gen_mirror.py) -/
-- BranTubModel.isTest
set_option maxRecDepth 20000 in
theorem e_185 {h : zm_H} {x1 : Int} : zl (if x1 = 1 then (zm_ck (zm_bit 1) (some (zm_I 1, h))) else (if x1 = 5 then (zm_ck (zm_bit 1) (some (zm_I 1, h))) else (zm_ck (zm_bit 0) (some (zm_I 0, h))))) (zc 185 [zm_I x1] h) := by
  rw [zc_eq (loc := [zm_I x1]) (rk_185 _) rfl]
  refine zl_tr (r_iload_n d_185_0 rfl) ?_
  refine zl_tr (r_iconst d_185_1 (by decide)) ?_
  refine zl_tr (r_icmp_eq (tgt := 10) d_185_2 (by decide)) (zl_if ?_ ?_)
  · skip
    refine zl_tr (r_iconst d_185_10 (by decide)) ?_
    refine zl_tr (r_goto (tgt := 15) d_185_11 (by decide)) ?_
    exact r_zret d_185_15 rt_185
  · skip
    refine zl_tr (r_iload_n d_185_5 rfl) ?_
    refine zl_tr (r_iconst d_185_6 (by decide)) ?_
    refine zl_tr (r_icmp_ne (tgt := 14) d_185_7 (by decide)) (zl_if ?_ ?_)
    · skip
      refine zl_tr (r_iconst d_185_10 (by decide)) ?_
      refine zl_tr (r_goto (tgt := 15) d_185_11 (by decide)) ?_
      exact r_zret d_185_15 rt_185
    · skip
      refine zl_tr (r_iconst d_185_14 (by decide)) ?_
      exact r_zret d_185_15 rt_185
-- BranTubModel.holdsBack
set_option maxRecDepth 20000 in
theorem e_186 {h : zm_H} {x1 : Int} : zl (zm_ck (0 ≤ (h 146 43) ∧ (h 146 43) < ((500 : Nat) : Int)) (zm_ck (zm_i32 (((zm_wr h 172 (h 146 43) x1) 146 43) + 1)) (some (zm_U, (zm_wr (zm_wr h 172 (h 146 43) x1) 146 43 (((zm_wr h 172 (h 146 43) x1) 146 43) + 1)))))) (zc 186 [zm_A 146, zm_I x1] h) := by
  rw [zc_eq (loc := [zm_A 146, zm_I x1]) (rk_186 _) rfl]
  refine zl_tr (r_aload_n d_186_0 rfl) ?_
  refine zl_tr (r_getR d_186_1 ow_186 f_12_140 la_146 (by decide) fr_146_42) ?_
  refine zl_tr (r_aload_n d_186_4 rfl) ?_
  refine zl_tr (r_getI (kk := 43) d_186_5 ow_186 f_12_143 la_146 (by decide) rfl) ?_
  refine zl_tr (r_iload_n d_186_8 rfl) ?_
  refine zl_tr (r_iastore d_186_9 la_172) (zl_ck ?_)
  refine zl_tr (r_aload_n d_186_10 rfl) ?_
  refine zl_tr (r_dup d_186_11 rfl) ?_
  refine zl_tr (r_getI (kk := 43) d_186_12 ow_186 f_12_143 la_146 (by decide) rfl) ?_
  refine zl_tr (r_iconst d_186_15 (by decide)) ?_
  refine zl_tr (r_iadd d_186_16) (zl_ck ?_)
  refine zl_tr (r_putI (kk := 43) d_186_17 ow_186 f_12_143 la_146 (by decide) rfl) ?_
  exact r_vret d_186_20 rt_186
-- BranTubModel.isSign
set_option maxRecDepth 20000 in
theorem e_187 {h : zm_H} {x1 : Int} : zl (if (h 146 3) = 3 then (if (h 146 6) = x1 then (zm_ck (zm_bit 1) (some (zm_I 1, h))) else (zm_ck (zm_bit 0) (some (zm_I 0, h)))) else (zm_ck (zm_bit 0) (some (zm_I 0, h)))) (zc 187 [zm_A 146, zm_I x1] h) := by
  rw [zc_eq (loc := [zm_A 146, zm_I x1]) (rk_187 _) rfl]
  refine zl_tr (r_aload_n d_187_0 rfl) ?_
  refine zl_tr (r_getI (kk := 3) d_187_1 ow_187 f_12_20 la_146 (by decide) rfl) ?_
  refine zl_tr (r_iconst d_187_4 (by decide)) ?_
  refine zl_tr (r_icmp_ne (tgt := 20) d_187_5 (by decide)) (zl_if ?_ ?_)
  · skip
    refine zl_tr (r_aload_n d_187_8 rfl) ?_
    refine zl_tr (r_getI (kk := 6) d_187_9 ow_187 f_12_29 la_146 (by decide) rfl) ?_
    refine zl_tr (r_iload_n d_187_12 rfl) ?_
    refine zl_tr (r_icmp_ne (tgt := 20) d_187_13 (by decide)) (zl_if ?_ ?_)
    · skip
      refine zl_tr (r_iconst d_187_16 (by decide)) ?_
      refine zl_tr (r_goto (tgt := 21) d_187_17 (by decide)) ?_
      exact r_zret d_187_21 rt_187
    · skip
      refine zl_tr (r_iconst d_187_20 (by decide)) ?_
      exact r_zret d_187_21 rt_187
  · skip
    refine zl_tr (r_iconst d_187_20 (by decide)) ?_
    exact r_zret d_187_21 rt_187
-- BranTubModel.opens
set_option maxRecDepth 20000 in
theorem e_188 {h : zm_H} {x1 : Int} : zl (if (h 146 41) = 7 then (zk_V (zc 164 [zm_A 146, zm_I 5, zm_I (h 146 4)] h) (fun h1 => zr none 3 188 18 [zm_A 146, zm_I x1] [] h1)) else (zr none 3 188 18 [zm_A 146, zm_I x1] [] h)) (zc 188 [zm_A 146, zm_I x1] h) := by
  rw [zc_eq (loc := [zm_A 146, zm_I x1]) (rk_188 _) rfl]
  refine zl_tr (r_aload_n d_188_0 rfl) ?_
  refine zl_tr (r_getI (kk := 41) d_188_1 ow_188 f_12_137 la_146 (by decide) rfl) ?_
  refine zl_tr (r_bipush d_188_4 (by decide)) ?_
  refine zl_tr (r_icmp_ne (tgt := 18) d_188_6 (by decide)) (zl_if ?_ ?_)
  · skip
    refine zl_tr (r_aload_n d_188_9 rfl) ?_
    refine zl_tr (r_iconst d_188_10 (by decide)) ?_
    refine zl_tr (r_aload_n d_188_11 rfl) ?_
    refine zl_tr (r_getI (kk := 4) d_188_12 ow_188 f_12_23 la_146 (by decide) rfl) ?_
    refine zl_tr (r_VV [zm_A 146, zm_I 5, zm_I (h 146 4)] d_188_15 ow_188 cal_12_257 na_164 rfl rfl (Nat.le_of_ble_eq_true rfl) (by rw [rk_164]; decide) (zr_rcv la_146 ow_164) (zr_im mx_164 rfl (Nat.le_of_ble_eq_true rfl)) rt_164) (zl_V (fun h1 => ?_))
    exact zl_rf
  · skip
    exact zl_rf
-- BranTubModel.opens, from 18
set_option maxRecDepth 20000 in
theorem e_188_18 {h : zm_H} {x1 : Int} : zl (if (h 146 8) ≤ 0 then (zm_ck (zm_i32 ((h 146 41) + 1)) (zk_V (zc 159 [zm_A 146] (zm_wr h 146 41 ((h 146 41) + 1))) (fun h1 => zk_V (zc 183 [zm_A 146, zm_I x1] h1) (fun h2 => some (zm_U, h2))))) else (some (zm_U, h))) (zr none 3 188 18 [zm_A 146, zm_I x1] [] h) := by
  refine zl_tr (r_aload_n d_188_18 rfl) ?_
  refine zl_tr (r_getI (kk := 8) d_188_19 ow_188 f_12_36 la_146 (by decide) rfl) ?_
  refine zl_tr (r_if_le (tgt := 26) d_188_22 (by decide)) (zl_if ?_ ?_)
  · skip
    refine zl_tr (r_aload_n d_188_26 rfl) ?_
    refine zl_tr (r_dup d_188_27 rfl) ?_
    refine zl_tr (r_getI (kk := 41) d_188_28 ow_188 f_12_137 la_146 (by decide) rfl) ?_
    refine zl_tr (r_iconst d_188_31 (by decide)) ?_
    refine zl_tr (r_iadd d_188_32) (zl_ck ?_)
    refine zl_tr (r_putI (kk := 41) d_188_33 ow_188 f_12_137 la_146 (by decide) rfl) ?_
    refine zl_tr (r_aload_n d_188_36 rfl) ?_
    refine zl_tr (r_VV [zm_A 146] d_188_37 ow_188 cal_12_274 na_159 rfl rfl (Nat.le_of_ble_eq_true rfl) (by rw [rk_159]; decide) (zr_rcv la_146 ow_159) (zr_im mx_159 rfl (Nat.le_of_ble_eq_true rfl)) rt_159) (zl_V (fun h1 => ?_))
    refine zl_tr (r_aload_n d_188_40 rfl) ?_
    refine zl_tr (r_iload_n d_188_41 rfl) ?_
    refine zl_tr (r_VV [zm_A 146, zm_I x1] d_188_42 ow_188 cal_12_345 na_183 rfl rfl (Nat.le_of_ble_eq_true rfl) (by rw [rk_183]; decide) (zr_rcv la_146 ow_183) (zr_im mx_183 rfl (Nat.le_of_ble_eq_true rfl)) rt_183) (zl_V (fun h2 => ?_))
    exact r_vret d_188_45 rt_188
  · skip
    exact r_vret d_188_25 rt_188
-- BranTubModel.add
set_option maxRecDepth 20000 in
theorem e_189 {h : zm_H} {x1 : Int} {x2 : Int} : zl (zm_ck (zm_i32 (1600 * (h 146 34))) (zm_ck (zm_i32 ((1600 * (h 146 34)) + (h 146 33))) (zm_ck (0 ≤ ((1600 * (h 146 34)) + (h 146 33)) ∧ ((1600 * (h 146 34)) + (h 146 33)) < ((3200 : Nat) : Int)) (zm_ck (zm_i32 (1600 * ((zm_wr h 163 ((1600 * (h 146 34)) + (h 146 33)) x1) 146 34))) (zm_ck (zm_i32 ((1600 * ((zm_wr h 163 ((1600 * (h 146 34)) + (h 146 33)) x1) 146 34)) + ((zm_wr h 163 ((1600 * (h 146 34)) + (h 146 33)) x1) 146 33))) (zm_ck (0 ≤ ((1600 * ((zm_wr h 163 ((1600 * (h 146 34)) + (h 146 33)) x1) 146 34)) + ((zm_wr h 163 ((1600 * (h 146 34)) + (h 146 33)) x1) 146 33)) ∧ ((1600 * ((zm_wr h 163 ((1600 * (h 146 34)) + (h 146 33)) x1) 146 34)) + ((zm_wr h 163 ((1600 * (h 146 34)) + (h 146 33)) x1) 146 33)) < ((3200 : Nat) : Int)) (zm_ck (zm_i32 (((zm_wr (zm_wr h 163 ((1600 * (h 146 34)) + (h 146 33)) x1) 164 ((1600 * ((zm_wr h 163 ((1600 * (h 146 34)) + (h 146 33)) x1) 146 34)) + ((zm_wr h 163 ((1600 * (h 146 34)) + (h 146 33)) x1) 146 33)) x2) 146 33) + 1)) (some (zm_U, (zm_wr (zm_wr (zm_wr h 163 ((1600 * (h 146 34)) + (h 146 33)) x1) 164 ((1600 * ((zm_wr h 163 ((1600 * (h 146 34)) + (h 146 33)) x1) 146 34)) + ((zm_wr h 163 ((1600 * (h 146 34)) + (h 146 33)) x1) 146 33)) x2) 146 33 (((zm_wr (zm_wr h 163 ((1600 * (h 146 34)) + (h 146 33)) x1) 164 ((1600 * ((zm_wr h 163 ((1600 * (h 146 34)) + (h 146 33)) x1) 146 34)) + ((zm_wr h 163 ((1600 * (h 146 34)) + (h 146 33)) x1) 146 33)) x2) 146 33) + 1))))))))))) (zc 189 [zm_A 146, zm_I x1, zm_I x2] h) := by
  rw [zc_eq (loc := [zm_A 146, zm_I x1, zm_I x2]) (rk_189 _) rfl]
  refine zl_tr (r_aload_n d_189_0 rfl) ?_
  refine zl_tr (r_getR d_189_1 ow_189 f_12_99 la_146 (by decide) fr_146_29) ?_
  refine zl_tr (r_sipush d_189_4 (by decide)) ?_
  refine zl_tr (r_aload_n d_189_7 rfl) ?_
  refine zl_tr (r_getI (kk := 34) d_189_8 ow_189 f_12_115 la_146 (by decide) rfl) ?_
  refine zl_tr (r_imul d_189_11) (zl_ck ?_)
  refine zl_tr (r_aload_n d_189_12 rfl) ?_
  refine zl_tr (r_getI (kk := 33) d_189_13 ow_189 f_12_112 la_146 (by decide) rfl) ?_
  refine zl_tr (r_iadd d_189_16) (zl_ck ?_)
  refine zl_tr (r_iload_n d_189_17 rfl) ?_
  refine zl_tr (r_iastore d_189_18 la_163) (zl_ck ?_)
  refine zl_tr (r_aload_n d_189_19 rfl) ?_
  refine zl_tr (r_getR d_189_20 ow_189 f_12_102 la_146 (by decide) fr_146_30) ?_
  refine zl_tr (r_sipush d_189_23 (by decide)) ?_
  refine zl_tr (r_aload_n d_189_26 rfl) ?_
  refine zl_tr (r_getI (kk := 34) d_189_27 ow_189 f_12_115 la_146 (by decide) rfl) ?_
  refine zl_tr (r_imul d_189_30) (zl_ck ?_)
  refine zl_tr (r_aload_n d_189_31 rfl) ?_
  refine zl_tr (r_getI (kk := 33) d_189_32 ow_189 f_12_112 la_146 (by decide) rfl) ?_
  refine zl_tr (r_iadd d_189_35) (zl_ck ?_)
  refine zl_tr (r_iload_n d_189_36 rfl) ?_
  refine zl_tr (r_iastore d_189_37 la_164) (zl_ck ?_)
  refine zl_tr (r_aload_n d_189_38 rfl) ?_
  refine zl_tr (r_dup d_189_39 rfl) ?_
  refine zl_tr (r_getI (kk := 33) d_189_40 ow_189 f_12_112 la_146 (by decide) rfl) ?_
  refine zl_tr (r_iconst d_189_43 (by decide)) ?_
  refine zl_tr (r_iadd d_189_44) (zl_ck ?_)
  refine zl_tr (r_putI (kk := 33) d_189_45 ow_189 f_12_112 la_146 (by decide) rfl) ?_
  exact r_vret d_189_48 rt_189
-- BranTubModel.goesOn
set_option maxRecDepth 20000 in
theorem e_190 {h : zm_H}  : zl (zk_V (zc 163 [zm_A 146] h) (fun h1 => if (h1 146 8) ≤ 0 then (zm_ck (zm_i32 ((h1 146 40) - 1)) (zm_ck (0 ≤ ((h1 146 40) - 1) ∧ ((h1 146 40) - 1) < ((20 : Nat) : Int)) (zk_I (zc 185 [zm_I (h1 167 ((h1 146 40) - 1))] h1) (fun v2 h3 => zm_ck (0 ≤ ((h1 146 40) - 1) ∧ ((h1 146 40) - 1) < ((20 : Nat) : Int)) (if (h3 168 ((h1 146 40) - 1)) < 2 then (zk_I (zc 187 [zm_A 146, zm_I 43] h3) (fun v4 h5 => if v4 = 0 then (zk_I (zc 187 [zm_A 146, zm_I 45] h5) (fun v6 h7 => if v6 = 0 then (zk_I (zc 187 [zm_A 146, zm_I 42] h7) (fun v8 h9 => if v8 = 0 then (zk_I (zc 187 [zm_A 146, zm_I 47] h9) (fun v10 h11 => if v10 = 0 then (zk_I (zc 187 [zm_A 146, zm_I 37] h11) (fun v12 h13 => if v12 = 0 then (zr none 3 190 188 [zm_A 146, zm_I ((h1 146 40) - 1), zm_I (h1 167 ((h1 146 40) - 1)), zm_I v2, zm_U] [] h13) else (zr none 3 190 87 [zm_A 146, zm_I ((h1 146 40) - 1), zm_I (h1 167 ((h1 146 40) - 1)), zm_I v2, zm_U] [] h13))) else (zr none 3 190 87 [zm_A 146, zm_I ((h1 146 40) - 1), zm_I (h1 167 ((h1 146 40) - 1)), zm_I v2, zm_U] [] h11))) else (zr none 3 190 87 [zm_A 146, zm_I ((h1 146 40) - 1), zm_I (h1 167 ((h1 146 40) - 1)), zm_I v2, zm_U] [] h9))) else (zr none 3 190 87 [zm_A 146, zm_I ((h1 146 40) - 1), zm_I (h1 167 ((h1 146 40) - 1)), zm_I v2, zm_U] [] h7))) else (zr none 3 190 87 [zm_A 146, zm_I ((h1 146 40) - 1), zm_I (h1 167 ((h1 146 40) - 1)), zm_I v2, zm_U] [] h5))) else (zr none 3 190 188 [zm_A 146, zm_I ((h1 146 40) - 1), zm_I (h1 167 ((h1 146 40) - 1)), zm_I v2, zm_U] [] h3)))))) else (zm_ck (zm_bit 0) (some (zm_I 0, h1))))) (zc 190 [zm_A 146] h) := by
  rw [zc_eq (loc := [zm_A 146, zm_U, zm_U, zm_U, zm_U]) (rk_190 _) rfl]
  refine zl_tr (r_aload_n d_190_0 rfl) ?_
  refine zl_tr (r_VV [zm_A 146] d_190_1 ow_190 cal_12_268 na_163 rfl rfl (Nat.le_of_ble_eq_true rfl) (by rw [rk_163]; decide) (zr_rcv la_146 ow_163) (zr_im mx_163 rfl (Nat.le_of_ble_eq_true rfl)) rt_163) (zl_V (fun h1 => ?_))
  refine zl_tr (r_aload_n d_190_4 rfl) ?_
  refine zl_tr (r_getI (kk := 8) d_190_5 ow_190 f_12_36 la_146 (by decide) rfl) ?_
  refine zl_tr (r_if_le (tgt := 13) d_190_8 (by decide)) (zl_if ?_ ?_)
  · skip
    refine zl_tr (r_aload_n d_190_13 rfl) ?_
    refine zl_tr (r_getI (kk := 40) d_190_14 ow_190 f_12_134 la_146 (by decide) rfl) ?_
    refine zl_tr (r_iconst d_190_17 (by decide)) ?_
    refine zl_tr (r_isub d_190_18) (zl_ck ?_)
    refine zl_tr (r_istore_n (loc' := [zm_A 146, zm_I ((h1 146 40) - 1), zm_U, zm_U, zm_U]) d_190_19 (Nat.le_of_ble_eq_true rfl) rfl) ?_
    refine zl_tr (r_aload_n d_190_20 rfl) ?_
    refine zl_tr (r_getR d_190_21 ow_190 f_12_118 la_146 (by decide) fr_146_35) ?_
    refine zl_tr (r_iload_n d_190_24 rfl) ?_
    refine zl_tr (r_iaload d_190_25 la_167) (zl_ck ?_)
    refine zl_tr (r_istore_n (loc' := [zm_A 146, zm_I ((h1 146 40) - 1), zm_I (h1 167 ((h1 146 40) - 1)), zm_U, zm_U]) d_190_26 (Nat.le_of_ble_eq_true rfl) rfl) ?_
    refine zl_tr (r_iload_n d_190_27 rfl) ?_
    refine zl_tr (r_SI [zm_I (h1 167 ((h1 146 40) - 1))] d_190_28 ow_190 cal_12_348 (by decide) na_185 rfl rfl (Nat.le_of_ble_eq_true rfl) (by rw [rk_185]; decide) (zr_im mx_185 rfl (Nat.le_of_ble_eq_true rfl)) (by rw [rt_185]; decide)) (zl_I (fun v2 h3 => ?_))
    refine zl_tr (r_istore_n (loc' := [zm_A 146, zm_I ((h1 146 40) - 1), zm_I (h1 167 ((h1 146 40) - 1)), zm_I v2, zm_U]) d_190_31 (Nat.le_of_ble_eq_true rfl) rfl) ?_
    refine zl_tr (r_aload_n d_190_32 rfl) ?_
    refine zl_tr (r_getR d_190_33 ow_190 f_12_121 la_146 (by decide) fr_146_36) ?_
    refine zl_tr (r_iload_n d_190_36 rfl) ?_
    refine zl_tr (r_iaload d_190_37 la_168) (zl_ck ?_)
    refine zl_tr (r_iconst d_190_38 (by decide)) ?_
    refine zl_tr (r_icmp_ge (tgt := 188) d_190_39 (by decide)) (zl_if ?_ ?_)
    · skip
      refine zl_tr (r_aload_n d_190_42 rfl) ?_
      refine zl_tr (r_bipush d_190_43 (by decide)) ?_
      refine zl_tr (r_VI [zm_A 146, zm_I 43] d_190_45 ow_190 cal_12_271 na_187 rfl rfl (Nat.le_of_ble_eq_true rfl) (by rw [rk_187]; decide) (zr_rcv la_146 ow_187) (zr_im mx_187 rfl (Nat.le_of_ble_eq_true rfl)) (by rw [rt_187]; decide)) (zl_I (fun v4 h5 => ?_))
      refine zl_tr (r_if_ne (tgt := 87) d_190_48 (by decide)) (zl_if ?_ ?_)
      · skip
        refine zl_tr (r_aload_n d_190_51 rfl) ?_
        refine zl_tr (r_bipush d_190_52 (by decide)) ?_
        refine zl_tr (r_VI [zm_A 146, zm_I 45] d_190_54 ow_190 cal_12_271 na_187 rfl rfl (Nat.le_of_ble_eq_true rfl) (by rw [rk_187]; decide) (zr_rcv la_146 ow_187) (zr_im mx_187 rfl (Nat.le_of_ble_eq_true rfl)) (by rw [rt_187]; decide)) (zl_I (fun v6 h7 => ?_))
        refine zl_tr (r_if_ne (tgt := 87) d_190_57 (by decide)) (zl_if ?_ ?_)
        · skip
          refine zl_tr (r_aload_n d_190_60 rfl) ?_
          refine zl_tr (r_bipush d_190_61 (by decide)) ?_
          refine zl_tr (r_VI [zm_A 146, zm_I 42] d_190_63 ow_190 cal_12_271 na_187 rfl rfl (Nat.le_of_ble_eq_true rfl) (by rw [rk_187]; decide) (zr_rcv la_146 ow_187) (zr_im mx_187 rfl (Nat.le_of_ble_eq_true rfl)) (by rw [rt_187]; decide)) (zl_I (fun v8 h9 => ?_))
          refine zl_tr (r_if_ne (tgt := 87) d_190_66 (by decide)) (zl_if ?_ ?_)
          · skip
            refine zl_tr (r_aload_n d_190_69 rfl) ?_
            refine zl_tr (r_bipush d_190_70 (by decide)) ?_
            refine zl_tr (r_VI [zm_A 146, zm_I 47] d_190_72 ow_190 cal_12_271 na_187 rfl rfl (Nat.le_of_ble_eq_true rfl) (by rw [rk_187]; decide) (zr_rcv la_146 ow_187) (zr_im mx_187 rfl (Nat.le_of_ble_eq_true rfl)) (by rw [rt_187]; decide)) (zl_I (fun v10 h11 => ?_))
            refine zl_tr (r_if_ne (tgt := 87) d_190_75 (by decide)) (zl_if ?_ ?_)
            · skip
              refine zl_tr (r_aload_n d_190_78 rfl) ?_
              refine zl_tr (r_bipush d_190_79 (by decide)) ?_
              refine zl_tr (r_VI [zm_A 146, zm_I 37] d_190_81 ow_190 cal_12_271 na_187 rfl rfl (Nat.le_of_ble_eq_true rfl) (by rw [rk_187]; decide) (zr_rcv la_146 ow_187) (zr_im mx_187 rfl (Nat.le_of_ble_eq_true rfl)) (by rw [rt_187]; decide)) (zl_I (fun v12 h13 => ?_))
              refine zl_tr (r_if_eq (tgt := 188) d_190_84 (by decide)) (zl_if ?_ ?_)
              · skip
                exact zl_rf
              · skip
                exact zl_rf
            · skip
              exact zl_rf
          · skip
            exact zl_rf
        · skip
          exact zl_rf
      · skip
        exact zl_rf
    · skip
      exact zl_rf
  · skip
    refine zl_tr (r_iconst d_190_11 (by decide)) ?_
    exact r_zret d_190_12 rt_190
-- BranTubModel.goesOn, from 188
set_option maxRecDepth 20000 in
theorem e_190_188 {h : zm_H} {x1 : Int} {x2 : Int} {x3 : Int} {w4 : zm_V} : zl (if x3 = 0 then (zr none 3 190 285 [zm_A 146, zm_I x1, zm_I x2, zm_I x3, w4] [] h) else (zm_ck (0 ≤ x1 ∧ x1 < ((20 : Nat) : Int)) (if (h 168 x1) = 0 then (zk_I (zc 187 [zm_A 146, zm_I 60] h) (fun v1 h2 => if v1 = 0 then (zk_I (zc 187 [zm_A 146, zm_I 62] h2) (fun v3 h4 => if v3 = 0 then (zk_I (zc 187 [zm_A 146, zm_I 61] h4) (fun v5 h6 => if v5 = 0 then (zr none 3 190 285 [zm_A 146, zm_I x1, zm_I x2, zm_I x3, w4] [] h6) else (zr none 3 190 228 [zm_A 146, zm_I x1, zm_I x2, zm_I x3, w4] [] h6))) else (zr none 3 190 228 [zm_A 146, zm_I x1, zm_I x2, zm_I x3, w4] [] h4))) else (zr none 3 190 228 [zm_A 146, zm_I x1, zm_I x2, zm_I x3, w4] [] h2))) else (zr none 3 190 285 [zm_A 146, zm_I x1, zm_I x2, zm_I x3, w4] [] h)))) (zr none 3 190 188 [zm_A 146, zm_I x1, zm_I x2, zm_I x3, w4] [] h) := by
  refine zl_tr (r_iload_n d_190_188 rfl) ?_
  refine zl_tr (r_if_eq (tgt := 285) d_190_189 (by decide)) (zl_if ?_ ?_)
  · skip
    exact zl_rf
  · skip
    refine zl_tr (r_aload_n d_190_192 rfl) ?_
    refine zl_tr (r_getR d_190_193 ow_190 f_12_121 la_146 (by decide) fr_146_36) ?_
    refine zl_tr (r_iload_n d_190_196 rfl) ?_
    refine zl_tr (r_iaload d_190_197 la_168) (zl_ck ?_)
    refine zl_tr (r_if_ne (tgt := 285) d_190_198 (by decide)) (zl_if ?_ ?_)
    · skip
      refine zl_tr (r_aload_n d_190_201 rfl) ?_
      refine zl_tr (r_bipush d_190_202 (by decide)) ?_
      refine zl_tr (r_VI [zm_A 146, zm_I 60] d_190_204 ow_190 cal_12_271 na_187 rfl rfl (Nat.le_of_ble_eq_true rfl) (by rw [rk_187]; decide) (zr_rcv la_146 ow_187) (zr_im mx_187 rfl (Nat.le_of_ble_eq_true rfl)) (by rw [rt_187]; decide)) (zl_I (fun v1 h2 => ?_))
      refine zl_tr (r_if_ne (tgt := 228) d_190_207 (by decide)) (zl_if ?_ ?_)
      · skip
        refine zl_tr (r_aload_n d_190_210 rfl) ?_
        refine zl_tr (r_bipush d_190_211 (by decide)) ?_
        refine zl_tr (r_VI [zm_A 146, zm_I 62] d_190_213 ow_190 cal_12_271 na_187 rfl rfl (Nat.le_of_ble_eq_true rfl) (by rw [rk_187]; decide) (zr_rcv la_146 ow_187) (zr_im mx_187 rfl (Nat.le_of_ble_eq_true rfl)) (by rw [rt_187]; decide)) (zl_I (fun v3 h4 => ?_))
        refine zl_tr (r_if_ne (tgt := 228) d_190_216 (by decide)) (zl_if ?_ ?_)
        · skip
          refine zl_tr (r_aload_n d_190_219 rfl) ?_
          refine zl_tr (r_bipush d_190_220 (by decide)) ?_
          refine zl_tr (r_VI [zm_A 146, zm_I 61] d_190_222 ow_190 cal_12_271 na_187 rfl rfl (Nat.le_of_ble_eq_true rfl) (by rw [rk_187]; decide) (zr_rcv la_146 ow_187) (zr_im mx_187 rfl (Nat.le_of_ble_eq_true rfl)) (by rw [rt_187]; decide)) (zl_I (fun v5 h6 => ?_))
          refine zl_tr (r_if_eq (tgt := 285) d_190_225 (by decide)) (zl_if ?_ ?_)
          · skip
            exact zl_rf
          · skip
            exact zl_rf
        · skip
          exact zl_rf
      · skip
        exact zl_rf
    · skip
      exact zl_rf
-- BranTubModel.goesOn, from 87
set_option maxRecDepth 20000 in
theorem e_190_87 {h : zm_H} {w1 : zm_V} {w2 : zm_V} {w3 : zm_V} {w4 : zm_V} : zl (zk_I (zc 187 [zm_A 146, zm_I 43] h) (fun v1 h2 => if v1 = 0 then (zk_I (zc 187 [zm_A 146, zm_I 45] h2) (fun v3 h4 => if v3 = 0 then (zk_V (zc 191 [zm_A 146, zm_I 6] h4) (fun h5 => zk_I (zc 187 [zm_A 146, zm_I 43] h5) (fun v6 h7 => if v6 = 0 then (zk_I (zc 187 [zm_A 146, zm_I 45] h7) (fun v8 h9 => if v8 = 0 then (zk_I (zc 187 [zm_A 146, zm_I 42] h9) (fun v10 h11 => if v10 = 0 then (zk_I (zc 187 [zm_A 146, zm_I 47] h11) (fun v12 h13 => if v12 = 0 then (zk_V (zc 186 [zm_A 146, zm_I 14] h13) (fun h14 => zk_V (zc 159 [zm_A 146] h14) (fun h15 => zm_ck (zm_bit 0) (zm_ck (zm_bit 1) (some (zm_I 1, (zm_wr h15 146 44 0))))))) else (zk_V (zc 186 [zm_A 146, zm_I 13] h13) (fun h16 => zk_V (zc 159 [zm_A 146] h16) (fun h17 => zm_ck (zm_bit 0) (zm_ck (zm_bit 1) (some (zm_I 1, (zm_wr h17 146 44 0))))))))) else (zk_V (zc 186 [zm_A 146, zm_I 12] h11) (fun h18 => zk_V (zc 159 [zm_A 146] h18) (fun h19 => zm_ck (zm_bit 0) (zm_ck (zm_bit 1) (some (zm_I 1, (zm_wr h19 146 44 0))))))))) else (zk_V (zc 186 [zm_A 146, zm_I 11] h9) (fun h20 => zk_V (zc 159 [zm_A 146] h20) (fun h21 => zm_ck (zm_bit 0) (zm_ck (zm_bit 1) (some (zm_I 1, (zm_wr h21 146 44 0))))))))) else (zk_V (zc 186 [zm_A 146, zm_I 10] h7) (fun h22 => zk_V (zc 159 [zm_A 146] h22) (fun h23 => zm_ck (zm_bit 0) (zm_ck (zm_bit 1) (some (zm_I 1, (zm_wr h23 146 44 0)))))))))) else (zk_V (zc 191 [zm_A 146, zm_I 5] h4) (fun h24 => zk_I (zc 187 [zm_A 146, zm_I 43] h24) (fun v25 h26 => if v25 = 0 then (zk_I (zc 187 [zm_A 146, zm_I 45] h26) (fun v27 h28 => if v27 = 0 then (zk_I (zc 187 [zm_A 146, zm_I 42] h28) (fun v29 h30 => if v29 = 0 then (zk_I (zc 187 [zm_A 146, zm_I 47] h30) (fun v31 h32 => if v31 = 0 then (zk_V (zc 186 [zm_A 146, zm_I 14] h32) (fun h33 => zk_V (zc 159 [zm_A 146] h33) (fun h34 => zm_ck (zm_bit 0) (zm_ck (zm_bit 1) (some (zm_I 1, (zm_wr h34 146 44 0))))))) else (zk_V (zc 186 [zm_A 146, zm_I 13] h32) (fun h35 => zk_V (zc 159 [zm_A 146] h35) (fun h36 => zm_ck (zm_bit 0) (zm_ck (zm_bit 1) (some (zm_I 1, (zm_wr h36 146 44 0))))))))) else (zk_V (zc 186 [zm_A 146, zm_I 12] h30) (fun h37 => zk_V (zc 159 [zm_A 146] h37) (fun h38 => zm_ck (zm_bit 0) (zm_ck (zm_bit 1) (some (zm_I 1, (zm_wr h38 146 44 0))))))))) else (zk_V (zc 186 [zm_A 146, zm_I 11] h28) (fun h39 => zk_V (zc 159 [zm_A 146] h39) (fun h40 => zm_ck (zm_bit 0) (zm_ck (zm_bit 1) (some (zm_I 1, (zm_wr h40 146 44 0))))))))) else (zk_V (zc 186 [zm_A 146, zm_I 10] h26) (fun h41 => zk_V (zc 159 [zm_A 146] h41) (fun h42 => zm_ck (zm_bit 0) (zm_ck (zm_bit 1) (some (zm_I 1, (zm_wr h42 146 44 0)))))))))))) else (zk_V (zc 191 [zm_A 146, zm_I 5] h2) (fun h43 => zk_I (zc 187 [zm_A 146, zm_I 43] h43) (fun v44 h45 => if v44 = 0 then (zk_I (zc 187 [zm_A 146, zm_I 45] h45) (fun v46 h47 => if v46 = 0 then (zk_I (zc 187 [zm_A 146, zm_I 42] h47) (fun v48 h49 => if v48 = 0 then (zk_I (zc 187 [zm_A 146, zm_I 47] h49) (fun v50 h51 => if v50 = 0 then (zk_V (zc 186 [zm_A 146, zm_I 14] h51) (fun h52 => zk_V (zc 159 [zm_A 146] h52) (fun h53 => zm_ck (zm_bit 0) (zm_ck (zm_bit 1) (some (zm_I 1, (zm_wr h53 146 44 0))))))) else (zk_V (zc 186 [zm_A 146, zm_I 13] h51) (fun h54 => zk_V (zc 159 [zm_A 146] h54) (fun h55 => zm_ck (zm_bit 0) (zm_ck (zm_bit 1) (some (zm_I 1, (zm_wr h55 146 44 0))))))))) else (zk_V (zc 186 [zm_A 146, zm_I 12] h49) (fun h56 => zk_V (zc 159 [zm_A 146] h56) (fun h57 => zm_ck (zm_bit 0) (zm_ck (zm_bit 1) (some (zm_I 1, (zm_wr h57 146 44 0))))))))) else (zk_V (zc 186 [zm_A 146, zm_I 11] h47) (fun h58 => zk_V (zc 159 [zm_A 146] h58) (fun h59 => zm_ck (zm_bit 0) (zm_ck (zm_bit 1) (some (zm_I 1, (zm_wr h59 146 44 0))))))))) else (zk_V (zc 186 [zm_A 146, zm_I 10] h45) (fun h60 => zk_V (zc 159 [zm_A 146] h60) (fun h61 => zm_ck (zm_bit 0) (zm_ck (zm_bit 1) (some (zm_I 1, (zm_wr h61 146 44 0)))))))))))) (zr none 3 190 87 [zm_A 146, w1, w2, w3, w4] [] h) := by
  refine zl_tr (r_aload_n d_190_87 rfl) ?_
  refine zl_tr (r_aload_n d_190_88 rfl) ?_
  refine zl_tr (r_bipush d_190_89 (by decide)) ?_
  refine zl_tr (r_VI [zm_A 146, zm_I 43] d_190_91 ow_190 cal_12_271 na_187 rfl rfl (Nat.le_of_ble_eq_true rfl) (by rw [rk_187]; decide) (zr_rcv la_146 ow_187) (zr_im mx_187 rfl (Nat.le_of_ble_eq_true rfl)) (by rw [rt_187]; decide)) (zl_I (fun v1 h2 => ?_))
  refine zl_tr (r_if_ne (tgt := 106) d_190_94 (by decide)) (zl_if ?_ ?_)
  · skip
    refine zl_tr (r_aload_n d_190_97 rfl) ?_
    refine zl_tr (r_bipush d_190_98 (by decide)) ?_
    refine zl_tr (r_VI [zm_A 146, zm_I 45] d_190_100 ow_190 cal_12_271 na_187 rfl rfl (Nat.le_of_ble_eq_true rfl) (by rw [rk_187]; decide) (zr_rcv la_146 ow_187) (zr_im mx_187 rfl (Nat.le_of_ble_eq_true rfl)) (by rw [rt_187]; decide)) (zl_I (fun v3 h4 => ?_))
    refine zl_tr (r_if_eq (tgt := 110) d_190_103 (by decide)) (zl_if ?_ ?_)
    · skip
      refine zl_tr (r_bipush d_190_110 (by decide)) ?_
      refine zl_tr (r_VV [zm_A 146, zm_I 6] d_190_112 ow_190 cal_12_361 na_191 rfl rfl (Nat.le_of_ble_eq_true rfl) (by rw [rk_191]; decide) (zr_rcv la_146 ow_191) (zr_im mx_191 rfl (Nat.le_of_ble_eq_true rfl)) rt_191) (zl_V (fun h5 => ?_))
      refine zl_tr (r_aload_n d_190_115 rfl) ?_
      refine zl_tr (r_aload_n d_190_116 rfl) ?_
      refine zl_tr (r_bipush d_190_117 (by decide)) ?_
      refine zl_tr (r_VI [zm_A 146, zm_I 43] d_190_119 ow_190 cal_12_271 na_187 rfl rfl (Nat.le_of_ble_eq_true rfl) (by rw [rk_187]; decide) (zr_rcv la_146 ow_187) (zr_im mx_187 rfl (Nat.le_of_ble_eq_true rfl)) (by rw [rt_187]; decide)) (zl_I (fun v6 h7 => ?_))
      refine zl_tr (r_if_eq (tgt := 130) d_190_122 (by decide)) (zl_if ?_ ?_)
      · skip
        refine zl_tr (r_aload_n d_190_130 rfl) ?_
        refine zl_tr (r_bipush d_190_131 (by decide)) ?_
        refine zl_tr (r_VI [zm_A 146, zm_I 45] d_190_133 ow_190 cal_12_271 na_187 rfl rfl (Nat.le_of_ble_eq_true rfl) (by rw [rk_187]; decide) (zr_rcv la_146 ow_187) (zr_im mx_187 rfl (Nat.le_of_ble_eq_true rfl)) (by rw [rt_187]; decide)) (zl_I (fun v8 h9 => ?_))
        refine zl_tr (r_if_eq (tgt := 144) d_190_136 (by decide)) (zl_if ?_ ?_)
        · skip
          refine zl_tr (r_aload_n d_190_144 rfl) ?_
          refine zl_tr (r_bipush d_190_145 (by decide)) ?_
          refine zl_tr (r_VI [zm_A 146, zm_I 42] d_190_147 ow_190 cal_12_271 na_187 rfl rfl (Nat.le_of_ble_eq_true rfl) (by rw [rk_187]; decide) (zr_rcv la_146 ow_187) (zr_im mx_187 rfl (Nat.le_of_ble_eq_true rfl)) (by rw [rt_187]; decide)) (zl_I (fun v10 h11 => ?_))
          refine zl_tr (r_if_eq (tgt := 158) d_190_150 (by decide)) (zl_if ?_ ?_)
          · skip
            refine zl_tr (r_aload_n d_190_158 rfl) ?_
            refine zl_tr (r_bipush d_190_159 (by decide)) ?_
            refine zl_tr (r_VI [zm_A 146, zm_I 47] d_190_161 ow_190 cal_12_271 na_187 rfl rfl (Nat.le_of_ble_eq_true rfl) (by rw [rk_187]; decide) (zr_rcv la_146 ow_187) (zr_im mx_187 rfl (Nat.le_of_ble_eq_true rfl)) (by rw [rt_187]; decide)) (zl_I (fun v12 h13 => ?_))
            refine zl_tr (r_if_eq (tgt := 172) d_190_164 (by decide)) (zl_if ?_ ?_)
            · skip
              refine zl_tr (r_bipush d_190_172 (by decide)) ?_
              refine zl_tr (r_VV [zm_A 146, zm_I 14] d_190_174 ow_190 cal_12_355 na_186 rfl rfl (Nat.le_of_ble_eq_true rfl) (by rw [rk_186]; decide) (zr_rcv la_146 ow_186) (zr_im mx_186 rfl (Nat.le_of_ble_eq_true rfl)) rt_186) (zl_V (fun h14 => ?_))
              refine zl_tr (r_aload_n d_190_177 rfl) ?_
              refine zl_tr (r_VV [zm_A 146] d_190_178 ow_190 cal_12_274 na_159 rfl rfl (Nat.le_of_ble_eq_true rfl) (by rw [rk_159]; decide) (zr_rcv la_146 ow_159) (zr_im mx_159 rfl (Nat.le_of_ble_eq_true rfl)) rt_159) (zl_V (fun h15 => ?_))
              refine zl_tr (r_aload_n d_190_181 rfl) ?_
              refine zl_tr (r_iconst d_190_182 (by decide)) ?_
              refine zl_tr (r_putZ (kk := 44) d_190_183 ow_190 f_12_146 la_146 (by decide) rfl) (zl_ck ?_)
              refine zl_tr (r_iconst d_190_186 (by decide)) ?_
              exact r_zret d_190_187 rt_190
            · skip
              refine zl_tr (r_bipush d_190_167 (by decide)) ?_
              refine zl_tr (r_goto (tgt := 174) d_190_169 (by decide)) ?_
              refine zl_tr (r_VV [zm_A 146, zm_I 13] d_190_174 ow_190 cal_12_355 na_186 rfl rfl (Nat.le_of_ble_eq_true rfl) (by rw [rk_186]; decide) (zr_rcv la_146 ow_186) (zr_im mx_186 rfl (Nat.le_of_ble_eq_true rfl)) rt_186) (zl_V (fun h16 => ?_))
              refine zl_tr (r_aload_n d_190_177 rfl) ?_
              refine zl_tr (r_VV [zm_A 146] d_190_178 ow_190 cal_12_274 na_159 rfl rfl (Nat.le_of_ble_eq_true rfl) (by rw [rk_159]; decide) (zr_rcv la_146 ow_159) (zr_im mx_159 rfl (Nat.le_of_ble_eq_true rfl)) rt_159) (zl_V (fun h17 => ?_))
              refine zl_tr (r_aload_n d_190_181 rfl) ?_
              refine zl_tr (r_iconst d_190_182 (by decide)) ?_
              refine zl_tr (r_putZ (kk := 44) d_190_183 ow_190 f_12_146 la_146 (by decide) rfl) (zl_ck ?_)
              refine zl_tr (r_iconst d_190_186 (by decide)) ?_
              exact r_zret d_190_187 rt_190
          · skip
            refine zl_tr (r_bipush d_190_153 (by decide)) ?_
            refine zl_tr (r_goto (tgt := 174) d_190_155 (by decide)) ?_
            refine zl_tr (r_VV [zm_A 146, zm_I 12] d_190_174 ow_190 cal_12_355 na_186 rfl rfl (Nat.le_of_ble_eq_true rfl) (by rw [rk_186]; decide) (zr_rcv la_146 ow_186) (zr_im mx_186 rfl (Nat.le_of_ble_eq_true rfl)) rt_186) (zl_V (fun h18 => ?_))
            refine zl_tr (r_aload_n d_190_177 rfl) ?_
            refine zl_tr (r_VV [zm_A 146] d_190_178 ow_190 cal_12_274 na_159 rfl rfl (Nat.le_of_ble_eq_true rfl) (by rw [rk_159]; decide) (zr_rcv la_146 ow_159) (zr_im mx_159 rfl (Nat.le_of_ble_eq_true rfl)) rt_159) (zl_V (fun h19 => ?_))
            refine zl_tr (r_aload_n d_190_181 rfl) ?_
            refine zl_tr (r_iconst d_190_182 (by decide)) ?_
            refine zl_tr (r_putZ (kk := 44) d_190_183 ow_190 f_12_146 la_146 (by decide) rfl) (zl_ck ?_)
            refine zl_tr (r_iconst d_190_186 (by decide)) ?_
            exact r_zret d_190_187 rt_190
        · skip
          refine zl_tr (r_bipush d_190_139 (by decide)) ?_
          refine zl_tr (r_goto (tgt := 174) d_190_141 (by decide)) ?_
          refine zl_tr (r_VV [zm_A 146, zm_I 11] d_190_174 ow_190 cal_12_355 na_186 rfl rfl (Nat.le_of_ble_eq_true rfl) (by rw [rk_186]; decide) (zr_rcv la_146 ow_186) (zr_im mx_186 rfl (Nat.le_of_ble_eq_true rfl)) rt_186) (zl_V (fun h20 => ?_))
          refine zl_tr (r_aload_n d_190_177 rfl) ?_
          refine zl_tr (r_VV [zm_A 146] d_190_178 ow_190 cal_12_274 na_159 rfl rfl (Nat.le_of_ble_eq_true rfl) (by rw [rk_159]; decide) (zr_rcv la_146 ow_159) (zr_im mx_159 rfl (Nat.le_of_ble_eq_true rfl)) rt_159) (zl_V (fun h21 => ?_))
          refine zl_tr (r_aload_n d_190_181 rfl) ?_
          refine zl_tr (r_iconst d_190_182 (by decide)) ?_
          refine zl_tr (r_putZ (kk := 44) d_190_183 ow_190 f_12_146 la_146 (by decide) rfl) (zl_ck ?_)
          refine zl_tr (r_iconst d_190_186 (by decide)) ?_
          exact r_zret d_190_187 rt_190
      · skip
        refine zl_tr (r_bipush d_190_125 (by decide)) ?_
        refine zl_tr (r_goto (tgt := 174) d_190_127 (by decide)) ?_
        refine zl_tr (r_VV [zm_A 146, zm_I 10] d_190_174 ow_190 cal_12_355 na_186 rfl rfl (Nat.le_of_ble_eq_true rfl) (by rw [rk_186]; decide) (zr_rcv la_146 ow_186) (zr_im mx_186 rfl (Nat.le_of_ble_eq_true rfl)) rt_186) (zl_V (fun h22 => ?_))
        refine zl_tr (r_aload_n d_190_177 rfl) ?_
        refine zl_tr (r_VV [zm_A 146] d_190_178 ow_190 cal_12_274 na_159 rfl rfl (Nat.le_of_ble_eq_true rfl) (by rw [rk_159]; decide) (zr_rcv la_146 ow_159) (zr_im mx_159 rfl (Nat.le_of_ble_eq_true rfl)) rt_159) (zl_V (fun h23 => ?_))
        refine zl_tr (r_aload_n d_190_181 rfl) ?_
        refine zl_tr (r_iconst d_190_182 (by decide)) ?_
        refine zl_tr (r_putZ (kk := 44) d_190_183 ow_190 f_12_146 la_146 (by decide) rfl) (zl_ck ?_)
        refine zl_tr (r_iconst d_190_186 (by decide)) ?_
        exact r_zret d_190_187 rt_190
    · skip
      refine zl_tr (r_iconst d_190_106 (by decide)) ?_
      refine zl_tr (r_goto (tgt := 112) d_190_107 (by decide)) ?_
      refine zl_tr (r_VV [zm_A 146, zm_I 5] d_190_112 ow_190 cal_12_361 na_191 rfl rfl (Nat.le_of_ble_eq_true rfl) (by rw [rk_191]; decide) (zr_rcv la_146 ow_191) (zr_im mx_191 rfl (Nat.le_of_ble_eq_true rfl)) rt_191) (zl_V (fun h24 => ?_))
      refine zl_tr (r_aload_n d_190_115 rfl) ?_
      refine zl_tr (r_aload_n d_190_116 rfl) ?_
      refine zl_tr (r_bipush d_190_117 (by decide)) ?_
      refine zl_tr (r_VI [zm_A 146, zm_I 43] d_190_119 ow_190 cal_12_271 na_187 rfl rfl (Nat.le_of_ble_eq_true rfl) (by rw [rk_187]; decide) (zr_rcv la_146 ow_187) (zr_im mx_187 rfl (Nat.le_of_ble_eq_true rfl)) (by rw [rt_187]; decide)) (zl_I (fun v25 h26 => ?_))
      refine zl_tr (r_if_eq (tgt := 130) d_190_122 (by decide)) (zl_if ?_ ?_)
      · skip
        refine zl_tr (r_aload_n d_190_130 rfl) ?_
        refine zl_tr (r_bipush d_190_131 (by decide)) ?_
        refine zl_tr (r_VI [zm_A 146, zm_I 45] d_190_133 ow_190 cal_12_271 na_187 rfl rfl (Nat.le_of_ble_eq_true rfl) (by rw [rk_187]; decide) (zr_rcv la_146 ow_187) (zr_im mx_187 rfl (Nat.le_of_ble_eq_true rfl)) (by rw [rt_187]; decide)) (zl_I (fun v27 h28 => ?_))
        refine zl_tr (r_if_eq (tgt := 144) d_190_136 (by decide)) (zl_if ?_ ?_)
        · skip
          refine zl_tr (r_aload_n d_190_144 rfl) ?_
          refine zl_tr (r_bipush d_190_145 (by decide)) ?_
          refine zl_tr (r_VI [zm_A 146, zm_I 42] d_190_147 ow_190 cal_12_271 na_187 rfl rfl (Nat.le_of_ble_eq_true rfl) (by rw [rk_187]; decide) (zr_rcv la_146 ow_187) (zr_im mx_187 rfl (Nat.le_of_ble_eq_true rfl)) (by rw [rt_187]; decide)) (zl_I (fun v29 h30 => ?_))
          refine zl_tr (r_if_eq (tgt := 158) d_190_150 (by decide)) (zl_if ?_ ?_)
          · skip
            refine zl_tr (r_aload_n d_190_158 rfl) ?_
            refine zl_tr (r_bipush d_190_159 (by decide)) ?_
            refine zl_tr (r_VI [zm_A 146, zm_I 47] d_190_161 ow_190 cal_12_271 na_187 rfl rfl (Nat.le_of_ble_eq_true rfl) (by rw [rk_187]; decide) (zr_rcv la_146 ow_187) (zr_im mx_187 rfl (Nat.le_of_ble_eq_true rfl)) (by rw [rt_187]; decide)) (zl_I (fun v31 h32 => ?_))
            refine zl_tr (r_if_eq (tgt := 172) d_190_164 (by decide)) (zl_if ?_ ?_)
            · skip
              refine zl_tr (r_bipush d_190_172 (by decide)) ?_
              refine zl_tr (r_VV [zm_A 146, zm_I 14] d_190_174 ow_190 cal_12_355 na_186 rfl rfl (Nat.le_of_ble_eq_true rfl) (by rw [rk_186]; decide) (zr_rcv la_146 ow_186) (zr_im mx_186 rfl (Nat.le_of_ble_eq_true rfl)) rt_186) (zl_V (fun h33 => ?_))
              refine zl_tr (r_aload_n d_190_177 rfl) ?_
              refine zl_tr (r_VV [zm_A 146] d_190_178 ow_190 cal_12_274 na_159 rfl rfl (Nat.le_of_ble_eq_true rfl) (by rw [rk_159]; decide) (zr_rcv la_146 ow_159) (zr_im mx_159 rfl (Nat.le_of_ble_eq_true rfl)) rt_159) (zl_V (fun h34 => ?_))
              refine zl_tr (r_aload_n d_190_181 rfl) ?_
              refine zl_tr (r_iconst d_190_182 (by decide)) ?_
              refine zl_tr (r_putZ (kk := 44) d_190_183 ow_190 f_12_146 la_146 (by decide) rfl) (zl_ck ?_)
              refine zl_tr (r_iconst d_190_186 (by decide)) ?_
              exact r_zret d_190_187 rt_190
            · skip
              refine zl_tr (r_bipush d_190_167 (by decide)) ?_
              refine zl_tr (r_goto (tgt := 174) d_190_169 (by decide)) ?_
              refine zl_tr (r_VV [zm_A 146, zm_I 13] d_190_174 ow_190 cal_12_355 na_186 rfl rfl (Nat.le_of_ble_eq_true rfl) (by rw [rk_186]; decide) (zr_rcv la_146 ow_186) (zr_im mx_186 rfl (Nat.le_of_ble_eq_true rfl)) rt_186) (zl_V (fun h35 => ?_))
              refine zl_tr (r_aload_n d_190_177 rfl) ?_
              refine zl_tr (r_VV [zm_A 146] d_190_178 ow_190 cal_12_274 na_159 rfl rfl (Nat.le_of_ble_eq_true rfl) (by rw [rk_159]; decide) (zr_rcv la_146 ow_159) (zr_im mx_159 rfl (Nat.le_of_ble_eq_true rfl)) rt_159) (zl_V (fun h36 => ?_))
              refine zl_tr (r_aload_n d_190_181 rfl) ?_
              refine zl_tr (r_iconst d_190_182 (by decide)) ?_
              refine zl_tr (r_putZ (kk := 44) d_190_183 ow_190 f_12_146 la_146 (by decide) rfl) (zl_ck ?_)
              refine zl_tr (r_iconst d_190_186 (by decide)) ?_
              exact r_zret d_190_187 rt_190
          · skip
            refine zl_tr (r_bipush d_190_153 (by decide)) ?_
            refine zl_tr (r_goto (tgt := 174) d_190_155 (by decide)) ?_
            refine zl_tr (r_VV [zm_A 146, zm_I 12] d_190_174 ow_190 cal_12_355 na_186 rfl rfl (Nat.le_of_ble_eq_true rfl) (by rw [rk_186]; decide) (zr_rcv la_146 ow_186) (zr_im mx_186 rfl (Nat.le_of_ble_eq_true rfl)) rt_186) (zl_V (fun h37 => ?_))
            refine zl_tr (r_aload_n d_190_177 rfl) ?_
            refine zl_tr (r_VV [zm_A 146] d_190_178 ow_190 cal_12_274 na_159 rfl rfl (Nat.le_of_ble_eq_true rfl) (by rw [rk_159]; decide) (zr_rcv la_146 ow_159) (zr_im mx_159 rfl (Nat.le_of_ble_eq_true rfl)) rt_159) (zl_V (fun h38 => ?_))
            refine zl_tr (r_aload_n d_190_181 rfl) ?_
            refine zl_tr (r_iconst d_190_182 (by decide)) ?_
            refine zl_tr (r_putZ (kk := 44) d_190_183 ow_190 f_12_146 la_146 (by decide) rfl) (zl_ck ?_)
            refine zl_tr (r_iconst d_190_186 (by decide)) ?_
            exact r_zret d_190_187 rt_190
        · skip
          refine zl_tr (r_bipush d_190_139 (by decide)) ?_
          refine zl_tr (r_goto (tgt := 174) d_190_141 (by decide)) ?_
          refine zl_tr (r_VV [zm_A 146, zm_I 11] d_190_174 ow_190 cal_12_355 na_186 rfl rfl (Nat.le_of_ble_eq_true rfl) (by rw [rk_186]; decide) (zr_rcv la_146 ow_186) (zr_im mx_186 rfl (Nat.le_of_ble_eq_true rfl)) rt_186) (zl_V (fun h39 => ?_))
          refine zl_tr (r_aload_n d_190_177 rfl) ?_
          refine zl_tr (r_VV [zm_A 146] d_190_178 ow_190 cal_12_274 na_159 rfl rfl (Nat.le_of_ble_eq_true rfl) (by rw [rk_159]; decide) (zr_rcv la_146 ow_159) (zr_im mx_159 rfl (Nat.le_of_ble_eq_true rfl)) rt_159) (zl_V (fun h40 => ?_))
          refine zl_tr (r_aload_n d_190_181 rfl) ?_
          refine zl_tr (r_iconst d_190_182 (by decide)) ?_
          refine zl_tr (r_putZ (kk := 44) d_190_183 ow_190 f_12_146 la_146 (by decide) rfl) (zl_ck ?_)
          refine zl_tr (r_iconst d_190_186 (by decide)) ?_
          exact r_zret d_190_187 rt_190
      · skip
        refine zl_tr (r_bipush d_190_125 (by decide)) ?_
        refine zl_tr (r_goto (tgt := 174) d_190_127 (by decide)) ?_
        refine zl_tr (r_VV [zm_A 146, zm_I 10] d_190_174 ow_190 cal_12_355 na_186 rfl rfl (Nat.le_of_ble_eq_true rfl) (by rw [rk_186]; decide) (zr_rcv la_146 ow_186) (zr_im mx_186 rfl (Nat.le_of_ble_eq_true rfl)) rt_186) (zl_V (fun h41 => ?_))
        refine zl_tr (r_aload_n d_190_177 rfl) ?_
        refine zl_tr (r_VV [zm_A 146] d_190_178 ow_190 cal_12_274 na_159 rfl rfl (Nat.le_of_ble_eq_true rfl) (by rw [rk_159]; decide) (zr_rcv la_146 ow_159) (zr_im mx_159 rfl (Nat.le_of_ble_eq_true rfl)) rt_159) (zl_V (fun h42 => ?_))
        refine zl_tr (r_aload_n d_190_181 rfl) ?_
        refine zl_tr (r_iconst d_190_182 (by decide)) ?_
        refine zl_tr (r_putZ (kk := 44) d_190_183 ow_190 f_12_146 la_146 (by decide) rfl) (zl_ck ?_)
        refine zl_tr (r_iconst d_190_186 (by decide)) ?_
        exact r_zret d_190_187 rt_190
  · skip
    refine zl_tr (r_iconst d_190_106 (by decide)) ?_
    refine zl_tr (r_goto (tgt := 112) d_190_107 (by decide)) ?_
    refine zl_tr (r_VV [zm_A 146, zm_I 5] d_190_112 ow_190 cal_12_361 na_191 rfl rfl (Nat.le_of_ble_eq_true rfl) (by rw [rk_191]; decide) (zr_rcv la_146 ow_191) (zr_im mx_191 rfl (Nat.le_of_ble_eq_true rfl)) rt_191) (zl_V (fun h43 => ?_))
    refine zl_tr (r_aload_n d_190_115 rfl) ?_
    refine zl_tr (r_aload_n d_190_116 rfl) ?_
    refine zl_tr (r_bipush d_190_117 (by decide)) ?_
    refine zl_tr (r_VI [zm_A 146, zm_I 43] d_190_119 ow_190 cal_12_271 na_187 rfl rfl (Nat.le_of_ble_eq_true rfl) (by rw [rk_187]; decide) (zr_rcv la_146 ow_187) (zr_im mx_187 rfl (Nat.le_of_ble_eq_true rfl)) (by rw [rt_187]; decide)) (zl_I (fun v44 h45 => ?_))
    refine zl_tr (r_if_eq (tgt := 130) d_190_122 (by decide)) (zl_if ?_ ?_)
    · skip
      refine zl_tr (r_aload_n d_190_130 rfl) ?_
      refine zl_tr (r_bipush d_190_131 (by decide)) ?_
      refine zl_tr (r_VI [zm_A 146, zm_I 45] d_190_133 ow_190 cal_12_271 na_187 rfl rfl (Nat.le_of_ble_eq_true rfl) (by rw [rk_187]; decide) (zr_rcv la_146 ow_187) (zr_im mx_187 rfl (Nat.le_of_ble_eq_true rfl)) (by rw [rt_187]; decide)) (zl_I (fun v46 h47 => ?_))
      refine zl_tr (r_if_eq (tgt := 144) d_190_136 (by decide)) (zl_if ?_ ?_)
      · skip
        refine zl_tr (r_aload_n d_190_144 rfl) ?_
        refine zl_tr (r_bipush d_190_145 (by decide)) ?_
        refine zl_tr (r_VI [zm_A 146, zm_I 42] d_190_147 ow_190 cal_12_271 na_187 rfl rfl (Nat.le_of_ble_eq_true rfl) (by rw [rk_187]; decide) (zr_rcv la_146 ow_187) (zr_im mx_187 rfl (Nat.le_of_ble_eq_true rfl)) (by rw [rt_187]; decide)) (zl_I (fun v48 h49 => ?_))
        refine zl_tr (r_if_eq (tgt := 158) d_190_150 (by decide)) (zl_if ?_ ?_)
        · skip
          refine zl_tr (r_aload_n d_190_158 rfl) ?_
          refine zl_tr (r_bipush d_190_159 (by decide)) ?_
          refine zl_tr (r_VI [zm_A 146, zm_I 47] d_190_161 ow_190 cal_12_271 na_187 rfl rfl (Nat.le_of_ble_eq_true rfl) (by rw [rk_187]; decide) (zr_rcv la_146 ow_187) (zr_im mx_187 rfl (Nat.le_of_ble_eq_true rfl)) (by rw [rt_187]; decide)) (zl_I (fun v50 h51 => ?_))
          refine zl_tr (r_if_eq (tgt := 172) d_190_164 (by decide)) (zl_if ?_ ?_)
          · skip
            refine zl_tr (r_bipush d_190_172 (by decide)) ?_
            refine zl_tr (r_VV [zm_A 146, zm_I 14] d_190_174 ow_190 cal_12_355 na_186 rfl rfl (Nat.le_of_ble_eq_true rfl) (by rw [rk_186]; decide) (zr_rcv la_146 ow_186) (zr_im mx_186 rfl (Nat.le_of_ble_eq_true rfl)) rt_186) (zl_V (fun h52 => ?_))
            refine zl_tr (r_aload_n d_190_177 rfl) ?_
            refine zl_tr (r_VV [zm_A 146] d_190_178 ow_190 cal_12_274 na_159 rfl rfl (Nat.le_of_ble_eq_true rfl) (by rw [rk_159]; decide) (zr_rcv la_146 ow_159) (zr_im mx_159 rfl (Nat.le_of_ble_eq_true rfl)) rt_159) (zl_V (fun h53 => ?_))
            refine zl_tr (r_aload_n d_190_181 rfl) ?_
            refine zl_tr (r_iconst d_190_182 (by decide)) ?_
            refine zl_tr (r_putZ (kk := 44) d_190_183 ow_190 f_12_146 la_146 (by decide) rfl) (zl_ck ?_)
            refine zl_tr (r_iconst d_190_186 (by decide)) ?_
            exact r_zret d_190_187 rt_190
          · skip
            refine zl_tr (r_bipush d_190_167 (by decide)) ?_
            refine zl_tr (r_goto (tgt := 174) d_190_169 (by decide)) ?_
            refine zl_tr (r_VV [zm_A 146, zm_I 13] d_190_174 ow_190 cal_12_355 na_186 rfl rfl (Nat.le_of_ble_eq_true rfl) (by rw [rk_186]; decide) (zr_rcv la_146 ow_186) (zr_im mx_186 rfl (Nat.le_of_ble_eq_true rfl)) rt_186) (zl_V (fun h54 => ?_))
            refine zl_tr (r_aload_n d_190_177 rfl) ?_
            refine zl_tr (r_VV [zm_A 146] d_190_178 ow_190 cal_12_274 na_159 rfl rfl (Nat.le_of_ble_eq_true rfl) (by rw [rk_159]; decide) (zr_rcv la_146 ow_159) (zr_im mx_159 rfl (Nat.le_of_ble_eq_true rfl)) rt_159) (zl_V (fun h55 => ?_))
            refine zl_tr (r_aload_n d_190_181 rfl) ?_
            refine zl_tr (r_iconst d_190_182 (by decide)) ?_
            refine zl_tr (r_putZ (kk := 44) d_190_183 ow_190 f_12_146 la_146 (by decide) rfl) (zl_ck ?_)
            refine zl_tr (r_iconst d_190_186 (by decide)) ?_
            exact r_zret d_190_187 rt_190
        · skip
          refine zl_tr (r_bipush d_190_153 (by decide)) ?_
          refine zl_tr (r_goto (tgt := 174) d_190_155 (by decide)) ?_
          refine zl_tr (r_VV [zm_A 146, zm_I 12] d_190_174 ow_190 cal_12_355 na_186 rfl rfl (Nat.le_of_ble_eq_true rfl) (by rw [rk_186]; decide) (zr_rcv la_146 ow_186) (zr_im mx_186 rfl (Nat.le_of_ble_eq_true rfl)) rt_186) (zl_V (fun h56 => ?_))
          refine zl_tr (r_aload_n d_190_177 rfl) ?_
          refine zl_tr (r_VV [zm_A 146] d_190_178 ow_190 cal_12_274 na_159 rfl rfl (Nat.le_of_ble_eq_true rfl) (by rw [rk_159]; decide) (zr_rcv la_146 ow_159) (zr_im mx_159 rfl (Nat.le_of_ble_eq_true rfl)) rt_159) (zl_V (fun h57 => ?_))
          refine zl_tr (r_aload_n d_190_181 rfl) ?_
          refine zl_tr (r_iconst d_190_182 (by decide)) ?_
          refine zl_tr (r_putZ (kk := 44) d_190_183 ow_190 f_12_146 la_146 (by decide) rfl) (zl_ck ?_)
          refine zl_tr (r_iconst d_190_186 (by decide)) ?_
          exact r_zret d_190_187 rt_190
      · skip
        refine zl_tr (r_bipush d_190_139 (by decide)) ?_
        refine zl_tr (r_goto (tgt := 174) d_190_141 (by decide)) ?_
        refine zl_tr (r_VV [zm_A 146, zm_I 11] d_190_174 ow_190 cal_12_355 na_186 rfl rfl (Nat.le_of_ble_eq_true rfl) (by rw [rk_186]; decide) (zr_rcv la_146 ow_186) (zr_im mx_186 rfl (Nat.le_of_ble_eq_true rfl)) rt_186) (zl_V (fun h58 => ?_))
        refine zl_tr (r_aload_n d_190_177 rfl) ?_
        refine zl_tr (r_VV [zm_A 146] d_190_178 ow_190 cal_12_274 na_159 rfl rfl (Nat.le_of_ble_eq_true rfl) (by rw [rk_159]; decide) (zr_rcv la_146 ow_159) (zr_im mx_159 rfl (Nat.le_of_ble_eq_true rfl)) rt_159) (zl_V (fun h59 => ?_))
        refine zl_tr (r_aload_n d_190_181 rfl) ?_
        refine zl_tr (r_iconst d_190_182 (by decide)) ?_
        refine zl_tr (r_putZ (kk := 44) d_190_183 ow_190 f_12_146 la_146 (by decide) rfl) (zl_ck ?_)
        refine zl_tr (r_iconst d_190_186 (by decide)) ?_
        exact r_zret d_190_187 rt_190
    · skip
      refine zl_tr (r_bipush d_190_125 (by decide)) ?_
      refine zl_tr (r_goto (tgt := 174) d_190_127 (by decide)) ?_
      refine zl_tr (r_VV [zm_A 146, zm_I 10] d_190_174 ow_190 cal_12_355 na_186 rfl rfl (Nat.le_of_ble_eq_true rfl) (by rw [rk_186]; decide) (zr_rcv la_146 ow_186) (zr_im mx_186 rfl (Nat.le_of_ble_eq_true rfl)) rt_186) (zl_V (fun h60 => ?_))
      refine zl_tr (r_aload_n d_190_177 rfl) ?_
      refine zl_tr (r_VV [zm_A 146] d_190_178 ow_190 cal_12_274 na_159 rfl rfl (Nat.le_of_ble_eq_true rfl) (by rw [rk_159]; decide) (zr_rcv la_146 ow_159) (zr_im mx_159 rfl (Nat.le_of_ble_eq_true rfl)) rt_159) (zl_V (fun h61 => ?_))
      refine zl_tr (r_aload_n d_190_181 rfl) ?_
      refine zl_tr (r_iconst d_190_182 (by decide)) ?_
      refine zl_tr (r_putZ (kk := 44) d_190_183 ow_190 f_12_146 la_146 (by decide) rfl) (zl_ck ?_)
      refine zl_tr (r_iconst d_190_186 (by decide)) ?_
      exact r_zret d_190_187 rt_190
-- BranTubModel.goesOn, from 285
set_option maxRecDepth 20000 in
theorem e_190_285 {h : zm_H} {x1 : Int} {x2 : Int} {x3 : Int} {w4 : zm_V} : zl (if x3 = 0 then (zr none 3 190 400 [zm_A 146, zm_I x1, zm_I x2, zm_I x3, w4] [] h) else (zk_I (zc 165 [zm_A 146, zm_L 6385252] h) (fun v1 h2 => if v1 = 0 then (zk_I (zc 165 [zm_A 146, zm_L 28530] h2) (fun v3 h4 => if v3 = 0 then (zr none 3 190 400 [zm_A 146, zm_I x1, zm_I x2, zm_I x3, w4] [] h4) else (zr none 3 190 309 [zm_A 146, zm_I x1, zm_I x2, zm_I x3, w4] [] h4))) else (zr none 3 190 309 [zm_A 146, zm_I x1, zm_I x2, zm_I x3, w4] [] h2)))) (zr none 3 190 285 [zm_A 146, zm_I x1, zm_I x2, zm_I x3, w4] [] h) := by
  refine zl_tr (r_iload_n d_190_285 rfl) ?_
  refine zl_tr (r_if_eq (tgt := 400) d_190_286 (by decide)) (zl_if ?_ ?_)
  · skip
    exact zl_rf
  · skip
    refine zl_tr (r_aload_n d_190_289 rfl) ?_
    refine zl_tr (r_ldc2 d_190_290 ow_190 lng_12_317) ?_
    refine zl_tr (r_VI [zm_A 146, zm_L 6385252] d_190_293 ow_190 cal_12_351 na_165 rfl rfl (Nat.le_of_ble_eq_true rfl) (by rw [rk_165]; decide) (zr_rcv la_146 ow_165) (zr_im mx_165 rfl (Nat.le_of_ble_eq_true rfl)) (by rw [rt_165]; decide)) (zl_I (fun v1 h2 => ?_))
    refine zl_tr (r_if_ne (tgt := 309) d_190_296 (by decide)) (zl_if ?_ ?_)
    · skip
      refine zl_tr (r_aload_n d_190_299 rfl) ?_
      refine zl_tr (r_ldc2 d_190_300 ow_190 lng_12_315) ?_
      refine zl_tr (r_VI [zm_A 146, zm_L 28530] d_190_303 ow_190 cal_12_351 na_165 rfl rfl (Nat.le_of_ble_eq_true rfl) (by rw [rk_165]; decide) (zr_rcv la_146 ow_165) (zr_im mx_165 rfl (Nat.le_of_ble_eq_true rfl)) (by rw [rt_165]; decide)) (zl_I (fun v3 h4 => ?_))
      refine zl_tr (r_if_eq (tgt := 400) d_190_306 (by decide)) (zl_if ?_ ?_)
      · skip
        exact zl_rf
      · skip
        exact zl_rf
    · skip
      exact zl_rf
-- BranTubModel.goesOn, from 228
set_option maxRecDepth 20000 in
theorem e_190_228 {h : zm_H} {x1 : Int} {w2 : zm_V} {w3 : zm_V} {w4 : zm_V} : zl (zk_V (zc 191 [zm_A 146, zm_I 5] h) (fun h1 => zk_I (zc 187 [zm_A 146, zm_I 60] h1) (fun v2 h3 => if v2 = 0 then (zk_I (zc 187 [zm_A 146, zm_I 62] h3) (fun v4 h5 => if v4 = 0 then (zk_V (zc 186 [zm_A 146, zm_I 19] h5) (fun h6 => zm_ck (0 ≤ x1 ∧ x1 < ((20 : Nat) : Int)) (zk_V (zc 159 [zm_A 146] (zm_wr h6 168 x1 1)) (fun h7 => zm_ck (zm_bit 0) (zm_ck (zm_bit 1) (some (zm_I 1, (zm_wr h7 146 44 0)))))))) else (zk_V (zc 186 [zm_A 146, zm_I 18] h5) (fun h8 => zm_ck (0 ≤ x1 ∧ x1 < ((20 : Nat) : Int)) (zk_V (zc 159 [zm_A 146] (zm_wr h8 168 x1 1)) (fun h9 => zm_ck (zm_bit 0) (zm_ck (zm_bit 1) (some (zm_I 1, (zm_wr h9 146 44 0)))))))))) else (zk_V (zc 186 [zm_A 146, zm_I 17] h3) (fun h10 => zm_ck (0 ≤ x1 ∧ x1 < ((20 : Nat) : Int)) (zk_V (zc 159 [zm_A 146] (zm_wr h10 168 x1 1)) (fun h11 => zm_ck (zm_bit 0) (zm_ck (zm_bit 1) (some (zm_I 1, (zm_wr h11 146 44 0))))))))))) (zr none 3 190 228 [zm_A 146, zm_I x1, w2, w3, w4] [] h) := by
  refine zl_tr (r_aload_n d_190_228 rfl) ?_
  refine zl_tr (r_iconst d_190_229 (by decide)) ?_
  refine zl_tr (r_VV [zm_A 146, zm_I 5] d_190_230 ow_190 cal_12_361 na_191 rfl rfl (Nat.le_of_ble_eq_true rfl) (by rw [rk_191]; decide) (zr_rcv la_146 ow_191) (zr_im mx_191 rfl (Nat.le_of_ble_eq_true rfl)) rt_191) (zl_V (fun h1 => ?_))
  refine zl_tr (r_aload_n d_190_233 rfl) ?_
  refine zl_tr (r_aload_n d_190_234 rfl) ?_
  refine zl_tr (r_bipush d_190_235 (by decide)) ?_
  refine zl_tr (r_VI [zm_A 146, zm_I 60] d_190_237 ow_190 cal_12_271 na_187 rfl rfl (Nat.le_of_ble_eq_true rfl) (by rw [rk_187]; decide) (zr_rcv la_146 ow_187) (zr_im mx_187 rfl (Nat.le_of_ble_eq_true rfl)) (by rw [rt_187]; decide)) (zl_I (fun v2 h3 => ?_))
  refine zl_tr (r_if_eq (tgt := 248) d_190_240 (by decide)) (zl_if ?_ ?_)
  · skip
    refine zl_tr (r_aload_n d_190_248 rfl) ?_
    refine zl_tr (r_bipush d_190_249 (by decide)) ?_
    refine zl_tr (r_VI [zm_A 146, zm_I 62] d_190_251 ow_190 cal_12_271 na_187 rfl rfl (Nat.le_of_ble_eq_true rfl) (by rw [rk_187]; decide) (zr_rcv la_146 ow_187) (zr_im mx_187 rfl (Nat.le_of_ble_eq_true rfl)) (by rw [rt_187]; decide)) (zl_I (fun v4 h5 => ?_))
    refine zl_tr (r_if_eq (tgt := 262) d_190_254 (by decide)) (zl_if ?_ ?_)
    · skip
      refine zl_tr (r_bipush d_190_262 (by decide)) ?_
      refine zl_tr (r_VV [zm_A 146, zm_I 19] d_190_264 ow_190 cal_12_355 na_186 rfl rfl (Nat.le_of_ble_eq_true rfl) (by rw [rk_186]; decide) (zr_rcv la_146 ow_186) (zr_im mx_186 rfl (Nat.le_of_ble_eq_true rfl)) rt_186) (zl_V (fun h6 => ?_))
      refine zl_tr (r_aload_n d_190_267 rfl) ?_
      refine zl_tr (r_getR d_190_268 ow_190 f_12_121 la_146 (by decide) fr_146_36) ?_
      refine zl_tr (r_iload_n d_190_271 rfl) ?_
      refine zl_tr (r_iconst d_190_272 (by decide)) ?_
      refine zl_tr (r_iastore d_190_273 la_168) (zl_ck ?_)
      refine zl_tr (r_aload_n d_190_274 rfl) ?_
      refine zl_tr (r_VV [zm_A 146] d_190_275 ow_190 cal_12_274 na_159 rfl rfl (Nat.le_of_ble_eq_true rfl) (by rw [rk_159]; decide) (zr_rcv la_146 ow_159) (zr_im mx_159 rfl (Nat.le_of_ble_eq_true rfl)) rt_159) (zl_V (fun h7 => ?_))
      refine zl_tr (r_aload_n d_190_278 rfl) ?_
      refine zl_tr (r_iconst d_190_279 (by decide)) ?_
      refine zl_tr (r_putZ (kk := 44) d_190_280 ow_190 f_12_146 la_146 (by decide) rfl) (zl_ck ?_)
      refine zl_tr (r_iconst d_190_283 (by decide)) ?_
      exact r_zret d_190_284 rt_190
    · skip
      refine zl_tr (r_bipush d_190_257 (by decide)) ?_
      refine zl_tr (r_goto (tgt := 264) d_190_259 (by decide)) ?_
      refine zl_tr (r_VV [zm_A 146, zm_I 18] d_190_264 ow_190 cal_12_355 na_186 rfl rfl (Nat.le_of_ble_eq_true rfl) (by rw [rk_186]; decide) (zr_rcv la_146 ow_186) (zr_im mx_186 rfl (Nat.le_of_ble_eq_true rfl)) rt_186) (zl_V (fun h8 => ?_))
      refine zl_tr (r_aload_n d_190_267 rfl) ?_
      refine zl_tr (r_getR d_190_268 ow_190 f_12_121 la_146 (by decide) fr_146_36) ?_
      refine zl_tr (r_iload_n d_190_271 rfl) ?_
      refine zl_tr (r_iconst d_190_272 (by decide)) ?_
      refine zl_tr (r_iastore d_190_273 la_168) (zl_ck ?_)
      refine zl_tr (r_aload_n d_190_274 rfl) ?_
      refine zl_tr (r_VV [zm_A 146] d_190_275 ow_190 cal_12_274 na_159 rfl rfl (Nat.le_of_ble_eq_true rfl) (by rw [rk_159]; decide) (zr_rcv la_146 ow_159) (zr_im mx_159 rfl (Nat.le_of_ble_eq_true rfl)) rt_159) (zl_V (fun h9 => ?_))
      refine zl_tr (r_aload_n d_190_278 rfl) ?_
      refine zl_tr (r_iconst d_190_279 (by decide)) ?_
      refine zl_tr (r_putZ (kk := 44) d_190_280 ow_190 f_12_146 la_146 (by decide) rfl) (zl_ck ?_)
      refine zl_tr (r_iconst d_190_283 (by decide)) ?_
      exact r_zret d_190_284 rt_190
  · skip
    refine zl_tr (r_bipush d_190_243 (by decide)) ?_
    refine zl_tr (r_goto (tgt := 264) d_190_245 (by decide)) ?_
    refine zl_tr (r_VV [zm_A 146, zm_I 17] d_190_264 ow_190 cal_12_355 na_186 rfl rfl (Nat.le_of_ble_eq_true rfl) (by rw [rk_186]; decide) (zr_rcv la_146 ow_186) (zr_im mx_186 rfl (Nat.le_of_ble_eq_true rfl)) rt_186) (zl_V (fun h10 => ?_))
    refine zl_tr (r_aload_n d_190_267 rfl) ?_
    refine zl_tr (r_getR d_190_268 ow_190 f_12_121 la_146 (by decide) fr_146_36) ?_
    refine zl_tr (r_iload_n d_190_271 rfl) ?_
    refine zl_tr (r_iconst d_190_272 (by decide)) ?_
    refine zl_tr (r_iastore d_190_273 la_168) (zl_ck ?_)
    refine zl_tr (r_aload_n d_190_274 rfl) ?_
    refine zl_tr (r_VV [zm_A 146] d_190_275 ow_190 cal_12_274 na_159 rfl rfl (Nat.le_of_ble_eq_true rfl) (by rw [rk_159]; decide) (zr_rcv la_146 ow_159) (zr_im mx_159 rfl (Nat.le_of_ble_eq_true rfl)) rt_159) (zl_V (fun h11 => ?_))
    refine zl_tr (r_aload_n d_190_278 rfl) ?_
    refine zl_tr (r_iconst d_190_279 (by decide)) ?_
    refine zl_tr (r_putZ (kk := 44) d_190_280 ow_190 f_12_146 la_146 (by decide) rfl) (zl_ck ?_)
    refine zl_tr (r_iconst d_190_283 (by decide)) ?_
    exact r_zret d_190_284 rt_190
-- BranTubModel.goesOn, from 400
set_option maxRecDepth 20000 in
theorem e_190_400 {h : zm_H} {x1 : Int} {x2 : Int} {x3 : Int} {w4 : zm_V} : zl (if x3 = 0 then (zr none 3 190 422 [zm_A 146, zm_I x1, zm_I x2, zm_I x3, w4] [] h) else (zm_ck (0 ≤ x1 ∧ x1 < ((20 : Nat) : Int)) (if (h 168 x1) = 0 then (zk_V (zc 164 [zm_A 146, zm_I 1, zm_I (h 146 4)] h) (fun h1 => zr none 3 190 422 [zm_A 146, zm_I x1, zm_I x2, zm_I x3, w4] [] h1)) else (zr none 3 190 422 [zm_A 146, zm_I x1, zm_I x2, zm_I x3, w4] [] h)))) (zr none 3 190 400 [zm_A 146, zm_I x1, zm_I x2, zm_I x3, w4] [] h) := by
  refine zl_tr (r_iload_n d_190_400 rfl) ?_
  refine zl_tr (r_if_eq (tgt := 422) d_190_401 (by decide)) (zl_if ?_ ?_)
  · skip
    exact zl_rf
  · skip
    refine zl_tr (r_aload_n d_190_404 rfl) ?_
    refine zl_tr (r_getR d_190_405 ow_190 f_12_121 la_146 (by decide) fr_146_36) ?_
    refine zl_tr (r_iload_n d_190_408 rfl) ?_
    refine zl_tr (r_iaload d_190_409 la_168) (zl_ck ?_)
    refine zl_tr (r_if_ne (tgt := 422) d_190_410 (by decide)) (zl_if ?_ ?_)
    · skip
      refine zl_tr (r_aload_n d_190_413 rfl) ?_
      refine zl_tr (r_iconst d_190_414 (by decide)) ?_
      refine zl_tr (r_aload_n d_190_415 rfl) ?_
      refine zl_tr (r_getI (kk := 4) d_190_416 ow_190 f_12_23 la_146 (by decide) rfl) ?_
      refine zl_tr (r_VV [zm_A 146, zm_I 1, zm_I (h 146 4)] d_190_419 ow_190 cal_12_257 na_164 rfl rfl (Nat.le_of_ble_eq_true rfl) (by rw [rk_164]; decide) (zr_rcv la_146 ow_164) (zr_im mx_164 rfl (Nat.le_of_ble_eq_true rfl)) rt_164) (zl_V (fun h1 => ?_))
      exact zl_rf
    · skip
      exact zl_rf
-- BranTubModel.goesOn, from 309
set_option maxRecDepth 20000 in
theorem e_190_309 {h : zm_H} {x1 : Int} {w2 : zm_V} {w3 : zm_V} {w4 : zm_V} : zl (zm_ck (0 ≤ x1 ∧ x1 < ((20 : Nat) : Int)) (if (h 168 x1) = 0 then (zk_V (zc 164 [zm_A 146, zm_I 1, zm_I (h 146 4)] h) (fun h1 => zr none 3 190 327 [zm_A 146, zm_I x1, w2, w3, w4] [] h1)) else (zr none 3 190 327 [zm_A 146, zm_I x1, w2, w3, w4] [] h))) (zr none 3 190 309 [zm_A 146, zm_I x1, w2, w3, w4] [] h) := by
  refine zl_tr (r_aload_n d_190_309 rfl) ?_
  refine zl_tr (r_getR d_190_310 ow_190 f_12_121 la_146 (by decide) fr_146_36) ?_
  refine zl_tr (r_iload_n d_190_313 rfl) ?_
  refine zl_tr (r_iaload d_190_314 la_168) (zl_ck ?_)
  refine zl_tr (r_if_ne (tgt := 327) d_190_315 (by decide)) (zl_if ?_ ?_)
  · skip
    refine zl_tr (r_aload_n d_190_318 rfl) ?_
    refine zl_tr (r_iconst d_190_319 (by decide)) ?_
    refine zl_tr (r_aload_n d_190_320 rfl) ?_
    refine zl_tr (r_getI (kk := 4) d_190_321 ow_190 f_12_23 la_146 (by decide) rfl) ?_
    refine zl_tr (r_VV [zm_A 146, zm_I 1, zm_I (h 146 4)] d_190_324 ow_190 cal_12_257 na_164 rfl rfl (Nat.le_of_ble_eq_true rfl) (by rw [rk_164]; decide) (zr_rcv la_146 ow_164) (zr_im mx_164 rfl (Nat.le_of_ble_eq_true rfl)) rt_164) (zl_V (fun h1 => ?_))
    exact zl_rf
  · skip
    exact zl_rf
-- BranTubModel.goesOn, from 422
set_option maxRecDepth 20000 in
theorem e_190_422 {h : zm_H} {x1 : Int} {x2 : Int} {w3 : zm_V} {w4 : zm_V} : zl (if x2 < 2 then (if (h 146 8) = 0 then (zk_V (zc 191 [zm_A 146, zm_I 1] h) (fun h1 => zm_ck (zm_bit 0) (some (zm_I 0, h1)))) else (zm_ck (zm_bit 0) (some (zm_I 0, h)))) else (if x2 = 3 then (zk_I (zc 187 [zm_A 146, zm_I 44] h) (fun v2 h3 => if v2 = 0 then (zk_V (zc 164 [zm_A 146, zm_I 1, zm_I (h3 146 4)] h3) (fun h4 => zr none 3 190 464 [zm_A 146, zm_I x1, zm_I x2, w3, w4] [] h4)) else (zr none 3 190 464 [zm_A 146, zm_I x1, zm_I x2, w3, w4] [] h3))) else (if x2 = 5 then (zk_I (zc 187 [zm_A 146, zm_I 93] h) (fun v5 h6 => if v5 = 0 then (zk_V (zc 164 [zm_A 146, zm_I 1, zm_I (h6 146 4)] h6) (fun h7 => zr none 3 190 524 [zm_A 146, zm_I x1, zm_I x2, w3, w4] [] h7)) else (zr none 3 190 524 [zm_A 146, zm_I x1, zm_I x2, w3, w4] [] h6))) else (zk_I (zc 187 [zm_A 146, zm_I 41] h) (fun v8 h9 => if v8 = 0 then (zk_V (zc 164 [zm_A 146, zm_I 1, zm_I (h9 146 4)] h9) (fun h10 => zr none 3 190 524 [zm_A 146, zm_I x1, zm_I x2, w3, w4] [] h10)) else (zr none 3 190 524 [zm_A 146, zm_I x1, zm_I x2, w3, w4] [] h9)))))) (zr none 3 190 422 [zm_A 146, zm_I x1, zm_I x2, w3, w4] [] h) := by
  refine zl_tr (r_iload_n d_190_422 rfl) ?_
  refine zl_tr (r_iconst d_190_423 (by decide)) ?_
  refine zl_tr (r_icmp_ge (tgt := 441) d_190_424 (by decide)) (zl_if ?_ ?_)
  · skip
    refine zl_tr (r_aload_n d_190_427 rfl) ?_
    refine zl_tr (r_getI (kk := 8) d_190_428 ow_190 f_12_36 la_146 (by decide) rfl) ?_
    refine zl_tr (r_if_ne (tgt := 439) d_190_431 (by decide)) (zl_if ?_ ?_)
    · skip
      refine zl_tr (r_aload_n d_190_434 rfl) ?_
      refine zl_tr (r_iconst d_190_435 (by decide)) ?_
      refine zl_tr (r_VV [zm_A 146, zm_I 1] d_190_436 ow_190 cal_12_361 na_191 rfl rfl (Nat.le_of_ble_eq_true rfl) (by rw [rk_191]; decide) (zr_rcv la_146 ow_191) (zr_im mx_191 rfl (Nat.le_of_ble_eq_true rfl)) rt_191) (zl_V (fun h1 => ?_))
      refine zl_tr (r_iconst d_190_439 (by decide)) ?_
      exact r_zret d_190_440 rt_190
    · skip
      refine zl_tr (r_iconst d_190_439 (by decide)) ?_
      exact r_zret d_190_440 rt_190
  · skip
    refine zl_tr (r_iload_n d_190_441 rfl) ?_
    refine zl_tr (r_iconst d_190_442 (by decide)) ?_
    refine zl_tr (r_icmp_ne (tgt := 496) d_190_443 (by decide)) (zl_if ?_ ?_)
    · skip
      refine zl_tr (r_aload_n d_190_446 rfl) ?_
      refine zl_tr (r_bipush d_190_447 (by decide)) ?_
      refine zl_tr (r_VI [zm_A 146, zm_I 44] d_190_449 ow_190 cal_12_271 na_187 rfl rfl (Nat.le_of_ble_eq_true rfl) (by rw [rk_187]; decide) (zr_rcv la_146 ow_187) (zr_im mx_187 rfl (Nat.le_of_ble_eq_true rfl)) (by rw [rt_187]; decide)) (zl_I (fun v2 h3 => ?_))
      refine zl_tr (r_if_ne (tgt := 464) d_190_452 (by decide)) (zl_if ?_ ?_)
      · skip
        refine zl_tr (r_aload_n d_190_455 rfl) ?_
        refine zl_tr (r_iconst d_190_456 (by decide)) ?_
        refine zl_tr (r_aload_n d_190_457 rfl) ?_
        refine zl_tr (r_getI (kk := 4) d_190_458 ow_190 f_12_23 la_146 (by decide) rfl) ?_
        refine zl_tr (r_VV [zm_A 146, zm_I 1, zm_I (h3 146 4)] d_190_461 ow_190 cal_12_257 na_164 rfl rfl (Nat.le_of_ble_eq_true rfl) (by rw [rk_164]; decide) (zr_rcv la_146 ow_164) (zr_im mx_164 rfl (Nat.le_of_ble_eq_true rfl)) rt_164) (zl_V (fun h4 => ?_))
        exact zl_rf
      · skip
        exact zl_rf
    · skip
      refine zl_tr (r_aload_n d_190_496 rfl) ?_
      refine zl_tr (r_iload_n d_190_497 rfl) ?_
      refine zl_tr (r_iconst d_190_498 (by decide)) ?_
      refine zl_tr (r_icmp_ne (tgt := 507) d_190_499 (by decide)) (zl_if ?_ ?_)
      · skip
        refine zl_tr (r_bipush d_190_502 (by decide)) ?_
        refine zl_tr (r_goto (tgt := 509) d_190_504 (by decide)) ?_
        refine zl_tr (r_VI [zm_A 146, zm_I 93] d_190_509 ow_190 cal_12_271 na_187 rfl rfl (Nat.le_of_ble_eq_true rfl) (by rw [rk_187]; decide) (zr_rcv la_146 ow_187) (zr_im mx_187 rfl (Nat.le_of_ble_eq_true rfl)) (by rw [rt_187]; decide)) (zl_I (fun v5 h6 => ?_))
        refine zl_tr (r_if_ne (tgt := 524) d_190_512 (by decide)) (zl_if ?_ ?_)
        · skip
          refine zl_tr (r_aload_n d_190_515 rfl) ?_
          refine zl_tr (r_iconst d_190_516 (by decide)) ?_
          refine zl_tr (r_aload_n d_190_517 rfl) ?_
          refine zl_tr (r_getI (kk := 4) d_190_518 ow_190 f_12_23 la_146 (by decide) rfl) ?_
          refine zl_tr (r_VV [zm_A 146, zm_I 1, zm_I (h6 146 4)] d_190_521 ow_190 cal_12_257 na_164 rfl rfl (Nat.le_of_ble_eq_true rfl) (by rw [rk_164]; decide) (zr_rcv la_146 ow_164) (zr_im mx_164 rfl (Nat.le_of_ble_eq_true rfl)) rt_164) (zl_V (fun h7 => ?_))
          exact zl_rf
        · skip
          exact zl_rf
      · skip
        refine zl_tr (r_bipush d_190_507 (by decide)) ?_
        refine zl_tr (r_VI [zm_A 146, zm_I 41] d_190_509 ow_190 cal_12_271 na_187 rfl rfl (Nat.le_of_ble_eq_true rfl) (by rw [rk_187]; decide) (zr_rcv la_146 ow_187) (zr_im mx_187 rfl (Nat.le_of_ble_eq_true rfl)) (by rw [rt_187]; decide)) (zl_I (fun v8 h9 => ?_))
        refine zl_tr (r_if_ne (tgt := 524) d_190_512 (by decide)) (zl_if ?_ ?_)
        · skip
          refine zl_tr (r_aload_n d_190_515 rfl) ?_
          refine zl_tr (r_iconst d_190_516 (by decide)) ?_
          refine zl_tr (r_aload_n d_190_517 rfl) ?_
          refine zl_tr (r_getI (kk := 4) d_190_518 ow_190 f_12_23 la_146 (by decide) rfl) ?_
          refine zl_tr (r_VV [zm_A 146, zm_I 1, zm_I (h9 146 4)] d_190_521 ow_190 cal_12_257 na_164 rfl rfl (Nat.le_of_ble_eq_true rfl) (by rw [rk_164]; decide) (zr_rcv la_146 ow_164) (zr_im mx_164 rfl (Nat.le_of_ble_eq_true rfl)) rt_164) (zl_V (fun h10 => ?_))
          exact zl_rf
        · skip
          exact zl_rf
-- BranTubModel.goesOn, from 327
set_option maxRecDepth 20000 in
theorem e_190_327 {h : zm_H} {x1 : Int} {w2 : zm_V} {w3 : zm_V} {w4 : zm_V} (hw3 : zm_cat w3 ≠ 2) : zl (if (h 146 8) ≤ 0 then (zk_I (zc 165 [zm_A 146, zm_L 6385252] h) (fun v1 h2 => if v1 = 0 then (zk_V (zc 191 [zm_A 146, zm_I 1] h2) (fun h3 => if v1 = 0 then (zk_V (zc 186 [zm_A 146, zm_I 21] h3) (fun h4 => zm_ck (0 ≤ x1 ∧ x1 < ((20 : Nat) : Int)) (zm_ck ((0 ≤ x1 ∧ x1 < ((20 : Nat) : Int)) ∧ zm_bit 1) (zk_V (zc 159 [zm_A 146] (zm_wr (zm_wr h4 168 x1 0) 169 x1 1)) (fun h5 => zm_ck (zm_bit 0) (zm_ck (zm_bit 1) (some (zm_I 1, (zm_wr h5 146 44 0))))))))) else (zk_V (zc 186 [zm_A 146, zm_I 20] h3) (fun h6 => zm_ck (0 ≤ x1 ∧ x1 < ((20 : Nat) : Int)) (zm_ck ((0 ≤ x1 ∧ x1 < ((20 : Nat) : Int)) ∧ zm_bit 1) (zk_V (zc 159 [zm_A 146] (zm_wr (zm_wr h6 168 x1 0) 169 x1 1)) (fun h7 => zm_ck (zm_bit 0) (zm_ck (zm_bit 1) (some (zm_I 1, (zm_wr h7 146 44 0))))))))))) else (zk_V (zc 191 [zm_A 146, zm_I 2] h2) (fun h8 => if v1 = 0 then (zk_V (zc 186 [zm_A 146, zm_I 21] h8) (fun h9 => zm_ck (0 ≤ x1 ∧ x1 < ((20 : Nat) : Int)) (zm_ck ((0 ≤ x1 ∧ x1 < ((20 : Nat) : Int)) ∧ zm_bit 1) (zk_V (zc 159 [zm_A 146] (zm_wr (zm_wr h9 168 x1 0) 169 x1 1)) (fun h10 => zm_ck (zm_bit 0) (zm_ck (zm_bit 1) (some (zm_I 1, (zm_wr h10 146 44 0))))))))) else (zk_V (zc 186 [zm_A 146, zm_I 20] h8) (fun h11 => zm_ck (0 ≤ x1 ∧ x1 < ((20 : Nat) : Int)) (zm_ck ((0 ≤ x1 ∧ x1 < ((20 : Nat) : Int)) ∧ zm_bit 1) (zk_V (zc 159 [zm_A 146] (zm_wr (zm_wr h11 168 x1 0) 169 x1 1)) (fun h12 => zm_ck (zm_bit 0) (zm_ck (zm_bit 1) (some (zm_I 1, (zm_wr h12 146 44 0))))))))))))) else (zm_ck (zm_bit 0) (some (zm_I 0, h)))) (zr none 3 190 327 [zm_A 146, zm_I x1, w2, w3, w4] [] h) := by
  refine zl_tr (r_aload_n d_190_327 rfl) ?_
  refine zl_tr (r_getI (kk := 8) d_190_328 ow_190 f_12_36 la_146 (by decide) rfl) ?_
  refine zl_tr (r_if_le (tgt := 336) d_190_331 (by decide)) (zl_if ?_ ?_)
  · skip
    refine zl_tr (r_aload_n d_190_336 rfl) ?_
    refine zl_tr (r_ldc2 d_190_337 ow_190 lng_12_317) ?_
    refine zl_tr (r_VI [zm_A 146, zm_L 6385252] d_190_340 ow_190 cal_12_351 na_165 rfl rfl (Nat.le_of_ble_eq_true rfl) (by rw [rk_165]; decide) (zr_rcv la_146 ow_165) (zr_im mx_165 rfl (Nat.le_of_ble_eq_true rfl)) (by rw [rt_165]; decide)) (zl_I (fun v1 h2 => ?_))
    refine zl_tr (r_istore (loc' := [zm_A 146, zm_I x1, w2, w3, zm_I v1]) d_190_343 (Nat.le_of_ble_eq_true rfl) (zr_k1 rfl hw3 rfl)) ?_
    refine zl_tr (r_aload_n d_190_345 rfl) ?_
    refine zl_tr (r_iload d_190_346 rfl) ?_
    refine zl_tr (r_if_eq (tgt := 355) d_190_348 (by decide)) (zl_if ?_ ?_)
    · skip
      refine zl_tr (r_iconst d_190_355 (by decide)) ?_
      refine zl_tr (r_VV [zm_A 146, zm_I 1] d_190_356 ow_190 cal_12_361 na_191 rfl rfl (Nat.le_of_ble_eq_true rfl) (by rw [rk_191]; decide) (zr_rcv la_146 ow_191) (zr_im mx_191 rfl (Nat.le_of_ble_eq_true rfl)) rt_191) (zl_V (fun h3 => ?_))
      refine zl_tr (r_aload_n d_190_359 rfl) ?_
      refine zl_tr (r_iload d_190_360 rfl) ?_
      refine zl_tr (r_if_eq (tgt := 370) d_190_362 (by decide)) (zl_if ?_ ?_)
      · skip
        refine zl_tr (r_bipush d_190_370 (by decide)) ?_
        refine zl_tr (r_VV [zm_A 146, zm_I 21] d_190_372 ow_190 cal_12_355 na_186 rfl rfl (Nat.le_of_ble_eq_true rfl) (by rw [rk_186]; decide) (zr_rcv la_146 ow_186) (zr_im mx_186 rfl (Nat.le_of_ble_eq_true rfl)) rt_186) (zl_V (fun h4 => ?_))
        refine zl_tr (r_aload_n d_190_375 rfl) ?_
        refine zl_tr (r_getR d_190_376 ow_190 f_12_121 la_146 (by decide) fr_146_36) ?_
        refine zl_tr (r_iload_n d_190_379 rfl) ?_
        refine zl_tr (r_iconst d_190_380 (by decide)) ?_
        refine zl_tr (r_iastore d_190_381 la_168) (zl_ck ?_)
        refine zl_tr (r_aload_n d_190_382 rfl) ?_
        refine zl_tr (r_getR d_190_383 ow_190 f_12_124 la_146 (by decide) fr_146_37) ?_
        refine zl_tr (r_iload_n d_190_386 rfl) ?_
        refine zl_tr (r_iconst d_190_387 (by decide)) ?_
        refine zl_tr (r_bastore d_190_388 la_169) (zl_ck ?_)
        refine zl_tr (r_aload_n d_190_389 rfl) ?_
        refine zl_tr (r_VV [zm_A 146] d_190_390 ow_190 cal_12_274 na_159 rfl rfl (Nat.le_of_ble_eq_true rfl) (by rw [rk_159]; decide) (zr_rcv la_146 ow_159) (zr_im mx_159 rfl (Nat.le_of_ble_eq_true rfl)) rt_159) (zl_V (fun h5 => ?_))
        refine zl_tr (r_aload_n d_190_393 rfl) ?_
        refine zl_tr (r_iconst d_190_394 (by decide)) ?_
        refine zl_tr (r_putZ (kk := 44) d_190_395 ow_190 f_12_146 la_146 (by decide) rfl) (zl_ck ?_)
        refine zl_tr (r_iconst d_190_398 (by decide)) ?_
        exact r_zret d_190_399 rt_190
      · skip
        refine zl_tr (r_bipush d_190_365 (by decide)) ?_
        refine zl_tr (r_goto (tgt := 372) d_190_367 (by decide)) ?_
        refine zl_tr (r_VV [zm_A 146, zm_I 20] d_190_372 ow_190 cal_12_355 na_186 rfl rfl (Nat.le_of_ble_eq_true rfl) (by rw [rk_186]; decide) (zr_rcv la_146 ow_186) (zr_im mx_186 rfl (Nat.le_of_ble_eq_true rfl)) rt_186) (zl_V (fun h6 => ?_))
        refine zl_tr (r_aload_n d_190_375 rfl) ?_
        refine zl_tr (r_getR d_190_376 ow_190 f_12_121 la_146 (by decide) fr_146_36) ?_
        refine zl_tr (r_iload_n d_190_379 rfl) ?_
        refine zl_tr (r_iconst d_190_380 (by decide)) ?_
        refine zl_tr (r_iastore d_190_381 la_168) (zl_ck ?_)
        refine zl_tr (r_aload_n d_190_382 rfl) ?_
        refine zl_tr (r_getR d_190_383 ow_190 f_12_124 la_146 (by decide) fr_146_37) ?_
        refine zl_tr (r_iload_n d_190_386 rfl) ?_
        refine zl_tr (r_iconst d_190_387 (by decide)) ?_
        refine zl_tr (r_bastore d_190_388 la_169) (zl_ck ?_)
        refine zl_tr (r_aload_n d_190_389 rfl) ?_
        refine zl_tr (r_VV [zm_A 146] d_190_390 ow_190 cal_12_274 na_159 rfl rfl (Nat.le_of_ble_eq_true rfl) (by rw [rk_159]; decide) (zr_rcv la_146 ow_159) (zr_im mx_159 rfl (Nat.le_of_ble_eq_true rfl)) rt_159) (zl_V (fun h7 => ?_))
        refine zl_tr (r_aload_n d_190_393 rfl) ?_
        refine zl_tr (r_iconst d_190_394 (by decide)) ?_
        refine zl_tr (r_putZ (kk := 44) d_190_395 ow_190 f_12_146 la_146 (by decide) rfl) (zl_ck ?_)
        refine zl_tr (r_iconst d_190_398 (by decide)) ?_
        exact r_zret d_190_399 rt_190
    · skip
      refine zl_tr (r_iconst d_190_351 (by decide)) ?_
      refine zl_tr (r_goto (tgt := 356) d_190_352 (by decide)) ?_
      refine zl_tr (r_VV [zm_A 146, zm_I 2] d_190_356 ow_190 cal_12_361 na_191 rfl rfl (Nat.le_of_ble_eq_true rfl) (by rw [rk_191]; decide) (zr_rcv la_146 ow_191) (zr_im mx_191 rfl (Nat.le_of_ble_eq_true rfl)) rt_191) (zl_V (fun h8 => ?_))
      refine zl_tr (r_aload_n d_190_359 rfl) ?_
      refine zl_tr (r_iload d_190_360 rfl) ?_
      refine zl_tr (r_if_eq (tgt := 370) d_190_362 (by decide)) (zl_if ?_ ?_)
      · skip
        refine zl_tr (r_bipush d_190_370 (by decide)) ?_
        refine zl_tr (r_VV [zm_A 146, zm_I 21] d_190_372 ow_190 cal_12_355 na_186 rfl rfl (Nat.le_of_ble_eq_true rfl) (by rw [rk_186]; decide) (zr_rcv la_146 ow_186) (zr_im mx_186 rfl (Nat.le_of_ble_eq_true rfl)) rt_186) (zl_V (fun h9 => ?_))
        refine zl_tr (r_aload_n d_190_375 rfl) ?_
        refine zl_tr (r_getR d_190_376 ow_190 f_12_121 la_146 (by decide) fr_146_36) ?_
        refine zl_tr (r_iload_n d_190_379 rfl) ?_
        refine zl_tr (r_iconst d_190_380 (by decide)) ?_
        refine zl_tr (r_iastore d_190_381 la_168) (zl_ck ?_)
        refine zl_tr (r_aload_n d_190_382 rfl) ?_
        refine zl_tr (r_getR d_190_383 ow_190 f_12_124 la_146 (by decide) fr_146_37) ?_
        refine zl_tr (r_iload_n d_190_386 rfl) ?_
        refine zl_tr (r_iconst d_190_387 (by decide)) ?_
        refine zl_tr (r_bastore d_190_388 la_169) (zl_ck ?_)
        refine zl_tr (r_aload_n d_190_389 rfl) ?_
        refine zl_tr (r_VV [zm_A 146] d_190_390 ow_190 cal_12_274 na_159 rfl rfl (Nat.le_of_ble_eq_true rfl) (by rw [rk_159]; decide) (zr_rcv la_146 ow_159) (zr_im mx_159 rfl (Nat.le_of_ble_eq_true rfl)) rt_159) (zl_V (fun h10 => ?_))
        refine zl_tr (r_aload_n d_190_393 rfl) ?_
        refine zl_tr (r_iconst d_190_394 (by decide)) ?_
        refine zl_tr (r_putZ (kk := 44) d_190_395 ow_190 f_12_146 la_146 (by decide) rfl) (zl_ck ?_)
        refine zl_tr (r_iconst d_190_398 (by decide)) ?_
        exact r_zret d_190_399 rt_190
      · skip
        refine zl_tr (r_bipush d_190_365 (by decide)) ?_
        refine zl_tr (r_goto (tgt := 372) d_190_367 (by decide)) ?_
        refine zl_tr (r_VV [zm_A 146, zm_I 20] d_190_372 ow_190 cal_12_355 na_186 rfl rfl (Nat.le_of_ble_eq_true rfl) (by rw [rk_186]; decide) (zr_rcv la_146 ow_186) (zr_im mx_186 rfl (Nat.le_of_ble_eq_true rfl)) rt_186) (zl_V (fun h11 => ?_))
        refine zl_tr (r_aload_n d_190_375 rfl) ?_
        refine zl_tr (r_getR d_190_376 ow_190 f_12_121 la_146 (by decide) fr_146_36) ?_
        refine zl_tr (r_iload_n d_190_379 rfl) ?_
        refine zl_tr (r_iconst d_190_380 (by decide)) ?_
        refine zl_tr (r_iastore d_190_381 la_168) (zl_ck ?_)
        refine zl_tr (r_aload_n d_190_382 rfl) ?_
        refine zl_tr (r_getR d_190_383 ow_190 f_12_124 la_146 (by decide) fr_146_37) ?_
        refine zl_tr (r_iload_n d_190_386 rfl) ?_
        refine zl_tr (r_iconst d_190_387 (by decide)) ?_
        refine zl_tr (r_bastore d_190_388 la_169) (zl_ck ?_)
        refine zl_tr (r_aload_n d_190_389 rfl) ?_
        refine zl_tr (r_VV [zm_A 146] d_190_390 ow_190 cal_12_274 na_159 rfl rfl (Nat.le_of_ble_eq_true rfl) (by rw [rk_159]; decide) (zr_rcv la_146 ow_159) (zr_im mx_159 rfl (Nat.le_of_ble_eq_true rfl)) rt_159) (zl_V (fun h12 => ?_))
        refine zl_tr (r_aload_n d_190_393 rfl) ?_
        refine zl_tr (r_iconst d_190_394 (by decide)) ?_
        refine zl_tr (r_putZ (kk := 44) d_190_395 ow_190 f_12_146 la_146 (by decide) rfl) (zl_ck ?_)
        refine zl_tr (r_iconst d_190_398 (by decide)) ?_
        exact r_zret d_190_399 rt_190
  · skip
    refine zl_tr (r_iconst d_190_334 (by decide)) ?_
    exact r_zret d_190_335 rt_190
-- BranTubModel.goesOn, from 464
set_option maxRecDepth 20000 in
theorem e_190_464 {h : zm_H} {x1 : Int} {w2 : zm_V} {w3 : zm_V} {w4 : zm_V} : zl (if (h 146 8) ≤ 0 then (zk_V (zc 191 [zm_A 146, zm_I 1] h) (fun h1 => zm_ck (0 ≤ x1 ∧ x1 < ((20 : Nat) : Int)) (zk_V (zc 159 [zm_A 146] (zm_wr h1 167 x1 4)) (fun h2 => zm_ck (zm_bit 0) (zm_ck (zm_bit 1) (some (zm_I 1, (zm_wr h2 146 44 0)))))))) else (zm_ck (zm_bit 0) (some (zm_I 0, h)))) (zr none 3 190 464 [zm_A 146, zm_I x1, w2, w3, w4] [] h) := by
  refine zl_tr (r_aload_n d_190_464 rfl) ?_
  refine zl_tr (r_getI (kk := 8) d_190_465 ow_190 f_12_36 la_146 (by decide) rfl) ?_
  refine zl_tr (r_if_le (tgt := 473) d_190_468 (by decide)) (zl_if ?_ ?_)
  · skip
    refine zl_tr (r_aload_n d_190_473 rfl) ?_
    refine zl_tr (r_iconst d_190_474 (by decide)) ?_
    refine zl_tr (r_VV [zm_A 146, zm_I 1] d_190_475 ow_190 cal_12_361 na_191 rfl rfl (Nat.le_of_ble_eq_true rfl) (by rw [rk_191]; decide) (zr_rcv la_146 ow_191) (zr_im mx_191 rfl (Nat.le_of_ble_eq_true rfl)) rt_191) (zl_V (fun h1 => ?_))
    refine zl_tr (r_aload_n d_190_478 rfl) ?_
    refine zl_tr (r_getR d_190_479 ow_190 f_12_118 la_146 (by decide) fr_146_35) ?_
    refine zl_tr (r_iload_n d_190_482 rfl) ?_
    refine zl_tr (r_iconst d_190_483 (by decide)) ?_
    refine zl_tr (r_iastore d_190_484 la_167) (zl_ck ?_)
    refine zl_tr (r_aload_n d_190_485 rfl) ?_
    refine zl_tr (r_VV [zm_A 146] d_190_486 ow_190 cal_12_274 na_159 rfl rfl (Nat.le_of_ble_eq_true rfl) (by rw [rk_159]; decide) (zr_rcv la_146 ow_159) (zr_im mx_159 rfl (Nat.le_of_ble_eq_true rfl)) rt_159) (zl_V (fun h2 => ?_))
    refine zl_tr (r_aload_n d_190_489 rfl) ?_
    refine zl_tr (r_iconst d_190_490 (by decide)) ?_
    refine zl_tr (r_putZ (kk := 44) d_190_491 ow_190 f_12_146 la_146 (by decide) rfl) (zl_ck ?_)
    refine zl_tr (r_iconst d_190_494 (by decide)) ?_
    exact r_zret d_190_495 rt_190
  · skip
    refine zl_tr (r_iconst d_190_471 (by decide)) ?_
    exact r_zret d_190_472 rt_190
-- BranTubModel.goesOn, from 524
set_option maxRecDepth 20000 in
theorem e_190_524 {h : zm_H} {x1 : Int} {x2 : Int} {w3 : zm_V} {w4 : zm_V} : zl (if (h 146 8) ≤ 0 then (zk_V (zc 191 [zm_A 146, zm_I 1] h) (fun h1 => zm_ck (zm_i32 ((h1 146 40) - 1)) (zm_ck (zm_i32 (((zm_wr h1 146 40 ((h1 146 40) - 1)) 146 41) - 1)) (if x2 = 4 then (zm_ck (0 ≤ x1 ∧ x1 < ((20 : Nat) : Int)) (zk_V (zc 189 [zm_A 146, zm_I ((zm_wr (zm_wr h1 146 40 ((h1 146 40) - 1)) 146 41 (((zm_wr h1 146 40 ((h1 146 40) - 1)) 146 41) - 1)) 170 x1), zm_I 0] (zm_wr (zm_wr h1 146 40 ((h1 146 40) - 1)) 146 41 (((zm_wr h1 146 40 ((h1 146 40) - 1)) 146 41) - 1))) (fun h2 => zr none 3 190 574 [zm_A 146, zm_I x1, zm_I x2, w3, w4] [] h2))) else (zr none 3 190 574 [zm_A 146, zm_I x1, zm_I x2, w3, w4] [] (zm_wr (zm_wr h1 146 40 ((h1 146 40) - 1)) 146 41 (((zm_wr h1 146 40 ((h1 146 40) - 1)) 146 41) - 1))))))) else (zm_ck (zm_bit 0) (some (zm_I 0, h)))) (zr none 3 190 524 [zm_A 146, zm_I x1, zm_I x2, w3, w4] [] h) := by
  refine zl_tr (r_aload_n d_190_524 rfl) ?_
  refine zl_tr (r_getI (kk := 8) d_190_525 ow_190 f_12_36 la_146 (by decide) rfl) ?_
  refine zl_tr (r_if_le (tgt := 533) d_190_528 (by decide)) (zl_if ?_ ?_)
  · skip
    refine zl_tr (r_aload_n d_190_533 rfl) ?_
    refine zl_tr (r_iconst d_190_534 (by decide)) ?_
    refine zl_tr (r_VV [zm_A 146, zm_I 1] d_190_535 ow_190 cal_12_361 na_191 rfl rfl (Nat.le_of_ble_eq_true rfl) (by rw [rk_191]; decide) (zr_rcv la_146 ow_191) (zr_im mx_191 rfl (Nat.le_of_ble_eq_true rfl)) rt_191) (zl_V (fun h1 => ?_))
    refine zl_tr (r_aload_n d_190_538 rfl) ?_
    refine zl_tr (r_dup d_190_539 rfl) ?_
    refine zl_tr (r_getI (kk := 40) d_190_540 ow_190 f_12_134 la_146 (by decide) rfl) ?_
    refine zl_tr (r_iconst d_190_543 (by decide)) ?_
    refine zl_tr (r_isub d_190_544) (zl_ck ?_)
    refine zl_tr (r_putI (kk := 40) d_190_545 ow_190 f_12_134 la_146 (by decide) rfl) ?_
    refine zl_tr (r_aload_n d_190_548 rfl) ?_
    refine zl_tr (r_dup d_190_549 rfl) ?_
    refine zl_tr (r_getI (kk := 41) d_190_550 ow_190 f_12_137 la_146 (by decide) rfl) ?_
    refine zl_tr (r_iconst d_190_553 (by decide)) ?_
    refine zl_tr (r_isub d_190_554) (zl_ck ?_)
    refine zl_tr (r_putI (kk := 41) d_190_555 ow_190 f_12_137 la_146 (by decide) rfl) ?_
    refine zl_tr (r_iload_n d_190_558 rfl) ?_
    refine zl_tr (r_iconst d_190_559 (by decide)) ?_
    refine zl_tr (r_icmp_ne (tgt := 574) d_190_560 (by decide)) (zl_if ?_ ?_)
    · skip
      refine zl_tr (r_aload_n d_190_563 rfl) ?_
      refine zl_tr (r_aload_n d_190_564 rfl) ?_
      refine zl_tr (r_getR d_190_565 ow_190 f_12_128 la_146 (by decide) fr_146_38) ?_
      refine zl_tr (r_iload_n d_190_568 rfl) ?_
      refine zl_tr (r_iaload d_190_569 la_170) (zl_ck ?_)
      refine zl_tr (r_iconst d_190_570 (by decide)) ?_
      refine zl_tr (r_VV [zm_A 146, zm_I ((zm_wr (zm_wr h1 146 40 ((h1 146 40) - 1)) 146 41 (((zm_wr h1 146 40 ((h1 146 40) - 1)) 146 41) - 1)) 170 x1), zm_I 0] d_190_571 ow_190 cal_12_342 na_189 rfl rfl (Nat.le_of_ble_eq_true rfl) (by rw [rk_189]; decide) (zr_rcv la_146 ow_189) (zr_im mx_189 rfl (Nat.le_of_ble_eq_true rfl)) rt_189) (zl_V (fun h2 => ?_))
      exact zl_rf
    · skip
      exact zl_rf
  · skip
    refine zl_tr (r_iconst d_190_531 (by decide)) ?_
    exact r_zret d_190_532 rt_190
-- BranTubModel.goesOn, from 574
set_option maxRecDepth 20000 in
theorem e_190_574 {h : zm_H} {w1 : zm_V} {x2 : Int} {w3 : zm_V} {w4 : zm_V} : zl (if x2 = 5 then (zm_ck (zm_i32 ((h 146 40) - 1)) (zm_ck (0 ≤ ((h 146 40) - 1) ∧ ((h 146 40) - 1) < ((20 : Nat) : Int)) (zk_V (zc 159 [zm_A 146] (zm_wr h 168 ((h 146 40) - 1) 2)) (fun h1 => zm_ck (zm_bit 1) (some (zm_I 1, h1)))))) else (zk_V (zc 159 [zm_A 146] h) (fun h2 => zm_ck (zm_bit 1) (some (zm_I 1, h2))))) (zr none 3 190 574 [zm_A 146, w1, zm_I x2, w3, w4] [] h) := by
  refine zl_tr (r_iload_n d_190_574 rfl) ?_
  refine zl_tr (r_iconst d_190_575 (by decide)) ?_
  refine zl_tr (r_icmp_ne (tgt := 591) d_190_576 (by decide)) (zl_if ?_ ?_)
  · skip
    refine zl_tr (r_aload_n d_190_579 rfl) ?_
    refine zl_tr (r_getR d_190_580 ow_190 f_12_121 la_146 (by decide) fr_146_36) ?_
    refine zl_tr (r_aload_n d_190_583 rfl) ?_
    refine zl_tr (r_getI (kk := 40) d_190_584 ow_190 f_12_134 la_146 (by decide) rfl) ?_
    refine zl_tr (r_iconst d_190_587 (by decide)) ?_
    refine zl_tr (r_isub d_190_588) (zl_ck ?_)
    refine zl_tr (r_iconst d_190_589 (by decide)) ?_
    refine zl_tr (r_iastore d_190_590 la_168) (zl_ck ?_)
    refine zl_tr (r_aload_n d_190_591 rfl) ?_
    refine zl_tr (r_VV [zm_A 146] d_190_592 ow_190 cal_12_274 na_159 rfl rfl (Nat.le_of_ble_eq_true rfl) (by rw [rk_159]; decide) (zr_rcv la_146 ow_159) (zr_im mx_159 rfl (Nat.le_of_ble_eq_true rfl)) rt_159) (zl_V (fun h1 => ?_))
    refine zl_tr (r_iconst d_190_595 (by decide)) ?_
    exact r_zret d_190_596 rt_190
  · skip
    refine zl_tr (r_aload_n d_190_591 rfl) ?_
    refine zl_tr (r_VV [zm_A 146] d_190_592 ow_190 cal_12_274 na_159 rfl rfl (Nat.le_of_ble_eq_true rfl) (by rw [rk_159]; decide) (zr_rcv la_146 ow_159) (zr_im mx_159 rfl (Nat.le_of_ble_eq_true rfl)) rt_159) (zl_V (fun h2 => ?_))
    refine zl_tr (r_iconst d_190_595 (by decide)) ?_
    exact r_zret d_190_596 rt_190
-- BranTubModel.joins
set_option maxRecDepth 20000 in
theorem e_191 {h : zm_H} {x1 : Int} : zl (zm_ck (zm_i32 ((h 146 40) - 1)) (zm_ck (0 ≤ ((h 146 40) - 1) ∧ ((h 146 40) - 1) < ((20 : Nat) : Int)) (if (h 146 43) ≤ (h 171 ((h 146 40) - 1)) then (some (zm_U, h)) else (zm_ck (zm_i32 ((h 146 43) - 1)) (zm_ck (0 ≤ ((h 146 43) - 1) ∧ ((h 146 43) - 1) < ((500 : Nat) : Int)) (zk_I (zc 192 [zm_I (h 172 ((h 146 43) - 1))] h) (fun v1 h2 => if v1 < x1 then (some (zm_U, h2)) else (zm_ck (zm_i32 ((h2 146 43) - 1)) (zm_ck (0 ≤ ((zm_wr h2 146 43 ((h2 146 43) - 1)) 146 43) ∧ ((zm_wr h2 146 43 ((h2 146 43) - 1)) 146 43) < ((500 : Nat) : Int)) (zk_V (zc 189 [zm_A 146, zm_I ((zm_wr h2 146 43 ((h2 146 43) - 1)) 172 ((zm_wr h2 146 43 ((h2 146 43) - 1)) 146 43)), zm_I 0] (zm_wr h2 146 43 ((h2 146 43) - 1))) (fun h3 => zm_ck (0 ≤ (h3 146 43) ∧ (h3 146 43) < ((500 : Nat) : Int)) (if (h3 172 (h3 146 43)) = 22 then (zm_ck (zm_i32 ((h3 146 41) - 1)) (zr none 2 191 0 [zm_A 146, zm_I x1] [] (zm_wr h3 146 41 ((h3 146 41) - 1)))) else (zr none 2 191 0 [zm_A 146, zm_I x1] [] h3))))))))))))) (zc 191 [zm_A 146, zm_I x1] h) := by
  rw [zc_eq (loc := [zm_A 146, zm_I x1]) (rk_191 _) rfl]
  refine zl_tr (r_aload_n d_191_0 rfl) ?_
  refine zl_tr (r_getI (kk := 43) d_191_1 ow_191 f_12_143 la_146 (by decide) rfl) ?_
  refine zl_tr (r_aload_n d_191_4 rfl) ?_
  refine zl_tr (r_getR d_191_5 ow_191 f_12_131 la_146 (by decide) fr_146_39) ?_
  refine zl_tr (r_aload_n d_191_8 rfl) ?_
  refine zl_tr (r_getI (kk := 40) d_191_9 ow_191 f_12_134 la_146 (by decide) rfl) ?_
  refine zl_tr (r_iconst d_191_12 (by decide)) ?_
  refine zl_tr (r_isub d_191_13) (zl_ck ?_)
  refine zl_tr (r_iaload d_191_14 la_171) (zl_ck ?_)
  refine zl_tr (r_icmp_le (tgt := 87) d_191_15 (by decide)) (zl_if ?_ ?_)
  · skip
    exact r_vret d_191_87 rt_191
  · skip
    refine zl_tr (r_aload_n d_191_18 rfl) ?_
    refine zl_tr (r_getR d_191_19 ow_191 f_12_140 la_146 (by decide) fr_146_42) ?_
    refine zl_tr (r_aload_n d_191_22 rfl) ?_
    refine zl_tr (r_getI (kk := 43) d_191_23 ow_191 f_12_143 la_146 (by decide) rfl) ?_
    refine zl_tr (r_iconst d_191_26 (by decide)) ?_
    refine zl_tr (r_isub d_191_27) (zl_ck ?_)
    refine zl_tr (r_iaload d_191_28 la_172) (zl_ck ?_)
    refine zl_tr (r_SI [zm_I (h 172 ((h 146 43) - 1))] d_191_29 ow_191 cal_12_339 (by decide) na_192 rfl rfl (Nat.le_of_ble_eq_true rfl) (by rw [rk_192]; decide) (zr_im mx_192 rfl (Nat.le_of_ble_eq_true rfl)) (by rw [rt_192]; decide)) (zl_I (fun v1 h2 => ?_))
    refine zl_tr (r_iload_n d_191_32 rfl) ?_
    refine zl_tr (r_icmp_lt (tgt := 87) d_191_33 (by decide)) (zl_if ?_ ?_)
    · skip
      exact r_vret d_191_87 rt_191
    · skip
      refine zl_tr (r_aload_n d_191_36 rfl) ?_
      refine zl_tr (r_dup d_191_37 rfl) ?_
      refine zl_tr (r_getI (kk := 43) d_191_38 ow_191 f_12_143 la_146 (by decide) rfl) ?_
      refine zl_tr (r_iconst d_191_41 (by decide)) ?_
      refine zl_tr (r_isub d_191_42) (zl_ck ?_)
      refine zl_tr (r_putI (kk := 43) d_191_43 ow_191 f_12_143 la_146 (by decide) rfl) ?_
      refine zl_tr (r_aload_n d_191_46 rfl) ?_
      refine zl_tr (r_aload_n d_191_47 rfl) ?_
      refine zl_tr (r_getR d_191_48 ow_191 f_12_140 la_146 (by decide) fr_146_42) ?_
      refine zl_tr (r_aload_n d_191_51 rfl) ?_
      refine zl_tr (r_getI (kk := 43) d_191_52 ow_191 f_12_143 la_146 (by decide) rfl) ?_
      refine zl_tr (r_iaload d_191_55 la_172) (zl_ck ?_)
      refine zl_tr (r_iconst d_191_56 (by decide)) ?_
      refine zl_tr (r_VV [zm_A 146, zm_I ((zm_wr h2 146 43 ((h2 146 43) - 1)) 172 ((zm_wr h2 146 43 ((h2 146 43) - 1)) 146 43)), zm_I 0] d_191_57 ow_191 cal_12_342 na_189 rfl rfl (Nat.le_of_ble_eq_true rfl) (by rw [rk_189]; decide) (zr_rcv la_146 ow_189) (zr_im mx_189 rfl (Nat.le_of_ble_eq_true rfl)) rt_189) (zl_V (fun h3 => ?_))
      refine zl_tr (r_aload_n d_191_60 rfl) ?_
      refine zl_tr (r_getR d_191_61 ow_191 f_12_140 la_146 (by decide) fr_146_42) ?_
      refine zl_tr (r_aload_n d_191_64 rfl) ?_
      refine zl_tr (r_getI (kk := 43) d_191_65 ow_191 f_12_143 la_146 (by decide) rfl) ?_
      refine zl_tr (r_iaload d_191_68 la_172) (zl_ck ?_)
      refine zl_tr (r_bipush d_191_69 (by decide)) ?_
      refine zl_tr (r_icmp_ne (tgt := 0) d_191_71 (by decide)) (zl_if ?_ ?_)
      · skip
        refine zl_tr (r_aload_n d_191_74 rfl) ?_
        refine zl_tr (r_dup d_191_75 rfl) ?_
        refine zl_tr (r_getI (kk := 41) d_191_76 ow_191 f_12_137 la_146 (by decide) rfl) ?_
        refine zl_tr (r_iconst d_191_79 (by decide)) ?_
        refine zl_tr (r_isub d_191_80) (zl_ck ?_)
        refine zl_tr (r_putI (kk := 41) d_191_81 ow_191 f_12_137 la_146 (by decide) rfl) ?_
        refine zl_tr (r_goto (tgt := 0) d_191_84 (by decide)) ?_
        exact zl_rf
      · skip
        exact zl_rf
-- BranTubModel.joins, from 0
set_option maxRecDepth 20000 in
theorem e_191_0 {h : zm_H} {x1 : Int} : zl (zm_ck (zm_i32 ((h 146 40) - 1)) (zm_ck (0 ≤ ((h 146 40) - 1) ∧ ((h 146 40) - 1) < ((20 : Nat) : Int)) (if (h 146 43) ≤ (h 171 ((h 146 40) - 1)) then (some (zm_U, h)) else (zm_ck (zm_i32 ((h 146 43) - 1)) (zm_ck (0 ≤ ((h 146 43) - 1) ∧ ((h 146 43) - 1) < ((500 : Nat) : Int)) (zk_I (zc 192 [zm_I (h 172 ((h 146 43) - 1))] h) (fun v1 h2 => if v1 < x1 then (some (zm_U, h2)) else (zm_ck (zm_i32 ((h2 146 43) - 1)) (zm_ck (0 ≤ ((zm_wr h2 146 43 ((h2 146 43) - 1)) 146 43) ∧ ((zm_wr h2 146 43 ((h2 146 43) - 1)) 146 43) < ((500 : Nat) : Int)) (zk_V (zc 189 [zm_A 146, zm_I ((zm_wr h2 146 43 ((h2 146 43) - 1)) 172 ((zm_wr h2 146 43 ((h2 146 43) - 1)) 146 43)), zm_I 0] (zm_wr h2 146 43 ((h2 146 43) - 1))) (fun h3 => zm_ck (0 ≤ (h3 146 43) ∧ (h3 146 43) < ((500 : Nat) : Int)) (if (h3 172 (h3 146 43)) = 22 then (zm_ck (zm_i32 ((h3 146 41) - 1)) (zr none 2 191 0 [zm_A 146, zm_I x1] [] (zm_wr h3 146 41 ((h3 146 41) - 1)))) else (zr none 2 191 0 [zm_A 146, zm_I x1] [] h3))))))))))))) (zr none 2 191 0 [zm_A 146, zm_I x1] [] h) := by
  refine zl_tr (r_aload_n d_191_0 rfl) ?_
  refine zl_tr (r_getI (kk := 43) d_191_1 ow_191 f_12_143 la_146 (by decide) rfl) ?_
  refine zl_tr (r_aload_n d_191_4 rfl) ?_
  refine zl_tr (r_getR d_191_5 ow_191 f_12_131 la_146 (by decide) fr_146_39) ?_
  refine zl_tr (r_aload_n d_191_8 rfl) ?_
  refine zl_tr (r_getI (kk := 40) d_191_9 ow_191 f_12_134 la_146 (by decide) rfl) ?_
  refine zl_tr (r_iconst d_191_12 (by decide)) ?_
  refine zl_tr (r_isub d_191_13) (zl_ck ?_)
  refine zl_tr (r_iaload d_191_14 la_171) (zl_ck ?_)
  refine zl_tr (r_icmp_le (tgt := 87) d_191_15 (by decide)) (zl_if ?_ ?_)
  · skip
    exact r_vret d_191_87 rt_191
  · skip
    refine zl_tr (r_aload_n d_191_18 rfl) ?_
    refine zl_tr (r_getR d_191_19 ow_191 f_12_140 la_146 (by decide) fr_146_42) ?_
    refine zl_tr (r_aload_n d_191_22 rfl) ?_
    refine zl_tr (r_getI (kk := 43) d_191_23 ow_191 f_12_143 la_146 (by decide) rfl) ?_
    refine zl_tr (r_iconst d_191_26 (by decide)) ?_
    refine zl_tr (r_isub d_191_27) (zl_ck ?_)
    refine zl_tr (r_iaload d_191_28 la_172) (zl_ck ?_)
    refine zl_tr (r_SI [zm_I (h 172 ((h 146 43) - 1))] d_191_29 ow_191 cal_12_339 (by decide) na_192 rfl rfl (Nat.le_of_ble_eq_true rfl) (by rw [rk_192]; decide) (zr_im mx_192 rfl (Nat.le_of_ble_eq_true rfl)) (by rw [rt_192]; decide)) (zl_I (fun v1 h2 => ?_))
    refine zl_tr (r_iload_n d_191_32 rfl) ?_
    refine zl_tr (r_icmp_lt (tgt := 87) d_191_33 (by decide)) (zl_if ?_ ?_)
    · skip
      exact r_vret d_191_87 rt_191
    · skip
      refine zl_tr (r_aload_n d_191_36 rfl) ?_
      refine zl_tr (r_dup d_191_37 rfl) ?_
      refine zl_tr (r_getI (kk := 43) d_191_38 ow_191 f_12_143 la_146 (by decide) rfl) ?_
      refine zl_tr (r_iconst d_191_41 (by decide)) ?_
      refine zl_tr (r_isub d_191_42) (zl_ck ?_)
      refine zl_tr (r_putI (kk := 43) d_191_43 ow_191 f_12_143 la_146 (by decide) rfl) ?_
      refine zl_tr (r_aload_n d_191_46 rfl) ?_
      refine zl_tr (r_aload_n d_191_47 rfl) ?_
      refine zl_tr (r_getR d_191_48 ow_191 f_12_140 la_146 (by decide) fr_146_42) ?_
      refine zl_tr (r_aload_n d_191_51 rfl) ?_
      refine zl_tr (r_getI (kk := 43) d_191_52 ow_191 f_12_143 la_146 (by decide) rfl) ?_
      refine zl_tr (r_iaload d_191_55 la_172) (zl_ck ?_)
      refine zl_tr (r_iconst d_191_56 (by decide)) ?_
      refine zl_tr (r_VV [zm_A 146, zm_I ((zm_wr h2 146 43 ((h2 146 43) - 1)) 172 ((zm_wr h2 146 43 ((h2 146 43) - 1)) 146 43)), zm_I 0] d_191_57 ow_191 cal_12_342 na_189 rfl rfl (Nat.le_of_ble_eq_true rfl) (by rw [rk_189]; decide) (zr_rcv la_146 ow_189) (zr_im mx_189 rfl (Nat.le_of_ble_eq_true rfl)) rt_189) (zl_V (fun h3 => ?_))
      refine zl_tr (r_aload_n d_191_60 rfl) ?_
      refine zl_tr (r_getR d_191_61 ow_191 f_12_140 la_146 (by decide) fr_146_42) ?_
      refine zl_tr (r_aload_n d_191_64 rfl) ?_
      refine zl_tr (r_getI (kk := 43) d_191_65 ow_191 f_12_143 la_146 (by decide) rfl) ?_
      refine zl_tr (r_iaload d_191_68 la_172) (zl_ck ?_)
      refine zl_tr (r_bipush d_191_69 (by decide)) ?_
      refine zl_tr (r_icmp_ne (tgt := 0) d_191_71 (by decide)) (zl_if ?_ ?_)
      · skip
        refine zl_tr (r_aload_n d_191_74 rfl) ?_
        refine zl_tr (r_dup d_191_75 rfl) ?_
        refine zl_tr (r_getI (kk := 41) d_191_76 ow_191 f_12_137 la_146 (by decide) rfl) ?_
        refine zl_tr (r_iconst d_191_79 (by decide)) ?_
        refine zl_tr (r_isub d_191_80) (zl_ck ?_)
        refine zl_tr (r_putI (kk := 41) d_191_81 ow_191 f_12_137 la_146 (by decide) rfl) ?_
        refine zl_tr (r_goto (tgt := 0) d_191_84 (by decide)) ?_
        exact zl_rf
      · skip
        exact zl_rf
-- BranTubModel.rank
set_option maxRecDepth 20000 in
theorem e_192 {h : zm_H} {x1 : Int} : zl (if x1 = 21 then (some (zm_I 1, h)) else (if x1 = 20 then (some (zm_I 2, h)) else (if x1 = 22 then (some (zm_I 3, h)) else (if x1 = 17 then (some (zm_I 4, h)) else (if x1 = 18 then (some (zm_I 4, h)) else (if x1 = 19 then (some (zm_I 4, h)) else (if x1 = 10 then (some (zm_I 5, h)) else (if x1 = 11 then (some (zm_I 5, h)) else (some (zm_I 6, h)))))))))) (zc 192 [zm_I x1] h) := by
  rw [zc_eq (loc := [zm_I x1]) (rk_192 _) rfl]
  refine zl_tr (r_iload_n d_192_0 rfl) ?_
  refine zl_tr (r_bipush d_192_1 (by decide)) ?_
  refine zl_tr (r_icmp_ne (tgt := 10) d_192_3 (by decide)) (zl_if ?_ ?_)
  · skip
    refine zl_tr (r_iconst d_192_6 (by decide)) ?_
    refine zl_tr (r_goto (tgt := 70) d_192_7 (by decide)) ?_
    exact r_iret d_192_70 rt_192
  · skip
    refine zl_tr (r_iload_n d_192_10 rfl) ?_
    refine zl_tr (r_bipush d_192_11 (by decide)) ?_
    refine zl_tr (r_icmp_ne (tgt := 20) d_192_13 (by decide)) (zl_if ?_ ?_)
    · skip
      refine zl_tr (r_iconst d_192_16 (by decide)) ?_
      refine zl_tr (r_goto (tgt := 70) d_192_17 (by decide)) ?_
      exact r_iret d_192_70 rt_192
    · skip
      refine zl_tr (r_iload_n d_192_20 rfl) ?_
      refine zl_tr (r_bipush d_192_21 (by decide)) ?_
      refine zl_tr (r_icmp_ne (tgt := 30) d_192_23 (by decide)) (zl_if ?_ ?_)
      · skip
        refine zl_tr (r_iconst d_192_26 (by decide)) ?_
        refine zl_tr (r_goto (tgt := 70) d_192_27 (by decide)) ?_
        exact r_iret d_192_70 rt_192
      · skip
        refine zl_tr (r_iload_n d_192_30 rfl) ?_
        refine zl_tr (r_bipush d_192_31 (by decide)) ?_
        refine zl_tr (r_icmp_eq (tgt := 48) d_192_33 (by decide)) (zl_if ?_ ?_)
        · skip
          refine zl_tr (r_iconst d_192_48 (by decide)) ?_
          refine zl_tr (r_goto (tgt := 70) d_192_49 (by decide)) ?_
          exact r_iret d_192_70 rt_192
        · skip
          refine zl_tr (r_iload_n d_192_36 rfl) ?_
          refine zl_tr (r_bipush d_192_37 (by decide)) ?_
          refine zl_tr (r_icmp_eq (tgt := 48) d_192_39 (by decide)) (zl_if ?_ ?_)
          · skip
            refine zl_tr (r_iconst d_192_48 (by decide)) ?_
            refine zl_tr (r_goto (tgt := 70) d_192_49 (by decide)) ?_
            exact r_iret d_192_70 rt_192
          · skip
            refine zl_tr (r_iload_n d_192_42 rfl) ?_
            refine zl_tr (r_bipush d_192_43 (by decide)) ?_
            refine zl_tr (r_icmp_ne (tgt := 52) d_192_45 (by decide)) (zl_if ?_ ?_)
            · skip
              refine zl_tr (r_iconst d_192_48 (by decide)) ?_
              refine zl_tr (r_goto (tgt := 70) d_192_49 (by decide)) ?_
              exact r_iret d_192_70 rt_192
            · skip
              refine zl_tr (r_iload_n d_192_52 rfl) ?_
              refine zl_tr (r_bipush d_192_53 (by decide)) ?_
              refine zl_tr (r_icmp_eq (tgt := 64) d_192_55 (by decide)) (zl_if ?_ ?_)
              · skip
                refine zl_tr (r_iconst d_192_64 (by decide)) ?_
                refine zl_tr (r_goto (tgt := 70) d_192_65 (by decide)) ?_
                exact r_iret d_192_70 rt_192
              · skip
                refine zl_tr (r_iload_n d_192_58 rfl) ?_
                refine zl_tr (r_bipush d_192_59 (by decide)) ?_
                refine zl_tr (r_icmp_ne (tgt := 68) d_192_61 (by decide)) (zl_if ?_ ?_)
                · skip
                  refine zl_tr (r_iconst d_192_64 (by decide)) ?_
                  refine zl_tr (r_goto (tgt := 70) d_192_65 (by decide)) ?_
                  exact r_iret d_192_70 rt_192
                · skip
                  refine zl_tr (r_bipush d_192_68 (by decide)) ?_
                  exact r_iret d_192_70 rt_192
-- BranTubModel.putting
set_option maxRecDepth 20000 in
theorem e_193 {h : zm_H}  : zl (zm_ck (0 ≤ (h 146 34) ∧ (h 146 34) < ((2 : Nat) : Int)) (if (h 161 (h 146 34)) = (-1) then (zk_I (zc 167 [zm_A 146, zm_I 0] h) (fun v1 h2 => if v1 = 0 then (some (zm_U, h2)) else (zm_ck (0 ≤ (h2 146 34) ∧ (h2 146 34) < ((2 : Nat) : Int)) (zk_V (zc 182 [zm_A 146, zm_I 1] (zm_wr h2 161 (h2 146 34) (h2 146 33))) (fun h3 => zm_ck (0 ≤ (h3 146 34) ∧ (h3 146 34) < ((2 : Nat) : Int)) (some (zm_U, (zm_wr h3 162 (h3 146 34) (h3 146 33))))))))) else (zk_I (zc 167 [zm_A 146, zm_I 1] h) (fun v4 h5 => if v4 = 0 then (some (zm_U, h5)) else (zm_ck (0 ≤ (h5 146 34) ∧ (h5 146 34) < ((2 : Nat) : Int)) (zk_V (zc 182 [zm_A 146, zm_I 1] (zm_wr h5 161 (h5 146 34) (h5 146 33))) (fun h6 => zm_ck (0 ≤ (h6 146 34) ∧ (h6 146 34) < ((2 : Nat) : Int)) (some (zm_U, (zm_wr h6 162 (h6 146 34) (h6 146 33))))))))))) (zc 193 [zm_A 146] h) := by
  rw [zc_eq (loc := [zm_A 146]) (rk_193 _) rfl]
  refine zl_tr (r_aload_n d_193_0 rfl) ?_
  refine zl_tr (r_aload_n d_193_1 rfl) ?_
  refine zl_tr (r_getR d_193_2 ow_193 f_12_93 la_146 (by decide) fr_146_27) ?_
  refine zl_tr (r_aload_n d_193_5 rfl) ?_
  refine zl_tr (r_getI (kk := 34) d_193_6 ow_193 f_12_115 la_146 (by decide) rfl) ?_
  refine zl_tr (r_iaload d_193_9 la_161) (zl_ck ?_)
  refine zl_tr (r_iconst d_193_10 (by decide)) ?_
  refine zl_tr (r_icmp_eq (tgt := 18) d_193_11 (by decide)) (zl_if ?_ ?_)
  · skip
    refine zl_tr (r_iconst d_193_18 (by decide)) ?_
    refine zl_tr (r_VI [zm_A 146, zm_I 0] d_193_19 ow_193 cal_12_380 na_167 rfl rfl (Nat.le_of_ble_eq_true rfl) (by rw [rk_167]; decide) (zr_rcv la_146 ow_167) (zr_im mx_167 rfl (Nat.le_of_ble_eq_true rfl)) (by rw [rt_167]; decide)) (zl_I (fun v1 h2 => ?_))
    refine zl_tr (r_if_ne (tgt := 26) d_193_22 (by decide)) (zl_if ?_ ?_)
    · skip
      exact r_vret d_193_25 rt_193
    · skip
      refine zl_tr (r_aload_n d_193_26 rfl) ?_
      refine zl_tr (r_getR d_193_27 ow_193 f_12_93 la_146 (by decide) fr_146_27) ?_
      refine zl_tr (r_aload_n d_193_30 rfl) ?_
      refine zl_tr (r_getI (kk := 34) d_193_31 ow_193 f_12_115 la_146 (by decide) rfl) ?_
      refine zl_tr (r_aload_n d_193_34 rfl) ?_
      refine zl_tr (r_getI (kk := 33) d_193_35 ow_193 f_12_112 la_146 (by decide) rfl) ?_
      refine zl_tr (r_iastore d_193_38 la_161) (zl_ck ?_)
      refine zl_tr (r_aload_n d_193_39 rfl) ?_
      refine zl_tr (r_iconst d_193_40 (by decide)) ?_
      refine zl_tr (r_VV [zm_A 146, zm_I 1] d_193_41 ow_193 cal_12_398 na_182 rfl rfl (Nat.le_of_ble_eq_true rfl) (by rw [rk_182]; decide) (zr_rcv la_146 ow_182) (zr_im mx_182 rfl (Nat.le_of_ble_eq_true rfl)) rt_182) (zl_V (fun h3 => ?_))
      refine zl_tr (r_aload_n d_193_44 rfl) ?_
      refine zl_tr (r_getR d_193_45 ow_193 f_12_96 la_146 (by decide) fr_146_28) ?_
      refine zl_tr (r_aload_n d_193_48 rfl) ?_
      refine zl_tr (r_getI (kk := 34) d_193_49 ow_193 f_12_115 la_146 (by decide) rfl) ?_
      refine zl_tr (r_aload_n d_193_52 rfl) ?_
      refine zl_tr (r_getI (kk := 33) d_193_53 ow_193 f_12_112 la_146 (by decide) rfl) ?_
      refine zl_tr (r_iastore d_193_56 la_162) (zl_ck ?_)
      exact r_vret d_193_57 rt_193
  · skip
    refine zl_tr (r_iconst d_193_14 (by decide)) ?_
    refine zl_tr (r_goto (tgt := 19) d_193_15 (by decide)) ?_
    refine zl_tr (r_VI [zm_A 146, zm_I 1] d_193_19 ow_193 cal_12_380 na_167 rfl rfl (Nat.le_of_ble_eq_true rfl) (by rw [rk_167]; decide) (zr_rcv la_146 ow_167) (zr_im mx_167 rfl (Nat.le_of_ble_eq_true rfl)) (by rw [rt_167]; decide)) (zl_I (fun v4 h5 => ?_))
    refine zl_tr (r_if_ne (tgt := 26) d_193_22 (by decide)) (zl_if ?_ ?_)
    · skip
      exact r_vret d_193_25 rt_193
    · skip
      refine zl_tr (r_aload_n d_193_26 rfl) ?_
      refine zl_tr (r_getR d_193_27 ow_193 f_12_93 la_146 (by decide) fr_146_27) ?_
      refine zl_tr (r_aload_n d_193_30 rfl) ?_
      refine zl_tr (r_getI (kk := 34) d_193_31 ow_193 f_12_115 la_146 (by decide) rfl) ?_
      refine zl_tr (r_aload_n d_193_34 rfl) ?_
      refine zl_tr (r_getI (kk := 33) d_193_35 ow_193 f_12_112 la_146 (by decide) rfl) ?_
      refine zl_tr (r_iastore d_193_38 la_161) (zl_ck ?_)
      refine zl_tr (r_aload_n d_193_39 rfl) ?_
      refine zl_tr (r_iconst d_193_40 (by decide)) ?_
      refine zl_tr (r_VV [zm_A 146, zm_I 1] d_193_41 ow_193 cal_12_398 na_182 rfl rfl (Nat.le_of_ble_eq_true rfl) (by rw [rk_182]; decide) (zr_rcv la_146 ow_182) (zr_im mx_182 rfl (Nat.le_of_ble_eq_true rfl)) rt_182) (zl_V (fun h6 => ?_))
      refine zl_tr (r_aload_n d_193_44 rfl) ?_
      refine zl_tr (r_getR d_193_45 ow_193 f_12_96 la_146 (by decide) fr_146_28) ?_
      refine zl_tr (r_aload_n d_193_48 rfl) ?_
      refine zl_tr (r_getI (kk := 34) d_193_49 ow_193 f_12_115 la_146 (by decide) rfl) ?_
      refine zl_tr (r_aload_n d_193_52 rfl) ?_
      refine zl_tr (r_getI (kk := 33) d_193_53 ow_193 f_12_112 la_146 (by decide) rfl) ?_
      refine zl_tr (r_iastore d_193_56 la_162) (zl_ck ?_)
      exact r_vret d_193_57 rt_193
-- BranTubModel.pursing
set_option maxRecDepth 20000 in
theorem e_194 {h : zm_H}  : zl (zk_I (zc 167 [zm_A 146, zm_I 0] h) (fun v1 h2 => if v1 = 0 then (some (zm_U, h2)) else (zk_I (zc 174 [zm_A 146, zm_I 0, zm_I 999] h2) (fun v3 h4 => if (h4 146 8) = 0 then (zm_ck (0 ≤ (h4 146 34) ∧ (h4 146 34) < ((2 : Nat) : Int)) (some (zm_U, (zm_wr h4 158 (h4 146 34) v3)))) else (some (zm_U, h4)))))) (zc 194 [zm_A 146] h) := by
  rw [zc_eq (loc := [zm_A 146, zm_U]) (rk_194 _) rfl]
  refine zl_tr (r_aload_n d_194_0 rfl) ?_
  refine zl_tr (r_iconst d_194_1 (by decide)) ?_
  refine zl_tr (r_VI [zm_A 146, zm_I 0] d_194_2 ow_194 cal_12_380 na_167 rfl rfl (Nat.le_of_ble_eq_true rfl) (by rw [rk_167]; decide) (zr_rcv la_146 ow_167) (zr_im mx_167 rfl (Nat.le_of_ble_eq_true rfl)) (by rw [rt_167]; decide)) (zl_I (fun v1 h2 => ?_))
  refine zl_tr (r_if_ne (tgt := 9) d_194_5 (by decide)) (zl_if ?_ ?_)
  · skip
    exact r_vret d_194_8 rt_194
  · skip
    refine zl_tr (r_aload_n d_194_9 rfl) ?_
    refine zl_tr (r_iconst d_194_10 (by decide)) ?_
    refine zl_tr (r_sipush d_194_11 (by decide)) ?_
    refine zl_tr (r_VI [zm_A 146, zm_I 0, zm_I 999] d_194_14 ow_194 cal_12_392 na_174 rfl rfl (Nat.le_of_ble_eq_true rfl) (by rw [rk_174]; decide) (zr_rcv la_146 ow_174) (zr_im mx_174 rfl (Nat.le_of_ble_eq_true rfl)) (by rw [rt_174]; decide)) (zl_I (fun v3 h4 => ?_))
    refine zl_tr (r_istore_n (loc' := [zm_A 146, zm_I v3]) d_194_17 (Nat.le_of_ble_eq_true rfl) rfl) ?_
    refine zl_tr (r_aload_n d_194_18 rfl) ?_
    refine zl_tr (r_getI (kk := 8) d_194_19 ow_194 f_12_36 la_146 (by decide) rfl) ?_
    refine zl_tr (r_if_ne (tgt := 35) d_194_22 (by decide)) (zl_if ?_ ?_)
    · skip
      refine zl_tr (r_aload_n d_194_25 rfl) ?_
      refine zl_tr (r_getR d_194_26 ow_194 f_12_84 la_146 (by decide) fr_146_24) ?_
      refine zl_tr (r_aload_n d_194_29 rfl) ?_
      refine zl_tr (r_getI (kk := 34) d_194_30 ow_194 f_12_115 la_146 (by decide) rfl) ?_
      refine zl_tr (r_iload_n d_194_33 rfl) ?_
      refine zl_tr (r_iastore d_194_34 la_158) (zl_ck ?_)
      exact r_vret d_194_35 rt_194
    · skip
      exact r_vret d_194_35 rt_194
-- BranTubModel.finishes
set_option maxRecDepth 20000 in
theorem e_195 {h : zm_H} {x1 : Int} : zl (zk_V (zc 163 [zm_A 146] h) (fun h1 => if (h1 146 8) ≤ 0 then (zr none 4 195 17 [zm_A 146, zm_I x1, zm_I (h1 146 5)] [] h1) else (some (zm_U, h1)))) (zc 195 [zm_A 146, zm_I x1] h) := by
  rw [zc_eq (loc := [zm_A 146, zm_I x1, zm_U]) (rk_195 _) rfl]
  refine zl_tr (r_aload_n d_195_0 rfl) ?_
  refine zl_tr (r_VV [zm_A 146] d_195_1 ow_195 cal_12_268 na_163 rfl rfl (Nat.le_of_ble_eq_true rfl) (by rw [rk_163]; decide) (zr_rcv la_146 ow_163) (zr_im mx_163 rfl (Nat.le_of_ble_eq_true rfl)) rt_163) (zl_V (fun h1 => ?_))
  refine zl_tr (r_aload_n d_195_4 rfl) ?_
  refine zl_tr (r_getI (kk := 8) d_195_5 ow_195 f_12_36 la_146 (by decide) rfl) ?_
  refine zl_tr (r_if_le (tgt := 12) d_195_8 (by decide)) (zl_if ?_ ?_)
  · skip
    refine zl_tr (r_aload_n d_195_12 rfl) ?_
    refine zl_tr (r_getI (kk := 5) d_195_13 ow_195 f_12_26 la_146 (by decide) rfl) ?_
    refine zl_tr (r_istore_n (loc' := [zm_A 146, zm_I x1, zm_I (h1 146 5)]) d_195_16 (Nat.le_of_ble_eq_true rfl) rfl) ?_
    exact zl_rf
  · skip
    exact r_vret d_195_11 rt_195
-- BranTubModel.finishes, from 17
set_option maxRecDepth 20000 in
theorem e_195_17 {h : zm_H} {x1 : Int} {x2 : Int} : zl (if x2 < (h 146 2) then (zm_ck (0 ≤ x2 ∧ x2 < ((1800 : Nat) : Int)) (if (h 147 x2) = 32 then (zm_ck (zm_i32 (x2 + 1)) (zr none 4 195 17 [zm_A 146, zm_I x1, zm_I (x2 + 1)] [] h)) else (zm_ck (0 ≤ x2 ∧ x2 < ((1800 : Nat) : Int)) (if (h 147 x2) = 10 then (zm_ck (zm_i32 (x2 + 1)) (zr none 4 195 17 [zm_A 146, zm_I x1, zm_I (x2 + 1)] [] h)) else (zr none 4 195 53 [zm_A 146, zm_I x1, zm_I x2] [] h))))) else (zr none 4 195 53 [zm_A 146, zm_I x1, zm_I x2] [] h)) (zr none 4 195 17 [zm_A 146, zm_I x1, zm_I x2] [] h) := by
  refine zl_tr (r_iload_n d_195_17 rfl) ?_
  refine zl_tr (r_aload_n d_195_18 rfl) ?_
  refine zl_tr (r_getI (kk := 2) d_195_19 ow_195 f_12_17 la_146 (by decide) rfl) ?_
  refine zl_tr (r_icmp_ge (tgt := 53) d_195_22 (by decide)) (zl_if ?_ ?_)
  · skip
    refine zl_tr (r_aload_n d_195_25 rfl) ?_
    refine zl_tr (r_getR d_195_26 ow_195 f_12_7 la_146 (by decide) fr_146_0) ?_
    refine zl_tr (r_iload_n d_195_29 rfl) ?_
    refine zl_tr (r_iaload d_195_30 la_147) (zl_ck ?_)
    refine zl_tr (r_bipush d_195_31 (by decide)) ?_
    refine zl_tr (r_icmp_eq (tgt := 47) d_195_33 (by decide)) (zl_if ?_ ?_)
    · skip
      refine zl_tr (r_iinc (loc' := [zm_A 146, zm_I x1, zm_I (x2 + 1)]) d_195_47 rfl (Nat.le_of_ble_eq_true rfl) rfl) (zl_ck ?_)
      refine zl_tr (r_goto (tgt := 17) d_195_50 (by decide)) ?_
      exact zl_rf
    · skip
      refine zl_tr (r_aload_n d_195_36 rfl) ?_
      refine zl_tr (r_getR d_195_37 ow_195 f_12_7 la_146 (by decide) fr_146_0) ?_
      refine zl_tr (r_iload_n d_195_40 rfl) ?_
      refine zl_tr (r_iaload d_195_41 la_147) (zl_ck ?_)
      refine zl_tr (r_bipush d_195_42 (by decide)) ?_
      refine zl_tr (r_icmp_ne (tgt := 53) d_195_44 (by decide)) (zl_if ?_ ?_)
      · skip
        refine zl_tr (r_iinc (loc' := [zm_A 146, zm_I x1, zm_I (x2 + 1)]) d_195_47 rfl (Nat.le_of_ble_eq_true rfl) rfl) (zl_ck ?_)
        refine zl_tr (r_goto (tgt := 17) d_195_50 (by decide)) ?_
        exact zl_rf
      · skip
        exact zl_rf
  · skip
    exact zl_rf
-- BranTubModel.finishes, from 53
set_option maxRecDepth 20000 in
theorem e_195_53 {h : zm_H} {x1 : Int} {x2 : Int} : zl (zk_I (zc 187 [zm_A 146, zm_I 59] h) (fun v1 h2 => if v1 = 0 then (zk_V (zc 196 [zm_A 146, zm_I 59] h2) (fun h3 => some (zm_U, h3))) else (if x1 = 80 then (if x2 < (h2 146 2) then (zk_V (zc 164 [zm_A 146, zm_I 6, zm_I x2] h2) (fun h4 => zk_V (zc 196 [zm_A 146, zm_I 59] h4) (fun h5 => some (zm_U, h5)))) else (zk_V (zc 196 [zm_A 146, zm_I 59] h2) (fun h6 => some (zm_U, h6)))) else (zk_V (zc 196 [zm_A 146, zm_I 59] h2) (fun h7 => some (zm_U, h7)))))) (zr none 4 195 53 [zm_A 146, zm_I x1, zm_I x2] [] h) := by
  refine zl_tr (r_aload_n d_195_53 rfl) ?_
  refine zl_tr (r_bipush d_195_54 (by decide)) ?_
  refine zl_tr (r_VI [zm_A 146, zm_I 59] d_195_56 ow_195 cal_12_271 na_187 rfl rfl (Nat.le_of_ble_eq_true rfl) (by rw [rk_187]; decide) (zr_rcv la_146 ow_187) (zr_im mx_187 rfl (Nat.le_of_ble_eq_true rfl)) (by rw [rt_187]; decide)) (zl_I (fun v1 h2 => ?_))
  refine zl_tr (r_if_eq (tgt := 83) d_195_59 (by decide)) (zl_if ?_ ?_)
  · skip
    refine zl_tr (r_aload_n d_195_83 rfl) ?_
    refine zl_tr (r_bipush d_195_84 (by decide)) ?_
    refine zl_tr (r_VV [zm_A 146, zm_I 59] d_195_86 ow_195 cal_12_423 na_196 rfl rfl (Nat.le_of_ble_eq_true rfl) (by rw [rk_196]; decide) (zr_rcv la_146 ow_196) (zr_im mx_196 rfl (Nat.le_of_ble_eq_true rfl)) rt_196) (zl_V (fun h3 => ?_))
    exact r_vret d_195_89 rt_195
  · skip
    refine zl_tr (r_iload_n d_195_62 rfl) ?_
    refine zl_tr (r_bipush d_195_63 (by decide)) ?_
    refine zl_tr (r_icmp_ne (tgt := 83) d_195_65 (by decide)) (zl_if ?_ ?_)
    · skip
      refine zl_tr (r_iload_n d_195_68 rfl) ?_
      refine zl_tr (r_aload_n d_195_69 rfl) ?_
      refine zl_tr (r_getI (kk := 2) d_195_70 ow_195 f_12_17 la_146 (by decide) rfl) ?_
      refine zl_tr (r_icmp_ge (tgt := 83) d_195_73 (by decide)) (zl_if ?_ ?_)
      · skip
        refine zl_tr (r_aload_n d_195_76 rfl) ?_
        refine zl_tr (r_bipush d_195_77 (by decide)) ?_
        refine zl_tr (r_iload_n d_195_79 rfl) ?_
        refine zl_tr (r_VV [zm_A 146, zm_I 6, zm_I x2] d_195_80 ow_195 cal_12_257 na_164 rfl rfl (Nat.le_of_ble_eq_true rfl) (by rw [rk_164]; decide) (zr_rcv la_146 ow_164) (zr_im mx_164 rfl (Nat.le_of_ble_eq_true rfl)) rt_164) (zl_V (fun h4 => ?_))
        refine zl_tr (r_aload_n d_195_83 rfl) ?_
        refine zl_tr (r_bipush d_195_84 (by decide)) ?_
        refine zl_tr (r_VV [zm_A 146, zm_I 59] d_195_86 ow_195 cal_12_423 na_196 rfl rfl (Nat.le_of_ble_eq_true rfl) (by rw [rk_196]; decide) (zr_rcv la_146 ow_196) (zr_im mx_196 rfl (Nat.le_of_ble_eq_true rfl)) rt_196) (zl_V (fun h5 => ?_))
        exact r_vret d_195_89 rt_195
      · skip
        refine zl_tr (r_aload_n d_195_83 rfl) ?_
        refine zl_tr (r_bipush d_195_84 (by decide)) ?_
        refine zl_tr (r_VV [zm_A 146, zm_I 59] d_195_86 ow_195 cal_12_423 na_196 rfl rfl (Nat.le_of_ble_eq_true rfl) (by rw [rk_196]; decide) (zr_rcv la_146 ow_196) (zr_im mx_196 rfl (Nat.le_of_ble_eq_true rfl)) rt_196) (zl_V (fun h6 => ?_))
        exact r_vret d_195_89 rt_195
    · skip
      refine zl_tr (r_aload_n d_195_83 rfl) ?_
      refine zl_tr (r_bipush d_195_84 (by decide)) ?_
      refine zl_tr (r_VV [zm_A 146, zm_I 59] d_195_86 ow_195 cal_12_423 na_196 rfl rfl (Nat.le_of_ble_eq_true rfl) (by rw [rk_196]; decide) (zr_rcv la_146 ow_196) (zr_im mx_196 rfl (Nat.le_of_ble_eq_true rfl)) rt_196) (zl_V (fun h7 => ?_))
      exact r_vret d_195_89 rt_195
-- BranTubModel.must
set_option maxRecDepth 20000 in
theorem e_196 {h : zm_H} {x1 : Int} : zl (zk_V (zc 163 [zm_A 146] h) (fun h1 => zk_I (zc 187 [zm_A 146, zm_I x1] h1) (fun v2 h3 => if v2 = 0 then (zk_V (zc 164 [zm_A 146, zm_I 1, zm_I (h3 146 4)] h3) (fun h4 => if (h4 146 8) = 0 then (zk_V (zc 159 [zm_A 146] h4) (fun h5 => some (zm_U, h5))) else (some (zm_U, h4)))) else (if (h3 146 8) = 0 then (zk_V (zc 159 [zm_A 146] h3) (fun h6 => some (zm_U, h6))) else (some (zm_U, h3)))))) (zc 196 [zm_A 146, zm_I x1] h) := by
  rw [zc_eq (loc := [zm_A 146, zm_I x1]) (rk_196 _) rfl]
  refine zl_tr (r_aload_n d_196_0 rfl) ?_
  refine zl_tr (r_VV [zm_A 146] d_196_1 ow_196 cal_12_268 na_163 rfl rfl (Nat.le_of_ble_eq_true rfl) (by rw [rk_163]; decide) (zr_rcv la_146 ow_163) (zr_im mx_163 rfl (Nat.le_of_ble_eq_true rfl)) rt_163) (zl_V (fun h1 => ?_))
  refine zl_tr (r_aload_n d_196_4 rfl) ?_
  refine zl_tr (r_iload_n d_196_5 rfl) ?_
  refine zl_tr (r_VI [zm_A 146, zm_I x1] d_196_6 ow_196 cal_12_271 na_187 rfl rfl (Nat.le_of_ble_eq_true rfl) (by rw [rk_187]; decide) (zr_rcv la_146 ow_187) (zr_im mx_187 rfl (Nat.le_of_ble_eq_true rfl)) (by rw [rt_187]; decide)) (zl_I (fun v2 h3 => ?_))
  refine zl_tr (r_if_ne (tgt := 21) d_196_9 (by decide)) (zl_if ?_ ?_)
  · skip
    refine zl_tr (r_aload_n d_196_12 rfl) ?_
    refine zl_tr (r_iconst d_196_13 (by decide)) ?_
    refine zl_tr (r_aload_n d_196_14 rfl) ?_
    refine zl_tr (r_getI (kk := 4) d_196_15 ow_196 f_12_23 la_146 (by decide) rfl) ?_
    refine zl_tr (r_VV [zm_A 146, zm_I 1, zm_I (h3 146 4)] d_196_18 ow_196 cal_12_257 na_164 rfl rfl (Nat.le_of_ble_eq_true rfl) (by rw [rk_164]; decide) (zr_rcv la_146 ow_164) (zr_im mx_164 rfl (Nat.le_of_ble_eq_true rfl)) rt_164) (zl_V (fun h4 => ?_))
    refine zl_tr (r_aload_n d_196_21 rfl) ?_
    refine zl_tr (r_getI (kk := 8) d_196_22 ow_196 f_12_36 la_146 (by decide) rfl) ?_
    refine zl_tr (r_if_ne (tgt := 32) d_196_25 (by decide)) (zl_if ?_ ?_)
    · skip
      refine zl_tr (r_aload_n d_196_28 rfl) ?_
      refine zl_tr (r_VV [zm_A 146] d_196_29 ow_196 cal_12_274 na_159 rfl rfl (Nat.le_of_ble_eq_true rfl) (by rw [rk_159]; decide) (zr_rcv la_146 ow_159) (zr_im mx_159 rfl (Nat.le_of_ble_eq_true rfl)) rt_159) (zl_V (fun h5 => ?_))
      exact r_vret d_196_32 rt_196
    · skip
      exact r_vret d_196_32 rt_196
  · skip
    refine zl_tr (r_aload_n d_196_21 rfl) ?_
    refine zl_tr (r_getI (kk := 8) d_196_22 ow_196 f_12_36 la_146 (by decide) rfl) ?_
    refine zl_tr (r_if_ne (tgt := 32) d_196_25 (by decide)) (zl_if ?_ ?_)
    · skip
      refine zl_tr (r_aload_n d_196_28 rfl) ?_
      refine zl_tr (r_VV [zm_A 146] d_196_29 ow_196 cal_12_274 na_159 rfl rfl (Nat.le_of_ble_eq_true rfl) (by rw [rk_159]; decide) (zr_rcv la_146 ow_159) (zr_im mx_159 rfl (Nat.le_of_ble_eq_true rfl)) rt_159) (zl_V (fun h6 => ?_))
      exact r_vret d_196_32 rt_196
    · skip
      exact r_vret d_196_32 rt_196
-- BranTubModel.begin
set_option maxRecDepth 20000 in
theorem e_197 {h : zm_H}  : zl (zm_ck (0 ≤ 0 ∧ 0 < ((22 : Nat) : Int)) (zm_ck (0 ≤ 0 ∧ 0 < ((22 : Nat) : Int)) (zm_ck (0 ≤ 0 ∧ 0 < ((22 : Nat) : Int)) (zm_ck (zm_bit 0) (zr none 1 197 33 [zm_A 146, zm_I 0] [] (zm_wr (zm_wr (zm_wr (zm_wr (zm_wr h 174 0 0) 175 0 0) 179 0 0) 146 57 0) 146 70 0)))))) (zc 197 [zm_A 146] h) := by
  rw [zc_eq (loc := [zm_A 146, zm_U]) (rk_197 _) rfl]
  refine zl_tr (r_aload_n d_197_0 rfl) ?_
  refine zl_tr (r_getR d_197_1 ow_197 f_12_153 la_146 (by decide) fr_146_46) ?_
  refine zl_tr (r_iconst d_197_4 (by decide)) ?_
  refine zl_tr (r_iconst d_197_5 (by decide)) ?_
  refine zl_tr (r_iastore d_197_6 la_174) (zl_ck ?_)
  refine zl_tr (r_aload_n d_197_7 rfl) ?_
  refine zl_tr (r_getR d_197_8 ow_197 f_12_156 la_146 (by decide) fr_146_47) ?_
  refine zl_tr (r_iconst d_197_11 (by decide)) ?_
  refine zl_tr (r_iconst d_197_12 (by decide)) ?_
  refine zl_tr (r_iastore d_197_13 la_175) (zl_ck ?_)
  refine zl_tr (r_aload_n d_197_14 rfl) ?_
  refine zl_tr (r_getR d_197_15 ow_197 f_12_168 la_146 (by decide) fr_146_51) ?_
  refine zl_tr (r_iconst d_197_18 (by decide)) ?_
  refine zl_tr (r_iconst d_197_19 (by decide)) ?_
  refine zl_tr (r_iastore d_197_20 la_179) (zl_ck ?_)
  refine zl_tr (r_aload_n d_197_21 rfl) ?_
  refine zl_tr (r_iconst d_197_22 (by decide)) ?_
  refine zl_tr (r_putI (kk := 57) d_197_23 ow_197 f_12_186 la_146 (by decide) rfl) ?_
  refine zl_tr (r_aload_n d_197_26 rfl) ?_
  refine zl_tr (r_iconst d_197_27 (by decide)) ?_
  refine zl_tr (r_putZ (kk := 70) d_197_28 ow_197 f_12_225 la_146 (by decide) rfl) (zl_ck ?_)
  refine zl_tr (r_iconst d_197_31 (by decide)) ?_
  refine zl_tr (r_istore_n (loc' := [zm_A 146, zm_I 0]) d_197_32 (Nat.le_of_ble_eq_true rfl) rfl) ?_
  exact zl_rf
-- BranTubModel.begin, from 33
set_option maxRecDepth 20000 in
theorem e_197_33 {h : zm_H} {x1 : Int} : zl (if x1 < 40 then (zm_ck ((8 : Int) ≠ 0 ∧ zm_i32 (x1.tdiv 8)) (zm_ck (0 ≤ (h 146 13) ∧ (h 146 13) < ((2 : Nat) : Int)) (if (x1.tdiv 8) < (h 151 (h 146 13)) then (zm_ck ((8 : Int) ≠ 0 ∧ zm_i32 (x1.tdiv 8) ∧ zm_i32 (x1.tmod 8)) (zm_ck (0 ≤ (h 146 13) ∧ (h 146 13) < ((2 : Nat) : Int)) (if (x1.tmod 8) < (h 148 (h 146 13)) then (zm_ck (zm_i32 (40 * (h 146 13))) (zm_ck (zm_i32 ((40 * (h 146 13)) + x1)) (zm_ck (0 ≤ ((40 * (h 146 13)) + x1) ∧ ((40 * (h 146 13)) + x1) < ((80 : Nat) : Int)) (zm_ck (0 ≤ x1 ∧ x1 < ((880 : Nat) : Int)) (zm_ck (zm_i32 (x1 + 1)) (zr none 1 197 33 [zm_A 146, zm_I (x1 + 1)] [] (zm_wr h 176 x1 (h 152 ((40 * (h 146 13)) + x1))))))))) else (zm_ck (0 ≤ x1 ∧ x1 < ((880 : Nat) : Int)) (zm_ck (zm_i32 (x1 + 1)) (zr none 1 197 33 [zm_A 146, zm_I (x1 + 1)] [] (zm_wr h 176 x1 0))))))) else (zm_ck (0 ≤ x1 ∧ x1 < ((880 : Nat) : Int)) (zm_ck (zm_i32 (x1 + 1)) (zr none 1 197 33 [zm_A 146, zm_I (x1 + 1)] [] (zm_wr h 176 x1 0))))))) else (zr none 1 197 103 [zm_A 146, zm_I 0] [] h)) (zr none 1 197 33 [zm_A 146, zm_I x1] [] h) := by
  refine zl_tr (r_iload_n d_197_33 rfl) ?_
  refine zl_tr (r_bipush d_197_34 (by decide)) ?_
  refine zl_tr (r_icmp_ge (tgt := 101) d_197_36 (by decide)) (zl_if ?_ ?_)
  · skip
    refine zl_tr (r_aload_n d_197_39 rfl) ?_
    refine zl_tr (r_getR d_197_40 ow_197 f_12_159 la_146 (by decide) fr_146_48) ?_
    refine zl_tr (r_iload_n d_197_43 rfl) ?_
    refine zl_tr (r_iload_n d_197_44 rfl) ?_
    refine zl_tr (r_bipush d_197_45 (by decide)) ?_
    refine zl_tr (r_idiv d_197_47) (zl_ck ?_)
    refine zl_tr (r_aload_n d_197_48 rfl) ?_
    refine zl_tr (r_getR d_197_49 ow_197 f_12_63 la_146 (by decide) fr_146_17) ?_
    refine zl_tr (r_aload_n d_197_52 rfl) ?_
    refine zl_tr (r_getI (kk := 13) d_197_53 ow_197 f_12_51 la_146 (by decide) rfl) ?_
    refine zl_tr (r_iaload d_197_56 la_151) (zl_ck ?_)
    refine zl_tr (r_icmp_ge (tgt := 93) d_197_57 (by decide)) (zl_if ?_ ?_)
    · skip
      refine zl_tr (r_iload_n d_197_60 rfl) ?_
      refine zl_tr (r_bipush d_197_61 (by decide)) ?_
      refine zl_tr (r_irem d_197_63) (zl_ck ?_)
      refine zl_tr (r_aload_n d_197_64 rfl) ?_
      refine zl_tr (r_getR d_197_65 ow_197 f_12_54 la_146 (by decide) fr_146_14) ?_
      refine zl_tr (r_aload_n d_197_68 rfl) ?_
      refine zl_tr (r_getI (kk := 13) d_197_69 ow_197 f_12_51 la_146 (by decide) rfl) ?_
      refine zl_tr (r_iaload d_197_72 la_148) (zl_ck ?_)
      refine zl_tr (r_icmp_ge (tgt := 93) d_197_73 (by decide)) (zl_if ?_ ?_)
      · skip
        refine zl_tr (r_aload_n d_197_76 rfl) ?_
        refine zl_tr (r_getR d_197_77 ow_197 f_12_66 la_146 (by decide) fr_146_18) ?_
        refine zl_tr (r_bipush d_197_80 (by decide)) ?_
        refine zl_tr (r_aload_n d_197_82 rfl) ?_
        refine zl_tr (r_getI (kk := 13) d_197_83 ow_197 f_12_51 la_146 (by decide) rfl) ?_
        refine zl_tr (r_imul d_197_86) (zl_ck ?_)
        refine zl_tr (r_iload_n d_197_87 rfl) ?_
        refine zl_tr (r_iadd d_197_88) (zl_ck ?_)
        refine zl_tr (r_iaload d_197_89 la_152) (zl_ck ?_)
        refine zl_tr (r_goto (tgt := 94) d_197_90 (by decide)) ?_
        refine zl_tr (r_iastore d_197_94 la_176) (zl_ck ?_)
        refine zl_tr (r_iinc (loc' := [zm_A 146, zm_I (x1 + 1)]) d_197_95 rfl (Nat.le_of_ble_eq_true rfl) rfl) (zl_ck ?_)
        refine zl_tr (r_goto (tgt := 33) d_197_98 (by decide)) ?_
        exact zl_rf
      · skip
        refine zl_tr (r_iconst d_197_93 (by decide)) ?_
        refine zl_tr (r_iastore d_197_94 la_176) (zl_ck ?_)
        refine zl_tr (r_iinc (loc' := [zm_A 146, zm_I (x1 + 1)]) d_197_95 rfl (Nat.le_of_ble_eq_true rfl) rfl) (zl_ck ?_)
        refine zl_tr (r_goto (tgt := 33) d_197_98 (by decide)) ?_
        exact zl_rf
    · skip
      refine zl_tr (r_iconst d_197_93 (by decide)) ?_
      refine zl_tr (r_iastore d_197_94 la_176) (zl_ck ?_)
      refine zl_tr (r_iinc (loc' := [zm_A 146, zm_I (x1 + 1)]) d_197_95 rfl (Nat.le_of_ble_eq_true rfl) rfl) (zl_ck ?_)
      refine zl_tr (r_goto (tgt := 33) d_197_98 (by decide)) ?_
      exact zl_rf
  · skip
    refine zl_tr (r_iconst d_197_101 (by decide)) ?_
    refine zl_tr (r_istore_n (loc' := [zm_A 146, zm_I 0]) d_197_102 (Nat.le_of_ble_eq_true rfl) rfl) ?_
    exact zl_rf
-- BranTubModel.begin, from 103
set_option maxRecDepth 20000 in
theorem e_197_103 {h : zm_H} {x1 : Int} : zl (if x1 < 8 then (zm_ck (0 ≤ (h 146 13) ∧ (h 146 13) < ((2 : Nat) : Int)) (zm_ck (0 ≤ x1 ∧ x1 < ((176 : Nat) : Int)) (zm_ck (zm_i32 (x1 + 1)) (zr none 1 197 103 [zm_A 146, zm_I (x1 + 1)] [] (zm_wr h 177 x1 (h 158 (h 146 13))))))) else (zr none 1 197 132 [zm_A 146, zm_I 0] [] h)) (zr none 1 197 103 [zm_A 146, zm_I x1] [] h) := by
  refine zl_tr (r_iload_n d_197_103 rfl) ?_
  refine zl_tr (r_bipush d_197_104 (by decide)) ?_
  refine zl_tr (r_icmp_ge (tgt := 130) d_197_106 (by decide)) (zl_if ?_ ?_)
  · skip
    refine zl_tr (r_aload_n d_197_109 rfl) ?_
    refine zl_tr (r_getR d_197_110 ow_197 f_12_162 la_146 (by decide) fr_146_49) ?_
    refine zl_tr (r_iload_n d_197_113 rfl) ?_
    refine zl_tr (r_aload_n d_197_114 rfl) ?_
    refine zl_tr (r_getR d_197_115 ow_197 f_12_84 la_146 (by decide) fr_146_24) ?_
    refine zl_tr (r_aload_n d_197_118 rfl) ?_
    refine zl_tr (r_getI (kk := 13) d_197_119 ow_197 f_12_51 la_146 (by decide) rfl) ?_
    refine zl_tr (r_iaload d_197_122 la_158) (zl_ck ?_)
    refine zl_tr (r_iastore d_197_123 la_177) (zl_ck ?_)
    refine zl_tr (r_iinc (loc' := [zm_A 146, zm_I (x1 + 1)]) d_197_124 rfl (Nat.le_of_ble_eq_true rfl) rfl) (zl_ck ?_)
    refine zl_tr (r_goto (tgt := 103) d_197_127 (by decide)) ?_
    exact zl_rf
  · skip
    refine zl_tr (r_iconst d_197_130 (by decide)) ?_
    refine zl_tr (r_istore_n (loc' := [zm_A 146, zm_I 0]) d_197_131 (Nat.le_of_ble_eq_true rfl) rfl) ?_
    exact zl_rf
-- BranTubModel.begin, from 132
set_option maxRecDepth 20000 in
theorem e_197_132 {h : zm_H} {x1 : Int} : zl (if x1 < 64 then (zm_ck (0 ≤ x1 ∧ x1 < ((1408 : Nat) : Int)) (zm_ck (zm_i32 (x1 + 1)) (zr none 1 197 132 [zm_A 146, zm_I (x1 + 1)] [] (zm_wr h 178 x1 0)))) else (some (zm_U, h))) (zr none 1 197 132 [zm_A 146, zm_I x1] [] h) := by
  refine zl_tr (r_iload_n d_197_132 rfl) ?_
  refine zl_tr (r_bipush d_197_133 (by decide)) ?_
  refine zl_tr (r_icmp_ge (tgt := 151) d_197_135 (by decide)) (zl_if ?_ ?_)
  · skip
    refine zl_tr (r_aload_n d_197_138 rfl) ?_
    refine zl_tr (r_getR d_197_139 ow_197 f_12_165 la_146 (by decide) fr_146_50) ?_
    refine zl_tr (r_iload_n d_197_142 rfl) ?_
    refine zl_tr (r_iconst d_197_143 (by decide)) ?_
    refine zl_tr (r_iastore d_197_144 la_178) (zl_ck ?_)
    refine zl_tr (r_iinc (loc' := [zm_A 146, zm_I (x1 + 1)]) d_197_145 rfl (Nat.le_of_ble_eq_true rfl) rfl) (zl_ck ?_)
    refine zl_tr (r_goto (tgt := 132) d_197_148 (by decide)) ?_
    exact zl_rf
  · skip
    exact r_vret d_197_151 rt_197
-- BranTubModel.fault
set_option maxRecDepth 20000 in
theorem e_198 {h : zm_H} {x1 : Int} : zl (if x1 = 0 then (some (zm_I (h 146 10), h)) else (if x1 = 1 then (some (zm_I (h 146 11), h)) else (some (zm_I (-1), h)))) (zc 198 [zm_A 146, zm_I x1] h) := by
  rw [zc_eq (loc := [zm_A 146, zm_I x1]) (rk_198 _) rfl]
  refine zl_tr (r_iload_n d_198_0 rfl) ?_
  refine zl_tr (r_if_ne (tgt := 11) d_198_1 (by decide)) (zl_if ?_ ?_)
  · skip
    refine zl_tr (r_aload_n d_198_4 rfl) ?_
    refine zl_tr (r_getI (kk := 10) d_198_5 ow_198 f_12_42 la_146 (by decide) rfl) ?_
    refine zl_tr (r_goto (tgt := 24) d_198_8 (by decide)) ?_
    exact r_iret d_198_24 rt_198
  · skip
    refine zl_tr (r_iload_n d_198_11 rfl) ?_
    refine zl_tr (r_iconst d_198_12 (by decide)) ?_
    refine zl_tr (r_icmp_ne (tgt := 23) d_198_13 (by decide)) (zl_if ?_ ?_)
    · skip
      refine zl_tr (r_aload_n d_198_16 rfl) ?_
      refine zl_tr (r_getI (kk := 11) d_198_17 ow_198 f_12_45 la_146 (by decide) rfl) ?_
      refine zl_tr (r_goto (tgt := 24) d_198_20 (by decide)) ?_
      exact r_iret d_198_24 rt_198
    · skip
      refine zl_tr (r_iconst d_198_23 (by decide)) ?_
      exact r_iret d_198_24 rt_198
-- BranTubModel.status
set_option maxRecDepth 20000 in
theorem e_199 {h : zm_H} {x1 : Int} : zl (zk_I (zc 175 [zm_I x1, zm_I 0, zm_I 5] h) (fun v1 h2 => if v1 = 0 then (some (zm_I (-1), h2)) else (zm_ck (0 ≤ x1 ∧ x1 < ((6 : Nat) : Int)) (some (zm_I (h2 173 x1), h2))))) (zc 199 [zm_A 146, zm_I x1] h) := by
  rw [zc_eq (loc := [zm_A 146, zm_I x1]) (rk_199 _) rfl]
  refine zl_tr (r_iload_n d_199_0 rfl) ?_
  refine zl_tr (r_iconst d_199_1 (by decide)) ?_
  refine zl_tr (r_iconst d_199_2 (by decide)) ?_
  refine zl_tr (r_SI [zm_I x1, zm_I 0, zm_I 5] d_199_3 ow_199 cal_12_335 (by decide) na_175 rfl rfl (Nat.le_of_ble_eq_true rfl) (by rw [rk_175]; decide) (zr_im mx_175 rfl (Nat.le_of_ble_eq_true rfl)) (by rw [rt_175]; decide)) (zl_I (fun v1 h2 => ?_))
  refine zl_tr (r_if_eq (tgt := 18) d_199_6 (by decide)) (zl_if ?_ ?_)
  · skip
    refine zl_tr (r_iconst d_199_18 (by decide)) ?_
    exact r_iret d_199_19 rt_199
  · skip
    refine zl_tr (r_aload_n d_199_9 rfl) ?_
    refine zl_tr (r_getR d_199_10 ow_199 f_12_150 la_146 (by decide) fr_146_45) ?_
    refine zl_tr (r_iload_n d_199_13 rfl) ?_
    refine zl_tr (r_iaload d_199_14 la_173) (zl_ck ?_)
    refine zl_tr (r_goto (tgt := 19) d_199_15 (by decide)) ?_
    exact r_iret d_199_19 rt_199
-- BranTubModel.undo
set_option maxRecDepth 20000 in
theorem e_200 {h : zm_H}  : zl (if (h 146 57) = 0 then (zk_I (zc 155 [zm_A 146, zm_I 4] h) (fun v1 h2 => if v1 < 0 then (zm_ck (zm_bit 0) (some (zm_I 0, h2))) else (zm_ck (zm_bit 1) (some (zm_I 1, h2))))) else (zm_ck (zm_i32 ((h 146 57) - 1)) (zk_I (zc 201 [zm_A 146, zm_I ((zm_wr h 146 57 ((h 146 57) - 1)) 146 57)] (zm_wr h 146 57 ((h 146 57) - 1))) (fun v3 h4 => zk_V (zc 202 [zm_A 146, zm_I 0, zm_I v3] h4) (fun h5 => zm_ck (zm_bit 1) (some (zm_I 1, h5))))))) (zc 200 [zm_A 146] h) := by
  rw [zc_eq (loc := [zm_A 146]) (rk_200 _) rfl]
  refine zl_tr (r_aload_n d_200_0 rfl) ?_
  refine zl_tr (r_getI (kk := 57) d_200_1 ow_200 f_12_186 la_146 (by decide) rfl) ?_
  refine zl_tr (r_if_ne (tgt := 21) d_200_4 (by decide)) (zl_if ?_ ?_)
  · skip
    refine zl_tr (r_aload_n d_200_7 rfl) ?_
    refine zl_tr (r_iconst d_200_8 (by decide)) ?_
    refine zl_tr (r_VI [zm_A 146, zm_I 4] d_200_9 ow_200 cal_12_249 na_155 rfl rfl (Nat.le_of_ble_eq_true rfl) (by rw [rk_155]; decide) (zr_rcv la_146 ow_155) (zr_im mx_155 rfl (Nat.le_of_ble_eq_true rfl)) (by rw [rt_155]; decide)) (zl_I (fun v1 h2 => ?_))
    refine zl_tr (r_if_lt (tgt := 19) d_200_12 (by decide)) (zl_if ?_ ?_)
    · skip
      refine zl_tr (r_iconst d_200_19 (by decide)) ?_
      exact r_zret d_200_20 rt_200
    · skip
      refine zl_tr (r_iconst d_200_15 (by decide)) ?_
      refine zl_tr (r_goto (tgt := 20) d_200_16 (by decide)) ?_
      exact r_zret d_200_20 rt_200
  · skip
    refine zl_tr (r_aload_n d_200_21 rfl) ?_
    refine zl_tr (r_dup d_200_22 rfl) ?_
    refine zl_tr (r_getI (kk := 57) d_200_23 ow_200 f_12_186 la_146 (by decide) rfl) ?_
    refine zl_tr (r_iconst d_200_26 (by decide)) ?_
    refine zl_tr (r_isub d_200_27) (zl_ck ?_)
    refine zl_tr (r_putI (kk := 57) d_200_28 ow_200 f_12_186 la_146 (by decide) rfl) ?_
    refine zl_tr (r_aload_n d_200_31 rfl) ?_
    refine zl_tr (r_iconst d_200_32 (by decide)) ?_
    refine zl_tr (r_aload_n d_200_33 rfl) ?_
    refine zl_tr (r_aload_n d_200_34 rfl) ?_
    refine zl_tr (r_getI (kk := 57) d_200_35 ow_200 f_12_186 la_146 (by decide) rfl) ?_
    refine zl_tr (r_VI [zm_A 146, zm_I ((zm_wr h 146 57 ((h 146 57) - 1)) 146 57)] d_200_38 ow_200 cal_12_434 na_201 rfl rfl (Nat.le_of_ble_eq_true rfl) (by rw [rk_201]; decide) (zr_rcv la_146 ow_201) (zr_im mx_201 rfl (Nat.le_of_ble_eq_true rfl)) (by rw [rt_201]; decide)) (zl_I (fun v3 h4 => ?_))
    refine zl_tr (r_VV [zm_A 146, zm_I 0, zm_I v3] d_200_41 ow_200 cal_12_437 na_202 rfl rfl (Nat.le_of_ble_eq_true rfl) (by rw [rk_202]; decide) (zr_rcv la_146 ow_202) (zr_im mx_202 rfl (Nat.le_of_ble_eq_true rfl)) rt_202) (zl_V (fun h5 => ?_))
    refine zl_tr (r_iconst d_200_44 (by decide)) ?_
    exact r_zret d_200_45 rt_200
-- BranTubModel.slot
set_option maxRecDepth 20000 in
theorem e_201 {h : zm_H} {x1 : Int} : zl (zm_ck (zm_i32 ((h 146 56) + x1)) (zm_ck ((20 : Int) ≠ 0 ∧ zm_i32 (((h 146 56) + x1).tdiv 20) ∧ zm_i32 (((h 146 56) + x1).tmod 20)) (zm_ck (zm_i32 (2 + (((h 146 56) + x1).tmod 20))) (some (zm_I (2 + (((h 146 56) + x1).tmod 20)), h))))) (zc 201 [zm_A 146, zm_I x1] h) := by
  rw [zc_eq (loc := [zm_A 146, zm_I x1]) (rk_201 _) rfl]
  refine zl_tr (r_iconst d_201_0 (by decide)) ?_
  refine zl_tr (r_aload_n d_201_1 rfl) ?_
  refine zl_tr (r_getI (kk := 56) d_201_2 ow_201 f_12_183 la_146 (by decide) rfl) ?_
  refine zl_tr (r_iload_n d_201_5 rfl) ?_
  refine zl_tr (r_iadd d_201_6) (zl_ck ?_)
  refine zl_tr (r_bipush d_201_7 (by decide)) ?_
  refine zl_tr (r_irem d_201_9) (zl_ck ?_)
  refine zl_tr (r_iadd d_201_10) (zl_ck ?_)
  exact r_iret d_201_11 rt_201
-- BranTubModel.copies
set_option maxRecDepth 20000 in
theorem e_202 {h : zm_H} {x1 : Int} {x2 : Int} : zl (zm_ck (0 ≤ x2 ∧ x2 < ((22 : Nat) : Int)) (zm_ck (0 ≤ x1 ∧ x1 < ((22 : Nat) : Int)) (zm_ck (0 ≤ x2 ∧ x2 < ((22 : Nat) : Int)) (zm_ck (0 ≤ x1 ∧ x1 < ((22 : Nat) : Int)) (zr none 1 202 26 [zm_A 146, zm_I x1, zm_I x2, zm_I 0] [] (zm_wr (zm_wr h 174 x1 (h 174 x2)) 175 x1 ((zm_wr h 174 x1 (h 174 x2)) 175 x2))))))) (zc 202 [zm_A 146, zm_I x1, zm_I x2] h) := by
  rw [zc_eq (loc := [zm_A 146, zm_I x1, zm_I x2, zm_U]) (rk_202 _) rfl]
  refine zl_tr (r_aload_n d_202_0 rfl) ?_
  refine zl_tr (r_getR d_202_1 ow_202 f_12_153 la_146 (by decide) fr_146_46) ?_
  refine zl_tr (r_iload_n d_202_4 rfl) ?_
  refine zl_tr (r_aload_n d_202_5 rfl) ?_
  refine zl_tr (r_getR d_202_6 ow_202 f_12_153 la_146 (by decide) fr_146_46) ?_
  refine zl_tr (r_iload_n d_202_9 rfl) ?_
  refine zl_tr (r_iaload d_202_10 la_174) (zl_ck ?_)
  refine zl_tr (r_iastore d_202_11 la_174) (zl_ck ?_)
  refine zl_tr (r_aload_n d_202_12 rfl) ?_
  refine zl_tr (r_getR d_202_13 ow_202 f_12_156 la_146 (by decide) fr_146_47) ?_
  refine zl_tr (r_iload_n d_202_16 rfl) ?_
  refine zl_tr (r_aload_n d_202_17 rfl) ?_
  refine zl_tr (r_getR d_202_18 ow_202 f_12_156 la_146 (by decide) fr_146_47) ?_
  refine zl_tr (r_iload_n d_202_21 rfl) ?_
  refine zl_tr (r_iaload d_202_22 la_175) (zl_ck ?_)
  refine zl_tr (r_iastore d_202_23 la_175) (zl_ck ?_)
  refine zl_tr (r_iconst d_202_24 (by decide)) ?_
  refine zl_tr (r_istore_n (loc' := [zm_A 146, zm_I x1, zm_I x2, zm_I 0]) d_202_25 (Nat.le_of_ble_eq_true rfl) rfl) ?_
  exact zl_rf
-- BranTubModel.copies, from 26
set_option maxRecDepth 20000 in
theorem e_202_26 {h : zm_H} {x1 : Int} {x2 : Int} {x3 : Int} : zl (if x3 < 40 then (zm_ck (zm_i32 (40 * x1)) (zm_ck (zm_i32 ((40 * x1) + x3)) (zm_ck (zm_i32 (40 * x2)) (zm_ck (zm_i32 ((40 * x2) + x3)) (zm_ck (0 ≤ ((40 * x2) + x3) ∧ ((40 * x2) + x3) < ((880 : Nat) : Int)) (zm_ck (0 ≤ ((40 * x1) + x3) ∧ ((40 * x1) + x3) < ((880 : Nat) : Int)) (zm_ck (zm_i32 (x3 + 1)) (zr none 1 202 26 [zm_A 146, zm_I x1, zm_I x2, zm_I (x3 + 1)] [] (zm_wr h 176 ((40 * x1) + x3) (h 176 ((40 * x2) + x3))))))))))) else (zr none 1 202 62 [zm_A 146, zm_I x1, zm_I x2, zm_I 0] [] h)) (zr none 1 202 26 [zm_A 146, zm_I x1, zm_I x2, zm_I x3] [] h) := by
  refine zl_tr (r_iload_n d_202_26 rfl) ?_
  refine zl_tr (r_bipush d_202_27 (by decide)) ?_
  refine zl_tr (r_icmp_ge (tgt := 60) d_202_29 (by decide)) (zl_if ?_ ?_)
  · skip
    refine zl_tr (r_aload_n d_202_32 rfl) ?_
    refine zl_tr (r_getR d_202_33 ow_202 f_12_159 la_146 (by decide) fr_146_48) ?_
    refine zl_tr (r_bipush d_202_36 (by decide)) ?_
    refine zl_tr (r_iload_n d_202_38 rfl) ?_
    refine zl_tr (r_imul d_202_39) (zl_ck ?_)
    refine zl_tr (r_iload_n d_202_40 rfl) ?_
    refine zl_tr (r_iadd d_202_41) (zl_ck ?_)
    refine zl_tr (r_aload_n d_202_42 rfl) ?_
    refine zl_tr (r_getR d_202_43 ow_202 f_12_159 la_146 (by decide) fr_146_48) ?_
    refine zl_tr (r_bipush d_202_46 (by decide)) ?_
    refine zl_tr (r_iload_n d_202_48 rfl) ?_
    refine zl_tr (r_imul d_202_49) (zl_ck ?_)
    refine zl_tr (r_iload_n d_202_50 rfl) ?_
    refine zl_tr (r_iadd d_202_51) (zl_ck ?_)
    refine zl_tr (r_iaload d_202_52 la_176) (zl_ck ?_)
    refine zl_tr (r_iastore d_202_53 la_176) (zl_ck ?_)
    refine zl_tr (r_iinc (loc' := [zm_A 146, zm_I x1, zm_I x2, zm_I (x3 + 1)]) d_202_54 rfl (Nat.le_of_ble_eq_true rfl) rfl) (zl_ck ?_)
    refine zl_tr (r_goto (tgt := 26) d_202_57 (by decide)) ?_
    exact zl_rf
  · skip
    refine zl_tr (r_iconst d_202_60 (by decide)) ?_
    refine zl_tr (r_istore_n (loc' := [zm_A 146, zm_I x1, zm_I x2, zm_I 0]) d_202_61 (Nat.le_of_ble_eq_true rfl) rfl) ?_
    exact zl_rf
-- BranTubModel.copies, from 62
set_option maxRecDepth 20000 in
theorem e_202_62 {h : zm_H} {x1 : Int} {x2 : Int} {x3 : Int} : zl (if x3 < 8 then (zm_ck (zm_i32 (8 * x1)) (zm_ck (zm_i32 ((8 * x1) + x3)) (zm_ck (zm_i32 (8 * x2)) (zm_ck (zm_i32 ((8 * x2) + x3)) (zm_ck (0 ≤ ((8 * x2) + x3) ∧ ((8 * x2) + x3) < ((176 : Nat) : Int)) (zm_ck (0 ≤ ((8 * x1) + x3) ∧ ((8 * x1) + x3) < ((176 : Nat) : Int)) (zm_ck (zm_i32 (x3 + 1)) (zr none 1 202 62 [zm_A 146, zm_I x1, zm_I x2, zm_I (x3 + 1)] [] (zm_wr h 177 ((8 * x1) + x3) (h 177 ((8 * x2) + x3))))))))))) else (zr none 1 202 98 [zm_A 146, zm_I x1, zm_I x2, zm_I 0] [] h)) (zr none 1 202 62 [zm_A 146, zm_I x1, zm_I x2, zm_I x3] [] h) := by
  refine zl_tr (r_iload_n d_202_62 rfl) ?_
  refine zl_tr (r_bipush d_202_63 (by decide)) ?_
  refine zl_tr (r_icmp_ge (tgt := 96) d_202_65 (by decide)) (zl_if ?_ ?_)
  · skip
    refine zl_tr (r_aload_n d_202_68 rfl) ?_
    refine zl_tr (r_getR d_202_69 ow_202 f_12_162 la_146 (by decide) fr_146_49) ?_
    refine zl_tr (r_bipush d_202_72 (by decide)) ?_
    refine zl_tr (r_iload_n d_202_74 rfl) ?_
    refine zl_tr (r_imul d_202_75) (zl_ck ?_)
    refine zl_tr (r_iload_n d_202_76 rfl) ?_
    refine zl_tr (r_iadd d_202_77) (zl_ck ?_)
    refine zl_tr (r_aload_n d_202_78 rfl) ?_
    refine zl_tr (r_getR d_202_79 ow_202 f_12_162 la_146 (by decide) fr_146_49) ?_
    refine zl_tr (r_bipush d_202_82 (by decide)) ?_
    refine zl_tr (r_iload_n d_202_84 rfl) ?_
    refine zl_tr (r_imul d_202_85) (zl_ck ?_)
    refine zl_tr (r_iload_n d_202_86 rfl) ?_
    refine zl_tr (r_iadd d_202_87) (zl_ck ?_)
    refine zl_tr (r_iaload d_202_88 la_177) (zl_ck ?_)
    refine zl_tr (r_iastore d_202_89 la_177) (zl_ck ?_)
    refine zl_tr (r_iinc (loc' := [zm_A 146, zm_I x1, zm_I x2, zm_I (x3 + 1)]) d_202_90 rfl (Nat.le_of_ble_eq_true rfl) rfl) (zl_ck ?_)
    refine zl_tr (r_goto (tgt := 62) d_202_93 (by decide)) ?_
    exact zl_rf
  · skip
    refine zl_tr (r_iconst d_202_96 (by decide)) ?_
    refine zl_tr (r_istore_n (loc' := [zm_A 146, zm_I x1, zm_I x2, zm_I 0]) d_202_97 (Nat.le_of_ble_eq_true rfl) rfl) ?_
    exact zl_rf
-- BranTubModel.copies, from 98
set_option maxRecDepth 20000 in
theorem e_202_98 {h : zm_H} {x1 : Int} {x2 : Int} {x3 : Int} : zl (if x3 < 64 then (zm_ck (zm_i32 (64 * x1)) (zm_ck (zm_i32 ((64 * x1) + x3)) (zm_ck (zm_i32 (64 * x2)) (zm_ck (zm_i32 ((64 * x2) + x3)) (zm_ck (0 ≤ ((64 * x2) + x3) ∧ ((64 * x2) + x3) < ((1408 : Nat) : Int)) (zm_ck (0 ≤ ((64 * x1) + x3) ∧ ((64 * x1) + x3) < ((1408 : Nat) : Int)) (zm_ck (zm_i32 (x3 + 1)) (zr none 1 202 98 [zm_A 146, zm_I x1, zm_I x2, zm_I (x3 + 1)] [] (zm_wr h 178 ((64 * x1) + x3) (h 178 ((64 * x2) + x3))))))))))) else (zm_ck (0 ≤ x2 ∧ x2 < ((22 : Nat) : Int)) (zm_ck (0 ≤ x1 ∧ x1 < ((22 : Nat) : Int)) (zr none 1 202 146 [zm_A 146, zm_I x1, zm_I x2, zm_I 0] [] (zm_wr h 179 x1 (h 179 x2)))))) (zr none 1 202 98 [zm_A 146, zm_I x1, zm_I x2, zm_I x3] [] h) := by
  refine zl_tr (r_iload_n d_202_98 rfl) ?_
  refine zl_tr (r_bipush d_202_99 (by decide)) ?_
  refine zl_tr (r_icmp_ge (tgt := 132) d_202_101 (by decide)) (zl_if ?_ ?_)
  · skip
    refine zl_tr (r_aload_n d_202_104 rfl) ?_
    refine zl_tr (r_getR d_202_105 ow_202 f_12_165 la_146 (by decide) fr_146_50) ?_
    refine zl_tr (r_bipush d_202_108 (by decide)) ?_
    refine zl_tr (r_iload_n d_202_110 rfl) ?_
    refine zl_tr (r_imul d_202_111) (zl_ck ?_)
    refine zl_tr (r_iload_n d_202_112 rfl) ?_
    refine zl_tr (r_iadd d_202_113) (zl_ck ?_)
    refine zl_tr (r_aload_n d_202_114 rfl) ?_
    refine zl_tr (r_getR d_202_115 ow_202 f_12_165 la_146 (by decide) fr_146_50) ?_
    refine zl_tr (r_bipush d_202_118 (by decide)) ?_
    refine zl_tr (r_iload_n d_202_120 rfl) ?_
    refine zl_tr (r_imul d_202_121) (zl_ck ?_)
    refine zl_tr (r_iload_n d_202_122 rfl) ?_
    refine zl_tr (r_iadd d_202_123) (zl_ck ?_)
    refine zl_tr (r_iaload d_202_124 la_178) (zl_ck ?_)
    refine zl_tr (r_iastore d_202_125 la_178) (zl_ck ?_)
    refine zl_tr (r_iinc (loc' := [zm_A 146, zm_I x1, zm_I x2, zm_I (x3 + 1)]) d_202_126 rfl (Nat.le_of_ble_eq_true rfl) rfl) (zl_ck ?_)
    refine zl_tr (r_goto (tgt := 98) d_202_129 (by decide)) ?_
    exact zl_rf
  · skip
    refine zl_tr (r_aload_n d_202_132 rfl) ?_
    refine zl_tr (r_getR d_202_133 ow_202 f_12_168 la_146 (by decide) fr_146_51) ?_
    refine zl_tr (r_iload_n d_202_136 rfl) ?_
    refine zl_tr (r_aload_n d_202_137 rfl) ?_
    refine zl_tr (r_getR d_202_138 ow_202 f_12_168 la_146 (by decide) fr_146_51) ?_
    refine zl_tr (r_iload_n d_202_141 rfl) ?_
    refine zl_tr (r_iaload d_202_142 la_179) (zl_ck ?_)
    refine zl_tr (r_iastore d_202_143 la_179) (zl_ck ?_)
    refine zl_tr (r_iconst d_202_144 (by decide)) ?_
    refine zl_tr (r_istore_n (loc' := [zm_A 146, zm_I x1, zm_I x2, zm_I 0]) d_202_145 (Nat.le_of_ble_eq_true rfl) rfl) ?_
    exact zl_rf
-- BranTubModel.copies, from 146
set_option maxRecDepth 20000 in
theorem e_202_146 {h : zm_H} {x1 : Int} {x2 : Int} {x3 : Int} : zl (zm_ck (0 ≤ x2 ∧ x2 < ((22 : Nat) : Int)) (if x3 < (h 179 x2) then (zm_ck (zm_i32 (60 * x1)) (zm_ck (zm_i32 ((60 * x1) + x3)) (zm_ck (zm_i32 (60 * x2)) (zm_ck (zm_i32 ((60 * x2) + x3)) (zm_ck (0 ≤ ((60 * x2) + x3) ∧ ((60 * x2) + x3) < ((1320 : Nat) : Int)) (zm_ck (0 ≤ ((60 * x1) + x3) ∧ ((60 * x1) + x3) < ((1320 : Nat) : Int)) (zm_ck (zm_i32 (60 * x1)) (zm_ck (zm_i32 ((60 * x1) + x3)) (zm_ck (zm_i32 (60 * x2)) (zm_ck (zm_i32 ((60 * x2) + x3)) (zm_ck (0 ≤ ((60 * x2) + x3) ∧ ((60 * x2) + x3) < ((1320 : Nat) : Int)) (zm_ck (0 ≤ ((60 * x1) + x3) ∧ ((60 * x1) + x3) < ((1320 : Nat) : Int)) (zm_ck (zm_i32 (60 * x1)) (zm_ck (zm_i32 ((60 * x1) + x3)) (zm_ck (zm_i32 (60 * x2)) (zm_ck (zm_i32 ((60 * x2) + x3)) (zm_ck (0 ≤ ((60 * x2) + x3) ∧ ((60 * x2) + x3) < ((1320 : Nat) : Int)) (zm_ck (0 ≤ ((60 * x1) + x3) ∧ ((60 * x1) + x3) < ((1320 : Nat) : Int)) (zm_ck (zm_i32 (60 * x1)) (zm_ck (zm_i32 ((60 * x1) + x3)) (zm_ck (zm_i32 (60 * x2)) (zm_ck (zm_i32 ((60 * x2) + x3)) (zm_ck (0 ≤ ((60 * x2) + x3) ∧ ((60 * x2) + x3) < ((1320 : Nat) : Int)) (zm_ck (0 ≤ ((60 * x1) + x3) ∧ ((60 * x1) + x3) < ((1320 : Nat) : Int)) (zm_ck (zm_i32 (x3 + 1)) (zr none 1 202 146 [zm_A 146, zm_I x1, zm_I x2, zm_I (x3 + 1)] [] (zm_wr (zm_wr (zm_wr (zm_wr h 180 ((60 * x1) + x3) (h 180 ((60 * x2) + x3))) 181 ((60 * x1) + x3) ((zm_wr h 180 ((60 * x1) + x3) (h 180 ((60 * x2) + x3))) 181 ((60 * x2) + x3))) 182 ((60 * x1) + x3) ((zm_wr (zm_wr h 180 ((60 * x1) + x3) (h 180 ((60 * x2) + x3))) 181 ((60 * x1) + x3) ((zm_wr h 180 ((60 * x1) + x3) (h 180 ((60 * x2) + x3))) 181 ((60 * x2) + x3))) 182 ((60 * x2) + x3))) 183 ((60 * x1) + x3) ((zm_wr (zm_wr (zm_wr h 180 ((60 * x1) + x3) (h 180 ((60 * x2) + x3))) 181 ((60 * x1) + x3) ((zm_wr h 180 ((60 * x1) + x3) (h 180 ((60 * x2) + x3))) 181 ((60 * x2) + x3))) 182 ((60 * x1) + x3) ((zm_wr (zm_wr h 180 ((60 * x1) + x3) (h 180 ((60 * x2) + x3))) 181 ((60 * x1) + x3) ((zm_wr h 180 ((60 * x1) + x3) (h 180 ((60 * x2) + x3))) 181 ((60 * x2) + x3))) 182 ((60 * x2) + x3))) 183 ((60 * x2) + x3))))))))))))))))))))))))))))) else (some (zm_U, h)))) (zr none 1 202 146 [zm_A 146, zm_I x1, zm_I x2, zm_I x3] [] h) := by
  refine zl_tr (r_iload_n d_202_146 rfl) ?_
  refine zl_tr (r_aload_n d_202_147 rfl) ?_
  refine zl_tr (r_getR d_202_148 ow_202 f_12_168 la_146 (by decide) fr_146_51) ?_
  refine zl_tr (r_iload_n d_202_151 rfl) ?_
  refine zl_tr (r_iaload d_202_152 la_179) (zl_ck ?_)
  refine zl_tr (r_icmp_ge (tgt := 250) d_202_153 (by decide)) (zl_if ?_ ?_)
  · skip
    refine zl_tr (r_aload_n d_202_156 rfl) ?_
    refine zl_tr (r_getR d_202_157 ow_202 f_12_171 la_146 (by decide) fr_146_52) ?_
    refine zl_tr (r_bipush d_202_160 (by decide)) ?_
    refine zl_tr (r_iload_n d_202_162 rfl) ?_
    refine zl_tr (r_imul d_202_163) (zl_ck ?_)
    refine zl_tr (r_iload_n d_202_164 rfl) ?_
    refine zl_tr (r_iadd d_202_165) (zl_ck ?_)
    refine zl_tr (r_aload_n d_202_166 rfl) ?_
    refine zl_tr (r_getR d_202_167 ow_202 f_12_171 la_146 (by decide) fr_146_52) ?_
    refine zl_tr (r_bipush d_202_170 (by decide)) ?_
    refine zl_tr (r_iload_n d_202_172 rfl) ?_
    refine zl_tr (r_imul d_202_173) (zl_ck ?_)
    refine zl_tr (r_iload_n d_202_174 rfl) ?_
    refine zl_tr (r_iadd d_202_175) (zl_ck ?_)
    refine zl_tr (r_iaload d_202_176 la_180) (zl_ck ?_)
    refine zl_tr (r_iastore d_202_177 la_180) (zl_ck ?_)
    refine zl_tr (r_aload_n d_202_178 rfl) ?_
    refine zl_tr (r_getR d_202_179 ow_202 f_12_174 la_146 (by decide) fr_146_53) ?_
    refine zl_tr (r_bipush d_202_182 (by decide)) ?_
    refine zl_tr (r_iload_n d_202_184 rfl) ?_
    refine zl_tr (r_imul d_202_185) (zl_ck ?_)
    refine zl_tr (r_iload_n d_202_186 rfl) ?_
    refine zl_tr (r_iadd d_202_187) (zl_ck ?_)
    refine zl_tr (r_aload_n d_202_188 rfl) ?_
    refine zl_tr (r_getR d_202_189 ow_202 f_12_174 la_146 (by decide) fr_146_53) ?_
    refine zl_tr (r_bipush d_202_192 (by decide)) ?_
    refine zl_tr (r_iload_n d_202_194 rfl) ?_
    refine zl_tr (r_imul d_202_195) (zl_ck ?_)
    refine zl_tr (r_iload_n d_202_196 rfl) ?_
    refine zl_tr (r_iadd d_202_197) (zl_ck ?_)
    refine zl_tr (r_iaload d_202_198 la_181) (zl_ck ?_)
    refine zl_tr (r_iastore d_202_199 la_181) (zl_ck ?_)
    refine zl_tr (r_aload_n d_202_200 rfl) ?_
    refine zl_tr (r_getR d_202_201 ow_202 f_12_177 la_146 (by decide) fr_146_54) ?_
    refine zl_tr (r_bipush d_202_204 (by decide)) ?_
    refine zl_tr (r_iload_n d_202_206 rfl) ?_
    refine zl_tr (r_imul d_202_207) (zl_ck ?_)
    refine zl_tr (r_iload_n d_202_208 rfl) ?_
    refine zl_tr (r_iadd d_202_209) (zl_ck ?_)
    refine zl_tr (r_aload_n d_202_210 rfl) ?_
    refine zl_tr (r_getR d_202_211 ow_202 f_12_177 la_146 (by decide) fr_146_54) ?_
    refine zl_tr (r_bipush d_202_214 (by decide)) ?_
    refine zl_tr (r_iload_n d_202_216 rfl) ?_
    refine zl_tr (r_imul d_202_217) (zl_ck ?_)
    refine zl_tr (r_iload_n d_202_218 rfl) ?_
    refine zl_tr (r_iadd d_202_219) (zl_ck ?_)
    refine zl_tr (r_iaload d_202_220 la_182) (zl_ck ?_)
    refine zl_tr (r_iastore d_202_221 la_182) (zl_ck ?_)
    refine zl_tr (r_aload_n d_202_222 rfl) ?_
    refine zl_tr (r_getR d_202_223 ow_202 f_12_180 la_146 (by decide) fr_146_55) ?_
    refine zl_tr (r_bipush d_202_226 (by decide)) ?_
    refine zl_tr (r_iload_n d_202_228 rfl) ?_
    refine zl_tr (r_imul d_202_229) (zl_ck ?_)
    refine zl_tr (r_iload_n d_202_230 rfl) ?_
    refine zl_tr (r_iadd d_202_231) (zl_ck ?_)
    refine zl_tr (r_aload_n d_202_232 rfl) ?_
    refine zl_tr (r_getR d_202_233 ow_202 f_12_180 la_146 (by decide) fr_146_55) ?_
    refine zl_tr (r_bipush d_202_236 (by decide)) ?_
    refine zl_tr (r_iload_n d_202_238 rfl) ?_
    refine zl_tr (r_imul d_202_239) (zl_ck ?_)
    refine zl_tr (r_iload_n d_202_240 rfl) ?_
    refine zl_tr (r_iadd d_202_241) (zl_ck ?_)
    refine zl_tr (r_iaload d_202_242 la_183) (zl_ck ?_)
    refine zl_tr (r_iastore d_202_243 la_183) (zl_ck ?_)
    refine zl_tr (r_iinc (loc' := [zm_A 146, zm_I x1, zm_I x2, zm_I (x3 + 1)]) d_202_244 rfl (Nat.le_of_ble_eq_true rfl) rfl) (zl_ck ?_)
    refine zl_tr (r_goto (tgt := 146) d_202_247 (by decide)) ?_
    exact zl_rf
  · skip
    exact r_vret d_202_250 rt_202
-- BranTubModel.has
set_option maxRecDepth 20000 in
theorem e_203 {h : zm_H} {x1 : Int} : zl (if x1 = 0 then (zm_ck (0 ≤ (h 146 13) ∧ (h 146 13) < ((2 : Nat) : Int)) (some (zm_I (h 148 (h 146 13)), h))) else (if x1 = 1 then (zm_ck (0 ≤ (h 146 13) ∧ (h 146 13) < ((2 : Nat) : Int)) (some (zm_I (h 151 (h 146 13)), h))) else (if x1 = 2 then (zm_ck (0 ≤ (h 146 13) ∧ (h 146 13) < ((2 : Nat) : Int)) (some (zm_I (h 153 (h 146 13)), h))) else (if x1 = 3 then (zm_ck (0 ≤ 0 ∧ 0 < ((22 : Nat) : Int)) (some (zm_I (h 174 0), h))) else (if x1 = 4 then (zk_I (zc 204 [zm_A 146, zm_I 0] h) (fun v1 h2 => some (zm_I v1, h2))) else (if x1 = 5 then (zm_ck (0 ≤ 0 ∧ 0 < ((22 : Nat) : Int)) (some (zm_I (h 175 0), h))) else (if x1 = 6 then (zk_I (zc 207 [zm_A 146, zm_I 0] h) (fun v3 h4 => some (zm_I v3, h4))) else (if x1 = 7 then (zr none 6 203 122 [zm_A 146, zm_I x1, zm_I 0, zm_I 0] [] h) else (if x1 = 8 then (zr none 6 203 154 [zm_A 146, zm_I x1, zm_I 0, zm_I 0] [] h) else (if x1 = 9 then (zm_ck (0 ≤ 0 ∧ 0 < ((22 : Nat) : Int)) (some (zm_I (h 179 0), h))) else (if x1 = 10 then (some (zm_I (h 146 57), h)) else (if x1 = 11 then (zm_ck (zm_i32 (h 146 58)) (some (zm_I (h 146 58), h))) else (some (zm_I (-1), h)))))))))))))) (zc 203 [zm_A 146, zm_I x1] h) := by
  rw [zc_eq (loc := [zm_A 146, zm_I x1, zm_U, zm_U]) (rk_203 _) rfl]
  refine zl_tr (r_iconst d_203_0 (by decide)) ?_
  refine zl_tr (r_istore_n (loc' := [zm_A 146, zm_I x1, zm_I 0, zm_U]) d_203_1 (Nat.le_of_ble_eq_true rfl) rfl) ?_
  refine zl_tr (r_iload_n d_203_2 rfl) ?_
  refine zl_eq 0 (fun hx => ?_) (fun hx0 => ?_)
  · refine zl_tr (r_tsw (tgt := 64) d_203_3 (by rw [hx]; decide) (by decide)) ?_
    refine zl_tr (r_aload_n d_203_64 rfl) ?_
    refine zl_tr (r_getR d_203_65 ow_203 f_12_54 la_146 (by decide) fr_146_14) ?_
    refine zl_tr (r_aload_n d_203_68 rfl) ?_
    refine zl_tr (r_getI (kk := 13) d_203_69 ow_203 f_12_51 la_146 (by decide) rfl) ?_
    refine zl_tr (r_iaload d_203_72 la_148) (zl_ck ?_)
    exact r_iret d_203_73 rt_203
  refine zl_eq 1 (fun hx => ?_) (fun hx1 => ?_)
  · refine zl_tr (r_tsw (tgt := 74) d_203_3 (by rw [hx]; decide) (by decide)) ?_
    refine zl_tr (r_aload_n d_203_74 rfl) ?_
    refine zl_tr (r_getR d_203_75 ow_203 f_12_63 la_146 (by decide) fr_146_17) ?_
    refine zl_tr (r_aload_n d_203_78 rfl) ?_
    refine zl_tr (r_getI (kk := 13) d_203_79 ow_203 f_12_51 la_146 (by decide) rfl) ?_
    refine zl_tr (r_iaload d_203_82 la_151) (zl_ck ?_)
    exact r_iret d_203_83 rt_203
  refine zl_eq 2 (fun hx => ?_) (fun hx2 => ?_)
  · refine zl_tr (r_tsw (tgt := 84) d_203_3 (by rw [hx]; decide) (by decide)) ?_
    refine zl_tr (r_aload_n d_203_84 rfl) ?_
    refine zl_tr (r_getR d_203_85 ow_203 f_12_69 la_146 (by decide) fr_146_19) ?_
    refine zl_tr (r_aload_n d_203_88 rfl) ?_
    refine zl_tr (r_getI (kk := 13) d_203_89 ow_203 f_12_51 la_146 (by decide) rfl) ?_
    refine zl_tr (r_iaload d_203_92 la_153) (zl_ck ?_)
    exact r_iret d_203_93 rt_203
  refine zl_eq 3 (fun hx => ?_) (fun hx3 => ?_)
  · refine zl_tr (r_tsw (tgt := 94) d_203_3 (by rw [hx]; decide) (by decide)) ?_
    refine zl_tr (r_aload_n d_203_94 rfl) ?_
    refine zl_tr (r_getR d_203_95 ow_203 f_12_153 la_146 (by decide) fr_146_46) ?_
    refine zl_tr (r_iconst d_203_98 (by decide)) ?_
    refine zl_tr (r_iaload d_203_99 la_174) (zl_ck ?_)
    exact r_iret d_203_100 rt_203
  refine zl_eq 4 (fun hx => ?_) (fun hx4 => ?_)
  · refine zl_tr (r_tsw (tgt := 101) d_203_3 (by rw [hx]; decide) (by decide)) ?_
    refine zl_tr (r_aload_n d_203_101 rfl) ?_
    refine zl_tr (r_iconst d_203_102 (by decide)) ?_
    refine zl_tr (r_VI [zm_A 146, zm_I 0] d_203_103 ow_203 cal_12_501 na_204 rfl rfl (Nat.le_of_ble_eq_true rfl) (by rw [rk_204]; decide) (zr_rcv la_146 ow_204) (zr_im mx_204 rfl (Nat.le_of_ble_eq_true rfl)) (by rw [rt_204]; decide)) (zl_I (fun v1 h2 => ?_))
    exact r_iret d_203_106 rt_203
  refine zl_eq 5 (fun hx => ?_) (fun hx5 => ?_)
  · refine zl_tr (r_tsw (tgt := 107) d_203_3 (by rw [hx]; decide) (by decide)) ?_
    refine zl_tr (r_aload_n d_203_107 rfl) ?_
    refine zl_tr (r_getR d_203_108 ow_203 f_12_156 la_146 (by decide) fr_146_47) ?_
    refine zl_tr (r_iconst d_203_111 (by decide)) ?_
    refine zl_tr (r_iaload d_203_112 la_175) (zl_ck ?_)
    exact r_iret d_203_113 rt_203
  refine zl_eq 6 (fun hx => ?_) (fun hx6 => ?_)
  · refine zl_tr (r_tsw (tgt := 114) d_203_3 (by rw [hx]; decide) (by decide)) ?_
    refine zl_tr (r_aload_n d_203_114 rfl) ?_
    refine zl_tr (r_iconst d_203_115 (by decide)) ?_
    refine zl_tr (r_VI [zm_A 146, zm_I 0] d_203_116 ow_203 cal_12_515 na_207 rfl rfl (Nat.le_of_ble_eq_true rfl) (by rw [rk_207]; decide) (zr_rcv la_146 ow_207) (zr_im mx_207 rfl (Nat.le_of_ble_eq_true rfl)) (by rw [rt_207]; decide)) (zl_I (fun v3 h4 => ?_))
    exact r_iret d_203_119 rt_203
  refine zl_eq 7 (fun hx => ?_) (fun hx7 => ?_)
  · refine zl_tr (r_tsw (tgt := 120) d_203_3 (by rw [hx]; decide) (by decide)) ?_
    refine zl_tr (r_iconst d_203_120 (by decide)) ?_
    refine zl_tr (r_istore_n (loc' := [zm_A 146, zm_I x1, zm_I 0, zm_I 0]) d_203_121 (Nat.le_of_ble_eq_true rfl) rfl) ?_
    exact zl_rf
  refine zl_eq 8 (fun hx => ?_) (fun hx8 => ?_)
  · refine zl_tr (r_tsw (tgt := 152) d_203_3 (by rw [hx]; decide) (by decide)) ?_
    refine zl_tr (r_iconst d_203_152 (by decide)) ?_
    refine zl_tr (r_istore_n (loc' := [zm_A 146, zm_I x1, zm_I 0, zm_I 0]) d_203_153 (Nat.le_of_ble_eq_true rfl) rfl) ?_
    exact zl_rf
  refine zl_eq 9 (fun hx => ?_) (fun hx9 => ?_)
  · refine zl_tr (r_tsw (tgt := 183) d_203_3 (by rw [hx]; decide) (by decide)) ?_
    refine zl_tr (r_aload_n d_203_183 rfl) ?_
    refine zl_tr (r_getR d_203_184 ow_203 f_12_168 la_146 (by decide) fr_146_51) ?_
    refine zl_tr (r_iconst d_203_187 (by decide)) ?_
    refine zl_tr (r_iaload d_203_188 la_179) (zl_ck ?_)
    exact r_iret d_203_189 rt_203
  refine zl_eq 10 (fun hx => ?_) (fun hx10 => ?_)
  · refine zl_tr (r_tsw (tgt := 190) d_203_3 (by rw [hx]; decide) (by decide)) ?_
    refine zl_tr (r_aload_n d_203_190 rfl) ?_
    refine zl_tr (r_getI (kk := 57) d_203_191 ow_203 f_12_186 la_146 (by decide) rfl) ?_
    exact r_iret d_203_194 rt_203
  refine zl_eq 11 (fun hx => ?_) (fun hx11 => ?_)
  · refine zl_tr (r_tsw (tgt := 195) d_203_3 (by rw [hx]; decide) (by decide)) ?_
    refine zl_tr (r_aload_n d_203_195 rfl) ?_
    refine zl_tr (r_getL (kk := 58) d_203_196 ow_203 f_12_189 la_146 (by decide) rfl) ?_
    refine zl_tr (r_l2i d_203_199) (zl_ck ?_)
    exact r_iret d_203_200 rt_203
  refine zl_tr (r_tsw (tgt := 201) d_203_3 (by rw [if_pos (by omega)]; decide) (by decide)) ?_
  refine zl_tr (r_iconst d_203_201 (by decide)) ?_
  exact r_iret d_203_202 rt_203
-- BranTubModel.has, from 122
set_option maxRecDepth 20000 in
theorem e_203_122 {h : zm_H} {w1 : zm_V} {x2 : Int} {x3 : Int} (hw1 : zm_cat w1 ≠ 2) : zl (zm_ck (0 ≤ (h 146 13) ∧ (h 146 13) < ((2 : Nat) : Int)) (if x3 < (h 153 (h 146 13)) then (zm_ck (0 ≤ x3 ∧ x3 < ((176 : Nat) : Int)) (zm_ck (zm_i32 (x2 + (h 177 x3))) (zm_ck (zm_i32 (x3 + 1)) (zr none 6 203 122 [zm_A 146, w1, zm_I (x2 + (h 177 x3)), zm_I (x3 + 1)] [] h)))) else (some (zm_I x2, h)))) (zr none 6 203 122 [zm_A 146, w1, zm_I x2, zm_I x3] [] h) := by
  refine zl_tr (r_iload_n d_203_122 rfl) ?_
  refine zl_tr (r_aload_n d_203_123 rfl) ?_
  refine zl_tr (r_getR d_203_124 ow_203 f_12_69 la_146 (by decide) fr_146_19) ?_
  refine zl_tr (r_aload_n d_203_127 rfl) ?_
  refine zl_tr (r_getI (kk := 13) d_203_128 ow_203 f_12_51 la_146 (by decide) rfl) ?_
  refine zl_tr (r_iaload d_203_131 la_153) (zl_ck ?_)
  refine zl_tr (r_icmp_ge (tgt := 150) d_203_132 (by decide)) (zl_if ?_ ?_)
  · skip
    refine zl_tr (r_iload_n d_203_135 rfl) ?_
    refine zl_tr (r_aload_n d_203_136 rfl) ?_
    refine zl_tr (r_getR d_203_137 ow_203 f_12_162 la_146 (by decide) fr_146_49) ?_
    refine zl_tr (r_iload_n d_203_140 rfl) ?_
    refine zl_tr (r_iaload d_203_141 la_177) (zl_ck ?_)
    refine zl_tr (r_iadd d_203_142) (zl_ck ?_)
    refine zl_tr (r_istore_n (loc' := [zm_A 146, w1, zm_I (x2 + (h 177 x3)), zm_I x3]) d_203_143 (Nat.le_of_ble_eq_true rfl) (zr_k1 rfl hw1 rfl)) ?_
    refine zl_tr (r_iinc (loc' := [zm_A 146, w1, zm_I (x2 + (h 177 x3)), zm_I (x3 + 1)]) d_203_144 rfl (Nat.le_of_ble_eq_true rfl) rfl) (zl_ck ?_)
    refine zl_tr (r_goto (tgt := 122) d_203_147 (by decide)) ?_
    exact zl_rf
  · skip
    refine zl_tr (r_iload_n d_203_150 rfl) ?_
    exact r_iret d_203_151 rt_203
-- BranTubModel.has, from 154
set_option maxRecDepth 20000 in
theorem e_203_154 {h : zm_H} {w1 : zm_V} {x2 : Int} {x3 : Int} (hw1 : zm_cat w1 ≠ 2) : zl (zm_ck (0 ≤ (h 146 13) ∧ (h 146 13) < ((2 : Nat) : Int)) (if x3 < (h 153 (h 146 13)) then (zk_I (zc 214 [zm_A 146, zm_I x3] h) (fun v1 h2 => zm_ck (zm_i32 (x2 + v1)) (zm_ck (zm_i32 (x3 + 1)) (zr none 6 203 154 [zm_A 146, w1, zm_I (x2 + v1), zm_I (x3 + 1)] [] h2)))) else (some (zm_I x2, h)))) (zr none 6 203 154 [zm_A 146, w1, zm_I x2, zm_I x3] [] h) := by
  refine zl_tr (r_iload_n d_203_154 rfl) ?_
  refine zl_tr (r_aload_n d_203_155 rfl) ?_
  refine zl_tr (r_getR d_203_156 ow_203 f_12_69 la_146 (by decide) fr_146_19) ?_
  refine zl_tr (r_aload_n d_203_159 rfl) ?_
  refine zl_tr (r_getI (kk := 13) d_203_160 ow_203 f_12_51 la_146 (by decide) rfl) ?_
  refine zl_tr (r_iaload d_203_163 la_153) (zl_ck ?_)
  refine zl_tr (r_icmp_ge (tgt := 181) d_203_164 (by decide)) (zl_if ?_ ?_)
  · skip
    refine zl_tr (r_iload_n d_203_167 rfl) ?_
    refine zl_tr (r_aload_n d_203_168 rfl) ?_
    refine zl_tr (r_iload_n d_203_169 rfl) ?_
    refine zl_tr (r_VI [zm_A 146, zm_I x3] d_203_170 ow_203 cal_12_518 na_214 rfl rfl (Nat.le_of_ble_eq_true rfl) (by rw [rk_214]; decide) (zr_rcv la_146 ow_214) (zr_im mx_214 rfl (Nat.le_of_ble_eq_true rfl)) (by rw [rt_214]; decide)) (zl_I (fun v1 h2 => ?_))
    refine zl_tr (r_iadd d_203_173) (zl_ck ?_)
    refine zl_tr (r_istore_n (loc' := [zm_A 146, w1, zm_I (x2 + v1), zm_I x3]) d_203_174 (Nat.le_of_ble_eq_true rfl) (zr_k1 rfl hw1 rfl)) ?_
    refine zl_tr (r_iinc (loc' := [zm_A 146, w1, zm_I (x2 + v1), zm_I (x3 + 1)]) d_203_175 rfl (Nat.le_of_ble_eq_true rfl) rfl) (zl_ck ?_)
    refine zl_tr (r_goto (tgt := 154) d_203_178 (by decide)) ?_
    exact zl_rf
  · skip
    refine zl_tr (r_iload_n d_203_181 rfl) ?_
    exact r_iret d_203_182 rt_203
-- BranTubModel.inBarrel
set_option maxRecDepth 20000 in
theorem e_204 {h : zm_H} {x1 : Int} : zl (zr none 3 204 4 [zm_A 146, zm_I x1, zm_I 0, zm_I 0] [] h) (zc 204 [zm_A 146, zm_I x1] h) := by
  rw [zc_eq (loc := [zm_A 146, zm_I x1, zm_U, zm_U]) (rk_204 _) rfl]
  refine zl_tr (r_iconst d_204_0 (by decide)) ?_
  refine zl_tr (r_istore_n (loc' := [zm_A 146, zm_I x1, zm_I 0, zm_U]) d_204_1 (Nat.le_of_ble_eq_true rfl) rfl) ?_
  refine zl_tr (r_iconst d_204_2 (by decide)) ?_
  refine zl_tr (r_istore_n (loc' := [zm_A 146, zm_I x1, zm_I 0, zm_I 0]) d_204_3 (Nat.le_of_ble_eq_true rfl) rfl) ?_
  exact zl_rf
-- BranTubModel.inBarrel, from 4
set_option maxRecDepth 20000 in
theorem e_204_4 {h : zm_H} {x1 : Int} {x2 : Int} {x3 : Int} : zl (zm_ck (0 ≤ (h 146 13) ∧ (h 146 13) < ((2 : Nat) : Int)) (if x3 < (h 151 (h 146 13)) then (zk_I (zc 205 [zm_A 146, zm_I x1, zm_I x3] h) (fun v1 h2 => zm_ck (zm_i32 (x2 + v1)) (zm_ck (zm_i32 (x3 + 1)) (zr none 3 204 4 [zm_A 146, zm_I x1, zm_I (x2 + v1), zm_I (x3 + 1)] [] h2)))) else (some (zm_I x2, h)))) (zr none 3 204 4 [zm_A 146, zm_I x1, zm_I x2, zm_I x3] [] h) := by
  refine zl_tr (r_iload_n d_204_4 rfl) ?_
  refine zl_tr (r_aload_n d_204_5 rfl) ?_
  refine zl_tr (r_getR d_204_6 ow_204 f_12_63 la_146 (by decide) fr_146_17) ?_
  refine zl_tr (r_aload_n d_204_9 rfl) ?_
  refine zl_tr (r_getI (kk := 13) d_204_10 ow_204 f_12_51 la_146 (by decide) rfl) ?_
  refine zl_tr (r_iaload d_204_13 la_151) (zl_ck ?_)
  refine zl_tr (r_icmp_ge (tgt := 32) d_204_14 (by decide)) (zl_if ?_ ?_)
  · skip
    refine zl_tr (r_iload_n d_204_17 rfl) ?_
    refine zl_tr (r_aload_n d_204_18 rfl) ?_
    refine zl_tr (r_iload_n d_204_19 rfl) ?_
    refine zl_tr (r_iload_n d_204_20 rfl) ?_
    refine zl_tr (r_VI [zm_A 146, zm_I x1, zm_I x3] d_204_21 ow_204 cal_12_464 na_205 rfl rfl (Nat.le_of_ble_eq_true rfl) (by rw [rk_205]; decide) (zr_rcv la_146 ow_205) (zr_im mx_205 rfl (Nat.le_of_ble_eq_true rfl)) (by rw [rt_205]; decide)) (zl_I (fun v1 h2 => ?_))
    refine zl_tr (r_iadd d_204_24) (zl_ck ?_)
    refine zl_tr (r_istore_n (loc' := [zm_A 146, zm_I x1, zm_I (x2 + v1), zm_I x3]) d_204_25 (Nat.le_of_ble_eq_true rfl) rfl) ?_
    refine zl_tr (r_iinc (loc' := [zm_A 146, zm_I x1, zm_I (x2 + v1), zm_I (x3 + 1)]) d_204_26 rfl (Nat.le_of_ble_eq_true rfl) rfl) (zl_ck ?_)
    refine zl_tr (r_goto (tgt := 4) d_204_29 (by decide)) ?_
    exact zl_rf
  · skip
    refine zl_tr (r_iload_n d_204_32 rfl) ?_
    exact r_iret d_204_33 rt_204
-- BranTubModel.inLayer
set_option maxRecDepth 20000 in
theorem e_205 {h : zm_H} {x1 : Int} {x2 : Int} : zl (zr none 2 205 5 [zm_A 146, zm_I x1, zm_I x2, zm_I 0, zm_I 0] [] h) (zc 205 [zm_A 146, zm_I x1, zm_I x2] h) := by
  rw [zc_eq (loc := [zm_A 146, zm_I x1, zm_I x2, zm_U, zm_U]) (rk_205 _) rfl]
  refine zl_tr (r_iconst d_205_0 (by decide)) ?_
  refine zl_tr (r_istore_n (loc' := [zm_A 146, zm_I x1, zm_I x2, zm_I 0, zm_U]) d_205_1 (Nat.le_of_ble_eq_true rfl) rfl) ?_
  refine zl_tr (r_iconst d_205_2 (by decide)) ?_
  refine zl_tr (r_istore (loc' := [zm_A 146, zm_I x1, zm_I x2, zm_I 0, zm_I 0]) d_205_3 (Nat.le_of_ble_eq_true rfl) rfl) ?_
  exact zl_rf
-- BranTubModel.inLayer, from 5
set_option maxRecDepth 20000 in
theorem e_205_5 {h : zm_H} {x1 : Int} {x2 : Int} {x3 : Int} {x4 : Int} : zl (zm_ck (0 ≤ (h 146 13) ∧ (h 146 13) < ((2 : Nat) : Int)) (if x4 < (h 148 (h 146 13)) then (zk_I (zc 206 [zm_A 146, zm_I x1, zm_I x2, zm_I x4] h) (fun v1 h2 => zm_ck (zm_i32 (x3 + v1)) (zm_ck (zm_i32 (x4 + 1)) (zr none 2 205 5 [zm_A 146, zm_I x1, zm_I x2, zm_I (x3 + v1), zm_I (x4 + 1)] [] h2)))) else (some (zm_I x3, h)))) (zr none 2 205 5 [zm_A 146, zm_I x1, zm_I x2, zm_I x3, zm_I x4] [] h) := by
  refine zl_tr (r_iload d_205_5 rfl) ?_
  refine zl_tr (r_aload_n d_205_7 rfl) ?_
  refine zl_tr (r_getR d_205_8 ow_205 f_12_54 la_146 (by decide) fr_146_14) ?_
  refine zl_tr (r_aload_n d_205_11 rfl) ?_
  refine zl_tr (r_getI (kk := 13) d_205_12 ow_205 f_12_51 la_146 (by decide) rfl) ?_
  refine zl_tr (r_iaload d_205_15 la_148) (zl_ck ?_)
  refine zl_tr (r_icmp_ge (tgt := 36) d_205_16 (by decide)) (zl_if ?_ ?_)
  · skip
    refine zl_tr (r_iload_n d_205_19 rfl) ?_
    refine zl_tr (r_aload_n d_205_20 rfl) ?_
    refine zl_tr (r_iload_n d_205_21 rfl) ?_
    refine zl_tr (r_iload_n d_205_22 rfl) ?_
    refine zl_tr (r_iload d_205_23 rfl) ?_
    refine zl_tr (r_VI [zm_A 146, zm_I x1, zm_I x2, zm_I x4] d_205_25 ow_205 cal_12_460 na_206 rfl rfl (Nat.le_of_ble_eq_true rfl) (by rw [rk_206]; decide) (zr_rcv la_146 ow_206) (zr_im mx_206 rfl (Nat.le_of_ble_eq_true rfl)) (by rw [rt_206]; decide)) (zl_I (fun v1 h2 => ?_))
    refine zl_tr (r_iadd d_205_28) (zl_ck ?_)
    refine zl_tr (r_istore_n (loc' := [zm_A 146, zm_I x1, zm_I x2, zm_I (x3 + v1), zm_I x4]) d_205_29 (Nat.le_of_ble_eq_true rfl) rfl) ?_
    refine zl_tr (r_iinc (loc' := [zm_A 146, zm_I x1, zm_I x2, zm_I (x3 + v1), zm_I (x4 + 1)]) d_205_30 rfl (Nat.le_of_ble_eq_true rfl) rfl) (zl_ck ?_)
    refine zl_tr (r_goto (tgt := 5) d_205_33 (by decide)) ?_
    exact zl_rf
  · skip
    refine zl_tr (r_iload_n d_205_36 rfl) ?_
    exact r_iret d_205_37 rt_205
-- BranTubModel.lies
set_option maxRecDepth 20000 in
theorem e_206 {h : zm_H} {x1 : Int} {x2 : Int} {x3 : Int} : zl (zm_ck (zm_i32 (40 * x1)) (zm_ck (zm_i32 (8 * x2)) (zm_ck (zm_i32 ((40 * x1) + (8 * x2))) (zm_ck (zm_i32 (((40 * x1) + (8 * x2)) + x3)) (zm_ck (0 ≤ (((40 * x1) + (8 * x2)) + x3) ∧ (((40 * x1) + (8 * x2)) + x3) < ((880 : Nat) : Int)) (some (zm_I (h 176 (((40 * x1) + (8 * x2)) + x3)), h))))))) (zc 206 [zm_A 146, zm_I x1, zm_I x2, zm_I x3] h) := by
  rw [zc_eq (loc := [zm_A 146, zm_I x1, zm_I x2, zm_I x3]) (rk_206 _) rfl]
  refine zl_tr (r_aload_n d_206_0 rfl) ?_
  refine zl_tr (r_getR d_206_1 ow_206 f_12_159 la_146 (by decide) fr_146_48) ?_
  refine zl_tr (r_bipush d_206_4 (by decide)) ?_
  refine zl_tr (r_iload_n d_206_6 rfl) ?_
  refine zl_tr (r_imul d_206_7) (zl_ck ?_)
  refine zl_tr (r_bipush d_206_8 (by decide)) ?_
  refine zl_tr (r_iload_n d_206_10 rfl) ?_
  refine zl_tr (r_imul d_206_11) (zl_ck ?_)
  refine zl_tr (r_iadd d_206_12) (zl_ck ?_)
  refine zl_tr (r_iload_n d_206_13 rfl) ?_
  refine zl_tr (r_iadd d_206_14) (zl_ck ?_)
  refine zl_tr (r_iaload d_206_15 la_176) (zl_ck ?_)
  exact r_iret d_206_16 rt_206
-- BranTubModel.costOf
set_option maxRecDepth 20000 in
theorem e_207 {h : zm_H} {x1 : Int} : zl (zm_ck (0 ≤ (h 146 13) ∧ (h 146 13) < ((2 : Nat) : Int)) (if (h 159 (h 146 13)) = (-1) then (some (zm_I 0, h)) else (zk_V (zc 208 [zm_A 146, zm_I x1] h) (fun h1 => zm_ck (0 ≤ (h1 146 13) ∧ (h1 146 13) < ((2 : Nat) : Int)) (zm_ck (0 ≤ (h1 146 13) ∧ (h1 146 13) < ((2 : Nat) : Int)) (zk_L (zc 209 [zm_A 146, zm_I (h1 159 (h1 146 13)), zm_I (h1 160 (h1 146 13))] h1) (fun v2 h3 => if (if v2 < 0 then -1 else if v2 = 0 then 0 else 1) < 0 then (some (zm_I 0, h3)) else (if (if v2 < 99 then -1 else if v2 = 99 then 0 else 1) ≤ 0 then (zm_ck (zm_i32 v2) (some (zm_I v2, h3))) else (some (zm_I 99, h3)))))))))) (zc 207 [zm_A 146, zm_I x1] h) := by
  rw [zc_eq (loc := [zm_A 146, zm_I x1, zm_U, zm_U]) (rk_207 _) rfl]
  refine zl_tr (r_aload_n d_207_0 rfl) ?_
  refine zl_tr (r_getR d_207_1 ow_207 f_12_87 la_146 (by decide) fr_146_25) ?_
  refine zl_tr (r_aload_n d_207_4 rfl) ?_
  refine zl_tr (r_getI (kk := 13) d_207_5 ow_207 f_12_51 la_146 (by decide) rfl) ?_
  refine zl_tr (r_iaload d_207_8 la_159) (zl_ck ?_)
  refine zl_tr (r_iconst d_207_9 (by decide)) ?_
  refine zl_tr (r_icmp_ne (tgt := 15) d_207_10 (by decide)) (zl_if ?_ ?_)
  · skip
    refine zl_tr (r_iconst d_207_13 (by decide)) ?_
    exact r_iret d_207_14 rt_207
  · skip
    refine zl_tr (r_aload_n d_207_15 rfl) ?_
    refine zl_tr (r_iload_n d_207_16 rfl) ?_
    refine zl_tr (r_VV [zm_A 146, zm_I x1] d_207_17 ow_207 cal_12_504 na_208 rfl rfl (Nat.le_of_ble_eq_true rfl) (by rw [rk_208]; decide) (zr_rcv la_146 ow_208) (zr_im mx_208 rfl (Nat.le_of_ble_eq_true rfl)) rt_208) (zl_V (fun h1 => ?_))
    refine zl_tr (r_aload_n d_207_20 rfl) ?_
    refine zl_tr (r_aload_n d_207_21 rfl) ?_
    refine zl_tr (r_getR d_207_22 ow_207 f_12_87 la_146 (by decide) fr_146_25) ?_
    refine zl_tr (r_aload_n d_207_25 rfl) ?_
    refine zl_tr (r_getI (kk := 13) d_207_26 ow_207 f_12_51 la_146 (by decide) rfl) ?_
    refine zl_tr (r_iaload d_207_29 la_159) (zl_ck ?_)
    refine zl_tr (r_aload_n d_207_30 rfl) ?_
    refine zl_tr (r_getR d_207_31 ow_207 f_12_90 la_146 (by decide) fr_146_26) ?_
    refine zl_tr (r_aload_n d_207_34 rfl) ?_
    refine zl_tr (r_getI (kk := 13) d_207_35 ow_207 f_12_51 la_146 (by decide) rfl) ?_
    refine zl_tr (r_iaload d_207_38 la_160) (zl_ck ?_)
    refine zl_tr (r_VL [zm_A 146, zm_I (h1 159 (h1 146 13)), zm_I (h1 160 (h1 146 13))] d_207_39 ow_207 cal_12_507 na_209 rfl rfl (Nat.le_of_ble_eq_true rfl) (by rw [rk_209]; decide) (zr_rcv la_146 ow_209) (zr_im mx_209 rfl (Nat.le_of_ble_eq_true rfl)) rt_209) (zl_L (fun v2 h3 => ?_))
    refine zl_tr (r_lstore_n (loc' := [zm_A 146, zm_I x1, zm_L v2, zm_U]) d_207_42 (Nat.le_of_ble_eq_true rfl) rfl) ?_
    refine zl_tr (r_lload_n d_207_43 rfl) ?_
    refine zl_tr (r_lconst (z := 0) d_207_44 rfl) ?_
    refine zl_tr (r_lcmp d_207_45) ?_
    refine zl_tr (r_if_ge (tgt := 53) d_207_46 (by decide)) (zl_if ?_ ?_)
    · skip
      refine zl_tr (r_iconst d_207_49 (by decide)) ?_
      refine zl_tr (r_goto (tgt := 68) d_207_50 (by decide)) ?_
      exact r_iret d_207_68 rt_207
    · skip
      refine zl_tr (r_lload_n d_207_53 rfl) ?_
      refine zl_tr (r_ldc2 d_207_54 ow_207 lng_12_510) ?_
      refine zl_tr (r_lcmp d_207_57) ?_
      refine zl_tr (r_if_le (tgt := 66) d_207_58 (by decide)) (zl_if ?_ ?_)
      · skip
        refine zl_tr (r_lload_n d_207_66 rfl) ?_
        refine zl_tr (r_l2i d_207_67) (zl_ck ?_)
        exact r_iret d_207_68 rt_207
      · skip
        refine zl_tr (r_bipush d_207_61 (by decide)) ?_
        refine zl_tr (r_goto (tgt := 68) d_207_63 (by decide)) ?_
        exact r_iret d_207_68 rt_207
-- BranTubModel.asks
set_option maxRecDepth 20000 in
theorem e_208 {h : zm_H} {x1 : Int} : zl (zm_ck (0 ≤ x1 ∧ x1 < ((22 : Nat) : Int)) (zk_I (zc 204 [zm_A 146, zm_I x1] (zm_wr h 146 60 (h 174 x1))) (fun v1 h2 => zm_ck (0 ≤ x1 ∧ x1 < ((22 : Nat) : Int)) (some (zm_U, (zm_wr (zm_wr (zm_wr (zm_wr (zm_wr h2 146 61 v1) 146 62 ((zm_wr h2 146 61 v1) 175 x1)) 146 63 0) 146 64 0) 146 65 0)))))) (zc 208 [zm_A 146, zm_I x1] h) := by
  rw [zc_eq (loc := [zm_A 146, zm_I x1]) (rk_208 _) rfl]
  refine zl_tr (r_aload_n d_208_0 rfl) ?_
  refine zl_tr (r_aload_n d_208_1 rfl) ?_
  refine zl_tr (r_getR d_208_2 ow_208 f_12_153 la_146 (by decide) fr_146_46) ?_
  refine zl_tr (r_iload_n d_208_5 rfl) ?_
  refine zl_tr (r_iaload d_208_6 la_174) (zl_ck ?_)
  refine zl_tr (r_putI (kk := 60) d_208_7 ow_208 f_12_195 la_146 (by decide) rfl) ?_
  refine zl_tr (r_aload_n d_208_10 rfl) ?_
  refine zl_tr (r_aload_n d_208_11 rfl) ?_
  refine zl_tr (r_iload_n d_208_12 rfl) ?_
  refine zl_tr (r_VI [zm_A 146, zm_I x1] d_208_13 ow_208 cal_12_501 na_204 rfl rfl (Nat.le_of_ble_eq_true rfl) (by rw [rk_204]; decide) (zr_rcv la_146 ow_204) (zr_im mx_204 rfl (Nat.le_of_ble_eq_true rfl)) (by rw [rt_204]; decide)) (zl_I (fun v1 h2 => ?_))
  refine zl_tr (r_putI (kk := 61) d_208_16 ow_208 f_12_198 la_146 (by decide) rfl) ?_
  refine zl_tr (r_aload_n d_208_19 rfl) ?_
  refine zl_tr (r_aload_n d_208_20 rfl) ?_
  refine zl_tr (r_getR d_208_21 ow_208 f_12_156 la_146 (by decide) fr_146_47) ?_
  refine zl_tr (r_iload_n d_208_24 rfl) ?_
  refine zl_tr (r_iaload d_208_25 la_175) (zl_ck ?_)
  refine zl_tr (r_putI (kk := 62) d_208_26 ow_208 f_12_201 la_146 (by decide) rfl) ?_
  refine zl_tr (r_aload_n d_208_29 rfl) ?_
  refine zl_tr (r_iconst d_208_30 (by decide)) ?_
  refine zl_tr (r_putI (kk := 63) d_208_31 ow_208 f_12_204 la_146 (by decide) rfl) ?_
  refine zl_tr (r_aload_n d_208_34 rfl) ?_
  refine zl_tr (r_iconst d_208_35 (by decide)) ?_
  refine zl_tr (r_putI (kk := 64) d_208_36 ow_208 f_12_207 la_146 (by decide) rfl) ?_
  refine zl_tr (r_aload_n d_208_39 rfl) ?_
  refine zl_tr (r_iconst d_208_40 (by decide)) ?_
  refine zl_tr (r_putI (kk := 65) d_208_41 ow_208 f_12_210 la_146 (by decide) rfl) ?_
  exact r_vret d_208_44 rt_208
-- BranTubModel.reckons
set_option maxRecDepth 20000 in
theorem e_209 {h : zm_H} {x1 : Int} {x2 : Int} : zl (zm_ck (zm_i32 (1600 * (h 146 13))) (zm_ck (zm_i32 ((1600 * (h 146 13)) + x1)) (zr none 3 209 14 [zm_A 146, zm_I x1, zm_I x2, zm_I 0, zm_I ((1600 * (h 146 13)) + x1), zm_U] [] h))) (zc 209 [zm_A 146, zm_I x1, zm_I x2] h) := by
  rw [zc_eq (loc := [zm_A 146, zm_I x1, zm_I x2, zm_U, zm_U, zm_U]) (rk_209 _) rfl]
  refine zl_tr (r_iconst d_209_0 (by decide)) ?_
  refine zl_tr (r_istore_n (loc' := [zm_A 146, zm_I x1, zm_I x2, zm_I 0, zm_U, zm_U]) d_209_1 (Nat.le_of_ble_eq_true rfl) rfl) ?_
  refine zl_tr (r_sipush d_209_2 (by decide)) ?_
  refine zl_tr (r_aload_n d_209_5 rfl) ?_
  refine zl_tr (r_getI (kk := 13) d_209_6 ow_209 f_12_51 la_146 (by decide) rfl) ?_
  refine zl_tr (r_imul d_209_9) (zl_ck ?_)
  refine zl_tr (r_iload_n d_209_10 rfl) ?_
  refine zl_tr (r_iadd d_209_11) (zl_ck ?_)
  refine zl_tr (r_istore (loc' := [zm_A 146, zm_I x1, zm_I x2, zm_I 0, zm_I ((1600 * (h 146 13)) + x1), zm_U]) d_209_12 (Nat.le_of_ble_eq_true rfl) rfl) ?_
  exact zl_rf
-- BranTubModel.reckons, from 14
set_option maxRecDepth 20000 in
theorem e_209_14 {h : zm_H} {w1 : zm_V} {x2 : Int} {x3 : Int} {x4 : Int} {w5 : zm_V} : zl (zm_ck (zm_i32 (1600 * (h 146 13))) (zm_ck (zm_i32 ((1600 * (h 146 13)) + x2)) (if x4 < ((1600 * (h 146 13)) + x2) then (zm_ck (0 ≤ x4 ∧ x4 < ((3200 : Nat) : Int)) (if 9 < (h 163 x4) then (if (h 163 x4) = 22 then (zm_ck (zm_i32 (x3 - 1)) (zm_ck (zm_i32 (x3 - 1)) (zm_ck (0 ≤ (x3 - 1) ∧ (x3 - 1) < ((500 : Nat) : Int)) (zm_ck (zm_i64 (1 - (h 184 (x3 - 1)))) (zm_ck (0 ≤ (x3 - 1) ∧ (x3 - 1) < ((500 : Nat) : Int)) (zm_ck (zm_i32 (x4 + 1)) (zr none 3 209 14 [zm_A 146, w1, zm_I x2, zm_I x3, zm_I (x4 + 1), zm_I (h 163 x4)] [] (zm_wr h 184 (x3 - 1) (1 - (h 184 (x3 - 1))))))))))) else (zm_ck (zm_i32 (x3 + (-1))) (zm_ck (zm_i32 ((x3 + (-1)) - 1)) (zm_ck (zm_i32 ((x3 + (-1)) - 1)) (zm_ck (0 ≤ ((x3 + (-1)) - 1) ∧ ((x3 + (-1)) - 1) < ((500 : Nat) : Int)) (zm_ck (0 ≤ (x3 + (-1)) ∧ (x3 + (-1)) < ((500 : Nat) : Int)) (zk_L (zc 211 [zm_I (h 163 x4), zm_L (h 184 ((x3 + (-1)) - 1)), zm_L (h 184 (x3 + (-1)))] h) (fun v1 h2 => zm_ck (0 ≤ ((x3 + (-1)) - 1) ∧ ((x3 + (-1)) - 1) < ((500 : Nat) : Int)) (zm_ck (zm_i32 (x4 + 1)) (zr none 3 209 14 [zm_A 146, w1, zm_I x2, zm_I (x3 + (-1)), zm_I (x4 + 1), zm_I (h 163 x4)] [] (zm_wr h2 184 ((x3 + (-1)) - 1) v1))))))))))) else (zm_ck (0 ≤ x4 ∧ x4 < ((3200 : Nat) : Int)) (zk_L (zc 210 [zm_A 146, zm_I (h 163 x4), zm_I (h 164 x4)] h) (fun v3 h4 => zm_ck (0 ≤ x3 ∧ x3 < ((500 : Nat) : Int)) (zm_ck (zm_i32 (x3 + 1)) (zm_ck (zm_i32 (x4 + 1)) (zr none 3 209 14 [zm_A 146, w1, zm_I x2, zm_I (x3 + 1), zm_I (x4 + 1), zm_I (h 163 x4)] [] (zm_wr h4 184 x3 v3))))))))) else (zm_ck (0 ≤ 0 ∧ 0 < ((500 : Nat) : Int)) (some (zm_L (h 184 0), h)))))) (zr none 3 209 14 [zm_A 146, w1, zm_I x2, zm_I x3, zm_I x4, w5] [] h) := by
  refine zl_tr (r_iload d_209_14 rfl) ?_
  refine zl_tr (r_sipush d_209_16 (by decide)) ?_
  refine zl_tr (r_aload_n d_209_19 rfl) ?_
  refine zl_tr (r_getI (kk := 13) d_209_20 ow_209 f_12_51 la_146 (by decide) rfl) ?_
  refine zl_tr (r_imul d_209_23) (zl_ck ?_)
  refine zl_tr (r_iload_n d_209_24 rfl) ?_
  refine zl_tr (r_iadd d_209_25) (zl_ck ?_)
  refine zl_tr (r_icmp_ge (tgt := 134) d_209_26 (by decide)) (zl_if ?_ ?_)
  · skip
    refine zl_tr (r_aload_n d_209_29 rfl) ?_
    refine zl_tr (r_getR d_209_30 ow_209 f_12_99 la_146 (by decide) fr_146_29) ?_
    refine zl_tr (r_iload d_209_33 rfl) ?_
    refine zl_tr (r_iaload d_209_35 la_163) (zl_ck ?_)
    refine zl_tr (r_istore (loc' := [zm_A 146, w1, zm_I x2, zm_I x3, zm_I x4, zm_I (h 163 x4)]) d_209_36 (Nat.le_of_ble_eq_true rfl) rfl) ?_
    refine zl_tr (r_iload d_209_38 rfl) ?_
    refine zl_tr (r_bipush d_209_40 (by decide)) ?_
    refine zl_tr (r_icmp_gt (tgt := 70) d_209_42 (by decide)) (zl_if ?_ ?_)
    · skip
      refine zl_tr (r_iload d_209_70 rfl) ?_
      refine zl_tr (r_bipush d_209_72 (by decide)) ?_
      refine zl_tr (r_icmp_ne (tgt := 98) d_209_74 (by decide)) (zl_if ?_ ?_)
      · skip
        refine zl_tr (r_aload_n d_209_77 rfl) ?_
        refine zl_tr (r_getR d_209_78 ow_209 f_12_192 la_146 (by decide) fr_146_59) ?_
        refine zl_tr (r_iload_n d_209_81 rfl) ?_
        refine zl_tr (r_iconst d_209_82 (by decide)) ?_
        refine zl_tr (r_isub d_209_83) (zl_ck ?_)
        refine zl_tr (r_lconst (z := 1) d_209_84 rfl) ?_
        refine zl_tr (r_aload_n d_209_85 rfl) ?_
        refine zl_tr (r_getR d_209_86 ow_209 f_12_192 la_146 (by decide) fr_146_59) ?_
        refine zl_tr (r_iload_n d_209_89 rfl) ?_
        refine zl_tr (r_iconst d_209_90 (by decide)) ?_
        refine zl_tr (r_isub d_209_91) (zl_ck ?_)
        refine zl_tr (r_laload d_209_92 la_184) (zl_ck ?_)
        refine zl_tr (r_lsub d_209_93) (zl_ck ?_)
        refine zl_tr (r_lastore d_209_94 la_184) (zl_ck ?_)
        refine zl_tr (r_goto (tgt := 128) d_209_95 (by decide)) ?_
        refine zl_tr (r_iinc (loc' := [zm_A 146, w1, zm_I x2, zm_I x3, zm_I (x4 + 1), zm_I (h 163 x4)]) d_209_128 rfl (Nat.le_of_ble_eq_true rfl) rfl) (zl_ck ?_)
        refine zl_tr (r_goto (tgt := 14) d_209_131 (by decide)) ?_
        exact zl_rf
      · skip
        refine zl_tr (r_iinc (loc' := [zm_A 146, w1, zm_I x2, zm_I (x3 + (-1)), zm_I x4, zm_I (h 163 x4)]) d_209_98 rfl (Nat.le_of_ble_eq_true rfl) rfl) (zl_ck ?_)
        refine zl_tr (r_aload_n d_209_101 rfl) ?_
        refine zl_tr (r_getR d_209_102 ow_209 f_12_192 la_146 (by decide) fr_146_59) ?_
        refine zl_tr (r_iload_n d_209_105 rfl) ?_
        refine zl_tr (r_iconst d_209_106 (by decide)) ?_
        refine zl_tr (r_isub d_209_107) (zl_ck ?_)
        refine zl_tr (r_iload d_209_108 rfl) ?_
        refine zl_tr (r_aload_n d_209_110 rfl) ?_
        refine zl_tr (r_getR d_209_111 ow_209 f_12_192 la_146 (by decide) fr_146_59) ?_
        refine zl_tr (r_iload_n d_209_114 rfl) ?_
        refine zl_tr (r_iconst d_209_115 (by decide)) ?_
        refine zl_tr (r_isub d_209_116) (zl_ck ?_)
        refine zl_tr (r_laload d_209_117 la_184) (zl_ck ?_)
        refine zl_tr (r_aload_n d_209_118 rfl) ?_
        refine zl_tr (r_getR d_209_119 ow_209 f_12_192 la_146 (by decide) fr_146_59) ?_
        refine zl_tr (r_iload_n d_209_122 rfl) ?_
        refine zl_tr (r_laload d_209_123 la_184) (zl_ck ?_)
        refine zl_tr (r_SL [zm_I (h 163 x4), zm_L (h 184 ((x3 + (-1)) - 1)), zm_L (h 184 (x3 + (-1)))] d_209_124 ow_209 cal_12_456 (by decide) na_211 rfl rfl (Nat.le_of_ble_eq_true rfl) (by rw [rk_211]; decide) (zr_im mx_211 rfl (Nat.le_of_ble_eq_true rfl)) rt_211) (zl_L (fun v1 h2 => ?_))
        refine zl_tr (r_lastore d_209_127 la_184) (zl_ck ?_)
        refine zl_tr (r_iinc (loc' := [zm_A 146, w1, zm_I x2, zm_I (x3 + (-1)), zm_I (x4 + 1), zm_I (h 163 x4)]) d_209_128 rfl (Nat.le_of_ble_eq_true rfl) rfl) (zl_ck ?_)
        refine zl_tr (r_goto (tgt := 14) d_209_131 (by decide)) ?_
        exact zl_rf
    · skip
      refine zl_tr (r_aload_n d_209_45 rfl) ?_
      refine zl_tr (r_getR d_209_46 ow_209 f_12_192 la_146 (by decide) fr_146_59) ?_
      refine zl_tr (r_iload_n d_209_49 rfl) ?_
      refine zl_tr (r_aload_n d_209_50 rfl) ?_
      refine zl_tr (r_iload d_209_51 rfl) ?_
      refine zl_tr (r_aload_n d_209_53 rfl) ?_
      refine zl_tr (r_getR d_209_54 ow_209 f_12_102 la_146 (by decide) fr_146_30) ?_
      refine zl_tr (r_iload d_209_57 rfl) ?_
      refine zl_tr (r_iaload d_209_59 la_164) (zl_ck ?_)
      refine zl_tr (r_VL [zm_A 146, zm_I (h 163 x4), zm_I (h 164 x4)] d_209_60 ow_209 cal_12_452 na_210 rfl rfl (Nat.le_of_ble_eq_true rfl) (by rw [rk_210]; decide) (zr_rcv la_146 ow_210) (zr_im mx_210 rfl (Nat.le_of_ble_eq_true rfl)) rt_210) (zl_L (fun v3 h4 => ?_))
      refine zl_tr (r_lastore d_209_63 la_184) (zl_ck ?_)
      refine zl_tr (r_iinc (loc' := [zm_A 146, w1, zm_I x2, zm_I (x3 + 1), zm_I x4, zm_I (h 163 x4)]) d_209_64 rfl (Nat.le_of_ble_eq_true rfl) rfl) (zl_ck ?_)
      refine zl_tr (r_goto (tgt := 128) d_209_67 (by decide)) ?_
      refine zl_tr (r_iinc (loc' := [zm_A 146, w1, zm_I x2, zm_I (x3 + 1), zm_I (x4 + 1), zm_I (h 163 x4)]) d_209_128 rfl (Nat.le_of_ble_eq_true rfl) rfl) (zl_ck ?_)
      refine zl_tr (r_goto (tgt := 14) d_209_131 (by decide)) ?_
      exact zl_rf
  · skip
    refine zl_tr (r_aload_n d_209_134 rfl) ?_
    refine zl_tr (r_getR d_209_135 ow_209 f_12_192 la_146 (by decide) fr_146_59) ?_
    refine zl_tr (r_iconst d_209_138 (by decide)) ?_
    refine zl_tr (r_laload d_209_139 la_184) (zl_ck ?_)
    exact r_lret d_209_140 rt_209
-- BranTubModel.part
set_option maxRecDepth 20000 in
theorem e_210 {h : zm_H} {x1 : Int} {x2 : Int} : zl (if x1 = 0 then (some (zm_L x2, h)) else (if x1 = 1 then (some (zm_L (h 146 60), h)) else (if x1 = 2 then (some (zm_L (h 146 61), h)) else (if x1 = 3 then (some (zm_L (h 146 62), h)) else (if x1 = 4 then (some (zm_L (h 146 63), h)) else (if x1 = 5 then (some (zm_L (h 146 64), h)) else (if x1 = 6 then (some (zm_L (h 146 65), h)) else (some (zm_L 1, h))))))))) (zc 210 [zm_A 146, zm_I x1, zm_I x2] h) := by
  rw [zc_eq (loc := [zm_A 146, zm_I x1, zm_I x2]) (rk_210 _) rfl]
  refine zl_tr (r_iload_n d_210_0 rfl) ?_
  refine zl_eq 0 (fun hx => ?_) (fun hx0 => ?_)
  · refine zl_tr (r_tsw (tgt := 44) d_210_1 (by rw [hx]; decide) (by decide)) ?_
    refine zl_tr (r_iload_n d_210_44 rfl) ?_
    refine zl_tr (r_i2l d_210_45) ?_
    exact r_lret d_210_46 rt_210
  refine zl_eq 1 (fun hx => ?_) (fun hx1 => ?_)
  · refine zl_tr (r_tsw (tgt := 47) d_210_1 (by rw [hx]; decide) (by decide)) ?_
    refine zl_tr (r_aload_n d_210_47 rfl) ?_
    refine zl_tr (r_getI (kk := 60) d_210_48 ow_210 f_12_195 la_146 (by decide) rfl) ?_
    refine zl_tr (r_i2l d_210_51) ?_
    exact r_lret d_210_52 rt_210
  refine zl_eq 2 (fun hx => ?_) (fun hx2 => ?_)
  · refine zl_tr (r_tsw (tgt := 53) d_210_1 (by rw [hx]; decide) (by decide)) ?_
    refine zl_tr (r_aload_n d_210_53 rfl) ?_
    refine zl_tr (r_getI (kk := 61) d_210_54 ow_210 f_12_198 la_146 (by decide) rfl) ?_
    refine zl_tr (r_i2l d_210_57) ?_
    exact r_lret d_210_58 rt_210
  refine zl_eq 3 (fun hx => ?_) (fun hx3 => ?_)
  · refine zl_tr (r_tsw (tgt := 59) d_210_1 (by rw [hx]; decide) (by decide)) ?_
    refine zl_tr (r_aload_n d_210_59 rfl) ?_
    refine zl_tr (r_getI (kk := 62) d_210_60 ow_210 f_12_201 la_146 (by decide) rfl) ?_
    refine zl_tr (r_i2l d_210_63) ?_
    exact r_lret d_210_64 rt_210
  refine zl_eq 4 (fun hx => ?_) (fun hx4 => ?_)
  · refine zl_tr (r_tsw (tgt := 65) d_210_1 (by rw [hx]; decide) (by decide)) ?_
    refine zl_tr (r_aload_n d_210_65 rfl) ?_
    refine zl_tr (r_getI (kk := 63) d_210_66 ow_210 f_12_204 la_146 (by decide) rfl) ?_
    refine zl_tr (r_i2l d_210_69) ?_
    exact r_lret d_210_70 rt_210
  refine zl_eq 5 (fun hx => ?_) (fun hx5 => ?_)
  · refine zl_tr (r_tsw (tgt := 71) d_210_1 (by rw [hx]; decide) (by decide)) ?_
    refine zl_tr (r_aload_n d_210_71 rfl) ?_
    refine zl_tr (r_getI (kk := 64) d_210_72 ow_210 f_12_207 la_146 (by decide) rfl) ?_
    refine zl_tr (r_i2l d_210_75) ?_
    exact r_lret d_210_76 rt_210
  refine zl_eq 6 (fun hx => ?_) (fun hx6 => ?_)
  · refine zl_tr (r_tsw (tgt := 77) d_210_1 (by rw [hx]; decide) (by decide)) ?_
    refine zl_tr (r_aload_n d_210_77 rfl) ?_
    refine zl_tr (r_getI (kk := 65) d_210_78 ow_210 f_12_210 la_146 (by decide) rfl) ?_
    refine zl_tr (r_i2l d_210_81) ?_
    exact r_lret d_210_82 rt_210
  refine zl_tr (r_tsw (tgt := 83) d_210_1 (by rw [if_pos (by omega)]; decide) (by decide)) ?_
  refine zl_tr (r_lconst (z := 1) d_210_83 rfl) ?_
  exact r_lret d_210_84 rt_210
-- BranTubModel.two
set_option maxRecDepth 20000 in
theorem e_211 {h : zm_H} {x1 : Int} {x2 : Int} {x3 : Int} : zl (if x1 = 10 then (zm_ck (zm_i64 (x2 + x3)) (zk_L (zc 212 [zm_L (x2 + x3)] h) (fun v1 h2 => some (zm_L v1, h2)))) else (if x1 = 11 then (zm_ck (zm_i64 (x2 - x3)) (zk_L (zc 212 [zm_L (x2 - x3)] h) (fun v3 h4 => some (zm_L v3, h4)))) else (if x1 = 12 then (zm_ck (zm_i64 (x2 * x3)) (zk_L (zc 212 [zm_L (x2 * x3)] h) (fun v5 h6 => some (zm_L v5, h6)))) else (if x1 = 13 then (zk_L (zc 213 [zm_L x2, zm_L x3] h) (fun v7 h8 => zk_L (zc 212 [zm_L v7] h8) (fun v9 h10 => some (zm_L v9, h10)))) else (if x1 = 14 then (if (if x3 < 0 then -1 else if x3 = 0 then 0 else 1) = 0 then (some (zm_L 0, h)) else (zk_L (zc 213 [zm_L x2, zm_L x3] h) (fun v11 h12 => zm_ck (zm_i64 (x3 * v11)) (zm_ck (zm_i64 (x2 - (x3 * v11))) (zk_L (zc 212 [zm_L (x2 - (x3 * v11))] h12) (fun v13 h14 => some (zm_L v13, h14))))))) else (if x1 = 15 then (if (if x2 < x3 then -1 else if x2 = x3 then 0 else 1) < 0 then (some (zm_L x2, h)) else (some (zm_L x3, h))) else (if x1 = 16 then (if (if x2 < x3 then -1 else if x2 = x3 then 0 else 1) ≤ 0 then (some (zm_L x3, h)) else (some (zm_L x2, h))) else (if x1 = 17 then (if (if x2 < x3 then -1 else if x2 = x3 then 0 else 1) < 0 then (some (zm_L 1, h)) else (some (zm_L 0, h))) else (if x1 = 18 then (if (if x2 < x3 then -1 else if x2 = x3 then 0 else 1) ≤ 0 then (some (zm_L 0, h)) else (some (zm_L 1, h))) else (if x1 = 19 then (if (if x2 < x3 then -1 else if x2 = x3 then 0 else 1) = 0 then (some (zm_L 1, h)) else (some (zm_L 0, h))) else (if x1 = 20 then (some (zm_L (zb_land x2 x3), h)) else (some (zm_L (zb_lor x2 x3), h))))))))))))) (zc 211 [zm_I x1, zm_L x2, zm_L x3] h) := by
  rw [zc_eq (loc := [zm_I x1, zm_L x2, zm_U, zm_L x3, zm_U]) (rk_211 _) rfl]
  refine zl_tr (r_iload_n d_211_0 rfl) ?_
  refine zl_eq 10 (fun hx => ?_) (fun hx10 => ?_)
  · refine zl_tr (r_tsw (tgt := 60) d_211_1 (by rw [hx]; decide) (by decide)) ?_
    refine zl_tr (r_lload_n d_211_60 rfl) ?_
    refine zl_tr (r_lload_n d_211_61 rfl) ?_
    refine zl_tr (r_ladd d_211_62) (zl_ck ?_)
    refine zl_tr (r_SL [zm_L (x2 + x3)] d_211_63 ow_211 cal_12_444 (by decide) na_212 rfl rfl (Nat.le_of_ble_eq_true rfl) (by rw [rk_212]; decide) (zr_im mx_212 rfl (Nat.le_of_ble_eq_true rfl)) rt_212) (zl_L (fun v1 h2 => ?_))
    exact r_lret d_211_66 rt_211
  refine zl_eq 11 (fun hx => ?_) (fun hx11 => ?_)
  · refine zl_tr (r_tsw (tgt := 67) d_211_1 (by rw [hx]; decide) (by decide)) ?_
    refine zl_tr (r_lload_n d_211_67 rfl) ?_
    refine zl_tr (r_lload_n d_211_68 rfl) ?_
    refine zl_tr (r_lsub d_211_69) (zl_ck ?_)
    refine zl_tr (r_SL [zm_L (x2 - x3)] d_211_70 ow_211 cal_12_444 (by decide) na_212 rfl rfl (Nat.le_of_ble_eq_true rfl) (by rw [rk_212]; decide) (zr_im mx_212 rfl (Nat.le_of_ble_eq_true rfl)) rt_212) (zl_L (fun v3 h4 => ?_))
    exact r_lret d_211_73 rt_211
  refine zl_eq 12 (fun hx => ?_) (fun hx12 => ?_)
  · refine zl_tr (r_tsw (tgt := 74) d_211_1 (by rw [hx]; decide) (by decide)) ?_
    refine zl_tr (r_lload_n d_211_74 rfl) ?_
    refine zl_tr (r_lload_n d_211_75 rfl) ?_
    refine zl_tr (r_lmul d_211_76) (zl_ck ?_)
    refine zl_tr (r_SL [zm_L (x2 * x3)] d_211_77 ow_211 cal_12_444 (by decide) na_212 rfl rfl (Nat.le_of_ble_eq_true rfl) (by rw [rk_212]; decide) (zr_im mx_212 rfl (Nat.le_of_ble_eq_true rfl)) rt_212) (zl_L (fun v5 h6 => ?_))
    exact r_lret d_211_80 rt_211
  refine zl_eq 13 (fun hx => ?_) (fun hx13 => ?_)
  · refine zl_tr (r_tsw (tgt := 81) d_211_1 (by rw [hx]; decide) (by decide)) ?_
    refine zl_tr (r_lload_n d_211_81 rfl) ?_
    refine zl_tr (r_lload_n d_211_82 rfl) ?_
    refine zl_tr (r_SL [zm_L x2, zm_L x3] d_211_83 ow_211 cal_12_448 (by decide) na_213 rfl rfl (Nat.le_of_ble_eq_true rfl) (by rw [rk_213]; decide) (zr_im mx_213 rfl (Nat.le_of_ble_eq_true rfl)) rt_213) (zl_L (fun v7 h8 => ?_))
    refine zl_tr (r_SL [zm_L v7] d_211_86 ow_211 cal_12_444 (by decide) na_212 rfl rfl (Nat.le_of_ble_eq_true rfl) (by rw [rk_212]; decide) (zr_im mx_212 rfl (Nat.le_of_ble_eq_true rfl)) rt_212) (zl_L (fun v9 h10 => ?_))
    exact r_lret d_211_89 rt_211
  refine zl_eq 14 (fun hx => ?_) (fun hx14 => ?_)
  · refine zl_tr (r_tsw (tgt := 90) d_211_1 (by rw [hx]; decide) (by decide)) ?_
    refine zl_tr (r_lload_n d_211_90 rfl) ?_
    refine zl_tr (r_lconst (z := 0) d_211_91 rfl) ?_
    refine zl_tr (r_lcmp d_211_92) ?_
    refine zl_tr (r_if_ne (tgt := 100) d_211_93 (by decide)) (zl_if ?_ ?_)
    · skip
      refine zl_tr (r_lconst (z := 0) d_211_96 rfl) ?_
      refine zl_tr (r_goto (tgt := 112) d_211_97 (by decide)) ?_
      exact r_lret d_211_112 rt_211
    · skip
      refine zl_tr (r_lload_n d_211_100 rfl) ?_
      refine zl_tr (r_lload_n d_211_101 rfl) ?_
      refine zl_tr (r_lload_n d_211_102 rfl) ?_
      refine zl_tr (r_lload_n d_211_103 rfl) ?_
      refine zl_tr (r_SL [zm_L x2, zm_L x3] d_211_104 ow_211 cal_12_448 (by decide) na_213 rfl rfl (Nat.le_of_ble_eq_true rfl) (by rw [rk_213]; decide) (zr_im mx_213 rfl (Nat.le_of_ble_eq_true rfl)) rt_213) (zl_L (fun v11 h12 => ?_))
      refine zl_tr (r_lmul d_211_107) (zl_ck ?_)
      refine zl_tr (r_lsub d_211_108) (zl_ck ?_)
      refine zl_tr (r_SL [zm_L (x2 - (x3 * v11))] d_211_109 ow_211 cal_12_444 (by decide) na_212 rfl rfl (Nat.le_of_ble_eq_true rfl) (by rw [rk_212]; decide) (zr_im mx_212 rfl (Nat.le_of_ble_eq_true rfl)) rt_212) (zl_L (fun v13 h14 => ?_))
      exact r_lret d_211_112 rt_211
  refine zl_eq 15 (fun hx => ?_) (fun hx15 => ?_)
  · refine zl_tr (r_tsw (tgt := 113) d_211_1 (by rw [hx]; decide) (by decide)) ?_
    refine zl_tr (r_lload_n d_211_113 rfl) ?_
    refine zl_tr (r_lload_n d_211_114 rfl) ?_
    refine zl_tr (r_lcmp d_211_115) ?_
    refine zl_tr (r_if_ge (tgt := 123) d_211_116 (by decide)) (zl_if ?_ ?_)
    · skip
      refine zl_tr (r_lload_n d_211_119 rfl) ?_
      refine zl_tr (r_goto (tgt := 124) d_211_120 (by decide)) ?_
      exact r_lret d_211_124 rt_211
    · skip
      refine zl_tr (r_lload_n d_211_123 rfl) ?_
      exact r_lret d_211_124 rt_211
  refine zl_eq 16 (fun hx => ?_) (fun hx16 => ?_)
  · refine zl_tr (r_tsw (tgt := 125) d_211_1 (by rw [hx]; decide) (by decide)) ?_
    refine zl_tr (r_lload_n d_211_125 rfl) ?_
    refine zl_tr (r_lload_n d_211_126 rfl) ?_
    refine zl_tr (r_lcmp d_211_127) ?_
    refine zl_tr (r_if_le (tgt := 135) d_211_128 (by decide)) (zl_if ?_ ?_)
    · skip
      refine zl_tr (r_lload_n d_211_135 rfl) ?_
      exact r_lret d_211_136 rt_211
    · skip
      refine zl_tr (r_lload_n d_211_131 rfl) ?_
      refine zl_tr (r_goto (tgt := 136) d_211_132 (by decide)) ?_
      exact r_lret d_211_136 rt_211
  refine zl_eq 17 (fun hx => ?_) (fun hx17 => ?_)
  · refine zl_tr (r_tsw (tgt := 137) d_211_1 (by rw [hx]; decide) (by decide)) ?_
    refine zl_tr (r_lload_n d_211_137 rfl) ?_
    refine zl_tr (r_lload_n d_211_138 rfl) ?_
    refine zl_tr (r_lcmp d_211_139) ?_
    refine zl_tr (r_if_ge (tgt := 147) d_211_140 (by decide)) (zl_if ?_ ?_)
    · skip
      refine zl_tr (r_lconst (z := 1) d_211_143 rfl) ?_
      refine zl_tr (r_goto (tgt := 148) d_211_144 (by decide)) ?_
      exact r_lret d_211_148 rt_211
    · skip
      refine zl_tr (r_lconst (z := 0) d_211_147 rfl) ?_
      exact r_lret d_211_148 rt_211
  refine zl_eq 18 (fun hx => ?_) (fun hx18 => ?_)
  · refine zl_tr (r_tsw (tgt := 149) d_211_1 (by rw [hx]; decide) (by decide)) ?_
    refine zl_tr (r_lload_n d_211_149 rfl) ?_
    refine zl_tr (r_lload_n d_211_150 rfl) ?_
    refine zl_tr (r_lcmp d_211_151) ?_
    refine zl_tr (r_if_le (tgt := 159) d_211_152 (by decide)) (zl_if ?_ ?_)
    · skip
      refine zl_tr (r_lconst (z := 0) d_211_159 rfl) ?_
      exact r_lret d_211_160 rt_211
    · skip
      refine zl_tr (r_lconst (z := 1) d_211_155 rfl) ?_
      refine zl_tr (r_goto (tgt := 160) d_211_156 (by decide)) ?_
      exact r_lret d_211_160 rt_211
  refine zl_eq 19 (fun hx => ?_) (fun hx19 => ?_)
  · refine zl_tr (r_tsw (tgt := 161) d_211_1 (by rw [hx]; decide) (by decide)) ?_
    refine zl_tr (r_lload_n d_211_161 rfl) ?_
    refine zl_tr (r_lload_n d_211_162 rfl) ?_
    refine zl_tr (r_lcmp d_211_163) ?_
    refine zl_tr (r_if_ne (tgt := 171) d_211_164 (by decide)) (zl_if ?_ ?_)
    · skip
      refine zl_tr (r_lconst (z := 1) d_211_167 rfl) ?_
      refine zl_tr (r_goto (tgt := 172) d_211_168 (by decide)) ?_
      exact r_lret d_211_172 rt_211
    · skip
      refine zl_tr (r_lconst (z := 0) d_211_171 rfl) ?_
      exact r_lret d_211_172 rt_211
  refine zl_eq 20 (fun hx => ?_) (fun hx20 => ?_)
  · refine zl_tr (r_tsw (tgt := 173) d_211_1 (by rw [hx]; decide) (by decide)) ?_
    refine zl_tr (r_lload_n d_211_173 rfl) ?_
    refine zl_tr (r_lload_n d_211_174 rfl) ?_
    refine zl_tr (r_land d_211_175) ?_
    exact r_lret d_211_176 rt_211
  refine zl_tr (r_tsw (tgt := 177) d_211_1 (by rw [if_pos (by omega)]; decide) (by decide)) ?_
  refine zl_tr (r_lload_n d_211_177 rfl) ?_
  refine zl_tr (r_lload_n d_211_178 rfl) ?_
  refine zl_tr (r_lor d_211_179) ?_
  exact r_lret d_211_180 rt_211
-- BranTubModel.held
set_option maxRecDepth 20000 in
theorem e_212 {h : zm_H} {x1 : Int} : zl (if (if x1 < 1000000 then -1 else if x1 = 1000000 then 0 else 1) ≤ 0 then (if (if x1 < (-1000000) then -1 else if x1 = (-1000000) then 0 else 1) < 0 then (some (zm_L (-1000000), h)) else (some (zm_L x1, h))) else (some (zm_L 1000000, h))) (zc 212 [zm_L x1] h) := by
  rw [zc_eq (loc := [zm_L x1, zm_U]) (rk_212 _) rfl]
  refine zl_tr (r_lload_n d_212_0 rfl) ?_
  refine zl_tr (r_ldc2 d_212_1 ow_212 lng_12_440) ?_
  refine zl_tr (r_lcmp d_212_4) ?_
  refine zl_tr (r_if_le (tgt := 14) d_212_5 (by decide)) (zl_if ?_ ?_)
  · skip
    refine zl_tr (r_lload_n d_212_14 rfl) ?_
    refine zl_tr (r_ldc2 d_212_15 ow_212 lng_12_442) ?_
    refine zl_tr (r_lcmp d_212_18) ?_
    refine zl_tr (r_if_ge (tgt := 28) d_212_19 (by decide)) (zl_if ?_ ?_)
    · skip
      refine zl_tr (r_ldc2 d_212_22 ow_212 lng_12_442) ?_
      refine zl_tr (r_goto (tgt := 29) d_212_25 (by decide)) ?_
      exact r_lret d_212_29 rt_212
    · skip
      refine zl_tr (r_lload_n d_212_28 rfl) ?_
      exact r_lret d_212_29 rt_212
  · skip
    refine zl_tr (r_ldc2 d_212_8 ow_212 lng_12_440) ?_
    refine zl_tr (r_goto (tgt := 29) d_212_11 (by decide)) ?_
    exact r_lret d_212_29 rt_212
-- BranTubModel.floor
set_option maxRecDepth 20000 in
theorem e_213 {h : zm_H} {x1 : Int} {x2 : Int} : zl (if (if x2 < 0 then -1 else if x2 = 0 then 0 else 1) = 0 then (some (zm_L 0, h)) else (zm_ck ((x2 : Int) ≠ 0 ∧ zm_i64 (x1.tdiv x2)) (zm_ck ((x2 : Int) ≠ 0 ∧ zm_i64 (x1.tdiv x2) ∧ zm_i64 (x1.tmod x2)) (if (if (x1.tmod x2) < 0 then -1 else if (x1.tmod x2) = 0 then 0 else 1) = 0 then (some (zm_L (x1.tdiv x2), h)) else (if (if x1 < 0 then -1 else if x1 = 0 then 0 else 1) < 0 then (if (if x2 < 0 then -1 else if x2 = 0 then 0 else 1) < 0 then (if (1 : Int) = 1 then (some (zm_L (x1.tdiv x2), h)) else (zm_ck (zm_i64 ((x1.tdiv x2) - 1)) (some (zm_L ((x1.tdiv x2) - 1), h)))) else (if (1 : Int) = 0 then (some (zm_L (x1.tdiv x2), h)) else (zm_ck (zm_i64 ((x1.tdiv x2) - 1)) (some (zm_L ((x1.tdiv x2) - 1), h))))) else (if (if x2 < 0 then -1 else if x2 = 0 then 0 else 1) < 0 then (if (0 : Int) = 1 then (some (zm_L (x1.tdiv x2), h)) else (zm_ck (zm_i64 ((x1.tdiv x2) - 1)) (some (zm_L ((x1.tdiv x2) - 1), h)))) else (if (0 : Int) = 0 then (some (zm_L (x1.tdiv x2), h)) else (zm_ck (zm_i64 ((x1.tdiv x2) - 1)) (some (zm_L ((x1.tdiv x2) - 1), h)))))))))) (zc 213 [zm_L x1, zm_L x2] h) := by
  rw [zc_eq (loc := [zm_L x1, zm_U, zm_L x2, zm_U, zm_U, zm_U]) (rk_213 _) rfl]
  refine zl_tr (r_lload_n d_213_0 rfl) ?_
  refine zl_tr (r_lconst (z := 0) d_213_1 rfl) ?_
  refine zl_tr (r_lcmp d_213_2) ?_
  refine zl_tr (r_if_ne (tgt := 8) d_213_3 (by decide)) (zl_if ?_ ?_)
  · skip
    refine zl_tr (r_lconst (z := 0) d_213_6 rfl) ?_
    exact r_lret d_213_7 rt_213
  · skip
    refine zl_tr (r_lload_n d_213_8 rfl) ?_
    refine zl_tr (r_lload_n d_213_9 rfl) ?_
    refine zl_tr (r_ldiv d_213_10) (zl_ck ?_)
    refine zl_tr (r_lstore (loc' := [zm_L x1, zm_U, zm_L x2, zm_U, zm_L (x1.tdiv x2), zm_U]) d_213_11 (Nat.le_of_ble_eq_true rfl) rfl) ?_
    refine zl_tr (r_lload_n d_213_13 rfl) ?_
    refine zl_tr (r_lload_n d_213_14 rfl) ?_
    refine zl_tr (r_lrem d_213_15) (zl_ck ?_)
    refine zl_tr (r_lconst (z := 0) d_213_16 rfl) ?_
    refine zl_tr (r_lcmp d_213_17) ?_
    refine zl_tr (r_if_eq (tgt := 53) d_213_18 (by decide)) (zl_if ?_ ?_)
    · skip
      refine zl_tr (r_lload d_213_53 rfl) ?_
      exact r_lret d_213_55 rt_213
    · skip
      refine zl_tr (r_lload_n d_213_21 rfl) ?_
      refine zl_tr (r_lconst (z := 0) d_213_22 rfl) ?_
      refine zl_tr (r_lcmp d_213_23) ?_
      refine zl_tr (r_if_ge (tgt := 31) d_213_24 (by decide)) (zl_if ?_ ?_)
      · skip
        refine zl_tr (r_iconst d_213_27 (by decide)) ?_
        refine zl_tr (r_goto (tgt := 32) d_213_28 (by decide)) ?_
        refine zl_tr (r_lload_n d_213_32 rfl) ?_
        refine zl_tr (r_lconst (z := 0) d_213_33 rfl) ?_
        refine zl_tr (r_lcmp d_213_34) ?_
        refine zl_tr (r_if_ge (tgt := 42) d_213_35 (by decide)) (zl_if ?_ ?_)
        · skip
          refine zl_tr (r_iconst d_213_38 (by decide)) ?_
          refine zl_tr (r_goto (tgt := 43) d_213_39 (by decide)) ?_
          refine zl_tr (r_icmp_eq (tgt := 53) d_213_43 (by decide)) (zl_if ?_ ?_)
          · skip
            refine zl_tr (r_lload d_213_53 rfl) ?_
            exact r_lret d_213_55 rt_213
          · skip
            refine zl_tr (r_lload d_213_46 rfl) ?_
            refine zl_tr (r_lconst (z := 1) d_213_48 rfl) ?_
            refine zl_tr (r_lsub d_213_49) (zl_ck ?_)
            refine zl_tr (r_goto (tgt := 55) d_213_50 (by decide)) ?_
            exact r_lret d_213_55 rt_213
        · skip
          refine zl_tr (r_iconst d_213_42 (by decide)) ?_
          refine zl_tr (r_icmp_eq (tgt := 53) d_213_43 (by decide)) (zl_if ?_ ?_)
          · skip
            refine zl_tr (r_lload d_213_53 rfl) ?_
            exact r_lret d_213_55 rt_213
          · skip
            refine zl_tr (r_lload d_213_46 rfl) ?_
            refine zl_tr (r_lconst (z := 1) d_213_48 rfl) ?_
            refine zl_tr (r_lsub d_213_49) (zl_ck ?_)
            refine zl_tr (r_goto (tgt := 55) d_213_50 (by decide)) ?_
            exact r_lret d_213_55 rt_213
      · skip
        refine zl_tr (r_iconst d_213_31 (by decide)) ?_
        refine zl_tr (r_lload_n d_213_32 rfl) ?_
        refine zl_tr (r_lconst (z := 0) d_213_33 rfl) ?_
        refine zl_tr (r_lcmp d_213_34) ?_
        refine zl_tr (r_if_ge (tgt := 42) d_213_35 (by decide)) (zl_if ?_ ?_)
        · skip
          refine zl_tr (r_iconst d_213_38 (by decide)) ?_
          refine zl_tr (r_goto (tgt := 43) d_213_39 (by decide)) ?_
          refine zl_tr (r_icmp_eq (tgt := 53) d_213_43 (by decide)) (zl_if ?_ ?_)
          · skip
            refine zl_tr (r_lload d_213_53 rfl) ?_
            exact r_lret d_213_55 rt_213
          · skip
            refine zl_tr (r_lload d_213_46 rfl) ?_
            refine zl_tr (r_lconst (z := 1) d_213_48 rfl) ?_
            refine zl_tr (r_lsub d_213_49) (zl_ck ?_)
            refine zl_tr (r_goto (tgt := 55) d_213_50 (by decide)) ?_
            exact r_lret d_213_55 rt_213
        · skip
          refine zl_tr (r_iconst d_213_42 (by decide)) ?_
          refine zl_tr (r_icmp_eq (tgt := 53) d_213_43 (by decide)) (zl_if ?_ ?_)
          · skip
            refine zl_tr (r_lload d_213_53 rfl) ?_
            exact r_lret d_213_55 rt_213
          · skip
            refine zl_tr (r_lload d_213_46 rfl) ?_
            refine zl_tr (r_lconst (z := 1) d_213_48 rfl) ?_
            refine zl_tr (r_lsub d_213_49) (zl_ck ?_)
            refine zl_tr (r_goto (tgt := 55) d_213_50 (by decide)) ?_
            exact r_lret d_213_55 rt_213
-- BranTubModel.bagAll
set_option maxRecDepth 20000 in
theorem e_214 {h : zm_H} {x1 : Int} : zl (zr none 2 214 4 [zm_A 146, zm_I x1, zm_I 0, zm_I 0] [] h) (zc 214 [zm_A 146, zm_I x1] h) := by
  rw [zc_eq (loc := [zm_A 146, zm_I x1, zm_U, zm_U]) (rk_214 _) rfl]
  refine zl_tr (r_iconst d_214_0 (by decide)) ?_
  refine zl_tr (r_istore_n (loc' := [zm_A 146, zm_I x1, zm_I 0, zm_U]) d_214_1 (Nat.le_of_ble_eq_true rfl) rfl) ?_
  refine zl_tr (r_iconst d_214_2 (by decide)) ?_
  refine zl_tr (r_istore_n (loc' := [zm_A 146, zm_I x1, zm_I 0, zm_I 0]) d_214_3 (Nat.le_of_ble_eq_true rfl) rfl) ?_
  exact zl_rf
-- BranTubModel.bagAll, from 4
set_option maxRecDepth 20000 in
theorem e_214_4 {h : zm_H} {x1 : Int} {x2 : Int} {x3 : Int} : zl (zm_ck (0 ≤ (h 146 13) ∧ (h 146 13) < ((2 : Nat) : Int)) (if x3 < (h 148 (h 146 13)) then (zk_I (zc 215 [zm_A 146, zm_I 0, zm_I x1, zm_I x3] h) (fun v1 h2 => zm_ck (zm_i32 (x2 + v1)) (zm_ck (zm_i32 (x3 + 1)) (zr none 2 214 4 [zm_A 146, zm_I x1, zm_I (x2 + v1), zm_I (x3 + 1)] [] h2)))) else (some (zm_I x2, h)))) (zr none 2 214 4 [zm_A 146, zm_I x1, zm_I x2, zm_I x3] [] h) := by
  refine zl_tr (r_iload_n d_214_4 rfl) ?_
  refine zl_tr (r_aload_n d_214_5 rfl) ?_
  refine zl_tr (r_getR d_214_6 ow_214 f_12_54 la_146 (by decide) fr_146_14) ?_
  refine zl_tr (r_aload_n d_214_9 rfl) ?_
  refine zl_tr (r_getI (kk := 13) d_214_10 ow_214 f_12_51 la_146 (by decide) rfl) ?_
  refine zl_tr (r_iaload d_214_13 la_148) (zl_ck ?_)
  refine zl_tr (r_icmp_ge (tgt := 33) d_214_14 (by decide)) (zl_if ?_ ?_)
  · skip
    refine zl_tr (r_iload_n d_214_17 rfl) ?_
    refine zl_tr (r_aload_n d_214_18 rfl) ?_
    refine zl_tr (r_iconst d_214_19 (by decide)) ?_
    refine zl_tr (r_iload_n d_214_20 rfl) ?_
    refine zl_tr (r_iload_n d_214_21 rfl) ?_
    refine zl_tr (r_VI [zm_A 146, zm_I 0, zm_I x1, zm_I x3] d_214_22 ow_214 cal_12_512 na_215 rfl rfl (Nat.le_of_ble_eq_true rfl) (by rw [rk_215]; decide) (zr_rcv la_146 ow_215) (zr_im mx_215 rfl (Nat.le_of_ble_eq_true rfl)) (by rw [rt_215]; decide)) (zl_I (fun v1 h2 => ?_))
    refine zl_tr (r_iadd d_214_25) (zl_ck ?_)
    refine zl_tr (r_istore_n (loc' := [zm_A 146, zm_I x1, zm_I (x2 + v1), zm_I x3]) d_214_26 (Nat.le_of_ble_eq_true rfl) rfl) ?_
    refine zl_tr (r_iinc (loc' := [zm_A 146, zm_I x1, zm_I (x2 + v1), zm_I (x3 + 1)]) d_214_27 rfl (Nat.le_of_ble_eq_true rfl) rfl) (zl_ck ?_)
    refine zl_tr (r_goto (tgt := 4) d_214_30 (by decide)) ?_
    exact zl_rf
  · skip
    refine zl_tr (r_iload_n d_214_33 rfl) ?_
    exact r_iret d_214_34 rt_214
-- BranTubModel.bag
set_option maxRecDepth 20000 in
theorem e_215 {h : zm_H} {x1 : Int} {x2 : Int} {x3 : Int} : zl (zm_ck (zm_i32 (64 * x1)) (zm_ck (zm_i32 (8 * x2)) (zm_ck (zm_i32 ((64 * x1) + (8 * x2))) (zm_ck (zm_i32 (((64 * x1) + (8 * x2)) + x3)) (zm_ck (0 ≤ (((64 * x1) + (8 * x2)) + x3) ∧ (((64 * x1) + (8 * x2)) + x3) < ((1408 : Nat) : Int)) (some (zm_I (h 178 (((64 * x1) + (8 * x2)) + x3)), h))))))) (zc 215 [zm_A 146, zm_I x1, zm_I x2, zm_I x3] h) := by
  rw [zc_eq (loc := [zm_A 146, zm_I x1, zm_I x2, zm_I x3]) (rk_215 _) rfl]
  refine zl_tr (r_aload_n d_215_0 rfl) ?_
  refine zl_tr (r_getR d_215_1 ow_215 f_12_165 la_146 (by decide) fr_146_50) ?_
  refine zl_tr (r_bipush d_215_4 (by decide)) ?_
  refine zl_tr (r_iload_n d_215_6 rfl) ?_
  refine zl_tr (r_imul d_215_7) (zl_ck ?_)
  refine zl_tr (r_bipush d_215_8 (by decide)) ?_
  refine zl_tr (r_iload_n d_215_10 rfl) ?_
  refine zl_tr (r_imul d_215_11) (zl_ck ?_)
  refine zl_tr (r_iadd d_215_12) (zl_ck ?_)
  refine zl_tr (r_iload_n d_215_13 rfl) ?_
  refine zl_tr (r_iadd d_215_14) (zl_ck ?_)
  refine zl_tr (r_iaload d_215_15 la_178) (zl_ck ?_)
  exact r_iret d_215_16 rt_215
-- BranTubModel.letter
set_option maxRecDepth 20000 in
theorem e_216 {h : zm_H} {x1 : Int} {x2 : Int} {x3 : Int} : zl (zk_I (zc 175 [zm_I x1, zm_I 0, zm_I 1] h) (fun v1 h2 => if v1 = 0 then (some (zm_I (-1), h2)) else (zk_I (zc 171 [zm_A 146, zm_I (h2 146 13), zm_I x1] h2) (fun v3 h4 => zm_ck (zm_i32 (v3 - 1)) (zk_I (zc 175 [zm_I x2, zm_I 0, zm_I (v3 - 1)] h4) (fun v5 h6 => if v5 = 0 then (some (zm_I (-1), h6)) else (zk_I (zc 175 [zm_I x3, zm_I 0, zm_I 5] h6) (fun v7 h8 => if v7 = 0 then (some (zm_I (-1), h8)) else (zk_L (zc 172 [zm_A 146, zm_I (h8 146 13), zm_I x1, zm_I x2] h8) (fun v9 h10 => zr none 2 216 58 [zm_A 146, zm_I x1, zm_I x2, zm_I x3, zm_L v9, zm_U, zm_I 0, zm_L v9, zm_U] [] h10)))))))))) (zc 216 [zm_A 146, zm_I x1, zm_I x2, zm_I x3] h) := by
  rw [zc_eq (loc := [zm_A 146, zm_I x1, zm_I x2, zm_I x3, zm_U, zm_U, zm_U, zm_U, zm_U]) (rk_216 _) rfl]
  refine zl_tr (r_iload_n d_216_0 rfl) ?_
  refine zl_tr (r_iconst d_216_1 (by decide)) ?_
  refine zl_tr (r_iconst d_216_2 (by decide)) ?_
  refine zl_tr (r_SI [zm_I x1, zm_I 0, zm_I 1] d_216_3 ow_216 cal_12_335 (by decide) na_175 rfl rfl (Nat.le_of_ble_eq_true rfl) (by rw [rk_175]; decide) (zr_im mx_175 rfl (Nat.le_of_ble_eq_true rfl)) (by rw [rt_175]; decide)) (zl_I (fun v1 h2 => ?_))
  refine zl_tr (r_if_eq (tgt := 37) d_216_6 (by decide)) (zl_if ?_ ?_)
  · skip
    refine zl_tr (r_iconst d_216_37 (by decide)) ?_
    exact r_iret d_216_38 rt_216
  · skip
    refine zl_tr (r_iload_n d_216_9 rfl) ?_
    refine zl_tr (r_iconst d_216_10 (by decide)) ?_
    refine zl_tr (r_aload_n d_216_11 rfl) ?_
    refine zl_tr (r_aload_n d_216_12 rfl) ?_
    refine zl_tr (r_getI (kk := 13) d_216_13 ow_216 f_12_51 la_146 (by decide) rfl) ?_
    refine zl_tr (r_iload_n d_216_16 rfl) ?_
    refine zl_tr (r_VI [zm_A 146, zm_I (h2 146 13), zm_I x1] d_216_17 ow_216 cal_12_327 na_171 rfl rfl (Nat.le_of_ble_eq_true rfl) (by rw [rk_171]; decide) (zr_rcv la_146 ow_171) (zr_im mx_171 rfl (Nat.le_of_ble_eq_true rfl)) (by rw [rt_171]; decide)) (zl_I (fun v3 h4 => ?_))
    refine zl_tr (r_iconst d_216_20 (by decide)) ?_
    refine zl_tr (r_isub d_216_21) (zl_ck ?_)
    refine zl_tr (r_SI [zm_I x2, zm_I 0, zm_I (v3 - 1)] d_216_22 ow_216 cal_12_335 (by decide) na_175 rfl rfl (Nat.le_of_ble_eq_true rfl) (by rw [rk_175]; decide) (zr_im mx_175 rfl (Nat.le_of_ble_eq_true rfl)) (by rw [rt_175]; decide)) (zl_I (fun v5 h6 => ?_))
    refine zl_tr (r_if_eq (tgt := 37) d_216_25 (by decide)) (zl_if ?_ ?_)
    · skip
      refine zl_tr (r_iconst d_216_37 (by decide)) ?_
      exact r_iret d_216_38 rt_216
    · skip
      refine zl_tr (r_iload_n d_216_28 rfl) ?_
      refine zl_tr (r_iconst d_216_29 (by decide)) ?_
      refine zl_tr (r_iconst d_216_30 (by decide)) ?_
      refine zl_tr (r_SI [zm_I x3, zm_I 0, zm_I 5] d_216_31 ow_216 cal_12_335 (by decide) na_175 rfl rfl (Nat.le_of_ble_eq_true rfl) (by rw [rk_175]; decide) (zr_im mx_175 rfl (Nat.le_of_ble_eq_true rfl)) (by rw [rt_175]; decide)) (zl_I (fun v7 h8 => ?_))
      refine zl_tr (r_if_ne (tgt := 39) d_216_34 (by decide)) (zl_if ?_ ?_)
      · skip
        refine zl_tr (r_iconst d_216_37 (by decide)) ?_
        exact r_iret d_216_38 rt_216
      · skip
        refine zl_tr (r_aload_n d_216_39 rfl) ?_
        refine zl_tr (r_aload_n d_216_40 rfl) ?_
        refine zl_tr (r_getI (kk := 13) d_216_41 ow_216 f_12_51 la_146 (by decide) rfl) ?_
        refine zl_tr (r_iload_n d_216_44 rfl) ?_
        refine zl_tr (r_iload_n d_216_45 rfl) ?_
        refine zl_tr (r_VL [zm_A 146, zm_I (h8 146 13), zm_I x1, zm_I x2] d_216_46 ow_216 cal_12_331 na_172 rfl rfl (Nat.le_of_ble_eq_true rfl) (by rw [rk_172]; decide) (zr_rcv la_146 ow_172) (zr_im mx_172 rfl (Nat.le_of_ble_eq_true rfl)) rt_172) (zl_L (fun v9 h10 => ?_))
        refine zl_tr (r_lstore (loc' := [zm_A 146, zm_I x1, zm_I x2, zm_I x3, zm_L v9, zm_U, zm_U, zm_U, zm_U]) d_216_49 (Nat.le_of_ble_eq_true rfl) rfl) ?_
        refine zl_tr (r_iconst d_216_51 (by decide)) ?_
        refine zl_tr (r_istore (loc' := [zm_A 146, zm_I x1, zm_I x2, zm_I x3, zm_L v9, zm_U, zm_I 0, zm_U, zm_U]) d_216_52 (Nat.le_of_ble_eq_true rfl) rfl) ?_
        refine zl_tr (r_lload d_216_54 rfl) ?_
        refine zl_tr (r_lstore (loc' := [zm_A 146, zm_I x1, zm_I x2, zm_I x3, zm_L v9, zm_U, zm_I 0, zm_L v9, zm_U]) d_216_56 (Nat.le_of_ble_eq_true rfl) rfl) ?_
        exact zl_rf
-- BranTubModel.letter, from 58
set_option maxRecDepth 20000 in
theorem e_216_58 {h : zm_H} {w0 : zm_V} {w1 : zm_V} {w2 : zm_V} {x3 : Int} {x4 : Int} {x6 : Int} {x7 : Int} : zl (if (if x7 < 0 then -1 else if x7 = 0 then 0 else 1) ≤ 0 then (if x3 < x6 then (zm_ck (zm_i32 (x6 - 1)) (zm_ck (zm_i32 ((x6 - 1) - x3)) (zm_ck (zm_i32 (8 * ((x6 - 1) - x3))) (zm_ck (zm_i32 (zb_land (zb_lshr x4 (8 * ((x6 - 1) - x3))) 255)) (zm_ck (zm_i32 ((zb_land (zb_lshr x4 (8 * ((x6 - 1) - x3))) 255) - 97)) (zm_ck (zm_i32 (((zb_land (zb_lshr x4 (8 * ((x6 - 1) - x3))) 255) - 97) + 1)) (some (zm_I (((zb_land (zb_lshr x4 (8 * ((x6 - 1) - x3))) 255) - 97) + 1), h)))))))) else (some (zm_I 0, h))) else (zm_ck (zm_i32 (x6 + 1)) (zr none 2 216 58 [w0, w1, w2, zm_I x3, zm_L x4, zm_U, zm_I (x6 + 1), zm_L (zb_lshr x7 8), zm_U] [] h))) (zr none 2 216 58 [w0, w1, w2, zm_I x3, zm_L x4, zm_U, zm_I x6, zm_L x7, zm_U] [] h) := by
  refine zl_tr (r_lload d_216_58 rfl) ?_
  refine zl_tr (r_lconst (z := 0) d_216_60 rfl) ?_
  refine zl_tr (r_lcmp d_216_61) ?_
  refine zl_tr (r_if_le (tgt := 78) d_216_62 (by decide)) (zl_if ?_ ?_)
  · skip
    refine zl_tr (r_iload_n d_216_78 rfl) ?_
    refine zl_tr (r_iload d_216_79 rfl) ?_
    refine zl_tr (r_icmp_lt (tgt := 88) d_216_81 (by decide)) (zl_if ?_ ?_)
    · skip
      refine zl_tr (r_lload d_216_88 rfl) ?_
      refine zl_tr (r_bipush d_216_90 (by decide)) ?_
      refine zl_tr (r_iload d_216_92 rfl) ?_
      refine zl_tr (r_iconst d_216_94 (by decide)) ?_
      refine zl_tr (r_isub d_216_95) (zl_ck ?_)
      refine zl_tr (r_iload_n d_216_96 rfl) ?_
      refine zl_tr (r_isub d_216_97) (zl_ck ?_)
      refine zl_tr (r_imul d_216_98) (zl_ck ?_)
      refine zl_tr (r_lshr d_216_99) ?_
      refine zl_tr (r_ldc2 d_216_100 ow_216 lng_12_521) ?_
      refine zl_tr (r_land d_216_103) ?_
      refine zl_tr (r_l2i d_216_104) (zl_ck ?_)
      refine zl_tr (r_bipush d_216_105 (by decide)) ?_
      refine zl_tr (r_isub d_216_107) (zl_ck ?_)
      refine zl_tr (r_iconst d_216_108 (by decide)) ?_
      refine zl_tr (r_iadd d_216_109) (zl_ck ?_)
      exact r_iret d_216_110 rt_216
    · skip
      refine zl_tr (r_iconst d_216_84 (by decide)) ?_
      refine zl_tr (r_goto (tgt := 110) d_216_85 (by decide)) ?_
      exact r_iret d_216_110 rt_216
  · skip
    refine zl_tr (r_iinc (loc' := [w0, w1, w2, zm_I x3, zm_L x4, zm_U, zm_I (x6 + 1), zm_L x7, zm_U]) d_216_65 rfl (Nat.le_of_ble_eq_true rfl) rfl) (zl_ck ?_)
    refine zl_tr (r_lload d_216_68 rfl) ?_
    refine zl_tr (r_bipush d_216_70 (by decide)) ?_
    refine zl_tr (r_lshr d_216_72) ?_
    refine zl_tr (r_lstore (loc' := [w0, w1, w2, zm_I x3, zm_L x4, zm_U, zm_I (x6 + 1), zm_L (zb_lshr x7 8), zm_U]) d_216_73 (Nat.le_of_ble_eq_true rfl) rfl) ?_
    refine zl_tr (r_goto (tgt := 58) d_216_75 (by decide)) ?_
    exact zl_rf
-- BranTubModel.kind
set_option maxRecDepth 20000 in
theorem e_217 {h : zm_H} {x1 : Int} {x2 : Int} : zl (zk_I (zc 218 [zm_A 146, zm_I x1] h) (fun v1 h2 => if v1 = 0 then (some (zm_I (-1), h2)) else (if x2 = 0 then (zm_ck (zm_i32 (8 * (h2 146 13))) (zm_ck (zm_i32 ((8 * (h2 146 13)) + x1)) (zm_ck (0 ≤ ((8 * (h2 146 13)) + x1) ∧ ((8 * (h2 146 13)) + x1) < ((16 : Nat) : Int)) (some (zm_I (h2 149 ((8 * (h2 146 13)) + x1)), h2))))) else (if x2 = 1 then (zk_I (zc 219 [zm_A 146, zm_I x1] h2) (fun v3 h4 => some (zm_I v3, h4))) else (if x2 = 2 then (zr none 2 217 68 [zm_A 146, zm_I x1, zm_I x2, zm_I 0, zm_I 0] [] h2) else (if x2 = 3 then (zr none 2 217 104 [zm_A 146, zm_I x1, zm_I x2, zm_I 0, zm_I 0] [] h2) else (some (zm_I (-1), h2)))))))) (zc 217 [zm_A 146, zm_I x1, zm_I x2] h) := by
  rw [zc_eq (loc := [zm_A 146, zm_I x1, zm_I x2, zm_U, zm_U]) (rk_217 _) rfl]
  refine zl_tr (r_aload_n d_217_0 rfl) ?_
  refine zl_tr (r_iload_n d_217_1 rfl) ?_
  refine zl_tr (r_VI [zm_A 146, zm_I x1] d_217_2 ow_217 cal_12_523 na_218 rfl rfl (Nat.le_of_ble_eq_true rfl) (by rw [rk_218]; decide) (zr_rcv la_146 ow_218) (zr_im mx_218 rfl (Nat.le_of_ble_eq_true rfl)) (by rw [rt_218]; decide)) (zl_I (fun v1 h2 => ?_))
  refine zl_tr (r_if_ne (tgt := 10) d_217_5 (by decide)) (zl_if ?_ ?_)
  · skip
    refine zl_tr (r_iconst d_217_8 (by decide)) ?_
    exact r_iret d_217_9 rt_217
  · skip
    refine zl_tr (r_iconst d_217_10 (by decide)) ?_
    refine zl_tr (r_istore_n (loc' := [zm_A 146, zm_I x1, zm_I x2, zm_I 0, zm_U]) d_217_11 (Nat.le_of_ble_eq_true rfl) rfl) ?_
    refine zl_tr (r_iload_n d_217_12 rfl) ?_
    refine zl_eq 0 (fun hx => ?_) (fun hx0 => ?_)
    · refine zl_tr (r_tsw (tgt := 44) d_217_13 (by rw [hx]; decide) (by decide)) ?_
      refine zl_tr (r_aload_n d_217_44 rfl) ?_
      refine zl_tr (r_getR d_217_45 ow_217 f_12_57 la_146 (by decide) fr_146_15) ?_
      refine zl_tr (r_bipush d_217_48 (by decide)) ?_
      refine zl_tr (r_aload_n d_217_50 rfl) ?_
      refine zl_tr (r_getI (kk := 13) d_217_51 ow_217 f_12_51 la_146 (by decide) rfl) ?_
      refine zl_tr (r_imul d_217_54) (zl_ck ?_)
      refine zl_tr (r_iload_n d_217_55 rfl) ?_
      refine zl_tr (r_iadd d_217_56) (zl_ck ?_)
      refine zl_tr (r_iaload d_217_57 la_149) (zl_ck ?_)
      exact r_iret d_217_58 rt_217
    refine zl_eq 1 (fun hx => ?_) (fun hx1 => ?_)
    · refine zl_tr (r_tsw (tgt := 59) d_217_13 (by rw [hx]; decide) (by decide)) ?_
      refine zl_tr (r_aload_n d_217_59 rfl) ?_
      refine zl_tr (r_iload_n d_217_60 rfl) ?_
      refine zl_tr (r_VI [zm_A 146, zm_I x1] d_217_61 ow_217 cal_12_476 na_219 rfl rfl (Nat.le_of_ble_eq_true rfl) (by rw [rk_219]; decide) (zr_rcv la_146 ow_219) (zr_im mx_219 rfl (Nat.le_of_ble_eq_true rfl)) (by rw [rt_219]; decide)) (zl_I (fun v3 h4 => ?_))
      exact r_iret d_217_64 rt_217
    refine zl_eq 2 (fun hx => ?_) (fun hx2 => ?_)
    · refine zl_tr (r_tsw (tgt := 65) d_217_13 (by rw [hx]; decide) (by decide)) ?_
      refine zl_tr (r_iconst d_217_65 (by decide)) ?_
      refine zl_tr (r_istore (loc' := [zm_A 146, zm_I x1, zm_I x2, zm_I 0, zm_I 0]) d_217_66 (Nat.le_of_ble_eq_true rfl) rfl) ?_
      exact zl_rf
    refine zl_eq 3 (fun hx => ?_) (fun hx3 => ?_)
    · refine zl_tr (r_tsw (tgt := 101) d_217_13 (by rw [hx]; decide) (by decide)) ?_
      refine zl_tr (r_iconst d_217_101 (by decide)) ?_
      refine zl_tr (r_istore (loc' := [zm_A 146, zm_I x1, zm_I x2, zm_I 0, zm_I 0]) d_217_102 (Nat.le_of_ble_eq_true rfl) rfl) ?_
      exact zl_rf
    refine zl_tr (r_tsw (tgt := 137) d_217_13 (by rw [if_pos (by omega)]; decide) (by decide)) ?_
    refine zl_tr (r_iconst d_217_137 (by decide)) ?_
    exact r_iret d_217_138 rt_217
-- BranTubModel.kind, from 68
set_option maxRecDepth 20000 in
theorem e_217_68 {h : zm_H} {x1 : Int} {w2 : zm_V} {x3 : Int} {x4 : Int} (hw2 : zm_cat w2 ≠ 2) : zl (zm_ck (0 ≤ (h 146 13) ∧ (h 146 13) < ((2 : Nat) : Int)) (if x4 < (h 151 (h 146 13)) then (zk_I (zc 206 [zm_A 146, zm_I 0, zm_I x4, zm_I x1] h) (fun v1 h2 => zm_ck (zm_i32 (x3 + v1)) (zm_ck (zm_i32 (x4 + 1)) (zr none 2 217 68 [zm_A 146, zm_I x1, w2, zm_I (x3 + v1), zm_I (x4 + 1)] [] h2)))) else (some (zm_I x3, h)))) (zr none 2 217 68 [zm_A 146, zm_I x1, w2, zm_I x3, zm_I x4] [] h) := by
  refine zl_tr (r_iload d_217_68 rfl) ?_
  refine zl_tr (r_aload_n d_217_70 rfl) ?_
  refine zl_tr (r_getR d_217_71 ow_217 f_12_63 la_146 (by decide) fr_146_17) ?_
  refine zl_tr (r_aload_n d_217_74 rfl) ?_
  refine zl_tr (r_getI (kk := 13) d_217_75 ow_217 f_12_51 la_146 (by decide) rfl) ?_
  refine zl_tr (r_iaload d_217_78 la_151) (zl_ck ?_)
  refine zl_tr (r_icmp_ge (tgt := 99) d_217_79 (by decide)) (zl_if ?_ ?_)
  · skip
    refine zl_tr (r_iload_n d_217_82 rfl) ?_
    refine zl_tr (r_aload_n d_217_83 rfl) ?_
    refine zl_tr (r_iconst d_217_84 (by decide)) ?_
    refine zl_tr (r_iload d_217_85 rfl) ?_
    refine zl_tr (r_iload_n d_217_87 rfl) ?_
    refine zl_tr (r_VI [zm_A 146, zm_I 0, zm_I x4, zm_I x1] d_217_88 ow_217 cal_12_460 na_206 rfl rfl (Nat.le_of_ble_eq_true rfl) (by rw [rk_206]; decide) (zr_rcv la_146 ow_206) (zr_im mx_206 rfl (Nat.le_of_ble_eq_true rfl)) (by rw [rt_206]; decide)) (zl_I (fun v1 h2 => ?_))
    refine zl_tr (r_iadd d_217_91) (zl_ck ?_)
    refine zl_tr (r_istore_n (loc' := [zm_A 146, zm_I x1, w2, zm_I (x3 + v1), zm_I x4]) d_217_92 (Nat.le_of_ble_eq_true rfl) (zr_k1 rfl hw2 rfl)) ?_
    refine zl_tr (r_iinc (loc' := [zm_A 146, zm_I x1, w2, zm_I (x3 + v1), zm_I (x4 + 1)]) d_217_93 rfl (Nat.le_of_ble_eq_true rfl) rfl) (zl_ck ?_)
    refine zl_tr (r_goto (tgt := 68) d_217_96 (by decide)) ?_
    exact zl_rf
  · skip
    refine zl_tr (r_iload_n d_217_99 rfl) ?_
    exact r_iret d_217_100 rt_217
-- BranTubModel.kind, from 104
set_option maxRecDepth 20000 in
theorem e_217_104 {h : zm_H} {x1 : Int} {w2 : zm_V} {x3 : Int} {x4 : Int} (hw2 : zm_cat w2 ≠ 2) : zl (zm_ck (0 ≤ (h 146 13) ∧ (h 146 13) < ((2 : Nat) : Int)) (if x4 < (h 153 (h 146 13)) then (zk_I (zc 215 [zm_A 146, zm_I 0, zm_I x4, zm_I x1] h) (fun v1 h2 => zm_ck (zm_i32 (x3 + v1)) (zm_ck (zm_i32 (x4 + 1)) (zr none 2 217 104 [zm_A 146, zm_I x1, w2, zm_I (x3 + v1), zm_I (x4 + 1)] [] h2)))) else (some (zm_I x3, h)))) (zr none 2 217 104 [zm_A 146, zm_I x1, w2, zm_I x3, zm_I x4] [] h) := by
  refine zl_tr (r_iload d_217_104 rfl) ?_
  refine zl_tr (r_aload_n d_217_106 rfl) ?_
  refine zl_tr (r_getR d_217_107 ow_217 f_12_69 la_146 (by decide) fr_146_19) ?_
  refine zl_tr (r_aload_n d_217_110 rfl) ?_
  refine zl_tr (r_getI (kk := 13) d_217_111 ow_217 f_12_51 la_146 (by decide) rfl) ?_
  refine zl_tr (r_iaload d_217_114 la_153) (zl_ck ?_)
  refine zl_tr (r_icmp_ge (tgt := 135) d_217_115 (by decide)) (zl_if ?_ ?_)
  · skip
    refine zl_tr (r_iload_n d_217_118 rfl) ?_
    refine zl_tr (r_aload_n d_217_119 rfl) ?_
    refine zl_tr (r_iconst d_217_120 (by decide)) ?_
    refine zl_tr (r_iload d_217_121 rfl) ?_
    refine zl_tr (r_iload_n d_217_123 rfl) ?_
    refine zl_tr (r_VI [zm_A 146, zm_I 0, zm_I x4, zm_I x1] d_217_124 ow_217 cal_12_512 na_215 rfl rfl (Nat.le_of_ble_eq_true rfl) (by rw [rk_215]; decide) (zr_rcv la_146 ow_215) (zr_im mx_215 rfl (Nat.le_of_ble_eq_true rfl)) (by rw [rt_215]; decide)) (zl_I (fun v1 h2 => ?_))
    refine zl_tr (r_iadd d_217_127) (zl_ck ?_)
    refine zl_tr (r_istore_n (loc' := [zm_A 146, zm_I x1, w2, zm_I (x3 + v1), zm_I x4]) d_217_128 (Nat.le_of_ble_eq_true rfl) (zr_k1 rfl hw2 rfl)) ?_
    refine zl_tr (r_iinc (loc' := [zm_A 146, zm_I x1, w2, zm_I (x3 + v1), zm_I (x4 + 1)]) d_217_129 rfl (Nat.le_of_ble_eq_true rfl) rfl) (zl_ck ?_)
    refine zl_tr (r_goto (tgt := 104) d_217_132 (by decide)) ?_
    exact zl_rf
  · skip
    refine zl_tr (r_iload_n d_217_135 rfl) ?_
    exact r_iret d_217_136 rt_217
-- BranTubModel.isKind
set_option maxRecDepth 20000 in
theorem e_218 {h : zm_H} {x1 : Int} : zl (if x1 < 0 then (zm_ck (zm_bit 0) (some (zm_I 0, h))) else (zm_ck (0 ≤ (h 146 13) ∧ (h 146 13) < ((2 : Nat) : Int)) (if x1 < (h 148 (h 146 13)) then (zm_ck (zm_bit 1) (some (zm_I 1, h))) else (zm_ck (zm_bit 0) (some (zm_I 0, h)))))) (zc 218 [zm_A 146, zm_I x1] h) := by
  rw [zc_eq (loc := [zm_A 146, zm_I x1]) (rk_218 _) rfl]
  refine zl_tr (r_iload_n d_218_0 rfl) ?_
  refine zl_tr (r_if_lt (tgt := 21) d_218_1 (by decide)) (zl_if ?_ ?_)
  · skip
    refine zl_tr (r_iconst d_218_21 (by decide)) ?_
    exact r_zret d_218_22 rt_218
  · skip
    refine zl_tr (r_iload_n d_218_4 rfl) ?_
    refine zl_tr (r_aload_n d_218_5 rfl) ?_
    refine zl_tr (r_getR d_218_6 ow_218 f_12_54 la_146 (by decide) fr_146_14) ?_
    refine zl_tr (r_aload_n d_218_9 rfl) ?_
    refine zl_tr (r_getI (kk := 13) d_218_10 ow_218 f_12_51 la_146 (by decide) rfl) ?_
    refine zl_tr (r_iaload d_218_13 la_148) (zl_ck ?_)
    refine zl_tr (r_icmp_ge (tgt := 21) d_218_14 (by decide)) (zl_if ?_ ?_)
    · skip
      refine zl_tr (r_iconst d_218_17 (by decide)) ?_
      refine zl_tr (r_goto (tgt := 22) d_218_18 (by decide)) ?_
      exact r_zret d_218_22 rt_218
    · skip
      refine zl_tr (r_iconst d_218_21 (by decide)) ?_
      exact r_zret d_218_22 rt_218
-- BranTubModel.sizeOf
set_option maxRecDepth 20000 in
theorem e_219 {h : zm_H} {x1 : Int} : zl (zm_ck (zm_i32 (8 * (h 146 13))) (zm_ck (zm_i32 ((8 * (h 146 13)) + x1)) (zm_ck (0 ≤ ((8 * (h 146 13)) + x1) ∧ ((8 * (h 146 13)) + x1) < ((16 : Nat) : Int)) (some (zm_I (h 150 ((8 * (h 146 13)) + x1)), h))))) (zc 219 [zm_A 146, zm_I x1] h) := by
  rw [zc_eq (loc := [zm_A 146, zm_I x1]) (rk_219 _) rfl]
  refine zl_tr (r_aload_n d_219_0 rfl) ?_
  refine zl_tr (r_getR d_219_1 ow_219 f_12_60 la_146 (by decide) fr_146_16) ?_
  refine zl_tr (r_bipush d_219_4 (by decide)) ?_
  refine zl_tr (r_aload_n d_219_6 rfl) ?_
  refine zl_tr (r_getI (kk := 13) d_219_7 ow_219 f_12_51 la_146 (by decide) rfl) ?_
  refine zl_tr (r_imul d_219_10) (zl_ck ?_)
  refine zl_tr (r_iload_n d_219_11 rfl) ?_
  refine zl_tr (r_iadd d_219_12) (zl_ck ?_)
  refine zl_tr (r_iaload d_219_13 la_150) (zl_ck ?_)
  exact r_iret d_219_14 rt_219
-- BranTubModel.layer
set_option maxRecDepth 20000 in
theorem e_220 {h : zm_H} {x1 : Int} {x2 : Int} : zl (zk_I (zc 221 [zm_A 146, zm_I x1] h) (fun v1 h2 => if v1 = 0 then (some (zm_I (-1), h2)) else (if x2 = (-1) then (zk_I (zc 205 [zm_A 146, zm_I 0, zm_I x1] h2) (fun v3 h4 => some (zm_I v3, h4))) else (zk_I (zc 218 [zm_A 146, zm_I x2] h2) (fun v5 h6 => if v5 = 0 then (some (zm_I (-1), h6)) else (zk_I (zc 206 [zm_A 146, zm_I 0, zm_I x1, zm_I x2] h6) (fun v7 h8 => some (zm_I v7, h8)))))))) (zc 220 [zm_A 146, zm_I x1, zm_I x2] h) := by
  rw [zc_eq (loc := [zm_A 146, zm_I x1, zm_I x2]) (rk_220 _) rfl]
  refine zl_tr (r_aload_n d_220_0 rfl) ?_
  refine zl_tr (r_iload_n d_220_1 rfl) ?_
  refine zl_tr (r_VI [zm_A 146, zm_I x1] d_220_2 ow_220 cal_12_526 na_221 rfl rfl (Nat.le_of_ble_eq_true rfl) (by rw [rk_221]; decide) (zr_rcv la_146 ow_221) (zr_im mx_221 rfl (Nat.le_of_ble_eq_true rfl)) (by rw [rt_221]; decide)) (zl_I (fun v1 h2 => ?_))
  refine zl_tr (r_if_ne (tgt := 12) d_220_5 (by decide)) (zl_if ?_ ?_)
  · skip
    refine zl_tr (r_iconst d_220_8 (by decide)) ?_
    refine zl_tr (r_goto (tgt := 45) d_220_9 (by decide)) ?_
    exact r_iret d_220_45 rt_220
  · skip
    refine zl_tr (r_iload_n d_220_12 rfl) ?_
    refine zl_tr (r_iconst d_220_13 (by decide)) ?_
    refine zl_tr (r_icmp_ne (tgt := 26) d_220_14 (by decide)) (zl_if ?_ ?_)
    · skip
      refine zl_tr (r_aload_n d_220_17 rfl) ?_
      refine zl_tr (r_iconst d_220_18 (by decide)) ?_
      refine zl_tr (r_iload_n d_220_19 rfl) ?_
      refine zl_tr (r_VI [zm_A 146, zm_I 0, zm_I x1] d_220_20 ow_220 cal_12_464 na_205 rfl rfl (Nat.le_of_ble_eq_true rfl) (by rw [rk_205]; decide) (zr_rcv la_146 ow_205) (zr_im mx_205 rfl (Nat.le_of_ble_eq_true rfl)) (by rw [rt_205]; decide)) (zl_I (fun v3 h4 => ?_))
      refine zl_tr (r_goto (tgt := 45) d_220_23 (by decide)) ?_
      exact r_iret d_220_45 rt_220
    · skip
      refine zl_tr (r_aload_n d_220_26 rfl) ?_
      refine zl_tr (r_iload_n d_220_27 rfl) ?_
      refine zl_tr (r_VI [zm_A 146, zm_I x2] d_220_28 ow_220 cal_12_523 na_218 rfl rfl (Nat.le_of_ble_eq_true rfl) (by rw [rk_218]; decide) (zr_rcv la_146 ow_218) (zr_im mx_218 rfl (Nat.le_of_ble_eq_true rfl)) (by rw [rt_218]; decide)) (zl_I (fun v5 h6 => ?_))
      refine zl_tr (r_if_eq (tgt := 44) d_220_31 (by decide)) (zl_if ?_ ?_)
      · skip
        refine zl_tr (r_iconst d_220_44 (by decide)) ?_
        exact r_iret d_220_45 rt_220
      · skip
        refine zl_tr (r_aload_n d_220_34 rfl) ?_
        refine zl_tr (r_iconst d_220_35 (by decide)) ?_
        refine zl_tr (r_iload_n d_220_36 rfl) ?_
        refine zl_tr (r_iload_n d_220_37 rfl) ?_
        refine zl_tr (r_VI [zm_A 146, zm_I 0, zm_I x1, zm_I x2] d_220_38 ow_220 cal_12_460 na_206 rfl rfl (Nat.le_of_ble_eq_true rfl) (by rw [rk_206]; decide) (zr_rcv la_146 ow_206) (zr_im mx_206 rfl (Nat.le_of_ble_eq_true rfl)) (by rw [rt_206]; decide)) (zl_I (fun v7 h8 => ?_))
        refine zl_tr (r_goto (tgt := 45) d_220_41 (by decide)) ?_
        exact r_iret d_220_45 rt_220
-- BranTubModel.isLayer
set_option maxRecDepth 20000 in
theorem e_221 {h : zm_H} {x1 : Int} : zl (if x1 < 0 then (zm_ck (zm_bit 0) (some (zm_I 0, h))) else (zm_ck (0 ≤ (h 146 13) ∧ (h 146 13) < ((2 : Nat) : Int)) (if x1 < (h 151 (h 146 13)) then (zm_ck (zm_bit 1) (some (zm_I 1, h))) else (zm_ck (zm_bit 0) (some (zm_I 0, h)))))) (zc 221 [zm_A 146, zm_I x1] h) := by
  rw [zc_eq (loc := [zm_A 146, zm_I x1]) (rk_221 _) rfl]
  refine zl_tr (r_iload_n d_221_0 rfl) ?_
  refine zl_tr (r_if_lt (tgt := 21) d_221_1 (by decide)) (zl_if ?_ ?_)
  · skip
    refine zl_tr (r_iconst d_221_21 (by decide)) ?_
    exact r_zret d_221_22 rt_221
  · skip
    refine zl_tr (r_iload_n d_221_4 rfl) ?_
    refine zl_tr (r_aload_n d_221_5 rfl) ?_
    refine zl_tr (r_getR d_221_6 ow_221 f_12_63 la_146 (by decide) fr_146_17) ?_
    refine zl_tr (r_aload_n d_221_9 rfl) ?_
    refine zl_tr (r_getI (kk := 13) d_221_10 ow_221 f_12_51 la_146 (by decide) rfl) ?_
    refine zl_tr (r_iaload d_221_13 la_151) (zl_ck ?_)
    refine zl_tr (r_icmp_ge (tgt := 21) d_221_14 (by decide)) (zl_if ?_ ?_)
    · skip
      refine zl_tr (r_iconst d_221_17 (by decide)) ?_
      refine zl_tr (r_goto (tgt := 22) d_221_18 (by decide)) ?_
      exact r_zret d_221_22 rt_221
    · skip
      refine zl_tr (r_iconst d_221_21 (by decide)) ?_
      exact r_zret d_221_22 rt_221
-- BranTubModel.child
set_option maxRecDepth 20000 in
theorem e_222 {h : zm_H} {x1 : Int} {x2 : Int} : zl (zk_I (zc 223 [zm_A 146, zm_I x1] h) (fun v1 h2 => if v1 = 0 then (some (zm_I (-1), h2)) else (if x2 = 0 then (zm_ck (zm_i32 (8 * (h2 146 13))) (zm_ck (zm_i32 ((8 * (h2 146 13)) + x1)) (zm_ck (0 ≤ ((8 * (h2 146 13)) + x1) ∧ ((8 * (h2 146 13)) + x1) < ((16 : Nat) : Int)) (some (zm_I (h2 154 ((8 * (h2 146 13)) + x1)), h2))))) else (if x2 = 1 then (zm_ck (zm_i32 (8 * (h2 146 13))) (zm_ck (zm_i32 ((8 * (h2 146 13)) + x1)) (zm_ck (0 ≤ ((8 * (h2 146 13)) + x1) ∧ ((8 * (h2 146 13)) + x1) < ((16 : Nat) : Int)) (some (zm_I (h2 155 ((8 * (h2 146 13)) + x1)), h2))))) else (if x2 = 2 then (zm_ck (zm_i32 (8 * (h2 146 13))) (zm_ck (zm_i32 ((8 * (h2 146 13)) + x1)) (zm_ck (0 ≤ ((8 * (h2 146 13)) + x1) ∧ ((8 * (h2 146 13)) + x1) < ((16 : Nat) : Int)) (some (zm_I (h2 156 ((8 * (h2 146 13)) + x1)), h2))))) else (if x2 = 3 then (zm_ck (0 ≤ x1 ∧ x1 < ((176 : Nat) : Int)) (some (zm_I (h2 177 x1), h2))) else (if x2 = 4 then (zk_I (zc 214 [zm_A 146, zm_I x1] h2) (fun v3 h4 => some (zm_I v3, h4))) else (if x2 = 5 then (zr none 6 222 117 [zm_A 146, zm_I x1, zm_I x2, zm_I 0, zm_I 0] [] h2) else (if x2 = 6 then (zk_V (zc 225 [zm_A 146] h2) (fun h5 => zk_V (zc 226 [zm_A 146, zm_I 0, zm_I x1] h5) (fun h6 => some (zm_I (h6 146 68), h6)))) else (some (zm_I (-1), h2))))))))))) (zc 222 [zm_A 146, zm_I x1, zm_I x2] h) := by
  rw [zc_eq (loc := [zm_A 146, zm_I x1, zm_I x2, zm_U, zm_U]) (rk_222 _) rfl]
  refine zl_tr (r_aload_n d_222_0 rfl) ?_
  refine zl_tr (r_iload_n d_222_1 rfl) ?_
  refine zl_tr (r_VI [zm_A 146, zm_I x1] d_222_2 ow_222 cal_12_529 na_223 rfl rfl (Nat.le_of_ble_eq_true rfl) (by rw [rk_223]; decide) (zr_rcv la_146 ow_223) (zr_im mx_223 rfl (Nat.le_of_ble_eq_true rfl)) (by rw [rt_223]; decide)) (zl_I (fun v1 h2 => ?_))
  refine zl_tr (r_if_ne (tgt := 10) d_222_5 (by decide)) (zl_if ?_ ?_)
  · skip
    refine zl_tr (r_iconst d_222_8 (by decide)) ?_
    exact r_iret d_222_9 rt_222
  · skip
    refine zl_tr (r_iconst d_222_10 (by decide)) ?_
    refine zl_tr (r_istore_n (loc' := [zm_A 146, zm_I x1, zm_I x2, zm_I 0, zm_U]) d_222_11 (Nat.le_of_ble_eq_true rfl) rfl) ?_
    refine zl_tr (r_iload_n d_222_12 rfl) ?_
    refine zl_eq 0 (fun hx => ?_) (fun hx0 => ?_)
    · refine zl_tr (r_tsw (tgt := 56) d_222_13 (by rw [hx]; decide) (by decide)) ?_
      refine zl_tr (r_aload_n d_222_56 rfl) ?_
      refine zl_tr (r_getR d_222_57 ow_222 f_12_72 la_146 (by decide) fr_146_20) ?_
      refine zl_tr (r_bipush d_222_60 (by decide)) ?_
      refine zl_tr (r_aload_n d_222_62 rfl) ?_
      refine zl_tr (r_getI (kk := 13) d_222_63 ow_222 f_12_51 la_146 (by decide) rfl) ?_
      refine zl_tr (r_imul d_222_66) (zl_ck ?_)
      refine zl_tr (r_iload_n d_222_67 rfl) ?_
      refine zl_tr (r_iadd d_222_68) (zl_ck ?_)
      refine zl_tr (r_iaload d_222_69 la_154) (zl_ck ?_)
      exact r_iret d_222_70 rt_222
    refine zl_eq 1 (fun hx => ?_) (fun hx1 => ?_)
    · refine zl_tr (r_tsw (tgt := 71) d_222_13 (by rw [hx]; decide) (by decide)) ?_
      refine zl_tr (r_aload_n d_222_71 rfl) ?_
      refine zl_tr (r_getR d_222_72 ow_222 f_12_75 la_146 (by decide) fr_146_21) ?_
      refine zl_tr (r_bipush d_222_75 (by decide)) ?_
      refine zl_tr (r_aload_n d_222_77 rfl) ?_
      refine zl_tr (r_getI (kk := 13) d_222_78 ow_222 f_12_51 la_146 (by decide) rfl) ?_
      refine zl_tr (r_imul d_222_81) (zl_ck ?_)
      refine zl_tr (r_iload_n d_222_82 rfl) ?_
      refine zl_tr (r_iadd d_222_83) (zl_ck ?_)
      refine zl_tr (r_iaload d_222_84 la_155) (zl_ck ?_)
      exact r_iret d_222_85 rt_222
    refine zl_eq 2 (fun hx => ?_) (fun hx2 => ?_)
    · refine zl_tr (r_tsw (tgt := 86) d_222_13 (by rw [hx]; decide) (by decide)) ?_
      refine zl_tr (r_aload_n d_222_86 rfl) ?_
      refine zl_tr (r_getR d_222_87 ow_222 f_12_78 la_146 (by decide) fr_146_22) ?_
      refine zl_tr (r_bipush d_222_90 (by decide)) ?_
      refine zl_tr (r_aload_n d_222_92 rfl) ?_
      refine zl_tr (r_getI (kk := 13) d_222_93 ow_222 f_12_51 la_146 (by decide) rfl) ?_
      refine zl_tr (r_imul d_222_96) (zl_ck ?_)
      refine zl_tr (r_iload_n d_222_97 rfl) ?_
      refine zl_tr (r_iadd d_222_98) (zl_ck ?_)
      refine zl_tr (r_iaload d_222_99 la_156) (zl_ck ?_)
      exact r_iret d_222_100 rt_222
    refine zl_eq 3 (fun hx => ?_) (fun hx3 => ?_)
    · refine zl_tr (r_tsw (tgt := 101) d_222_13 (by rw [hx]; decide) (by decide)) ?_
      refine zl_tr (r_aload_n d_222_101 rfl) ?_
      refine zl_tr (r_getR d_222_102 ow_222 f_12_162 la_146 (by decide) fr_146_49) ?_
      refine zl_tr (r_iload_n d_222_105 rfl) ?_
      refine zl_tr (r_iaload d_222_106 la_177) (zl_ck ?_)
      exact r_iret d_222_107 rt_222
    refine zl_eq 4 (fun hx => ?_) (fun hx4 => ?_)
    · refine zl_tr (r_tsw (tgt := 108) d_222_13 (by rw [hx]; decide) (by decide)) ?_
      refine zl_tr (r_aload_n d_222_108 rfl) ?_
      refine zl_tr (r_iload_n d_222_109 rfl) ?_
      refine zl_tr (r_VI [zm_A 146, zm_I x1] d_222_110 ow_222 cal_12_518 na_214 rfl rfl (Nat.le_of_ble_eq_true rfl) (by rw [rk_214]; decide) (zr_rcv la_146 ow_214) (zr_im mx_214 rfl (Nat.le_of_ble_eq_true rfl)) (by rw [rt_214]; decide)) (zl_I (fun v3 h4 => ?_))
      exact r_iret d_222_113 rt_222
    refine zl_eq 5 (fun hx => ?_) (fun hx5 => ?_)
    · refine zl_tr (r_tsw (tgt := 114) d_222_13 (by rw [hx]; decide) (by decide)) ?_
      refine zl_tr (r_iconst d_222_114 (by decide)) ?_
      refine zl_tr (r_istore (loc' := [zm_A 146, zm_I x1, zm_I x2, zm_I 0, zm_I 0]) d_222_115 (Nat.le_of_ble_eq_true rfl) rfl) ?_
      exact zl_rf
    refine zl_eq 6 (fun hx => ?_) (fun hx6 => ?_)
    · refine zl_tr (r_tsw (tgt := 158) d_222_13 (by rw [hx]; decide) (by decide)) ?_
      refine zl_tr (r_aload_n d_222_158 rfl) ?_
      refine zl_tr (r_VV [zm_A 146] d_222_159 ow_222 cal_12_532 na_225 rfl rfl (Nat.le_of_ble_eq_true rfl) (by rw [rk_225]; decide) (zr_rcv la_146 ow_225) (zr_im mx_225 rfl (Nat.le_of_ble_eq_true rfl)) rt_225) (zl_V (fun h5 => ?_))
      refine zl_tr (r_aload_n d_222_162 rfl) ?_
      refine zl_tr (r_iconst d_222_163 (by decide)) ?_
      refine zl_tr (r_iload_n d_222_164 rfl) ?_
      refine zl_tr (r_VV [zm_A 146, zm_I 0, zm_I x1] d_222_165 ow_222 cal_12_494 na_226 rfl rfl (Nat.le_of_ble_eq_true rfl) (by rw [rk_226]; decide) (zr_rcv la_146 ow_226) (zr_im mx_226 rfl (Nat.le_of_ble_eq_true rfl)) rt_226) (zl_V (fun h6 => ?_))
      refine zl_tr (r_aload_n d_222_168 rfl) ?_
      refine zl_tr (r_getI (kk := 68) d_222_169 ow_222 f_12_219 la_146 (by decide) rfl) ?_
      exact r_iret d_222_172 rt_222
    refine zl_tr (r_tsw (tgt := 173) d_222_13 (by rw [if_pos (by omega)]; decide) (by decide)) ?_
    refine zl_tr (r_iconst d_222_173 (by decide)) ?_
    exact r_iret d_222_174 rt_222
-- BranTubModel.child, from 117
set_option maxRecDepth 20000 in
theorem e_222_117 {h : zm_H} {x1 : Int} {w2 : zm_V} {x3 : Int} {x4 : Int} (hw2 : zm_cat w2 ≠ 2) : zl (zm_ck (0 ≤ (h 146 13) ∧ (h 146 13) < ((2 : Nat) : Int)) (if x4 < (h 148 (h 146 13)) then (zk_I (zc 215 [zm_A 146, zm_I 0, zm_I x1, zm_I x4] h) (fun v1 h2 => zk_I (zc 224 [zm_A 146, zm_I x1, zm_I x4] h2) (fun v3 h4 => zm_ck (zm_i32 (v1 * v3)) (zm_ck (zm_i32 (x3 + (v1 * v3))) (zm_ck (zm_i32 (x4 + 1)) (zr none 6 222 117 [zm_A 146, zm_I x1, w2, zm_I (x3 + (v1 * v3)), zm_I (x4 + 1)] [] h4)))))) else (some (zm_I x3, h)))) (zr none 6 222 117 [zm_A 146, zm_I x1, w2, zm_I x3, zm_I x4] [] h) := by
  refine zl_tr (r_iload d_222_117 rfl) ?_
  refine zl_tr (r_aload_n d_222_119 rfl) ?_
  refine zl_tr (r_getR d_222_120 ow_222 f_12_54 la_146 (by decide) fr_146_14) ?_
  refine zl_tr (r_aload_n d_222_123 rfl) ?_
  refine zl_tr (r_getI (kk := 13) d_222_124 ow_222 f_12_51 la_146 (by decide) rfl) ?_
  refine zl_tr (r_iaload d_222_127 la_148) (zl_ck ?_)
  refine zl_tr (r_icmp_ge (tgt := 156) d_222_128 (by decide)) (zl_if ?_ ?_)
  · skip
    refine zl_tr (r_iload_n d_222_131 rfl) ?_
    refine zl_tr (r_aload_n d_222_132 rfl) ?_
    refine zl_tr (r_iconst d_222_133 (by decide)) ?_
    refine zl_tr (r_iload_n d_222_134 rfl) ?_
    refine zl_tr (r_iload d_222_135 rfl) ?_
    refine zl_tr (r_VI [zm_A 146, zm_I 0, zm_I x1, zm_I x4] d_222_137 ow_222 cal_12_512 na_215 rfl rfl (Nat.le_of_ble_eq_true rfl) (by rw [rk_215]; decide) (zr_rcv la_146 ow_215) (zr_im mx_215 rfl (Nat.le_of_ble_eq_true rfl)) (by rw [rt_215]; decide)) (zl_I (fun v1 h2 => ?_))
    refine zl_tr (r_aload_n d_222_140 rfl) ?_
    refine zl_tr (r_iload_n d_222_141 rfl) ?_
    refine zl_tr (r_iload d_222_142 rfl) ?_
    refine zl_tr (r_VI [zm_A 146, zm_I x1, zm_I x4] d_222_144 ow_222 cal_12_473 na_224 rfl rfl (Nat.le_of_ble_eq_true rfl) (by rw [rk_224]; decide) (zr_rcv la_146 ow_224) (zr_im mx_224 rfl (Nat.le_of_ble_eq_true rfl)) (by rw [rt_224]; decide)) (zl_I (fun v3 h4 => ?_))
    refine zl_tr (r_imul d_222_147) (zl_ck ?_)
    refine zl_tr (r_iadd d_222_148) (zl_ck ?_)
    refine zl_tr (r_istore_n (loc' := [zm_A 146, zm_I x1, w2, zm_I (x3 + (v1 * v3)), zm_I x4]) d_222_149 (Nat.le_of_ble_eq_true rfl) (zr_k1 rfl hw2 rfl)) ?_
    refine zl_tr (r_iinc (loc' := [zm_A 146, zm_I x1, w2, zm_I (x3 + (v1 * v3)), zm_I (x4 + 1)]) d_222_150 rfl (Nat.le_of_ble_eq_true rfl) rfl) (zl_ck ?_)
    refine zl_tr (r_goto (tgt := 117) d_222_153 (by decide)) ?_
    exact zl_rf
  · skip
    refine zl_tr (r_iload_n d_222_156 rfl) ?_
    exact r_iret d_222_157 rt_222
