/-! MIRRORS 3 (printed by wip/gen/gen_mirror.py) -/
-- BranTubModel.ahead
set_option maxRecDepth 20000 in
theorem e_159 {h : zm_H}  : zl (zr none 2 159 5 [zm_A 146, zm_I (h 146 5), zm_U, zm_U, zm_U, zm_U] [] h) (zc 159 [zm_A 146] h) := by
  rw [zc_eq (loc := [zm_A 146, zm_U, zm_U, zm_U, zm_U, zm_U]) (rk_159 _) rfl]
  refine zl_tr (r_aload_n d_159_0 rfl) ?_
  refine zl_tr (r_getI (kk := 5) d_159_1 ow_159 f_12_26 la_146 (by decide) rfl) ?_
  refine zl_tr (r_istore_n (loc' := [zm_A 146, zm_I (h 146 5), zm_U, zm_U, zm_U, zm_U]) d_159_4 (Nat.le_of_ble_eq_true rfl) rfl) ?_
  exact zl_rf
-- BranTubModel.ahead, from 5
set_option maxRecDepth 20000 in
theorem e_159_5 {h : zm_H} {x1 : Int} {w2 : zm_V} {w3 : zm_V} {w4 : zm_V} {w5 : zm_V} : zl (if x1 < (h 146 2) then (zm_ck (0 ≤ x1 ∧ x1 < ((1800 : Nat) : Int)) (if (h 147 x1) = 32 then (zm_ck (zm_i32 (x1 + 1)) (zr none 2 159 5 [zm_A 146, zm_I (x1 + 1), w2, w3, w4, w5] [] h)) else (zm_ck (0 ≤ x1 ∧ x1 < ((1800 : Nat) : Int)) (if (h 147 x1) = 10 then (zm_ck (zm_i32 (x1 + 1)) (zr none 2 159 5 [zm_A 146, zm_I (x1 + 1), w2, w3, w4, w5] [] h)) else (zr none 2 159 41 [zm_A 146, zm_I x1, w2, w3, w4, w5] [] h))))) else (zr none 2 159 41 [zm_A 146, zm_I x1, w2, w3, w4, w5] [] h)) (zr none 2 159 5 [zm_A 146, zm_I x1, w2, w3, w4, w5] [] h) := by
  refine zl_tr (r_iload_n d_159_5 rfl) ?_
  refine zl_tr (r_aload_n d_159_6 rfl) ?_
  refine zl_tr (r_getI (kk := 2) d_159_7 ow_159 f_12_17 la_146 (by decide) rfl) ?_
  refine zl_tr (r_icmp_ge (tgt := 41) d_159_10 (by decide)) (zl_if ?_ ?_)
  · skip
    refine zl_tr (r_aload_n d_159_13 rfl) ?_
    refine zl_tr (r_getR d_159_14 ow_159 f_12_7 la_146 (by decide) fr_146_0) ?_
    refine zl_tr (r_iload_n d_159_17 rfl) ?_
    refine zl_tr (r_iaload d_159_18 la_147) (zl_ck ?_)
    refine zl_tr (r_bipush d_159_19 (by decide)) ?_
    refine zl_tr (r_icmp_eq (tgt := 35) d_159_21 (by decide)) (zl_if ?_ ?_)
    · skip
      refine zl_tr (r_iinc (loc' := [zm_A 146, zm_I (x1 + 1), w2, w3, w4, w5]) d_159_35 rfl (Nat.le_of_ble_eq_true rfl) rfl) (zl_ck ?_)
      refine zl_tr (r_goto (tgt := 5) d_159_38 (by decide)) ?_
      exact zl_rf
    · skip
      refine zl_tr (r_aload_n d_159_24 rfl) ?_
      refine zl_tr (r_getR d_159_25 ow_159 f_12_7 la_146 (by decide) fr_146_0) ?_
      refine zl_tr (r_iload_n d_159_28 rfl) ?_
      refine zl_tr (r_iaload d_159_29 la_147) (zl_ck ?_)
      refine zl_tr (r_bipush d_159_30 (by decide)) ?_
      refine zl_tr (r_icmp_ne (tgt := 41) d_159_32 (by decide)) (zl_if ?_ ?_)
      · skip
        refine zl_tr (r_iinc (loc' := [zm_A 146, zm_I (x1 + 1), w2, w3, w4, w5]) d_159_35 rfl (Nat.le_of_ble_eq_true rfl) rfl) (zl_ck ?_)
        refine zl_tr (r_goto (tgt := 5) d_159_38 (by decide)) ?_
        exact zl_rf
      · skip
        exact zl_rf
  · skip
    exact zl_rf
-- BranTubModel.ahead, from 41
set_option maxRecDepth 20000 in
theorem e_159_41 {h : zm_H} {x1 : Int} {w2 : zm_V} {w3 : zm_V} {w4 : zm_V} {w5 : zm_V} : zl (if x1 < ((zm_wr (zm_wr (zm_wr (zm_wr h 146 4 x1) 146 5 x1) 146 3 0) 146 12 (-1)) 146 2) then (zm_ck (0 ≤ x1 ∧ x1 < ((1800 : Nat) : Int)) (zk_I (zc 160 [zm_I ((zm_wr (zm_wr (zm_wr (zm_wr h 146 4 x1) 146 5 x1) 146 3 0) 146 12 (-1)) 147 x1)] (zm_wr (zm_wr (zm_wr (zm_wr h 146 4 x1) 146 5 x1) 146 3 0) 146 12 (-1))) (fun v1 h2 => zm_ck (0 ≤ x1 ∧ x1 < ((1800 : Nat) : Int)) (zk_I (zc 161 [zm_I (h2 147 x1)] h2) (fun v3 h4 => if v1 = 0 then (if v3 = 0 then (zr none 2 159 135 [zm_A 146, zm_I x1, zm_I v1, zm_I v3, w4, w5] [] h4) else (zr none 2 159 98 [zm_A 146, zm_I x1, zm_I v1, zm_I v3, w4, w5] [] h4)) else (zr none 2 159 98 [zm_A 146, zm_I x1, zm_I v1, zm_I v3, w4, w5] [] h4)))))) else (some (zm_U, (zm_wr (zm_wr (zm_wr (zm_wr h 146 4 x1) 146 5 x1) 146 3 0) 146 12 (-1))))) (zr none 2 159 41 [zm_A 146, zm_I x1, w2, w3, w4, w5] [] h) := by
  refine zl_tr (r_aload_n d_159_41 rfl) ?_
  refine zl_tr (r_iload_n d_159_42 rfl) ?_
  refine zl_tr (r_putI (kk := 4) d_159_43 ow_159 f_12_23 la_146 (by decide) rfl) ?_
  refine zl_tr (r_aload_n d_159_46 rfl) ?_
  refine zl_tr (r_iload_n d_159_47 rfl) ?_
  refine zl_tr (r_putI (kk := 5) d_159_48 ow_159 f_12_26 la_146 (by decide) rfl) ?_
  refine zl_tr (r_aload_n d_159_51 rfl) ?_
  refine zl_tr (r_iconst d_159_52 (by decide)) ?_
  refine zl_tr (r_putI (kk := 3) d_159_53 ow_159 f_12_20 la_146 (by decide) rfl) ?_
  refine zl_tr (r_aload_n d_159_56 rfl) ?_
  refine zl_tr (r_iconst d_159_57 (by decide)) ?_
  refine zl_tr (r_putI (kk := 12) d_159_58 ow_159 f_12_48 la_146 (by decide) rfl) ?_
  refine zl_tr (r_iload_n d_159_61 rfl) ?_
  refine zl_tr (r_aload_n d_159_62 rfl) ?_
  refine zl_tr (r_getI (kk := 2) d_159_63 ow_159 f_12_17 la_146 (by decide) rfl) ?_
  refine zl_tr (r_icmp_lt (tgt := 70) d_159_66 (by decide)) (zl_if ?_ ?_)
  · skip
    refine zl_tr (r_aload_n d_159_70 rfl) ?_
    refine zl_tr (r_getR d_159_71 ow_159 f_12_7 la_146 (by decide) fr_146_0) ?_
    refine zl_tr (r_iload_n d_159_74 rfl) ?_
    refine zl_tr (r_iaload d_159_75 la_147) (zl_ck ?_)
    refine zl_tr (r_SI [zm_I ((zm_wr (zm_wr (zm_wr (zm_wr h 146 4 x1) 146 5 x1) 146 3 0) 146 12 (-1)) 147 x1)] d_159_76 ow_159 cal_12_261 (by decide) na_160 rfl rfl (Nat.le_of_ble_eq_true rfl) (by rw [rk_160]; decide) (zr_im mx_160 rfl (Nat.le_of_ble_eq_true rfl)) (by rw [rt_160]; decide)) (zl_I (fun v1 h2 => ?_))
    refine zl_tr (r_istore_n (loc' := [zm_A 146, zm_I x1, zm_I v1, w3, w4, w5]) d_159_79 (Nat.le_of_ble_eq_true rfl) rfl) ?_
    refine zl_tr (r_aload_n d_159_80 rfl) ?_
    refine zl_tr (r_getR d_159_81 ow_159 f_12_7 la_146 (by decide) fr_146_0) ?_
    refine zl_tr (r_iload_n d_159_84 rfl) ?_
    refine zl_tr (r_iaload d_159_85 la_147) (zl_ck ?_)
    refine zl_tr (r_SI [zm_I (h2 147 x1)] d_159_86 ow_159 cal_12_265 (by decide) na_161 rfl rfl (Nat.le_of_ble_eq_true rfl) (by rw [rk_161]; decide) (zr_im mx_161 rfl (Nat.le_of_ble_eq_true rfl)) (by rw [rt_161]; decide)) (zl_I (fun v3 h4 => ?_))
    refine zl_tr (r_istore_n (loc' := [zm_A 146, zm_I x1, zm_I v1, zm_I v3, w4, w5]) d_159_89 (Nat.le_of_ble_eq_true rfl) rfl) ?_
    refine zl_tr (r_iload_n d_159_90 rfl) ?_
    refine zl_tr (r_if_ne (tgt := 98) d_159_91 (by decide)) (zl_if ?_ ?_)
    · skip
      refine zl_tr (r_iload_n d_159_94 rfl) ?_
      refine zl_tr (r_if_eq (tgt := 135) d_159_95 (by decide)) (zl_if ?_ ?_)
      · skip
        exact zl_rf
      · skip
        exact zl_rf
    · skip
      exact zl_rf
  · skip
    exact r_vret d_159_69 rt_159
-- BranTubModel.ahead, from 135
set_option maxRecDepth 20000 in
theorem e_159_135 {h : zm_H} {x1 : Int} {x2 : Int} {x3 : Int} {w4 : zm_V} {w5 : zm_V} : zl (zm_ck (zm_i32 (x1 + 1)) (if x2 = 0 then (if x3 = 0 then (zm_ck (0 ≤ x1 ∧ x1 < ((1800 : Nat) : Int)) (some (zm_U, (zm_wr (zm_wr (zm_wr (zm_wr (zm_wr h 146 6 0) 146 7 0) 146 3 3) 146 5 (x1 + 1)) 146 6 ((zm_wr (zm_wr (zm_wr (zm_wr h 146 6 0) 146 7 0) 146 3 3) 146 5 (x1 + 1)) 147 x1))))) else (zr none 2 159 176 [zm_A 146, zm_I x1, zm_I x2, zm_I x3, w4, w5] [] (zm_wr (zm_wr (zm_wr (zm_wr h 146 6 0) 146 7 0) 146 3 3) 146 5 (x1 + 1)))) else (zr none 2 159 176 [zm_A 146, zm_I x1, zm_I x2, zm_I x3, w4, w5] [] (zm_wr (zm_wr (zm_wr (zm_wr h 146 6 0) 146 7 0) 146 3 3) 146 5 (x1 + 1))))) (zr none 2 159 135 [zm_A 146, zm_I x1, zm_I x2, zm_I x3, w4, w5] [] h) := by
  refine zl_tr (r_aload_n d_159_135 rfl) ?_
  refine zl_tr (r_iconst d_159_136 (by decide)) ?_
  refine zl_tr (r_putI (kk := 6) d_159_137 ow_159 f_12_29 la_146 (by decide) rfl) ?_
  refine zl_tr (r_aload_n d_159_140 rfl) ?_
  refine zl_tr (r_lconst (z := 0) d_159_141 rfl) ?_
  refine zl_tr (r_putL (kk := 7) d_159_142 ow_159 f_12_32 la_146 (by decide) rfl) ?_
  refine zl_tr (r_aload_n d_159_145 rfl) ?_
  refine zl_tr (r_iconst d_159_146 (by decide)) ?_
  refine zl_tr (r_putI (kk := 3) d_159_147 ow_159 f_12_20 la_146 (by decide) rfl) ?_
  refine zl_tr (r_aload_n d_159_150 rfl) ?_
  refine zl_tr (r_iload_n d_159_151 rfl) ?_
  refine zl_tr (r_iconst d_159_152 (by decide)) ?_
  refine zl_tr (r_iadd d_159_153) (zl_ck ?_)
  refine zl_tr (r_putI (kk := 5) d_159_154 ow_159 f_12_26 la_146 (by decide) rfl) ?_
  refine zl_tr (r_iload_n d_159_157 rfl) ?_
  refine zl_tr (r_if_ne (tgt := 176) d_159_158 (by decide)) (zl_if ?_ ?_)
  · skip
    refine zl_tr (r_iload_n d_159_161 rfl) ?_
    refine zl_tr (r_if_ne (tgt := 176) d_159_162 (by decide)) (zl_if ?_ ?_)
    · skip
      refine zl_tr (r_aload_n d_159_165 rfl) ?_
      refine zl_tr (r_aload_n d_159_166 rfl) ?_
      refine zl_tr (r_getR d_159_167 ow_159 f_12_7 la_146 (by decide) fr_146_0) ?_
      refine zl_tr (r_iload_n d_159_170 rfl) ?_
      refine zl_tr (r_iaload d_159_171 la_147) (zl_ck ?_)
      refine zl_tr (r_putI (kk := 6) d_159_172 ow_159 f_12_29 la_146 (by decide) rfl) ?_
      exact r_vret d_159_175 rt_159
    · skip
      exact zl_rf
  · skip
    exact zl_rf
-- BranTubModel.ahead, from 98
set_option maxRecDepth 20000 in
theorem e_159_98 {h : zm_H} {x1 : Int} {x2 : Int} {x3 : Int} {w4 : zm_V} {w5 : zm_V} : zl (if x1 ≤ 0 then (zr none 2 159 135 [zm_A 146, zm_I x1, zm_I x2, zm_I x3, w4, w5] [] h) else (zm_ck (zm_i32 (x1 - 1)) (zm_ck (0 ≤ (x1 - 1) ∧ (x1 - 1) < ((1800 : Nat) : Int)) (zk_I (zc 160 [zm_I (h 147 (x1 - 1))] h) (fun v1 h2 => if v1 = 0 then (zm_ck (zm_i32 (x1 - 1)) (zm_ck (0 ≤ (x1 - 1) ∧ (x1 - 1) < ((1800 : Nat) : Int)) (zk_I (zc 161 [zm_I (h2 147 (x1 - 1))] h2) (fun v3 h4 => if v3 = 0 then (zr none 2 159 135 [zm_A 146, zm_I x1, zm_I x2, zm_I x3, w4, w5] [] h4) else (zr none 2 159 130 [zm_A 146, zm_I x1, zm_I x2, zm_I x3, w4, w5] [] h4))))) else (zr none 2 159 130 [zm_A 146, zm_I x1, zm_I x2, zm_I x3, w4, w5] [] h2)))))) (zr none 2 159 98 [zm_A 146, zm_I x1, zm_I x2, zm_I x3, w4, w5] [] h) := by
  refine zl_tr (r_iload_n d_159_98 rfl) ?_
  refine zl_tr (r_if_le (tgt := 135) d_159_99 (by decide)) (zl_if ?_ ?_)
  · skip
    exact zl_rf
  · skip
    refine zl_tr (r_aload_n d_159_102 rfl) ?_
    refine zl_tr (r_getR d_159_103 ow_159 f_12_7 la_146 (by decide) fr_146_0) ?_
    refine zl_tr (r_iload_n d_159_106 rfl) ?_
    refine zl_tr (r_iconst d_159_107 (by decide)) ?_
    refine zl_tr (r_isub d_159_108) (zl_ck ?_)
    refine zl_tr (r_iaload d_159_109 la_147) (zl_ck ?_)
    refine zl_tr (r_SI [zm_I (h 147 (x1 - 1))] d_159_110 ow_159 cal_12_261 (by decide) na_160 rfl rfl (Nat.le_of_ble_eq_true rfl) (by rw [rk_160]; decide) (zr_im mx_160 rfl (Nat.le_of_ble_eq_true rfl)) (by rw [rt_160]; decide)) (zl_I (fun v1 h2 => ?_))
    refine zl_tr (r_if_ne (tgt := 130) d_159_113 (by decide)) (zl_if ?_ ?_)
    · skip
      refine zl_tr (r_aload_n d_159_116 rfl) ?_
      refine zl_tr (r_getR d_159_117 ow_159 f_12_7 la_146 (by decide) fr_146_0) ?_
      refine zl_tr (r_iload_n d_159_120 rfl) ?_
      refine zl_tr (r_iconst d_159_121 (by decide)) ?_
      refine zl_tr (r_isub d_159_122) (zl_ck ?_)
      refine zl_tr (r_iaload d_159_123 la_147) (zl_ck ?_)
      refine zl_tr (r_SI [zm_I (h2 147 (x1 - 1))] d_159_124 ow_159 cal_12_265 (by decide) na_161 rfl rfl (Nat.le_of_ble_eq_true rfl) (by rw [rk_161]; decide) (zr_im mx_161 rfl (Nat.le_of_ble_eq_true rfl)) (by rw [rt_161]; decide)) (zl_I (fun v3 h4 => ?_))
      refine zl_tr (r_if_eq (tgt := 135) d_159_127 (by decide)) (zl_if ?_ ?_)
      · skip
        exact zl_rf
      · skip
        exact zl_rf
    · skip
      exact zl_rf
-- BranTubModel.ahead, from 176
set_option maxRecDepth 20000 in
theorem e_159_176 {h : zm_H} {x1 : Int} {x2 : Int} {x3 : Int} {w4 : zm_V} {w5 : zm_V} : zl (if x2 = 0 then (if x2 = 0 then (zr none 2 159 204 [zm_A 146, zm_I x1, zm_I x2, zm_I x3, zm_I 4, zm_I 0] [] (zm_wr h 146 3 2)) else (zr none 2 159 204 [zm_A 146, zm_I x1, zm_I x2, zm_I x3, zm_I 6, zm_I 0] [] (zm_wr h 146 3 2))) else (if x2 = 0 then (zr none 2 159 204 [zm_A 146, zm_I x1, zm_I x2, zm_I x3, zm_I 4, zm_I 0] [] (zm_wr h 146 3 1)) else (zr none 2 159 204 [zm_A 146, zm_I x1, zm_I x2, zm_I x3, zm_I 6, zm_I 0] [] (zm_wr h 146 3 1)))) (zr none 2 159 176 [zm_A 146, zm_I x1, zm_I x2, zm_I x3, w4, w5] [] h) := by
  refine zl_tr (r_aload_n d_159_176 rfl) ?_
  refine zl_tr (r_iload_n d_159_177 rfl) ?_
  refine zl_tr (r_if_eq (tgt := 185) d_159_178 (by decide)) (zl_if ?_ ?_)
  · skip
    refine zl_tr (r_iconst d_159_185 (by decide)) ?_
    refine zl_tr (r_putI (kk := 3) d_159_186 ow_159 f_12_20 la_146 (by decide) rfl) ?_
    refine zl_tr (r_iload_n d_159_189 rfl) ?_
    refine zl_tr (r_if_eq (tgt := 198) d_159_190 (by decide)) (zl_if ?_ ?_)
    · skip
      refine zl_tr (r_iconst d_159_198 (by decide)) ?_
      refine zl_tr (r_istore (loc' := [zm_A 146, zm_I x1, zm_I x2, zm_I x3, zm_I 4, w5]) d_159_199 (Nat.le_of_ble_eq_true rfl) rfl) ?_
      refine zl_tr (r_iconst d_159_201 (by decide)) ?_
      refine zl_tr (r_istore (loc' := [zm_A 146, zm_I x1, zm_I x2, zm_I x3, zm_I 4, zm_I 0]) d_159_202 (Nat.le_of_ble_eq_true rfl) rfl) ?_
      exact zl_rf
    · skip
      refine zl_tr (r_bipush d_159_193 (by decide)) ?_
      refine zl_tr (r_goto (tgt := 199) d_159_195 (by decide)) ?_
      refine zl_tr (r_istore (loc' := [zm_A 146, zm_I x1, zm_I x2, zm_I x3, zm_I 6, w5]) d_159_199 (Nat.le_of_ble_eq_true rfl) rfl) ?_
      refine zl_tr (r_iconst d_159_201 (by decide)) ?_
      refine zl_tr (r_istore (loc' := [zm_A 146, zm_I x1, zm_I x2, zm_I x3, zm_I 6, zm_I 0]) d_159_202 (Nat.le_of_ble_eq_true rfl) rfl) ?_
      exact zl_rf
  · skip
    refine zl_tr (r_iconst d_159_181 (by decide)) ?_
    refine zl_tr (r_goto (tgt := 186) d_159_182 (by decide)) ?_
    refine zl_tr (r_putI (kk := 3) d_159_186 ow_159 f_12_20 la_146 (by decide) rfl) ?_
    refine zl_tr (r_iload_n d_159_189 rfl) ?_
    refine zl_tr (r_if_eq (tgt := 198) d_159_190 (by decide)) (zl_if ?_ ?_)
    · skip
      refine zl_tr (r_iconst d_159_198 (by decide)) ?_
      refine zl_tr (r_istore (loc' := [zm_A 146, zm_I x1, zm_I x2, zm_I x3, zm_I 4, w5]) d_159_199 (Nat.le_of_ble_eq_true rfl) rfl) ?_
      refine zl_tr (r_iconst d_159_201 (by decide)) ?_
      refine zl_tr (r_istore (loc' := [zm_A 146, zm_I x1, zm_I x2, zm_I x3, zm_I 4, zm_I 0]) d_159_202 (Nat.le_of_ble_eq_true rfl) rfl) ?_
      exact zl_rf
    · skip
      refine zl_tr (r_bipush d_159_193 (by decide)) ?_
      refine zl_tr (r_goto (tgt := 199) d_159_195 (by decide)) ?_
      refine zl_tr (r_istore (loc' := [zm_A 146, zm_I x1, zm_I x2, zm_I x3, zm_I 6, w5]) d_159_199 (Nat.le_of_ble_eq_true rfl) rfl) ?_
      refine zl_tr (r_iconst d_159_201 (by decide)) ?_
      refine zl_tr (r_istore (loc' := [zm_A 146, zm_I x1, zm_I x2, zm_I x3, zm_I 6, zm_I 0]) d_159_202 (Nat.le_of_ble_eq_true rfl) rfl) ?_
      exact zl_rf
-- BranTubModel.ahead, from 130
set_option maxRecDepth 20000 in
theorem e_159_130 {h : zm_H} {x1 : Int} {x2 : Int} {x3 : Int} {w4 : zm_V} {w5 : zm_V} : zl (zr none 2 159 135 [zm_A 146, zm_I x1, zm_I x2, zm_I x3, w4, w5] [] (zm_wr h 146 12 x1)) (zr none 2 159 130 [zm_A 146, zm_I x1, zm_I x2, zm_I x3, w4, w5] [] h) := by
  refine zl_tr (r_aload_n d_159_130 rfl) ?_
  refine zl_tr (r_iload_n d_159_131 rfl) ?_
  refine zl_tr (r_putI (kk := 12) d_159_132 ow_159 f_12_48 la_146 (by decide) rfl) ?_
  exact zl_rf
-- BranTubModel.ahead, from 204
set_option maxRecDepth 20000 in
theorem e_159_204 {h : zm_H} {x1 : Int} {x2 : Int} {x3 : Int} {x4 : Int} {x5 : Int} : zl (if x1 < (h 146 2) then (if x2 = 0 then (zm_ck (0 ≤ x1 ∧ x1 < ((1800 : Nat) : Int)) (zk_I (zc 161 [zm_I (h 147 x1)] h) (fun v1 h2 => if v1 = 0 then (some (zm_U, (zm_wr h2 146 5 x1))) else (zr none 2 159 243 [zm_A 146, zm_I x1, zm_I x2, zm_I x3, zm_I x4, zm_I x5] [] h2)))) else (zm_ck (0 ≤ x1 ∧ x1 < ((1800 : Nat) : Int)) (zk_I (zc 160 [zm_I (h 147 x1)] h) (fun v3 h4 => if v3 = 0 then (some (zm_U, (zm_wr h4 146 5 x1))) else (zr none 2 159 243 [zm_A 146, zm_I x1, zm_I x2, zm_I x3, zm_I x4, zm_I x5] [] h4))))) else (some (zm_U, (zm_wr h 146 5 x1)))) (zr none 2 159 204 [zm_A 146, zm_I x1, zm_I x2, zm_I x3, zm_I x4, zm_I x5] [] h) := by
  refine zl_tr (r_iload_n d_159_204 rfl) ?_
  refine zl_tr (r_aload_n d_159_205 rfl) ?_
  refine zl_tr (r_getI (kk := 2) d_159_206 ow_159 f_12_17 la_146 (by decide) rfl) ?_
  refine zl_tr (r_icmp_ge (tgt := 334) d_159_209 (by decide)) (zl_if ?_ ?_)
  · skip
    refine zl_tr (r_iload_n d_159_212 rfl) ?_
    refine zl_tr (r_if_eq (tgt := 231) d_159_213 (by decide)) (zl_if ?_ ?_)
    · skip
      refine zl_tr (r_aload_n d_159_231 rfl) ?_
      refine zl_tr (r_getR d_159_232 ow_159 f_12_7 la_146 (by decide) fr_146_0) ?_
      refine zl_tr (r_iload_n d_159_235 rfl) ?_
      refine zl_tr (r_iaload d_159_236 la_147) (zl_ck ?_)
      refine zl_tr (r_SI [zm_I (h 147 x1)] d_159_237 ow_159 cal_12_265 (by decide) na_161 rfl rfl (Nat.le_of_ble_eq_true rfl) (by rw [rk_161]; decide) (zr_im mx_161 rfl (Nat.le_of_ble_eq_true rfl)) (by rw [rt_161]; decide)) (zl_I (fun v1 h2 => ?_))
      refine zl_tr (r_if_eq (tgt := 334) d_159_240 (by decide)) (zl_if ?_ ?_)
      · skip
        refine zl_tr (r_aload_n d_159_334 rfl) ?_
        refine zl_tr (r_iload_n d_159_335 rfl) ?_
        refine zl_tr (r_putI (kk := 5) d_159_336 ow_159 f_12_26 la_146 (by decide) rfl) ?_
        exact r_vret d_159_339 rt_159
      · skip
        exact zl_rf
    · skip
      refine zl_tr (r_aload_n d_159_216 rfl) ?_
      refine zl_tr (r_getR d_159_217 ow_159 f_12_7 la_146 (by decide) fr_146_0) ?_
      refine zl_tr (r_iload_n d_159_220 rfl) ?_
      refine zl_tr (r_iaload d_159_221 la_147) (zl_ck ?_)
      refine zl_tr (r_SI [zm_I (h 147 x1)] d_159_222 ow_159 cal_12_261 (by decide) na_160 rfl rfl (Nat.le_of_ble_eq_true rfl) (by rw [rk_160]; decide) (zr_im mx_160 rfl (Nat.le_of_ble_eq_true rfl)) (by rw [rt_160]; decide)) (zl_I (fun v3 h4 => ?_))
      refine zl_tr (r_if_eq (tgt := 334) d_159_225 (by decide)) (zl_if ?_ ?_)
      · skip
        refine zl_tr (r_aload_n d_159_334 rfl) ?_
        refine zl_tr (r_iload_n d_159_335 rfl) ?_
        refine zl_tr (r_putI (kk := 5) d_159_336 ow_159 f_12_26 la_146 (by decide) rfl) ?_
        exact r_vret d_159_339 rt_159
      · skip
        refine zl_tr (r_goto (tgt := 243) d_159_228 (by decide)) ?_
        exact zl_rf
  · skip
    refine zl_tr (r_aload_n d_159_334 rfl) ?_
    refine zl_tr (r_iload_n d_159_335 rfl) ?_
    refine zl_tr (r_putI (kk := 5) d_159_336 ow_159 f_12_26 la_146 (by decide) rfl) ?_
    exact r_vret d_159_339 rt_159
-- BranTubModel.ahead, from 243
set_option maxRecDepth 20000 in
theorem e_159_243 {h : zm_H} {x1 : Int} {x2 : Int} {x3 : Int} {x4 : Int} {x5 : Int} : zl (if x5 = x4 then (if (h 146 12) = (-1) then (zr none 2 159 263 [zm_A 146, zm_I x1, zm_I x2, zm_I x3, zm_I x4, zm_I x5] [] (zm_wr h 146 12 x1)) else (zr none 2 159 263 [zm_A 146, zm_I x1, zm_I x2, zm_I x3, zm_I x4, zm_I x5] [] h)) else (zr none 2 159 263 [zm_A 146, zm_I x1, zm_I x2, zm_I x3, zm_I x4, zm_I x5] [] h)) (zr none 2 159 243 [zm_A 146, zm_I x1, zm_I x2, zm_I x3, zm_I x4, zm_I x5] [] h) := by
  refine zl_tr (r_iload d_159_243 rfl) ?_
  refine zl_tr (r_iload d_159_245 rfl) ?_
  refine zl_tr (r_icmp_ne (tgt := 263) d_159_247 (by decide)) (zl_if ?_ ?_)
  · skip
    refine zl_tr (r_aload_n d_159_250 rfl) ?_
    refine zl_tr (r_getI (kk := 12) d_159_251 ow_159 f_12_48 la_146 (by decide) rfl) ?_
    refine zl_tr (r_iconst d_159_254 (by decide)) ?_
    refine zl_tr (r_icmp_ne (tgt := 263) d_159_255 (by decide)) (zl_if ?_ ?_)
    · skip
      refine zl_tr (r_aload_n d_159_258 rfl) ?_
      refine zl_tr (r_iload_n d_159_259 rfl) ?_
      refine zl_tr (r_putI (kk := 12) d_159_260 ow_159 f_12_48 la_146 (by decide) rfl) ?_
      exact zl_rf
    · skip
      exact zl_rf
  · skip
    exact zl_rf
-- BranTubModel.ahead, from 263
set_option maxRecDepth 20000 in
theorem e_159_263 {h : zm_H} {x1 : Int} {x2 : Int} {x3 : Int} {x4 : Int} {x5 : Int} : zl (if x5 < x4 then (if x2 = 0 then (zr none 2 159 293 [zm_A 146, zm_I x1, zm_I x2, zm_I x3, zm_I x4, zm_I x5] [] h) else (zm_ck (0 ≤ x1 ∧ x1 < ((1800 : Nat) : Int)) (zr none 2 159 293 [zm_A 146, zm_I x1, zm_I x2, zm_I x3, zm_I x4, zm_I x5] [] (zm_wr h 146 7 (zb_lor (zb_lshl (h 146 7) 8) (h 147 x1)))))) else (zr none 2 159 293 [zm_A 146, zm_I x1, zm_I x2, zm_I x3, zm_I x4, zm_I x5] [] h)) (zr none 2 159 263 [zm_A 146, zm_I x1, zm_I x2, zm_I x3, zm_I x4, zm_I x5] [] h) := by
  refine zl_tr (r_iload d_159_263 rfl) ?_
  refine zl_tr (r_iload d_159_265 rfl) ?_
  refine zl_tr (r_icmp_ge (tgt := 293) d_159_267 (by decide)) (zl_if ?_ ?_)
  · skip
    refine zl_tr (r_iload_n d_159_270 rfl) ?_
    refine zl_tr (r_if_eq (tgt := 293) d_159_271 (by decide)) (zl_if ?_ ?_)
    · skip
      exact zl_rf
    · skip
      refine zl_tr (r_aload_n d_159_274 rfl) ?_
      refine zl_tr (r_aload_n d_159_275 rfl) ?_
      refine zl_tr (r_getL (kk := 7) d_159_276 ow_159 f_12_32 la_146 (by decide) rfl) ?_
      refine zl_tr (r_bipush d_159_279 (by decide)) ?_
      refine zl_tr (r_lshl d_159_281) ?_
      refine zl_tr (r_aload_n d_159_282 rfl) ?_
      refine zl_tr (r_getR d_159_283 ow_159 f_12_7 la_146 (by decide) fr_146_0) ?_
      refine zl_tr (r_iload_n d_159_286 rfl) ?_
      refine zl_tr (r_iaload d_159_287 la_147) (zl_ck ?_)
      refine zl_tr (r_i2l d_159_288) ?_
      refine zl_tr (r_lor d_159_289) ?_
      refine zl_tr (r_putL (kk := 7) d_159_290 ow_159 f_12_32 la_146 (by decide) rfl) ?_
      exact zl_rf
  · skip
    exact zl_rf
-- BranTubModel.ahead, from 293
set_option maxRecDepth 20000 in
theorem e_159_293 {h : zm_H} {x1 : Int} {x2 : Int} {x3 : Int} {x4 : Int} {x5 : Int} : zl (if x5 < x4 then (if x3 = 0 then (zm_ck (zm_i32 (x5 + 1)) (zm_ck (zm_i32 (x1 + 1)) (zr none 2 159 204 [zm_A 146, zm_I (x1 + 1), zm_I x2, zm_I x3, zm_I x4, zm_I (x5 + 1)] [] h))) else (zm_ck (zm_i32 (10 * (h 146 6))) (zm_ck (0 ≤ x1 ∧ x1 < ((1800 : Nat) : Int)) (zm_ck (zm_i32 ((10 * (h 146 6)) + (h 147 x1))) (zm_ck (zm_i32 (((10 * (h 146 6)) + (h 147 x1)) - 48)) (zm_ck (zm_i32 (x5 + 1)) (zm_ck (zm_i32 (x1 + 1)) (zr none 2 159 204 [zm_A 146, zm_I (x1 + 1), zm_I x2, zm_I x3, zm_I x4, zm_I (x5 + 1)] [] (zm_wr h 146 6 (((10 * (h 146 6)) + (h 147 x1)) - 48)))))))))) else (zm_ck (zm_i32 (x5 + 1)) (zm_ck (zm_i32 (x1 + 1)) (zr none 2 159 204 [zm_A 146, zm_I (x1 + 1), zm_I x2, zm_I x3, zm_I x4, zm_I (x5 + 1)] [] h)))) (zr none 2 159 293 [zm_A 146, zm_I x1, zm_I x2, zm_I x3, zm_I x4, zm_I x5] [] h) := by
  refine zl_tr (r_iload d_159_293 rfl) ?_
  refine zl_tr (r_iload d_159_295 rfl) ?_
  refine zl_tr (r_icmp_ge (tgt := 325) d_159_297 (by decide)) (zl_if ?_ ?_)
  · skip
    refine zl_tr (r_iload_n d_159_300 rfl) ?_
    refine zl_tr (r_if_eq (tgt := 325) d_159_301 (by decide)) (zl_if ?_ ?_)
    · skip
      refine zl_tr (r_iinc (loc' := [zm_A 146, zm_I x1, zm_I x2, zm_I x3, zm_I x4, zm_I (x5 + 1)]) d_159_325 rfl (Nat.le_of_ble_eq_true rfl) rfl) (zl_ck ?_)
      refine zl_tr (r_iinc (loc' := [zm_A 146, zm_I (x1 + 1), zm_I x2, zm_I x3, zm_I x4, zm_I (x5 + 1)]) d_159_328 rfl (Nat.le_of_ble_eq_true rfl) rfl) (zl_ck ?_)
      refine zl_tr (r_goto (tgt := 204) d_159_331 (by decide)) ?_
      exact zl_rf
    · skip
      refine zl_tr (r_aload_n d_159_304 rfl) ?_
      refine zl_tr (r_bipush d_159_305 (by decide)) ?_
      refine zl_tr (r_aload_n d_159_307 rfl) ?_
      refine zl_tr (r_getI (kk := 6) d_159_308 ow_159 f_12_29 la_146 (by decide) rfl) ?_
      refine zl_tr (r_imul d_159_311) (zl_ck ?_)
      refine zl_tr (r_aload_n d_159_312 rfl) ?_
      refine zl_tr (r_getR d_159_313 ow_159 f_12_7 la_146 (by decide) fr_146_0) ?_
      refine zl_tr (r_iload_n d_159_316 rfl) ?_
      refine zl_tr (r_iaload d_159_317 la_147) (zl_ck ?_)
      refine zl_tr (r_iadd d_159_318) (zl_ck ?_)
      refine zl_tr (r_bipush d_159_319 (by decide)) ?_
      refine zl_tr (r_isub d_159_321) (zl_ck ?_)
      refine zl_tr (r_putI (kk := 6) d_159_322 ow_159 f_12_29 la_146 (by decide) rfl) ?_
      refine zl_tr (r_iinc (loc' := [zm_A 146, zm_I x1, zm_I x2, zm_I x3, zm_I x4, zm_I (x5 + 1)]) d_159_325 rfl (Nat.le_of_ble_eq_true rfl) rfl) (zl_ck ?_)
      refine zl_tr (r_iinc (loc' := [zm_A 146, zm_I (x1 + 1), zm_I x2, zm_I x3, zm_I x4, zm_I (x5 + 1)]) d_159_328 rfl (Nat.le_of_ble_eq_true rfl) rfl) (zl_ck ?_)
      refine zl_tr (r_goto (tgt := 204) d_159_331 (by decide)) ?_
      exact zl_rf
  · skip
    refine zl_tr (r_iinc (loc' := [zm_A 146, zm_I x1, zm_I x2, zm_I x3, zm_I x4, zm_I (x5 + 1)]) d_159_325 rfl (Nat.le_of_ble_eq_true rfl) rfl) (zl_ck ?_)
    refine zl_tr (r_iinc (loc' := [zm_A 146, zm_I (x1 + 1), zm_I x2, zm_I x3, zm_I x4, zm_I (x5 + 1)]) d_159_328 rfl (Nat.le_of_ble_eq_true rfl) rfl) (zl_ck ?_)
    refine zl_tr (r_goto (tgt := 204) d_159_331 (by decide)) ?_
    exact zl_rf
-- BranTubModel.isLetter
set_option maxRecDepth 20000 in
theorem e_160 {h : zm_H} {x1 : Int} : zl (if x1 < 97 then (zm_ck (zm_bit 0) (some (zm_I 0, h))) else (if 122 < x1 then (zm_ck (zm_bit 0) (some (zm_I 0, h))) else (zm_ck (zm_bit 1) (some (zm_I 1, h))))) (zc 160 [zm_I x1] h) := by
  rw [zc_eq (loc := [zm_I x1]) (rk_160 _) rfl]
  refine zl_tr (r_iload_n d_160_0 rfl) ?_
  refine zl_tr (r_bipush d_160_1 (by decide)) ?_
  refine zl_tr (r_icmp_lt (tgt := 16) d_160_3 (by decide)) (zl_if ?_ ?_)
  · skip
    refine zl_tr (r_iconst d_160_16 (by decide)) ?_
    exact r_zret d_160_17 rt_160
  · skip
    refine zl_tr (r_iload_n d_160_6 rfl) ?_
    refine zl_tr (r_bipush d_160_7 (by decide)) ?_
    refine zl_tr (r_icmp_gt (tgt := 16) d_160_9 (by decide)) (zl_if ?_ ?_)
    · skip
      refine zl_tr (r_iconst d_160_16 (by decide)) ?_
      exact r_zret d_160_17 rt_160
    · skip
      refine zl_tr (r_iconst d_160_12 (by decide)) ?_
      refine zl_tr (r_goto (tgt := 17) d_160_13 (by decide)) ?_
      exact r_zret d_160_17 rt_160
-- BranTubModel.isDigit
set_option maxRecDepth 20000 in
theorem e_161 {h : zm_H} {x1 : Int} : zl (if x1 < 48 then (zm_ck (zm_bit 0) (some (zm_I 0, h))) else (if 57 < x1 then (zm_ck (zm_bit 0) (some (zm_I 0, h))) else (zm_ck (zm_bit 1) (some (zm_I 1, h))))) (zc 161 [zm_I x1] h) := by
  rw [zc_eq (loc := [zm_I x1]) (rk_161 _) rfl]
  refine zl_tr (r_iload_n d_161_0 rfl) ?_
  refine zl_tr (r_bipush d_161_1 (by decide)) ?_
  refine zl_tr (r_icmp_lt (tgt := 16) d_161_3 (by decide)) (zl_if ?_ ?_)
  · skip
    refine zl_tr (r_iconst d_161_16 (by decide)) ?_
    exact r_zret d_161_17 rt_161
  · skip
    refine zl_tr (r_iload_n d_161_6 rfl) ?_
    refine zl_tr (r_bipush d_161_7 (by decide)) ?_
    refine zl_tr (r_icmp_gt (tgt := 16) d_161_9 (by decide)) (zl_if ?_ ?_)
    · skip
      refine zl_tr (r_iconst d_161_16 (by decide)) ?_
      exact r_zret d_161_17 rt_161
    · skip
      refine zl_tr (r_iconst d_161_12 (by decide)) ?_
      refine zl_tr (r_goto (tgt := 17) d_161_13 (by decide)) ?_
      exact r_zret d_161_17 rt_161
-- BranTubModel.statement
set_option maxRecDepth 20000 in
theorem e_162 {h : zm_H}  : zl (zk_V (zc 163 [zm_A 146] h) (fun h1 => if (h1 146 8) ≤ 0 then (zk_I (zc 165 [zm_A 146, zm_L 1802071652] h1) (fun v2 h3 => if v2 = 0 then (zk_I (zc 165 [zm_A 146, zm_L 465491813746] h3) (fun v4 h5 => if v4 = 0 then (zk_I (zc 165 [zm_A 146, zm_L 426953501796] h5) (fun v6 h7 => if v6 = 0 then (zk_I (zc 165 [zm_A 146, zm_L 465625113971] h7) (fun v8 h9 => if v8 = 0 then (zk_I (zc 165 [zm_A 146, zm_L 427071599731] h9) (fun v10 h11 => if v10 = 0 then (zk_I (zc 165 [zm_A 146, zm_L 1886745715] h11) (fun v12 h13 => if v12 = 0 then (zk_I (zc 165 [zm_A 146, zm_L 483006772069] h13) (fun v14 h15 => if v14 = 0 then (zk_V (zc 164 [zm_A 146, zm_I 1, zm_I (h15 146 4)] h15) (fun h16 => some (zm_U, h16))) else (zk_V (zc 194 [zm_A 146] h15) (fun h17 => some (zm_U, h17))))) else (zk_V (zc 193 [zm_A 146] h13) (fun h18 => some (zm_U, h18))))) else (zk_V (zc 181 [zm_A 146] h11) (fun h19 => some (zm_U, h19))))) else (zk_V (zc 179 [zm_A 146] h9) (fun h20 => some (zm_U, h20))))) else (zk_V (zc 178 [zm_A 146] h7) (fun h21 => some (zm_U, h21))))) else (zk_V (zc 176 [zm_A 146] h5) (fun h22 => some (zm_U, h22))))) else (zk_V (zc 166 [zm_A 146] h3) (fun h23 => some (zm_U, h23))))) else (some (zm_U, h1)))) (zc 162 [zm_A 146] h) := by
  rw [zc_eq (loc := [zm_A 146]) (rk_162 _) rfl]
  refine zl_tr (r_aload_n d_162_0 rfl) ?_
  refine zl_tr (r_VV [zm_A 146] d_162_1 ow_162 cal_12_268 na_163 rfl rfl (Nat.le_of_ble_eq_true rfl) (by rw [rk_163]; decide) (zr_rcv la_146 ow_163) (zr_im mx_163 rfl (Nat.le_of_ble_eq_true rfl)) rt_163) (zl_V (fun h1 => ?_))
  refine zl_tr (r_aload_n d_162_4 rfl) ?_
  refine zl_tr (r_getI (kk := 8) d_162_5 ow_162 f_12_36 la_146 (by decide) rfl) ?_
  refine zl_tr (r_if_le (tgt := 12) d_162_8 (by decide)) (zl_if ?_ ?_)
  · skip
    refine zl_tr (r_aload_n d_162_12 rfl) ?_
    refine zl_tr (r_ldc2 d_162_13 ow_162 lng_12_277) ?_
    refine zl_tr (r_VI [zm_A 146, zm_L 1802071652] d_162_16 ow_162 cal_12_351 na_165 rfl rfl (Nat.le_of_ble_eq_true rfl) (by rw [rk_165]; decide) (zr_rcv la_146 ow_165) (zr_im mx_165 rfl (Nat.le_of_ble_eq_true rfl)) (by rw [rt_165]; decide)) (zl_I (fun v2 h3 => ?_))
    refine zl_tr (r_if_eq (tgt := 29) d_162_19 (by decide)) (zl_if ?_ ?_)
    · skip
      refine zl_tr (r_aload_n d_162_29 rfl) ?_
      refine zl_tr (r_ldc2 d_162_30 ow_162 lng_12_283) ?_
      refine zl_tr (r_VI [zm_A 146, zm_L 465491813746] d_162_33 ow_162 cal_12_351 na_165 rfl rfl (Nat.le_of_ble_eq_true rfl) (by rw [rk_165]; decide) (zr_rcv la_146 ow_165) (zr_im mx_165 rfl (Nat.le_of_ble_eq_true rfl)) (by rw [rt_165]; decide)) (zl_I (fun v4 h5 => ?_))
      refine zl_tr (r_if_eq (tgt := 46) d_162_36 (by decide)) (zl_if ?_ ?_)
      · skip
        refine zl_tr (r_aload_n d_162_46 rfl) ?_
        refine zl_tr (r_ldc2 d_162_47 ow_162 lng_12_285) ?_
        refine zl_tr (r_VI [zm_A 146, zm_L 426953501796] d_162_50 ow_162 cal_12_351 na_165 rfl rfl (Nat.le_of_ble_eq_true rfl) (by rw [rk_165]; decide) (zr_rcv la_146 ow_165) (zr_im mx_165 rfl (Nat.le_of_ble_eq_true rfl)) (by rw [rt_165]; decide)) (zl_I (fun v6 h7 => ?_))
        refine zl_tr (r_if_eq (tgt := 63) d_162_53 (by decide)) (zl_if ?_ ?_)
        · skip
          refine zl_tr (r_aload_n d_162_63 rfl) ?_
          refine zl_tr (r_ldc2 d_162_64 ow_162 lng_12_299) ?_
          refine zl_tr (r_VI [zm_A 146, zm_L 465625113971] d_162_67 ow_162 cal_12_351 na_165 rfl rfl (Nat.le_of_ble_eq_true rfl) (by rw [rk_165]; decide) (zr_rcv la_146 ow_165) (zr_im mx_165 rfl (Nat.le_of_ble_eq_true rfl)) (by rw [rt_165]; decide)) (zl_I (fun v8 h9 => ?_))
          refine zl_tr (r_if_eq (tgt := 80) d_162_70 (by decide)) (zl_if ?_ ?_)
          · skip
            refine zl_tr (r_aload_n d_162_80 rfl) ?_
            refine zl_tr (r_ldc2 d_162_81 ow_162 lng_12_301) ?_
            refine zl_tr (r_VI [zm_A 146, zm_L 427071599731] d_162_84 ow_162 cal_12_351 na_165 rfl rfl (Nat.le_of_ble_eq_true rfl) (by rw [rk_165]; decide) (zr_rcv la_146 ow_165) (zr_im mx_165 rfl (Nat.le_of_ble_eq_true rfl)) (by rw [rt_165]; decide)) (zl_I (fun v10 h11 => ?_))
            refine zl_tr (r_if_eq (tgt := 97) d_162_87 (by decide)) (zl_if ?_ ?_)
            · skip
              refine zl_tr (r_aload_n d_162_97 rfl) ?_
              refine zl_tr (r_ldc2 d_162_98 ow_162 lng_12_303) ?_
              refine zl_tr (r_VI [zm_A 146, zm_L 1886745715] d_162_101 ow_162 cal_12_351 na_165 rfl rfl (Nat.le_of_ble_eq_true rfl) (by rw [rk_165]; decide) (zr_rcv la_146 ow_165) (zr_im mx_165 rfl (Nat.le_of_ble_eq_true rfl)) (by rw [rt_165]; decide)) (zl_I (fun v12 h13 => ?_))
              refine zl_tr (r_if_eq (tgt := 114) d_162_104 (by decide)) (zl_if ?_ ?_)
              · skip
                refine zl_tr (r_aload_n d_162_114 rfl) ?_
                refine zl_tr (r_ldc2 d_162_115 ow_162 lng_12_305) ?_
                refine zl_tr (r_VI [zm_A 146, zm_L 483006772069] d_162_118 ow_162 cal_12_351 na_165 rfl rfl (Nat.le_of_ble_eq_true rfl) (by rw [rk_165]; decide) (zr_rcv la_146 ow_165) (zr_im mx_165 rfl (Nat.le_of_ble_eq_true rfl)) (by rw [rt_165]; decide)) (zl_I (fun v14 h15 => ?_))
                refine zl_tr (r_if_eq (tgt := 131) d_162_121 (by decide)) (zl_if ?_ ?_)
                · skip
                  refine zl_tr (r_aload_n d_162_131 rfl) ?_
                  refine zl_tr (r_iconst d_162_132 (by decide)) ?_
                  refine zl_tr (r_aload_n d_162_133 rfl) ?_
                  refine zl_tr (r_getI (kk := 4) d_162_134 ow_162 f_12_23 la_146 (by decide) rfl) ?_
                  refine zl_tr (r_VV [zm_A 146, zm_I 1, zm_I (h15 146 4)] d_162_137 ow_162 cal_12_257 na_164 rfl rfl (Nat.le_of_ble_eq_true rfl) (by rw [rk_164]; decide) (zr_rcv la_146 ow_164) (zr_im mx_164 rfl (Nat.le_of_ble_eq_true rfl)) rt_164) (zl_V (fun h16 => ?_))
                  exact r_vret d_162_140 rt_162
                · skip
                  refine zl_tr (r_aload_n d_162_124 rfl) ?_
                  refine zl_tr (r_VV [zm_A 146] d_162_125 ow_162 cal_12_420 na_194 rfl rfl (Nat.le_of_ble_eq_true rfl) (by rw [rk_194]; decide) (zr_rcv la_146 ow_194) (zr_im mx_194 rfl (Nat.le_of_ble_eq_true rfl)) rt_194) (zl_V (fun h17 => ?_))
                  refine zl_tr (r_goto (tgt := 140) d_162_128 (by decide)) ?_
                  exact r_vret d_162_140 rt_162
              · skip
                refine zl_tr (r_aload_n d_162_107 rfl) ?_
                refine zl_tr (r_VV [zm_A 146] d_162_108 ow_162 cal_12_417 na_193 rfl rfl (Nat.le_of_ble_eq_true rfl) (by rw [rk_193]; decide) (zr_rcv la_146 ow_193) (zr_im mx_193 rfl (Nat.le_of_ble_eq_true rfl)) rt_193) (zl_V (fun h18 => ?_))
                refine zl_tr (r_goto (tgt := 140) d_162_111 (by decide)) ?_
                exact r_vret d_162_140 rt_162
            · skip
              refine zl_tr (r_aload_n d_162_90 rfl) ?_
              refine zl_tr (r_VV [zm_A 146] d_162_91 ow_162 cal_12_414 na_181 rfl rfl (Nat.le_of_ble_eq_true rfl) (by rw [rk_181]; decide) (zr_rcv la_146 ow_181) (zr_im mx_181 rfl (Nat.le_of_ble_eq_true rfl)) rt_181) (zl_V (fun h19 => ?_))
              refine zl_tr (r_goto (tgt := 140) d_162_94 (by decide)) ?_
              exact r_vret d_162_140 rt_162
          · skip
            refine zl_tr (r_aload_n d_162_73 rfl) ?_
            refine zl_tr (r_VV [zm_A 146] d_162_74 ow_162 cal_12_411 na_179 rfl rfl (Nat.le_of_ble_eq_true rfl) (by rw [rk_179]; decide) (zr_rcv la_146 ow_179) (zr_im mx_179 rfl (Nat.le_of_ble_eq_true rfl)) rt_179) (zl_V (fun h20 => ?_))
            refine zl_tr (r_goto (tgt := 140) d_162_77 (by decide)) ?_
            exact r_vret d_162_140 rt_162
        · skip
          refine zl_tr (r_aload_n d_162_56 rfl) ?_
          refine zl_tr (r_VV [zm_A 146] d_162_57 ow_162 cal_12_408 na_178 rfl rfl (Nat.le_of_ble_eq_true rfl) (by rw [rk_178]; decide) (zr_rcv la_146 ow_178) (zr_im mx_178 rfl (Nat.le_of_ble_eq_true rfl)) rt_178) (zl_V (fun h21 => ?_))
          refine zl_tr (r_goto (tgt := 140) d_162_60 (by decide)) ?_
          exact r_vret d_162_140 rt_162
      · skip
        refine zl_tr (r_aload_n d_162_39 rfl) ?_
        refine zl_tr (r_VV [zm_A 146] d_162_40 ow_162 cal_12_405 na_176 rfl rfl (Nat.le_of_ble_eq_true rfl) (by rw [rk_176]; decide) (zr_rcv la_146 ow_176) (zr_im mx_176 rfl (Nat.le_of_ble_eq_true rfl)) rt_176) (zl_V (fun h22 => ?_))
        refine zl_tr (r_goto (tgt := 140) d_162_43 (by decide)) ?_
        exact r_vret d_162_140 rt_162
    · skip
      refine zl_tr (r_aload_n d_162_22 rfl) ?_
      refine zl_tr (r_VV [zm_A 146] d_162_23 ow_162 cal_12_402 na_166 rfl rfl (Nat.le_of_ble_eq_true rfl) (by rw [rk_166]; decide) (zr_rcv la_146 ow_166) (zr_im mx_166 rfl (Nat.le_of_ble_eq_true rfl)) rt_166) (zl_V (fun h23 => ?_))
      refine zl_tr (r_goto (tgt := 140) d_162_26 (by decide)) ?_
      exact r_vret d_162_140 rt_162
  · skip
    exact r_vret d_162_11 rt_162
-- BranTubModel.lex
set_option maxRecDepth 20000 in
theorem e_163 {h : zm_H}  : zl (if (h 146 12) = (-1) then (some (zm_U, h)) else (zk_V (zc 164 [zm_A 146, zm_I 1, zm_I (h 146 12)] h) (fun h1 => some (zm_U, h1)))) (zc 163 [zm_A 146] h) := by
  rw [zc_eq (loc := [zm_A 146]) (rk_163 _) rfl]
  refine zl_tr (r_aload_n d_163_0 rfl) ?_
  refine zl_tr (r_getI (kk := 12) d_163_1 ow_163 f_12_48 la_146 (by decide) rfl) ?_
  refine zl_tr (r_iconst d_163_4 (by decide)) ?_
  refine zl_tr (r_icmp_eq (tgt := 17) d_163_5 (by decide)) (zl_if ?_ ?_)
  · skip
    exact r_vret d_163_17 rt_163
  · skip
    refine zl_tr (r_aload_n d_163_8 rfl) ?_
    refine zl_tr (r_iconst d_163_9 (by decide)) ?_
    refine zl_tr (r_aload_n d_163_10 rfl) ?_
    refine zl_tr (r_getI (kk := 12) d_163_11 ow_163 f_12_48 la_146 (by decide) rfl) ?_
    refine zl_tr (r_VV [zm_A 146, zm_I 1, zm_I (h 146 12)] d_163_14 ow_163 cal_12_257 na_164 rfl rfl (Nat.le_of_ble_eq_true rfl) (by rw [rk_164]; decide) (zr_rcv la_146 ow_164) (zr_im mx_164 rfl (Nat.le_of_ble_eq_true rfl)) rt_164) (zl_V (fun h1 => ?_))
    exact r_vret d_163_17 rt_163
-- BranTubModel.blame
set_option maxRecDepth 20000 in
theorem e_164 {h : zm_H} {x1 : Int} {x2 : Int} : zl (if (h 146 8) ≤ 0 then (some (zm_U, (zm_wr (zm_wr h 146 8 x1) 146 9 x2))) else (some (zm_U, h))) (zc 164 [zm_A 146, zm_I x1, zm_I x2] h) := by
  rw [zc_eq (loc := [zm_A 146, zm_I x1, zm_I x2]) (rk_164 _) rfl]
  refine zl_tr (r_aload_n d_164_0 rfl) ?_
  refine zl_tr (r_getI (kk := 8) d_164_1 ow_164 f_12_36 la_146 (by decide) rfl) ?_
  refine zl_tr (r_if_le (tgt := 8) d_164_4 (by decide)) (zl_if ?_ ?_)
  · skip
    refine zl_tr (r_aload_n d_164_8 rfl) ?_
    refine zl_tr (r_iload_n d_164_9 rfl) ?_
    refine zl_tr (r_putI (kk := 8) d_164_10 ow_164 f_12_36 la_146 (by decide) rfl) ?_
    refine zl_tr (r_aload_n d_164_13 rfl) ?_
    refine zl_tr (r_iload_n d_164_14 rfl) ?_
    refine zl_tr (r_putI (kk := 9) d_164_15 ow_164 f_12_39 la_146 (by decide) rfl) ?_
    exact r_vret d_164_18 rt_164
  · skip
    exact r_vret d_164_7 rt_164
-- BranTubModel.isWord
set_option maxRecDepth 20000 in
theorem e_165 {h : zm_H} {x1 : Int} : zl (if (h 146 3) = 1 then (if (if (h 146 7) < x1 then -1 else if (h 146 7) = x1 then 0 else 1) = 0 then (zm_ck (zm_bit 1) (some (zm_I 1, h))) else (zm_ck (zm_bit 0) (some (zm_I 0, h)))) else (zm_ck (zm_bit 0) (some (zm_I 0, h)))) (zc 165 [zm_A 146, zm_L x1] h) := by
  rw [zc_eq (loc := [zm_A 146, zm_L x1, zm_U]) (rk_165 _) rfl]
  refine zl_tr (r_aload_n d_165_0 rfl) ?_
  refine zl_tr (r_getI (kk := 3) d_165_1 ow_165 f_12_20 la_146 (by decide) rfl) ?_
  refine zl_tr (r_iconst d_165_4 (by decide)) ?_
  refine zl_tr (r_icmp_ne (tgt := 21) d_165_5 (by decide)) (zl_if ?_ ?_)
  · skip
    refine zl_tr (r_aload_n d_165_8 rfl) ?_
    refine zl_tr (r_getL (kk := 7) d_165_9 ow_165 f_12_32 la_146 (by decide) rfl) ?_
    refine zl_tr (r_lload_n d_165_12 rfl) ?_
    refine zl_tr (r_lcmp d_165_13) ?_
    refine zl_tr (r_if_ne (tgt := 21) d_165_14 (by decide)) (zl_if ?_ ?_)
    · skip
      refine zl_tr (r_iconst d_165_17 (by decide)) ?_
      refine zl_tr (r_goto (tgt := 22) d_165_18 (by decide)) ?_
      exact r_zret d_165_22 rt_165
    · skip
      refine zl_tr (r_iconst d_165_21 (by decide)) ?_
      exact r_zret d_165_22 rt_165
  · skip
    refine zl_tr (r_iconst d_165_21 (by decide)) ?_
    exact r_zret d_165_22 rt_165
-- BranTubModel.kinding
set_option maxRecDepth 20000 in
theorem e_166 {h : zm_H}  : zl (zm_ck (0 ≤ (h 146 34) ∧ (h 146 34) < ((2 : Nat) : Int)) (if (h 148 (h 146 34)) = 8 then (zk_I (zc 167 [zm_A 146, zm_I 1] h) (fun v1 h2 => if v1 = 0 then (some (zm_U, h2)) else (zm_ck (zm_i32 (8 * (h2 146 34))) (zm_ck (0 ≤ (h2 146 34) ∧ (h2 146 34) < ((2 : Nat) : Int)) (zm_ck (zm_i32 ((8 * (h2 146 34)) + (h2 148 (h2 146 34)))) (zk_L (zc 168 [zm_A 146] h2) (fun v3 h4 => zm_ck (0 ≤ ((8 * (h2 146 34)) + (h2 148 (h2 146 34))) ∧ ((8 * (h2 146 34)) + (h2 148 (h2 146 34))) < ((16 : Nat) : Int)) (zk_V (zc 173 [zm_A 146, zm_L 512970880104] (zm_wr h4 165 ((8 * (h2 146 34)) + (h2 148 (h2 146 34))) v3)) (fun h5 => zk_I (zc 174 [zm_A 146, zm_I 0, zm_I 99] h5) (fun v6 h7 => zm_ck (0 ≤ ((8 * (h2 146 34)) + (h2 148 (h2 146 34))) ∧ ((8 * (h2 146 34)) + (h2 148 (h2 146 34))) < ((16 : Nat) : Int)) (zk_V (zc 173 [zm_A 146, zm_L 1936292453] (zm_wr h7 149 ((8 * (h2 146 34)) + (h2 148 (h2 146 34))) v6)) (fun h8 => zk_I (zc 174 [zm_A 146, zm_I 1, zm_I 9] h8) (fun v9 h10 => zm_ck (0 ≤ ((8 * (h2 146 34)) + (h2 148 (h2 146 34))) ∧ ((8 * (h2 146 34)) + (h2 148 (h2 146 34))) < ((16 : Nat) : Int)) (zr none 4 166 97 [zm_A 146, zm_I ((8 * (h2 146 34)) + (h2 148 (h2 146 34))), zm_I 0] [] (zm_wr h10 150 ((8 * (h2 146 34)) + (h2 148 (h2 146 34))) v9))))))))))))))) else (zk_I (zc 167 [zm_A 146, zm_I 0] h) (fun v11 h12 => if v11 = 0 then (some (zm_U, h12)) else (zm_ck (zm_i32 (8 * (h12 146 34))) (zm_ck (0 ≤ (h12 146 34) ∧ (h12 146 34) < ((2 : Nat) : Int)) (zm_ck (zm_i32 ((8 * (h12 146 34)) + (h12 148 (h12 146 34)))) (zk_L (zc 168 [zm_A 146] h12) (fun v13 h14 => zm_ck (0 ≤ ((8 * (h12 146 34)) + (h12 148 (h12 146 34))) ∧ ((8 * (h12 146 34)) + (h12 148 (h12 146 34))) < ((16 : Nat) : Int)) (zk_V (zc 173 [zm_A 146, zm_L 512970880104] (zm_wr h14 165 ((8 * (h12 146 34)) + (h12 148 (h12 146 34))) v13)) (fun h15 => zk_I (zc 174 [zm_A 146, zm_I 0, zm_I 99] h15) (fun v16 h17 => zm_ck (0 ≤ ((8 * (h12 146 34)) + (h12 148 (h12 146 34))) ∧ ((8 * (h12 146 34)) + (h12 148 (h12 146 34))) < ((16 : Nat) : Int)) (zk_V (zc 173 [zm_A 146, zm_L 1936292453] (zm_wr h17 149 ((8 * (h12 146 34)) + (h12 148 (h12 146 34))) v16)) (fun h18 => zk_I (zc 174 [zm_A 146, zm_I 1, zm_I 9] h18) (fun v19 h20 => zm_ck (0 ≤ ((8 * (h12 146 34)) + (h12 148 (h12 146 34))) ∧ ((8 * (h12 146 34)) + (h12 148 (h12 146 34))) < ((16 : Nat) : Int)) (zr none 4 166 97 [zm_A 146, zm_I ((8 * (h12 146 34)) + (h12 148 (h12 146 34))), zm_I 0] [] (zm_wr h20 150 ((8 * (h12 146 34)) + (h12 148 (h12 146 34))) v19))))))))))))))))) (zc 166 [zm_A 146] h) := by
  rw [zc_eq (loc := [zm_A 146, zm_U, zm_U]) (rk_166 _) rfl]
  refine zl_tr (r_aload_n d_166_0 rfl) ?_
  refine zl_tr (r_aload_n d_166_1 rfl) ?_
  refine zl_tr (r_getR d_166_2 ow_166 f_12_54 la_146 (by decide) fr_146_14) ?_
  refine zl_tr (r_aload_n d_166_5 rfl) ?_
  refine zl_tr (r_getI (kk := 34) d_166_6 ow_166 f_12_115 la_146 (by decide) rfl) ?_
  refine zl_tr (r_iaload d_166_9 la_148) (zl_ck ?_)
  refine zl_tr (r_bipush d_166_10 (by decide)) ?_
  refine zl_tr (r_icmp_ne (tgt := 19) d_166_12 (by decide)) (zl_if ?_ ?_)
  · skip
    refine zl_tr (r_iconst d_166_15 (by decide)) ?_
    refine zl_tr (r_goto (tgt := 20) d_166_16 (by decide)) ?_
    refine zl_tr (r_VI [zm_A 146, zm_I 1] d_166_20 ow_166 cal_12_380 na_167 rfl rfl (Nat.le_of_ble_eq_true rfl) (by rw [rk_167]; decide) (zr_rcv la_146 ow_167) (zr_im mx_167 rfl (Nat.le_of_ble_eq_true rfl)) (by rw [rt_167]; decide)) (zl_I (fun v1 h2 => ?_))
    refine zl_tr (r_if_ne (tgt := 27) d_166_23 (by decide)) (zl_if ?_ ?_)
    · skip
      exact r_vret d_166_26 rt_166
    · skip
      refine zl_tr (r_bipush d_166_27 (by decide)) ?_
      refine zl_tr (r_aload_n d_166_29 rfl) ?_
      refine zl_tr (r_getI (kk := 34) d_166_30 ow_166 f_12_115 la_146 (by decide) rfl) ?_
      refine zl_tr (r_imul d_166_33) (zl_ck ?_)
      refine zl_tr (r_aload_n d_166_34 rfl) ?_
      refine zl_tr (r_getR d_166_35 ow_166 f_12_54 la_146 (by decide) fr_146_14) ?_
      refine zl_tr (r_aload_n d_166_38 rfl) ?_
      refine zl_tr (r_getI (kk := 34) d_166_39 ow_166 f_12_115 la_146 (by decide) rfl) ?_
      refine zl_tr (r_iaload d_166_42 la_148) (zl_ck ?_)
      refine zl_tr (r_iadd d_166_43) (zl_ck ?_)
      refine zl_tr (r_istore_n (loc' := [zm_A 146, zm_I ((8 * (h2 146 34)) + (h2 148 (h2 146 34))), zm_U]) d_166_44 (Nat.le_of_ble_eq_true rfl) rfl) ?_
      refine zl_tr (r_aload_n d_166_45 rfl) ?_
      refine zl_tr (r_getR d_166_46 ow_166 f_12_105 la_146 (by decide) fr_146_31) ?_
      refine zl_tr (r_iload_n d_166_49 rfl) ?_
      refine zl_tr (r_aload_n d_166_50 rfl) ?_
      refine zl_tr (r_VL [zm_A 146] d_166_51 ow_166 cal_12_384 na_168 rfl rfl (Nat.le_of_ble_eq_true rfl) (by rw [rk_168]; decide) (zr_rcv la_146 ow_168) (zr_im mx_168 rfl (Nat.le_of_ble_eq_true rfl)) rt_168) (zl_L (fun v3 h4 => ?_))
      refine zl_tr (r_lastore d_166_54 la_165) (zl_ck ?_)
      refine zl_tr (r_aload_n d_166_55 rfl) ?_
      refine zl_tr (r_ldc2 d_166_56 ow_166 lng_12_279) ?_
      refine zl_tr (r_VV [zm_A 146, zm_L 512970880104] d_166_59 ow_166 cal_12_388 na_173 rfl rfl (Nat.le_of_ble_eq_true rfl) (by rw [rk_173]; decide) (zr_rcv la_146 ow_173) (zr_im mx_173 rfl (Nat.le_of_ble_eq_true rfl)) rt_173) (zl_V (fun h5 => ?_))
      refine zl_tr (r_aload_n d_166_62 rfl) ?_
      refine zl_tr (r_getR d_166_63 ow_166 f_12_57 la_146 (by decide) fr_146_15) ?_
      refine zl_tr (r_iload_n d_166_66 rfl) ?_
      refine zl_tr (r_aload_n d_166_67 rfl) ?_
      refine zl_tr (r_iconst d_166_68 (by decide)) ?_
      refine zl_tr (r_bipush d_166_69 (by decide)) ?_
      refine zl_tr (r_VI [zm_A 146, zm_I 0, zm_I 99] d_166_71 ow_166 cal_12_392 na_174 rfl rfl (Nat.le_of_ble_eq_true rfl) (by rw [rk_174]; decide) (zr_rcv la_146 ow_174) (zr_im mx_174 rfl (Nat.le_of_ble_eq_true rfl)) (by rw [rt_174]; decide)) (zl_I (fun v6 h7 => ?_))
      refine zl_tr (r_iastore d_166_74 la_149) (zl_ck ?_)
      refine zl_tr (r_aload_n d_166_75 rfl) ?_
      refine zl_tr (r_ldc2 d_166_76 ow_166 lng_12_281) ?_
      refine zl_tr (r_VV [zm_A 146, zm_L 1936292453] d_166_79 ow_166 cal_12_388 na_173 rfl rfl (Nat.le_of_ble_eq_true rfl) (by rw [rk_173]; decide) (zr_rcv la_146 ow_173) (zr_im mx_173 rfl (Nat.le_of_ble_eq_true rfl)) rt_173) (zl_V (fun h8 => ?_))
      refine zl_tr (r_aload_n d_166_82 rfl) ?_
      refine zl_tr (r_getR d_166_83 ow_166 f_12_60 la_146 (by decide) fr_146_16) ?_
      refine zl_tr (r_iload_n d_166_86 rfl) ?_
      refine zl_tr (r_aload_n d_166_87 rfl) ?_
      refine zl_tr (r_iconst d_166_88 (by decide)) ?_
      refine zl_tr (r_bipush d_166_89 (by decide)) ?_
      refine zl_tr (r_VI [zm_A 146, zm_I 1, zm_I 9] d_166_91 ow_166 cal_12_392 na_174 rfl rfl (Nat.le_of_ble_eq_true rfl) (by rw [rk_174]; decide) (zr_rcv la_146 ow_174) (zr_im mx_174 rfl (Nat.le_of_ble_eq_true rfl)) (by rw [rt_174]; decide)) (zl_I (fun v9 h10 => ?_))
      refine zl_tr (r_iastore d_166_94 la_150) (zl_ck ?_)
      refine zl_tr (r_iconst d_166_95 (by decide)) ?_
      refine zl_tr (r_istore_n (loc' := [zm_A 146, zm_I ((8 * (h2 146 34)) + (h2 148 (h2 146 34))), zm_I 0]) d_166_96 (Nat.le_of_ble_eq_true rfl) rfl) ?_
      exact zl_rf
  · skip
    refine zl_tr (r_iconst d_166_19 (by decide)) ?_
    refine zl_tr (r_VI [zm_A 146, zm_I 0] d_166_20 ow_166 cal_12_380 na_167 rfl rfl (Nat.le_of_ble_eq_true rfl) (by rw [rk_167]; decide) (zr_rcv la_146 ow_167) (zr_im mx_167 rfl (Nat.le_of_ble_eq_true rfl)) (by rw [rt_167]; decide)) (zl_I (fun v11 h12 => ?_))
    refine zl_tr (r_if_ne (tgt := 27) d_166_23 (by decide)) (zl_if ?_ ?_)
    · skip
      exact r_vret d_166_26 rt_166
    · skip
      refine zl_tr (r_bipush d_166_27 (by decide)) ?_
      refine zl_tr (r_aload_n d_166_29 rfl) ?_
      refine zl_tr (r_getI (kk := 34) d_166_30 ow_166 f_12_115 la_146 (by decide) rfl) ?_
      refine zl_tr (r_imul d_166_33) (zl_ck ?_)
      refine zl_tr (r_aload_n d_166_34 rfl) ?_
      refine zl_tr (r_getR d_166_35 ow_166 f_12_54 la_146 (by decide) fr_146_14) ?_
      refine zl_tr (r_aload_n d_166_38 rfl) ?_
      refine zl_tr (r_getI (kk := 34) d_166_39 ow_166 f_12_115 la_146 (by decide) rfl) ?_
      refine zl_tr (r_iaload d_166_42 la_148) (zl_ck ?_)
      refine zl_tr (r_iadd d_166_43) (zl_ck ?_)
      refine zl_tr (r_istore_n (loc' := [zm_A 146, zm_I ((8 * (h12 146 34)) + (h12 148 (h12 146 34))), zm_U]) d_166_44 (Nat.le_of_ble_eq_true rfl) rfl) ?_
      refine zl_tr (r_aload_n d_166_45 rfl) ?_
      refine zl_tr (r_getR d_166_46 ow_166 f_12_105 la_146 (by decide) fr_146_31) ?_
      refine zl_tr (r_iload_n d_166_49 rfl) ?_
      refine zl_tr (r_aload_n d_166_50 rfl) ?_
      refine zl_tr (r_VL [zm_A 146] d_166_51 ow_166 cal_12_384 na_168 rfl rfl (Nat.le_of_ble_eq_true rfl) (by rw [rk_168]; decide) (zr_rcv la_146 ow_168) (zr_im mx_168 rfl (Nat.le_of_ble_eq_true rfl)) rt_168) (zl_L (fun v13 h14 => ?_))
      refine zl_tr (r_lastore d_166_54 la_165) (zl_ck ?_)
      refine zl_tr (r_aload_n d_166_55 rfl) ?_
      refine zl_tr (r_ldc2 d_166_56 ow_166 lng_12_279) ?_
      refine zl_tr (r_VV [zm_A 146, zm_L 512970880104] d_166_59 ow_166 cal_12_388 na_173 rfl rfl (Nat.le_of_ble_eq_true rfl) (by rw [rk_173]; decide) (zr_rcv la_146 ow_173) (zr_im mx_173 rfl (Nat.le_of_ble_eq_true rfl)) rt_173) (zl_V (fun h15 => ?_))
      refine zl_tr (r_aload_n d_166_62 rfl) ?_
      refine zl_tr (r_getR d_166_63 ow_166 f_12_57 la_146 (by decide) fr_146_15) ?_
      refine zl_tr (r_iload_n d_166_66 rfl) ?_
      refine zl_tr (r_aload_n d_166_67 rfl) ?_
      refine zl_tr (r_iconst d_166_68 (by decide)) ?_
      refine zl_tr (r_bipush d_166_69 (by decide)) ?_
      refine zl_tr (r_VI [zm_A 146, zm_I 0, zm_I 99] d_166_71 ow_166 cal_12_392 na_174 rfl rfl (Nat.le_of_ble_eq_true rfl) (by rw [rk_174]; decide) (zr_rcv la_146 ow_174) (zr_im mx_174 rfl (Nat.le_of_ble_eq_true rfl)) (by rw [rt_174]; decide)) (zl_I (fun v16 h17 => ?_))
      refine zl_tr (r_iastore d_166_74 la_149) (zl_ck ?_)
      refine zl_tr (r_aload_n d_166_75 rfl) ?_
      refine zl_tr (r_ldc2 d_166_76 ow_166 lng_12_281) ?_
      refine zl_tr (r_VV [zm_A 146, zm_L 1936292453] d_166_79 ow_166 cal_12_388 na_173 rfl rfl (Nat.le_of_ble_eq_true rfl) (by rw [rk_173]; decide) (zr_rcv la_146 ow_173) (zr_im mx_173 rfl (Nat.le_of_ble_eq_true rfl)) rt_173) (zl_V (fun h18 => ?_))
      refine zl_tr (r_aload_n d_166_82 rfl) ?_
      refine zl_tr (r_getR d_166_83 ow_166 f_12_60 la_146 (by decide) fr_146_16) ?_
      refine zl_tr (r_iload_n d_166_86 rfl) ?_
      refine zl_tr (r_aload_n d_166_87 rfl) ?_
      refine zl_tr (r_iconst d_166_88 (by decide)) ?_
      refine zl_tr (r_bipush d_166_89 (by decide)) ?_
      refine zl_tr (r_VI [zm_A 146, zm_I 1, zm_I 9] d_166_91 ow_166 cal_12_392 na_174 rfl rfl (Nat.le_of_ble_eq_true rfl) (by rw [rk_174]; decide) (zr_rcv la_146 ow_174) (zr_im mx_174 rfl (Nat.le_of_ble_eq_true rfl)) (by rw [rt_174]; decide)) (zl_I (fun v19 h20 => ?_))
      refine zl_tr (r_iastore d_166_94 la_150) (zl_ck ?_)
      refine zl_tr (r_iconst d_166_95 (by decide)) ?_
      refine zl_tr (r_istore_n (loc' := [zm_A 146, zm_I ((8 * (h12 146 34)) + (h12 148 (h12 146 34))), zm_I 0]) d_166_96 (Nat.le_of_ble_eq_true rfl) rfl) ?_
      exact zl_rf
-- BranTubModel.kinding, from 97
set_option maxRecDepth 20000 in
theorem e_166_97 {h : zm_H} {x1 : Int} {x2 : Int} : zl (if x2 < 8 then (zm_ck (zm_i32 (8 * (h 146 34))) (zm_ck (zm_i32 ((8 * (h 146 34)) + x2)) (zm_ck (zm_i32 (8 * ((8 * (h 146 34)) + x2))) (zm_ck (0 ≤ (h 146 34) ∧ (h 146 34) < ((2 : Nat) : Int)) (zm_ck (zm_i32 ((8 * ((8 * (h 146 34)) + x2)) + (h 148 (h 146 34)))) (zm_ck (0 ≤ x1 ∧ x1 < ((16 : Nat) : Int)) (zm_ck (0 ≤ ((8 * ((8 * (h 146 34)) + x2)) + (h 148 (h 146 34))) ∧ ((8 * ((8 * (h 146 34)) + x2)) + (h 148 (h 146 34))) < ((128 : Nat) : Int)) (zm_ck (zm_i32 (x2 + 1)) (zr none 4 166 97 [zm_A 146, zm_I x1, zm_I (x2 + 1)] [] (zm_wr h 157 ((8 * ((8 * (h 146 34)) + x2)) + (h 148 (h 146 34))) (h 149 x1))))))))))) else (if (h 146 8) = 0 then (zm_ck (0 ≤ (h 146 34) ∧ (h 146 34) < ((2 : Nat) : Int)) (zm_ck (zm_i32 ((h 148 (h 146 34)) + 1)) (zm_ck (0 ≤ (h 146 34) ∧ (h 146 34) < ((2 : Nat) : Int)) (some (zm_U, (zm_wr h 148 (h 146 34) ((h 148 (h 146 34)) + 1))))))) else (some (zm_U, h)))) (zr none 4 166 97 [zm_A 146, zm_I x1, zm_I x2] [] h) := by
  refine zl_tr (r_iload_n d_166_97 rfl) ?_
  refine zl_tr (r_bipush d_166_98 (by decide)) ?_
  refine zl_tr (r_icmp_ge (tgt := 142) d_166_100 (by decide)) (zl_if ?_ ?_)
  · skip
    refine zl_tr (r_aload_n d_166_103 rfl) ?_
    refine zl_tr (r_getR d_166_104 ow_166 f_12_81 la_146 (by decide) fr_146_23) ?_
    refine zl_tr (r_bipush d_166_107 (by decide)) ?_
    refine zl_tr (r_bipush d_166_109 (by decide)) ?_
    refine zl_tr (r_aload_n d_166_111 rfl) ?_
    refine zl_tr (r_getI (kk := 34) d_166_112 ow_166 f_12_115 la_146 (by decide) rfl) ?_
    refine zl_tr (r_imul d_166_115) (zl_ck ?_)
    refine zl_tr (r_iload_n d_166_116 rfl) ?_
    refine zl_tr (r_iadd d_166_117) (zl_ck ?_)
    refine zl_tr (r_imul d_166_118) (zl_ck ?_)
    refine zl_tr (r_aload_n d_166_119 rfl) ?_
    refine zl_tr (r_getR d_166_120 ow_166 f_12_54 la_146 (by decide) fr_146_14) ?_
    refine zl_tr (r_aload_n d_166_123 rfl) ?_
    refine zl_tr (r_getI (kk := 34) d_166_124 ow_166 f_12_115 la_146 (by decide) rfl) ?_
    refine zl_tr (r_iaload d_166_127 la_148) (zl_ck ?_)
    refine zl_tr (r_iadd d_166_128) (zl_ck ?_)
    refine zl_tr (r_aload_n d_166_129 rfl) ?_
    refine zl_tr (r_getR d_166_130 ow_166 f_12_57 la_146 (by decide) fr_146_15) ?_
    refine zl_tr (r_iload_n d_166_133 rfl) ?_
    refine zl_tr (r_iaload d_166_134 la_149) (zl_ck ?_)
    refine zl_tr (r_iastore d_166_135 la_157) (zl_ck ?_)
    refine zl_tr (r_iinc (loc' := [zm_A 146, zm_I x1, zm_I (x2 + 1)]) d_166_136 rfl (Nat.le_of_ble_eq_true rfl) rfl) (zl_ck ?_)
    refine zl_tr (r_goto (tgt := 97) d_166_139 (by decide)) ?_
    exact zl_rf
  · skip
    refine zl_tr (r_aload_n d_166_142 rfl) ?_
    refine zl_tr (r_getI (kk := 8) d_166_143 ow_166 f_12_36 la_146 (by decide) rfl) ?_
    refine zl_tr (r_if_ne (tgt := 162) d_166_146 (by decide)) (zl_if ?_ ?_)
    · skip
      refine zl_tr (r_aload_n d_166_149 rfl) ?_
      refine zl_tr (r_getR d_166_150 ow_166 f_12_54 la_146 (by decide) fr_146_14) ?_
      refine zl_tr (r_aload_n d_166_153 rfl) ?_
      refine zl_tr (r_getI (kk := 34) d_166_154 ow_166 f_12_115 la_146 (by decide) rfl) ?_
      refine zl_tr (r_dup2 d_166_157 ⟨rfl, rfl⟩) ?_
      refine zl_tr (r_iaload d_166_158 la_148) (zl_ck ?_)
      refine zl_tr (r_iconst d_166_159 (by decide)) ?_
      refine zl_tr (r_iadd d_166_160) (zl_ck ?_)
      refine zl_tr (r_iastore d_166_161 la_148) (zl_ck ?_)
      exact r_vret d_166_162 rt_166
    · skip
      exact r_vret d_166_162 rt_166
-- BranTubModel.counts
set_option maxRecDepth 20000 in
theorem e_167 {h : zm_H} {x1 : Int} : zl (if (h 146 8) = 0 then (if x1 = 0 then (if (h 146 8) = 0 then (zk_V (zc 159 [zm_A 146] h) (fun h1 => if (h1 146 8) = 0 then (zm_ck (zm_bit 1) (some (zm_I 1, h1))) else (zm_ck (zm_bit 0) (some (zm_I 0, h1))))) else (if (h 146 8) = 0 then (zm_ck (zm_bit 1) (some (zm_I 1, h))) else (zm_ck (zm_bit 0) (some (zm_I 0, h))))) else (zk_V (zc 164 [zm_A 146, zm_I 6, zm_I (h 146 4)] h) (fun h2 => if (h2 146 8) = 0 then (zk_V (zc 159 [zm_A 146] h2) (fun h3 => if (h3 146 8) = 0 then (zm_ck (zm_bit 1) (some (zm_I 1, h3))) else (zm_ck (zm_bit 0) (some (zm_I 0, h3))))) else (if (h2 146 8) = 0 then (zm_ck (zm_bit 1) (some (zm_I 1, h2))) else (zm_ck (zm_bit 0) (some (zm_I 0, h2))))))) else (if (h 146 8) = 0 then (zk_V (zc 159 [zm_A 146] h) (fun h4 => if (h4 146 8) = 0 then (zm_ck (zm_bit 1) (some (zm_I 1, h4))) else (zm_ck (zm_bit 0) (some (zm_I 0, h4))))) else (if (h 146 8) = 0 then (zm_ck (zm_bit 1) (some (zm_I 1, h))) else (zm_ck (zm_bit 0) (some (zm_I 0, h)))))) (zc 167 [zm_A 146, zm_I x1] h) := by
  rw [zc_eq (loc := [zm_A 146, zm_I x1]) (rk_167 _) rfl]
  refine zl_tr (r_aload_n d_167_0 rfl) ?_
  refine zl_tr (r_getI (kk := 8) d_167_1 ow_167 f_12_36 la_146 (by decide) rfl) ?_
  refine zl_tr (r_if_ne (tgt := 21) d_167_4 (by decide)) (zl_if ?_ ?_)
  · skip
    refine zl_tr (r_iload_n d_167_7 rfl) ?_
    refine zl_tr (r_if_eq (tgt := 21) d_167_8 (by decide)) (zl_if ?_ ?_)
    · skip
      refine zl_tr (r_aload_n d_167_21 rfl) ?_
      refine zl_tr (r_getI (kk := 8) d_167_22 ow_167 f_12_36 la_146 (by decide) rfl) ?_
      refine zl_tr (r_if_ne (tgt := 32) d_167_25 (by decide)) (zl_if ?_ ?_)
      · skip
        refine zl_tr (r_aload_n d_167_28 rfl) ?_
        refine zl_tr (r_VV [zm_A 146] d_167_29 ow_167 cal_12_274 na_159 rfl rfl (Nat.le_of_ble_eq_true rfl) (by rw [rk_159]; decide) (zr_rcv la_146 ow_159) (zr_im mx_159 rfl (Nat.le_of_ble_eq_true rfl)) rt_159) (zl_V (fun h1 => ?_))
        refine zl_tr (r_aload_n d_167_32 rfl) ?_
        refine zl_tr (r_getI (kk := 8) d_167_33 ow_167 f_12_36 la_146 (by decide) rfl) ?_
        refine zl_tr (r_if_ne (tgt := 43) d_167_36 (by decide)) (zl_if ?_ ?_)
        · skip
          refine zl_tr (r_iconst d_167_39 (by decide)) ?_
          refine zl_tr (r_goto (tgt := 44) d_167_40 (by decide)) ?_
          exact r_zret d_167_44 rt_167
        · skip
          refine zl_tr (r_iconst d_167_43 (by decide)) ?_
          exact r_zret d_167_44 rt_167
      · skip
        refine zl_tr (r_aload_n d_167_32 rfl) ?_
        refine zl_tr (r_getI (kk := 8) d_167_33 ow_167 f_12_36 la_146 (by decide) rfl) ?_
        refine zl_tr (r_if_ne (tgt := 43) d_167_36 (by decide)) (zl_if ?_ ?_)
        · skip
          refine zl_tr (r_iconst d_167_39 (by decide)) ?_
          refine zl_tr (r_goto (tgt := 44) d_167_40 (by decide)) ?_
          exact r_zret d_167_44 rt_167
        · skip
          refine zl_tr (r_iconst d_167_43 (by decide)) ?_
          exact r_zret d_167_44 rt_167
    · skip
      refine zl_tr (r_aload_n d_167_11 rfl) ?_
      refine zl_tr (r_bipush d_167_12 (by decide)) ?_
      refine zl_tr (r_aload_n d_167_14 rfl) ?_
      refine zl_tr (r_getI (kk := 4) d_167_15 ow_167 f_12_23 la_146 (by decide) rfl) ?_
      refine zl_tr (r_VV [zm_A 146, zm_I 6, zm_I (h 146 4)] d_167_18 ow_167 cal_12_257 na_164 rfl rfl (Nat.le_of_ble_eq_true rfl) (by rw [rk_164]; decide) (zr_rcv la_146 ow_164) (zr_im mx_164 rfl (Nat.le_of_ble_eq_true rfl)) rt_164) (zl_V (fun h2 => ?_))
      refine zl_tr (r_aload_n d_167_21 rfl) ?_
      refine zl_tr (r_getI (kk := 8) d_167_22 ow_167 f_12_36 la_146 (by decide) rfl) ?_
      refine zl_tr (r_if_ne (tgt := 32) d_167_25 (by decide)) (zl_if ?_ ?_)
      · skip
        refine zl_tr (r_aload_n d_167_28 rfl) ?_
        refine zl_tr (r_VV [zm_A 146] d_167_29 ow_167 cal_12_274 na_159 rfl rfl (Nat.le_of_ble_eq_true rfl) (by rw [rk_159]; decide) (zr_rcv la_146 ow_159) (zr_im mx_159 rfl (Nat.le_of_ble_eq_true rfl)) rt_159) (zl_V (fun h3 => ?_))
        refine zl_tr (r_aload_n d_167_32 rfl) ?_
        refine zl_tr (r_getI (kk := 8) d_167_33 ow_167 f_12_36 la_146 (by decide) rfl) ?_
        refine zl_tr (r_if_ne (tgt := 43) d_167_36 (by decide)) (zl_if ?_ ?_)
        · skip
          refine zl_tr (r_iconst d_167_39 (by decide)) ?_
          refine zl_tr (r_goto (tgt := 44) d_167_40 (by decide)) ?_
          exact r_zret d_167_44 rt_167
        · skip
          refine zl_tr (r_iconst d_167_43 (by decide)) ?_
          exact r_zret d_167_44 rt_167
      · skip
        refine zl_tr (r_aload_n d_167_32 rfl) ?_
        refine zl_tr (r_getI (kk := 8) d_167_33 ow_167 f_12_36 la_146 (by decide) rfl) ?_
        refine zl_tr (r_if_ne (tgt := 43) d_167_36 (by decide)) (zl_if ?_ ?_)
        · skip
          refine zl_tr (r_iconst d_167_39 (by decide)) ?_
          refine zl_tr (r_goto (tgt := 44) d_167_40 (by decide)) ?_
          exact r_zret d_167_44 rt_167
        · skip
          refine zl_tr (r_iconst d_167_43 (by decide)) ?_
          exact r_zret d_167_44 rt_167
  · skip
    refine zl_tr (r_aload_n d_167_21 rfl) ?_
    refine zl_tr (r_getI (kk := 8) d_167_22 ow_167 f_12_36 la_146 (by decide) rfl) ?_
    refine zl_tr (r_if_ne (tgt := 32) d_167_25 (by decide)) (zl_if ?_ ?_)
    · skip
      refine zl_tr (r_aload_n d_167_28 rfl) ?_
      refine zl_tr (r_VV [zm_A 146] d_167_29 ow_167 cal_12_274 na_159 rfl rfl (Nat.le_of_ble_eq_true rfl) (by rw [rk_159]; decide) (zr_rcv la_146 ow_159) (zr_im mx_159 rfl (Nat.le_of_ble_eq_true rfl)) rt_159) (zl_V (fun h4 => ?_))
      refine zl_tr (r_aload_n d_167_32 rfl) ?_
      refine zl_tr (r_getI (kk := 8) d_167_33 ow_167 f_12_36 la_146 (by decide) rfl) ?_
      refine zl_tr (r_if_ne (tgt := 43) d_167_36 (by decide)) (zl_if ?_ ?_)
      · skip
        refine zl_tr (r_iconst d_167_39 (by decide)) ?_
        refine zl_tr (r_goto (tgt := 44) d_167_40 (by decide)) ?_
        exact r_zret d_167_44 rt_167
      · skip
        refine zl_tr (r_iconst d_167_43 (by decide)) ?_
        exact r_zret d_167_44 rt_167
    · skip
      refine zl_tr (r_aload_n d_167_32 rfl) ?_
      refine zl_tr (r_getI (kk := 8) d_167_33 ow_167 f_12_36 la_146 (by decide) rfl) ?_
      refine zl_tr (r_if_ne (tgt := 43) d_167_36 (by decide)) (zl_if ?_ ?_)
      · skip
        refine zl_tr (r_iconst d_167_39 (by decide)) ?_
        refine zl_tr (r_goto (tgt := 44) d_167_40 (by decide)) ?_
        exact r_zret d_167_44 rt_167
      · skip
        refine zl_tr (r_iconst d_167_43 (by decide)) ?_
        exact r_zret d_167_44 rt_167
-- BranTubModel.fresh
set_option maxRecDepth 20000 in
theorem e_168 {h : zm_H}  : zl (zk_V (zc 163 [zm_A 146] h) (fun h1 => if (h1 146 8) ≤ 0 then (if (h1 146 3) = 1 then (zk_I (zc 169 [zm_A 146, zm_L (h1 146 7)] h1) (fun v2 h3 => if v2 = 0 then (zr none 3 168 43 [zm_A 146, zm_I 0, zm_U] [] h3) else (zk_V (zc 164 [zm_A 146, zm_I 1, zm_I (h3 146 4)] h3) (fun h4 => zr none 3 168 43 [zm_A 146, zm_I 0, zm_U] [] h4)))) else (zk_V (zc 164 [zm_A 146, zm_I 1, zm_I (h1 146 4)] h1) (fun h5 => zr none 3 168 43 [zm_A 146, zm_I 0, zm_U] [] h5))) else (some (zm_L 0, h1)))) (zc 168 [zm_A 146] h) := by
  rw [zc_eq (loc := [zm_A 146, zm_U, zm_U]) (rk_168 _) rfl]
  refine zl_tr (r_aload_n d_168_0 rfl) ?_
  refine zl_tr (r_VV [zm_A 146] d_168_1 ow_168 cal_12_268 na_163 rfl rfl (Nat.le_of_ble_eq_true rfl) (by rw [rk_163]; decide) (zr_rcv la_146 ow_163) (zr_im mx_163 rfl (Nat.le_of_ble_eq_true rfl)) rt_163) (zl_V (fun h1 => ?_))
  refine zl_tr (r_aload_n d_168_4 rfl) ?_
  refine zl_tr (r_getI (kk := 8) d_168_5 ow_168 f_12_36 la_146 (by decide) rfl) ?_
  refine zl_tr (r_if_le (tgt := 13) d_168_8 (by decide)) (zl_if ?_ ?_)
  · skip
    refine zl_tr (r_aload_n d_168_13 rfl) ?_
    refine zl_tr (r_getI (kk := 3) d_168_14 ow_168 f_12_20 la_146 (by decide) rfl) ?_
    refine zl_tr (r_iconst d_168_17 (by decide)) ?_
    refine zl_tr (r_icmp_ne (tgt := 32) d_168_18 (by decide)) (zl_if ?_ ?_)
    · skip
      refine zl_tr (r_aload_n d_168_21 rfl) ?_
      refine zl_tr (r_aload_n d_168_22 rfl) ?_
      refine zl_tr (r_getL (kk := 7) d_168_23 ow_168 f_12_32 la_146 (by decide) rfl) ?_
      refine zl_tr (r_VI [zm_A 146, zm_L (h1 146 7)] d_168_26 ow_168 cal_12_370 na_169 rfl rfl (Nat.le_of_ble_eq_true rfl) (by rw [rk_169]; decide) (zr_rcv la_146 ow_169) (zr_im mx_169 rfl (Nat.le_of_ble_eq_true rfl)) (by rw [rt_169]; decide)) (zl_I (fun v2 h3 => ?_))
      refine zl_tr (r_if_eq (tgt := 41) d_168_29 (by decide)) (zl_if ?_ ?_)
      · skip
        refine zl_tr (r_iconst d_168_41 (by decide)) ?_
        refine zl_tr (r_istore_n (loc' := [zm_A 146, zm_I 0, zm_U]) d_168_42 (Nat.le_of_ble_eq_true rfl) rfl) ?_
        exact zl_rf
      · skip
        refine zl_tr (r_aload_n d_168_32 rfl) ?_
        refine zl_tr (r_iconst d_168_33 (by decide)) ?_
        refine zl_tr (r_aload_n d_168_34 rfl) ?_
        refine zl_tr (r_getI (kk := 4) d_168_35 ow_168 f_12_23 la_146 (by decide) rfl) ?_
        refine zl_tr (r_VV [zm_A 146, zm_I 1, zm_I (h3 146 4)] d_168_38 ow_168 cal_12_257 na_164 rfl rfl (Nat.le_of_ble_eq_true rfl) (by rw [rk_164]; decide) (zr_rcv la_146 ow_164) (zr_im mx_164 rfl (Nat.le_of_ble_eq_true rfl)) rt_164) (zl_V (fun h4 => ?_))
        refine zl_tr (r_iconst d_168_41 (by decide)) ?_
        refine zl_tr (r_istore_n (loc' := [zm_A 146, zm_I 0, zm_U]) d_168_42 (Nat.le_of_ble_eq_true rfl) rfl) ?_
        exact zl_rf
    · skip
      refine zl_tr (r_aload_n d_168_32 rfl) ?_
      refine zl_tr (r_iconst d_168_33 (by decide)) ?_
      refine zl_tr (r_aload_n d_168_34 rfl) ?_
      refine zl_tr (r_getI (kk := 4) d_168_35 ow_168 f_12_23 la_146 (by decide) rfl) ?_
      refine zl_tr (r_VV [zm_A 146, zm_I 1, zm_I (h1 146 4)] d_168_38 ow_168 cal_12_257 na_164 rfl rfl (Nat.le_of_ble_eq_true rfl) (by rw [rk_164]; decide) (zr_rcv la_146 ow_164) (zr_im mx_164 rfl (Nat.le_of_ble_eq_true rfl)) rt_164) (zl_V (fun h5 => ?_))
      refine zl_tr (r_iconst d_168_41 (by decide)) ?_
      refine zl_tr (r_istore_n (loc' := [zm_A 146, zm_I 0, zm_U]) d_168_42 (Nat.le_of_ble_eq_true rfl) rfl) ?_
      exact zl_rf
  · skip
    refine zl_tr (r_lconst (z := 0) d_168_11 rfl) ?_
    exact r_lret d_168_12 rt_168
-- BranTubModel.fresh, from 43
set_option maxRecDepth 20000 in
theorem e_168_43 {h : zm_H} {x1 : Int} {w2 : zm_V} : zl (if 1 < x1 then (if (h 146 8) = 0 then (zk_V (zc 159 [zm_A 146] h) (fun h1 => some (zm_L (h 146 7), h1))) else (some (zm_L (h 146 7), h))) else (if (h 146 8) = 0 then (zk_I (zc 170 [zm_A 146, zm_I x1, zm_L (h 146 7)] h) (fun v2 h3 => if v2 = (-1) then (zm_ck (zm_i32 (x1 + 1)) (zr none 3 168 43 [zm_A 146, zm_I (x1 + 1), w2] [] h3)) else (zk_V (zc 164 [zm_A 146, zm_I 2, zm_I (h3 146 4)] h3) (fun h4 => zm_ck (zm_i32 (x1 + 1)) (zr none 3 168 43 [zm_A 146, zm_I (x1 + 1), w2] [] h4))))) else (if (h 146 8) = 0 then (zk_V (zc 159 [zm_A 146] h) (fun h5 => some (zm_L (h 146 7), h5))) else (some (zm_L (h 146 7), h))))) (zr none 3 168 43 [zm_A 146, zm_I x1, w2] [] h) := by
  refine zl_tr (r_iload_n d_168_43 rfl) ?_
  refine zl_tr (r_iconst d_168_44 (by decide)) ?_
  refine zl_tr (r_icmp_gt (tgt := 83) d_168_45 (by decide)) (zl_if ?_ ?_)
  · skip
    refine zl_tr (r_aload_n d_168_83 rfl) ?_
    refine zl_tr (r_getL (kk := 7) d_168_84 ow_168 f_12_32 la_146 (by decide) rfl) ?_
    refine zl_tr (r_lstore_n (loc' := [zm_A 146, zm_L (h 146 7), zm_U]) d_168_87 (Nat.le_of_ble_eq_true rfl) rfl) ?_
    refine zl_tr (r_aload_n d_168_88 rfl) ?_
    refine zl_tr (r_getI (kk := 8) d_168_89 ow_168 f_12_36 la_146 (by decide) rfl) ?_
    refine zl_tr (r_if_ne (tgt := 99) d_168_92 (by decide)) (zl_if ?_ ?_)
    · skip
      refine zl_tr (r_aload_n d_168_95 rfl) ?_
      refine zl_tr (r_VV [zm_A 146] d_168_96 ow_168 cal_12_274 na_159 rfl rfl (Nat.le_of_ble_eq_true rfl) (by rw [rk_159]; decide) (zr_rcv la_146 ow_159) (zr_im mx_159 rfl (Nat.le_of_ble_eq_true rfl)) rt_159) (zl_V (fun h1 => ?_))
      refine zl_tr (r_lload_n d_168_99 rfl) ?_
      exact r_lret d_168_100 rt_168
    · skip
      refine zl_tr (r_lload_n d_168_99 rfl) ?_
      exact r_lret d_168_100 rt_168
  · skip
    refine zl_tr (r_aload_n d_168_48 rfl) ?_
    refine zl_tr (r_getI (kk := 8) d_168_49 ow_168 f_12_36 la_146 (by decide) rfl) ?_
    refine zl_tr (r_if_ne (tgt := 83) d_168_52 (by decide)) (zl_if ?_ ?_)
    · skip
      refine zl_tr (r_aload_n d_168_55 rfl) ?_
      refine zl_tr (r_iload_n d_168_56 rfl) ?_
      refine zl_tr (r_aload_n d_168_57 rfl) ?_
      refine zl_tr (r_getL (kk := 7) d_168_58 ow_168 f_12_32 la_146 (by decide) rfl) ?_
      refine zl_tr (r_VI [zm_A 146, zm_I x1, zm_L (h 146 7)] d_168_61 ow_168 cal_12_373 na_170 rfl rfl (Nat.le_of_ble_eq_true rfl) (by rw [rk_170]; decide) (zr_rcv la_146 ow_170) (zr_im mx_170 rfl (Nat.le_of_ble_eq_true rfl)) (by rw [rt_170]; decide)) (zl_I (fun v2 h3 => ?_))
      refine zl_tr (r_iconst d_168_64 (by decide)) ?_
      refine zl_tr (r_icmp_eq (tgt := 77) d_168_65 (by decide)) (zl_if ?_ ?_)
      · skip
        refine zl_tr (r_iinc (loc' := [zm_A 146, zm_I (x1 + 1), w2]) d_168_77 rfl (Nat.le_of_ble_eq_true rfl) rfl) (zl_ck ?_)
        refine zl_tr (r_goto (tgt := 43) d_168_80 (by decide)) ?_
        exact zl_rf
      · skip
        refine zl_tr (r_aload_n d_168_68 rfl) ?_
        refine zl_tr (r_iconst d_168_69 (by decide)) ?_
        refine zl_tr (r_aload_n d_168_70 rfl) ?_
        refine zl_tr (r_getI (kk := 4) d_168_71 ow_168 f_12_23 la_146 (by decide) rfl) ?_
        refine zl_tr (r_VV [zm_A 146, zm_I 2, zm_I (h3 146 4)] d_168_74 ow_168 cal_12_257 na_164 rfl rfl (Nat.le_of_ble_eq_true rfl) (by rw [rk_164]; decide) (zr_rcv la_146 ow_164) (zr_im mx_164 rfl (Nat.le_of_ble_eq_true rfl)) rt_164) (zl_V (fun h4 => ?_))
        refine zl_tr (r_iinc (loc' := [zm_A 146, zm_I (x1 + 1), w2]) d_168_77 rfl (Nat.le_of_ble_eq_true rfl) rfl) (zl_ck ?_)
        refine zl_tr (r_goto (tgt := 43) d_168_80 (by decide)) ?_
        exact zl_rf
    · skip
      refine zl_tr (r_aload_n d_168_83 rfl) ?_
      refine zl_tr (r_getL (kk := 7) d_168_84 ow_168 f_12_32 la_146 (by decide) rfl) ?_
      refine zl_tr (r_lstore_n (loc' := [zm_A 146, zm_L (h 146 7), zm_U]) d_168_87 (Nat.le_of_ble_eq_true rfl) rfl) ?_
      refine zl_tr (r_aload_n d_168_88 rfl) ?_
      refine zl_tr (r_getI (kk := 8) d_168_89 ow_168 f_12_36 la_146 (by decide) rfl) ?_
      refine zl_tr (r_if_ne (tgt := 99) d_168_92 (by decide)) (zl_if ?_ ?_)
      · skip
        refine zl_tr (r_aload_n d_168_95 rfl) ?_
        refine zl_tr (r_VV [zm_A 146] d_168_96 ow_168 cal_12_274 na_159 rfl rfl (Nat.le_of_ble_eq_true rfl) (by rw [rk_159]; decide) (zr_rcv la_146 ow_159) (zr_im mx_159 rfl (Nat.le_of_ble_eq_true rfl)) rt_159) (zl_V (fun h5 => ?_))
        refine zl_tr (r_lload_n d_168_99 rfl) ?_
        exact r_lret d_168_100 rt_168
      · skip
        refine zl_tr (r_lload_n d_168_99 rfl) ?_
        exact r_lret d_168_100 rt_168
-- BranTubModel.isOwn
set_option maxRecDepth 20000 in
theorem e_169 {h : zm_H} {x1 : Int} : zl (if (if x1 < 1802071652 then -1 else if x1 = 1802071652 then 0 else 1) = 0 then (zm_ck (zm_bit 1) (some (zm_I 1, h))) else (if (if x1 < 512970880104 then -1 else if x1 = 512970880104 then 0 else 1) = 0 then (zm_ck (zm_bit 1) (some (zm_I 1, h))) else (if (if x1 < 1936292453 then -1 else if x1 = 1936292453 then 0 else 1) = 0 then (zm_ck (zm_bit 1) (some (zm_I 1, h))) else (if (if x1 < 465491813746 then -1 else if x1 = 465491813746 then 0 else 1) = 0 then (zm_ck (zm_bit 1) (some (zm_I 1, h))) else (if (if x1 < 426953501796 then -1 else if x1 = 426953501796 then 0 else 1) = 0 then (zm_ck (zm_bit 1) (some (zm_I 1, h))) else (if (if x1 < 491327153000 then -1 else if x1 = 491327153000 then 0 else 1) = 0 then (zm_ck (zm_bit 1) (some (zm_I 1, h))) else (if (if x1 < 439787809907 then -1 else if x1 = 439787809907 then 0 else 1) = 0 then (zm_ck (zm_bit 1) (some (zm_I 1, h))) else (if (if x1 < 439855772532 then -1 else if x1 = 439855772532 then 0 else 1) = 0 then (zm_ck (zm_bit 1) (some (zm_I 1, h))) else (if (if x1 < 1650815860 then -1 else if x1 = 1650815860 then 0 else 1) = 0 then (zm_ck (zm_bit 1) (some (zm_I 1, h))) else (if (if x1 < 465491355493 then -1 else if x1 = 465491355493 then 0 else 1) = 0 then (zm_ck (zm_bit 1) (some (zm_I 1, h))) else (if (if x1 < 495756340332 then -1 else if x1 = 495756340332 then 0 else 1) = 0 then (zm_ck (zm_bit 1) (some (zm_I 1, h))) else (if (if x1 < 465625113971 then -1 else if x1 = 465625113971 then 0 else 1) = 0 then (zm_ck (zm_bit 1) (some (zm_I 1, h))) else (if (if x1 < 427071599731 then -1 else if x1 = 427071599731 then 0 else 1) = 0 then (zm_ck (zm_bit 1) (some (zm_I 1, h))) else (if (if x1 < 1886745715 then -1 else if x1 = 1886745715 then 0 else 1) = 0 then (zm_ck (zm_bit 1) (some (zm_I 1, h))) else (if (if x1 < 483006772069 then -1 else if x1 = 483006772069 then 0 else 1) = 0 then (zm_ck (zm_bit 1) (some (zm_I 1, h))) else (if (if x1 < 1752135026 then -1 else if x1 = 1752135026 then 0 else 1) = 0 then (zm_ck (zm_bit 1) (some (zm_I 1, h))) else (if (if x1 < 1818584692 then -1 else if x1 = 1818584692 then 0 else 1) = 0 then (zm_ck (zm_bit 1) (some (zm_I 1, h))) else (if (if x1 < 1684631667 then -1 else if x1 = 1684631667 then 0 else 1) = 0 then (zm_ck (zm_bit 1) (some (zm_I 1, h))) else (if (if x1 < 1835360622 then -1 else if x1 = 1835360622 then 0 else 1) = 0 then (zm_ck (zm_bit 1) (some (zm_I 1, h))) else (if (if x1 < 28530 then -1 else if x1 = 28530 then 0 else 1) = 0 then (zm_ck (zm_bit 1) (some (zm_I 1, h))) else (if (if x1 < 6385252 then -1 else if x1 = 6385252 then 0 else 1) = 0 then (zm_ck (zm_bit 1) (some (zm_I 1, h))) else (if (if x1 < 7237492 then -1 else if x1 = 7237492 then 0 else 1) = 0 then (zm_ck (zm_bit 1) (some (zm_I 1, h))) else (if (if x1 < 6384748 then -1 else if x1 = 6384748 then 0 else 1) = 0 then (zm_ck (zm_bit 1) (some (zm_I 1, h))) else (if (if x1 < 7170414 then -1 else if x1 = 7170414 then 0 else 1) = 0 then (zm_ck (zm_bit 1) (some (zm_I 1, h))) else (if (if x1 < 7168376 then -1 else if x1 = 7168376 then 0 else 1) = 0 then (zm_ck (zm_bit 1) (some (zm_I 1, h))) else (zm_ck (zm_bit 0) (some (zm_I 0, h)))))))))))))))))))))))))))) (zc 169 [zm_A 146, zm_L x1] h) := by
  rw [zc_eq (loc := [zm_A 146, zm_L x1, zm_U]) (rk_169 _) rfl]
  refine zl_tr (r_lload_n d_169_0 rfl) ?_
  refine zl_tr (r_ldc2 d_169_1 ow_169 lng_12_277) ?_
  refine zl_tr (r_lcmp d_169_4) ?_
  refine zl_tr (r_if_eq (tgt := 40) d_169_5 (by decide)) (zl_if ?_ ?_)
  · skip
    refine zl_tr (r_iconst d_169_40 (by decide)) ?_
    exact r_zret d_169_41 rt_169
  · skip
    refine zl_tr (r_lload_n d_169_8 rfl) ?_
    refine zl_tr (r_ldc2 d_169_9 ow_169 lng_12_279) ?_
    refine zl_tr (r_lcmp d_169_12) ?_
    refine zl_tr (r_if_eq (tgt := 40) d_169_13 (by decide)) (zl_if ?_ ?_)
    · skip
      refine zl_tr (r_iconst d_169_40 (by decide)) ?_
      exact r_zret d_169_41 rt_169
    · skip
      refine zl_tr (r_lload_n d_169_16 rfl) ?_
      refine zl_tr (r_ldc2 d_169_17 ow_169 lng_12_281) ?_
      refine zl_tr (r_lcmp d_169_20) ?_
      refine zl_tr (r_if_eq (tgt := 40) d_169_21 (by decide)) (zl_if ?_ ?_)
      · skip
        refine zl_tr (r_iconst d_169_40 (by decide)) ?_
        exact r_zret d_169_41 rt_169
      · skip
        refine zl_tr (r_lload_n d_169_24 rfl) ?_
        refine zl_tr (r_ldc2 d_169_25 ow_169 lng_12_283) ?_
        refine zl_tr (r_lcmp d_169_28) ?_
        refine zl_tr (r_if_eq (tgt := 40) d_169_29 (by decide)) (zl_if ?_ ?_)
        · skip
          refine zl_tr (r_iconst d_169_40 (by decide)) ?_
          exact r_zret d_169_41 rt_169
        · skip
          refine zl_tr (r_lload_n d_169_32 rfl) ?_
          refine zl_tr (r_ldc2 d_169_33 ow_169 lng_12_285) ?_
          refine zl_tr (r_lcmp d_169_36) ?_
          refine zl_tr (r_if_ne (tgt := 42) d_169_37 (by decide)) (zl_if ?_ ?_)
          · skip
            refine zl_tr (r_iconst d_169_40 (by decide)) ?_
            exact r_zret d_169_41 rt_169
          · skip
            refine zl_tr (r_lload_n d_169_42 rfl) ?_
            refine zl_tr (r_ldc2 d_169_43 ow_169 lng_12_287) ?_
            refine zl_tr (r_lcmp d_169_46) ?_
            refine zl_tr (r_if_eq (tgt := 82) d_169_47 (by decide)) (zl_if ?_ ?_)
            · skip
              refine zl_tr (r_iconst d_169_82 (by decide)) ?_
              exact r_zret d_169_83 rt_169
            · skip
              refine zl_tr (r_lload_n d_169_50 rfl) ?_
              refine zl_tr (r_ldc2 d_169_51 ow_169 lng_12_289) ?_
              refine zl_tr (r_lcmp d_169_54) ?_
              refine zl_tr (r_if_eq (tgt := 82) d_169_55 (by decide)) (zl_if ?_ ?_)
              · skip
                refine zl_tr (r_iconst d_169_82 (by decide)) ?_
                exact r_zret d_169_83 rt_169
              · skip
                refine zl_tr (r_lload_n d_169_58 rfl) ?_
                refine zl_tr (r_ldc2 d_169_59 ow_169 lng_12_291) ?_
                refine zl_tr (r_lcmp d_169_62) ?_
                refine zl_tr (r_if_eq (tgt := 82) d_169_63 (by decide)) (zl_if ?_ ?_)
                · skip
                  refine zl_tr (r_iconst d_169_82 (by decide)) ?_
                  exact r_zret d_169_83 rt_169
                · skip
                  refine zl_tr (r_lload_n d_169_66 rfl) ?_
                  refine zl_tr (r_ldc2 d_169_67 ow_169 lng_12_293) ?_
                  refine zl_tr (r_lcmp d_169_70) ?_
                  refine zl_tr (r_if_eq (tgt := 82) d_169_71 (by decide)) (zl_if ?_ ?_)
                  · skip
                    refine zl_tr (r_iconst d_169_82 (by decide)) ?_
                    exact r_zret d_169_83 rt_169
                  · skip
                    refine zl_tr (r_lload_n d_169_74 rfl) ?_
                    refine zl_tr (r_ldc2 d_169_75 ow_169 lng_12_295) ?_
                    refine zl_tr (r_lcmp d_169_78) ?_
                    refine zl_tr (r_if_ne (tgt := 84) d_169_79 (by decide)) (zl_if ?_ ?_)
                    · skip
                      refine zl_tr (r_iconst d_169_82 (by decide)) ?_
                      exact r_zret d_169_83 rt_169
                    · skip
                      refine zl_tr (r_lload_n d_169_84 rfl) ?_
                      refine zl_tr (r_ldc2 d_169_85 ow_169 lng_12_297) ?_
                      refine zl_tr (r_lcmp d_169_88) ?_
                      refine zl_tr (r_if_eq (tgt := 124) d_169_89 (by decide)) (zl_if ?_ ?_)
                      · skip
                        refine zl_tr (r_iconst d_169_124 (by decide)) ?_
                        exact r_zret d_169_125 rt_169
                      · skip
                        refine zl_tr (r_lload_n d_169_92 rfl) ?_
                        refine zl_tr (r_ldc2 d_169_93 ow_169 lng_12_299) ?_
                        refine zl_tr (r_lcmp d_169_96) ?_
                        refine zl_tr (r_if_eq (tgt := 124) d_169_97 (by decide)) (zl_if ?_ ?_)
                        · skip
                          refine zl_tr (r_iconst d_169_124 (by decide)) ?_
                          exact r_zret d_169_125 rt_169
                        · skip
                          refine zl_tr (r_lload_n d_169_100 rfl) ?_
                          refine zl_tr (r_ldc2 d_169_101 ow_169 lng_12_301) ?_
                          refine zl_tr (r_lcmp d_169_104) ?_
                          refine zl_tr (r_if_eq (tgt := 124) d_169_105 (by decide)) (zl_if ?_ ?_)
                          · skip
                            refine zl_tr (r_iconst d_169_124 (by decide)) ?_
                            exact r_zret d_169_125 rt_169
                          · skip
                            refine zl_tr (r_lload_n d_169_108 rfl) ?_
                            refine zl_tr (r_ldc2 d_169_109 ow_169 lng_12_303) ?_
                            refine zl_tr (r_lcmp d_169_112) ?_
                            refine zl_tr (r_if_eq (tgt := 124) d_169_113 (by decide)) (zl_if ?_ ?_)
                            · skip
                              refine zl_tr (r_iconst d_169_124 (by decide)) ?_
                              exact r_zret d_169_125 rt_169
                            · skip
                              refine zl_tr (r_lload_n d_169_116 rfl) ?_
                              refine zl_tr (r_ldc2 d_169_117 ow_169 lng_12_305) ?_
                              refine zl_tr (r_lcmp d_169_120) ?_
                              refine zl_tr (r_if_ne (tgt := 126) d_169_121 (by decide)) (zl_if ?_ ?_)
                              · skip
                                refine zl_tr (r_iconst d_169_124 (by decide)) ?_
                                exact r_zret d_169_125 rt_169
                              · skip
                                refine zl_tr (r_lload_n d_169_126 rfl) ?_
                                refine zl_tr (r_ldc2 d_169_127 ow_169 lng_12_307) ?_
                                refine zl_tr (r_lcmp d_169_130) ?_
                                refine zl_tr (r_if_eq (tgt := 166) d_169_131 (by decide)) (zl_if ?_ ?_)
                                · skip
                                  refine zl_tr (r_iconst d_169_166 (by decide)) ?_
                                  exact r_zret d_169_167 rt_169
                                · skip
                                  refine zl_tr (r_lload_n d_169_134 rfl) ?_
                                  refine zl_tr (r_ldc2 d_169_135 ow_169 lng_12_309) ?_
                                  refine zl_tr (r_lcmp d_169_138) ?_
                                  refine zl_tr (r_if_eq (tgt := 166) d_169_139 (by decide)) (zl_if ?_ ?_)
                                  · skip
                                    refine zl_tr (r_iconst d_169_166 (by decide)) ?_
                                    exact r_zret d_169_167 rt_169
                                  · skip
                                    refine zl_tr (r_lload_n d_169_142 rfl) ?_
                                    refine zl_tr (r_ldc2 d_169_143 ow_169 lng_12_311) ?_
                                    refine zl_tr (r_lcmp d_169_146) ?_
                                    refine zl_tr (r_if_eq (tgt := 166) d_169_147 (by decide)) (zl_if ?_ ?_)
                                    · skip
                                      refine zl_tr (r_iconst d_169_166 (by decide)) ?_
                                      exact r_zret d_169_167 rt_169
                                    · skip
                                      refine zl_tr (r_lload_n d_169_150 rfl) ?_
                                      refine zl_tr (r_ldc2 d_169_151 ow_169 lng_12_313) ?_
                                      refine zl_tr (r_lcmp d_169_154) ?_
                                      refine zl_tr (r_if_eq (tgt := 166) d_169_155 (by decide)) (zl_if ?_ ?_)
                                      · skip
                                        refine zl_tr (r_iconst d_169_166 (by decide)) ?_
                                        exact r_zret d_169_167 rt_169
                                      · skip
                                        refine zl_tr (r_lload_n d_169_158 rfl) ?_
                                        refine zl_tr (r_ldc2 d_169_159 ow_169 lng_12_315) ?_
                                        refine zl_tr (r_lcmp d_169_162) ?_
                                        refine zl_tr (r_if_ne (tgt := 168) d_169_163 (by decide)) (zl_if ?_ ?_)
                                        · skip
                                          refine zl_tr (r_iconst d_169_166 (by decide)) ?_
                                          exact r_zret d_169_167 rt_169
                                        · skip
                                          refine zl_tr (r_lload_n d_169_168 rfl) ?_
                                          refine zl_tr (r_ldc2 d_169_169 ow_169 lng_12_317) ?_
                                          refine zl_tr (r_lcmp d_169_172) ?_
                                          refine zl_tr (r_if_eq (tgt := 208) d_169_173 (by decide)) (zl_if ?_ ?_)
                                          · skip
                                            refine zl_tr (r_iconst d_169_208 (by decide)) ?_
                                            exact r_zret d_169_209 rt_169
                                          · skip
                                            refine zl_tr (r_lload_n d_169_176 rfl) ?_
                                            refine zl_tr (r_ldc2 d_169_177 ow_169 lng_12_319) ?_
                                            refine zl_tr (r_lcmp d_169_180) ?_
                                            refine zl_tr (r_if_eq (tgt := 208) d_169_181 (by decide)) (zl_if ?_ ?_)
                                            · skip
                                              refine zl_tr (r_iconst d_169_208 (by decide)) ?_
                                              exact r_zret d_169_209 rt_169
                                            · skip
                                              refine zl_tr (r_lload_n d_169_184 rfl) ?_
                                              refine zl_tr (r_ldc2 d_169_185 ow_169 lng_12_321) ?_
                                              refine zl_tr (r_lcmp d_169_188) ?_
                                              refine zl_tr (r_if_eq (tgt := 208) d_169_189 (by decide)) (zl_if ?_ ?_)
                                              · skip
                                                refine zl_tr (r_iconst d_169_208 (by decide)) ?_
                                                exact r_zret d_169_209 rt_169
                                              · skip
                                                refine zl_tr (r_lload_n d_169_192 rfl) ?_
                                                refine zl_tr (r_ldc2 d_169_193 ow_169 lng_12_323) ?_
                                                refine zl_tr (r_lcmp d_169_196) ?_
                                                refine zl_tr (r_if_eq (tgt := 208) d_169_197 (by decide)) (zl_if ?_ ?_)
                                                · skip
                                                  refine zl_tr (r_iconst d_169_208 (by decide)) ?_
                                                  exact r_zret d_169_209 rt_169
                                                · skip
                                                  refine zl_tr (r_lload_n d_169_200 rfl) ?_
                                                  refine zl_tr (r_ldc2 d_169_201 ow_169 lng_12_325) ?_
                                                  refine zl_tr (r_lcmp d_169_204) ?_
                                                  refine zl_tr (r_if_ne (tgt := 210) d_169_205 (by decide)) (zl_if ?_ ?_)
                                                  · skip
                                                    refine zl_tr (r_iconst d_169_208 (by decide)) ?_
                                                    exact r_zret d_169_209 rt_169
                                                  · skip
                                                    refine zl_tr (r_iconst d_169_210 (by decide)) ?_
                                                    exact r_zret d_169_211 rt_169
-- BranTubModel.named
set_option maxRecDepth 20000 in
theorem e_170 {h : zm_H} {x1 : Int} {x2 : Int} : zl (zr none 2 170 3 [zm_A 146, zm_I x1, zm_L x2, zm_U, zm_I 0] [] h) (zc 170 [zm_A 146, zm_I x1, zm_L x2] h) := by
  rw [zc_eq (loc := [zm_A 146, zm_I x1, zm_L x2, zm_U, zm_U]) (rk_170 _) rfl]
  refine zl_tr (r_iconst d_170_0 (by decide)) ?_
  refine zl_tr (r_istore (loc' := [zm_A 146, zm_I x1, zm_L x2, zm_U, zm_I 0]) d_170_1 (Nat.le_of_ble_eq_true rfl) rfl) ?_
  exact zl_rf
-- BranTubModel.named, from 3
set_option maxRecDepth 20000 in
theorem e_170_3 {h : zm_H} {x1 : Int} {x2 : Int} {x4 : Int} : zl (zk_I (zc 171 [zm_A 146, zm_I (h 146 34), zm_I x1] h) (fun v1 h2 => if x4 < v1 then (zk_L (zc 172 [zm_A 146, zm_I (h2 146 34), zm_I x1, zm_I x4] h2) (fun v3 h4 => if (if v3 < x2 then -1 else if v3 = x2 then 0 else 1) = 0 then (some (zm_I x4, h4)) else (zm_ck (zm_i32 (x4 + 1)) (zr none 2 170 3 [zm_A 146, zm_I x1, zm_L x2, zm_U, zm_I (x4 + 1)] [] h4)))) else (some (zm_I (-1), h2)))) (zr none 2 170 3 [zm_A 146, zm_I x1, zm_L x2, zm_U, zm_I x4] [] h) := by
  refine zl_tr (r_iload d_170_3 rfl) ?_
  refine zl_tr (r_aload_n d_170_5 rfl) ?_
  refine zl_tr (r_aload_n d_170_6 rfl) ?_
  refine zl_tr (r_getI (kk := 34) d_170_7 ow_170 f_12_115 la_146 (by decide) rfl) ?_
  refine zl_tr (r_iload_n d_170_10 rfl) ?_
  refine zl_tr (r_VI [zm_A 146, zm_I (h 146 34), zm_I x1] d_170_11 ow_170 cal_12_327 na_171 rfl rfl (Nat.le_of_ble_eq_true rfl) (by rw [rk_171]; decide) (zr_rcv la_146 ow_171) (zr_im mx_171 rfl (Nat.le_of_ble_eq_true rfl)) (by rw [rt_171]; decide)) (zl_I (fun v1 h2 => ?_))
  refine zl_tr (r_icmp_ge (tgt := 42) d_170_14 (by decide)) (zl_if ?_ ?_)
  · skip
    refine zl_tr (r_aload_n d_170_17 rfl) ?_
    refine zl_tr (r_aload_n d_170_18 rfl) ?_
    refine zl_tr (r_getI (kk := 34) d_170_19 ow_170 f_12_115 la_146 (by decide) rfl) ?_
    refine zl_tr (r_iload_n d_170_22 rfl) ?_
    refine zl_tr (r_iload d_170_23 rfl) ?_
    refine zl_tr (r_VL [zm_A 146, zm_I (h2 146 34), zm_I x1, zm_I x4] d_170_25 ow_170 cal_12_331 na_172 rfl rfl (Nat.le_of_ble_eq_true rfl) (by rw [rk_172]; decide) (zr_rcv la_146 ow_172) (zr_im mx_172 rfl (Nat.le_of_ble_eq_true rfl)) rt_172) (zl_L (fun v3 h4 => ?_))
    refine zl_tr (r_lload_n d_170_28 rfl) ?_
    refine zl_tr (r_lcmp d_170_29) ?_
    refine zl_tr (r_if_ne (tgt := 36) d_170_30 (by decide)) (zl_if ?_ ?_)
    · skip
      refine zl_tr (r_iload d_170_33 rfl) ?_
      exact r_iret d_170_35 rt_170
    · skip
      refine zl_tr (r_iinc (loc' := [zm_A 146, zm_I x1, zm_L x2, zm_U, zm_I (x4 + 1)]) d_170_36 rfl (Nat.le_of_ble_eq_true rfl) rfl) (zl_ck ?_)
      refine zl_tr (r_goto (tgt := 3) d_170_39 (by decide)) ?_
      exact zl_rf
  · skip
    refine zl_tr (r_iconst d_170_42 (by decide)) ?_
    exact r_iret d_170_43 rt_170
-- BranTubModel.manyOf
set_option maxRecDepth 20000 in
theorem e_171 {h : zm_H} {x1 : Int} {x2 : Int} : zl (if x2 = 0 then (zm_ck (0 ≤ x1 ∧ x1 < ((2 : Nat) : Int)) (some (zm_I (h 148 x1), h))) else (zm_ck (0 ≤ x1 ∧ x1 < ((2 : Nat) : Int)) (some (zm_I (h 153 x1), h)))) (zc 171 [zm_A 146, zm_I x1, zm_I x2] h) := by
  rw [zc_eq (loc := [zm_A 146, zm_I x1, zm_I x2]) (rk_171 _) rfl]
  refine zl_tr (r_iload_n d_171_0 rfl) ?_
  refine zl_tr (r_if_ne (tgt := 13) d_171_1 (by decide)) (zl_if ?_ ?_)
  · skip
    refine zl_tr (r_aload_n d_171_4 rfl) ?_
    refine zl_tr (r_getR d_171_5 ow_171 f_12_54 la_146 (by decide) fr_146_14) ?_
    refine zl_tr (r_iload_n d_171_8 rfl) ?_
    refine zl_tr (r_iaload d_171_9 la_148) (zl_ck ?_)
    refine zl_tr (r_goto (tgt := 19) d_171_10 (by decide)) ?_
    exact r_iret d_171_19 rt_171
  · skip
    refine zl_tr (r_aload_n d_171_13 rfl) ?_
    refine zl_tr (r_getR d_171_14 ow_171 f_12_69 la_146 (by decide) fr_146_19) ?_
    refine zl_tr (r_iload_n d_171_17 rfl) ?_
    refine zl_tr (r_iaload d_171_18 la_153) (zl_ck ?_)
    exact r_iret d_171_19 rt_171
-- BranTubModel.nameOf
set_option maxRecDepth 20000 in
theorem e_172 {h : zm_H} {x1 : Int} {x2 : Int} {x3 : Int} : zl (if x2 = 0 then (zm_ck (zm_i32 (8 * x1)) (zm_ck (zm_i32 ((8 * x1) + x3)) (zm_ck (0 ≤ ((8 * x1) + x3) ∧ ((8 * x1) + x3) < ((16 : Nat) : Int)) (some (zm_L (h 165 ((8 * x1) + x3)), h))))) else (zm_ck (zm_i32 (8 * x1)) (zm_ck (zm_i32 ((8 * x1) + x3)) (zm_ck (0 ≤ ((8 * x1) + x3) ∧ ((8 * x1) + x3) < ((16 : Nat) : Int)) (some (zm_L (h 166 ((8 * x1) + x3)), h)))))) (zc 172 [zm_A 146, zm_I x1, zm_I x2, zm_I x3] h) := by
  rw [zc_eq (loc := [zm_A 146, zm_I x1, zm_I x2, zm_I x3]) (rk_172 _) rfl]
  refine zl_tr (r_iload_n d_172_0 rfl) ?_
  refine zl_tr (r_if_ne (tgt := 18) d_172_1 (by decide)) (zl_if ?_ ?_)
  · skip
    refine zl_tr (r_aload_n d_172_4 rfl) ?_
    refine zl_tr (r_getR d_172_5 ow_172 f_12_105 la_146 (by decide) fr_146_31) ?_
    refine zl_tr (r_bipush d_172_8 (by decide)) ?_
    refine zl_tr (r_iload_n d_172_10 rfl) ?_
    refine zl_tr (r_imul d_172_11) (zl_ck ?_)
    refine zl_tr (r_iload_n d_172_12 rfl) ?_
    refine zl_tr (r_iadd d_172_13) (zl_ck ?_)
    refine zl_tr (r_laload d_172_14 la_165) (zl_ck ?_)
    refine zl_tr (r_goto (tgt := 29) d_172_15 (by decide)) ?_
    exact r_lret d_172_29 rt_172
  · skip
    refine zl_tr (r_aload_n d_172_18 rfl) ?_
    refine zl_tr (r_getR d_172_19 ow_172 f_12_109 la_146 (by decide) fr_146_32) ?_
    refine zl_tr (r_bipush d_172_22 (by decide)) ?_
    refine zl_tr (r_iload_n d_172_24 rfl) ?_
    refine zl_tr (r_imul d_172_25) (zl_ck ?_)
    refine zl_tr (r_iload_n d_172_26 rfl) ?_
    refine zl_tr (r_iadd d_172_27) (zl_ck ?_)
    refine zl_tr (r_laload d_172_28 la_166) (zl_ck ?_)
    exact r_lret d_172_29 rt_172
-- BranTubModel.must
set_option maxRecDepth 20000 in
theorem e_173 {h : zm_H} {x1 : Int} : zl (zk_V (zc 163 [zm_A 146] h) (fun h1 => if (h1 146 8) ≤ 0 then (zk_I (zc 165 [zm_A 146, zm_L x1] h1) (fun v2 h3 => if v2 = 0 then (zk_V (zc 164 [zm_A 146, zm_I 1, zm_I (h3 146 4)] h3) (fun h4 => if (h4 146 8) = 0 then (zk_V (zc 159 [zm_A 146] h4) (fun h5 => some (zm_U, h5))) else (some (zm_U, h4)))) else (if (h3 146 8) = 0 then (zk_V (zc 159 [zm_A 146] h3) (fun h6 => some (zm_U, h6))) else (some (zm_U, h3))))) else (some (zm_U, h1)))) (zc 173 [zm_A 146, zm_L x1] h) := by
  rw [zc_eq (loc := [zm_A 146, zm_L x1, zm_U]) (rk_173 _) rfl]
  refine zl_tr (r_aload_n d_173_0 rfl) ?_
  refine zl_tr (r_VV [zm_A 146] d_173_1 ow_173 cal_12_268 na_163 rfl rfl (Nat.le_of_ble_eq_true rfl) (by rw [rk_163]; decide) (zr_rcv la_146 ow_163) (zr_im mx_163 rfl (Nat.le_of_ble_eq_true rfl)) rt_163) (zl_V (fun h1 => ?_))
  refine zl_tr (r_aload_n d_173_4 rfl) ?_
  refine zl_tr (r_getI (kk := 8) d_173_5 ow_173 f_12_36 la_146 (by decide) rfl) ?_
  refine zl_tr (r_if_le (tgt := 12) d_173_8 (by decide)) (zl_if ?_ ?_)
  · skip
    refine zl_tr (r_aload_n d_173_12 rfl) ?_
    refine zl_tr (r_lload_n d_173_13 rfl) ?_
    refine zl_tr (r_VI [zm_A 146, zm_L x1] d_173_14 ow_173 cal_12_351 na_165 rfl rfl (Nat.le_of_ble_eq_true rfl) (by rw [rk_165]; decide) (zr_rcv la_146 ow_165) (zr_im mx_165 rfl (Nat.le_of_ble_eq_true rfl)) (by rw [rt_165]; decide)) (zl_I (fun v2 h3 => ?_))
    refine zl_tr (r_if_ne (tgt := 29) d_173_17 (by decide)) (zl_if ?_ ?_)
    · skip
      refine zl_tr (r_aload_n d_173_20 rfl) ?_
      refine zl_tr (r_iconst d_173_21 (by decide)) ?_
      refine zl_tr (r_aload_n d_173_22 rfl) ?_
      refine zl_tr (r_getI (kk := 4) d_173_23 ow_173 f_12_23 la_146 (by decide) rfl) ?_
      refine zl_tr (r_VV [zm_A 146, zm_I 1, zm_I (h3 146 4)] d_173_26 ow_173 cal_12_257 na_164 rfl rfl (Nat.le_of_ble_eq_true rfl) (by rw [rk_164]; decide) (zr_rcv la_146 ow_164) (zr_im mx_164 rfl (Nat.le_of_ble_eq_true rfl)) rt_164) (zl_V (fun h4 => ?_))
      refine zl_tr (r_aload_n d_173_29 rfl) ?_
      refine zl_tr (r_getI (kk := 8) d_173_30 ow_173 f_12_36 la_146 (by decide) rfl) ?_
      refine zl_tr (r_if_ne (tgt := 40) d_173_33 (by decide)) (zl_if ?_ ?_)
      · skip
        refine zl_tr (r_aload_n d_173_36 rfl) ?_
        refine zl_tr (r_VV [zm_A 146] d_173_37 ow_173 cal_12_274 na_159 rfl rfl (Nat.le_of_ble_eq_true rfl) (by rw [rk_159]; decide) (zr_rcv la_146 ow_159) (zr_im mx_159 rfl (Nat.le_of_ble_eq_true rfl)) rt_159) (zl_V (fun h5 => ?_))
        exact r_vret d_173_40 rt_173
      · skip
        exact r_vret d_173_40 rt_173
    · skip
      refine zl_tr (r_aload_n d_173_29 rfl) ?_
      refine zl_tr (r_getI (kk := 8) d_173_30 ow_173 f_12_36 la_146 (by decide) rfl) ?_
      refine zl_tr (r_if_ne (tgt := 40) d_173_33 (by decide)) (zl_if ?_ ?_)
      · skip
        refine zl_tr (r_aload_n d_173_36 rfl) ?_
        refine zl_tr (r_VV [zm_A 146] d_173_37 ow_173 cal_12_274 na_159 rfl rfl (Nat.le_of_ble_eq_true rfl) (by rw [rk_159]; decide) (zr_rcv la_146 ow_159) (zr_im mx_159 rfl (Nat.le_of_ble_eq_true rfl)) rt_159) (zl_V (fun h6 => ?_))
        exact r_vret d_173_40 rt_173
      · skip
        exact r_vret d_173_40 rt_173
  · skip
    exact r_vret d_173_11 rt_173
-- BranTubModel.number
set_option maxRecDepth 20000 in
theorem e_174 {h : zm_H} {x1 : Int} {x2 : Int} : zl (zk_V (zc 163 [zm_A 146] h) (fun h1 => if (h1 146 8) ≤ 0 then (if (h1 146 3) = 2 then (zr none 3 174 30 [zm_A 146, zm_I x1, zm_I x2, zm_U] [] h1) else (zk_V (zc 164 [zm_A 146, zm_I 1, zm_I (h1 146 4)] h1) (fun h2 => zr none 3 174 30 [zm_A 146, zm_I x1, zm_I x2, zm_U] [] h2))) else (some (zm_I 0, h1)))) (zc 174 [zm_A 146, zm_I x1, zm_I x2] h) := by
  rw [zc_eq (loc := [zm_A 146, zm_I x1, zm_I x2, zm_U]) (rk_174 _) rfl]
  refine zl_tr (r_aload_n d_174_0 rfl) ?_
  refine zl_tr (r_VV [zm_A 146] d_174_1 ow_174 cal_12_268 na_163 rfl rfl (Nat.le_of_ble_eq_true rfl) (by rw [rk_163]; decide) (zr_rcv la_146 ow_163) (zr_im mx_163 rfl (Nat.le_of_ble_eq_true rfl)) rt_163) (zl_V (fun h1 => ?_))
  refine zl_tr (r_aload_n d_174_4 rfl) ?_
  refine zl_tr (r_getI (kk := 8) d_174_5 ow_174 f_12_36 la_146 (by decide) rfl) ?_
  refine zl_tr (r_if_le (tgt := 13) d_174_8 (by decide)) (zl_if ?_ ?_)
  · skip
    refine zl_tr (r_aload_n d_174_13 rfl) ?_
    refine zl_tr (r_getI (kk := 3) d_174_14 ow_174 f_12_20 la_146 (by decide) rfl) ?_
    refine zl_tr (r_iconst d_174_17 (by decide)) ?_
    refine zl_tr (r_icmp_eq (tgt := 30) d_174_18 (by decide)) (zl_if ?_ ?_)
    · skip
      exact zl_rf
    · skip
      refine zl_tr (r_aload_n d_174_21 rfl) ?_
      refine zl_tr (r_iconst d_174_22 (by decide)) ?_
      refine zl_tr (r_aload_n d_174_23 rfl) ?_
      refine zl_tr (r_getI (kk := 4) d_174_24 ow_174 f_12_23 la_146 (by decide) rfl) ?_
      refine zl_tr (r_VV [zm_A 146, zm_I 1, zm_I (h1 146 4)] d_174_27 ow_174 cal_12_257 na_164 rfl rfl (Nat.le_of_ble_eq_true rfl) (by rw [rk_164]; decide) (zr_rcv la_146 ow_164) (zr_im mx_164 rfl (Nat.le_of_ble_eq_true rfl)) rt_164) (zl_V (fun h2 => ?_))
      exact zl_rf
  · skip
    refine zl_tr (r_iconst d_174_11 (by decide)) ?_
    exact r_iret d_174_12 rt_174
-- BranTubModel.number, from 30
set_option maxRecDepth 20000 in
theorem e_174_30 {h : zm_H} {x1 : Int} {x2 : Int} {w3 : zm_V} : zl (if (h 146 8) = 0 then (zk_I (zc 175 [zm_I (h 146 6), zm_I x1, zm_I x2] h) (fun v1 h2 => if v1 = 0 then (zk_V (zc 164 [zm_A 146, zm_I 4, zm_I (h2 146 4)] h2) (fun h3 => if (h3 146 8) = 0 then (zk_V (zc 159 [zm_A 146] h3) (fun h4 => some (zm_I (h3 146 6), h4))) else (some (zm_I (h3 146 6), h3)))) else (if (h2 146 8) = 0 then (zk_V (zc 159 [zm_A 146] h2) (fun h5 => some (zm_I (h2 146 6), h5))) else (some (zm_I (h2 146 6), h2))))) else (if (h 146 8) = 0 then (zk_V (zc 159 [zm_A 146] h) (fun h6 => some (zm_I (h 146 6), h6))) else (some (zm_I (h 146 6), h)))) (zr none 3 174 30 [zm_A 146, zm_I x1, zm_I x2, w3] [] h) := by
  refine zl_tr (r_aload_n d_174_30 rfl) ?_
  refine zl_tr (r_getI (kk := 8) d_174_31 ow_174 f_12_36 la_146 (by decide) rfl) ?_
  refine zl_tr (r_if_ne (tgt := 58) d_174_34 (by decide)) (zl_if ?_ ?_)
  · skip
    refine zl_tr (r_aload_n d_174_37 rfl) ?_
    refine zl_tr (r_getI (kk := 6) d_174_38 ow_174 f_12_29 la_146 (by decide) rfl) ?_
    refine zl_tr (r_iload_n d_174_41 rfl) ?_
    refine zl_tr (r_iload_n d_174_42 rfl) ?_
    refine zl_tr (r_SI [zm_I (h 146 6), zm_I x1, zm_I x2] d_174_43 ow_174 cal_12_335 (by decide) na_175 rfl rfl (Nat.le_of_ble_eq_true rfl) (by rw [rk_175]; decide) (zr_im mx_175 rfl (Nat.le_of_ble_eq_true rfl)) (by rw [rt_175]; decide)) (zl_I (fun v1 h2 => ?_))
    refine zl_tr (r_if_ne (tgt := 58) d_174_46 (by decide)) (zl_if ?_ ?_)
    · skip
      refine zl_tr (r_aload_n d_174_49 rfl) ?_
      refine zl_tr (r_iconst d_174_50 (by decide)) ?_
      refine zl_tr (r_aload_n d_174_51 rfl) ?_
      refine zl_tr (r_getI (kk := 4) d_174_52 ow_174 f_12_23 la_146 (by decide) rfl) ?_
      refine zl_tr (r_VV [zm_A 146, zm_I 4, zm_I (h2 146 4)] d_174_55 ow_174 cal_12_257 na_164 rfl rfl (Nat.le_of_ble_eq_true rfl) (by rw [rk_164]; decide) (zr_rcv la_146 ow_164) (zr_im mx_164 rfl (Nat.le_of_ble_eq_true rfl)) rt_164) (zl_V (fun h3 => ?_))
      refine zl_tr (r_aload_n d_174_58 rfl) ?_
      refine zl_tr (r_getI (kk := 6) d_174_59 ow_174 f_12_29 la_146 (by decide) rfl) ?_
      refine zl_tr (r_istore_n (loc' := [zm_A 146, zm_I x1, zm_I x2, zm_I (h3 146 6)]) d_174_62 (Nat.le_of_ble_eq_true rfl) rfl) ?_
      refine zl_tr (r_aload_n d_174_63 rfl) ?_
      refine zl_tr (r_getI (kk := 8) d_174_64 ow_174 f_12_36 la_146 (by decide) rfl) ?_
      refine zl_tr (r_if_ne (tgt := 74) d_174_67 (by decide)) (zl_if ?_ ?_)
      · skip
        refine zl_tr (r_aload_n d_174_70 rfl) ?_
        refine zl_tr (r_VV [zm_A 146] d_174_71 ow_174 cal_12_274 na_159 rfl rfl (Nat.le_of_ble_eq_true rfl) (by rw [rk_159]; decide) (zr_rcv la_146 ow_159) (zr_im mx_159 rfl (Nat.le_of_ble_eq_true rfl)) rt_159) (zl_V (fun h4 => ?_))
        refine zl_tr (r_iload_n d_174_74 rfl) ?_
        exact r_iret d_174_75 rt_174
      · skip
        refine zl_tr (r_iload_n d_174_74 rfl) ?_
        exact r_iret d_174_75 rt_174
    · skip
      refine zl_tr (r_aload_n d_174_58 rfl) ?_
      refine zl_tr (r_getI (kk := 6) d_174_59 ow_174 f_12_29 la_146 (by decide) rfl) ?_
      refine zl_tr (r_istore_n (loc' := [zm_A 146, zm_I x1, zm_I x2, zm_I (h2 146 6)]) d_174_62 (Nat.le_of_ble_eq_true rfl) rfl) ?_
      refine zl_tr (r_aload_n d_174_63 rfl) ?_
      refine zl_tr (r_getI (kk := 8) d_174_64 ow_174 f_12_36 la_146 (by decide) rfl) ?_
      refine zl_tr (r_if_ne (tgt := 74) d_174_67 (by decide)) (zl_if ?_ ?_)
      · skip
        refine zl_tr (r_aload_n d_174_70 rfl) ?_
        refine zl_tr (r_VV [zm_A 146] d_174_71 ow_174 cal_12_274 na_159 rfl rfl (Nat.le_of_ble_eq_true rfl) (by rw [rk_159]; decide) (zr_rcv la_146 ow_159) (zr_im mx_159 rfl (Nat.le_of_ble_eq_true rfl)) rt_159) (zl_V (fun h5 => ?_))
        refine zl_tr (r_iload_n d_174_74 rfl) ?_
        exact r_iret d_174_75 rt_174
      · skip
        refine zl_tr (r_iload_n d_174_74 rfl) ?_
        exact r_iret d_174_75 rt_174
  · skip
    refine zl_tr (r_aload_n d_174_58 rfl) ?_
    refine zl_tr (r_getI (kk := 6) d_174_59 ow_174 f_12_29 la_146 (by decide) rfl) ?_
    refine zl_tr (r_istore_n (loc' := [zm_A 146, zm_I x1, zm_I x2, zm_I (h 146 6)]) d_174_62 (Nat.le_of_ble_eq_true rfl) rfl) ?_
    refine zl_tr (r_aload_n d_174_63 rfl) ?_
    refine zl_tr (r_getI (kk := 8) d_174_64 ow_174 f_12_36 la_146 (by decide) rfl) ?_
    refine zl_tr (r_if_ne (tgt := 74) d_174_67 (by decide)) (zl_if ?_ ?_)
    · skip
      refine zl_tr (r_aload_n d_174_70 rfl) ?_
      refine zl_tr (r_VV [zm_A 146] d_174_71 ow_174 cal_12_274 na_159 rfl rfl (Nat.le_of_ble_eq_true rfl) (by rw [rk_159]; decide) (zr_rcv la_146 ow_159) (zr_im mx_159 rfl (Nat.le_of_ble_eq_true rfl)) rt_159) (zl_V (fun h6 => ?_))
      refine zl_tr (r_iload_n d_174_74 rfl) ?_
      exact r_iret d_174_75 rt_174
    · skip
      refine zl_tr (r_iload_n d_174_74 rfl) ?_
      exact r_iret d_174_75 rt_174
-- BranTubModel.is
set_option maxRecDepth 20000 in
theorem e_175 {h : zm_H} {x1 : Int} {x2 : Int} {x3 : Int} : zl (if x1 < x2 then (zm_ck (zm_bit 0) (some (zm_I 0, h))) else (if x3 < x1 then (zm_ck (zm_bit 0) (some (zm_I 0, h))) else (zm_ck (zm_bit 1) (some (zm_I 1, h))))) (zc 175 [zm_I x1, zm_I x2, zm_I x3] h) := by
  rw [zc_eq (loc := [zm_I x1, zm_I x2, zm_I x3]) (rk_175 _) rfl]
  refine zl_tr (r_iload_n d_175_0 rfl) ?_
  refine zl_tr (r_iload_n d_175_1 rfl) ?_
  refine zl_tr (r_icmp_lt (tgt := 14) d_175_2 (by decide)) (zl_if ?_ ?_)
  · skip
    refine zl_tr (r_iconst d_175_14 (by decide)) ?_
    exact r_zret d_175_15 rt_175
  · skip
    refine zl_tr (r_iload_n d_175_5 rfl) ?_
    refine zl_tr (r_iload_n d_175_6 rfl) ?_
    refine zl_tr (r_icmp_gt (tgt := 14) d_175_7 (by decide)) (zl_if ?_ ?_)
    · skip
      refine zl_tr (r_iconst d_175_14 (by decide)) ?_
      exact r_zret d_175_15 rt_175
    · skip
      refine zl_tr (r_iconst d_175_10 (by decide)) ?_
      refine zl_tr (r_goto (tgt := 15) d_175_11 (by decide)) ?_
      exact r_zret d_175_15 rt_175
-- BranTubModel.layering
set_option maxRecDepth 20000 in
theorem e_176 {h : zm_H}  : zl (zm_ck (0 ≤ (h 146 34) ∧ (h 146 34) < ((2 : Nat) : Int)) (if (h 151 (h 146 34)) = 5 then (zk_I (zc 167 [zm_A 146, zm_I 1] h) (fun v1 h2 => if v1 = 0 then (some (zm_U, h2)) else (zm_ck (zm_i32 (5 * (h2 146 34))) (zm_ck (0 ≤ (h2 146 34) ∧ (h2 146 34) < ((2 : Nat) : Int)) (zm_ck (zm_i32 ((5 * (h2 146 34)) + (h2 151 (h2 146 34)))) (zm_ck (zm_i32 (8 * ((5 * (h2 146 34)) + (h2 151 (h2 146 34))))) (zr none 4 176 48 [zm_A 146, zm_I (8 * ((5 * (h2 146 34)) + (h2 151 (h2 146 34)))), zm_I 0, zm_U, zm_U] [] h2))))))) else (zk_I (zc 167 [zm_A 146, zm_I 0] h) (fun v3 h4 => if v3 = 0 then (some (zm_U, h4)) else (zm_ck (zm_i32 (5 * (h4 146 34))) (zm_ck (0 ≤ (h4 146 34) ∧ (h4 146 34) < ((2 : Nat) : Int)) (zm_ck (zm_i32 ((5 * (h4 146 34)) + (h4 151 (h4 146 34)))) (zm_ck (zm_i32 (8 * ((5 * (h4 146 34)) + (h4 151 (h4 146 34))))) (zr none 4 176 48 [zm_A 146, zm_I (8 * ((5 * (h4 146 34)) + (h4 151 (h4 146 34)))), zm_I 0, zm_U, zm_U] [] h4))))))))) (zc 176 [zm_A 146] h) := by
  rw [zc_eq (loc := [zm_A 146, zm_U, zm_U, zm_U, zm_U]) (rk_176 _) rfl]
  refine zl_tr (r_aload_n d_176_0 rfl) ?_
  refine zl_tr (r_aload_n d_176_1 rfl) ?_
  refine zl_tr (r_getR d_176_2 ow_176 f_12_63 la_146 (by decide) fr_146_17) ?_
  refine zl_tr (r_aload_n d_176_5 rfl) ?_
  refine zl_tr (r_getI (kk := 34) d_176_6 ow_176 f_12_115 la_146 (by decide) rfl) ?_
  refine zl_tr (r_iaload d_176_9 la_151) (zl_ck ?_)
  refine zl_tr (r_iconst d_176_10 (by decide)) ?_
  refine zl_tr (r_icmp_ne (tgt := 18) d_176_11 (by decide)) (zl_if ?_ ?_)
  · skip
    refine zl_tr (r_iconst d_176_14 (by decide)) ?_
    refine zl_tr (r_goto (tgt := 19) d_176_15 (by decide)) ?_
    refine zl_tr (r_VI [zm_A 146, zm_I 1] d_176_19 ow_176 cal_12_380 na_167 rfl rfl (Nat.le_of_ble_eq_true rfl) (by rw [rk_167]; decide) (zr_rcv la_146 ow_167) (zr_im mx_167 rfl (Nat.le_of_ble_eq_true rfl)) (by rw [rt_167]; decide)) (zl_I (fun v1 h2 => ?_))
    refine zl_tr (r_if_ne (tgt := 26) d_176_22 (by decide)) (zl_if ?_ ?_)
    · skip
      exact r_vret d_176_25 rt_176
    · skip
      refine zl_tr (r_bipush d_176_26 (by decide)) ?_
      refine zl_tr (r_iconst d_176_28 (by decide)) ?_
      refine zl_tr (r_aload_n d_176_29 rfl) ?_
      refine zl_tr (r_getI (kk := 34) d_176_30 ow_176 f_12_115 la_146 (by decide) rfl) ?_
      refine zl_tr (r_imul d_176_33) (zl_ck ?_)
      refine zl_tr (r_aload_n d_176_34 rfl) ?_
      refine zl_tr (r_getR d_176_35 ow_176 f_12_63 la_146 (by decide) fr_146_17) ?_
      refine zl_tr (r_aload_n d_176_38 rfl) ?_
      refine zl_tr (r_getI (kk := 34) d_176_39 ow_176 f_12_115 la_146 (by decide) rfl) ?_
      refine zl_tr (r_iaload d_176_42 la_151) (zl_ck ?_)
      refine zl_tr (r_iadd d_176_43) (zl_ck ?_)
      refine zl_tr (r_imul d_176_44) (zl_ck ?_)
      refine zl_tr (r_istore_n (loc' := [zm_A 146, zm_I (8 * ((5 * (h2 146 34)) + (h2 151 (h2 146 34)))), zm_U, zm_U, zm_U]) d_176_45 (Nat.le_of_ble_eq_true rfl) rfl) ?_
      refine zl_tr (r_iconst d_176_46 (by decide)) ?_
      refine zl_tr (r_istore_n (loc' := [zm_A 146, zm_I (8 * ((5 * (h2 146 34)) + (h2 151 (h2 146 34)))), zm_I 0, zm_U, zm_U]) d_176_47 (Nat.le_of_ble_eq_true rfl) rfl) ?_
      exact zl_rf
  · skip
    refine zl_tr (r_iconst d_176_18 (by decide)) ?_
    refine zl_tr (r_VI [zm_A 146, zm_I 0] d_176_19 ow_176 cal_12_380 na_167 rfl rfl (Nat.le_of_ble_eq_true rfl) (by rw [rk_167]; decide) (zr_rcv la_146 ow_167) (zr_im mx_167 rfl (Nat.le_of_ble_eq_true rfl)) (by rw [rt_167]; decide)) (zl_I (fun v3 h4 => ?_))
    refine zl_tr (r_if_ne (tgt := 26) d_176_22 (by decide)) (zl_if ?_ ?_)
    · skip
      exact r_vret d_176_25 rt_176
    · skip
      refine zl_tr (r_bipush d_176_26 (by decide)) ?_
      refine zl_tr (r_iconst d_176_28 (by decide)) ?_
      refine zl_tr (r_aload_n d_176_29 rfl) ?_
      refine zl_tr (r_getI (kk := 34) d_176_30 ow_176 f_12_115 la_146 (by decide) rfl) ?_
      refine zl_tr (r_imul d_176_33) (zl_ck ?_)
      refine zl_tr (r_aload_n d_176_34 rfl) ?_
      refine zl_tr (r_getR d_176_35 ow_176 f_12_63 la_146 (by decide) fr_146_17) ?_
      refine zl_tr (r_aload_n d_176_38 rfl) ?_
      refine zl_tr (r_getI (kk := 34) d_176_39 ow_176 f_12_115 la_146 (by decide) rfl) ?_
      refine zl_tr (r_iaload d_176_42 la_151) (zl_ck ?_)
      refine zl_tr (r_iadd d_176_43) (zl_ck ?_)
      refine zl_tr (r_imul d_176_44) (zl_ck ?_)
      refine zl_tr (r_istore_n (loc' := [zm_A 146, zm_I (8 * ((5 * (h4 146 34)) + (h4 151 (h4 146 34)))), zm_U, zm_U, zm_U]) d_176_45 (Nat.le_of_ble_eq_true rfl) rfl) ?_
      refine zl_tr (r_iconst d_176_46 (by decide)) ?_
      refine zl_tr (r_istore_n (loc' := [zm_A 146, zm_I (8 * ((5 * (h4 146 34)) + (h4 151 (h4 146 34)))), zm_I 0, zm_U, zm_U]) d_176_47 (Nat.le_of_ble_eq_true rfl) rfl) ?_
      exact zl_rf
-- BranTubModel.layering, from 48
set_option maxRecDepth 20000 in
theorem e_176_48 {h : zm_H} {x1 : Int} {x2 : Int} {w3 : zm_V} {w4 : zm_V} : zl (if x2 < 8 then (zm_ck (zm_i32 (x1 + x2)) (zm_ck (0 ≤ (x1 + x2) ∧ (x1 + x2) < ((80 : Nat) : Int)) (zm_ck (zm_i32 (x2 + 1)) (zr none 4 176 48 [zm_A 146, zm_I x1, zm_I (x2 + 1), w3, w4] [] (zm_wr h 152 (x1 + x2) 0))))) else (zr none 4 176 71 [zm_A 146, zm_I x1, zm_I 1, w3, w4] [] h)) (zr none 4 176 48 [zm_A 146, zm_I x1, zm_I x2, w3, w4] [] h) := by
  refine zl_tr (r_iload_n d_176_48 rfl) ?_
  refine zl_tr (r_bipush d_176_49 (by decide)) ?_
  refine zl_tr (r_icmp_ge (tgt := 69) d_176_51 (by decide)) (zl_if ?_ ?_)
  · skip
    refine zl_tr (r_aload_n d_176_54 rfl) ?_
    refine zl_tr (r_getR d_176_55 ow_176 f_12_66 la_146 (by decide) fr_146_18) ?_
    refine zl_tr (r_iload_n d_176_58 rfl) ?_
    refine zl_tr (r_iload_n d_176_59 rfl) ?_
    refine zl_tr (r_iadd d_176_60) (zl_ck ?_)
    refine zl_tr (r_iconst d_176_61 (by decide)) ?_
    refine zl_tr (r_iastore d_176_62 la_152) (zl_ck ?_)
    refine zl_tr (r_iinc (loc' := [zm_A 146, zm_I x1, zm_I (x2 + 1), w3, w4]) d_176_63 rfl (Nat.le_of_ble_eq_true rfl) rfl) (zl_ck ?_)
    refine zl_tr (r_goto (tgt := 48) d_176_66 (by decide)) ?_
    exact zl_rf
  · skip
    refine zl_tr (r_iconst d_176_69 (by decide)) ?_
    refine zl_tr (r_istore_n (loc' := [zm_A 146, zm_I x1, zm_I 1, w3, w4]) d_176_70 (Nat.le_of_ble_eq_true rfl) rfl) ?_
    exact zl_rf
-- BranTubModel.layering, from 71
set_option maxRecDepth 20000 in
theorem e_176_71 {h : zm_H} {x1 : Int} {x2 : Int} {w3 : zm_V} {w4 : zm_V} : zl (if x2 = 0 then (if (h 146 8) = 0 then (zm_ck (0 ≤ (h 146 34) ∧ (h 146 34) < ((2 : Nat) : Int)) (zm_ck (zm_i32 ((h 151 (h 146 34)) + 1)) (zm_ck (0 ≤ (h 146 34) ∧ (h 146 34) < ((2 : Nat) : Int)) (some (zm_U, (zm_wr h 151 (h 146 34) ((h 151 (h 146 34)) + 1))))))) else (some (zm_U, h))) else (zk_I (zc 177 [zm_A 146, zm_I 0] h) (fun v1 h2 => if (h2 146 8) = 0 then (zm_ck (zm_i32 (x1 + v1)) (zm_ck (0 ≤ (x1 + v1) ∧ (x1 + v1) < ((80 : Nat) : Int)) (if (h2 152 (x1 + v1)) ≤ 0 then (zr none 4 176 108 [zm_A 146, zm_I x1, zm_I x2, zm_I v1, w4] [] h2) else (zk_V (zc 164 [zm_A 146, zm_I 3, zm_I (h2 146 4)] h2) (fun h3 => zr none 4 176 108 [zm_A 146, zm_I x1, zm_I x2, zm_I v1, w4] [] h3))))) else (zr none 4 176 108 [zm_A 146, zm_I x1, zm_I x2, zm_I v1, w4] [] h2)))) (zr none 4 176 71 [zm_A 146, zm_I x1, zm_I x2, w3, w4] [] h) := by
  refine zl_tr (r_iload_n d_176_71 rfl) ?_
  refine zl_tr (r_if_eq (tgt := 184) d_176_72 (by decide)) (zl_if ?_ ?_)
  · skip
    refine zl_tr (r_aload_n d_176_184 rfl) ?_
    refine zl_tr (r_getI (kk := 8) d_176_185 ow_176 f_12_36 la_146 (by decide) rfl) ?_
    refine zl_tr (r_if_ne (tgt := 204) d_176_188 (by decide)) (zl_if ?_ ?_)
    · skip
      refine zl_tr (r_aload_n d_176_191 rfl) ?_
      refine zl_tr (r_getR d_176_192 ow_176 f_12_63 la_146 (by decide) fr_146_17) ?_
      refine zl_tr (r_aload_n d_176_195 rfl) ?_
      refine zl_tr (r_getI (kk := 34) d_176_196 ow_176 f_12_115 la_146 (by decide) rfl) ?_
      refine zl_tr (r_dup2 d_176_199 ⟨rfl, rfl⟩) ?_
      refine zl_tr (r_iaload d_176_200 la_151) (zl_ck ?_)
      refine zl_tr (r_iconst d_176_201 (by decide)) ?_
      refine zl_tr (r_iadd d_176_202) (zl_ck ?_)
      refine zl_tr (r_iastore d_176_203 la_151) (zl_ck ?_)
      exact r_vret d_176_204 rt_176
    · skip
      exact r_vret d_176_204 rt_176
  · skip
    refine zl_tr (r_aload_n d_176_75 rfl) ?_
    refine zl_tr (r_iconst d_176_76 (by decide)) ?_
    refine zl_tr (r_VI [zm_A 146, zm_I 0] d_176_77 ow_176 cal_12_377 na_177 rfl rfl (Nat.le_of_ble_eq_true rfl) (by rw [rk_177]; decide) (zr_rcv la_146 ow_177) (zr_im mx_177 rfl (Nat.le_of_ble_eq_true rfl)) (by rw [rt_177]; decide)) (zl_I (fun v1 h2 => ?_))
    refine zl_tr (r_istore_n (loc' := [zm_A 146, zm_I x1, zm_I x2, zm_I v1, w4]) d_176_80 (Nat.le_of_ble_eq_true rfl) rfl) ?_
    refine zl_tr (r_aload_n d_176_81 rfl) ?_
    refine zl_tr (r_getI (kk := 8) d_176_82 ow_176 f_12_36 la_146 (by decide) rfl) ?_
    refine zl_tr (r_if_ne (tgt := 108) d_176_85 (by decide)) (zl_if ?_ ?_)
    · skip
      refine zl_tr (r_aload_n d_176_88 rfl) ?_
      refine zl_tr (r_getR d_176_89 ow_176 f_12_66 la_146 (by decide) fr_146_18) ?_
      refine zl_tr (r_iload_n d_176_92 rfl) ?_
      refine zl_tr (r_iload_n d_176_93 rfl) ?_
      refine zl_tr (r_iadd d_176_94) (zl_ck ?_)
      refine zl_tr (r_iaload d_176_95 la_152) (zl_ck ?_)
      refine zl_tr (r_if_le (tgt := 108) d_176_96 (by decide)) (zl_if ?_ ?_)
      · skip
        exact zl_rf
      · skip
        refine zl_tr (r_aload_n d_176_99 rfl) ?_
        refine zl_tr (r_iconst d_176_100 (by decide)) ?_
        refine zl_tr (r_aload_n d_176_101 rfl) ?_
        refine zl_tr (r_getI (kk := 4) d_176_102 ow_176 f_12_23 la_146 (by decide) rfl) ?_
        refine zl_tr (r_VV [zm_A 146, zm_I 3, zm_I (h2 146 4)] d_176_105 ow_176 cal_12_257 na_164 rfl rfl (Nat.le_of_ble_eq_true rfl) (by rw [rk_164]; decide) (zr_rcv la_146 ow_164) (zr_im mx_164 rfl (Nat.le_of_ble_eq_true rfl)) rt_164) (zl_V (fun h3 => ?_))
        exact zl_rf
    · skip
      exact zl_rf
-- BranTubModel.layering, from 108
set_option maxRecDepth 20000 in
theorem e_176_108 {h : zm_H} {x1 : Int} {w2 : zm_V} {x3 : Int} {w4 : zm_V} : zl (if (h 146 8) = 0 then (zk_V (zc 159 [zm_A 146] h) (fun h1 => zr none 4 176 119 [zm_A 146, zm_I x1, w2, zm_I x3, w4] [] h1)) else (zr none 4 176 119 [zm_A 146, zm_I x1, w2, zm_I x3, w4] [] h)) (zr none 4 176 108 [zm_A 146, zm_I x1, w2, zm_I x3, w4] [] h) := by
  refine zl_tr (r_aload_n d_176_108 rfl) ?_
  refine zl_tr (r_getI (kk := 8) d_176_109 ow_176 f_12_36 la_146 (by decide) rfl) ?_
  refine zl_tr (r_if_ne (tgt := 119) d_176_112 (by decide)) (zl_if ?_ ?_)
  · skip
    refine zl_tr (r_aload_n d_176_115 rfl) ?_
    refine zl_tr (r_VV [zm_A 146] d_176_116 ow_176 cal_12_274 na_159 rfl rfl (Nat.le_of_ble_eq_true rfl) (by rw [rk_159]; decide) (zr_rcv la_146 ow_159) (zr_im mx_159 rfl (Nat.le_of_ble_eq_true rfl)) rt_159) (zl_V (fun h1 => ?_))
    exact zl_rf
  · skip
    exact zl_rf
-- BranTubModel.layering, from 119
set_option maxRecDepth 20000 in
theorem e_176_119 {h : zm_H} {x1 : Int} {w2 : zm_V} {x3 : Int} {w4 : zm_V} : zl (zk_I (zc 174 [zm_A 146, zm_I 1, zm_I 30] h) (fun v1 h2 => if (h2 146 8) = 0 then (zm_ck (zm_i32 (x1 + x3)) (zm_ck (0 ≤ (x1 + x3) ∧ (x1 + x3) < ((80 : Nat) : Int)) (zr none 4 176 145 [zm_A 146, zm_I x1, w2, zm_I x3, zm_I v1] [] (zm_wr h2 152 (x1 + x3) v1)))) else (zr none 4 176 145 [zm_A 146, zm_I x1, w2, zm_I x3, zm_I v1] [] h2))) (zr none 4 176 119 [zm_A 146, zm_I x1, w2, zm_I x3, w4] [] h) := by
  refine zl_tr (r_aload_n d_176_119 rfl) ?_
  refine zl_tr (r_iconst d_176_120 (by decide)) ?_
  refine zl_tr (r_bipush d_176_121 (by decide)) ?_
  refine zl_tr (r_VI [zm_A 146, zm_I 1, zm_I 30] d_176_123 ow_176 cal_12_392 na_174 rfl rfl (Nat.le_of_ble_eq_true rfl) (by rw [rk_174]; decide) (zr_rcv la_146 ow_174) (zr_im mx_174 rfl (Nat.le_of_ble_eq_true rfl)) (by rw [rt_174]; decide)) (zl_I (fun v1 h2 => ?_))
  refine zl_tr (r_istore (loc' := [zm_A 146, zm_I x1, w2, zm_I x3, zm_I v1]) d_176_126 (Nat.le_of_ble_eq_true rfl) rfl) ?_
  refine zl_tr (r_aload_n d_176_128 rfl) ?_
  refine zl_tr (r_getI (kk := 8) d_176_129 ow_176 f_12_36 la_146 (by decide) rfl) ?_
  refine zl_tr (r_if_ne (tgt := 145) d_176_132 (by decide)) (zl_if ?_ ?_)
  · skip
    refine zl_tr (r_aload_n d_176_135 rfl) ?_
    refine zl_tr (r_getR d_176_136 ow_176 f_12_66 la_146 (by decide) fr_146_18) ?_
    refine zl_tr (r_iload_n d_176_139 rfl) ?_
    refine zl_tr (r_iload_n d_176_140 rfl) ?_
    refine zl_tr (r_iadd d_176_141) (zl_ck ?_)
    refine zl_tr (r_iload d_176_142 rfl) ?_
    refine zl_tr (r_iastore d_176_144 la_152) (zl_ck ?_)
    exact zl_rf
  · skip
    exact zl_rf
-- BranTubModel.layering, from 145
set_option maxRecDepth 20000 in
theorem e_176_145 {h : zm_H} {x1 : Int} {w2 : zm_V} {w3 : zm_V} {w4 : zm_V} : zl (zk_V (zc 163 [zm_A 146] h) (fun h1 => if (h1 146 8) = 0 then (if (h1 146 3) = 1 then (zk_I (zc 169 [zm_A 146, zm_L (h1 146 7)] h1) (fun v2 h3 => if v2 = 0 then (zr none 4 176 71 [zm_A 146, zm_I x1, zm_I 1, w3, w4] [] h3) else (zr none 4 176 71 [zm_A 146, zm_I x1, zm_I 0, w3, w4] [] h3))) else (zr none 4 176 71 [zm_A 146, zm_I x1, zm_I 0, w3, w4] [] h1)) else (zr none 4 176 71 [zm_A 146, zm_I x1, zm_I 0, w3, w4] [] h1))) (zr none 4 176 145 [zm_A 146, zm_I x1, w2, w3, w4] [] h) := by
  refine zl_tr (r_aload_n d_176_145 rfl) ?_
  refine zl_tr (r_VV [zm_A 146] d_176_146 ow_176 cal_12_268 na_163 rfl rfl (Nat.le_of_ble_eq_true rfl) (by rw [rk_163]; decide) (zr_rcv la_146 ow_163) (zr_im mx_163 rfl (Nat.le_of_ble_eq_true rfl)) rt_163) (zl_V (fun h1 => ?_))
  refine zl_tr (r_aload_n d_176_149 rfl) ?_
  refine zl_tr (r_getI (kk := 8) d_176_150 ow_176 f_12_36 la_146 (by decide) rfl) ?_
  refine zl_tr (r_if_ne (tgt := 179) d_176_153 (by decide)) (zl_if ?_ ?_)
  · skip
    refine zl_tr (r_aload_n d_176_156 rfl) ?_
    refine zl_tr (r_getI (kk := 3) d_176_157 ow_176 f_12_20 la_146 (by decide) rfl) ?_
    refine zl_tr (r_iconst d_176_160 (by decide)) ?_
    refine zl_tr (r_icmp_ne (tgt := 179) d_176_161 (by decide)) (zl_if ?_ ?_)
    · skip
      refine zl_tr (r_aload_n d_176_164 rfl) ?_
      refine zl_tr (r_aload_n d_176_165 rfl) ?_
      refine zl_tr (r_getL (kk := 7) d_176_166 ow_176 f_12_32 la_146 (by decide) rfl) ?_
      refine zl_tr (r_VI [zm_A 146, zm_L (h1 146 7)] d_176_169 ow_176 cal_12_370 na_169 rfl rfl (Nat.le_of_ble_eq_true rfl) (by rw [rk_169]; decide) (zr_rcv la_146 ow_169) (zr_im mx_169 rfl (Nat.le_of_ble_eq_true rfl)) (by rw [rt_169]; decide)) (zl_I (fun v2 h3 => ?_))
      refine zl_tr (r_if_ne (tgt := 179) d_176_172 (by decide)) (zl_if ?_ ?_)
      · skip
        refine zl_tr (r_iconst d_176_175 (by decide)) ?_
        refine zl_tr (r_goto (tgt := 180) d_176_176 (by decide)) ?_
        refine zl_tr (r_istore_n (loc' := [zm_A 146, zm_I x1, zm_I 1, w3, w4]) d_176_180 (Nat.le_of_ble_eq_true rfl) rfl) ?_
        refine zl_tr (r_goto (tgt := 71) d_176_181 (by decide)) ?_
        exact zl_rf
      · skip
        refine zl_tr (r_iconst d_176_179 (by decide)) ?_
        refine zl_tr (r_istore_n (loc' := [zm_A 146, zm_I x1, zm_I 0, w3, w4]) d_176_180 (Nat.le_of_ble_eq_true rfl) rfl) ?_
        refine zl_tr (r_goto (tgt := 71) d_176_181 (by decide)) ?_
        exact zl_rf
    · skip
      refine zl_tr (r_iconst d_176_179 (by decide)) ?_
      refine zl_tr (r_istore_n (loc' := [zm_A 146, zm_I x1, zm_I 0, w3, w4]) d_176_180 (Nat.le_of_ble_eq_true rfl) rfl) ?_
      refine zl_tr (r_goto (tgt := 71) d_176_181 (by decide)) ?_
      exact zl_rf
  · skip
    refine zl_tr (r_iconst d_176_179 (by decide)) ?_
    refine zl_tr (r_istore_n (loc' := [zm_A 146, zm_I x1, zm_I 0, w3, w4]) d_176_180 (Nat.le_of_ble_eq_true rfl) rfl) ?_
    refine zl_tr (r_goto (tgt := 71) d_176_181 (by decide)) ?_
    exact zl_rf
-- BranTubModel.looked
set_option maxRecDepth 20000 in
theorem e_177 {h : zm_H} {x1 : Int} : zl (zk_V (zc 163 [zm_A 146] h) (fun h1 => if (h1 146 8) ≤ 0 then (if (h1 146 3) = 1 then (zk_I (zc 169 [zm_A 146, zm_L (h1 146 7)] h1) (fun v2 h3 => if v2 = 0 then (zr none 3 177 41 [zm_A 146, zm_I x1, zm_U] [] h3) else (zr none 3 177 32 [zm_A 146, zm_I x1, zm_U] [] h3))) else (zr none 3 177 32 [zm_A 146, zm_I x1, zm_U] [] h1)) else (some (zm_I 0, h1)))) (zc 177 [zm_A 146, zm_I x1] h) := by
  rw [zc_eq (loc := [zm_A 146, zm_I x1, zm_U]) (rk_177 _) rfl]
  refine zl_tr (r_aload_n d_177_0 rfl) ?_
  refine zl_tr (r_VV [zm_A 146] d_177_1 ow_177 cal_12_268 na_163 rfl rfl (Nat.le_of_ble_eq_true rfl) (by rw [rk_163]; decide) (zr_rcv la_146 ow_163) (zr_im mx_163 rfl (Nat.le_of_ble_eq_true rfl)) rt_163) (zl_V (fun h1 => ?_))
  refine zl_tr (r_aload_n d_177_4 rfl) ?_
  refine zl_tr (r_getI (kk := 8) d_177_5 ow_177 f_12_36 la_146 (by decide) rfl) ?_
  refine zl_tr (r_if_le (tgt := 13) d_177_8 (by decide)) (zl_if ?_ ?_)
  · skip
    refine zl_tr (r_aload_n d_177_13 rfl) ?_
    refine zl_tr (r_getI (kk := 3) d_177_14 ow_177 f_12_20 la_146 (by decide) rfl) ?_
    refine zl_tr (r_iconst d_177_17 (by decide)) ?_
    refine zl_tr (r_icmp_ne (tgt := 32) d_177_18 (by decide)) (zl_if ?_ ?_)
    · skip
      refine zl_tr (r_aload_n d_177_21 rfl) ?_
      refine zl_tr (r_aload_n d_177_22 rfl) ?_
      refine zl_tr (r_getL (kk := 7) d_177_23 ow_177 f_12_32 la_146 (by decide) rfl) ?_
      refine zl_tr (r_VI [zm_A 146, zm_L (h1 146 7)] d_177_26 ow_177 cal_12_370 na_169 rfl rfl (Nat.le_of_ble_eq_true rfl) (by rw [rk_169]; decide) (zr_rcv la_146 ow_169) (zr_im mx_169 rfl (Nat.le_of_ble_eq_true rfl)) (by rw [rt_169]; decide)) (zl_I (fun v2 h3 => ?_))
      refine zl_tr (r_if_eq (tgt := 41) d_177_29 (by decide)) (zl_if ?_ ?_)
      · skip
        exact zl_rf
      · skip
        exact zl_rf
    · skip
      exact zl_rf
  · skip
    refine zl_tr (r_iconst d_177_11 (by decide)) ?_
    exact r_iret d_177_12 rt_177
-- BranTubModel.looked, from 41
set_option maxRecDepth 20000 in
theorem e_177_41 {h : zm_H} {x1 : Int} {w2 : zm_V} : zl (if (h 146 8) ≤ 0 then (zk_I (zc 170 [zm_A 146, zm_I x1, zm_L (h 146 7)] h) (fun v1 h2 => if (h2 146 8) = 0 then (if v1 = (-1) then (zk_V (zc 164 [zm_A 146, zm_I 3, zm_I (h2 146 4)] h2) (fun h3 => if (h3 146 8) ≤ 0 then (some (zm_I v1, h3)) else (some (zm_I 0, h3)))) else (if (h2 146 8) ≤ 0 then (some (zm_I v1, h2)) else (some (zm_I 0, h2)))) else (if (h2 146 8) ≤ 0 then (some (zm_I v1, h2)) else (some (zm_I 0, h2))))) else (if (h 146 8) = 0 then (if (0 : Int) = (-1) then (zk_V (zc 164 [zm_A 146, zm_I 3, zm_I (h 146 4)] h) (fun h4 => if (h4 146 8) ≤ 0 then (some (zm_I 0, h4)) else (some (zm_I 0, h4)))) else (if (h 146 8) ≤ 0 then (some (zm_I 0, h)) else (some (zm_I 0, h)))) else (if (h 146 8) ≤ 0 then (some (zm_I 0, h)) else (some (zm_I 0, h))))) (zr none 3 177 41 [zm_A 146, zm_I x1, w2] [] h) := by
  refine zl_tr (r_aload_n d_177_41 rfl) ?_
  refine zl_tr (r_getI (kk := 8) d_177_42 ow_177 f_12_36 la_146 (by decide) rfl) ?_
  refine zl_tr (r_if_le (tgt := 52) d_177_45 (by decide)) (zl_if ?_ ?_)
  · skip
    refine zl_tr (r_aload_n d_177_52 rfl) ?_
    refine zl_tr (r_iload_n d_177_53 rfl) ?_
    refine zl_tr (r_aload_n d_177_54 rfl) ?_
    refine zl_tr (r_getL (kk := 7) d_177_55 ow_177 f_12_32 la_146 (by decide) rfl) ?_
    refine zl_tr (r_VI [zm_A 146, zm_I x1, zm_L (h 146 7)] d_177_58 ow_177 cal_12_373 na_170 rfl rfl (Nat.le_of_ble_eq_true rfl) (by rw [rk_170]; decide) (zr_rcv la_146 ow_170) (zr_im mx_170 rfl (Nat.le_of_ble_eq_true rfl)) (by rw [rt_170]; decide)) (zl_I (fun v1 h2 => ?_))
    refine zl_tr (r_istore_n (loc' := [zm_A 146, zm_I x1, zm_I v1]) d_177_61 (Nat.le_of_ble_eq_true rfl) rfl) ?_
    refine zl_tr (r_aload_n d_177_62 rfl) ?_
    refine zl_tr (r_getI (kk := 8) d_177_63 ow_177 f_12_36 la_146 (by decide) rfl) ?_
    refine zl_tr (r_if_ne (tgt := 83) d_177_66 (by decide)) (zl_if ?_ ?_)
    · skip
      refine zl_tr (r_iload_n d_177_69 rfl) ?_
      refine zl_tr (r_iconst d_177_70 (by decide)) ?_
      refine zl_tr (r_icmp_ne (tgt := 83) d_177_71 (by decide)) (zl_if ?_ ?_)
      · skip
        refine zl_tr (r_aload_n d_177_74 rfl) ?_
        refine zl_tr (r_iconst d_177_75 (by decide)) ?_
        refine zl_tr (r_aload_n d_177_76 rfl) ?_
        refine zl_tr (r_getI (kk := 4) d_177_77 ow_177 f_12_23 la_146 (by decide) rfl) ?_
        refine zl_tr (r_VV [zm_A 146, zm_I 3, zm_I (h2 146 4)] d_177_80 ow_177 cal_12_257 na_164 rfl rfl (Nat.le_of_ble_eq_true rfl) (by rw [rk_164]; decide) (zr_rcv la_146 ow_164) (zr_im mx_164 rfl (Nat.le_of_ble_eq_true rfl)) rt_164) (zl_V (fun h3 => ?_))
        refine zl_tr (r_aload_n d_177_83 rfl) ?_
        refine zl_tr (r_getI (kk := 8) d_177_84 ow_177 f_12_36 la_146 (by decide) rfl) ?_
        refine zl_tr (r_if_le (tgt := 94) d_177_87 (by decide)) (zl_if ?_ ?_)
        · skip
          refine zl_tr (r_iload_n d_177_94 rfl) ?_
          exact r_iret d_177_95 rt_177
        · skip
          refine zl_tr (r_iconst d_177_90 (by decide)) ?_
          refine zl_tr (r_goto (tgt := 95) d_177_91 (by decide)) ?_
          exact r_iret d_177_95 rt_177
      · skip
        refine zl_tr (r_aload_n d_177_83 rfl) ?_
        refine zl_tr (r_getI (kk := 8) d_177_84 ow_177 f_12_36 la_146 (by decide) rfl) ?_
        refine zl_tr (r_if_le (tgt := 94) d_177_87 (by decide)) (zl_if ?_ ?_)
        · skip
          refine zl_tr (r_iload_n d_177_94 rfl) ?_
          exact r_iret d_177_95 rt_177
        · skip
          refine zl_tr (r_iconst d_177_90 (by decide)) ?_
          refine zl_tr (r_goto (tgt := 95) d_177_91 (by decide)) ?_
          exact r_iret d_177_95 rt_177
    · skip
      refine zl_tr (r_aload_n d_177_83 rfl) ?_
      refine zl_tr (r_getI (kk := 8) d_177_84 ow_177 f_12_36 la_146 (by decide) rfl) ?_
      refine zl_tr (r_if_le (tgt := 94) d_177_87 (by decide)) (zl_if ?_ ?_)
      · skip
        refine zl_tr (r_iload_n d_177_94 rfl) ?_
        exact r_iret d_177_95 rt_177
      · skip
        refine zl_tr (r_iconst d_177_90 (by decide)) ?_
        refine zl_tr (r_goto (tgt := 95) d_177_91 (by decide)) ?_
        exact r_iret d_177_95 rt_177
  · skip
    refine zl_tr (r_iconst d_177_48 (by decide)) ?_
    refine zl_tr (r_goto (tgt := 61) d_177_49 (by decide)) ?_
    refine zl_tr (r_istore_n (loc' := [zm_A 146, zm_I x1, zm_I 0]) d_177_61 (Nat.le_of_ble_eq_true rfl) rfl) ?_
    refine zl_tr (r_aload_n d_177_62 rfl) ?_
    refine zl_tr (r_getI (kk := 8) d_177_63 ow_177 f_12_36 la_146 (by decide) rfl) ?_
    refine zl_tr (r_if_ne (tgt := 83) d_177_66 (by decide)) (zl_if ?_ ?_)
    · skip
      refine zl_tr (r_iload_n d_177_69 rfl) ?_
      refine zl_tr (r_iconst d_177_70 (by decide)) ?_
      refine zl_tr (r_icmp_ne (tgt := 83) d_177_71 (by decide)) (zl_if ?_ ?_)
      · skip
        refine zl_tr (r_aload_n d_177_74 rfl) ?_
        refine zl_tr (r_iconst d_177_75 (by decide)) ?_
        refine zl_tr (r_aload_n d_177_76 rfl) ?_
        refine zl_tr (r_getI (kk := 4) d_177_77 ow_177 f_12_23 la_146 (by decide) rfl) ?_
        refine zl_tr (r_VV [zm_A 146, zm_I 3, zm_I (h 146 4)] d_177_80 ow_177 cal_12_257 na_164 rfl rfl (Nat.le_of_ble_eq_true rfl) (by rw [rk_164]; decide) (zr_rcv la_146 ow_164) (zr_im mx_164 rfl (Nat.le_of_ble_eq_true rfl)) rt_164) (zl_V (fun h4 => ?_))
        refine zl_tr (r_aload_n d_177_83 rfl) ?_
        refine zl_tr (r_getI (kk := 8) d_177_84 ow_177 f_12_36 la_146 (by decide) rfl) ?_
        refine zl_tr (r_if_le (tgt := 94) d_177_87 (by decide)) (zl_if ?_ ?_)
        · skip
          refine zl_tr (r_iload_n d_177_94 rfl) ?_
          exact r_iret d_177_95 rt_177
        · skip
          refine zl_tr (r_iconst d_177_90 (by decide)) ?_
          refine zl_tr (r_goto (tgt := 95) d_177_91 (by decide)) ?_
          exact r_iret d_177_95 rt_177
      · skip
        refine zl_tr (r_aload_n d_177_83 rfl) ?_
        refine zl_tr (r_getI (kk := 8) d_177_84 ow_177 f_12_36 la_146 (by decide) rfl) ?_
        refine zl_tr (r_if_le (tgt := 94) d_177_87 (by decide)) (zl_if ?_ ?_)
        · skip
          refine zl_tr (r_iload_n d_177_94 rfl) ?_
          exact r_iret d_177_95 rt_177
        · skip
          refine zl_tr (r_iconst d_177_90 (by decide)) ?_
          refine zl_tr (r_goto (tgt := 95) d_177_91 (by decide)) ?_
          exact r_iret d_177_95 rt_177
    · skip
      refine zl_tr (r_aload_n d_177_83 rfl) ?_
      refine zl_tr (r_getI (kk := 8) d_177_84 ow_177 f_12_36 la_146 (by decide) rfl) ?_
      refine zl_tr (r_if_le (tgt := 94) d_177_87 (by decide)) (zl_if ?_ ?_)
      · skip
        refine zl_tr (r_iload_n d_177_94 rfl) ?_
        exact r_iret d_177_95 rt_177
      · skip
        refine zl_tr (r_iconst d_177_90 (by decide)) ?_
        refine zl_tr (r_goto (tgt := 95) d_177_91 (by decide)) ?_
        exact r_iret d_177_95 rt_177
-- BranTubModel.looked, from 32
set_option maxRecDepth 20000 in
theorem e_177_32 {h : zm_H} {x1 : Int} {w2 : zm_V} : zl (zk_V (zc 164 [zm_A 146, zm_I 1, zm_I (h 146 4)] h) (fun h1 => zr none 3 177 41 [zm_A 146, zm_I x1, w2] [] h1)) (zr none 3 177 32 [zm_A 146, zm_I x1, w2] [] h) := by
  refine zl_tr (r_aload_n d_177_32 rfl) ?_
  refine zl_tr (r_iconst d_177_33 (by decide)) ?_
  refine zl_tr (r_aload_n d_177_34 rfl) ?_
  refine zl_tr (r_getI (kk := 4) d_177_35 ow_177 f_12_23 la_146 (by decide) rfl) ?_
  refine zl_tr (r_VV [zm_A 146, zm_I 1, zm_I (h 146 4)] d_177_38 ow_177 cal_12_257 na_164 rfl rfl (Nat.le_of_ble_eq_true rfl) (by rw [rk_164]; decide) (zr_rcv la_146 ow_164) (zr_im mx_164 rfl (Nat.le_of_ble_eq_true rfl)) rt_164) (zl_V (fun h1 => ?_))
  exact zl_rf
-- BranTubModel.childing
set_option maxRecDepth 20000 in
theorem e_178 {h : zm_H}  : zl (zm_ck (0 ≤ (h 146 34) ∧ (h 146 34) < ((2 : Nat) : Int)) (if (h 153 (h 146 34)) = 8 then (zk_I (zc 167 [zm_A 146, zm_I 1] h) (fun v1 h2 => if v1 = 0 then (some (zm_U, h2)) else (zm_ck (zm_i32 (8 * (h2 146 34))) (zm_ck (0 ≤ (h2 146 34) ∧ (h2 146 34) < ((2 : Nat) : Int)) (zm_ck (zm_i32 ((8 * (h2 146 34)) + (h2 153 (h2 146 34)))) (zk_L (zc 168 [zm_A 146] h2) (fun v3 h4 => zm_ck (0 ≤ ((8 * (h2 146 34)) + (h2 153 (h2 146 34))) ∧ ((8 * (h2 146 34)) + (h2 153 (h2 146 34))) < ((16 : Nat) : Int)) (zk_V (zc 173 [zm_A 146, zm_L 491327153000] (zm_wr h4 166 ((8 * (h2 146 34)) + (h2 153 (h2 146 34))) v3)) (fun h5 => zk_I (zc 174 [zm_A 146, zm_I 1, zm_I 5] h5) (fun v6 h7 => zm_ck (0 ≤ ((8 * (h2 146 34)) + (h2 153 (h2 146 34))) ∧ ((8 * (h2 146 34)) + (h2 153 (h2 146 34))) < ((16 : Nat) : Int)) (zk_V (zc 173 [zm_A 146, zm_L 439787809907] (zm_wr h7 154 ((8 * (h2 146 34)) + (h2 153 (h2 146 34))) v6)) (fun h8 => zk_I (zc 174 [zm_A 146, zm_I 0, zm_I 3] h8) (fun v9 h10 => zm_ck (0 ≤ ((8 * (h2 146 34)) + (h2 153 (h2 146 34))) ∧ ((8 * (h2 146 34)) + (h2 153 (h2 146 34))) < ((16 : Nat) : Int)) (zk_V (zc 163 [zm_A 146] (zm_wr h10 155 ((8 * (h2 146 34)) + (h2 153 (h2 146 34))) v9)) (fun h11 => if (h11 146 8) ≤ 0 then (zk_I (zc 165 [zm_A 146, zm_L 439855772532] h11) (fun v12 h13 => if v12 = 0 then (zk_I (zc 165 [zm_A 146, zm_L 1650815860] h13) (fun v14 h15 => if v14 = 0 then (zk_I (zc 165 [zm_A 146, zm_L 465491355493] h15) (fun v16 h17 => if v16 = 0 then (zk_I (zc 165 [zm_A 146, zm_L 495756340332] h17) (fun v18 h19 => if v18 = 0 then (zm_ck (0 ≤ ((8 * (h2 146 34)) + (h2 153 (h2 146 34))) ∧ ((8 * (h2 146 34)) + (h2 153 (h2 146 34))) < ((16 : Nat) : Int)) (zm_ck (0 ≤ ((8 * (h2 146 34)) + (h2 153 (h2 146 34))) ∧ ((8 * (h2 146 34)) + (h2 153 (h2 146 34))) < ((16 : Nat) : Int)) (if ((zm_wr h19 156 ((8 * (h2 146 34)) + (h2 153 (h2 146 34))) (-1)) 156 ((8 * (h2 146 34)) + (h2 153 (h2 146 34)))) = (-1) then (zk_V (zc 164 [zm_A 146, zm_I 1, zm_I ((zm_wr h19 156 ((8 * (h2 146 34)) + (h2 153 (h2 146 34))) (-1)) 146 4)] (zm_wr h19 156 ((8 * (h2 146 34)) + (h2 153 (h2 146 34))) (-1))) (fun h20 => if (h20 146 8) ≤ 0 then (zk_V (zc 159 [zm_A 146] h20) (fun h21 => zr none 4 178 201 [zm_A 146, zm_I ((8 * (h2 146 34)) + (h2 153 (h2 146 34))), zm_I 0] [] h21)) else (some (zm_U, h20)))) else (if ((zm_wr h19 156 ((8 * (h2 146 34)) + (h2 153 (h2 146 34))) (-1)) 146 8) ≤ 0 then (zk_V (zc 159 [zm_A 146] (zm_wr h19 156 ((8 * (h2 146 34)) + (h2 153 (h2 146 34))) (-1))) (fun h22 => zr none 4 178 201 [zm_A 146, zm_I ((8 * (h2 146 34)) + (h2 153 (h2 146 34))), zm_I 0] [] h22)) else (some (zm_U, (zm_wr h19 156 ((8 * (h2 146 34)) + (h2 153 (h2 146 34))) (-1)))))))) else (zm_ck (0 ≤ ((8 * (h2 146 34)) + (h2 153 (h2 146 34))) ∧ ((8 * (h2 146 34)) + (h2 153 (h2 146 34))) < ((16 : Nat) : Int)) (zm_ck (0 ≤ ((8 * (h2 146 34)) + (h2 153 (h2 146 34))) ∧ ((8 * (h2 146 34)) + (h2 153 (h2 146 34))) < ((16 : Nat) : Int)) (if ((zm_wr h19 156 ((8 * (h2 146 34)) + (h2 153 (h2 146 34))) 3) 156 ((8 * (h2 146 34)) + (h2 153 (h2 146 34)))) = (-1) then (zk_V (zc 164 [zm_A 146, zm_I 1, zm_I ((zm_wr h19 156 ((8 * (h2 146 34)) + (h2 153 (h2 146 34))) 3) 146 4)] (zm_wr h19 156 ((8 * (h2 146 34)) + (h2 153 (h2 146 34))) 3)) (fun h23 => if (h23 146 8) ≤ 0 then (zk_V (zc 159 [zm_A 146] h23) (fun h24 => zr none 4 178 201 [zm_A 146, zm_I ((8 * (h2 146 34)) + (h2 153 (h2 146 34))), zm_I 0] [] h24)) else (some (zm_U, h23)))) else (if ((zm_wr h19 156 ((8 * (h2 146 34)) + (h2 153 (h2 146 34))) 3) 146 8) ≤ 0 then (zk_V (zc 159 [zm_A 146] (zm_wr h19 156 ((8 * (h2 146 34)) + (h2 153 (h2 146 34))) 3)) (fun h25 => zr none 4 178 201 [zm_A 146, zm_I ((8 * (h2 146 34)) + (h2 153 (h2 146 34))), zm_I 0] [] h25)) else (some (zm_U, (zm_wr h19 156 ((8 * (h2 146 34)) + (h2 153 (h2 146 34))) 3))))))))) else (zm_ck (0 ≤ ((8 * (h2 146 34)) + (h2 153 (h2 146 34))) ∧ ((8 * (h2 146 34)) + (h2 153 (h2 146 34))) < ((16 : Nat) : Int)) (zm_ck (0 ≤ ((8 * (h2 146 34)) + (h2 153 (h2 146 34))) ∧ ((8 * (h2 146 34)) + (h2 153 (h2 146 34))) < ((16 : Nat) : Int)) (if ((zm_wr h17 156 ((8 * (h2 146 34)) + (h2 153 (h2 146 34))) 2) 156 ((8 * (h2 146 34)) + (h2 153 (h2 146 34)))) = (-1) then (zk_V (zc 164 [zm_A 146, zm_I 1, zm_I ((zm_wr h17 156 ((8 * (h2 146 34)) + (h2 153 (h2 146 34))) 2) 146 4)] (zm_wr h17 156 ((8 * (h2 146 34)) + (h2 153 (h2 146 34))) 2)) (fun h26 => if (h26 146 8) ≤ 0 then (zk_V (zc 159 [zm_A 146] h26) (fun h27 => zr none 4 178 201 [zm_A 146, zm_I ((8 * (h2 146 34)) + (h2 153 (h2 146 34))), zm_I 0] [] h27)) else (some (zm_U, h26)))) else (if ((zm_wr h17 156 ((8 * (h2 146 34)) + (h2 153 (h2 146 34))) 2) 146 8) ≤ 0 then (zk_V (zc 159 [zm_A 146] (zm_wr h17 156 ((8 * (h2 146 34)) + (h2 153 (h2 146 34))) 2)) (fun h28 => zr none 4 178 201 [zm_A 146, zm_I ((8 * (h2 146 34)) + (h2 153 (h2 146 34))), zm_I 0] [] h28)) else (some (zm_U, (zm_wr h17 156 ((8 * (h2 146 34)) + (h2 153 (h2 146 34))) 2))))))))) else (zm_ck (0 ≤ ((8 * (h2 146 34)) + (h2 153 (h2 146 34))) ∧ ((8 * (h2 146 34)) + (h2 153 (h2 146 34))) < ((16 : Nat) : Int)) (zm_ck (0 ≤ ((8 * (h2 146 34)) + (h2 153 (h2 146 34))) ∧ ((8 * (h2 146 34)) + (h2 153 (h2 146 34))) < ((16 : Nat) : Int)) (if ((zm_wr h15 156 ((8 * (h2 146 34)) + (h2 153 (h2 146 34))) 1) 156 ((8 * (h2 146 34)) + (h2 153 (h2 146 34)))) = (-1) then (zk_V (zc 164 [zm_A 146, zm_I 1, zm_I ((zm_wr h15 156 ((8 * (h2 146 34)) + (h2 153 (h2 146 34))) 1) 146 4)] (zm_wr h15 156 ((8 * (h2 146 34)) + (h2 153 (h2 146 34))) 1)) (fun h29 => if (h29 146 8) ≤ 0 then (zk_V (zc 159 [zm_A 146] h29) (fun h30 => zr none 4 178 201 [zm_A 146, zm_I ((8 * (h2 146 34)) + (h2 153 (h2 146 34))), zm_I 0] [] h30)) else (some (zm_U, h29)))) else (if ((zm_wr h15 156 ((8 * (h2 146 34)) + (h2 153 (h2 146 34))) 1) 146 8) ≤ 0 then (zk_V (zc 159 [zm_A 146] (zm_wr h15 156 ((8 * (h2 146 34)) + (h2 153 (h2 146 34))) 1)) (fun h31 => zr none 4 178 201 [zm_A 146, zm_I ((8 * (h2 146 34)) + (h2 153 (h2 146 34))), zm_I 0] [] h31)) else (some (zm_U, (zm_wr h15 156 ((8 * (h2 146 34)) + (h2 153 (h2 146 34))) 1))))))))) else (zm_ck (0 ≤ ((8 * (h2 146 34)) + (h2 153 (h2 146 34))) ∧ ((8 * (h2 146 34)) + (h2 153 (h2 146 34))) < ((16 : Nat) : Int)) (zm_ck (0 ≤ ((8 * (h2 146 34)) + (h2 153 (h2 146 34))) ∧ ((8 * (h2 146 34)) + (h2 153 (h2 146 34))) < ((16 : Nat) : Int)) (if ((zm_wr h13 156 ((8 * (h2 146 34)) + (h2 153 (h2 146 34))) 0) 156 ((8 * (h2 146 34)) + (h2 153 (h2 146 34)))) = (-1) then (zk_V (zc 164 [zm_A 146, zm_I 1, zm_I ((zm_wr h13 156 ((8 * (h2 146 34)) + (h2 153 (h2 146 34))) 0) 146 4)] (zm_wr h13 156 ((8 * (h2 146 34)) + (h2 153 (h2 146 34))) 0)) (fun h32 => if (h32 146 8) ≤ 0 then (zk_V (zc 159 [zm_A 146] h32) (fun h33 => zr none 4 178 201 [zm_A 146, zm_I ((8 * (h2 146 34)) + (h2 153 (h2 146 34))), zm_I 0] [] h33)) else (some (zm_U, h32)))) else (if ((zm_wr h13 156 ((8 * (h2 146 34)) + (h2 153 (h2 146 34))) 0) 146 8) ≤ 0 then (zk_V (zc 159 [zm_A 146] (zm_wr h13 156 ((8 * (h2 146 34)) + (h2 153 (h2 146 34))) 0)) (fun h34 => zr none 4 178 201 [zm_A 146, zm_I ((8 * (h2 146 34)) + (h2 153 (h2 146 34))), zm_I 0] [] h34)) else (some (zm_U, (zm_wr h13 156 ((8 * (h2 146 34)) + (h2 153 (h2 146 34))) 0))))))))) else (some (zm_U, h11))))))))))))))))) else (zk_I (zc 167 [zm_A 146, zm_I 0] h) (fun v35 h36 => if v35 = 0 then (some (zm_U, h36)) else (zm_ck (zm_i32 (8 * (h36 146 34))) (zm_ck (0 ≤ (h36 146 34) ∧ (h36 146 34) < ((2 : Nat) : Int)) (zm_ck (zm_i32 ((8 * (h36 146 34)) + (h36 153 (h36 146 34)))) (zk_L (zc 168 [zm_A 146] h36) (fun v37 h38 => zm_ck (0 ≤ ((8 * (h36 146 34)) + (h36 153 (h36 146 34))) ∧ ((8 * (h36 146 34)) + (h36 153 (h36 146 34))) < ((16 : Nat) : Int)) (zk_V (zc 173 [zm_A 146, zm_L 491327153000] (zm_wr h38 166 ((8 * (h36 146 34)) + (h36 153 (h36 146 34))) v37)) (fun h39 => zk_I (zc 174 [zm_A 146, zm_I 1, zm_I 5] h39) (fun v40 h41 => zm_ck (0 ≤ ((8 * (h36 146 34)) + (h36 153 (h36 146 34))) ∧ ((8 * (h36 146 34)) + (h36 153 (h36 146 34))) < ((16 : Nat) : Int)) (zk_V (zc 173 [zm_A 146, zm_L 439787809907] (zm_wr h41 154 ((8 * (h36 146 34)) + (h36 153 (h36 146 34))) v40)) (fun h42 => zk_I (zc 174 [zm_A 146, zm_I 0, zm_I 3] h42) (fun v43 h44 => zm_ck (0 ≤ ((8 * (h36 146 34)) + (h36 153 (h36 146 34))) ∧ ((8 * (h36 146 34)) + (h36 153 (h36 146 34))) < ((16 : Nat) : Int)) (zk_V (zc 163 [zm_A 146] (zm_wr h44 155 ((8 * (h36 146 34)) + (h36 153 (h36 146 34))) v43)) (fun h45 => if (h45 146 8) ≤ 0 then (zk_I (zc 165 [zm_A 146, zm_L 439855772532] h45) (fun v46 h47 => if v46 = 0 then (zk_I (zc 165 [zm_A 146, zm_L 1650815860] h47) (fun v48 h49 => if v48 = 0 then (zk_I (zc 165 [zm_A 146, zm_L 465491355493] h49) (fun v50 h51 => if v50 = 0 then (zk_I (zc 165 [zm_A 146, zm_L 495756340332] h51) (fun v52 h53 => if v52 = 0 then (zm_ck (0 ≤ ((8 * (h36 146 34)) + (h36 153 (h36 146 34))) ∧ ((8 * (h36 146 34)) + (h36 153 (h36 146 34))) < ((16 : Nat) : Int)) (zm_ck (0 ≤ ((8 * (h36 146 34)) + (h36 153 (h36 146 34))) ∧ ((8 * (h36 146 34)) + (h36 153 (h36 146 34))) < ((16 : Nat) : Int)) (if ((zm_wr h53 156 ((8 * (h36 146 34)) + (h36 153 (h36 146 34))) (-1)) 156 ((8 * (h36 146 34)) + (h36 153 (h36 146 34)))) = (-1) then (zk_V (zc 164 [zm_A 146, zm_I 1, zm_I ((zm_wr h53 156 ((8 * (h36 146 34)) + (h36 153 (h36 146 34))) (-1)) 146 4)] (zm_wr h53 156 ((8 * (h36 146 34)) + (h36 153 (h36 146 34))) (-1))) (fun h54 => if (h54 146 8) ≤ 0 then (zk_V (zc 159 [zm_A 146] h54) (fun h55 => zr none 4 178 201 [zm_A 146, zm_I ((8 * (h36 146 34)) + (h36 153 (h36 146 34))), zm_I 0] [] h55)) else (some (zm_U, h54)))) else (if ((zm_wr h53 156 ((8 * (h36 146 34)) + (h36 153 (h36 146 34))) (-1)) 146 8) ≤ 0 then (zk_V (zc 159 [zm_A 146] (zm_wr h53 156 ((8 * (h36 146 34)) + (h36 153 (h36 146 34))) (-1))) (fun h56 => zr none 4 178 201 [zm_A 146, zm_I ((8 * (h36 146 34)) + (h36 153 (h36 146 34))), zm_I 0] [] h56)) else (some (zm_U, (zm_wr h53 156 ((8 * (h36 146 34)) + (h36 153 (h36 146 34))) (-1)))))))) else (zm_ck (0 ≤ ((8 * (h36 146 34)) + (h36 153 (h36 146 34))) ∧ ((8 * (h36 146 34)) + (h36 153 (h36 146 34))) < ((16 : Nat) : Int)) (zm_ck (0 ≤ ((8 * (h36 146 34)) + (h36 153 (h36 146 34))) ∧ ((8 * (h36 146 34)) + (h36 153 (h36 146 34))) < ((16 : Nat) : Int)) (if ((zm_wr h53 156 ((8 * (h36 146 34)) + (h36 153 (h36 146 34))) 3) 156 ((8 * (h36 146 34)) + (h36 153 (h36 146 34)))) = (-1) then (zk_V (zc 164 [zm_A 146, zm_I 1, zm_I ((zm_wr h53 156 ((8 * (h36 146 34)) + (h36 153 (h36 146 34))) 3) 146 4)] (zm_wr h53 156 ((8 * (h36 146 34)) + (h36 153 (h36 146 34))) 3)) (fun h57 => if (h57 146 8) ≤ 0 then (zk_V (zc 159 [zm_A 146] h57) (fun h58 => zr none 4 178 201 [zm_A 146, zm_I ((8 * (h36 146 34)) + (h36 153 (h36 146 34))), zm_I 0] [] h58)) else (some (zm_U, h57)))) else (if ((zm_wr h53 156 ((8 * (h36 146 34)) + (h36 153 (h36 146 34))) 3) 146 8) ≤ 0 then (zk_V (zc 159 [zm_A 146] (zm_wr h53 156 ((8 * (h36 146 34)) + (h36 153 (h36 146 34))) 3)) (fun h59 => zr none 4 178 201 [zm_A 146, zm_I ((8 * (h36 146 34)) + (h36 153 (h36 146 34))), zm_I 0] [] h59)) else (some (zm_U, (zm_wr h53 156 ((8 * (h36 146 34)) + (h36 153 (h36 146 34))) 3))))))))) else (zm_ck (0 ≤ ((8 * (h36 146 34)) + (h36 153 (h36 146 34))) ∧ ((8 * (h36 146 34)) + (h36 153 (h36 146 34))) < ((16 : Nat) : Int)) (zm_ck (0 ≤ ((8 * (h36 146 34)) + (h36 153 (h36 146 34))) ∧ ((8 * (h36 146 34)) + (h36 153 (h36 146 34))) < ((16 : Nat) : Int)) (if ((zm_wr h51 156 ((8 * (h36 146 34)) + (h36 153 (h36 146 34))) 2) 156 ((8 * (h36 146 34)) + (h36 153 (h36 146 34)))) = (-1) then (zk_V (zc 164 [zm_A 146, zm_I 1, zm_I ((zm_wr h51 156 ((8 * (h36 146 34)) + (h36 153 (h36 146 34))) 2) 146 4)] (zm_wr h51 156 ((8 * (h36 146 34)) + (h36 153 (h36 146 34))) 2)) (fun h60 => if (h60 146 8) ≤ 0 then (zk_V (zc 159 [zm_A 146] h60) (fun h61 => zr none 4 178 201 [zm_A 146, zm_I ((8 * (h36 146 34)) + (h36 153 (h36 146 34))), zm_I 0] [] h61)) else (some (zm_U, h60)))) else (if ((zm_wr h51 156 ((8 * (h36 146 34)) + (h36 153 (h36 146 34))) 2) 146 8) ≤ 0 then (zk_V (zc 159 [zm_A 146] (zm_wr h51 156 ((8 * (h36 146 34)) + (h36 153 (h36 146 34))) 2)) (fun h62 => zr none 4 178 201 [zm_A 146, zm_I ((8 * (h36 146 34)) + (h36 153 (h36 146 34))), zm_I 0] [] h62)) else (some (zm_U, (zm_wr h51 156 ((8 * (h36 146 34)) + (h36 153 (h36 146 34))) 2))))))))) else (zm_ck (0 ≤ ((8 * (h36 146 34)) + (h36 153 (h36 146 34))) ∧ ((8 * (h36 146 34)) + (h36 153 (h36 146 34))) < ((16 : Nat) : Int)) (zm_ck (0 ≤ ((8 * (h36 146 34)) + (h36 153 (h36 146 34))) ∧ ((8 * (h36 146 34)) + (h36 153 (h36 146 34))) < ((16 : Nat) : Int)) (if ((zm_wr h49 156 ((8 * (h36 146 34)) + (h36 153 (h36 146 34))) 1) 156 ((8 * (h36 146 34)) + (h36 153 (h36 146 34)))) = (-1) then (zk_V (zc 164 [zm_A 146, zm_I 1, zm_I ((zm_wr h49 156 ((8 * (h36 146 34)) + (h36 153 (h36 146 34))) 1) 146 4)] (zm_wr h49 156 ((8 * (h36 146 34)) + (h36 153 (h36 146 34))) 1)) (fun h63 => if (h63 146 8) ≤ 0 then (zk_V (zc 159 [zm_A 146] h63) (fun h64 => zr none 4 178 201 [zm_A 146, zm_I ((8 * (h36 146 34)) + (h36 153 (h36 146 34))), zm_I 0] [] h64)) else (some (zm_U, h63)))) else (if ((zm_wr h49 156 ((8 * (h36 146 34)) + (h36 153 (h36 146 34))) 1) 146 8) ≤ 0 then (zk_V (zc 159 [zm_A 146] (zm_wr h49 156 ((8 * (h36 146 34)) + (h36 153 (h36 146 34))) 1)) (fun h65 => zr none 4 178 201 [zm_A 146, zm_I ((8 * (h36 146 34)) + (h36 153 (h36 146 34))), zm_I 0] [] h65)) else (some (zm_U, (zm_wr h49 156 ((8 * (h36 146 34)) + (h36 153 (h36 146 34))) 1))))))))) else (zm_ck (0 ≤ ((8 * (h36 146 34)) + (h36 153 (h36 146 34))) ∧ ((8 * (h36 146 34)) + (h36 153 (h36 146 34))) < ((16 : Nat) : Int)) (zm_ck (0 ≤ ((8 * (h36 146 34)) + (h36 153 (h36 146 34))) ∧ ((8 * (h36 146 34)) + (h36 153 (h36 146 34))) < ((16 : Nat) : Int)) (if ((zm_wr h47 156 ((8 * (h36 146 34)) + (h36 153 (h36 146 34))) 0) 156 ((8 * (h36 146 34)) + (h36 153 (h36 146 34)))) = (-1) then (zk_V (zc 164 [zm_A 146, zm_I 1, zm_I ((zm_wr h47 156 ((8 * (h36 146 34)) + (h36 153 (h36 146 34))) 0) 146 4)] (zm_wr h47 156 ((8 * (h36 146 34)) + (h36 153 (h36 146 34))) 0)) (fun h66 => if (h66 146 8) ≤ 0 then (zk_V (zc 159 [zm_A 146] h66) (fun h67 => zr none 4 178 201 [zm_A 146, zm_I ((8 * (h36 146 34)) + (h36 153 (h36 146 34))), zm_I 0] [] h67)) else (some (zm_U, h66)))) else (if ((zm_wr h47 156 ((8 * (h36 146 34)) + (h36 153 (h36 146 34))) 0) 146 8) ≤ 0 then (zk_V (zc 159 [zm_A 146] (zm_wr h47 156 ((8 * (h36 146 34)) + (h36 153 (h36 146 34))) 0)) (fun h68 => zr none 4 178 201 [zm_A 146, zm_I ((8 * (h36 146 34)) + (h36 153 (h36 146 34))), zm_I 0] [] h68)) else (some (zm_U, (zm_wr h47 156 ((8 * (h36 146 34)) + (h36 153 (h36 146 34))) 0))))))))) else (some (zm_U, h45))))))))))))))))))) (zc 178 [zm_A 146] h) := by
  rw [zc_eq (loc := [zm_A 146, zm_U, zm_U]) (rk_178 _) rfl]
  refine zl_tr (r_aload_n d_178_0 rfl) ?_
  refine zl_tr (r_aload_n d_178_1 rfl) ?_
  refine zl_tr (r_getR d_178_2 ow_178 f_12_69 la_146 (by decide) fr_146_19) ?_
  refine zl_tr (r_aload_n d_178_5 rfl) ?_
  refine zl_tr (r_getI (kk := 34) d_178_6 ow_178 f_12_115 la_146 (by decide) rfl) ?_
  refine zl_tr (r_iaload d_178_9 la_153) (zl_ck ?_)
  refine zl_tr (r_bipush d_178_10 (by decide)) ?_
  refine zl_tr (r_icmp_ne (tgt := 19) d_178_12 (by decide)) (zl_if ?_ ?_)
  · skip
    refine zl_tr (r_iconst d_178_15 (by decide)) ?_
    refine zl_tr (r_goto (tgt := 20) d_178_16 (by decide)) ?_
    refine zl_tr (r_VI [zm_A 146, zm_I 1] d_178_20 ow_178 cal_12_380 na_167 rfl rfl (Nat.le_of_ble_eq_true rfl) (by rw [rk_167]; decide) (zr_rcv la_146 ow_167) (zr_im mx_167 rfl (Nat.le_of_ble_eq_true rfl)) (by rw [rt_167]; decide)) (zl_I (fun v1 h2 => ?_))
    refine zl_tr (r_if_ne (tgt := 27) d_178_23 (by decide)) (zl_if ?_ ?_)
    · skip
      exact r_vret d_178_26 rt_178
    · skip
      refine zl_tr (r_bipush d_178_27 (by decide)) ?_
      refine zl_tr (r_aload_n d_178_29 rfl) ?_
      refine zl_tr (r_getI (kk := 34) d_178_30 ow_178 f_12_115 la_146 (by decide) rfl) ?_
      refine zl_tr (r_imul d_178_33) (zl_ck ?_)
      refine zl_tr (r_aload_n d_178_34 rfl) ?_
      refine zl_tr (r_getR d_178_35 ow_178 f_12_69 la_146 (by decide) fr_146_19) ?_
      refine zl_tr (r_aload_n d_178_38 rfl) ?_
      refine zl_tr (r_getI (kk := 34) d_178_39 ow_178 f_12_115 la_146 (by decide) rfl) ?_
      refine zl_tr (r_iaload d_178_42 la_153) (zl_ck ?_)
      refine zl_tr (r_iadd d_178_43) (zl_ck ?_)
      refine zl_tr (r_istore_n (loc' := [zm_A 146, zm_I ((8 * (h2 146 34)) + (h2 153 (h2 146 34))), zm_U]) d_178_44 (Nat.le_of_ble_eq_true rfl) rfl) ?_
      refine zl_tr (r_aload_n d_178_45 rfl) ?_
      refine zl_tr (r_getR d_178_46 ow_178 f_12_109 la_146 (by decide) fr_146_32) ?_
      refine zl_tr (r_iload_n d_178_49 rfl) ?_
      refine zl_tr (r_aload_n d_178_50 rfl) ?_
      refine zl_tr (r_VL [zm_A 146] d_178_51 ow_178 cal_12_384 na_168 rfl rfl (Nat.le_of_ble_eq_true rfl) (by rw [rk_168]; decide) (zr_rcv la_146 ow_168) (zr_im mx_168 rfl (Nat.le_of_ble_eq_true rfl)) rt_168) (zl_L (fun v3 h4 => ?_))
      refine zl_tr (r_lastore d_178_54 la_166) (zl_ck ?_)
      refine zl_tr (r_aload_n d_178_55 rfl) ?_
      refine zl_tr (r_ldc2 d_178_56 ow_178 lng_12_287) ?_
      refine zl_tr (r_VV [zm_A 146, zm_L 491327153000] d_178_59 ow_178 cal_12_388 na_173 rfl rfl (Nat.le_of_ble_eq_true rfl) (by rw [rk_173]; decide) (zr_rcv la_146 ow_173) (zr_im mx_173 rfl (Nat.le_of_ble_eq_true rfl)) rt_173) (zl_V (fun h5 => ?_))
      refine zl_tr (r_aload_n d_178_62 rfl) ?_
      refine zl_tr (r_getR d_178_63 ow_178 f_12_72 la_146 (by decide) fr_146_20) ?_
      refine zl_tr (r_iload_n d_178_66 rfl) ?_
      refine zl_tr (r_aload_n d_178_67 rfl) ?_
      refine zl_tr (r_iconst d_178_68 (by decide)) ?_
      refine zl_tr (r_iconst d_178_69 (by decide)) ?_
      refine zl_tr (r_VI [zm_A 146, zm_I 1, zm_I 5] d_178_70 ow_178 cal_12_392 na_174 rfl rfl (Nat.le_of_ble_eq_true rfl) (by rw [rk_174]; decide) (zr_rcv la_146 ow_174) (zr_im mx_174 rfl (Nat.le_of_ble_eq_true rfl)) (by rw [rt_174]; decide)) (zl_I (fun v6 h7 => ?_))
      refine zl_tr (r_iastore d_178_73 la_154) (zl_ck ?_)
      refine zl_tr (r_aload_n d_178_74 rfl) ?_
      refine zl_tr (r_ldc2 d_178_75 ow_178 lng_12_289) ?_
      refine zl_tr (r_VV [zm_A 146, zm_L 439787809907] d_178_78 ow_178 cal_12_388 na_173 rfl rfl (Nat.le_of_ble_eq_true rfl) (by rw [rk_173]; decide) (zr_rcv la_146 ow_173) (zr_im mx_173 rfl (Nat.le_of_ble_eq_true rfl)) rt_173) (zl_V (fun h8 => ?_))
      refine zl_tr (r_aload_n d_178_81 rfl) ?_
      refine zl_tr (r_getR d_178_82 ow_178 f_12_75 la_146 (by decide) fr_146_21) ?_
      refine zl_tr (r_iload_n d_178_85 rfl) ?_
      refine zl_tr (r_aload_n d_178_86 rfl) ?_
      refine zl_tr (r_iconst d_178_87 (by decide)) ?_
      refine zl_tr (r_iconst d_178_88 (by decide)) ?_
      refine zl_tr (r_VI [zm_A 146, zm_I 0, zm_I 3] d_178_89 ow_178 cal_12_392 na_174 rfl rfl (Nat.le_of_ble_eq_true rfl) (by rw [rk_174]; decide) (zr_rcv la_146 ow_174) (zr_im mx_174 rfl (Nat.le_of_ble_eq_true rfl)) (by rw [rt_174]; decide)) (zl_I (fun v9 h10 => ?_))
      refine zl_tr (r_iastore d_178_92 la_155) (zl_ck ?_)
      refine zl_tr (r_aload_n d_178_93 rfl) ?_
      refine zl_tr (r_VV [zm_A 146] d_178_94 ow_178 cal_12_268 na_163 rfl rfl (Nat.le_of_ble_eq_true rfl) (by rw [rk_163]; decide) (zr_rcv la_146 ow_163) (zr_im mx_163 rfl (Nat.le_of_ble_eq_true rfl)) rt_163) (zl_V (fun h11 => ?_))
      refine zl_tr (r_aload_n d_178_97 rfl) ?_
      refine zl_tr (r_getI (kk := 8) d_178_98 ow_178 f_12_36 la_146 (by decide) rfl) ?_
      refine zl_tr (r_if_le (tgt := 105) d_178_101 (by decide)) (zl_if ?_ ?_)
      · skip
        refine zl_tr (r_aload_n d_178_105 rfl) ?_
        refine zl_tr (r_getR d_178_106 ow_178 f_12_78 la_146 (by decide) fr_146_22) ?_
        refine zl_tr (r_iload_n d_178_109 rfl) ?_
        refine zl_tr (r_aload_n d_178_110 rfl) ?_
        refine zl_tr (r_ldc2 d_178_111 ow_178 lng_12_291) ?_
        refine zl_tr (r_VI [zm_A 146, zm_L 439855772532] d_178_114 ow_178 cal_12_351 na_165 rfl rfl (Nat.le_of_ble_eq_true rfl) (by rw [rk_165]; decide) (zr_rcv la_146 ow_165) (zr_im mx_165 rfl (Nat.le_of_ble_eq_true rfl)) (by rw [rt_165]; decide)) (zl_I (fun v12 h13 => ?_))
        refine zl_tr (r_if_eq (tgt := 124) d_178_117 (by decide)) (zl_if ?_ ?_)
        · skip
          refine zl_tr (r_aload_n d_178_124 rfl) ?_
          refine zl_tr (r_ldc2 d_178_125 ow_178 lng_12_293) ?_
          refine zl_tr (r_VI [zm_A 146, zm_L 1650815860] d_178_128 ow_178 cal_12_351 na_165 rfl rfl (Nat.le_of_ble_eq_true rfl) (by rw [rk_165]; decide) (zr_rcv la_146 ow_165) (zr_im mx_165 rfl (Nat.le_of_ble_eq_true rfl)) (by rw [rt_165]; decide)) (zl_I (fun v14 h15 => ?_))
          refine zl_tr (r_if_eq (tgt := 138) d_178_131 (by decide)) (zl_if ?_ ?_)
          · skip
            refine zl_tr (r_aload_n d_178_138 rfl) ?_
            refine zl_tr (r_ldc2 d_178_139 ow_178 lng_12_295) ?_
            refine zl_tr (r_VI [zm_A 146, zm_L 465491355493] d_178_142 ow_178 cal_12_351 na_165 rfl rfl (Nat.le_of_ble_eq_true rfl) (by rw [rk_165]; decide) (zr_rcv la_146 ow_165) (zr_im mx_165 rfl (Nat.le_of_ble_eq_true rfl)) (by rw [rt_165]; decide)) (zl_I (fun v16 h17 => ?_))
            refine zl_tr (r_if_eq (tgt := 152) d_178_145 (by decide)) (zl_if ?_ ?_)
            · skip
              refine zl_tr (r_aload_n d_178_152 rfl) ?_
              refine zl_tr (r_ldc2 d_178_153 ow_178 lng_12_297) ?_
              refine zl_tr (r_VI [zm_A 146, zm_L 495756340332] d_178_156 ow_178 cal_12_351 na_165 rfl rfl (Nat.le_of_ble_eq_true rfl) (by rw [rk_165]; decide) (zr_rcv la_146 ow_165) (zr_im mx_165 rfl (Nat.le_of_ble_eq_true rfl)) (by rw [rt_165]; decide)) (zl_I (fun v18 h19 => ?_))
              refine zl_tr (r_if_eq (tgt := 166) d_178_159 (by decide)) (zl_if ?_ ?_)
              · skip
                refine zl_tr (r_iconst d_178_166 (by decide)) ?_
                refine zl_tr (r_iastore d_178_167 la_156) (zl_ck ?_)
                refine zl_tr (r_aload_n d_178_168 rfl) ?_
                refine zl_tr (r_getR d_178_169 ow_178 f_12_78 la_146 (by decide) fr_146_22) ?_
                refine zl_tr (r_iload_n d_178_172 rfl) ?_
                refine zl_tr (r_iaload d_178_173 la_156) (zl_ck ?_)
                refine zl_tr (r_iconst d_178_174 (by decide)) ?_
                refine zl_tr (r_icmp_ne (tgt := 187) d_178_175 (by decide)) (zl_if ?_ ?_)
                · skip
                  refine zl_tr (r_aload_n d_178_178 rfl) ?_
                  refine zl_tr (r_iconst d_178_179 (by decide)) ?_
                  refine zl_tr (r_aload_n d_178_180 rfl) ?_
                  refine zl_tr (r_getI (kk := 4) d_178_181 ow_178 f_12_23 la_146 (by decide) rfl) ?_
                  refine zl_tr (r_VV [zm_A 146, zm_I 1, zm_I ((zm_wr h19 156 ((8 * (h2 146 34)) + (h2 153 (h2 146 34))) (-1)) 146 4)] d_178_184 ow_178 cal_12_257 na_164 rfl rfl (Nat.le_of_ble_eq_true rfl) (by rw [rk_164]; decide) (zr_rcv la_146 ow_164) (zr_im mx_164 rfl (Nat.le_of_ble_eq_true rfl)) rt_164) (zl_V (fun h20 => ?_))
                  refine zl_tr (r_aload_n d_178_187 rfl) ?_
                  refine zl_tr (r_getI (kk := 8) d_178_188 ow_178 f_12_36 la_146 (by decide) rfl) ?_
                  refine zl_tr (r_if_le (tgt := 195) d_178_191 (by decide)) (zl_if ?_ ?_)
                  · skip
                    refine zl_tr (r_aload_n d_178_195 rfl) ?_
                    refine zl_tr (r_VV [zm_A 146] d_178_196 ow_178 cal_12_274 na_159 rfl rfl (Nat.le_of_ble_eq_true rfl) (by rw [rk_159]; decide) (zr_rcv la_146 ow_159) (zr_im mx_159 rfl (Nat.le_of_ble_eq_true rfl)) rt_159) (zl_V (fun h21 => ?_))
                    refine zl_tr (r_iconst d_178_199 (by decide)) ?_
                    refine zl_tr (r_istore_n (loc' := [zm_A 146, zm_I ((8 * (h2 146 34)) + (h2 153 (h2 146 34))), zm_I 0]) d_178_200 (Nat.le_of_ble_eq_true rfl) rfl) ?_
                    exact zl_rf
                  · skip
                    exact r_vret d_178_194 rt_178
                · skip
                  refine zl_tr (r_aload_n d_178_187 rfl) ?_
                  refine zl_tr (r_getI (kk := 8) d_178_188 ow_178 f_12_36 la_146 (by decide) rfl) ?_
                  refine zl_tr (r_if_le (tgt := 195) d_178_191 (by decide)) (zl_if ?_ ?_)
                  · skip
                    refine zl_tr (r_aload_n d_178_195 rfl) ?_
                    refine zl_tr (r_VV [zm_A 146] d_178_196 ow_178 cal_12_274 na_159 rfl rfl (Nat.le_of_ble_eq_true rfl) (by rw [rk_159]; decide) (zr_rcv la_146 ow_159) (zr_im mx_159 rfl (Nat.le_of_ble_eq_true rfl)) rt_159) (zl_V (fun h22 => ?_))
                    refine zl_tr (r_iconst d_178_199 (by decide)) ?_
                    refine zl_tr (r_istore_n (loc' := [zm_A 146, zm_I ((8 * (h2 146 34)) + (h2 153 (h2 146 34))), zm_I 0]) d_178_200 (Nat.le_of_ble_eq_true rfl) rfl) ?_
                    exact zl_rf
                  · skip
                    exact r_vret d_178_194 rt_178
              · skip
                refine zl_tr (r_iconst d_178_162 (by decide)) ?_
                refine zl_tr (r_goto (tgt := 167) d_178_163 (by decide)) ?_
                refine zl_tr (r_iastore d_178_167 la_156) (zl_ck ?_)
                refine zl_tr (r_aload_n d_178_168 rfl) ?_
                refine zl_tr (r_getR d_178_169 ow_178 f_12_78 la_146 (by decide) fr_146_22) ?_
                refine zl_tr (r_iload_n d_178_172 rfl) ?_
                refine zl_tr (r_iaload d_178_173 la_156) (zl_ck ?_)
                refine zl_tr (r_iconst d_178_174 (by decide)) ?_
                refine zl_tr (r_icmp_ne (tgt := 187) d_178_175 (by decide)) (zl_if ?_ ?_)
                · skip
                  refine zl_tr (r_aload_n d_178_178 rfl) ?_
                  refine zl_tr (r_iconst d_178_179 (by decide)) ?_
                  refine zl_tr (r_aload_n d_178_180 rfl) ?_
                  refine zl_tr (r_getI (kk := 4) d_178_181 ow_178 f_12_23 la_146 (by decide) rfl) ?_
                  refine zl_tr (r_VV [zm_A 146, zm_I 1, zm_I ((zm_wr h19 156 ((8 * (h2 146 34)) + (h2 153 (h2 146 34))) 3) 146 4)] d_178_184 ow_178 cal_12_257 na_164 rfl rfl (Nat.le_of_ble_eq_true rfl) (by rw [rk_164]; decide) (zr_rcv la_146 ow_164) (zr_im mx_164 rfl (Nat.le_of_ble_eq_true rfl)) rt_164) (zl_V (fun h23 => ?_))
                  refine zl_tr (r_aload_n d_178_187 rfl) ?_
                  refine zl_tr (r_getI (kk := 8) d_178_188 ow_178 f_12_36 la_146 (by decide) rfl) ?_
                  refine zl_tr (r_if_le (tgt := 195) d_178_191 (by decide)) (zl_if ?_ ?_)
                  · skip
                    refine zl_tr (r_aload_n d_178_195 rfl) ?_
                    refine zl_tr (r_VV [zm_A 146] d_178_196 ow_178 cal_12_274 na_159 rfl rfl (Nat.le_of_ble_eq_true rfl) (by rw [rk_159]; decide) (zr_rcv la_146 ow_159) (zr_im mx_159 rfl (Nat.le_of_ble_eq_true rfl)) rt_159) (zl_V (fun h24 => ?_))
                    refine zl_tr (r_iconst d_178_199 (by decide)) ?_
                    refine zl_tr (r_istore_n (loc' := [zm_A 146, zm_I ((8 * (h2 146 34)) + (h2 153 (h2 146 34))), zm_I 0]) d_178_200 (Nat.le_of_ble_eq_true rfl) rfl) ?_
                    exact zl_rf
                  · skip
                    exact r_vret d_178_194 rt_178
                · skip
                  refine zl_tr (r_aload_n d_178_187 rfl) ?_
                  refine zl_tr (r_getI (kk := 8) d_178_188 ow_178 f_12_36 la_146 (by decide) rfl) ?_
                  refine zl_tr (r_if_le (tgt := 195) d_178_191 (by decide)) (zl_if ?_ ?_)
                  · skip
                    refine zl_tr (r_aload_n d_178_195 rfl) ?_
                    refine zl_tr (r_VV [zm_A 146] d_178_196 ow_178 cal_12_274 na_159 rfl rfl (Nat.le_of_ble_eq_true rfl) (by rw [rk_159]; decide) (zr_rcv la_146 ow_159) (zr_im mx_159 rfl (Nat.le_of_ble_eq_true rfl)) rt_159) (zl_V (fun h25 => ?_))
                    refine zl_tr (r_iconst d_178_199 (by decide)) ?_
                    refine zl_tr (r_istore_n (loc' := [zm_A 146, zm_I ((8 * (h2 146 34)) + (h2 153 (h2 146 34))), zm_I 0]) d_178_200 (Nat.le_of_ble_eq_true rfl) rfl) ?_
                    exact zl_rf
                  · skip
                    exact r_vret d_178_194 rt_178
            · skip
              refine zl_tr (r_iconst d_178_148 (by decide)) ?_
              refine zl_tr (r_goto (tgt := 167) d_178_149 (by decide)) ?_
              refine zl_tr (r_iastore d_178_167 la_156) (zl_ck ?_)
              refine zl_tr (r_aload_n d_178_168 rfl) ?_
              refine zl_tr (r_getR d_178_169 ow_178 f_12_78 la_146 (by decide) fr_146_22) ?_
              refine zl_tr (r_iload_n d_178_172 rfl) ?_
              refine zl_tr (r_iaload d_178_173 la_156) (zl_ck ?_)
              refine zl_tr (r_iconst d_178_174 (by decide)) ?_
              refine zl_tr (r_icmp_ne (tgt := 187) d_178_175 (by decide)) (zl_if ?_ ?_)
              · skip
                refine zl_tr (r_aload_n d_178_178 rfl) ?_
                refine zl_tr (r_iconst d_178_179 (by decide)) ?_
                refine zl_tr (r_aload_n d_178_180 rfl) ?_
                refine zl_tr (r_getI (kk := 4) d_178_181 ow_178 f_12_23 la_146 (by decide) rfl) ?_
                refine zl_tr (r_VV [zm_A 146, zm_I 1, zm_I ((zm_wr h17 156 ((8 * (h2 146 34)) + (h2 153 (h2 146 34))) 2) 146 4)] d_178_184 ow_178 cal_12_257 na_164 rfl rfl (Nat.le_of_ble_eq_true rfl) (by rw [rk_164]; decide) (zr_rcv la_146 ow_164) (zr_im mx_164 rfl (Nat.le_of_ble_eq_true rfl)) rt_164) (zl_V (fun h26 => ?_))
                refine zl_tr (r_aload_n d_178_187 rfl) ?_
                refine zl_tr (r_getI (kk := 8) d_178_188 ow_178 f_12_36 la_146 (by decide) rfl) ?_
                refine zl_tr (r_if_le (tgt := 195) d_178_191 (by decide)) (zl_if ?_ ?_)
                · skip
                  refine zl_tr (r_aload_n d_178_195 rfl) ?_
                  refine zl_tr (r_VV [zm_A 146] d_178_196 ow_178 cal_12_274 na_159 rfl rfl (Nat.le_of_ble_eq_true rfl) (by rw [rk_159]; decide) (zr_rcv la_146 ow_159) (zr_im mx_159 rfl (Nat.le_of_ble_eq_true rfl)) rt_159) (zl_V (fun h27 => ?_))
                  refine zl_tr (r_iconst d_178_199 (by decide)) ?_
                  refine zl_tr (r_istore_n (loc' := [zm_A 146, zm_I ((8 * (h2 146 34)) + (h2 153 (h2 146 34))), zm_I 0]) d_178_200 (Nat.le_of_ble_eq_true rfl) rfl) ?_
                  exact zl_rf
                · skip
                  exact r_vret d_178_194 rt_178
              · skip
                refine zl_tr (r_aload_n d_178_187 rfl) ?_
                refine zl_tr (r_getI (kk := 8) d_178_188 ow_178 f_12_36 la_146 (by decide) rfl) ?_
                refine zl_tr (r_if_le (tgt := 195) d_178_191 (by decide)) (zl_if ?_ ?_)
                · skip
                  refine zl_tr (r_aload_n d_178_195 rfl) ?_
                  refine zl_tr (r_VV [zm_A 146] d_178_196 ow_178 cal_12_274 na_159 rfl rfl (Nat.le_of_ble_eq_true rfl) (by rw [rk_159]; decide) (zr_rcv la_146 ow_159) (zr_im mx_159 rfl (Nat.le_of_ble_eq_true rfl)) rt_159) (zl_V (fun h28 => ?_))
                  refine zl_tr (r_iconst d_178_199 (by decide)) ?_
                  refine zl_tr (r_istore_n (loc' := [zm_A 146, zm_I ((8 * (h2 146 34)) + (h2 153 (h2 146 34))), zm_I 0]) d_178_200 (Nat.le_of_ble_eq_true rfl) rfl) ?_
                  exact zl_rf
                · skip
                  exact r_vret d_178_194 rt_178
          · skip
            refine zl_tr (r_iconst d_178_134 (by decide)) ?_
            refine zl_tr (r_goto (tgt := 167) d_178_135 (by decide)) ?_
            refine zl_tr (r_iastore d_178_167 la_156) (zl_ck ?_)
            refine zl_tr (r_aload_n d_178_168 rfl) ?_
            refine zl_tr (r_getR d_178_169 ow_178 f_12_78 la_146 (by decide) fr_146_22) ?_
            refine zl_tr (r_iload_n d_178_172 rfl) ?_
            refine zl_tr (r_iaload d_178_173 la_156) (zl_ck ?_)
            refine zl_tr (r_iconst d_178_174 (by decide)) ?_
            refine zl_tr (r_icmp_ne (tgt := 187) d_178_175 (by decide)) (zl_if ?_ ?_)
            · skip
              refine zl_tr (r_aload_n d_178_178 rfl) ?_
              refine zl_tr (r_iconst d_178_179 (by decide)) ?_
              refine zl_tr (r_aload_n d_178_180 rfl) ?_
              refine zl_tr (r_getI (kk := 4) d_178_181 ow_178 f_12_23 la_146 (by decide) rfl) ?_
              refine zl_tr (r_VV [zm_A 146, zm_I 1, zm_I ((zm_wr h15 156 ((8 * (h2 146 34)) + (h2 153 (h2 146 34))) 1) 146 4)] d_178_184 ow_178 cal_12_257 na_164 rfl rfl (Nat.le_of_ble_eq_true rfl) (by rw [rk_164]; decide) (zr_rcv la_146 ow_164) (zr_im mx_164 rfl (Nat.le_of_ble_eq_true rfl)) rt_164) (zl_V (fun h29 => ?_))
              refine zl_tr (r_aload_n d_178_187 rfl) ?_
              refine zl_tr (r_getI (kk := 8) d_178_188 ow_178 f_12_36 la_146 (by decide) rfl) ?_
              refine zl_tr (r_if_le (tgt := 195) d_178_191 (by decide)) (zl_if ?_ ?_)
              · skip
                refine zl_tr (r_aload_n d_178_195 rfl) ?_
                refine zl_tr (r_VV [zm_A 146] d_178_196 ow_178 cal_12_274 na_159 rfl rfl (Nat.le_of_ble_eq_true rfl) (by rw [rk_159]; decide) (zr_rcv la_146 ow_159) (zr_im mx_159 rfl (Nat.le_of_ble_eq_true rfl)) rt_159) (zl_V (fun h30 => ?_))
                refine zl_tr (r_iconst d_178_199 (by decide)) ?_
                refine zl_tr (r_istore_n (loc' := [zm_A 146, zm_I ((8 * (h2 146 34)) + (h2 153 (h2 146 34))), zm_I 0]) d_178_200 (Nat.le_of_ble_eq_true rfl) rfl) ?_
                exact zl_rf
              · skip
                exact r_vret d_178_194 rt_178
            · skip
              refine zl_tr (r_aload_n d_178_187 rfl) ?_
              refine zl_tr (r_getI (kk := 8) d_178_188 ow_178 f_12_36 la_146 (by decide) rfl) ?_
              refine zl_tr (r_if_le (tgt := 195) d_178_191 (by decide)) (zl_if ?_ ?_)
              · skip
                refine zl_tr (r_aload_n d_178_195 rfl) ?_
                refine zl_tr (r_VV [zm_A 146] d_178_196 ow_178 cal_12_274 na_159 rfl rfl (Nat.le_of_ble_eq_true rfl) (by rw [rk_159]; decide) (zr_rcv la_146 ow_159) (zr_im mx_159 rfl (Nat.le_of_ble_eq_true rfl)) rt_159) (zl_V (fun h31 => ?_))
                refine zl_tr (r_iconst d_178_199 (by decide)) ?_
                refine zl_tr (r_istore_n (loc' := [zm_A 146, zm_I ((8 * (h2 146 34)) + (h2 153 (h2 146 34))), zm_I 0]) d_178_200 (Nat.le_of_ble_eq_true rfl) rfl) ?_
                exact zl_rf
              · skip
                exact r_vret d_178_194 rt_178
        · skip
          refine zl_tr (r_iconst d_178_120 (by decide)) ?_
          refine zl_tr (r_goto (tgt := 167) d_178_121 (by decide)) ?_
          refine zl_tr (r_iastore d_178_167 la_156) (zl_ck ?_)
          refine zl_tr (r_aload_n d_178_168 rfl) ?_
          refine zl_tr (r_getR d_178_169 ow_178 f_12_78 la_146 (by decide) fr_146_22) ?_
          refine zl_tr (r_iload_n d_178_172 rfl) ?_
          refine zl_tr (r_iaload d_178_173 la_156) (zl_ck ?_)
          refine zl_tr (r_iconst d_178_174 (by decide)) ?_
          refine zl_tr (r_icmp_ne (tgt := 187) d_178_175 (by decide)) (zl_if ?_ ?_)
          · skip
            refine zl_tr (r_aload_n d_178_178 rfl) ?_
            refine zl_tr (r_iconst d_178_179 (by decide)) ?_
            refine zl_tr (r_aload_n d_178_180 rfl) ?_
            refine zl_tr (r_getI (kk := 4) d_178_181 ow_178 f_12_23 la_146 (by decide) rfl) ?_
            refine zl_tr (r_VV [zm_A 146, zm_I 1, zm_I ((zm_wr h13 156 ((8 * (h2 146 34)) + (h2 153 (h2 146 34))) 0) 146 4)] d_178_184 ow_178 cal_12_257 na_164 rfl rfl (Nat.le_of_ble_eq_true rfl) (by rw [rk_164]; decide) (zr_rcv la_146 ow_164) (zr_im mx_164 rfl (Nat.le_of_ble_eq_true rfl)) rt_164) (zl_V (fun h32 => ?_))
            refine zl_tr (r_aload_n d_178_187 rfl) ?_
            refine zl_tr (r_getI (kk := 8) d_178_188 ow_178 f_12_36 la_146 (by decide) rfl) ?_
            refine zl_tr (r_if_le (tgt := 195) d_178_191 (by decide)) (zl_if ?_ ?_)
            · skip
              refine zl_tr (r_aload_n d_178_195 rfl) ?_
              refine zl_tr (r_VV [zm_A 146] d_178_196 ow_178 cal_12_274 na_159 rfl rfl (Nat.le_of_ble_eq_true rfl) (by rw [rk_159]; decide) (zr_rcv la_146 ow_159) (zr_im mx_159 rfl (Nat.le_of_ble_eq_true rfl)) rt_159) (zl_V (fun h33 => ?_))
              refine zl_tr (r_iconst d_178_199 (by decide)) ?_
              refine zl_tr (r_istore_n (loc' := [zm_A 146, zm_I ((8 * (h2 146 34)) + (h2 153 (h2 146 34))), zm_I 0]) d_178_200 (Nat.le_of_ble_eq_true rfl) rfl) ?_
              exact zl_rf
            · skip
              exact r_vret d_178_194 rt_178
          · skip
            refine zl_tr (r_aload_n d_178_187 rfl) ?_
            refine zl_tr (r_getI (kk := 8) d_178_188 ow_178 f_12_36 la_146 (by decide) rfl) ?_
            refine zl_tr (r_if_le (tgt := 195) d_178_191 (by decide)) (zl_if ?_ ?_)
            · skip
              refine zl_tr (r_aload_n d_178_195 rfl) ?_
              refine zl_tr (r_VV [zm_A 146] d_178_196 ow_178 cal_12_274 na_159 rfl rfl (Nat.le_of_ble_eq_true rfl) (by rw [rk_159]; decide) (zr_rcv la_146 ow_159) (zr_im mx_159 rfl (Nat.le_of_ble_eq_true rfl)) rt_159) (zl_V (fun h34 => ?_))
              refine zl_tr (r_iconst d_178_199 (by decide)) ?_
              refine zl_tr (r_istore_n (loc' := [zm_A 146, zm_I ((8 * (h2 146 34)) + (h2 153 (h2 146 34))), zm_I 0]) d_178_200 (Nat.le_of_ble_eq_true rfl) rfl) ?_
              exact zl_rf
            · skip
              exact r_vret d_178_194 rt_178
      · skip
        exact r_vret d_178_104 rt_178
  · skip
    refine zl_tr (r_iconst d_178_19 (by decide)) ?_
    refine zl_tr (r_VI [zm_A 146, zm_I 0] d_178_20 ow_178 cal_12_380 na_167 rfl rfl (Nat.le_of_ble_eq_true rfl) (by rw [rk_167]; decide) (zr_rcv la_146 ow_167) (zr_im mx_167 rfl (Nat.le_of_ble_eq_true rfl)) (by rw [rt_167]; decide)) (zl_I (fun v35 h36 => ?_))
    refine zl_tr (r_if_ne (tgt := 27) d_178_23 (by decide)) (zl_if ?_ ?_)
    · skip
      exact r_vret d_178_26 rt_178
    · skip
      refine zl_tr (r_bipush d_178_27 (by decide)) ?_
      refine zl_tr (r_aload_n d_178_29 rfl) ?_
      refine zl_tr (r_getI (kk := 34) d_178_30 ow_178 f_12_115 la_146 (by decide) rfl) ?_
      refine zl_tr (r_imul d_178_33) (zl_ck ?_)
      refine zl_tr (r_aload_n d_178_34 rfl) ?_
      refine zl_tr (r_getR d_178_35 ow_178 f_12_69 la_146 (by decide) fr_146_19) ?_
      refine zl_tr (r_aload_n d_178_38 rfl) ?_
      refine zl_tr (r_getI (kk := 34) d_178_39 ow_178 f_12_115 la_146 (by decide) rfl) ?_
      refine zl_tr (r_iaload d_178_42 la_153) (zl_ck ?_)
      refine zl_tr (r_iadd d_178_43) (zl_ck ?_)
      refine zl_tr (r_istore_n (loc' := [zm_A 146, zm_I ((8 * (h36 146 34)) + (h36 153 (h36 146 34))), zm_U]) d_178_44 (Nat.le_of_ble_eq_true rfl) rfl) ?_
      refine zl_tr (r_aload_n d_178_45 rfl) ?_
      refine zl_tr (r_getR d_178_46 ow_178 f_12_109 la_146 (by decide) fr_146_32) ?_
      refine zl_tr (r_iload_n d_178_49 rfl) ?_
      refine zl_tr (r_aload_n d_178_50 rfl) ?_
      refine zl_tr (r_VL [zm_A 146] d_178_51 ow_178 cal_12_384 na_168 rfl rfl (Nat.le_of_ble_eq_true rfl) (by rw [rk_168]; decide) (zr_rcv la_146 ow_168) (zr_im mx_168 rfl (Nat.le_of_ble_eq_true rfl)) rt_168) (zl_L (fun v37 h38 => ?_))
      refine zl_tr (r_lastore d_178_54 la_166) (zl_ck ?_)
      refine zl_tr (r_aload_n d_178_55 rfl) ?_
      refine zl_tr (r_ldc2 d_178_56 ow_178 lng_12_287) ?_
      refine zl_tr (r_VV [zm_A 146, zm_L 491327153000] d_178_59 ow_178 cal_12_388 na_173 rfl rfl (Nat.le_of_ble_eq_true rfl) (by rw [rk_173]; decide) (zr_rcv la_146 ow_173) (zr_im mx_173 rfl (Nat.le_of_ble_eq_true rfl)) rt_173) (zl_V (fun h39 => ?_))
      refine zl_tr (r_aload_n d_178_62 rfl) ?_
      refine zl_tr (r_getR d_178_63 ow_178 f_12_72 la_146 (by decide) fr_146_20) ?_
      refine zl_tr (r_iload_n d_178_66 rfl) ?_
      refine zl_tr (r_aload_n d_178_67 rfl) ?_
      refine zl_tr (r_iconst d_178_68 (by decide)) ?_
      refine zl_tr (r_iconst d_178_69 (by decide)) ?_
      refine zl_tr (r_VI [zm_A 146, zm_I 1, zm_I 5] d_178_70 ow_178 cal_12_392 na_174 rfl rfl (Nat.le_of_ble_eq_true rfl) (by rw [rk_174]; decide) (zr_rcv la_146 ow_174) (zr_im mx_174 rfl (Nat.le_of_ble_eq_true rfl)) (by rw [rt_174]; decide)) (zl_I (fun v40 h41 => ?_))
      refine zl_tr (r_iastore d_178_73 la_154) (zl_ck ?_)
      refine zl_tr (r_aload_n d_178_74 rfl) ?_
      refine zl_tr (r_ldc2 d_178_75 ow_178 lng_12_289) ?_
      refine zl_tr (r_VV [zm_A 146, zm_L 439787809907] d_178_78 ow_178 cal_12_388 na_173 rfl rfl (Nat.le_of_ble_eq_true rfl) (by rw [rk_173]; decide) (zr_rcv la_146 ow_173) (zr_im mx_173 rfl (Nat.le_of_ble_eq_true rfl)) rt_173) (zl_V (fun h42 => ?_))
      refine zl_tr (r_aload_n d_178_81 rfl) ?_
      refine zl_tr (r_getR d_178_82 ow_178 f_12_75 la_146 (by decide) fr_146_21) ?_
      refine zl_tr (r_iload_n d_178_85 rfl) ?_
      refine zl_tr (r_aload_n d_178_86 rfl) ?_
      refine zl_tr (r_iconst d_178_87 (by decide)) ?_
      refine zl_tr (r_iconst d_178_88 (by decide)) ?_
      refine zl_tr (r_VI [zm_A 146, zm_I 0, zm_I 3] d_178_89 ow_178 cal_12_392 na_174 rfl rfl (Nat.le_of_ble_eq_true rfl) (by rw [rk_174]; decide) (zr_rcv la_146 ow_174) (zr_im mx_174 rfl (Nat.le_of_ble_eq_true rfl)) (by rw [rt_174]; decide)) (zl_I (fun v43 h44 => ?_))
      refine zl_tr (r_iastore d_178_92 la_155) (zl_ck ?_)
      refine zl_tr (r_aload_n d_178_93 rfl) ?_
      refine zl_tr (r_VV [zm_A 146] d_178_94 ow_178 cal_12_268 na_163 rfl rfl (Nat.le_of_ble_eq_true rfl) (by rw [rk_163]; decide) (zr_rcv la_146 ow_163) (zr_im mx_163 rfl (Nat.le_of_ble_eq_true rfl)) rt_163) (zl_V (fun h45 => ?_))
      refine zl_tr (r_aload_n d_178_97 rfl) ?_
      refine zl_tr (r_getI (kk := 8) d_178_98 ow_178 f_12_36 la_146 (by decide) rfl) ?_
      refine zl_tr (r_if_le (tgt := 105) d_178_101 (by decide)) (zl_if ?_ ?_)
      · skip
        refine zl_tr (r_aload_n d_178_105 rfl) ?_
        refine zl_tr (r_getR d_178_106 ow_178 f_12_78 la_146 (by decide) fr_146_22) ?_
        refine zl_tr (r_iload_n d_178_109 rfl) ?_
        refine zl_tr (r_aload_n d_178_110 rfl) ?_
        refine zl_tr (r_ldc2 d_178_111 ow_178 lng_12_291) ?_
        refine zl_tr (r_VI [zm_A 146, zm_L 439855772532] d_178_114 ow_178 cal_12_351 na_165 rfl rfl (Nat.le_of_ble_eq_true rfl) (by rw [rk_165]; decide) (zr_rcv la_146 ow_165) (zr_im mx_165 rfl (Nat.le_of_ble_eq_true rfl)) (by rw [rt_165]; decide)) (zl_I (fun v46 h47 => ?_))
        refine zl_tr (r_if_eq (tgt := 124) d_178_117 (by decide)) (zl_if ?_ ?_)
        · skip
          refine zl_tr (r_aload_n d_178_124 rfl) ?_
          refine zl_tr (r_ldc2 d_178_125 ow_178 lng_12_293) ?_
          refine zl_tr (r_VI [zm_A 146, zm_L 1650815860] d_178_128 ow_178 cal_12_351 na_165 rfl rfl (Nat.le_of_ble_eq_true rfl) (by rw [rk_165]; decide) (zr_rcv la_146 ow_165) (zr_im mx_165 rfl (Nat.le_of_ble_eq_true rfl)) (by rw [rt_165]; decide)) (zl_I (fun v48 h49 => ?_))
          refine zl_tr (r_if_eq (tgt := 138) d_178_131 (by decide)) (zl_if ?_ ?_)
          · skip
            refine zl_tr (r_aload_n d_178_138 rfl) ?_
            refine zl_tr (r_ldc2 d_178_139 ow_178 lng_12_295) ?_
            refine zl_tr (r_VI [zm_A 146, zm_L 465491355493] d_178_142 ow_178 cal_12_351 na_165 rfl rfl (Nat.le_of_ble_eq_true rfl) (by rw [rk_165]; decide) (zr_rcv la_146 ow_165) (zr_im mx_165 rfl (Nat.le_of_ble_eq_true rfl)) (by rw [rt_165]; decide)) (zl_I (fun v50 h51 => ?_))
            refine zl_tr (r_if_eq (tgt := 152) d_178_145 (by decide)) (zl_if ?_ ?_)
            · skip
              refine zl_tr (r_aload_n d_178_152 rfl) ?_
              refine zl_tr (r_ldc2 d_178_153 ow_178 lng_12_297) ?_
              refine zl_tr (r_VI [zm_A 146, zm_L 495756340332] d_178_156 ow_178 cal_12_351 na_165 rfl rfl (Nat.le_of_ble_eq_true rfl) (by rw [rk_165]; decide) (zr_rcv la_146 ow_165) (zr_im mx_165 rfl (Nat.le_of_ble_eq_true rfl)) (by rw [rt_165]; decide)) (zl_I (fun v52 h53 => ?_))
              refine zl_tr (r_if_eq (tgt := 166) d_178_159 (by decide)) (zl_if ?_ ?_)
              · skip
                refine zl_tr (r_iconst d_178_166 (by decide)) ?_
                refine zl_tr (r_iastore d_178_167 la_156) (zl_ck ?_)
                refine zl_tr (r_aload_n d_178_168 rfl) ?_
                refine zl_tr (r_getR d_178_169 ow_178 f_12_78 la_146 (by decide) fr_146_22) ?_
                refine zl_tr (r_iload_n d_178_172 rfl) ?_
                refine zl_tr (r_iaload d_178_173 la_156) (zl_ck ?_)
                refine zl_tr (r_iconst d_178_174 (by decide)) ?_
                refine zl_tr (r_icmp_ne (tgt := 187) d_178_175 (by decide)) (zl_if ?_ ?_)
                · skip
                  refine zl_tr (r_aload_n d_178_178 rfl) ?_
                  refine zl_tr (r_iconst d_178_179 (by decide)) ?_
                  refine zl_tr (r_aload_n d_178_180 rfl) ?_
                  refine zl_tr (r_getI (kk := 4) d_178_181 ow_178 f_12_23 la_146 (by decide) rfl) ?_
                  refine zl_tr (r_VV [zm_A 146, zm_I 1, zm_I ((zm_wr h53 156 ((8 * (h36 146 34)) + (h36 153 (h36 146 34))) (-1)) 146 4)] d_178_184 ow_178 cal_12_257 na_164 rfl rfl (Nat.le_of_ble_eq_true rfl) (by rw [rk_164]; decide) (zr_rcv la_146 ow_164) (zr_im mx_164 rfl (Nat.le_of_ble_eq_true rfl)) rt_164) (zl_V (fun h54 => ?_))
                  refine zl_tr (r_aload_n d_178_187 rfl) ?_
                  refine zl_tr (r_getI (kk := 8) d_178_188 ow_178 f_12_36 la_146 (by decide) rfl) ?_
                  refine zl_tr (r_if_le (tgt := 195) d_178_191 (by decide)) (zl_if ?_ ?_)
                  · skip
                    refine zl_tr (r_aload_n d_178_195 rfl) ?_
                    refine zl_tr (r_VV [zm_A 146] d_178_196 ow_178 cal_12_274 na_159 rfl rfl (Nat.le_of_ble_eq_true rfl) (by rw [rk_159]; decide) (zr_rcv la_146 ow_159) (zr_im mx_159 rfl (Nat.le_of_ble_eq_true rfl)) rt_159) (zl_V (fun h55 => ?_))
                    refine zl_tr (r_iconst d_178_199 (by decide)) ?_
                    refine zl_tr (r_istore_n (loc' := [zm_A 146, zm_I ((8 * (h36 146 34)) + (h36 153 (h36 146 34))), zm_I 0]) d_178_200 (Nat.le_of_ble_eq_true rfl) rfl) ?_
                    exact zl_rf
                  · skip
                    exact r_vret d_178_194 rt_178
                · skip
                  refine zl_tr (r_aload_n d_178_187 rfl) ?_
                  refine zl_tr (r_getI (kk := 8) d_178_188 ow_178 f_12_36 la_146 (by decide) rfl) ?_
                  refine zl_tr (r_if_le (tgt := 195) d_178_191 (by decide)) (zl_if ?_ ?_)
                  · skip
                    refine zl_tr (r_aload_n d_178_195 rfl) ?_
                    refine zl_tr (r_VV [zm_A 146] d_178_196 ow_178 cal_12_274 na_159 rfl rfl (Nat.le_of_ble_eq_true rfl) (by rw [rk_159]; decide) (zr_rcv la_146 ow_159) (zr_im mx_159 rfl (Nat.le_of_ble_eq_true rfl)) rt_159) (zl_V (fun h56 => ?_))
                    refine zl_tr (r_iconst d_178_199 (by decide)) ?_
                    refine zl_tr (r_istore_n (loc' := [zm_A 146, zm_I ((8 * (h36 146 34)) + (h36 153 (h36 146 34))), zm_I 0]) d_178_200 (Nat.le_of_ble_eq_true rfl) rfl) ?_
                    exact zl_rf
                  · skip
                    exact r_vret d_178_194 rt_178
              · skip
                refine zl_tr (r_iconst d_178_162 (by decide)) ?_
                refine zl_tr (r_goto (tgt := 167) d_178_163 (by decide)) ?_
                refine zl_tr (r_iastore d_178_167 la_156) (zl_ck ?_)
                refine zl_tr (r_aload_n d_178_168 rfl) ?_
                refine zl_tr (r_getR d_178_169 ow_178 f_12_78 la_146 (by decide) fr_146_22) ?_
                refine zl_tr (r_iload_n d_178_172 rfl) ?_
                refine zl_tr (r_iaload d_178_173 la_156) (zl_ck ?_)
                refine zl_tr (r_iconst d_178_174 (by decide)) ?_
                refine zl_tr (r_icmp_ne (tgt := 187) d_178_175 (by decide)) (zl_if ?_ ?_)
                · skip
                  refine zl_tr (r_aload_n d_178_178 rfl) ?_
                  refine zl_tr (r_iconst d_178_179 (by decide)) ?_
                  refine zl_tr (r_aload_n d_178_180 rfl) ?_
                  refine zl_tr (r_getI (kk := 4) d_178_181 ow_178 f_12_23 la_146 (by decide) rfl) ?_
                  refine zl_tr (r_VV [zm_A 146, zm_I 1, zm_I ((zm_wr h53 156 ((8 * (h36 146 34)) + (h36 153 (h36 146 34))) 3) 146 4)] d_178_184 ow_178 cal_12_257 na_164 rfl rfl (Nat.le_of_ble_eq_true rfl) (by rw [rk_164]; decide) (zr_rcv la_146 ow_164) (zr_im mx_164 rfl (Nat.le_of_ble_eq_true rfl)) rt_164) (zl_V (fun h57 => ?_))
                  refine zl_tr (r_aload_n d_178_187 rfl) ?_
                  refine zl_tr (r_getI (kk := 8) d_178_188 ow_178 f_12_36 la_146 (by decide) rfl) ?_
                  refine zl_tr (r_if_le (tgt := 195) d_178_191 (by decide)) (zl_if ?_ ?_)
                  · skip
                    refine zl_tr (r_aload_n d_178_195 rfl) ?_
                    refine zl_tr (r_VV [zm_A 146] d_178_196 ow_178 cal_12_274 na_159 rfl rfl (Nat.le_of_ble_eq_true rfl) (by rw [rk_159]; decide) (zr_rcv la_146 ow_159) (zr_im mx_159 rfl (Nat.le_of_ble_eq_true rfl)) rt_159) (zl_V (fun h58 => ?_))
                    refine zl_tr (r_iconst d_178_199 (by decide)) ?_
                    refine zl_tr (r_istore_n (loc' := [zm_A 146, zm_I ((8 * (h36 146 34)) + (h36 153 (h36 146 34))), zm_I 0]) d_178_200 (Nat.le_of_ble_eq_true rfl) rfl) ?_
                    exact zl_rf
                  · skip
                    exact r_vret d_178_194 rt_178
                · skip
                  refine zl_tr (r_aload_n d_178_187 rfl) ?_
                  refine zl_tr (r_getI (kk := 8) d_178_188 ow_178 f_12_36 la_146 (by decide) rfl) ?_
                  refine zl_tr (r_if_le (tgt := 195) d_178_191 (by decide)) (zl_if ?_ ?_)
                  · skip
                    refine zl_tr (r_aload_n d_178_195 rfl) ?_
                    refine zl_tr (r_VV [zm_A 146] d_178_196 ow_178 cal_12_274 na_159 rfl rfl (Nat.le_of_ble_eq_true rfl) (by rw [rk_159]; decide) (zr_rcv la_146 ow_159) (zr_im mx_159 rfl (Nat.le_of_ble_eq_true rfl)) rt_159) (zl_V (fun h59 => ?_))
                    refine zl_tr (r_iconst d_178_199 (by decide)) ?_
                    refine zl_tr (r_istore_n (loc' := [zm_A 146, zm_I ((8 * (h36 146 34)) + (h36 153 (h36 146 34))), zm_I 0]) d_178_200 (Nat.le_of_ble_eq_true rfl) rfl) ?_
                    exact zl_rf
                  · skip
                    exact r_vret d_178_194 rt_178
            · skip
              refine zl_tr (r_iconst d_178_148 (by decide)) ?_
              refine zl_tr (r_goto (tgt := 167) d_178_149 (by decide)) ?_
              refine zl_tr (r_iastore d_178_167 la_156) (zl_ck ?_)
              refine zl_tr (r_aload_n d_178_168 rfl) ?_
              refine zl_tr (r_getR d_178_169 ow_178 f_12_78 la_146 (by decide) fr_146_22) ?_
              refine zl_tr (r_iload_n d_178_172 rfl) ?_
              refine zl_tr (r_iaload d_178_173 la_156) (zl_ck ?_)
              refine zl_tr (r_iconst d_178_174 (by decide)) ?_
              refine zl_tr (r_icmp_ne (tgt := 187) d_178_175 (by decide)) (zl_if ?_ ?_)
              · skip
                refine zl_tr (r_aload_n d_178_178 rfl) ?_
                refine zl_tr (r_iconst d_178_179 (by decide)) ?_
                refine zl_tr (r_aload_n d_178_180 rfl) ?_
                refine zl_tr (r_getI (kk := 4) d_178_181 ow_178 f_12_23 la_146 (by decide) rfl) ?_
                refine zl_tr (r_VV [zm_A 146, zm_I 1, zm_I ((zm_wr h51 156 ((8 * (h36 146 34)) + (h36 153 (h36 146 34))) 2) 146 4)] d_178_184 ow_178 cal_12_257 na_164 rfl rfl (Nat.le_of_ble_eq_true rfl) (by rw [rk_164]; decide) (zr_rcv la_146 ow_164) (zr_im mx_164 rfl (Nat.le_of_ble_eq_true rfl)) rt_164) (zl_V (fun h60 => ?_))
                refine zl_tr (r_aload_n d_178_187 rfl) ?_
                refine zl_tr (r_getI (kk := 8) d_178_188 ow_178 f_12_36 la_146 (by decide) rfl) ?_
                refine zl_tr (r_if_le (tgt := 195) d_178_191 (by decide)) (zl_if ?_ ?_)
                · skip
                  refine zl_tr (r_aload_n d_178_195 rfl) ?_
                  refine zl_tr (r_VV [zm_A 146] d_178_196 ow_178 cal_12_274 na_159 rfl rfl (Nat.le_of_ble_eq_true rfl) (by rw [rk_159]; decide) (zr_rcv la_146 ow_159) (zr_im mx_159 rfl (Nat.le_of_ble_eq_true rfl)) rt_159) (zl_V (fun h61 => ?_))
                  refine zl_tr (r_iconst d_178_199 (by decide)) ?_
                  refine zl_tr (r_istore_n (loc' := [zm_A 146, zm_I ((8 * (h36 146 34)) + (h36 153 (h36 146 34))), zm_I 0]) d_178_200 (Nat.le_of_ble_eq_true rfl) rfl) ?_
                  exact zl_rf
                · skip
                  exact r_vret d_178_194 rt_178
              · skip
                refine zl_tr (r_aload_n d_178_187 rfl) ?_
                refine zl_tr (r_getI (kk := 8) d_178_188 ow_178 f_12_36 la_146 (by decide) rfl) ?_
                refine zl_tr (r_if_le (tgt := 195) d_178_191 (by decide)) (zl_if ?_ ?_)
                · skip
                  refine zl_tr (r_aload_n d_178_195 rfl) ?_
                  refine zl_tr (r_VV [zm_A 146] d_178_196 ow_178 cal_12_274 na_159 rfl rfl (Nat.le_of_ble_eq_true rfl) (by rw [rk_159]; decide) (zr_rcv la_146 ow_159) (zr_im mx_159 rfl (Nat.le_of_ble_eq_true rfl)) rt_159) (zl_V (fun h62 => ?_))
                  refine zl_tr (r_iconst d_178_199 (by decide)) ?_
                  refine zl_tr (r_istore_n (loc' := [zm_A 146, zm_I ((8 * (h36 146 34)) + (h36 153 (h36 146 34))), zm_I 0]) d_178_200 (Nat.le_of_ble_eq_true rfl) rfl) ?_
                  exact zl_rf
                · skip
                  exact r_vret d_178_194 rt_178
          · skip
            refine zl_tr (r_iconst d_178_134 (by decide)) ?_
            refine zl_tr (r_goto (tgt := 167) d_178_135 (by decide)) ?_
            refine zl_tr (r_iastore d_178_167 la_156) (zl_ck ?_)
            refine zl_tr (r_aload_n d_178_168 rfl) ?_
            refine zl_tr (r_getR d_178_169 ow_178 f_12_78 la_146 (by decide) fr_146_22) ?_
            refine zl_tr (r_iload_n d_178_172 rfl) ?_
            refine zl_tr (r_iaload d_178_173 la_156) (zl_ck ?_)
            refine zl_tr (r_iconst d_178_174 (by decide)) ?_
            refine zl_tr (r_icmp_ne (tgt := 187) d_178_175 (by decide)) (zl_if ?_ ?_)
            · skip
              refine zl_tr (r_aload_n d_178_178 rfl) ?_
              refine zl_tr (r_iconst d_178_179 (by decide)) ?_
              refine zl_tr (r_aload_n d_178_180 rfl) ?_
              refine zl_tr (r_getI (kk := 4) d_178_181 ow_178 f_12_23 la_146 (by decide) rfl) ?_
              refine zl_tr (r_VV [zm_A 146, zm_I 1, zm_I ((zm_wr h49 156 ((8 * (h36 146 34)) + (h36 153 (h36 146 34))) 1) 146 4)] d_178_184 ow_178 cal_12_257 na_164 rfl rfl (Nat.le_of_ble_eq_true rfl) (by rw [rk_164]; decide) (zr_rcv la_146 ow_164) (zr_im mx_164 rfl (Nat.le_of_ble_eq_true rfl)) rt_164) (zl_V (fun h63 => ?_))
              refine zl_tr (r_aload_n d_178_187 rfl) ?_
              refine zl_tr (r_getI (kk := 8) d_178_188 ow_178 f_12_36 la_146 (by decide) rfl) ?_
              refine zl_tr (r_if_le (tgt := 195) d_178_191 (by decide)) (zl_if ?_ ?_)
              · skip
                refine zl_tr (r_aload_n d_178_195 rfl) ?_
                refine zl_tr (r_VV [zm_A 146] d_178_196 ow_178 cal_12_274 na_159 rfl rfl (Nat.le_of_ble_eq_true rfl) (by rw [rk_159]; decide) (zr_rcv la_146 ow_159) (zr_im mx_159 rfl (Nat.le_of_ble_eq_true rfl)) rt_159) (zl_V (fun h64 => ?_))
                refine zl_tr (r_iconst d_178_199 (by decide)) ?_
                refine zl_tr (r_istore_n (loc' := [zm_A 146, zm_I ((8 * (h36 146 34)) + (h36 153 (h36 146 34))), zm_I 0]) d_178_200 (Nat.le_of_ble_eq_true rfl) rfl) ?_
                exact zl_rf
              · skip
                exact r_vret d_178_194 rt_178
            · skip
              refine zl_tr (r_aload_n d_178_187 rfl) ?_
              refine zl_tr (r_getI (kk := 8) d_178_188 ow_178 f_12_36 la_146 (by decide) rfl) ?_
              refine zl_tr (r_if_le (tgt := 195) d_178_191 (by decide)) (zl_if ?_ ?_)
              · skip
                refine zl_tr (r_aload_n d_178_195 rfl) ?_
                refine zl_tr (r_VV [zm_A 146] d_178_196 ow_178 cal_12_274 na_159 rfl rfl (Nat.le_of_ble_eq_true rfl) (by rw [rk_159]; decide) (zr_rcv la_146 ow_159) (zr_im mx_159 rfl (Nat.le_of_ble_eq_true rfl)) rt_159) (zl_V (fun h65 => ?_))
                refine zl_tr (r_iconst d_178_199 (by decide)) ?_
                refine zl_tr (r_istore_n (loc' := [zm_A 146, zm_I ((8 * (h36 146 34)) + (h36 153 (h36 146 34))), zm_I 0]) d_178_200 (Nat.le_of_ble_eq_true rfl) rfl) ?_
                exact zl_rf
              · skip
                exact r_vret d_178_194 rt_178
        · skip
          refine zl_tr (r_iconst d_178_120 (by decide)) ?_
          refine zl_tr (r_goto (tgt := 167) d_178_121 (by decide)) ?_
          refine zl_tr (r_iastore d_178_167 la_156) (zl_ck ?_)
          refine zl_tr (r_aload_n d_178_168 rfl) ?_
          refine zl_tr (r_getR d_178_169 ow_178 f_12_78 la_146 (by decide) fr_146_22) ?_
          refine zl_tr (r_iload_n d_178_172 rfl) ?_
          refine zl_tr (r_iaload d_178_173 la_156) (zl_ck ?_)
          refine zl_tr (r_iconst d_178_174 (by decide)) ?_
          refine zl_tr (r_icmp_ne (tgt := 187) d_178_175 (by decide)) (zl_if ?_ ?_)
          · skip
            refine zl_tr (r_aload_n d_178_178 rfl) ?_
            refine zl_tr (r_iconst d_178_179 (by decide)) ?_
            refine zl_tr (r_aload_n d_178_180 rfl) ?_
            refine zl_tr (r_getI (kk := 4) d_178_181 ow_178 f_12_23 la_146 (by decide) rfl) ?_
            refine zl_tr (r_VV [zm_A 146, zm_I 1, zm_I ((zm_wr h47 156 ((8 * (h36 146 34)) + (h36 153 (h36 146 34))) 0) 146 4)] d_178_184 ow_178 cal_12_257 na_164 rfl rfl (Nat.le_of_ble_eq_true rfl) (by rw [rk_164]; decide) (zr_rcv la_146 ow_164) (zr_im mx_164 rfl (Nat.le_of_ble_eq_true rfl)) rt_164) (zl_V (fun h66 => ?_))
            refine zl_tr (r_aload_n d_178_187 rfl) ?_
            refine zl_tr (r_getI (kk := 8) d_178_188 ow_178 f_12_36 la_146 (by decide) rfl) ?_
            refine zl_tr (r_if_le (tgt := 195) d_178_191 (by decide)) (zl_if ?_ ?_)
            · skip
              refine zl_tr (r_aload_n d_178_195 rfl) ?_
              refine zl_tr (r_VV [zm_A 146] d_178_196 ow_178 cal_12_274 na_159 rfl rfl (Nat.le_of_ble_eq_true rfl) (by rw [rk_159]; decide) (zr_rcv la_146 ow_159) (zr_im mx_159 rfl (Nat.le_of_ble_eq_true rfl)) rt_159) (zl_V (fun h67 => ?_))
              refine zl_tr (r_iconst d_178_199 (by decide)) ?_
              refine zl_tr (r_istore_n (loc' := [zm_A 146, zm_I ((8 * (h36 146 34)) + (h36 153 (h36 146 34))), zm_I 0]) d_178_200 (Nat.le_of_ble_eq_true rfl) rfl) ?_
              exact zl_rf
            · skip
              exact r_vret d_178_194 rt_178
          · skip
            refine zl_tr (r_aload_n d_178_187 rfl) ?_
            refine zl_tr (r_getI (kk := 8) d_178_188 ow_178 f_12_36 la_146 (by decide) rfl) ?_
            refine zl_tr (r_if_le (tgt := 195) d_178_191 (by decide)) (zl_if ?_ ?_)
            · skip
              refine zl_tr (r_aload_n d_178_195 rfl) ?_
              refine zl_tr (r_VV [zm_A 146] d_178_196 ow_178 cal_12_274 na_159 rfl rfl (Nat.le_of_ble_eq_true rfl) (by rw [rk_159]; decide) (zr_rcv la_146 ow_159) (zr_im mx_159 rfl (Nat.le_of_ble_eq_true rfl)) rt_159) (zl_V (fun h68 => ?_))
              refine zl_tr (r_iconst d_178_199 (by decide)) ?_
              refine zl_tr (r_istore_n (loc' := [zm_A 146, zm_I ((8 * (h36 146 34)) + (h36 153 (h36 146 34))), zm_I 0]) d_178_200 (Nat.le_of_ble_eq_true rfl) rfl) ?_
              exact zl_rf
            · skip
              exact r_vret d_178_194 rt_178
      · skip
        exact r_vret d_178_104 rt_178
-- BranTubModel.childing, from 201
set_option maxRecDepth 20000 in
theorem e_178_201 {h : zm_H} {x1 : Int} {x2 : Int} : zl (if x2 < 8 then (zm_ck (zm_i32 (8 * x1)) (zm_ck (zm_i32 ((8 * x1) + x2)) (zm_ck (0 ≤ (h 146 34) ∧ (h 146 34) < ((2 : Nat) : Int)) (if x2 < (h 148 (h 146 34)) then (zm_ck (zm_i32 (8 * (h 146 34))) (zm_ck (zm_i32 ((8 * (h 146 34)) + x2)) (zm_ck (0 ≤ ((8 * (h 146 34)) + x2) ∧ ((8 * (h 146 34)) + x2) < ((16 : Nat) : Int)) (zm_ck (0 ≤ ((8 * x1) + x2) ∧ ((8 * x1) + x2) < ((128 : Nat) : Int)) (zm_ck (zm_i32 (x2 + 1)) (zr none 4 178 201 [zm_A 146, zm_I x1, zm_I (x2 + 1)] [] (zm_wr h 157 ((8 * x1) + x2) (h 149 ((8 * (h 146 34)) + x2))))))))) else (zm_ck (0 ≤ ((8 * x1) + x2) ∧ ((8 * x1) + x2) < ((128 : Nat) : Int)) (zm_ck (zm_i32 (x2 + 1)) (zr none 4 178 201 [zm_A 146, zm_I x1, zm_I (x2 + 1)] [] (zm_wr h 157 ((8 * x1) + x2) 0)))))))) else (zm_ck (0 ≤ (h 146 34) ∧ (h 146 34) < ((2 : Nat) : Int)) (zm_ck (zm_i32 ((h 153 (h 146 34)) + 1)) (zm_ck (0 ≤ (h 146 34) ∧ (h 146 34) < ((2 : Nat) : Int)) (some (zm_U, (zm_wr h 153 (h 146 34) ((h 153 (h 146 34)) + 1)))))))) (zr none 4 178 201 [zm_A 146, zm_I x1, zm_I x2] [] h) := by
  refine zl_tr (r_iload_n d_178_201 rfl) ?_
  refine zl_tr (r_bipush d_178_202 (by decide)) ?_
  refine zl_tr (r_icmp_ge (tgt := 255) d_178_204 (by decide)) (zl_if ?_ ?_)
  · skip
    refine zl_tr (r_aload_n d_178_207 rfl) ?_
    refine zl_tr (r_getR d_178_208 ow_178 f_12_81 la_146 (by decide) fr_146_23) ?_
    refine zl_tr (r_bipush d_178_211 (by decide)) ?_
    refine zl_tr (r_iload_n d_178_213 rfl) ?_
    refine zl_tr (r_imul d_178_214) (zl_ck ?_)
    refine zl_tr (r_iload_n d_178_215 rfl) ?_
    refine zl_tr (r_iadd d_178_216) (zl_ck ?_)
    refine zl_tr (r_iload_n d_178_217 rfl) ?_
    refine zl_tr (r_aload_n d_178_218 rfl) ?_
    refine zl_tr (r_getR d_178_219 ow_178 f_12_54 la_146 (by decide) fr_146_14) ?_
    refine zl_tr (r_aload_n d_178_222 rfl) ?_
    refine zl_tr (r_getI (kk := 34) d_178_223 ow_178 f_12_115 la_146 (by decide) rfl) ?_
    refine zl_tr (r_iaload d_178_226 la_148) (zl_ck ?_)
    refine zl_tr (r_icmp_ge (tgt := 247) d_178_227 (by decide)) (zl_if ?_ ?_)
    · skip
      refine zl_tr (r_aload_n d_178_230 rfl) ?_
      refine zl_tr (r_getR d_178_231 ow_178 f_12_57 la_146 (by decide) fr_146_15) ?_
      refine zl_tr (r_bipush d_178_234 (by decide)) ?_
      refine zl_tr (r_aload_n d_178_236 rfl) ?_
      refine zl_tr (r_getI (kk := 34) d_178_237 ow_178 f_12_115 la_146 (by decide) rfl) ?_
      refine zl_tr (r_imul d_178_240) (zl_ck ?_)
      refine zl_tr (r_iload_n d_178_241 rfl) ?_
      refine zl_tr (r_iadd d_178_242) (zl_ck ?_)
      refine zl_tr (r_iaload d_178_243 la_149) (zl_ck ?_)
      refine zl_tr (r_goto (tgt := 248) d_178_244 (by decide)) ?_
      refine zl_tr (r_iastore d_178_248 la_157) (zl_ck ?_)
      refine zl_tr (r_iinc (loc' := [zm_A 146, zm_I x1, zm_I (x2 + 1)]) d_178_249 rfl (Nat.le_of_ble_eq_true rfl) rfl) (zl_ck ?_)
      refine zl_tr (r_goto (tgt := 201) d_178_252 (by decide)) ?_
      exact zl_rf
    · skip
      refine zl_tr (r_iconst d_178_247 (by decide)) ?_
      refine zl_tr (r_iastore d_178_248 la_157) (zl_ck ?_)
      refine zl_tr (r_iinc (loc' := [zm_A 146, zm_I x1, zm_I (x2 + 1)]) d_178_249 rfl (Nat.le_of_ble_eq_true rfl) rfl) (zl_ck ?_)
      refine zl_tr (r_goto (tgt := 201) d_178_252 (by decide)) ?_
      exact zl_rf
  · skip
    refine zl_tr (r_aload_n d_178_255 rfl) ?_
    refine zl_tr (r_getR d_178_256 ow_178 f_12_69 la_146 (by decide) fr_146_19) ?_
    refine zl_tr (r_aload_n d_178_259 rfl) ?_
    refine zl_tr (r_getI (kk := 34) d_178_260 ow_178 f_12_115 la_146 (by decide) rfl) ?_
    refine zl_tr (r_dup2 d_178_263 ⟨rfl, rfl⟩) ?_
    refine zl_tr (r_iaload d_178_264 la_153) (zl_ck ?_)
    refine zl_tr (r_iconst d_178_265 (by decide)) ?_
    refine zl_tr (r_iadd d_178_266) (zl_ck ?_)
    refine zl_tr (r_iastore d_178_267 la_153) (zl_ck ?_)
    exact r_vret d_178_268 rt_178
-- BranTubModel.liking
set_option maxRecDepth 20000 in
theorem e_179 {h : zm_H}  : zl (zk_I (zc 167 [zm_A 146, zm_I 0] h) (fun v1 h2 => if v1 = 0 then (some (zm_U, h2)) else (zk_I (zc 180 [zm_A 146, zm_I 1] h2) (fun v3 h4 => zk_I (zc 180 [zm_A 146, zm_I 0] h4) (fun v5 h6 => zk_I (zc 174 [zm_A 146, zm_I 0, zm_I 99] h6) (fun v7 h8 => if (h8 146 8) = 0 then (zm_ck (zm_i32 (8 * (h8 146 34))) (zm_ck (zm_i32 ((8 * (h8 146 34)) + v3)) (zm_ck (zm_i32 (8 * ((8 * (h8 146 34)) + v3))) (zm_ck (zm_i32 ((8 * ((8 * (h8 146 34)) + v3)) + v5)) (zm_ck (0 ≤ ((8 * ((8 * (h8 146 34)) + v3)) + v5) ∧ ((8 * ((8 * (h8 146 34)) + v3)) + v5) < ((128 : Nat) : Int)) (some (zm_U, (zm_wr h8 157 ((8 * ((8 * (h8 146 34)) + v3)) + v5) v7)))))))) else (some (zm_U, h8)))))))) (zc 179 [zm_A 146] h) := by
  rw [zc_eq (loc := [zm_A 146, zm_U, zm_U, zm_U]) (rk_179 _) rfl]
  refine zl_tr (r_aload_n d_179_0 rfl) ?_
  refine zl_tr (r_iconst d_179_1 (by decide)) ?_
  refine zl_tr (r_VI [zm_A 146, zm_I 0] d_179_2 ow_179 cal_12_380 na_167 rfl rfl (Nat.le_of_ble_eq_true rfl) (by rw [rk_167]; decide) (zr_rcv la_146 ow_167) (zr_im mx_167 rfl (Nat.le_of_ble_eq_true rfl)) (by rw [rt_167]; decide)) (zl_I (fun v1 h2 => ?_))
  refine zl_tr (r_if_ne (tgt := 9) d_179_5 (by decide)) (zl_if ?_ ?_)
  · skip
    exact r_vret d_179_8 rt_179
  · skip
    refine zl_tr (r_aload_n d_179_9 rfl) ?_
    refine zl_tr (r_iconst d_179_10 (by decide)) ?_
    refine zl_tr (r_VI [zm_A 146, zm_I 1] d_179_11 ow_179 cal_12_395 na_180 rfl rfl (Nat.le_of_ble_eq_true rfl) (by rw [rk_180]; decide) (zr_rcv la_146 ow_180) (zr_im mx_180 rfl (Nat.le_of_ble_eq_true rfl)) (by rw [rt_180]; decide)) (zl_I (fun v3 h4 => ?_))
    refine zl_tr (r_istore_n (loc' := [zm_A 146, zm_I v3, zm_U, zm_U]) d_179_14 (Nat.le_of_ble_eq_true rfl) rfl) ?_
    refine zl_tr (r_aload_n d_179_15 rfl) ?_
    refine zl_tr (r_iconst d_179_16 (by decide)) ?_
    refine zl_tr (r_VI [zm_A 146, zm_I 0] d_179_17 ow_179 cal_12_395 na_180 rfl rfl (Nat.le_of_ble_eq_true rfl) (by rw [rk_180]; decide) (zr_rcv la_146 ow_180) (zr_im mx_180 rfl (Nat.le_of_ble_eq_true rfl)) (by rw [rt_180]; decide)) (zl_I (fun v5 h6 => ?_))
    refine zl_tr (r_istore_n (loc' := [zm_A 146, zm_I v3, zm_I v5, zm_U]) d_179_20 (Nat.le_of_ble_eq_true rfl) rfl) ?_
    refine zl_tr (r_aload_n d_179_21 rfl) ?_
    refine zl_tr (r_iconst d_179_22 (by decide)) ?_
    refine zl_tr (r_bipush d_179_23 (by decide)) ?_
    refine zl_tr (r_VI [zm_A 146, zm_I 0, zm_I 99] d_179_25 ow_179 cal_12_392 na_174 rfl rfl (Nat.le_of_ble_eq_true rfl) (by rw [rk_174]; decide) (zr_rcv la_146 ow_174) (zr_im mx_174 rfl (Nat.le_of_ble_eq_true rfl)) (by rw [rt_174]; decide)) (zl_I (fun v7 h8 => ?_))
    refine zl_tr (r_istore_n (loc' := [zm_A 146, zm_I v3, zm_I v5, zm_I v7]) d_179_28 (Nat.le_of_ble_eq_true rfl) rfl) ?_
    refine zl_tr (r_aload_n d_179_29 rfl) ?_
    refine zl_tr (r_getI (kk := 8) d_179_30 ow_179 f_12_36 la_146 (by decide) rfl) ?_
    refine zl_tr (r_if_ne (tgt := 56) d_179_33 (by decide)) (zl_if ?_ ?_)
    · skip
      refine zl_tr (r_aload_n d_179_36 rfl) ?_
      refine zl_tr (r_getR d_179_37 ow_179 f_12_81 la_146 (by decide) fr_146_23) ?_
      refine zl_tr (r_bipush d_179_40 (by decide)) ?_
      refine zl_tr (r_bipush d_179_42 (by decide)) ?_
      refine zl_tr (r_aload_n d_179_44 rfl) ?_
      refine zl_tr (r_getI (kk := 34) d_179_45 ow_179 f_12_115 la_146 (by decide) rfl) ?_
      refine zl_tr (r_imul d_179_48) (zl_ck ?_)
      refine zl_tr (r_iload_n d_179_49 rfl) ?_
      refine zl_tr (r_iadd d_179_50) (zl_ck ?_)
      refine zl_tr (r_imul d_179_51) (zl_ck ?_)
      refine zl_tr (r_iload_n d_179_52 rfl) ?_
      refine zl_tr (r_iadd d_179_53) (zl_ck ?_)
      refine zl_tr (r_iload_n d_179_54 rfl) ?_
      refine zl_tr (r_iastore d_179_55 la_157) (zl_ck ?_)
      exact r_vret d_179_56 rt_179
    · skip
      exact r_vret d_179_56 rt_179
-- BranTubModel.asked
set_option maxRecDepth 20000 in
theorem e_180 {h : zm_H} {x1 : Int} : zl (zk_I (zc 177 [zm_A 146, zm_I x1] h) (fun v1 h2 => if (h2 146 8) = 0 then (zk_V (zc 159 [zm_A 146] h2) (fun h3 => if (h3 146 8) ≤ 0 then (some (zm_I v1, h3)) else (some (zm_I 0, h3)))) else (if (h2 146 8) ≤ 0 then (some (zm_I v1, h2)) else (some (zm_I 0, h2))))) (zc 180 [zm_A 146, zm_I x1] h) := by
  rw [zc_eq (loc := [zm_A 146, zm_I x1, zm_U]) (rk_180 _) rfl]
  refine zl_tr (r_aload_n d_180_0 rfl) ?_
  refine zl_tr (r_iload_n d_180_1 rfl) ?_
  refine zl_tr (r_VI [zm_A 146, zm_I x1] d_180_2 ow_180 cal_12_377 na_177 rfl rfl (Nat.le_of_ble_eq_true rfl) (by rw [rk_177]; decide) (zr_rcv la_146 ow_177) (zr_im mx_177 rfl (Nat.le_of_ble_eq_true rfl)) (by rw [rt_177]; decide)) (zl_I (fun v1 h2 => ?_))
  refine zl_tr (r_istore_n (loc' := [zm_A 146, zm_I x1, zm_I v1]) d_180_5 (Nat.le_of_ble_eq_true rfl) rfl) ?_
  refine zl_tr (r_aload_n d_180_6 rfl) ?_
  refine zl_tr (r_getI (kk := 8) d_180_7 ow_180 f_12_36 la_146 (by decide) rfl) ?_
  refine zl_tr (r_if_ne (tgt := 17) d_180_10 (by decide)) (zl_if ?_ ?_)
  · skip
    refine zl_tr (r_aload_n d_180_13 rfl) ?_
    refine zl_tr (r_VV [zm_A 146] d_180_14 ow_180 cal_12_274 na_159 rfl rfl (Nat.le_of_ble_eq_true rfl) (by rw [rk_159]; decide) (zr_rcv la_146 ow_159) (zr_im mx_159 rfl (Nat.le_of_ble_eq_true rfl)) rt_159) (zl_V (fun h3 => ?_))
    refine zl_tr (r_aload_n d_180_17 rfl) ?_
    refine zl_tr (r_getI (kk := 8) d_180_18 ow_180 f_12_36 la_146 (by decide) rfl) ?_
    refine zl_tr (r_if_le (tgt := 28) d_180_21 (by decide)) (zl_if ?_ ?_)
    · skip
      refine zl_tr (r_iload_n d_180_28 rfl) ?_
      exact r_iret d_180_29 rt_180
    · skip
      refine zl_tr (r_iconst d_180_24 (by decide)) ?_
      refine zl_tr (r_goto (tgt := 29) d_180_25 (by decide)) ?_
      exact r_iret d_180_29 rt_180
  · skip
    refine zl_tr (r_aload_n d_180_17 rfl) ?_
    refine zl_tr (r_getI (kk := 8) d_180_18 ow_180 f_12_36 la_146 (by decide) rfl) ?_
    refine zl_tr (r_if_le (tgt := 28) d_180_21 (by decide)) (zl_if ?_ ?_)
    · skip
      refine zl_tr (r_iload_n d_180_28 rfl) ?_
      exact r_iret d_180_29 rt_180
    · skip
      refine zl_tr (r_iconst d_180_24 (by decide)) ?_
      refine zl_tr (r_goto (tgt := 29) d_180_25 (by decide)) ?_
      exact r_iret d_180_29 rt_180
-- BranTubModel.costing
set_option maxRecDepth 20000 in
theorem e_181 {h : zm_H}  : zl (zm_ck (0 ≤ (h 146 34) ∧ (h 146 34) < ((2 : Nat) : Int)) (if (h 159 (h 146 34)) = (-1) then (zk_I (zc 167 [zm_A 146, zm_I 0] h) (fun v1 h2 => if v1 = 0 then (some (zm_U, h2)) else (zm_ck (0 ≤ (h2 146 34) ∧ (h2 146 34) < ((2 : Nat) : Int)) (zk_V (zc 182 [zm_A 146, zm_I 0] (zm_wr h2 159 (h2 146 34) (h2 146 33))) (fun h3 => zm_ck (0 ≤ (h3 146 34) ∧ (h3 146 34) < ((2 : Nat) : Int)) (some (zm_U, (zm_wr h3 160 (h3 146 34) (h3 146 33))))))))) else (zk_I (zc 167 [zm_A 146, zm_I 1] h) (fun v4 h5 => if v4 = 0 then (some (zm_U, h5)) else (zm_ck (0 ≤ (h5 146 34) ∧ (h5 146 34) < ((2 : Nat) : Int)) (zk_V (zc 182 [zm_A 146, zm_I 0] (zm_wr h5 159 (h5 146 34) (h5 146 33))) (fun h6 => zm_ck (0 ≤ (h6 146 34) ∧ (h6 146 34) < ((2 : Nat) : Int)) (some (zm_U, (zm_wr h6 160 (h6 146 34) (h6 146 33))))))))))) (zc 181 [zm_A 146] h) := by
  rw [zc_eq (loc := [zm_A 146]) (rk_181 _) rfl]
  refine zl_tr (r_aload_n d_181_0 rfl) ?_
  refine zl_tr (r_aload_n d_181_1 rfl) ?_
  refine zl_tr (r_getR d_181_2 ow_181 f_12_87 la_146 (by decide) fr_146_25) ?_
  refine zl_tr (r_aload_n d_181_5 rfl) ?_
  refine zl_tr (r_getI (kk := 34) d_181_6 ow_181 f_12_115 la_146 (by decide) rfl) ?_
  refine zl_tr (r_iaload d_181_9 la_159) (zl_ck ?_)
  refine zl_tr (r_iconst d_181_10 (by decide)) ?_
  refine zl_tr (r_icmp_eq (tgt := 18) d_181_11 (by decide)) (zl_if ?_ ?_)
  · skip
    refine zl_tr (r_iconst d_181_18 (by decide)) ?_
    refine zl_tr (r_VI [zm_A 146, zm_I 0] d_181_19 ow_181 cal_12_380 na_167 rfl rfl (Nat.le_of_ble_eq_true rfl) (by rw [rk_167]; decide) (zr_rcv la_146 ow_167) (zr_im mx_167 rfl (Nat.le_of_ble_eq_true rfl)) (by rw [rt_167]; decide)) (zl_I (fun v1 h2 => ?_))
    refine zl_tr (r_if_ne (tgt := 26) d_181_22 (by decide)) (zl_if ?_ ?_)
    · skip
      exact r_vret d_181_25 rt_181
    · skip
      refine zl_tr (r_aload_n d_181_26 rfl) ?_
      refine zl_tr (r_getR d_181_27 ow_181 f_12_87 la_146 (by decide) fr_146_25) ?_
      refine zl_tr (r_aload_n d_181_30 rfl) ?_
      refine zl_tr (r_getI (kk := 34) d_181_31 ow_181 f_12_115 la_146 (by decide) rfl) ?_
      refine zl_tr (r_aload_n d_181_34 rfl) ?_
      refine zl_tr (r_getI (kk := 33) d_181_35 ow_181 f_12_112 la_146 (by decide) rfl) ?_
      refine zl_tr (r_iastore d_181_38 la_159) (zl_ck ?_)
      refine zl_tr (r_aload_n d_181_39 rfl) ?_
      refine zl_tr (r_iconst d_181_40 (by decide)) ?_
      refine zl_tr (r_VV [zm_A 146, zm_I 0] d_181_41 ow_181 cal_12_398 na_182 rfl rfl (Nat.le_of_ble_eq_true rfl) (by rw [rk_182]; decide) (zr_rcv la_146 ow_182) (zr_im mx_182 rfl (Nat.le_of_ble_eq_true rfl)) rt_182) (zl_V (fun h3 => ?_))
      refine zl_tr (r_aload_n d_181_44 rfl) ?_
      refine zl_tr (r_getR d_181_45 ow_181 f_12_90 la_146 (by decide) fr_146_26) ?_
      refine zl_tr (r_aload_n d_181_48 rfl) ?_
      refine zl_tr (r_getI (kk := 34) d_181_49 ow_181 f_12_115 la_146 (by decide) rfl) ?_
      refine zl_tr (r_aload_n d_181_52 rfl) ?_
      refine zl_tr (r_getI (kk := 33) d_181_53 ow_181 f_12_112 la_146 (by decide) rfl) ?_
      refine zl_tr (r_iastore d_181_56 la_160) (zl_ck ?_)
      exact r_vret d_181_57 rt_181
  · skip
    refine zl_tr (r_iconst d_181_14 (by decide)) ?_
    refine zl_tr (r_goto (tgt := 19) d_181_15 (by decide)) ?_
    refine zl_tr (r_VI [zm_A 146, zm_I 1] d_181_19 ow_181 cal_12_380 na_167 rfl rfl (Nat.le_of_ble_eq_true rfl) (by rw [rk_167]; decide) (zr_rcv la_146 ow_167) (zr_im mx_167 rfl (Nat.le_of_ble_eq_true rfl)) (by rw [rt_167]; decide)) (zl_I (fun v4 h5 => ?_))
    refine zl_tr (r_if_ne (tgt := 26) d_181_22 (by decide)) (zl_if ?_ ?_)
    · skip
      exact r_vret d_181_25 rt_181
    · skip
      refine zl_tr (r_aload_n d_181_26 rfl) ?_
      refine zl_tr (r_getR d_181_27 ow_181 f_12_87 la_146 (by decide) fr_146_25) ?_
      refine zl_tr (r_aload_n d_181_30 rfl) ?_
      refine zl_tr (r_getI (kk := 34) d_181_31 ow_181 f_12_115 la_146 (by decide) rfl) ?_
      refine zl_tr (r_aload_n d_181_34 rfl) ?_
      refine zl_tr (r_getI (kk := 33) d_181_35 ow_181 f_12_112 la_146 (by decide) rfl) ?_
      refine zl_tr (r_iastore d_181_38 la_159) (zl_ck ?_)
      refine zl_tr (r_aload_n d_181_39 rfl) ?_
      refine zl_tr (r_iconst d_181_40 (by decide)) ?_
      refine zl_tr (r_VV [zm_A 146, zm_I 0] d_181_41 ow_181 cal_12_398 na_182 rfl rfl (Nat.le_of_ble_eq_true rfl) (by rw [rk_182]; decide) (zr_rcv la_146 ow_182) (zr_im mx_182 rfl (Nat.le_of_ble_eq_true rfl)) rt_182) (zl_V (fun h6 => ?_))
      refine zl_tr (r_aload_n d_181_44 rfl) ?_
      refine zl_tr (r_getR d_181_45 ow_181 f_12_90 la_146 (by decide) fr_146_26) ?_
      refine zl_tr (r_aload_n d_181_48 rfl) ?_
      refine zl_tr (r_getI (kk := 34) d_181_49 ow_181 f_12_115 la_146 (by decide) rfl) ?_
      refine zl_tr (r_aload_n d_181_52 rfl) ?_
      refine zl_tr (r_getI (kk := 33) d_181_53 ow_181 f_12_112 la_146 (by decide) rfl) ?_
      refine zl_tr (r_iastore d_181_56 la_160) (zl_ck ?_)
      exact r_vret d_181_57 rt_181
-- BranTubModel.reads
set_option maxRecDepth 20000 in
theorem e_182 {h : zm_H} {x1 : Int} : zl (if (h 146 8) ≤ 0 then (zm_ck (zm_bit 0) (if x1 = 0 then (zk_V (zc 183 [zm_A 146, zm_I 0] (zm_wr (zm_wr (zm_wr (zm_wr h 146 40 0) 146 41 0) 146 43 0) 146 44 0)) (fun h1 => zr none 5 182 43 [zm_A 146, zm_I x1, zm_I 1] [] h1)) else (zk_V (zc 183 [zm_A 146, zm_I 1] (zm_wr (zm_wr (zm_wr (zm_wr h 146 40 0) 146 41 0) 146 43 0) 146 44 0)) (fun h2 => zr none 5 182 43 [zm_A 146, zm_I x1, zm_I 1] [] h2)))) else (some (zm_U, h))) (zc 182 [zm_A 146, zm_I x1] h) := by
  rw [zc_eq (loc := [zm_A 146, zm_I x1, zm_U]) (rk_182 _) rfl]
  refine zl_tr (r_aload_n d_182_0 rfl) ?_
  refine zl_tr (r_getI (kk := 8) d_182_1 ow_182 f_12_36 la_146 (by decide) rfl) ?_
  refine zl_tr (r_if_le (tgt := 8) d_182_4 (by decide)) (zl_if ?_ ?_)
  · skip
    refine zl_tr (r_aload_n d_182_8 rfl) ?_
    refine zl_tr (r_iconst d_182_9 (by decide)) ?_
    refine zl_tr (r_putI (kk := 40) d_182_10 ow_182 f_12_134 la_146 (by decide) rfl) ?_
    refine zl_tr (r_aload_n d_182_13 rfl) ?_
    refine zl_tr (r_iconst d_182_14 (by decide)) ?_
    refine zl_tr (r_putI (kk := 41) d_182_15 ow_182 f_12_137 la_146 (by decide) rfl) ?_
    refine zl_tr (r_aload_n d_182_18 rfl) ?_
    refine zl_tr (r_iconst d_182_19 (by decide)) ?_
    refine zl_tr (r_putI (kk := 43) d_182_20 ow_182 f_12_143 la_146 (by decide) rfl) ?_
    refine zl_tr (r_aload_n d_182_23 rfl) ?_
    refine zl_tr (r_iconst d_182_24 (by decide)) ?_
    refine zl_tr (r_putZ (kk := 44) d_182_25 ow_182 f_12_146 la_146 (by decide) rfl) (zl_ck ?_)
    refine zl_tr (r_aload_n d_182_28 rfl) ?_
    refine zl_tr (r_iload_n d_182_29 rfl) ?_
    refine zl_tr (r_if_eq (tgt := 37) d_182_30 (by decide)) (zl_if ?_ ?_)
    · skip
      refine zl_tr (r_iconst d_182_37 (by decide)) ?_
      refine zl_tr (r_VV [zm_A 146, zm_I 0] d_182_38 ow_182 cal_12_345 na_183 rfl rfl (Nat.le_of_ble_eq_true rfl) (by rw [rk_183]; decide) (zr_rcv la_146 ow_183) (zr_im mx_183 rfl (Nat.le_of_ble_eq_true rfl)) rt_183) (zl_V (fun h1 => ?_))
      refine zl_tr (r_iconst d_182_41 (by decide)) ?_
      refine zl_tr (r_istore_n (loc' := [zm_A 146, zm_I x1, zm_I 1]) d_182_42 (Nat.le_of_ble_eq_true rfl) rfl) ?_
      exact zl_rf
    · skip
      refine zl_tr (r_iconst d_182_33 (by decide)) ?_
      refine zl_tr (r_goto (tgt := 38) d_182_34 (by decide)) ?_
      refine zl_tr (r_VV [zm_A 146, zm_I 1] d_182_38 ow_182 cal_12_345 na_183 rfl rfl (Nat.le_of_ble_eq_true rfl) (by rw [rk_183]; decide) (zr_rcv la_146 ow_183) (zr_im mx_183 rfl (Nat.le_of_ble_eq_true rfl)) rt_183) (zl_V (fun h2 => ?_))
      refine zl_tr (r_iconst d_182_41 (by decide)) ?_
      refine zl_tr (r_istore_n (loc' := [zm_A 146, zm_I x1, zm_I 1]) d_182_42 (Nat.le_of_ble_eq_true rfl) rfl) ?_
      exact zl_rf
  · skip
    exact r_vret d_182_7 rt_182
-- BranTubModel.reads, from 43
set_option maxRecDepth 20000 in
theorem e_182_43 {h : zm_H} {w1 : zm_V} {x2 : Int} (hw1 : zm_cat w1 ≠ 2) : zl (if x2 = 0 then (some (zm_U, h)) else (if (h 146 44) = 0 then (zk_I (zc 184 [zm_A 146] h) (fun v1 h2 => zm_ck (zm_bit v1) (if x2 = 0 then (zr none 5 182 43 [zm_A 146, w1, zm_I 0] [] (zm_wr h2 146 44 v1)) else (if ((zm_wr h2 146 44 v1) 146 8) = 0 then (zr none 5 182 43 [zm_A 146, w1, zm_I 1] [] (zm_wr h2 146 44 v1)) else (zr none 5 182 43 [zm_A 146, w1, zm_I 0] [] (zm_wr h2 146 44 v1)))))) else (zk_I (zc 190 [zm_A 146] h) (fun v3 h4 => if v3 = 0 then (zr none 5 182 43 [zm_A 146, w1, zm_I 0] [] h4) else (if (h4 146 8) = 0 then (zr none 5 182 43 [zm_A 146, w1, zm_I 1] [] h4) else (zr none 5 182 43 [zm_A 146, w1, zm_I 0] [] h4)))))) (zr none 5 182 43 [zm_A 146, w1, zm_I x2] [] h) := by
  refine zl_tr (r_iload_n d_182_43 rfl) ?_
  refine zl_tr (r_if_eq (tgt := 90) d_182_44 (by decide)) (zl_if ?_ ?_)
  · skip
    exact r_vret d_182_90 rt_182
  · skip
    refine zl_tr (r_aload_n d_182_47 rfl) ?_
    refine zl_tr (r_getI (kk := 44) d_182_48 ow_182 f_12_146 la_146 (by decide) rfl) ?_
    refine zl_tr (r_if_ne (tgt := 65) d_182_51 (by decide)) (zl_if ?_ ?_)
    · skip
      refine zl_tr (r_aload_n d_182_54 rfl) ?_
      refine zl_tr (r_aload_n d_182_55 rfl) ?_
      refine zl_tr (r_VI [zm_A 146] d_182_56 ow_182 cal_12_364 na_184 rfl rfl (Nat.le_of_ble_eq_true rfl) (by rw [rk_184]; decide) (zr_rcv la_146 ow_184) (zr_im mx_184 rfl (Nat.le_of_ble_eq_true rfl)) (by rw [rt_184]; decide)) (zl_I (fun v1 h2 => ?_))
      refine zl_tr (r_putZ (kk := 44) d_182_59 ow_182 f_12_146 la_146 (by decide) rfl) (zl_ck ?_)
      refine zl_tr (r_goto (tgt := 70) d_182_62 (by decide)) ?_
      refine zl_tr (r_iload_n d_182_70 rfl) ?_
      refine zl_tr (r_if_eq (tgt := 85) d_182_71 (by decide)) (zl_if ?_ ?_)
      · skip
        refine zl_tr (r_iconst d_182_85 (by decide)) ?_
        refine zl_tr (r_istore_n (loc' := [zm_A 146, w1, zm_I 0]) d_182_86 (Nat.le_of_ble_eq_true rfl) (zr_k1 rfl hw1 rfl)) ?_
        refine zl_tr (r_goto (tgt := 43) d_182_87 (by decide)) ?_
        exact zl_rf
      · skip
        refine zl_tr (r_aload_n d_182_74 rfl) ?_
        refine zl_tr (r_getI (kk := 8) d_182_75 ow_182 f_12_36 la_146 (by decide) rfl) ?_
        refine zl_tr (r_if_ne (tgt := 85) d_182_78 (by decide)) (zl_if ?_ ?_)
        · skip
          refine zl_tr (r_iconst d_182_81 (by decide)) ?_
          refine zl_tr (r_goto (tgt := 86) d_182_82 (by decide)) ?_
          refine zl_tr (r_istore_n (loc' := [zm_A 146, w1, zm_I 1]) d_182_86 (Nat.le_of_ble_eq_true rfl) (zr_k1 rfl hw1 rfl)) ?_
          refine zl_tr (r_goto (tgt := 43) d_182_87 (by decide)) ?_
          exact zl_rf
        · skip
          refine zl_tr (r_iconst d_182_85 (by decide)) ?_
          refine zl_tr (r_istore_n (loc' := [zm_A 146, w1, zm_I 0]) d_182_86 (Nat.le_of_ble_eq_true rfl) (zr_k1 rfl hw1 rfl)) ?_
          refine zl_tr (r_goto (tgt := 43) d_182_87 (by decide)) ?_
          exact zl_rf
    · skip
      refine zl_tr (r_aload_n d_182_65 rfl) ?_
      refine zl_tr (r_VI [zm_A 146] d_182_66 ow_182 cal_12_367 na_190 rfl rfl (Nat.le_of_ble_eq_true rfl) (by rw [rk_190]; decide) (zr_rcv la_146 ow_190) (zr_im mx_190 rfl (Nat.le_of_ble_eq_true rfl)) (by rw [rt_190]; decide)) (zl_I (fun v3 h4 => ?_))
      refine zl_tr (r_istore_n (loc' := [zm_A 146, w1, zm_I v3]) d_182_69 (Nat.le_of_ble_eq_true rfl) (zr_k1 rfl hw1 rfl)) ?_
      refine zl_tr (r_iload_n d_182_70 rfl) ?_
      refine zl_tr (r_if_eq (tgt := 85) d_182_71 (by decide)) (zl_if ?_ ?_)
      · skip
        refine zl_tr (r_iconst d_182_85 (by decide)) ?_
        refine zl_tr (r_istore_n (loc' := [zm_A 146, w1, zm_I 0]) d_182_86 (Nat.le_of_ble_eq_true rfl) (zr_k1 rfl hw1 rfl)) ?_
        refine zl_tr (r_goto (tgt := 43) d_182_87 (by decide)) ?_
        exact zl_rf
      · skip
        refine zl_tr (r_aload_n d_182_74 rfl) ?_
        refine zl_tr (r_getI (kk := 8) d_182_75 ow_182 f_12_36 la_146 (by decide) rfl) ?_
        refine zl_tr (r_if_ne (tgt := 85) d_182_78 (by decide)) (zl_if ?_ ?_)
        · skip
          refine zl_tr (r_iconst d_182_81 (by decide)) ?_
          refine zl_tr (r_goto (tgt := 86) d_182_82 (by decide)) ?_
          refine zl_tr (r_istore_n (loc' := [zm_A 146, w1, zm_I 1]) d_182_86 (Nat.le_of_ble_eq_true rfl) (zr_k1 rfl hw1 rfl)) ?_
          refine zl_tr (r_goto (tgt := 43) d_182_87 (by decide)) ?_
          exact zl_rf
        · skip
          refine zl_tr (r_iconst d_182_85 (by decide)) ?_
          refine zl_tr (r_istore_n (loc' := [zm_A 146, w1, zm_I 0]) d_182_86 (Nat.le_of_ble_eq_true rfl) (zr_k1 rfl hw1 rfl)) ?_
          refine zl_tr (r_goto (tgt := 43) d_182_87 (by decide)) ?_
          exact zl_rf
-- BranTubModel.pushes
set_option maxRecDepth 20000 in
theorem e_183 {h : zm_H} {x1 : Int} : zl (zm_ck (0 ≤ (h 146 40) ∧ (h 146 40) < ((20 : Nat) : Int)) (zm_ck (0 ≤ ((zm_wr h 167 (h 146 40) x1) 146 40) ∧ ((zm_wr h 167 (h 146 40) x1) 146 40) < ((20 : Nat) : Int)) (zm_ck ((0 ≤ ((zm_wr (zm_wr h 167 (h 146 40) x1) 168 ((zm_wr h 167 (h 146 40) x1) 146 40) 0) 146 40) ∧ ((zm_wr (zm_wr h 167 (h 146 40) x1) 168 ((zm_wr h 167 (h 146 40) x1) 146 40) 0) 146 40) < ((20 : Nat) : Int)) ∧ zm_bit 1) (zm_ck (0 ≤ ((zm_wr (zm_wr (zm_wr h 167 (h 146 40) x1) 168 ((zm_wr h 167 (h 146 40) x1) 146 40) 0) 169 ((zm_wr (zm_wr h 167 (h 146 40) x1) 168 ((zm_wr h 167 (h 146 40) x1) 146 40) 0) 146 40) 1) 146 40) ∧ ((zm_wr (zm_wr (zm_wr h 167 (h 146 40) x1) 168 ((zm_wr h 167 (h 146 40) x1) 146 40) 0) 169 ((zm_wr (zm_wr h 167 (h 146 40) x1) 168 ((zm_wr h 167 (h 146 40) x1) 146 40) 0) 146 40) 1) 146 40) < ((20 : Nat) : Int)) (zm_ck (zm_i32 (((zm_wr (zm_wr (zm_wr (zm_wr h 167 (h 146 40) x1) 168 ((zm_wr h 167 (h 146 40) x1) 146 40) 0) 169 ((zm_wr (zm_wr h 167 (h 146 40) x1) 168 ((zm_wr h 167 (h 146 40) x1) 146 40) 0) 146 40) 1) 171 ((zm_wr (zm_wr (zm_wr h 167 (h 146 40) x1) 168 ((zm_wr h 167 (h 146 40) x1) 146 40) 0) 169 ((zm_wr (zm_wr h 167 (h 146 40) x1) 168 ((zm_wr h 167 (h 146 40) x1) 146 40) 0) 146 40) 1) 146 40) ((zm_wr (zm_wr (zm_wr h 167 (h 146 40) x1) 168 ((zm_wr h 167 (h 146 40) x1) 146 40) 0) 169 ((zm_wr (zm_wr h 167 (h 146 40) x1) 168 ((zm_wr h 167 (h 146 40) x1) 146 40) 0) 146 40) 1) 146 43)) 146 40) + 1)) (some (zm_U, (zm_wr (zm_wr (zm_wr (zm_wr (zm_wr h 167 (h 146 40) x1) 168 ((zm_wr h 167 (h 146 40) x1) 146 40) 0) 169 ((zm_wr (zm_wr h 167 (h 146 40) x1) 168 ((zm_wr h 167 (h 146 40) x1) 146 40) 0) 146 40) 1) 171 ((zm_wr (zm_wr (zm_wr h 167 (h 146 40) x1) 168 ((zm_wr h 167 (h 146 40) x1) 146 40) 0) 169 ((zm_wr (zm_wr h 167 (h 146 40) x1) 168 ((zm_wr h 167 (h 146 40) x1) 146 40) 0) 146 40) 1) 146 40) ((zm_wr (zm_wr (zm_wr h 167 (h 146 40) x1) 168 ((zm_wr h 167 (h 146 40) x1) 146 40) 0) 169 ((zm_wr (zm_wr h 167 (h 146 40) x1) 168 ((zm_wr h 167 (h 146 40) x1) 146 40) 0) 146 40) 1) 146 43)) 146 40 (((zm_wr (zm_wr (zm_wr (zm_wr h 167 (h 146 40) x1) 168 ((zm_wr h 167 (h 146 40) x1) 146 40) 0) 169 ((zm_wr (zm_wr h 167 (h 146 40) x1) 168 ((zm_wr h 167 (h 146 40) x1) 146 40) 0) 146 40) 1) 171 ((zm_wr (zm_wr (zm_wr h 167 (h 146 40) x1) 168 ((zm_wr h 167 (h 146 40) x1) 146 40) 0) 169 ((zm_wr (zm_wr h 167 (h 146 40) x1) 168 ((zm_wr h 167 (h 146 40) x1) 146 40) 0) 146 40) 1) 146 40) ((zm_wr (zm_wr (zm_wr h 167 (h 146 40) x1) 168 ((zm_wr h 167 (h 146 40) x1) 146 40) 0) 169 ((zm_wr (zm_wr h 167 (h 146 40) x1) 168 ((zm_wr h 167 (h 146 40) x1) 146 40) 0) 146 40) 1) 146 43)) 146 40) + 1))))))))) (zc 183 [zm_A 146, zm_I x1] h) := by
  rw [zc_eq (loc := [zm_A 146, zm_I x1]) (rk_183 _) rfl]
  refine zl_tr (r_aload_n d_183_0 rfl) ?_
  refine zl_tr (r_getR d_183_1 ow_183 f_12_118 la_146 (by decide) fr_146_35) ?_
  refine zl_tr (r_aload_n d_183_4 rfl) ?_
  refine zl_tr (r_getI (kk := 40) d_183_5 ow_183 f_12_134 la_146 (by decide) rfl) ?_
  refine zl_tr (r_iload_n d_183_8 rfl) ?_
  refine zl_tr (r_iastore d_183_9 la_167) (zl_ck ?_)
  refine zl_tr (r_aload_n d_183_10 rfl) ?_
  refine zl_tr (r_getR d_183_11 ow_183 f_12_121 la_146 (by decide) fr_146_36) ?_
  refine zl_tr (r_aload_n d_183_14 rfl) ?_
  refine zl_tr (r_getI (kk := 40) d_183_15 ow_183 f_12_134 la_146 (by decide) rfl) ?_
  refine zl_tr (r_iconst d_183_18 (by decide)) ?_
  refine zl_tr (r_iastore d_183_19 la_168) (zl_ck ?_)
  refine zl_tr (r_aload_n d_183_20 rfl) ?_
  refine zl_tr (r_getR d_183_21 ow_183 f_12_124 la_146 (by decide) fr_146_37) ?_
  refine zl_tr (r_aload_n d_183_24 rfl) ?_
  refine zl_tr (r_getI (kk := 40) d_183_25 ow_183 f_12_134 la_146 (by decide) rfl) ?_
  refine zl_tr (r_iconst d_183_28 (by decide)) ?_
  refine zl_tr (r_bastore d_183_29 la_169) (zl_ck ?_)
  refine zl_tr (r_aload_n d_183_30 rfl) ?_
  refine zl_tr (r_getR d_183_31 ow_183 f_12_131 la_146 (by decide) fr_146_39) ?_
  refine zl_tr (r_aload_n d_183_34 rfl) ?_
  refine zl_tr (r_getI (kk := 40) d_183_35 ow_183 f_12_134 la_146 (by decide) rfl) ?_
  refine zl_tr (r_aload_n d_183_38 rfl) ?_
  refine zl_tr (r_getI (kk := 43) d_183_39 ow_183 f_12_143 la_146 (by decide) rfl) ?_
  refine zl_tr (r_iastore d_183_42 la_171) (zl_ck ?_)
  refine zl_tr (r_aload_n d_183_43 rfl) ?_
  refine zl_tr (r_dup d_183_44 rfl) ?_
  refine zl_tr (r_getI (kk := 40) d_183_45 ow_183 f_12_134 la_146 (by decide) rfl) ?_
  refine zl_tr (r_iconst d_183_48 (by decide)) ?_
  refine zl_tr (r_iadd d_183_49) (zl_ck ?_)
  refine zl_tr (r_putI (kk := 40) d_183_50 ow_183 f_12_134 la_146 (by decide) rfl) ?_
  exact r_vret d_183_53 rt_183
-- BranTubModel.operand
set_option maxRecDepth 20000 in
theorem e_184 {h : zm_H}  : zl (zk_V (zc 163 [zm_A 146] h) (fun h1 => if (h1 146 8) ≤ 0 then (zm_ck (zm_i32 ((h1 146 40) - 1)) (zm_ck (0 ≤ ((h1 146 40) - 1) ∧ ((h1 146 40) - 1) < ((20 : Nat) : Int)) (zk_I (zc 185 [zm_I (h1 167 ((h1 146 40) - 1))] h1) (fun v2 h3 => if v2 = 0 then (zr none 4 184 45 [zm_A 146, zm_I ((h1 146 40) - 1), zm_U, zm_U] [] h3) else (zm_ck (0 ≤ ((h1 146 40) - 1) ∧ ((h1 146 40) - 1) < ((20 : Nat) : Int)) (if (h3 169 ((h1 146 40) - 1)) = 0 then (zr none 4 184 45 [zm_A 146, zm_I ((h1 146 40) - 1), zm_U, zm_U] [] h3) else (if (1 : Int) = 0 then (zr none 4 184 110 [zm_A 146, zm_I ((h1 146 40) - 1), zm_I 1, zm_U] [] h3) else (zk_I (zc 165 [zm_A 146, zm_L 7237492] h3) (fun v4 h5 => if v4 = 0 then (zr none 4 184 110 [zm_A 146, zm_I ((h1 146 40) - 1), zm_I 1, zm_U] [] h5) else (if (h5 146 41) = 7 then (zk_V (zc 164 [zm_A 146, zm_I 5, zm_I (h5 146 4)] h5) (fun h6 => zr none 4 184 79 [zm_A 146, zm_I ((h1 146 40) - 1), zm_I 1, zm_U] [] h6)) else (zr none 4 184 79 [zm_A 146, zm_I ((h1 146 40) - 1), zm_I 1, zm_U] [] h5))))))))))) else (zm_ck (zm_bit 1) (some (zm_I 1, h1))))) (zc 184 [zm_A 146] h) := by
  rw [zc_eq (loc := [zm_A 146, zm_U, zm_U, zm_U]) (rk_184 _) rfl]
  refine zl_tr (r_aload_n d_184_0 rfl) ?_
  refine zl_tr (r_VV [zm_A 146] d_184_1 ow_184 cal_12_268 na_163 rfl rfl (Nat.le_of_ble_eq_true rfl) (by rw [rk_163]; decide) (zr_rcv la_146 ow_163) (zr_im mx_163 rfl (Nat.le_of_ble_eq_true rfl)) rt_163) (zl_V (fun h1 => ?_))
  refine zl_tr (r_aload_n d_184_4 rfl) ?_
  refine zl_tr (r_getI (kk := 8) d_184_5 ow_184 f_12_36 la_146 (by decide) rfl) ?_
  refine zl_tr (r_if_le (tgt := 13) d_184_8 (by decide)) (zl_if ?_ ?_)
  · skip
    refine zl_tr (r_aload_n d_184_13 rfl) ?_
    refine zl_tr (r_getI (kk := 40) d_184_14 ow_184 f_12_134 la_146 (by decide) rfl) ?_
    refine zl_tr (r_iconst d_184_17 (by decide)) ?_
    refine zl_tr (r_isub d_184_18) (zl_ck ?_)
    refine zl_tr (r_istore_n (loc' := [zm_A 146, zm_I ((h1 146 40) - 1), zm_U, zm_U]) d_184_19 (Nat.le_of_ble_eq_true rfl) rfl) ?_
    refine zl_tr (r_aload_n d_184_20 rfl) ?_
    refine zl_tr (r_getR d_184_21 ow_184 f_12_118 la_146 (by decide) fr_146_35) ?_
    refine zl_tr (r_iload_n d_184_24 rfl) ?_
    refine zl_tr (r_iaload d_184_25 la_167) (zl_ck ?_)
    refine zl_tr (r_SI [zm_I (h1 167 ((h1 146 40) - 1))] d_184_26 ow_184 cal_12_348 (by decide) na_185 rfl rfl (Nat.le_of_ble_eq_true rfl) (by rw [rk_185]; decide) (zr_im mx_185 rfl (Nat.le_of_ble_eq_true rfl)) (by rw [rt_185]; decide)) (zl_I (fun v2 h3 => ?_))
    refine zl_tr (r_if_eq (tgt := 45) d_184_29 (by decide)) (zl_if ?_ ?_)
    · skip
      exact zl_rf
    · skip
      refine zl_tr (r_aload_n d_184_32 rfl) ?_
      refine zl_tr (r_getR d_184_33 ow_184 f_12_124 la_146 (by decide) fr_146_37) ?_
      refine zl_tr (r_iload_n d_184_36 rfl) ?_
      refine zl_tr (r_baload d_184_37 la_169) (zl_ck ?_)
      refine zl_tr (r_if_eq (tgt := 45) d_184_38 (by decide)) (zl_if ?_ ?_)
      · skip
        exact zl_rf
      · skip
        refine zl_tr (r_iconst d_184_41 (by decide)) ?_
        refine zl_tr (r_goto (tgt := 46) d_184_42 (by decide)) ?_
        refine zl_tr (r_istore_n (loc' := [zm_A 146, zm_I ((h1 146 40) - 1), zm_I 1, zm_U]) d_184_46 (Nat.le_of_ble_eq_true rfl) rfl) ?_
        refine zl_tr (r_iload_n d_184_47 rfl) ?_
        refine zl_tr (r_if_eq (tgt := 110) d_184_48 (by decide)) (zl_if ?_ ?_)
        · skip
          exact zl_rf
        · skip
          refine zl_tr (r_aload_n d_184_51 rfl) ?_
          refine zl_tr (r_ldc2 d_184_52 ow_184 lng_12_319) ?_
          refine zl_tr (r_VI [zm_A 146, zm_L 7237492] d_184_55 ow_184 cal_12_351 na_165 rfl rfl (Nat.le_of_ble_eq_true rfl) (by rw [rk_165]; decide) (zr_rcv la_146 ow_165) (zr_im mx_165 rfl (Nat.le_of_ble_eq_true rfl)) (by rw [rt_165]; decide)) (zl_I (fun v4 h5 => ?_))
          refine zl_tr (r_if_eq (tgt := 110) d_184_58 (by decide)) (zl_if ?_ ?_)
          · skip
            exact zl_rf
          · skip
            refine zl_tr (r_aload_n d_184_61 rfl) ?_
            refine zl_tr (r_getI (kk := 41) d_184_62 ow_184 f_12_137 la_146 (by decide) rfl) ?_
            refine zl_tr (r_bipush d_184_65 (by decide)) ?_
            refine zl_tr (r_icmp_ne (tgt := 79) d_184_67 (by decide)) (zl_if ?_ ?_)
            · skip
              refine zl_tr (r_aload_n d_184_70 rfl) ?_
              refine zl_tr (r_iconst d_184_71 (by decide)) ?_
              refine zl_tr (r_aload_n d_184_72 rfl) ?_
              refine zl_tr (r_getI (kk := 4) d_184_73 ow_184 f_12_23 la_146 (by decide) rfl) ?_
              refine zl_tr (r_VV [zm_A 146, zm_I 5, zm_I (h5 146 4)] d_184_76 ow_184 cal_12_257 na_164 rfl rfl (Nat.le_of_ble_eq_true rfl) (by rw [rk_164]; decide) (zr_rcv la_146 ow_164) (zr_im mx_164 rfl (Nat.le_of_ble_eq_true rfl)) rt_164) (zl_V (fun h6 => ?_))
              exact zl_rf
            · skip
              exact zl_rf
  · skip
    refine zl_tr (r_iconst d_184_11 (by decide)) ?_
    exact r_zret d_184_12 rt_184
-- BranTubModel.operand, from 45
set_option maxRecDepth 20000 in
theorem e_184_45 {h : zm_H} {x1 : Int} {w2 : zm_V} {w3 : zm_V} : zl (if (0 : Int) = 0 then (zr none 4 184 110 [zm_A 146, zm_I x1, zm_I 0, w3] [] h) else (zk_I (zc 165 [zm_A 146, zm_L 7237492] h) (fun v1 h2 => if v1 = 0 then (zr none 4 184 110 [zm_A 146, zm_I x1, zm_I 0, w3] [] h2) else (if (h2 146 41) = 7 then (zk_V (zc 164 [zm_A 146, zm_I 5, zm_I (h2 146 4)] h2) (fun h3 => zr none 4 184 79 [zm_A 146, zm_I x1, zm_I 0, w3] [] h3)) else (zr none 4 184 79 [zm_A 146, zm_I x1, zm_I 0, w3] [] h2))))) (zr none 4 184 45 [zm_A 146, zm_I x1, w2, w3] [] h) := by
  refine zl_tr (r_iconst d_184_45 (by decide)) ?_
  refine zl_tr (r_istore_n (loc' := [zm_A 146, zm_I x1, zm_I 0, w3]) d_184_46 (Nat.le_of_ble_eq_true rfl) rfl) ?_
  refine zl_tr (r_iload_n d_184_47 rfl) ?_
  refine zl_tr (r_if_eq (tgt := 110) d_184_48 (by decide)) (zl_if ?_ ?_)
  · skip
    exact zl_rf
  · skip
    refine zl_tr (r_aload_n d_184_51 rfl) ?_
    refine zl_tr (r_ldc2 d_184_52 ow_184 lng_12_319) ?_
    refine zl_tr (r_VI [zm_A 146, zm_L 7237492] d_184_55 ow_184 cal_12_351 na_165 rfl rfl (Nat.le_of_ble_eq_true rfl) (by rw [rk_165]; decide) (zr_rcv la_146 ow_165) (zr_im mx_165 rfl (Nat.le_of_ble_eq_true rfl)) (by rw [rt_165]; decide)) (zl_I (fun v1 h2 => ?_))
    refine zl_tr (r_if_eq (tgt := 110) d_184_58 (by decide)) (zl_if ?_ ?_)
    · skip
      exact zl_rf
    · skip
      refine zl_tr (r_aload_n d_184_61 rfl) ?_
      refine zl_tr (r_getI (kk := 41) d_184_62 ow_184 f_12_137 la_146 (by decide) rfl) ?_
      refine zl_tr (r_bipush d_184_65 (by decide)) ?_
      refine zl_tr (r_icmp_ne (tgt := 79) d_184_67 (by decide)) (zl_if ?_ ?_)
      · skip
        refine zl_tr (r_aload_n d_184_70 rfl) ?_
        refine zl_tr (r_iconst d_184_71 (by decide)) ?_
        refine zl_tr (r_aload_n d_184_72 rfl) ?_
        refine zl_tr (r_getI (kk := 4) d_184_73 ow_184 f_12_23 la_146 (by decide) rfl) ?_
        refine zl_tr (r_VV [zm_A 146, zm_I 5, zm_I (h2 146 4)] d_184_76 ow_184 cal_12_257 na_164 rfl rfl (Nat.le_of_ble_eq_true rfl) (by rw [rk_164]; decide) (zr_rcv la_146 ow_164) (zr_im mx_164 rfl (Nat.le_of_ble_eq_true rfl)) rt_164) (zl_V (fun h3 => ?_))
        exact zl_rf
      · skip
        exact zl_rf
-- BranTubModel.operand, from 110
set_option maxRecDepth 20000 in
theorem e_184_110 {h : zm_H} {x1 : Int} {x2 : Int} {w3 : zm_V} : zl (zm_ck ((0 ≤ x1 ∧ x1 < ((20 : Nat) : Int)) ∧ zm_bit 0) (if x2 = 0 then (zr none 4 184 137 [zm_A 146, zm_I x1, zm_I x2, w3] [] (zm_wr h 169 x1 0)) else (zk_I (zc 187 [zm_A 146, zm_I 91] (zm_wr h 169 x1 0)) (fun v1 h2 => if v1 = 0 then (zr none 4 184 137 [zm_A 146, zm_I x1, zm_I x2, w3] [] h2) else (zk_V (zc 188 [zm_A 146, zm_I 5] h2) (fun h3 => zm_ck (zm_bit 0) (some (zm_I 0, h3)))))))) (zr none 4 184 110 [zm_A 146, zm_I x1, zm_I x2, w3] [] h) := by
  refine zl_tr (r_aload_n d_184_110 rfl) ?_
  refine zl_tr (r_getR d_184_111 ow_184 f_12_124 la_146 (by decide) fr_146_37) ?_
  refine zl_tr (r_iload_n d_184_114 rfl) ?_
  refine zl_tr (r_iconst d_184_115 (by decide)) ?_
  refine zl_tr (r_bastore d_184_116 la_169) (zl_ck ?_)
  refine zl_tr (r_iload_n d_184_117 rfl) ?_
  refine zl_tr (r_if_eq (tgt := 137) d_184_118 (by decide)) (zl_if ?_ ?_)
  · skip
    exact zl_rf
  · skip
    refine zl_tr (r_aload_n d_184_121 rfl) ?_
    refine zl_tr (r_bipush d_184_122 (by decide)) ?_
    refine zl_tr (r_VI [zm_A 146, zm_I 91] d_184_124 ow_184 cal_12_271 na_187 rfl rfl (Nat.le_of_ble_eq_true rfl) (by rw [rk_187]; decide) (zr_rcv la_146 ow_187) (zr_im mx_187 rfl (Nat.le_of_ble_eq_true rfl)) (by rw [rt_187]; decide)) (zl_I (fun v1 h2 => ?_))
    refine zl_tr (r_if_eq (tgt := 137) d_184_127 (by decide)) (zl_if ?_ ?_)
    · skip
      exact zl_rf
    · skip
      refine zl_tr (r_aload_n d_184_130 rfl) ?_
      refine zl_tr (r_iconst d_184_131 (by decide)) ?_
      refine zl_tr (r_VV [zm_A 146, zm_I 5] d_184_132 ow_184 cal_12_358 na_188 rfl rfl (Nat.le_of_ble_eq_true rfl) (by rw [rk_188]; decide) (zr_rcv la_146 ow_188) (zr_im mx_188 rfl (Nat.le_of_ble_eq_true rfl)) rt_188) (zl_V (fun h3 => ?_))
      refine zl_tr (r_iconst d_184_135 (by decide)) ?_
      exact r_zret d_184_136 rt_184
-- BranTubModel.operand, from 79
set_option maxRecDepth 20000 in
theorem e_184_79 {h : zm_H} {w1 : zm_V} {w2 : zm_V} {w3 : zm_V} : zl (if (h 146 8) ≤ 0 then (zm_ck (zm_i32 ((h 146 41) + 1)) (zk_V (zc 186 [zm_A 146, zm_I 22] (zm_wr h 146 41 ((h 146 41) + 1))) (fun h1 => zk_V (zc 159 [zm_A 146] h1) (fun h2 => zm_ck (zm_bit 0) (some (zm_I 0, h2)))))) else (zm_ck (zm_bit 1) (some (zm_I 1, h)))) (zr none 4 184 79 [zm_A 146, w1, w2, w3] [] h) := by
  refine zl_tr (r_aload_n d_184_79 rfl) ?_
  refine zl_tr (r_getI (kk := 8) d_184_80 ow_184 f_12_36 la_146 (by decide) rfl) ?_
  refine zl_tr (r_if_le (tgt := 88) d_184_83 (by decide)) (zl_if ?_ ?_)
  · skip
    refine zl_tr (r_aload_n d_184_88 rfl) ?_
    refine zl_tr (r_dup d_184_89 rfl) ?_
    refine zl_tr (r_getI (kk := 41) d_184_90 ow_184 f_12_137 la_146 (by decide) rfl) ?_
    refine zl_tr (r_iconst d_184_93 (by decide)) ?_
    refine zl_tr (r_iadd d_184_94) (zl_ck ?_)
    refine zl_tr (r_putI (kk := 41) d_184_95 ow_184 f_12_137 la_146 (by decide) rfl) ?_
    refine zl_tr (r_aload_n d_184_98 rfl) ?_
    refine zl_tr (r_bipush d_184_99 (by decide)) ?_
    refine zl_tr (r_VV [zm_A 146, zm_I 22] d_184_101 ow_184 cal_12_355 na_186 rfl rfl (Nat.le_of_ble_eq_true rfl) (by rw [rk_186]; decide) (zr_rcv la_146 ow_186) (zr_im mx_186 rfl (Nat.le_of_ble_eq_true rfl)) rt_186) (zl_V (fun h1 => ?_))
    refine zl_tr (r_aload_n d_184_104 rfl) ?_
    refine zl_tr (r_VV [zm_A 146] d_184_105 ow_184 cal_12_274 na_159 rfl rfl (Nat.le_of_ble_eq_true rfl) (by rw [rk_159]; decide) (zr_rcv la_146 ow_159) (zr_im mx_159 rfl (Nat.le_of_ble_eq_true rfl)) rt_159) (zl_V (fun h2 => ?_))
    refine zl_tr (r_iconst d_184_108 (by decide)) ?_
    exact r_zret d_184_109 rt_184
  · skip
    refine zl_tr (r_iconst d_184_86 (by decide)) ?_
    exact r_zret d_184_87 rt_184
-- BranTubModel.operand, from 137
set_option maxRecDepth 20000 in
theorem e_184_137 {h : zm_H} {x1 : Int} {x2 : Int} {w3 : zm_V} : zl (if x2 = 0 then (zr none 4 184 171 [zm_A 146, zm_I x1, zm_I x2, w3] [] h) else (zk_I (zc 165 [zm_A 146, zm_L 6384748] h) (fun v1 h2 => if v1 = 0 then (zr none 4 184 171 [zm_A 146, zm_I x1, zm_I x2, w3] [] h2) else (zk_V (zc 189 [zm_A 146, zm_I 9, zm_I 0] h2) (fun h3 => zm_ck (0 ≤ x1 ∧ x1 < ((20 : Nat) : Int)) (zk_V (zc 159 [zm_A 146] (zm_wr h3 168 x1 2)) (fun h4 => zm_ck (zm_bit 1) (some (zm_I 1, h4))))))))) (zr none 4 184 137 [zm_A 146, zm_I x1, zm_I x2, w3] [] h) := by
  refine zl_tr (r_iload_n d_184_137 rfl) ?_
  refine zl_tr (r_if_eq (tgt := 171) d_184_138 (by decide)) (zl_if ?_ ?_)
  · skip
    exact zl_rf
  · skip
    refine zl_tr (r_aload_n d_184_141 rfl) ?_
    refine zl_tr (r_ldc2 d_184_142 ow_184 lng_12_321) ?_
    refine zl_tr (r_VI [zm_A 146, zm_L 6384748] d_184_145 ow_184 cal_12_351 na_165 rfl rfl (Nat.le_of_ble_eq_true rfl) (by rw [rk_165]; decide) (zr_rcv la_146 ow_165) (zr_im mx_165 rfl (Nat.le_of_ble_eq_true rfl)) (by rw [rt_165]; decide)) (zl_I (fun v1 h2 => ?_))
    refine zl_tr (r_if_eq (tgt := 171) d_184_148 (by decide)) (zl_if ?_ ?_)
    · skip
      exact zl_rf
    · skip
      refine zl_tr (r_aload_n d_184_151 rfl) ?_
      refine zl_tr (r_bipush d_184_152 (by decide)) ?_
      refine zl_tr (r_iconst d_184_154 (by decide)) ?_
      refine zl_tr (r_VV [zm_A 146, zm_I 9, zm_I 0] d_184_155 ow_184 cal_12_342 na_189 rfl rfl (Nat.le_of_ble_eq_true rfl) (by rw [rk_189]; decide) (zr_rcv la_146 ow_189) (zr_im mx_189 rfl (Nat.le_of_ble_eq_true rfl)) rt_189) (zl_V (fun h3 => ?_))
      refine zl_tr (r_aload_n d_184_158 rfl) ?_
      refine zl_tr (r_getR d_184_159 ow_184 f_12_121 la_146 (by decide) fr_146_36) ?_
      refine zl_tr (r_iload_n d_184_162 rfl) ?_
      refine zl_tr (r_iconst d_184_163 (by decide)) ?_
      refine zl_tr (r_iastore d_184_164 la_168) (zl_ck ?_)
      refine zl_tr (r_aload_n d_184_165 rfl) ?_
      refine zl_tr (r_VV [zm_A 146] d_184_166 ow_184 cal_12_274 na_159 rfl rfl (Nat.le_of_ble_eq_true rfl) (by rw [rk_159]; decide) (zr_rcv la_146 ow_159) (zr_im mx_159 rfl (Nat.le_of_ble_eq_true rfl)) rt_159) (zl_V (fun h4 => ?_))
      refine zl_tr (r_iconst d_184_169 (by decide)) ?_
      exact r_zret d_184_170 rt_184
-- BranTubModel.operand, from 171
set_option maxRecDepth 20000 in
theorem e_184_171 {h : zm_H} {w1 : zm_V} {w2 : zm_V} {w3 : zm_V} (hw2 : zm_cat w2 ≠ 2) : zl (zk_I (zc 187 [zm_A 146, zm_I 40] h) (fun v1 h2 => if v1 = 0 then (zk_I (zc 165 [zm_A 146, zm_L 7170414] h2) (fun v3 h4 => if v3 = 0 then (zk_I (zc 165 [zm_A 146, zm_L 7168376] h4) (fun v5 h6 => if v5 = 0 then (if (h6 146 3) = 2 then (if (0 : Int) = (-1) then (zk_V (zc 164 [zm_A 146, zm_I 1, zm_I (h6 146 4)] h6) (fun h7 => if (h7 146 8) ≤ 0 then (zk_V (zc 189 [zm_A 146, zm_I 0, zm_I (h7 146 6)] h7) (fun h8 => zk_V (zc 159 [zm_A 146] h8) (fun h9 => zm_ck (zm_bit 1) (some (zm_I 1, h9))))) else (zm_ck (zm_bit 1) (some (zm_I 1, h7))))) else (if (h6 146 8) ≤ 0 then (zk_V (zc 189 [zm_A 146, zm_I 0, zm_I (h6 146 6)] h6) (fun h10 => zk_V (zc 159 [zm_A 146] h10) (fun h11 => zm_ck (zm_bit 1) (some (zm_I 1, h11))))) else (zm_ck (zm_bit 1) (some (zm_I 1, h6))))) else (zk_I (zc 165 [zm_A 146, zm_L 1752135026] h6) (fun v12 h13 => if v12 = 0 then (zk_I (zc 165 [zm_A 146, zm_L 1818584692] h13) (fun v14 h15 => if v14 = 0 then (zk_I (zc 165 [zm_A 146, zm_L 1684631667] h15) (fun v16 h17 => if v16 = 0 then (zk_I (zc 165 [zm_A 146, zm_L 512970880104] h17) (fun v18 h19 => if v18 = 0 then (zk_I (zc 165 [zm_A 146, zm_L 1936292453] h19) (fun v20 h21 => if v20 = 0 then (zk_I (zc 165 [zm_A 146, zm_L 1835360622] h21) (fun v22 h23 => if v22 = 0 then (if (-1) = (-1) then (zk_V (zc 164 [zm_A 146, zm_I 1, zm_I (h23 146 4)] h23) (fun h24 => if (h24 146 8) ≤ 0 then (zk_V (zc 189 [zm_A 146, zm_I (-1), zm_I (h24 146 6)] h24) (fun h25 => zk_V (zc 159 [zm_A 146] h25) (fun h26 => zm_ck (zm_bit 1) (some (zm_I 1, h26))))) else (zm_ck (zm_bit 1) (some (zm_I 1, h24))))) else (if (h23 146 8) ≤ 0 then (zk_V (zc 189 [zm_A 146, zm_I (-1), zm_I (h23 146 6)] h23) (fun h27 => zk_V (zc 159 [zm_A 146] h27) (fun h28 => zm_ck (zm_bit 1) (some (zm_I 1, h28))))) else (zm_ck (zm_bit 1) (some (zm_I 1, h23))))) else (if (6 : Int) = (-1) then (zk_V (zc 164 [zm_A 146, zm_I 1, zm_I (h23 146 4)] h23) (fun h29 => if (h29 146 8) ≤ 0 then (zk_V (zc 189 [zm_A 146, zm_I 6, zm_I (h29 146 6)] h29) (fun h30 => zk_V (zc 159 [zm_A 146] h30) (fun h31 => zm_ck (zm_bit 1) (some (zm_I 1, h31))))) else (zm_ck (zm_bit 1) (some (zm_I 1, h29))))) else (if (h23 146 8) ≤ 0 then (zk_V (zc 189 [zm_A 146, zm_I 6, zm_I (h23 146 6)] h23) (fun h32 => zk_V (zc 159 [zm_A 146] h32) (fun h33 => zm_ck (zm_bit 1) (some (zm_I 1, h33))))) else (zm_ck (zm_bit 1) (some (zm_I 1, h23))))))) else (if (5 : Int) = (-1) then (zk_V (zc 164 [zm_A 146, zm_I 1, zm_I (h21 146 4)] h21) (fun h34 => if (h34 146 8) ≤ 0 then (zk_V (zc 189 [zm_A 146, zm_I 5, zm_I (h34 146 6)] h34) (fun h35 => zk_V (zc 159 [zm_A 146] h35) (fun h36 => zm_ck (zm_bit 1) (some (zm_I 1, h36))))) else (zm_ck (zm_bit 1) (some (zm_I 1, h34))))) else (if (h21 146 8) ≤ 0 then (zk_V (zc 189 [zm_A 146, zm_I 5, zm_I (h21 146 6)] h21) (fun h37 => zk_V (zc 159 [zm_A 146] h37) (fun h38 => zm_ck (zm_bit 1) (some (zm_I 1, h38))))) else (zm_ck (zm_bit 1) (some (zm_I 1, h21))))))) else (if (4 : Int) = (-1) then (zk_V (zc 164 [zm_A 146, zm_I 1, zm_I (h19 146 4)] h19) (fun h39 => if (h39 146 8) ≤ 0 then (zk_V (zc 189 [zm_A 146, zm_I 4, zm_I (h39 146 6)] h39) (fun h40 => zk_V (zc 159 [zm_A 146] h40) (fun h41 => zm_ck (zm_bit 1) (some (zm_I 1, h41))))) else (zm_ck (zm_bit 1) (some (zm_I 1, h39))))) else (if (h19 146 8) ≤ 0 then (zk_V (zc 189 [zm_A 146, zm_I 4, zm_I (h19 146 6)] h19) (fun h42 => zk_V (zc 159 [zm_A 146] h42) (fun h43 => zm_ck (zm_bit 1) (some (zm_I 1, h43))))) else (zm_ck (zm_bit 1) (some (zm_I 1, h19))))))) else (if (3 : Int) = (-1) then (zk_V (zc 164 [zm_A 146, zm_I 1, zm_I (h17 146 4)] h17) (fun h44 => if (h44 146 8) ≤ 0 then (zk_V (zc 189 [zm_A 146, zm_I 3, zm_I (h44 146 6)] h44) (fun h45 => zk_V (zc 159 [zm_A 146] h45) (fun h46 => zm_ck (zm_bit 1) (some (zm_I 1, h46))))) else (zm_ck (zm_bit 1) (some (zm_I 1, h44))))) else (if (h17 146 8) ≤ 0 then (zk_V (zc 189 [zm_A 146, zm_I 3, zm_I (h17 146 6)] h17) (fun h47 => zk_V (zc 159 [zm_A 146] h47) (fun h48 => zm_ck (zm_bit 1) (some (zm_I 1, h48))))) else (zm_ck (zm_bit 1) (some (zm_I 1, h17))))))) else (if (2 : Int) = (-1) then (zk_V (zc 164 [zm_A 146, zm_I 1, zm_I (h15 146 4)] h15) (fun h49 => if (h49 146 8) ≤ 0 then (zk_V (zc 189 [zm_A 146, zm_I 2, zm_I (h49 146 6)] h49) (fun h50 => zk_V (zc 159 [zm_A 146] h50) (fun h51 => zm_ck (zm_bit 1) (some (zm_I 1, h51))))) else (zm_ck (zm_bit 1) (some (zm_I 1, h49))))) else (if (h15 146 8) ≤ 0 then (zk_V (zc 189 [zm_A 146, zm_I 2, zm_I (h15 146 6)] h15) (fun h52 => zk_V (zc 159 [zm_A 146] h52) (fun h53 => zm_ck (zm_bit 1) (some (zm_I 1, h53))))) else (zm_ck (zm_bit 1) (some (zm_I 1, h15))))))) else (if (1 : Int) = (-1) then (zk_V (zc 164 [zm_A 146, zm_I 1, zm_I (h13 146 4)] h13) (fun h54 => if (h54 146 8) ≤ 0 then (zk_V (zc 189 [zm_A 146, zm_I 1, zm_I (h54 146 6)] h54) (fun h55 => zk_V (zc 159 [zm_A 146] h55) (fun h56 => zm_ck (zm_bit 1) (some (zm_I 1, h56))))) else (zm_ck (zm_bit 1) (some (zm_I 1, h54))))) else (if (h13 146 8) ≤ 0 then (zk_V (zc 189 [zm_A 146, zm_I 1, zm_I (h13 146 6)] h13) (fun h57 => zk_V (zc 159 [zm_A 146] h57) (fun h58 => zm_ck (zm_bit 1) (some (zm_I 1, h58))))) else (zm_ck (zm_bit 1) (some (zm_I 1, h13)))))))) else (zr none 4 184 207 [zm_A 146, w1, w2, w3] [] h6))) else (zr none 4 184 207 [zm_A 146, w1, w2, w3] [] h4))) else (zk_V (zc 188 [zm_A 146, zm_I 2] h2) (fun h59 => zm_ck (zm_bit 0) (some (zm_I 0, h59)))))) (zr none 4 184 171 [zm_A 146, w1, w2, w3] [] h) := by
  refine zl_tr (r_aload_n d_184_171 rfl) ?_
  refine zl_tr (r_bipush d_184_172 (by decide)) ?_
  refine zl_tr (r_VI [zm_A 146, zm_I 40] d_184_174 ow_184 cal_12_271 na_187 rfl rfl (Nat.le_of_ble_eq_true rfl) (by rw [rk_187]; decide) (zr_rcv la_146 ow_187) (zr_im mx_187 rfl (Nat.le_of_ble_eq_true rfl)) (by rw [rt_187]; decide)) (zl_I (fun v1 h2 => ?_))
  refine zl_tr (r_if_eq (tgt := 187) d_184_177 (by decide)) (zl_if ?_ ?_)
  · skip
    refine zl_tr (r_aload_n d_184_187 rfl) ?_
    refine zl_tr (r_ldc2 d_184_188 ow_184 lng_12_323) ?_
    refine zl_tr (r_VI [zm_A 146, zm_L 7170414] d_184_191 ow_184 cal_12_351 na_165 rfl rfl (Nat.le_of_ble_eq_true rfl) (by rw [rk_165]; decide) (zr_rcv la_146 ow_165) (zr_im mx_165 rfl (Nat.le_of_ble_eq_true rfl)) (by rw [rt_165]; decide)) (zl_I (fun v3 h4 => ?_))
    refine zl_tr (r_if_ne (tgt := 207) d_184_194 (by decide)) (zl_if ?_ ?_)
    · skip
      refine zl_tr (r_aload_n d_184_197 rfl) ?_
      refine zl_tr (r_ldc2 d_184_198 ow_184 lng_12_325) ?_
      refine zl_tr (r_VI [zm_A 146, zm_L 7168376] d_184_201 ow_184 cal_12_351 na_165 rfl rfl (Nat.le_of_ble_eq_true rfl) (by rw [rk_165]; decide) (zr_rcv la_146 ow_165) (zr_im mx_165 rfl (Nat.le_of_ble_eq_true rfl)) (by rw [rt_165]; decide)) (zl_I (fun v5 h6 => ?_))
      refine zl_tr (r_if_eq (tgt := 277) d_184_204 (by decide)) (zl_if ?_ ?_)
      · skip
        refine zl_tr (r_aload_n d_184_277 rfl) ?_
        refine zl_tr (r_getI (kk := 3) d_184_278 ow_184 f_12_20 la_146 (by decide) rfl) ?_
        refine zl_tr (r_iconst d_184_281 (by decide)) ?_
        refine zl_tr (r_icmp_ne (tgt := 289) d_184_282 (by decide)) (zl_if ?_ ?_)
        · skip
          refine zl_tr (r_iconst d_184_285 (by decide)) ?_
          refine zl_tr (r_goto (tgt := 375) d_184_286 (by decide)) ?_
          refine zl_tr (r_istore_n (loc' := [zm_A 146, w1, w2, zm_I 0]) d_184_375 (Nat.le_of_ble_eq_true rfl) (zr_k1 rfl hw2 rfl)) ?_
          refine zl_tr (r_iload_n d_184_376 rfl) ?_
          refine zl_tr (r_iconst d_184_377 (by decide)) ?_
          refine zl_tr (r_icmp_ne (tgt := 390) d_184_378 (by decide)) (zl_if ?_ ?_)
          · skip
            refine zl_tr (r_aload_n d_184_381 rfl) ?_
            refine zl_tr (r_iconst d_184_382 (by decide)) ?_
            refine zl_tr (r_aload_n d_184_383 rfl) ?_
            refine zl_tr (r_getI (kk := 4) d_184_384 ow_184 f_12_23 la_146 (by decide) rfl) ?_
            refine zl_tr (r_VV [zm_A 146, zm_I 1, zm_I (h6 146 4)] d_184_387 ow_184 cal_12_257 na_164 rfl rfl (Nat.le_of_ble_eq_true rfl) (by rw [rk_164]; decide) (zr_rcv la_146 ow_164) (zr_im mx_164 rfl (Nat.le_of_ble_eq_true rfl)) rt_164) (zl_V (fun h7 => ?_))
            refine zl_tr (r_aload_n d_184_390 rfl) ?_
            refine zl_tr (r_getI (kk := 8) d_184_391 ow_184 f_12_36 la_146 (by decide) rfl) ?_
            refine zl_tr (r_if_le (tgt := 399) d_184_394 (by decide)) (zl_if ?_ ?_)
            · skip
              refine zl_tr (r_aload_n d_184_399 rfl) ?_
              refine zl_tr (r_iload_n d_184_400 rfl) ?_
              refine zl_tr (r_aload_n d_184_401 rfl) ?_
              refine zl_tr (r_getI (kk := 6) d_184_402 ow_184 f_12_29 la_146 (by decide) rfl) ?_
              refine zl_tr (r_VV [zm_A 146, zm_I 0, zm_I (h7 146 6)] d_184_405 ow_184 cal_12_342 na_189 rfl rfl (Nat.le_of_ble_eq_true rfl) (by rw [rk_189]; decide) (zr_rcv la_146 ow_189) (zr_im mx_189 rfl (Nat.le_of_ble_eq_true rfl)) rt_189) (zl_V (fun h8 => ?_))
              refine zl_tr (r_aload_n d_184_408 rfl) ?_
              refine zl_tr (r_VV [zm_A 146] d_184_409 ow_184 cal_12_274 na_159 rfl rfl (Nat.le_of_ble_eq_true rfl) (by rw [rk_159]; decide) (zr_rcv la_146 ow_159) (zr_im mx_159 rfl (Nat.le_of_ble_eq_true rfl)) rt_159) (zl_V (fun h9 => ?_))
              refine zl_tr (r_iconst d_184_412 (by decide)) ?_
              exact r_zret d_184_413 rt_184
            · skip
              refine zl_tr (r_iconst d_184_397 (by decide)) ?_
              exact r_zret d_184_398 rt_184
          · skip
            refine zl_tr (r_aload_n d_184_390 rfl) ?_
            refine zl_tr (r_getI (kk := 8) d_184_391 ow_184 f_12_36 la_146 (by decide) rfl) ?_
            refine zl_tr (r_if_le (tgt := 399) d_184_394 (by decide)) (zl_if ?_ ?_)
            · skip
              refine zl_tr (r_aload_n d_184_399 rfl) ?_
              refine zl_tr (r_iload_n d_184_400 rfl) ?_
              refine zl_tr (r_aload_n d_184_401 rfl) ?_
              refine zl_tr (r_getI (kk := 6) d_184_402 ow_184 f_12_29 la_146 (by decide) rfl) ?_
              refine zl_tr (r_VV [zm_A 146, zm_I 0, zm_I (h6 146 6)] d_184_405 ow_184 cal_12_342 na_189 rfl rfl (Nat.le_of_ble_eq_true rfl) (by rw [rk_189]; decide) (zr_rcv la_146 ow_189) (zr_im mx_189 rfl (Nat.le_of_ble_eq_true rfl)) rt_189) (zl_V (fun h10 => ?_))
              refine zl_tr (r_aload_n d_184_408 rfl) ?_
              refine zl_tr (r_VV [zm_A 146] d_184_409 ow_184 cal_12_274 na_159 rfl rfl (Nat.le_of_ble_eq_true rfl) (by rw [rk_159]; decide) (zr_rcv la_146 ow_159) (zr_im mx_159 rfl (Nat.le_of_ble_eq_true rfl)) rt_159) (zl_V (fun h11 => ?_))
              refine zl_tr (r_iconst d_184_412 (by decide)) ?_
              exact r_zret d_184_413 rt_184
            · skip
              refine zl_tr (r_iconst d_184_397 (by decide)) ?_
              exact r_zret d_184_398 rt_184
        · skip
          refine zl_tr (r_aload_n d_184_289 rfl) ?_
          refine zl_tr (r_ldc2 d_184_290 ow_184 lng_12_307) ?_
          refine zl_tr (r_VI [zm_A 146, zm_L 1752135026] d_184_293 ow_184 cal_12_351 na_165 rfl rfl (Nat.le_of_ble_eq_true rfl) (by rw [rk_165]; decide) (zr_rcv la_146 ow_165) (zr_im mx_165 rfl (Nat.le_of_ble_eq_true rfl)) (by rw [rt_165]; decide)) (zl_I (fun v12 h13 => ?_))
          refine zl_tr (r_if_eq (tgt := 303) d_184_296 (by decide)) (zl_if ?_ ?_)
          · skip
            refine zl_tr (r_aload_n d_184_303 rfl) ?_
            refine zl_tr (r_ldc2 d_184_304 ow_184 lng_12_309) ?_
            refine zl_tr (r_VI [zm_A 146, zm_L 1818584692] d_184_307 ow_184 cal_12_351 na_165 rfl rfl (Nat.le_of_ble_eq_true rfl) (by rw [rk_165]; decide) (zr_rcv la_146 ow_165) (zr_im mx_165 rfl (Nat.le_of_ble_eq_true rfl)) (by rw [rt_165]; decide)) (zl_I (fun v14 h15 => ?_))
            refine zl_tr (r_if_eq (tgt := 317) d_184_310 (by decide)) (zl_if ?_ ?_)
            · skip
              refine zl_tr (r_aload_n d_184_317 rfl) ?_
              refine zl_tr (r_ldc2 d_184_318 ow_184 lng_12_311) ?_
              refine zl_tr (r_VI [zm_A 146, zm_L 1684631667] d_184_321 ow_184 cal_12_351 na_165 rfl rfl (Nat.le_of_ble_eq_true rfl) (by rw [rk_165]; decide) (zr_rcv la_146 ow_165) (zr_im mx_165 rfl (Nat.le_of_ble_eq_true rfl)) (by rw [rt_165]; decide)) (zl_I (fun v16 h17 => ?_))
              refine zl_tr (r_if_eq (tgt := 331) d_184_324 (by decide)) (zl_if ?_ ?_)
              · skip
                refine zl_tr (r_aload_n d_184_331 rfl) ?_
                refine zl_tr (r_ldc2 d_184_332 ow_184 lng_12_279) ?_
                refine zl_tr (r_VI [zm_A 146, zm_L 512970880104] d_184_335 ow_184 cal_12_351 na_165 rfl rfl (Nat.le_of_ble_eq_true rfl) (by rw [rk_165]; decide) (zr_rcv la_146 ow_165) (zr_im mx_165 rfl (Nat.le_of_ble_eq_true rfl)) (by rw [rt_165]; decide)) (zl_I (fun v18 h19 => ?_))
                refine zl_tr (r_if_eq (tgt := 345) d_184_338 (by decide)) (zl_if ?_ ?_)
                · skip
                  refine zl_tr (r_aload_n d_184_345 rfl) ?_
                  refine zl_tr (r_ldc2 d_184_346 ow_184 lng_12_281) ?_
                  refine zl_tr (r_VI [zm_A 146, zm_L 1936292453] d_184_349 ow_184 cal_12_351 na_165 rfl rfl (Nat.le_of_ble_eq_true rfl) (by rw [rk_165]; decide) (zr_rcv la_146 ow_165) (zr_im mx_165 rfl (Nat.le_of_ble_eq_true rfl)) (by rw [rt_165]; decide)) (zl_I (fun v20 h21 => ?_))
                  refine zl_tr (r_if_eq (tgt := 359) d_184_352 (by decide)) (zl_if ?_ ?_)
                  · skip
                    refine zl_tr (r_aload_n d_184_359 rfl) ?_
                    refine zl_tr (r_ldc2 d_184_360 ow_184 lng_12_313) ?_
                    refine zl_tr (r_VI [zm_A 146, zm_L 1835360622] d_184_363 ow_184 cal_12_351 na_165 rfl rfl (Nat.le_of_ble_eq_true rfl) (by rw [rk_165]; decide) (zr_rcv la_146 ow_165) (zr_im mx_165 rfl (Nat.le_of_ble_eq_true rfl)) (by rw [rt_165]; decide)) (zl_I (fun v22 h23 => ?_))
                    refine zl_tr (r_if_eq (tgt := 374) d_184_366 (by decide)) (zl_if ?_ ?_)
                    · skip
                      refine zl_tr (r_iconst d_184_374 (by decide)) ?_
                      refine zl_tr (r_istore_n (loc' := [zm_A 146, w1, w2, zm_I (-1)]) d_184_375 (Nat.le_of_ble_eq_true rfl) (zr_k1 rfl hw2 rfl)) ?_
                      refine zl_tr (r_iload_n d_184_376 rfl) ?_
                      refine zl_tr (r_iconst d_184_377 (by decide)) ?_
                      refine zl_tr (r_icmp_ne (tgt := 390) d_184_378 (by decide)) (zl_if ?_ ?_)
                      · skip
                        refine zl_tr (r_aload_n d_184_381 rfl) ?_
                        refine zl_tr (r_iconst d_184_382 (by decide)) ?_
                        refine zl_tr (r_aload_n d_184_383 rfl) ?_
                        refine zl_tr (r_getI (kk := 4) d_184_384 ow_184 f_12_23 la_146 (by decide) rfl) ?_
                        refine zl_tr (r_VV [zm_A 146, zm_I 1, zm_I (h23 146 4)] d_184_387 ow_184 cal_12_257 na_164 rfl rfl (Nat.le_of_ble_eq_true rfl) (by rw [rk_164]; decide) (zr_rcv la_146 ow_164) (zr_im mx_164 rfl (Nat.le_of_ble_eq_true rfl)) rt_164) (zl_V (fun h24 => ?_))
                        refine zl_tr (r_aload_n d_184_390 rfl) ?_
                        refine zl_tr (r_getI (kk := 8) d_184_391 ow_184 f_12_36 la_146 (by decide) rfl) ?_
                        refine zl_tr (r_if_le (tgt := 399) d_184_394 (by decide)) (zl_if ?_ ?_)
                        · skip
                          refine zl_tr (r_aload_n d_184_399 rfl) ?_
                          refine zl_tr (r_iload_n d_184_400 rfl) ?_
                          refine zl_tr (r_aload_n d_184_401 rfl) ?_
                          refine zl_tr (r_getI (kk := 6) d_184_402 ow_184 f_12_29 la_146 (by decide) rfl) ?_
                          refine zl_tr (r_VV [zm_A 146, zm_I (-1), zm_I (h24 146 6)] d_184_405 ow_184 cal_12_342 na_189 rfl rfl (Nat.le_of_ble_eq_true rfl) (by rw [rk_189]; decide) (zr_rcv la_146 ow_189) (zr_im mx_189 rfl (Nat.le_of_ble_eq_true rfl)) rt_189) (zl_V (fun h25 => ?_))
                          refine zl_tr (r_aload_n d_184_408 rfl) ?_
                          refine zl_tr (r_VV [zm_A 146] d_184_409 ow_184 cal_12_274 na_159 rfl rfl (Nat.le_of_ble_eq_true rfl) (by rw [rk_159]; decide) (zr_rcv la_146 ow_159) (zr_im mx_159 rfl (Nat.le_of_ble_eq_true rfl)) rt_159) (zl_V (fun h26 => ?_))
                          refine zl_tr (r_iconst d_184_412 (by decide)) ?_
                          exact r_zret d_184_413 rt_184
                        · skip
                          refine zl_tr (r_iconst d_184_397 (by decide)) ?_
                          exact r_zret d_184_398 rt_184
                      · skip
                        refine zl_tr (r_aload_n d_184_390 rfl) ?_
                        refine zl_tr (r_getI (kk := 8) d_184_391 ow_184 f_12_36 la_146 (by decide) rfl) ?_
                        refine zl_tr (r_if_le (tgt := 399) d_184_394 (by decide)) (zl_if ?_ ?_)
                        · skip
                          refine zl_tr (r_aload_n d_184_399 rfl) ?_
                          refine zl_tr (r_iload_n d_184_400 rfl) ?_
                          refine zl_tr (r_aload_n d_184_401 rfl) ?_
                          refine zl_tr (r_getI (kk := 6) d_184_402 ow_184 f_12_29 la_146 (by decide) rfl) ?_
                          refine zl_tr (r_VV [zm_A 146, zm_I (-1), zm_I (h23 146 6)] d_184_405 ow_184 cal_12_342 na_189 rfl rfl (Nat.le_of_ble_eq_true rfl) (by rw [rk_189]; decide) (zr_rcv la_146 ow_189) (zr_im mx_189 rfl (Nat.le_of_ble_eq_true rfl)) rt_189) (zl_V (fun h27 => ?_))
                          refine zl_tr (r_aload_n d_184_408 rfl) ?_
                          refine zl_tr (r_VV [zm_A 146] d_184_409 ow_184 cal_12_274 na_159 rfl rfl (Nat.le_of_ble_eq_true rfl) (by rw [rk_159]; decide) (zr_rcv la_146 ow_159) (zr_im mx_159 rfl (Nat.le_of_ble_eq_true rfl)) rt_159) (zl_V (fun h28 => ?_))
                          refine zl_tr (r_iconst d_184_412 (by decide)) ?_
                          exact r_zret d_184_413 rt_184
                        · skip
                          refine zl_tr (r_iconst d_184_397 (by decide)) ?_
                          exact r_zret d_184_398 rt_184
                    · skip
                      refine zl_tr (r_bipush d_184_369 (by decide)) ?_
                      refine zl_tr (r_goto (tgt := 375) d_184_371 (by decide)) ?_
                      refine zl_tr (r_istore_n (loc' := [zm_A 146, w1, w2, zm_I 6]) d_184_375 (Nat.le_of_ble_eq_true rfl) (zr_k1 rfl hw2 rfl)) ?_
                      refine zl_tr (r_iload_n d_184_376 rfl) ?_
                      refine zl_tr (r_iconst d_184_377 (by decide)) ?_
                      refine zl_tr (r_icmp_ne (tgt := 390) d_184_378 (by decide)) (zl_if ?_ ?_)
                      · skip
                        refine zl_tr (r_aload_n d_184_381 rfl) ?_
                        refine zl_tr (r_iconst d_184_382 (by decide)) ?_
                        refine zl_tr (r_aload_n d_184_383 rfl) ?_
                        refine zl_tr (r_getI (kk := 4) d_184_384 ow_184 f_12_23 la_146 (by decide) rfl) ?_
                        refine zl_tr (r_VV [zm_A 146, zm_I 1, zm_I (h23 146 4)] d_184_387 ow_184 cal_12_257 na_164 rfl rfl (Nat.le_of_ble_eq_true rfl) (by rw [rk_164]; decide) (zr_rcv la_146 ow_164) (zr_im mx_164 rfl (Nat.le_of_ble_eq_true rfl)) rt_164) (zl_V (fun h29 => ?_))
                        refine zl_tr (r_aload_n d_184_390 rfl) ?_
                        refine zl_tr (r_getI (kk := 8) d_184_391 ow_184 f_12_36 la_146 (by decide) rfl) ?_
                        refine zl_tr (r_if_le (tgt := 399) d_184_394 (by decide)) (zl_if ?_ ?_)
                        · skip
                          refine zl_tr (r_aload_n d_184_399 rfl) ?_
                          refine zl_tr (r_iload_n d_184_400 rfl) ?_
                          refine zl_tr (r_aload_n d_184_401 rfl) ?_
                          refine zl_tr (r_getI (kk := 6) d_184_402 ow_184 f_12_29 la_146 (by decide) rfl) ?_
                          refine zl_tr (r_VV [zm_A 146, zm_I 6, zm_I (h29 146 6)] d_184_405 ow_184 cal_12_342 na_189 rfl rfl (Nat.le_of_ble_eq_true rfl) (by rw [rk_189]; decide) (zr_rcv la_146 ow_189) (zr_im mx_189 rfl (Nat.le_of_ble_eq_true rfl)) rt_189) (zl_V (fun h30 => ?_))
                          refine zl_tr (r_aload_n d_184_408 rfl) ?_
                          refine zl_tr (r_VV [zm_A 146] d_184_409 ow_184 cal_12_274 na_159 rfl rfl (Nat.le_of_ble_eq_true rfl) (by rw [rk_159]; decide) (zr_rcv la_146 ow_159) (zr_im mx_159 rfl (Nat.le_of_ble_eq_true rfl)) rt_159) (zl_V (fun h31 => ?_))
                          refine zl_tr (r_iconst d_184_412 (by decide)) ?_
                          exact r_zret d_184_413 rt_184
                        · skip
                          refine zl_tr (r_iconst d_184_397 (by decide)) ?_
                          exact r_zret d_184_398 rt_184
                      · skip
                        refine zl_tr (r_aload_n d_184_390 rfl) ?_
                        refine zl_tr (r_getI (kk := 8) d_184_391 ow_184 f_12_36 la_146 (by decide) rfl) ?_
                        refine zl_tr (r_if_le (tgt := 399) d_184_394 (by decide)) (zl_if ?_ ?_)
                        · skip
                          refine zl_tr (r_aload_n d_184_399 rfl) ?_
                          refine zl_tr (r_iload_n d_184_400 rfl) ?_
                          refine zl_tr (r_aload_n d_184_401 rfl) ?_
                          refine zl_tr (r_getI (kk := 6) d_184_402 ow_184 f_12_29 la_146 (by decide) rfl) ?_
                          refine zl_tr (r_VV [zm_A 146, zm_I 6, zm_I (h23 146 6)] d_184_405 ow_184 cal_12_342 na_189 rfl rfl (Nat.le_of_ble_eq_true rfl) (by rw [rk_189]; decide) (zr_rcv la_146 ow_189) (zr_im mx_189 rfl (Nat.le_of_ble_eq_true rfl)) rt_189) (zl_V (fun h32 => ?_))
                          refine zl_tr (r_aload_n d_184_408 rfl) ?_
                          refine zl_tr (r_VV [zm_A 146] d_184_409 ow_184 cal_12_274 na_159 rfl rfl (Nat.le_of_ble_eq_true rfl) (by rw [rk_159]; decide) (zr_rcv la_146 ow_159) (zr_im mx_159 rfl (Nat.le_of_ble_eq_true rfl)) rt_159) (zl_V (fun h33 => ?_))
                          refine zl_tr (r_iconst d_184_412 (by decide)) ?_
                          exact r_zret d_184_413 rt_184
                        · skip
                          refine zl_tr (r_iconst d_184_397 (by decide)) ?_
                          exact r_zret d_184_398 rt_184
                  · skip
                    refine zl_tr (r_iconst d_184_355 (by decide)) ?_
                    refine zl_tr (r_goto (tgt := 375) d_184_356 (by decide)) ?_
                    refine zl_tr (r_istore_n (loc' := [zm_A 146, w1, w2, zm_I 5]) d_184_375 (Nat.le_of_ble_eq_true rfl) (zr_k1 rfl hw2 rfl)) ?_
                    refine zl_tr (r_iload_n d_184_376 rfl) ?_
                    refine zl_tr (r_iconst d_184_377 (by decide)) ?_
                    refine zl_tr (r_icmp_ne (tgt := 390) d_184_378 (by decide)) (zl_if ?_ ?_)
                    · skip
                      refine zl_tr (r_aload_n d_184_381 rfl) ?_
                      refine zl_tr (r_iconst d_184_382 (by decide)) ?_
                      refine zl_tr (r_aload_n d_184_383 rfl) ?_
                      refine zl_tr (r_getI (kk := 4) d_184_384 ow_184 f_12_23 la_146 (by decide) rfl) ?_
                      refine zl_tr (r_VV [zm_A 146, zm_I 1, zm_I (h21 146 4)] d_184_387 ow_184 cal_12_257 na_164 rfl rfl (Nat.le_of_ble_eq_true rfl) (by rw [rk_164]; decide) (zr_rcv la_146 ow_164) (zr_im mx_164 rfl (Nat.le_of_ble_eq_true rfl)) rt_164) (zl_V (fun h34 => ?_))
                      refine zl_tr (r_aload_n d_184_390 rfl) ?_
                      refine zl_tr (r_getI (kk := 8) d_184_391 ow_184 f_12_36 la_146 (by decide) rfl) ?_
                      refine zl_tr (r_if_le (tgt := 399) d_184_394 (by decide)) (zl_if ?_ ?_)
                      · skip
                        refine zl_tr (r_aload_n d_184_399 rfl) ?_
                        refine zl_tr (r_iload_n d_184_400 rfl) ?_
                        refine zl_tr (r_aload_n d_184_401 rfl) ?_
                        refine zl_tr (r_getI (kk := 6) d_184_402 ow_184 f_12_29 la_146 (by decide) rfl) ?_
                        refine zl_tr (r_VV [zm_A 146, zm_I 5, zm_I (h34 146 6)] d_184_405 ow_184 cal_12_342 na_189 rfl rfl (Nat.le_of_ble_eq_true rfl) (by rw [rk_189]; decide) (zr_rcv la_146 ow_189) (zr_im mx_189 rfl (Nat.le_of_ble_eq_true rfl)) rt_189) (zl_V (fun h35 => ?_))
                        refine zl_tr (r_aload_n d_184_408 rfl) ?_
                        refine zl_tr (r_VV [zm_A 146] d_184_409 ow_184 cal_12_274 na_159 rfl rfl (Nat.le_of_ble_eq_true rfl) (by rw [rk_159]; decide) (zr_rcv la_146 ow_159) (zr_im mx_159 rfl (Nat.le_of_ble_eq_true rfl)) rt_159) (zl_V (fun h36 => ?_))
                        refine zl_tr (r_iconst d_184_412 (by decide)) ?_
                        exact r_zret d_184_413 rt_184
                      · skip
                        refine zl_tr (r_iconst d_184_397 (by decide)) ?_
                        exact r_zret d_184_398 rt_184
                    · skip
                      refine zl_tr (r_aload_n d_184_390 rfl) ?_
                      refine zl_tr (r_getI (kk := 8) d_184_391 ow_184 f_12_36 la_146 (by decide) rfl) ?_
                      refine zl_tr (r_if_le (tgt := 399) d_184_394 (by decide)) (zl_if ?_ ?_)
                      · skip
                        refine zl_tr (r_aload_n d_184_399 rfl) ?_
                        refine zl_tr (r_iload_n d_184_400 rfl) ?_
                        refine zl_tr (r_aload_n d_184_401 rfl) ?_
                        refine zl_tr (r_getI (kk := 6) d_184_402 ow_184 f_12_29 la_146 (by decide) rfl) ?_
                        refine zl_tr (r_VV [zm_A 146, zm_I 5, zm_I (h21 146 6)] d_184_405 ow_184 cal_12_342 na_189 rfl rfl (Nat.le_of_ble_eq_true rfl) (by rw [rk_189]; decide) (zr_rcv la_146 ow_189) (zr_im mx_189 rfl (Nat.le_of_ble_eq_true rfl)) rt_189) (zl_V (fun h37 => ?_))
                        refine zl_tr (r_aload_n d_184_408 rfl) ?_
                        refine zl_tr (r_VV [zm_A 146] d_184_409 ow_184 cal_12_274 na_159 rfl rfl (Nat.le_of_ble_eq_true rfl) (by rw [rk_159]; decide) (zr_rcv la_146 ow_159) (zr_im mx_159 rfl (Nat.le_of_ble_eq_true rfl)) rt_159) (zl_V (fun h38 => ?_))
                        refine zl_tr (r_iconst d_184_412 (by decide)) ?_
                        exact r_zret d_184_413 rt_184
                      · skip
                        refine zl_tr (r_iconst d_184_397 (by decide)) ?_
                        exact r_zret d_184_398 rt_184
                · skip
                  refine zl_tr (r_iconst d_184_341 (by decide)) ?_
                  refine zl_tr (r_goto (tgt := 375) d_184_342 (by decide)) ?_
                  refine zl_tr (r_istore_n (loc' := [zm_A 146, w1, w2, zm_I 4]) d_184_375 (Nat.le_of_ble_eq_true rfl) (zr_k1 rfl hw2 rfl)) ?_
                  refine zl_tr (r_iload_n d_184_376 rfl) ?_
                  refine zl_tr (r_iconst d_184_377 (by decide)) ?_
                  refine zl_tr (r_icmp_ne (tgt := 390) d_184_378 (by decide)) (zl_if ?_ ?_)
                  · skip
                    refine zl_tr (r_aload_n d_184_381 rfl) ?_
                    refine zl_tr (r_iconst d_184_382 (by decide)) ?_
                    refine zl_tr (r_aload_n d_184_383 rfl) ?_
                    refine zl_tr (r_getI (kk := 4) d_184_384 ow_184 f_12_23 la_146 (by decide) rfl) ?_
                    refine zl_tr (r_VV [zm_A 146, zm_I 1, zm_I (h19 146 4)] d_184_387 ow_184 cal_12_257 na_164 rfl rfl (Nat.le_of_ble_eq_true rfl) (by rw [rk_164]; decide) (zr_rcv la_146 ow_164) (zr_im mx_164 rfl (Nat.le_of_ble_eq_true rfl)) rt_164) (zl_V (fun h39 => ?_))
                    refine zl_tr (r_aload_n d_184_390 rfl) ?_
                    refine zl_tr (r_getI (kk := 8) d_184_391 ow_184 f_12_36 la_146 (by decide) rfl) ?_
                    refine zl_tr (r_if_le (tgt := 399) d_184_394 (by decide)) (zl_if ?_ ?_)
                    · skip
                      refine zl_tr (r_aload_n d_184_399 rfl) ?_
                      refine zl_tr (r_iload_n d_184_400 rfl) ?_
                      refine zl_tr (r_aload_n d_184_401 rfl) ?_
                      refine zl_tr (r_getI (kk := 6) d_184_402 ow_184 f_12_29 la_146 (by decide) rfl) ?_
                      refine zl_tr (r_VV [zm_A 146, zm_I 4, zm_I (h39 146 6)] d_184_405 ow_184 cal_12_342 na_189 rfl rfl (Nat.le_of_ble_eq_true rfl) (by rw [rk_189]; decide) (zr_rcv la_146 ow_189) (zr_im mx_189 rfl (Nat.le_of_ble_eq_true rfl)) rt_189) (zl_V (fun h40 => ?_))
                      refine zl_tr (r_aload_n d_184_408 rfl) ?_
                      refine zl_tr (r_VV [zm_A 146] d_184_409 ow_184 cal_12_274 na_159 rfl rfl (Nat.le_of_ble_eq_true rfl) (by rw [rk_159]; decide) (zr_rcv la_146 ow_159) (zr_im mx_159 rfl (Nat.le_of_ble_eq_true rfl)) rt_159) (zl_V (fun h41 => ?_))
                      refine zl_tr (r_iconst d_184_412 (by decide)) ?_
                      exact r_zret d_184_413 rt_184
                    · skip
                      refine zl_tr (r_iconst d_184_397 (by decide)) ?_
                      exact r_zret d_184_398 rt_184
                  · skip
                    refine zl_tr (r_aload_n d_184_390 rfl) ?_
                    refine zl_tr (r_getI (kk := 8) d_184_391 ow_184 f_12_36 la_146 (by decide) rfl) ?_
                    refine zl_tr (r_if_le (tgt := 399) d_184_394 (by decide)) (zl_if ?_ ?_)
                    · skip
                      refine zl_tr (r_aload_n d_184_399 rfl) ?_
                      refine zl_tr (r_iload_n d_184_400 rfl) ?_
                      refine zl_tr (r_aload_n d_184_401 rfl) ?_
                      refine zl_tr (r_getI (kk := 6) d_184_402 ow_184 f_12_29 la_146 (by decide) rfl) ?_
                      refine zl_tr (r_VV [zm_A 146, zm_I 4, zm_I (h19 146 6)] d_184_405 ow_184 cal_12_342 na_189 rfl rfl (Nat.le_of_ble_eq_true rfl) (by rw [rk_189]; decide) (zr_rcv la_146 ow_189) (zr_im mx_189 rfl (Nat.le_of_ble_eq_true rfl)) rt_189) (zl_V (fun h42 => ?_))
                      refine zl_tr (r_aload_n d_184_408 rfl) ?_
                      refine zl_tr (r_VV [zm_A 146] d_184_409 ow_184 cal_12_274 na_159 rfl rfl (Nat.le_of_ble_eq_true rfl) (by rw [rk_159]; decide) (zr_rcv la_146 ow_159) (zr_im mx_159 rfl (Nat.le_of_ble_eq_true rfl)) rt_159) (zl_V (fun h43 => ?_))
                      refine zl_tr (r_iconst d_184_412 (by decide)) ?_
                      exact r_zret d_184_413 rt_184
                    · skip
                      refine zl_tr (r_iconst d_184_397 (by decide)) ?_
                      exact r_zret d_184_398 rt_184
              · skip
                refine zl_tr (r_iconst d_184_327 (by decide)) ?_
                refine zl_tr (r_goto (tgt := 375) d_184_328 (by decide)) ?_
                refine zl_tr (r_istore_n (loc' := [zm_A 146, w1, w2, zm_I 3]) d_184_375 (Nat.le_of_ble_eq_true rfl) (zr_k1 rfl hw2 rfl)) ?_
                refine zl_tr (r_iload_n d_184_376 rfl) ?_
                refine zl_tr (r_iconst d_184_377 (by decide)) ?_
                refine zl_tr (r_icmp_ne (tgt := 390) d_184_378 (by decide)) (zl_if ?_ ?_)
                · skip
                  refine zl_tr (r_aload_n d_184_381 rfl) ?_
                  refine zl_tr (r_iconst d_184_382 (by decide)) ?_
                  refine zl_tr (r_aload_n d_184_383 rfl) ?_
                  refine zl_tr (r_getI (kk := 4) d_184_384 ow_184 f_12_23 la_146 (by decide) rfl) ?_
                  refine zl_tr (r_VV [zm_A 146, zm_I 1, zm_I (h17 146 4)] d_184_387 ow_184 cal_12_257 na_164 rfl rfl (Nat.le_of_ble_eq_true rfl) (by rw [rk_164]; decide) (zr_rcv la_146 ow_164) (zr_im mx_164 rfl (Nat.le_of_ble_eq_true rfl)) rt_164) (zl_V (fun h44 => ?_))
                  refine zl_tr (r_aload_n d_184_390 rfl) ?_
                  refine zl_tr (r_getI (kk := 8) d_184_391 ow_184 f_12_36 la_146 (by decide) rfl) ?_
                  refine zl_tr (r_if_le (tgt := 399) d_184_394 (by decide)) (zl_if ?_ ?_)
                  · skip
                    refine zl_tr (r_aload_n d_184_399 rfl) ?_
                    refine zl_tr (r_iload_n d_184_400 rfl) ?_
                    refine zl_tr (r_aload_n d_184_401 rfl) ?_
                    refine zl_tr (r_getI (kk := 6) d_184_402 ow_184 f_12_29 la_146 (by decide) rfl) ?_
                    refine zl_tr (r_VV [zm_A 146, zm_I 3, zm_I (h44 146 6)] d_184_405 ow_184 cal_12_342 na_189 rfl rfl (Nat.le_of_ble_eq_true rfl) (by rw [rk_189]; decide) (zr_rcv la_146 ow_189) (zr_im mx_189 rfl (Nat.le_of_ble_eq_true rfl)) rt_189) (zl_V (fun h45 => ?_))
                    refine zl_tr (r_aload_n d_184_408 rfl) ?_
                    refine zl_tr (r_VV [zm_A 146] d_184_409 ow_184 cal_12_274 na_159 rfl rfl (Nat.le_of_ble_eq_true rfl) (by rw [rk_159]; decide) (zr_rcv la_146 ow_159) (zr_im mx_159 rfl (Nat.le_of_ble_eq_true rfl)) rt_159) (zl_V (fun h46 => ?_))
                    refine zl_tr (r_iconst d_184_412 (by decide)) ?_
                    exact r_zret d_184_413 rt_184
                  · skip
                    refine zl_tr (r_iconst d_184_397 (by decide)) ?_
                    exact r_zret d_184_398 rt_184
                · skip
                  refine zl_tr (r_aload_n d_184_390 rfl) ?_
                  refine zl_tr (r_getI (kk := 8) d_184_391 ow_184 f_12_36 la_146 (by decide) rfl) ?_
                  refine zl_tr (r_if_le (tgt := 399) d_184_394 (by decide)) (zl_if ?_ ?_)
                  · skip
                    refine zl_tr (r_aload_n d_184_399 rfl) ?_
                    refine zl_tr (r_iload_n d_184_400 rfl) ?_
                    refine zl_tr (r_aload_n d_184_401 rfl) ?_
                    refine zl_tr (r_getI (kk := 6) d_184_402 ow_184 f_12_29 la_146 (by decide) rfl) ?_
                    refine zl_tr (r_VV [zm_A 146, zm_I 3, zm_I (h17 146 6)] d_184_405 ow_184 cal_12_342 na_189 rfl rfl (Nat.le_of_ble_eq_true rfl) (by rw [rk_189]; decide) (zr_rcv la_146 ow_189) (zr_im mx_189 rfl (Nat.le_of_ble_eq_true rfl)) rt_189) (zl_V (fun h47 => ?_))
                    refine zl_tr (r_aload_n d_184_408 rfl) ?_
                    refine zl_tr (r_VV [zm_A 146] d_184_409 ow_184 cal_12_274 na_159 rfl rfl (Nat.le_of_ble_eq_true rfl) (by rw [rk_159]; decide) (zr_rcv la_146 ow_159) (zr_im mx_159 rfl (Nat.le_of_ble_eq_true rfl)) rt_159) (zl_V (fun h48 => ?_))
                    refine zl_tr (r_iconst d_184_412 (by decide)) ?_
                    exact r_zret d_184_413 rt_184
                  · skip
                    refine zl_tr (r_iconst d_184_397 (by decide)) ?_
                    exact r_zret d_184_398 rt_184
            · skip
              refine zl_tr (r_iconst d_184_313 (by decide)) ?_
              refine zl_tr (r_goto (tgt := 375) d_184_314 (by decide)) ?_
              refine zl_tr (r_istore_n (loc' := [zm_A 146, w1, w2, zm_I 2]) d_184_375 (Nat.le_of_ble_eq_true rfl) (zr_k1 rfl hw2 rfl)) ?_
              refine zl_tr (r_iload_n d_184_376 rfl) ?_
              refine zl_tr (r_iconst d_184_377 (by decide)) ?_
              refine zl_tr (r_icmp_ne (tgt := 390) d_184_378 (by decide)) (zl_if ?_ ?_)
              · skip
                refine zl_tr (r_aload_n d_184_381 rfl) ?_
                refine zl_tr (r_iconst d_184_382 (by decide)) ?_
                refine zl_tr (r_aload_n d_184_383 rfl) ?_
                refine zl_tr (r_getI (kk := 4) d_184_384 ow_184 f_12_23 la_146 (by decide) rfl) ?_
                refine zl_tr (r_VV [zm_A 146, zm_I 1, zm_I (h15 146 4)] d_184_387 ow_184 cal_12_257 na_164 rfl rfl (Nat.le_of_ble_eq_true rfl) (by rw [rk_164]; decide) (zr_rcv la_146 ow_164) (zr_im mx_164 rfl (Nat.le_of_ble_eq_true rfl)) rt_164) (zl_V (fun h49 => ?_))
                refine zl_tr (r_aload_n d_184_390 rfl) ?_
                refine zl_tr (r_getI (kk := 8) d_184_391 ow_184 f_12_36 la_146 (by decide) rfl) ?_
                refine zl_tr (r_if_le (tgt := 399) d_184_394 (by decide)) (zl_if ?_ ?_)
                · skip
                  refine zl_tr (r_aload_n d_184_399 rfl) ?_
                  refine zl_tr (r_iload_n d_184_400 rfl) ?_
                  refine zl_tr (r_aload_n d_184_401 rfl) ?_
                  refine zl_tr (r_getI (kk := 6) d_184_402 ow_184 f_12_29 la_146 (by decide) rfl) ?_
                  refine zl_tr (r_VV [zm_A 146, zm_I 2, zm_I (h49 146 6)] d_184_405 ow_184 cal_12_342 na_189 rfl rfl (Nat.le_of_ble_eq_true rfl) (by rw [rk_189]; decide) (zr_rcv la_146 ow_189) (zr_im mx_189 rfl (Nat.le_of_ble_eq_true rfl)) rt_189) (zl_V (fun h50 => ?_))
                  refine zl_tr (r_aload_n d_184_408 rfl) ?_
                  refine zl_tr (r_VV [zm_A 146] d_184_409 ow_184 cal_12_274 na_159 rfl rfl (Nat.le_of_ble_eq_true rfl) (by rw [rk_159]; decide) (zr_rcv la_146 ow_159) (zr_im mx_159 rfl (Nat.le_of_ble_eq_true rfl)) rt_159) (zl_V (fun h51 => ?_))
                  refine zl_tr (r_iconst d_184_412 (by decide)) ?_
                  exact r_zret d_184_413 rt_184
                · skip
                  refine zl_tr (r_iconst d_184_397 (by decide)) ?_
                  exact r_zret d_184_398 rt_184
              · skip
                refine zl_tr (r_aload_n d_184_390 rfl) ?_
                refine zl_tr (r_getI (kk := 8) d_184_391 ow_184 f_12_36 la_146 (by decide) rfl) ?_
                refine zl_tr (r_if_le (tgt := 399) d_184_394 (by decide)) (zl_if ?_ ?_)
                · skip
                  refine zl_tr (r_aload_n d_184_399 rfl) ?_
                  refine zl_tr (r_iload_n d_184_400 rfl) ?_
                  refine zl_tr (r_aload_n d_184_401 rfl) ?_
                  refine zl_tr (r_getI (kk := 6) d_184_402 ow_184 f_12_29 la_146 (by decide) rfl) ?_
                  refine zl_tr (r_VV [zm_A 146, zm_I 2, zm_I (h15 146 6)] d_184_405 ow_184 cal_12_342 na_189 rfl rfl (Nat.le_of_ble_eq_true rfl) (by rw [rk_189]; decide) (zr_rcv la_146 ow_189) (zr_im mx_189 rfl (Nat.le_of_ble_eq_true rfl)) rt_189) (zl_V (fun h52 => ?_))
                  refine zl_tr (r_aload_n d_184_408 rfl) ?_
                  refine zl_tr (r_VV [zm_A 146] d_184_409 ow_184 cal_12_274 na_159 rfl rfl (Nat.le_of_ble_eq_true rfl) (by rw [rk_159]; decide) (zr_rcv la_146 ow_159) (zr_im mx_159 rfl (Nat.le_of_ble_eq_true rfl)) rt_159) (zl_V (fun h53 => ?_))
                  refine zl_tr (r_iconst d_184_412 (by decide)) ?_
                  exact r_zret d_184_413 rt_184
                · skip
                  refine zl_tr (r_iconst d_184_397 (by decide)) ?_
                  exact r_zret d_184_398 rt_184
          · skip
            refine zl_tr (r_iconst d_184_299 (by decide)) ?_
            refine zl_tr (r_goto (tgt := 375) d_184_300 (by decide)) ?_
            refine zl_tr (r_istore_n (loc' := [zm_A 146, w1, w2, zm_I 1]) d_184_375 (Nat.le_of_ble_eq_true rfl) (zr_k1 rfl hw2 rfl)) ?_
            refine zl_tr (r_iload_n d_184_376 rfl) ?_
            refine zl_tr (r_iconst d_184_377 (by decide)) ?_
            refine zl_tr (r_icmp_ne (tgt := 390) d_184_378 (by decide)) (zl_if ?_ ?_)
            · skip
              refine zl_tr (r_aload_n d_184_381 rfl) ?_
              refine zl_tr (r_iconst d_184_382 (by decide)) ?_
              refine zl_tr (r_aload_n d_184_383 rfl) ?_
              refine zl_tr (r_getI (kk := 4) d_184_384 ow_184 f_12_23 la_146 (by decide) rfl) ?_
              refine zl_tr (r_VV [zm_A 146, zm_I 1, zm_I (h13 146 4)] d_184_387 ow_184 cal_12_257 na_164 rfl rfl (Nat.le_of_ble_eq_true rfl) (by rw [rk_164]; decide) (zr_rcv la_146 ow_164) (zr_im mx_164 rfl (Nat.le_of_ble_eq_true rfl)) rt_164) (zl_V (fun h54 => ?_))
              refine zl_tr (r_aload_n d_184_390 rfl) ?_
              refine zl_tr (r_getI (kk := 8) d_184_391 ow_184 f_12_36 la_146 (by decide) rfl) ?_
              refine zl_tr (r_if_le (tgt := 399) d_184_394 (by decide)) (zl_if ?_ ?_)
              · skip
                refine zl_tr (r_aload_n d_184_399 rfl) ?_
                refine zl_tr (r_iload_n d_184_400 rfl) ?_
                refine zl_tr (r_aload_n d_184_401 rfl) ?_
                refine zl_tr (r_getI (kk := 6) d_184_402 ow_184 f_12_29 la_146 (by decide) rfl) ?_
                refine zl_tr (r_VV [zm_A 146, zm_I 1, zm_I (h54 146 6)] d_184_405 ow_184 cal_12_342 na_189 rfl rfl (Nat.le_of_ble_eq_true rfl) (by rw [rk_189]; decide) (zr_rcv la_146 ow_189) (zr_im mx_189 rfl (Nat.le_of_ble_eq_true rfl)) rt_189) (zl_V (fun h55 => ?_))
                refine zl_tr (r_aload_n d_184_408 rfl) ?_
                refine zl_tr (r_VV [zm_A 146] d_184_409 ow_184 cal_12_274 na_159 rfl rfl (Nat.le_of_ble_eq_true rfl) (by rw [rk_159]; decide) (zr_rcv la_146 ow_159) (zr_im mx_159 rfl (Nat.le_of_ble_eq_true rfl)) rt_159) (zl_V (fun h56 => ?_))
                refine zl_tr (r_iconst d_184_412 (by decide)) ?_
                exact r_zret d_184_413 rt_184
              · skip
                refine zl_tr (r_iconst d_184_397 (by decide)) ?_
                exact r_zret d_184_398 rt_184
            · skip
              refine zl_tr (r_aload_n d_184_390 rfl) ?_
              refine zl_tr (r_getI (kk := 8) d_184_391 ow_184 f_12_36 la_146 (by decide) rfl) ?_
              refine zl_tr (r_if_le (tgt := 399) d_184_394 (by decide)) (zl_if ?_ ?_)
              · skip
                refine zl_tr (r_aload_n d_184_399 rfl) ?_
                refine zl_tr (r_iload_n d_184_400 rfl) ?_
                refine zl_tr (r_aload_n d_184_401 rfl) ?_
                refine zl_tr (r_getI (kk := 6) d_184_402 ow_184 f_12_29 la_146 (by decide) rfl) ?_
                refine zl_tr (r_VV [zm_A 146, zm_I 1, zm_I (h13 146 6)] d_184_405 ow_184 cal_12_342 na_189 rfl rfl (Nat.le_of_ble_eq_true rfl) (by rw [rk_189]; decide) (zr_rcv la_146 ow_189) (zr_im mx_189 rfl (Nat.le_of_ble_eq_true rfl)) rt_189) (zl_V (fun h57 => ?_))
                refine zl_tr (r_aload_n d_184_408 rfl) ?_
                refine zl_tr (r_VV [zm_A 146] d_184_409 ow_184 cal_12_274 na_159 rfl rfl (Nat.le_of_ble_eq_true rfl) (by rw [rk_159]; decide) (zr_rcv la_146 ow_159) (zr_im mx_159 rfl (Nat.le_of_ble_eq_true rfl)) rt_159) (zl_V (fun h58 => ?_))
                refine zl_tr (r_iconst d_184_412 (by decide)) ?_
                exact r_zret d_184_413 rt_184
              · skip
                refine zl_tr (r_iconst d_184_397 (by decide)) ?_
                exact r_zret d_184_398 rt_184
      · skip
        exact zl_rf
    · skip
      exact zl_rf
  · skip
    refine zl_tr (r_aload_n d_184_180 rfl) ?_
    refine zl_tr (r_iconst d_184_181 (by decide)) ?_
    refine zl_tr (r_VV [zm_A 146, zm_I 2] d_184_182 ow_184 cal_12_358 na_188 rfl rfl (Nat.le_of_ble_eq_true rfl) (by rw [rk_188]; decide) (zr_rcv la_146 ow_188) (zr_im mx_188 rfl (Nat.le_of_ble_eq_true rfl)) rt_188) (zl_V (fun h59 => ?_))
    refine zl_tr (r_iconst d_184_185 (by decide)) ?_
    exact r_zret d_184_186 rt_184
-- BranTubModel.operand, from 207
set_option maxRecDepth 20000 in
theorem e_184_207 {h : zm_H} {w1 : zm_V} {w2 : zm_V} {w3 : zm_V} (hw2 : zm_cat w2 ≠ 2) : zl (zk_I (zc 165 [zm_A 146, zm_L 7170414] h) (fun v1 h2 => if v1 = 0 then (zk_V (zc 159 [zm_A 146] h2) (fun h3 => zk_V (zc 163 [zm_A 146] h3) (fun h4 => zk_I (zc 187 [zm_A 146, zm_I 40] h4) (fun v5 h6 => if v5 = 0 then (zk_V (zc 164 [zm_A 146, zm_I 1, zm_I (h6 146 4)] h6) (fun h7 => zr none 4 184 251 [zm_A 146, w1, w2, zm_I 16] [] h7)) else (zr none 4 184 251 [zm_A 146, w1, w2, zm_I 16] [] h6))))) else (zk_V (zc 159 [zm_A 146] h2) (fun h8 => zk_V (zc 163 [zm_A 146] h8) (fun h9 => zk_I (zc 187 [zm_A 146, zm_I 40] h9) (fun v10 h11 => if v10 = 0 then (zk_V (zc 164 [zm_A 146, zm_I 1, zm_I (h11 146 4)] h11) (fun h12 => zr none 4 184 251 [zm_A 146, w1, w2, zm_I 15] [] h12)) else (zr none 4 184 251 [zm_A 146, w1, w2, zm_I 15] [] h11))))))) (zr none 4 184 207 [zm_A 146, w1, w2, w3] [] h) := by
  refine zl_tr (r_aload_n d_184_207 rfl) ?_
  refine zl_tr (r_ldc2 d_184_208 ow_184 lng_12_323) ?_
  refine zl_tr (r_VI [zm_A 146, zm_L 7170414] d_184_211 ow_184 cal_12_351 na_165 rfl rfl (Nat.le_of_ble_eq_true rfl) (by rw [rk_165]; decide) (zr_rcv la_146 ow_165) (zr_im mx_165 rfl (Nat.le_of_ble_eq_true rfl)) (by rw [rt_165]; decide)) (zl_I (fun v1 h2 => ?_))
  refine zl_tr (r_if_eq (tgt := 222) d_184_214 (by decide)) (zl_if ?_ ?_)
  · skip
    refine zl_tr (r_bipush d_184_222 (by decide)) ?_
    refine zl_tr (r_istore_n (loc' := [zm_A 146, w1, w2, zm_I 16]) d_184_224 (Nat.le_of_ble_eq_true rfl) (zr_k1 rfl hw2 rfl)) ?_
    refine zl_tr (r_aload_n d_184_225 rfl) ?_
    refine zl_tr (r_VV [zm_A 146] d_184_226 ow_184 cal_12_274 na_159 rfl rfl (Nat.le_of_ble_eq_true rfl) (by rw [rk_159]; decide) (zr_rcv la_146 ow_159) (zr_im mx_159 rfl (Nat.le_of_ble_eq_true rfl)) rt_159) (zl_V (fun h3 => ?_))
    refine zl_tr (r_aload_n d_184_229 rfl) ?_
    refine zl_tr (r_VV [zm_A 146] d_184_230 ow_184 cal_12_268 na_163 rfl rfl (Nat.le_of_ble_eq_true rfl) (by rw [rk_163]; decide) (zr_rcv la_146 ow_163) (zr_im mx_163 rfl (Nat.le_of_ble_eq_true rfl)) rt_163) (zl_V (fun h4 => ?_))
    refine zl_tr (r_aload_n d_184_233 rfl) ?_
    refine zl_tr (r_bipush d_184_234 (by decide)) ?_
    refine zl_tr (r_VI [zm_A 146, zm_I 40] d_184_236 ow_184 cal_12_271 na_187 rfl rfl (Nat.le_of_ble_eq_true rfl) (by rw [rk_187]; decide) (zr_rcv la_146 ow_187) (zr_im mx_187 rfl (Nat.le_of_ble_eq_true rfl)) (by rw [rt_187]; decide)) (zl_I (fun v5 h6 => ?_))
    refine zl_tr (r_if_ne (tgt := 251) d_184_239 (by decide)) (zl_if ?_ ?_)
    · skip
      refine zl_tr (r_aload_n d_184_242 rfl) ?_
      refine zl_tr (r_iconst d_184_243 (by decide)) ?_
      refine zl_tr (r_aload_n d_184_244 rfl) ?_
      refine zl_tr (r_getI (kk := 4) d_184_245 ow_184 f_12_23 la_146 (by decide) rfl) ?_
      refine zl_tr (r_VV [zm_A 146, zm_I 1, zm_I (h6 146 4)] d_184_248 ow_184 cal_12_257 na_164 rfl rfl (Nat.le_of_ble_eq_true rfl) (by rw [rk_164]; decide) (zr_rcv la_146 ow_164) (zr_im mx_164 rfl (Nat.le_of_ble_eq_true rfl)) rt_164) (zl_V (fun h7 => ?_))
      exact zl_rf
    · skip
      exact zl_rf
  · skip
    refine zl_tr (r_bipush d_184_217 (by decide)) ?_
    refine zl_tr (r_goto (tgt := 224) d_184_219 (by decide)) ?_
    refine zl_tr (r_istore_n (loc' := [zm_A 146, w1, w2, zm_I 15]) d_184_224 (Nat.le_of_ble_eq_true rfl) (zr_k1 rfl hw2 rfl)) ?_
    refine zl_tr (r_aload_n d_184_225 rfl) ?_
    refine zl_tr (r_VV [zm_A 146] d_184_226 ow_184 cal_12_274 na_159 rfl rfl (Nat.le_of_ble_eq_true rfl) (by rw [rk_159]; decide) (zr_rcv la_146 ow_159) (zr_im mx_159 rfl (Nat.le_of_ble_eq_true rfl)) rt_159) (zl_V (fun h8 => ?_))
    refine zl_tr (r_aload_n d_184_229 rfl) ?_
    refine zl_tr (r_VV [zm_A 146] d_184_230 ow_184 cal_12_268 na_163 rfl rfl (Nat.le_of_ble_eq_true rfl) (by rw [rk_163]; decide) (zr_rcv la_146 ow_163) (zr_im mx_163 rfl (Nat.le_of_ble_eq_true rfl)) rt_163) (zl_V (fun h9 => ?_))
    refine zl_tr (r_aload_n d_184_233 rfl) ?_
    refine zl_tr (r_bipush d_184_234 (by decide)) ?_
    refine zl_tr (r_VI [zm_A 146, zm_I 40] d_184_236 ow_184 cal_12_271 na_187 rfl rfl (Nat.le_of_ble_eq_true rfl) (by rw [rk_187]; decide) (zr_rcv la_146 ow_187) (zr_im mx_187 rfl (Nat.le_of_ble_eq_true rfl)) (by rw [rt_187]; decide)) (zl_I (fun v10 h11 => ?_))
    refine zl_tr (r_if_ne (tgt := 251) d_184_239 (by decide)) (zl_if ?_ ?_)
    · skip
      refine zl_tr (r_aload_n d_184_242 rfl) ?_
      refine zl_tr (r_iconst d_184_243 (by decide)) ?_
      refine zl_tr (r_aload_n d_184_244 rfl) ?_
      refine zl_tr (r_getI (kk := 4) d_184_245 ow_184 f_12_23 la_146 (by decide) rfl) ?_
      refine zl_tr (r_VV [zm_A 146, zm_I 1, zm_I (h11 146 4)] d_184_248 ow_184 cal_12_257 na_164 rfl rfl (Nat.le_of_ble_eq_true rfl) (by rw [rk_164]; decide) (zr_rcv la_146 ow_164) (zr_im mx_164 rfl (Nat.le_of_ble_eq_true rfl)) rt_164) (zl_V (fun h12 => ?_))
      exact zl_rf
    · skip
      exact zl_rf
-- BranTubModel.operand, from 251
set_option maxRecDepth 20000 in
theorem e_184_251 {h : zm_H} {w1 : zm_V} {w2 : zm_V} {x3 : Int} : zl (zk_V (zc 188 [zm_A 146, zm_I 3] h) (fun h1 => if (h1 146 8) = 0 then (zm_ck (zm_i32 ((h1 146 40) - 1)) (zm_ck (0 ≤ ((h1 146 40) - 1) ∧ ((h1 146 40) - 1) < ((20 : Nat) : Int)) (zm_ck (zm_bit 0) (some (zm_I 0, (zm_wr h1 170 ((h1 146 40) - 1) x3)))))) else (zm_ck (zm_bit 0) (some (zm_I 0, h1))))) (zr none 4 184 251 [zm_A 146, w1, w2, zm_I x3] [] h) := by
  refine zl_tr (r_aload_n d_184_251 rfl) ?_
  refine zl_tr (r_iconst d_184_252 (by decide)) ?_
  refine zl_tr (r_VV [zm_A 146, zm_I 3] d_184_253 ow_184 cal_12_358 na_188 rfl rfl (Nat.le_of_ble_eq_true rfl) (by rw [rk_188]; decide) (zr_rcv la_146 ow_188) (zr_im mx_188 rfl (Nat.le_of_ble_eq_true rfl)) rt_188) (zl_V (fun h1 => ?_))
  refine zl_tr (r_aload_n d_184_256 rfl) ?_
  refine zl_tr (r_getI (kk := 8) d_184_257 ow_184 f_12_36 la_146 (by decide) rfl) ?_
  refine zl_tr (r_if_ne (tgt := 275) d_184_260 (by decide)) (zl_if ?_ ?_)
  · skip
    refine zl_tr (r_aload_n d_184_263 rfl) ?_
    refine zl_tr (r_getR d_184_264 ow_184 f_12_128 la_146 (by decide) fr_146_38) ?_
    refine zl_tr (r_aload_n d_184_267 rfl) ?_
    refine zl_tr (r_getI (kk := 40) d_184_268 ow_184 f_12_134 la_146 (by decide) rfl) ?_
    refine zl_tr (r_iconst d_184_271 (by decide)) ?_
    refine zl_tr (r_isub d_184_272) (zl_ck ?_)
    refine zl_tr (r_iload_n d_184_273 rfl) ?_
    refine zl_tr (r_iastore d_184_274 la_170) (zl_ck ?_)
    refine zl_tr (r_iconst d_184_275 (by decide)) ?_
    exact r_zret d_184_276 rt_184
  · skip
    refine zl_tr (r_iconst d_184_275 (by decide)) ?_
    exact r_zret d_184_276 rt_184
