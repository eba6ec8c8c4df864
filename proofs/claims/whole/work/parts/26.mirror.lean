/-! MIRRORS 6 (printed by wip/gen/gen_mirror.py) -/
-- BranTubModel.offerOf
set_option maxRecDepth 20000 in
theorem e_265 {h : zm_H} {x1 : Int} : zl (zr none 2 265 4 [zm_A 146, zm_I x1, zm_I (-1), zm_I 0] [] h) (zc 265 [zm_A 146, zm_I x1] h) := by
  rw [zc_eq (loc := [zm_A 146, zm_I x1, zm_U, zm_U]) (rk_265 _) rfl]
  refine zl_tr (r_iconst d_265_0 (by decide)) ?_
  refine zl_tr (r_istore_n (loc' := [zm_A 146, zm_I x1, zm_I (-1), zm_U]) d_265_1 (Nat.le_of_ble_eq_true rfl) rfl) ?_
  refine zl_tr (r_iconst d_265_2 (by decide)) ?_
  refine zl_tr (r_istore_n (loc' := [zm_A 146, zm_I x1, zm_I (-1), zm_I 0]) d_265_3 (Nat.le_of_ble_eq_true rfl) rfl) ?_
  exact zl_rf
-- BranTubModel.offerOf, from 4
set_option maxRecDepth 20000 in
theorem e_265_4 {h : zm_H} {x1 : Int} {x2 : Int} {x3 : Int} : zl (zm_ck (0 ≤ (h 146 13) ∧ (h 146 13) < ((2 : Nat) : Int)) (if x3 < (h 148 (h 146 13)) then (zk_I (zc 215 [zm_A 146, zm_I 0, zm_I x1, zm_I x3] h) (fun v1 h2 => if v1 ≤ 0 then (zm_ck (zm_i32 (x3 + 1)) (zr none 2 265 4 [zm_A 146, zm_I x1, zm_I x2, zm_I (x3 + 1)] [] h2)) else (if x2 = (-1) then (zm_ck (zm_i32 (x3 + 1)) (zr none 2 265 4 [zm_A 146, zm_I x1, zm_I x3, zm_I (x3 + 1)] [] h2)) else (zk_I (zc 224 [zm_A 146, zm_I x1, zm_I x3] h2) (fun v3 h4 => zk_I (zc 224 [zm_A 146, zm_I x1, zm_I x2] h4) (fun v5 h6 => if v3 < v5 then (zm_ck (zm_i32 (x3 + 1)) (zr none 2 265 4 [zm_A 146, zm_I x1, zm_I x3, zm_I (x3 + 1)] [] h6)) else (zm_ck (zm_i32 (x3 + 1)) (zr none 2 265 4 [zm_A 146, zm_I x1, zm_I x2, zm_I (x3 + 1)] [] h6)))))))) else (some (zm_I x2, h)))) (zr none 2 265 4 [zm_A 146, zm_I x1, zm_I x2, zm_I x3] [] h) := by
  refine zl_tr (r_iload_n d_265_4 rfl) ?_
  refine zl_tr (r_aload_n d_265_5 rfl) ?_
  refine zl_tr (r_getR d_265_6 ow_265 f_12_54 la_146 (by decide) fr_146_14) ?_
  refine zl_tr (r_aload_n d_265_9 rfl) ?_
  refine zl_tr (r_getI (kk := 13) d_265_10 ow_265 f_12_51 la_146 (by decide) rfl) ?_
  refine zl_tr (r_iaload d_265_13 la_148) (zl_ck ?_)
  refine zl_tr (r_icmp_ge (tgt := 55) d_265_14 (by decide)) (zl_if ?_ ?_)
  · skip
    refine zl_tr (r_aload_n d_265_17 rfl) ?_
    refine zl_tr (r_iconst d_265_18 (by decide)) ?_
    refine zl_tr (r_iload_n d_265_19 rfl) ?_
    refine zl_tr (r_iload_n d_265_20 rfl) ?_
    refine zl_tr (r_VI [zm_A 146, zm_I 0, zm_I x1, zm_I x3] d_265_21 ow_265 cal_12_512 na_215 rfl rfl (Nat.le_of_ble_eq_true rfl) (by rw [rk_215]; decide) (zr_rcv la_146 ow_215) (zr_im mx_215 rfl (Nat.le_of_ble_eq_true rfl)) (by rw [rt_215]; decide)) (zl_I (fun v1 h2 => ?_))
    refine zl_tr (r_if_le (tgt := 49) d_265_24 (by decide)) (zl_if ?_ ?_)
    · skip
      refine zl_tr (r_iinc (loc' := [zm_A 146, zm_I x1, zm_I x2, zm_I (x3 + 1)]) d_265_49 rfl (Nat.le_of_ble_eq_true rfl) rfl) (zl_ck ?_)
      refine zl_tr (r_goto (tgt := 4) d_265_52 (by decide)) ?_
      exact zl_rf
    · skip
      refine zl_tr (r_iload_n d_265_27 rfl) ?_
      refine zl_tr (r_iconst d_265_28 (by decide)) ?_
      refine zl_tr (r_icmp_eq (tgt := 47) d_265_29 (by decide)) (zl_if ?_ ?_)
      · skip
        refine zl_tr (r_iload_n d_265_47 rfl) ?_
        refine zl_tr (r_istore_n (loc' := [zm_A 146, zm_I x1, zm_I x3, zm_I x3]) d_265_48 (Nat.le_of_ble_eq_true rfl) rfl) ?_
        refine zl_tr (r_iinc (loc' := [zm_A 146, zm_I x1, zm_I x3, zm_I (x3 + 1)]) d_265_49 rfl (Nat.le_of_ble_eq_true rfl) rfl) (zl_ck ?_)
        refine zl_tr (r_goto (tgt := 4) d_265_52 (by decide)) ?_
        exact zl_rf
      · skip
        refine zl_tr (r_aload_n d_265_32 rfl) ?_
        refine zl_tr (r_iload_n d_265_33 rfl) ?_
        refine zl_tr (r_iload_n d_265_34 rfl) ?_
        refine zl_tr (r_VI [zm_A 146, zm_I x1, zm_I x3] d_265_35 ow_265 cal_12_473 na_224 rfl rfl (Nat.le_of_ble_eq_true rfl) (by rw [rk_224]; decide) (zr_rcv la_146 ow_224) (zr_im mx_224 rfl (Nat.le_of_ble_eq_true rfl)) (by rw [rt_224]; decide)) (zl_I (fun v3 h4 => ?_))
        refine zl_tr (r_aload_n d_265_38 rfl) ?_
        refine zl_tr (r_iload_n d_265_39 rfl) ?_
        refine zl_tr (r_iload_n d_265_40 rfl) ?_
        refine zl_tr (r_VI [zm_A 146, zm_I x1, zm_I x2] d_265_41 ow_265 cal_12_473 na_224 rfl rfl (Nat.le_of_ble_eq_true rfl) (by rw [rk_224]; decide) (zr_rcv la_146 ow_224) (zr_im mx_224 rfl (Nat.le_of_ble_eq_true rfl)) (by rw [rt_224]; decide)) (zl_I (fun v5 h6 => ?_))
        refine zl_tr (r_icmp_ge (tgt := 49) d_265_44 (by decide)) (zl_if ?_ ?_)
        · skip
          refine zl_tr (r_iload_n d_265_47 rfl) ?_
          refine zl_tr (r_istore_n (loc' := [zm_A 146, zm_I x1, zm_I x3, zm_I x3]) d_265_48 (Nat.le_of_ble_eq_true rfl) rfl) ?_
          refine zl_tr (r_iinc (loc' := [zm_A 146, zm_I x1, zm_I x3, zm_I (x3 + 1)]) d_265_49 rfl (Nat.le_of_ble_eq_true rfl) rfl) (zl_ck ?_)
          refine zl_tr (r_goto (tgt := 4) d_265_52 (by decide)) ?_
          exact zl_rf
        · skip
          refine zl_tr (r_iinc (loc' := [zm_A 146, zm_I x1, zm_I x2, zm_I (x3 + 1)]) d_265_49 rfl (Nat.le_of_ble_eq_true rfl) rfl) (zl_ck ?_)
          refine zl_tr (r_goto (tgt := 4) d_265_52 (by decide)) ?_
          exact zl_rf
  · skip
    refine zl_tr (r_iload_n d_265_55 rfl) ?_
    exact r_iret d_265_56 rt_265
-- BranTubModel.pointing
set_option maxRecDepth 20000 in
theorem e_266 {h : zm_H} {x1 : Int} {x2 : Int} : zl (zr none 2 266 5 [zm_A 146, zm_I x1, zm_I x2, zm_I x1, zm_I 0] [] h) (zc 266 [zm_A 146, zm_I x1, zm_I x2] h) := by
  rw [zc_eq (loc := [zm_A 146, zm_I x1, zm_I x2, zm_U, zm_U]) (rk_266 _) rfl]
  refine zl_tr (r_iload_n d_266_0 rfl) ?_
  refine zl_tr (r_istore_n (loc' := [zm_A 146, zm_I x1, zm_I x2, zm_I x1, zm_U]) d_266_1 (Nat.le_of_ble_eq_true rfl) rfl) ?_
  refine zl_tr (r_iconst d_266_2 (by decide)) ?_
  refine zl_tr (r_istore (loc' := [zm_A 146, zm_I x1, zm_I x2, zm_I x1, zm_I 0]) d_266_3 (Nat.le_of_ble_eq_true rfl) rfl) ?_
  exact zl_rf
-- BranTubModel.pointing, from 5
set_option maxRecDepth 20000 in
theorem e_266_5 {h : zm_H} {x1 : Int} {x2 : Int} {x3 : Int} {x4 : Int} : zl (zm_ck (0 ≤ (h 146 13) ∧ (h 146 13) < ((2 : Nat) : Int)) (if x4 < (h 153 (h 146 13)) then (if (zb_iand (zb_ishr x2 x4) 1) = 1 then (zm_ck (0 ≤ x4 ∧ x4 < ((8 : Nat) : Int)) (zk_I (zc 224 [zm_A 146, zm_I x1, zm_I (h 189 x4)] h) (fun v1 h2 => zm_ck (0 ≤ x3 ∧ x3 < ((8 : Nat) : Int)) (zk_I (zc 224 [zm_A 146, zm_I x1, zm_I (h2 189 x3)] h2) (fun v3 h4 => if v1 ≤ v3 then (zm_ck (zm_i32 (x4 + 1)) (zr none 2 266 5 [zm_A 146, zm_I x1, zm_I x2, zm_I x3, zm_I (x4 + 1)] [] h4)) else (zm_ck (zm_i32 (x4 + 1)) (zr none 2 266 5 [zm_A 146, zm_I x1, zm_I x2, zm_I x4, zm_I (x4 + 1)] [] h4))))))) else (zm_ck (zm_i32 (x4 + 1)) (zr none 2 266 5 [zm_A 146, zm_I x1, zm_I x2, zm_I x3, zm_I (x4 + 1)] [] h))) else (some (zm_I x3, h)))) (zr none 2 266 5 [zm_A 146, zm_I x1, zm_I x2, zm_I x3, zm_I x4] [] h) := by
  refine zl_tr (r_iload d_266_5 rfl) ?_
  refine zl_tr (r_aload_n d_266_7 rfl) ?_
  refine zl_tr (r_getR d_266_8 ow_266 f_12_69 la_146 (by decide) fr_146_19) ?_
  refine zl_tr (r_aload_n d_266_11 rfl) ?_
  refine zl_tr (r_getI (kk := 13) d_266_12 ow_266 f_12_51 la_146 (by decide) rfl) ?_
  refine zl_tr (r_iaload d_266_15 la_153) (zl_ck ?_)
  refine zl_tr (r_icmp_ge (tgt := 64) d_266_16 (by decide)) (zl_if ?_ ?_)
  · skip
    refine zl_tr (r_iload_n d_266_19 rfl) ?_
    refine zl_tr (r_iload d_266_20 rfl) ?_
    refine zl_tr (r_ishr d_266_22) ?_
    refine zl_tr (r_iconst d_266_23 (by decide)) ?_
    refine zl_tr (r_iand d_266_24) ?_
    refine zl_tr (r_iconst d_266_25 (by decide)) ?_
    refine zl_tr (r_icmp_ne (tgt := 58) d_266_26 (by decide)) (zl_if ?_ ?_)
    · skip
      refine zl_tr (r_aload_n d_266_29 rfl) ?_
      refine zl_tr (r_iload_n d_266_30 rfl) ?_
      refine zl_tr (r_aload_n d_266_31 rfl) ?_
      refine zl_tr (r_getR d_266_32 ow_266 f_12_231 la_146 (by decide) fr_146_72) ?_
      refine zl_tr (r_iload d_266_35 rfl) ?_
      refine zl_tr (r_iaload d_266_37 la_189) (zl_ck ?_)
      refine zl_tr (r_VI [zm_A 146, zm_I x1, zm_I (h 189 x4)] d_266_38 ow_266 cal_12_473 na_224 rfl rfl (Nat.le_of_ble_eq_true rfl) (by rw [rk_224]; decide) (zr_rcv la_146 ow_224) (zr_im mx_224 rfl (Nat.le_of_ble_eq_true rfl)) (by rw [rt_224]; decide)) (zl_I (fun v1 h2 => ?_))
      refine zl_tr (r_aload_n d_266_41 rfl) ?_
      refine zl_tr (r_iload_n d_266_42 rfl) ?_
      refine zl_tr (r_aload_n d_266_43 rfl) ?_
      refine zl_tr (r_getR d_266_44 ow_266 f_12_231 la_146 (by decide) fr_146_72) ?_
      refine zl_tr (r_iload_n d_266_47 rfl) ?_
      refine zl_tr (r_iaload d_266_48 la_189) (zl_ck ?_)
      refine zl_tr (r_VI [zm_A 146, zm_I x1, zm_I (h2 189 x3)] d_266_49 ow_266 cal_12_473 na_224 rfl rfl (Nat.le_of_ble_eq_true rfl) (by rw [rk_224]; decide) (zr_rcv la_146 ow_224) (zr_im mx_224 rfl (Nat.le_of_ble_eq_true rfl)) (by rw [rt_224]; decide)) (zl_I (fun v3 h4 => ?_))
      refine zl_tr (r_icmp_le (tgt := 58) d_266_52 (by decide)) (zl_if ?_ ?_)
      · skip
        refine zl_tr (r_iinc (loc' := [zm_A 146, zm_I x1, zm_I x2, zm_I x3, zm_I (x4 + 1)]) d_266_58 rfl (Nat.le_of_ble_eq_true rfl) rfl) (zl_ck ?_)
        refine zl_tr (r_goto (tgt := 5) d_266_61 (by decide)) ?_
        exact zl_rf
      · skip
        refine zl_tr (r_iload d_266_55 rfl) ?_
        refine zl_tr (r_istore_n (loc' := [zm_A 146, zm_I x1, zm_I x2, zm_I x4, zm_I x4]) d_266_57 (Nat.le_of_ble_eq_true rfl) rfl) ?_
        refine zl_tr (r_iinc (loc' := [zm_A 146, zm_I x1, zm_I x2, zm_I x4, zm_I (x4 + 1)]) d_266_58 rfl (Nat.le_of_ble_eq_true rfl) rfl) (zl_ck ?_)
        refine zl_tr (r_goto (tgt := 5) d_266_61 (by decide)) ?_
        exact zl_rf
    · skip
      refine zl_tr (r_iinc (loc' := [zm_A 146, zm_I x1, zm_I x2, zm_I x3, zm_I (x4 + 1)]) d_266_58 rfl (Nat.le_of_ble_eq_true rfl) rfl) (zl_ck ?_)
      refine zl_tr (r_goto (tgt := 5) d_266_61 (by decide)) ?_
      exact zl_rf
  · skip
    refine zl_tr (r_iload_n d_266_64 rfl) ?_
    exact r_iret d_266_65 rt_266
-- BranTubModel.comesRound
set_option maxRecDepth 20000 in
theorem e_267 {h : zm_H} {x1 : Int} : zl (zm_ck (0 ≤ x1 ∧ x1 < ((8 : Nat) : Int)) (zr none 1 267 9 [zm_A 146, zm_I x1, zm_I (h 190 x1), zm_I 0] [] h)) (zc 267 [zm_A 146, zm_I x1] h) := by
  rw [zc_eq (loc := [zm_A 146, zm_I x1, zm_U, zm_U]) (rk_267 _) rfl]
  refine zl_tr (r_aload_n d_267_0 rfl) ?_
  refine zl_tr (r_getR d_267_1 ow_267 f_12_234 la_146 (by decide) fr_146_73) ?_
  refine zl_tr (r_iload_n d_267_4 rfl) ?_
  refine zl_tr (r_iaload d_267_5 la_190) (zl_ck ?_)
  refine zl_tr (r_istore_n (loc' := [zm_A 146, zm_I x1, zm_I (h 190 x1), zm_U]) d_267_6 (Nat.le_of_ble_eq_true rfl) rfl) ?_
  refine zl_tr (r_iconst d_267_7 (by decide)) ?_
  refine zl_tr (r_istore_n (loc' := [zm_A 146, zm_I x1, zm_I (h 190 x1), zm_I 0]) d_267_8 (Nat.le_of_ble_eq_true rfl) rfl) ?_
  exact zl_rf
-- BranTubModel.comesRound, from 9
set_option maxRecDepth 20000 in
theorem e_267_9 {h : zm_H} {x1 : Int} {x2 : Int} {x3 : Int} : zl (if x3 < 8 then (if x2 = x1 then (if x2 = x1 then (zm_ck (zm_bit 1) (some (zm_I 1, h))) else (zm_ck (zm_bit 0) (some (zm_I 0, h)))) else (zm_ck (0 ≤ x2 ∧ x2 < ((8 : Nat) : Int)) (zm_ck (zm_i32 (x3 + 1)) (zr none 1 267 9 [zm_A 146, zm_I x1, zm_I (h 190 x2), zm_I (x3 + 1)] [] h)))) else (if x2 = x1 then (zm_ck (zm_bit 1) (some (zm_I 1, h))) else (zm_ck (zm_bit 0) (some (zm_I 0, h))))) (zr none 1 267 9 [zm_A 146, zm_I x1, zm_I x2, zm_I x3] [] h) := by
  refine zl_tr (r_iload_n d_267_9 rfl) ?_
  refine zl_tr (r_bipush d_267_10 (by decide)) ?_
  refine zl_tr (r_icmp_ge (tgt := 33) d_267_12 (by decide)) (zl_if ?_ ?_)
  · skip
    refine zl_tr (r_iload_n d_267_15 rfl) ?_
    refine zl_tr (r_iload_n d_267_16 rfl) ?_
    refine zl_tr (r_icmp_eq (tgt := 33) d_267_17 (by decide)) (zl_if ?_ ?_)
    · skip
      refine zl_tr (r_iload_n d_267_33 rfl) ?_
      refine zl_tr (r_iload_n d_267_34 rfl) ?_
      refine zl_tr (r_icmp_ne (tgt := 42) d_267_35 (by decide)) (zl_if ?_ ?_)
      · skip
        refine zl_tr (r_iconst d_267_38 (by decide)) ?_
        refine zl_tr (r_goto (tgt := 43) d_267_39 (by decide)) ?_
        exact r_zret d_267_43 rt_267
      · skip
        refine zl_tr (r_iconst d_267_42 (by decide)) ?_
        exact r_zret d_267_43 rt_267
    · skip
      refine zl_tr (r_aload_n d_267_20 rfl) ?_
      refine zl_tr (r_getR d_267_21 ow_267 f_12_234 la_146 (by decide) fr_146_73) ?_
      refine zl_tr (r_iload_n d_267_24 rfl) ?_
      refine zl_tr (r_iaload d_267_25 la_190) (zl_ck ?_)
      refine zl_tr (r_istore_n (loc' := [zm_A 146, zm_I x1, zm_I (h 190 x2), zm_I x3]) d_267_26 (Nat.le_of_ble_eq_true rfl) rfl) ?_
      refine zl_tr (r_iinc (loc' := [zm_A 146, zm_I x1, zm_I (h 190 x2), zm_I (x3 + 1)]) d_267_27 rfl (Nat.le_of_ble_eq_true rfl) rfl) (zl_ck ?_)
      refine zl_tr (r_goto (tgt := 9) d_267_30 (by decide)) ?_
      exact zl_rf
  · skip
    refine zl_tr (r_iload_n d_267_33 rfl) ?_
    refine zl_tr (r_iload_n d_267_34 rfl) ?_
    refine zl_tr (r_icmp_ne (tgt := 42) d_267_35 (by decide)) (zl_if ?_ ?_)
    · skip
      refine zl_tr (r_iconst d_267_38 (by decide)) ?_
      refine zl_tr (r_goto (tgt := 43) d_267_39 (by decide)) ?_
      exact r_zret d_267_43 rt_267
    · skip
      refine zl_tr (r_iconst d_267_42 (by decide)) ?_
      exact r_zret d_267_43 rt_267
-- BranTubModel.image
set_option maxRecDepth 20000 in
theorem e_268 {h : zm_H}  : zl (zm_ck (0 ≤ 0 ∧ 0 < ((22 : Nat) : Int)) (zk_V (zc 269 [zm_A 146, zm_I ((zm_wr h 146 77 0) 174 0)] (zm_wr h 146 77 0)) (fun h1 => zm_ck (0 ≤ 0 ∧ 0 < ((22 : Nat) : Int)) (zk_V (zc 270 [zm_A 146, zm_I (h1 175 0)] h1) (fun h2 => zr none 3 268 27 [zm_A 146, zm_I 0, zm_U] [] h2))))) (zc 268 [zm_A 146] h) := by
  rw [zc_eq (loc := [zm_A 146, zm_U, zm_U]) (rk_268 _) rfl]
  refine zl_tr (r_aload_n d_268_0 rfl) ?_
  refine zl_tr (r_iconst d_268_1 (by decide)) ?_
  refine zl_tr (r_putI (kk := 77) d_268_2 ow_268 f_12_246 la_146 (by decide) rfl) ?_
  refine zl_tr (r_aload_n d_268_5 rfl) ?_
  refine zl_tr (r_aload_n d_268_6 rfl) ?_
  refine zl_tr (r_getR d_268_7 ow_268 f_12_153 la_146 (by decide) fr_146_46) ?_
  refine zl_tr (r_iconst d_268_10 (by decide)) ?_
  refine zl_tr (r_iaload d_268_11 la_174) (zl_ck ?_)
  refine zl_tr (r_VV [zm_A 146, zm_I ((zm_wr h 146 77 0) 174 0)] d_268_12 ow_268 cal_12_594 na_269 rfl rfl (Nat.le_of_ble_eq_true rfl) (by rw [rk_269]; decide) (zr_rcv la_146 ow_269) (zr_im mx_269 rfl (Nat.le_of_ble_eq_true rfl)) rt_269) (zl_V (fun h1 => ?_))
  refine zl_tr (r_aload_n d_268_15 rfl) ?_
  refine zl_tr (r_aload_n d_268_16 rfl) ?_
  refine zl_tr (r_getR d_268_17 ow_268 f_12_156 la_146 (by decide) fr_146_47) ?_
  refine zl_tr (r_iconst d_268_20 (by decide)) ?_
  refine zl_tr (r_iaload d_268_21 la_175) (zl_ck ?_)
  refine zl_tr (r_VV [zm_A 146, zm_I (h1 175 0)] d_268_22 ow_268 cal_12_597 na_270 rfl rfl (Nat.le_of_ble_eq_true rfl) (by rw [rk_270]; decide) (zr_rcv la_146 ow_270) (zr_im mx_270 rfl (Nat.le_of_ble_eq_true rfl)) rt_270) (zl_V (fun h2 => ?_))
  refine zl_tr (r_iconst d_268_25 (by decide)) ?_
  refine zl_tr (r_istore_n (loc' := [zm_A 146, zm_I 0, zm_U]) d_268_26 (Nat.le_of_ble_eq_true rfl) rfl) ?_
  exact zl_rf
-- BranTubModel.image, from 27
set_option maxRecDepth 20000 in
theorem e_268_27 {h : zm_H} {x1 : Int} {w2 : zm_V} : zl (zm_ck (0 ≤ (h 146 13) ∧ (h 146 13) < ((2 : Nat) : Int)) (if x1 < (h 151 (h 146 13)) then (zr none 3 268 42 [zm_A 146, zm_I x1, zm_I 0] [] h) else (zr none 3 268 80 [zm_A 146, zm_I 0, w2] [] h))) (zr none 3 268 27 [zm_A 146, zm_I x1, w2] [] h) := by
  refine zl_tr (r_iload_n d_268_27 rfl) ?_
  refine zl_tr (r_aload_n d_268_28 rfl) ?_
  refine zl_tr (r_getR d_268_29 ow_268 f_12_63 la_146 (by decide) fr_146_17) ?_
  refine zl_tr (r_aload_n d_268_32 rfl) ?_
  refine zl_tr (r_getI (kk := 13) d_268_33 ow_268 f_12_51 la_146 (by decide) rfl) ?_
  refine zl_tr (r_iaload d_268_36 la_151) (zl_ck ?_)
  refine zl_tr (r_icmp_ge (tgt := 78) d_268_37 (by decide)) (zl_if ?_ ?_)
  · skip
    refine zl_tr (r_iconst d_268_40 (by decide)) ?_
    refine zl_tr (r_istore_n (loc' := [zm_A 146, zm_I x1, zm_I 0]) d_268_41 (Nat.le_of_ble_eq_true rfl) rfl) ?_
    exact zl_rf
  · skip
    refine zl_tr (r_iconst d_268_78 (by decide)) ?_
    refine zl_tr (r_istore_n (loc' := [zm_A 146, zm_I 0, w2]) d_268_79 (Nat.le_of_ble_eq_true rfl) rfl) ?_
    exact zl_rf
-- BranTubModel.image, from 42
set_option maxRecDepth 20000 in
theorem e_268_42 {h : zm_H} {x1 : Int} {x2 : Int} : zl (zm_ck (0 ≤ (h 146 13) ∧ (h 146 13) < ((2 : Nat) : Int)) (if x2 < (h 148 (h 146 13)) then (zk_I (zc 206 [zm_A 146, zm_I 0, zm_I x1, zm_I x2] h) (fun v1 h2 => zk_V (zc 269 [zm_A 146, zm_I v1] h2) (fun h3 => zm_ck (zm_i32 (x2 + 1)) (zr none 3 268 42 [zm_A 146, zm_I x1, zm_I (x2 + 1)] [] h3)))) else (zm_ck (zm_i32 (x1 + 1)) (zr none 3 268 27 [zm_A 146, zm_I (x1 + 1), zm_I x2] [] h)))) (zr none 3 268 42 [zm_A 146, zm_I x1, zm_I x2] [] h) := by
  refine zl_tr (r_iload_n d_268_42 rfl) ?_
  refine zl_tr (r_aload_n d_268_43 rfl) ?_
  refine zl_tr (r_getR d_268_44 ow_268 f_12_54 la_146 (by decide) fr_146_14) ?_
  refine zl_tr (r_aload_n d_268_47 rfl) ?_
  refine zl_tr (r_getI (kk := 13) d_268_48 ow_268 f_12_51 la_146 (by decide) rfl) ?_
  refine zl_tr (r_iaload d_268_51 la_148) (zl_ck ?_)
  refine zl_tr (r_icmp_ge (tgt := 72) d_268_52 (by decide)) (zl_if ?_ ?_)
  · skip
    refine zl_tr (r_aload_n d_268_55 rfl) ?_
    refine zl_tr (r_aload_n d_268_56 rfl) ?_
    refine zl_tr (r_iconst d_268_57 (by decide)) ?_
    refine zl_tr (r_iload_n d_268_58 rfl) ?_
    refine zl_tr (r_iload_n d_268_59 rfl) ?_
    refine zl_tr (r_VI [zm_A 146, zm_I 0, zm_I x1, zm_I x2] d_268_60 ow_268 cal_12_460 na_206 rfl rfl (Nat.le_of_ble_eq_true rfl) (by rw [rk_206]; decide) (zr_rcv la_146 ow_206) (zr_im mx_206 rfl (Nat.le_of_ble_eq_true rfl)) (by rw [rt_206]; decide)) (zl_I (fun v1 h2 => ?_))
    refine zl_tr (r_VV [zm_A 146, zm_I v1] d_268_63 ow_268 cal_12_594 na_269 rfl rfl (Nat.le_of_ble_eq_true rfl) (by rw [rk_269]; decide) (zr_rcv la_146 ow_269) (zr_im mx_269 rfl (Nat.le_of_ble_eq_true rfl)) rt_269) (zl_V (fun h3 => ?_))
    refine zl_tr (r_iinc (loc' := [zm_A 146, zm_I x1, zm_I (x2 + 1)]) d_268_66 rfl (Nat.le_of_ble_eq_true rfl) rfl) (zl_ck ?_)
    refine zl_tr (r_goto (tgt := 42) d_268_69 (by decide)) ?_
    exact zl_rf
  · skip
    refine zl_tr (r_iinc (loc' := [zm_A 146, zm_I (x1 + 1), zm_I x2]) d_268_72 rfl (Nat.le_of_ble_eq_true rfl) rfl) (zl_ck ?_)
    refine zl_tr (r_goto (tgt := 27) d_268_75 (by decide)) ?_
    exact zl_rf
-- BranTubModel.image, from 80
set_option maxRecDepth 20000 in
theorem e_268_80 {h : zm_H} {x1 : Int} {w2 : zm_V} : zl (zm_ck (0 ≤ (h 146 13) ∧ (h 146 13) < ((2 : Nat) : Int)) (if x1 < (h 153 (h 146 13)) then (zm_ck (0 ≤ x1 ∧ x1 < ((176 : Nat) : Int)) (zk_V (zc 270 [zm_A 146, zm_I (h 177 x1)] h) (fun h1 => zr none 3 268 105 [zm_A 146, zm_I x1, zm_I 0] [] h1))) else (zr none 3 268 146 [zm_A 146, zm_I 109, zm_I 0] [] h))) (zr none 3 268 80 [zm_A 146, zm_I x1, w2] [] h) := by
  refine zl_tr (r_iload_n d_268_80 rfl) ?_
  refine zl_tr (r_aload_n d_268_81 rfl) ?_
  refine zl_tr (r_getR d_268_82 ow_268 f_12_69 la_146 (by decide) fr_146_19) ?_
  refine zl_tr (r_aload_n d_268_85 rfl) ?_
  refine zl_tr (r_getI (kk := 13) d_268_86 ow_268 f_12_51 la_146 (by decide) rfl) ?_
  refine zl_tr (r_iaload d_268_89 la_153) (zl_ck ?_)
  refine zl_tr (r_icmp_ge (tgt := 141) d_268_90 (by decide)) (zl_if ?_ ?_)
  · skip
    refine zl_tr (r_aload_n d_268_93 rfl) ?_
    refine zl_tr (r_aload_n d_268_94 rfl) ?_
    refine zl_tr (r_getR d_268_95 ow_268 f_12_162 la_146 (by decide) fr_146_49) ?_
    refine zl_tr (r_iload_n d_268_98 rfl) ?_
    refine zl_tr (r_iaload d_268_99 la_177) (zl_ck ?_)
    refine zl_tr (r_VV [zm_A 146, zm_I (h 177 x1)] d_268_100 ow_268 cal_12_597 na_270 rfl rfl (Nat.le_of_ble_eq_true rfl) (by rw [rk_270]; decide) (zr_rcv la_146 ow_270) (zr_im mx_270 rfl (Nat.le_of_ble_eq_true rfl)) rt_270) (zl_V (fun h1 => ?_))
    refine zl_tr (r_iconst d_268_103 (by decide)) ?_
    refine zl_tr (r_istore_n (loc' := [zm_A 146, zm_I x1, zm_I 0]) d_268_104 (Nat.le_of_ble_eq_true rfl) rfl) ?_
    exact zl_rf
  · skip
    refine zl_tr (r_bipush d_268_141 (by decide)) ?_
    refine zl_tr (r_istore_n (loc' := [zm_A 146, zm_I 109, w2]) d_268_143 (Nat.le_of_ble_eq_true rfl) rfl) ?_
    refine zl_tr (r_iconst d_268_144 (by decide)) ?_
    refine zl_tr (r_istore_n (loc' := [zm_A 146, zm_I 109, zm_I 0]) d_268_145 (Nat.le_of_ble_eq_true rfl) rfl) ?_
    exact zl_rf
-- BranTubModel.image, from 105
set_option maxRecDepth 20000 in
theorem e_268_105 {h : zm_H} {x1 : Int} {x2 : Int} : zl (zm_ck (0 ≤ (h 146 13) ∧ (h 146 13) < ((2 : Nat) : Int)) (if x2 < (h 148 (h 146 13)) then (zk_I (zc 215 [zm_A 146, zm_I 0, zm_I x1, zm_I x2] h) (fun v1 h2 => zk_V (zc 270 [zm_A 146, zm_I v1] h2) (fun h3 => zm_ck (zm_i32 (x2 + 1)) (zr none 3 268 105 [zm_A 146, zm_I x1, zm_I (x2 + 1)] [] h3)))) else (zm_ck (zm_i32 (x1 + 1)) (zr none 3 268 80 [zm_A 146, zm_I (x1 + 1), zm_I x2] [] h)))) (zr none 3 268 105 [zm_A 146, zm_I x1, zm_I x2] [] h) := by
  refine zl_tr (r_iload_n d_268_105 rfl) ?_
  refine zl_tr (r_aload_n d_268_106 rfl) ?_
  refine zl_tr (r_getR d_268_107 ow_268 f_12_54 la_146 (by decide) fr_146_14) ?_
  refine zl_tr (r_aload_n d_268_110 rfl) ?_
  refine zl_tr (r_getI (kk := 13) d_268_111 ow_268 f_12_51 la_146 (by decide) rfl) ?_
  refine zl_tr (r_iaload d_268_114 la_148) (zl_ck ?_)
  refine zl_tr (r_icmp_ge (tgt := 135) d_268_115 (by decide)) (zl_if ?_ ?_)
  · skip
    refine zl_tr (r_aload_n d_268_118 rfl) ?_
    refine zl_tr (r_aload_n d_268_119 rfl) ?_
    refine zl_tr (r_iconst d_268_120 (by decide)) ?_
    refine zl_tr (r_iload_n d_268_121 rfl) ?_
    refine zl_tr (r_iload_n d_268_122 rfl) ?_
    refine zl_tr (r_VI [zm_A 146, zm_I 0, zm_I x1, zm_I x2] d_268_123 ow_268 cal_12_512 na_215 rfl rfl (Nat.le_of_ble_eq_true rfl) (by rw [rk_215]; decide) (zr_rcv la_146 ow_215) (zr_im mx_215 rfl (Nat.le_of_ble_eq_true rfl)) (by rw [rt_215]; decide)) (zl_I (fun v1 h2 => ?_))
    refine zl_tr (r_VV [zm_A 146, zm_I v1] d_268_126 ow_268 cal_12_597 na_270 rfl rfl (Nat.le_of_ble_eq_true rfl) (by rw [rk_270]; decide) (zr_rcv la_146 ow_270) (zr_im mx_270 rfl (Nat.le_of_ble_eq_true rfl)) rt_270) (zl_V (fun h3 => ?_))
    refine zl_tr (r_iinc (loc' := [zm_A 146, zm_I x1, zm_I (x2 + 1)]) d_268_129 rfl (Nat.le_of_ble_eq_true rfl) rfl) (zl_ck ?_)
    refine zl_tr (r_goto (tgt := 105) d_268_132 (by decide)) ?_
    exact zl_rf
  · skip
    refine zl_tr (r_iinc (loc' := [zm_A 146, zm_I (x1 + 1), zm_I x2]) d_268_135 rfl (Nat.le_of_ble_eq_true rfl) rfl) (zl_ck ?_)
    refine zl_tr (r_goto (tgt := 80) d_268_138 (by decide)) ?_
    exact zl_rf
-- BranTubModel.image, from 146
set_option maxRecDepth 20000 in
theorem e_268_146 {h : zm_H} {x1 : Int} {x2 : Int} : zl (if x2 < (h 146 77) then (zm_ck (zm_i32 (5 * x1)) (zm_ck (0 ≤ x2 ∧ x2 < ((200 : Nat) : Int)) (zm_ck (zm_i32 ((5 * x1) + (h 193 x2))) (zm_ck ((251 : Int) ≠ 0 ∧ zm_i32 (((5 * x1) + (h 193 x2)).tdiv 251) ∧ zm_i32 (((5 * x1) + (h 193 x2)).tmod 251)) (zm_ck (zm_i32 (x2 + 1)) (zr none 3 268 146 [zm_A 146, zm_I (((5 * x1) + (h 193 x2)).tmod 251), zm_I (x2 + 1)] [] h)))))) else (zk_V (zc 269 [zm_A 146, zm_I x1] h) (fun h1 => some (zm_I (h1 146 77), h1)))) (zr none 3 268 146 [zm_A 146, zm_I x1, zm_I x2] [] h) := by
  refine zl_tr (r_iload_n d_268_146 rfl) ?_
  refine zl_tr (r_aload_n d_268_147 rfl) ?_
  refine zl_tr (r_getI (kk := 77) d_268_148 ow_268 f_12_246 la_146 (by decide) rfl) ?_
  refine zl_tr (r_icmp_ge (tgt := 175) d_268_151 (by decide)) (zl_if ?_ ?_)
  · skip
    refine zl_tr (r_iconst d_268_154 (by decide)) ?_
    refine zl_tr (r_iload_n d_268_155 rfl) ?_
    refine zl_tr (r_imul d_268_156) (zl_ck ?_)
    refine zl_tr (r_aload_n d_268_157 rfl) ?_
    refine zl_tr (r_getR d_268_158 ow_268 f_12_243 la_146 (by decide) fr_146_76) ?_
    refine zl_tr (r_iload_n d_268_161 rfl) ?_
    refine zl_tr (r_iaload d_268_162 la_193) (zl_ck ?_)
    refine zl_tr (r_iadd d_268_163) (zl_ck ?_)
    refine zl_tr (r_sipush d_268_164 (by decide)) ?_
    refine zl_tr (r_irem d_268_167) (zl_ck ?_)
    refine zl_tr (r_istore_n (loc' := [zm_A 146, zm_I (((5 * x1) + (h 193 x2)).tmod 251), zm_I x2]) d_268_168 (Nat.le_of_ble_eq_true rfl) rfl) ?_
    refine zl_tr (r_iinc (loc' := [zm_A 146, zm_I (((5 * x1) + (h 193 x2)).tmod 251), zm_I (x2 + 1)]) d_268_169 rfl (Nat.le_of_ble_eq_true rfl) rfl) (zl_ck ?_)
    refine zl_tr (r_goto (tgt := 146) d_268_172 (by decide)) ?_
    exact zl_rf
  · skip
    refine zl_tr (r_aload_n d_268_175 rfl) ?_
    refine zl_tr (r_iload_n d_268_176 rfl) ?_
    refine zl_tr (r_VV [zm_A 146, zm_I x1] d_268_177 ow_268 cal_12_594 na_269 rfl rfl (Nat.le_of_ble_eq_true rfl) (by rw [rk_269]; decide) (zr_rcv la_146 ow_269) (zr_im mx_269 rfl (Nat.le_of_ble_eq_true rfl)) rt_269) (zl_V (fun h1 => ?_))
    refine zl_tr (r_aload_n d_268_180 rfl) ?_
    refine zl_tr (r_getI (kk := 77) d_268_181 ow_268 f_12_246 la_146 (by decide) rfl) ?_
    exact r_iret d_268_184 rt_268
-- BranTubModel.writes
set_option maxRecDepth 20000 in
theorem e_269 {h : zm_H} {x1 : Int} : zl (zm_ck (0 ≤ (h 146 77) ∧ (h 146 77) < ((200 : Nat) : Int)) (zm_ck (zm_i32 (((zm_wr h 193 (h 146 77) (zb_iand x1 255)) 146 77) + 1)) (some (zm_U, (zm_wr (zm_wr h 193 (h 146 77) (zb_iand x1 255)) 146 77 (((zm_wr h 193 (h 146 77) (zb_iand x1 255)) 146 77) + 1)))))) (zc 269 [zm_A 146, zm_I x1] h) := by
  rw [zc_eq (loc := [zm_A 146, zm_I x1]) (rk_269 _) rfl]
  refine zl_tr (r_aload_n d_269_0 rfl) ?_
  refine zl_tr (r_getR d_269_1 ow_269 f_12_243 la_146 (by decide) fr_146_76) ?_
  refine zl_tr (r_aload_n d_269_4 rfl) ?_
  refine zl_tr (r_getI (kk := 77) d_269_5 ow_269 f_12_246 la_146 (by decide) rfl) ?_
  refine zl_tr (r_iload_n d_269_8 rfl) ?_
  refine zl_tr (r_sipush d_269_9 (by decide)) ?_
  refine zl_tr (r_iand d_269_12) ?_
  refine zl_tr (r_iastore d_269_13 la_193) (zl_ck ?_)
  refine zl_tr (r_aload_n d_269_14 rfl) ?_
  refine zl_tr (r_dup d_269_15 rfl) ?_
  refine zl_tr (r_getI (kk := 77) d_269_16 ow_269 f_12_246 la_146 (by decide) rfl) ?_
  refine zl_tr (r_iconst d_269_19 (by decide)) ?_
  refine zl_tr (r_iadd d_269_20) (zl_ck ?_)
  refine zl_tr (r_putI (kk := 77) d_269_21 ow_269 f_12_246 la_146 (by decide) rfl) ?_
  exact r_vret d_269_24 rt_269
-- BranTubModel.writesTwo
set_option maxRecDepth 20000 in
theorem e_270 {h : zm_H} {x1 : Int} : zl (zk_V (zc 269 [zm_A 146, zm_I (zb_ishr x1 8)] h) (fun h1 => zk_V (zc 269 [zm_A 146, zm_I x1] h1) (fun h2 => some (zm_U, h2)))) (zc 270 [zm_A 146, zm_I x1] h) := by
  rw [zc_eq (loc := [zm_A 146, zm_I x1]) (rk_270 _) rfl]
  refine zl_tr (r_aload_n d_270_0 rfl) ?_
  refine zl_tr (r_iload_n d_270_1 rfl) ?_
  refine zl_tr (r_bipush d_270_2 (by decide)) ?_
  refine zl_tr (r_ishr d_270_4) ?_
  refine zl_tr (r_VV [zm_A 146, zm_I (zb_ishr x1 8)] d_270_5 ow_270 cal_12_594 na_269 rfl rfl (Nat.le_of_ble_eq_true rfl) (by rw [rk_269]; decide) (zr_rcv la_146 ow_269) (zr_im mx_269 rfl (Nat.le_of_ble_eq_true rfl)) rt_269) (zl_V (fun h1 => ?_))
  refine zl_tr (r_aload_n d_270_8 rfl) ?_
  refine zl_tr (r_iload_n d_270_9 rfl) ?_
  refine zl_tr (r_VV [zm_A 146, zm_I x1] d_270_10 ow_270 cal_12_594 na_269 rfl rfl (Nat.le_of_ble_eq_true rfl) (by rw [rk_269]; decide) (zr_rcv la_146 ow_269) (zr_im mx_269 rfl (Nat.le_of_ble_eq_true rfl)) rt_269) (zl_V (fun h2 => ?_))
  exact r_vret d_270_13 rt_270
-- BranTubModel.octet
set_option maxRecDepth 20000 in
theorem e_271 {h : zm_H} {x1 : Int} : zl (zm_ck (zm_i32 ((h 146 77) - 1)) (zk_I (zc 175 [zm_I x1, zm_I 0, zm_I ((h 146 77) - 1)] h) (fun v1 h2 => if v1 = 0 then (some (zm_I (-1), h2)) else (zm_ck (0 ≤ x1 ∧ x1 < ((200 : Nat) : Int)) (some (zm_I (h2 193 x1), h2)))))) (zc 271 [zm_A 146, zm_I x1] h) := by
  rw [zc_eq (loc := [zm_A 146, zm_I x1]) (rk_271 _) rfl]
  refine zl_tr (r_iload_n d_271_0 rfl) ?_
  refine zl_tr (r_iconst d_271_1 (by decide)) ?_
  refine zl_tr (r_aload_n d_271_2 rfl) ?_
  refine zl_tr (r_getI (kk := 77) d_271_3 ow_271 f_12_246 la_146 (by decide) rfl) ?_
  refine zl_tr (r_iconst d_271_6 (by decide)) ?_
  refine zl_tr (r_isub d_271_7) (zl_ck ?_)
  refine zl_tr (r_SI [zm_I x1, zm_I 0, zm_I ((h 146 77) - 1)] d_271_8 ow_271 cal_12_335 (by decide) na_175 rfl rfl (Nat.le_of_ble_eq_true rfl) (by rw [rk_175]; decide) (zr_im mx_175 rfl (Nat.le_of_ble_eq_true rfl)) (by rw [rt_175]; decide)) (zl_I (fun v1 h2 => ?_))
  refine zl_tr (r_if_eq (tgt := 23) d_271_11 (by decide)) (zl_if ?_ ?_)
  · skip
    refine zl_tr (r_iconst d_271_23 (by decide)) ?_
    exact r_iret d_271_24 rt_271
  · skip
    refine zl_tr (r_aload_n d_271_14 rfl) ?_
    refine zl_tr (r_getR d_271_15 ow_271 f_12_243 la_146 (by decide) fr_146_76) ?_
    refine zl_tr (r_iload_n d_271_18 rfl) ?_
    refine zl_tr (r_iaload d_271_19 la_193) (zl_ck ?_)
    refine zl_tr (r_goto (tgt := 24) d_271_20 (by decide)) ?_
    exact r_iret d_271_24 rt_271
-- BranTubModel.on
set_option maxRecDepth 20000 in
theorem e_272 {h : zm_H}  : zl (zk_I (zc 273 [zm_A 146, zm_I (h 146 1)] (zm_wr h 146 1 0)) (fun v1 h2 => if v1 = 0 then (zk_I (zc 155 [zm_A 146, zm_I 5] h2) (fun v3 h4 => if v3 < 0 then (zm_ck (zm_bit 0) (some (zm_I 0, h4))) else (zm_ck (zm_bit 1) (some (zm_I 1, h4))))) else (zk_V (zc 202 [zm_A 146, zm_I 0, zm_I 1] h2) (fun h5 => zm_ck (zm_bit 1) (some (zm_I 1, (zm_wr h5 146 57 0))))))) (zc 272 [zm_A 146] h) := by
  rw [zc_eq (loc := [zm_A 146, zm_U]) (rk_272 _) rfl]
  refine zl_tr (r_aload_n d_272_0 rfl) ?_
  refine zl_tr (r_getI (kk := 1) d_272_1 ow_272 f_12_13 la_146 (by decide) rfl) ?_
  refine zl_tr (r_istore_n (loc' := [zm_A 146, zm_I (h 146 1)]) d_272_4 (Nat.le_of_ble_eq_true rfl) rfl) ?_
  refine zl_tr (r_aload_n d_272_5 rfl) ?_
  refine zl_tr (r_iconst d_272_6 (by decide)) ?_
  refine zl_tr (r_putI (kk := 1) d_272_7 ow_272 f_12_13 la_146 (by decide) rfl) ?_
  refine zl_tr (r_aload_n d_272_10 rfl) ?_
  refine zl_tr (r_iload_n d_272_11 rfl) ?_
  refine zl_tr (r_VI [zm_A 146, zm_I (h 146 1)] d_272_12 ow_272 cal_12_603 na_273 rfl rfl (Nat.le_of_ble_eq_true rfl) (by rw [rk_273]; decide) (zr_rcv la_146 ow_273) (zr_im mx_273 rfl (Nat.le_of_ble_eq_true rfl)) (by rw [rt_273]; decide)) (zl_I (fun v1 h2 => ?_))
  refine zl_tr (r_if_ne (tgt := 32) d_272_15 (by decide)) (zl_if ?_ ?_)
  · skip
    refine zl_tr (r_aload_n d_272_18 rfl) ?_
    refine zl_tr (r_iconst d_272_19 (by decide)) ?_
    refine zl_tr (r_VI [zm_A 146, zm_I 5] d_272_20 ow_272 cal_12_249 na_155 rfl rfl (Nat.le_of_ble_eq_true rfl) (by rw [rk_155]; decide) (zr_rcv la_146 ow_155) (zr_im mx_155 rfl (Nat.le_of_ble_eq_true rfl)) (by rw [rt_155]; decide)) (zl_I (fun v3 h4 => ?_))
    refine zl_tr (r_if_lt (tgt := 30) d_272_23 (by decide)) (zl_if ?_ ?_)
    · skip
      refine zl_tr (r_iconst d_272_30 (by decide)) ?_
      exact r_zret d_272_31 rt_272
    · skip
      refine zl_tr (r_iconst d_272_26 (by decide)) ?_
      refine zl_tr (r_goto (tgt := 31) d_272_27 (by decide)) ?_
      exact r_zret d_272_31 rt_272
  · skip
    refine zl_tr (r_aload_n d_272_32 rfl) ?_
    refine zl_tr (r_iconst d_272_33 (by decide)) ?_
    refine zl_tr (r_iconst d_272_34 (by decide)) ?_
    refine zl_tr (r_VV [zm_A 146, zm_I 0, zm_I 1] d_272_35 ow_272 cal_12_437 na_202 rfl rfl (Nat.le_of_ble_eq_true rfl) (by rw [rk_202]; decide) (zr_rcv la_146 ow_202) (zr_im mx_202 rfl (Nat.le_of_ble_eq_true rfl)) rt_202) (zl_V (fun h5 => ?_))
    refine zl_tr (r_aload_n d_272_38 rfl) ?_
    refine zl_tr (r_iconst d_272_39 (by decide)) ?_
    refine zl_tr (r_putI (kk := 57) d_272_40 ow_272 f_12_186 la_146 (by decide) rfl) ?_
    refine zl_tr (r_iconst d_272_43 (by decide)) ?_
    exact r_zret d_272_44 rt_272
-- BranTubModel.comesOn
set_option maxRecDepth 20000 in
theorem e_273 {h : zm_H} {x1 : Int} : zl (zm_ck (0 ≤ (h 146 13) ∧ (h 146 13) < ((2 : Nat) : Int)) (zm_ck (0 ≤ (h 146 13) ∧ (h 146 13) < ((2 : Nat) : Int)) (zm_ck (zm_i32 ((h 151 (h 146 13)) * (h 148 (h 146 13)))) (zm_ck (0 ≤ (h 146 13) ∧ (h 146 13) < ((2 : Nat) : Int)) (zm_ck (zm_i32 (2 * (h 148 (h 146 13)))) (zm_ck (zm_i32 (2 + (2 * (h 148 (h 146 13))))) (zm_ck (zm_i32 (4 + ((h 151 (h 146 13)) * (h 148 (h 146 13))))) (zm_ck (0 ≤ (h 146 13) ∧ (h 146 13) < ((2 : Nat) : Int)) (zm_ck (zm_i32 ((2 + (2 * (h 148 (h 146 13)))) * (h 153 (h 146 13)))) (zm_ck (zm_i32 ((4 + ((h 151 (h 146 13)) * (h 148 (h 146 13)))) + ((2 + (2 * (h 148 (h 146 13)))) * (h 153 (h 146 13))))) (if x1 = ((4 + ((h 151 (h 146 13)) * (h 148 (h 146 13)))) + ((2 + (2 * (h 148 (h 146 13)))) * (h 153 (h 146 13)))) then (zm_ck (0 ≤ 0 ∧ 0 < ((1800 : Nat) : Int)) (if 99 < (h 147 0) then (zm_ck (zm_bit 0) (some (zm_I 0, h))) else (zk_I (zc 274 [zm_A 146, zm_I 1] h) (fun v1 h2 => if v1 ≤ 9999 then (zr none 2 273 84 [zm_A 146, zm_I x1, zm_I ((h 151 (h 146 13)) * (h 148 (h 146 13))), zm_I (2 + (2 * (h 148 (h 146 13)))), zm_I 109, zm_I 0, zm_U, zm_U] [] h2) else (zm_ck (zm_bit 0) (some (zm_I 0, h2))))))) else (zm_ck (zm_bit 0) (some (zm_I 0, h)))))))))))))) (zc 273 [zm_A 146, zm_I x1] h) := by
  rw [zc_eq (loc := [zm_A 146, zm_I x1, zm_U, zm_U, zm_U, zm_U, zm_U, zm_U]) (rk_273 _) rfl]
  refine zl_tr (r_aload_n d_273_0 rfl) ?_
  refine zl_tr (r_getR d_273_1 ow_273 f_12_63 la_146 (by decide) fr_146_17) ?_
  refine zl_tr (r_aload_n d_273_4 rfl) ?_
  refine zl_tr (r_getI (kk := 13) d_273_5 ow_273 f_12_51 la_146 (by decide) rfl) ?_
  refine zl_tr (r_iaload d_273_8 la_151) (zl_ck ?_)
  refine zl_tr (r_aload_n d_273_9 rfl) ?_
  refine zl_tr (r_getR d_273_10 ow_273 f_12_54 la_146 (by decide) fr_146_14) ?_
  refine zl_tr (r_aload_n d_273_13 rfl) ?_
  refine zl_tr (r_getI (kk := 13) d_273_14 ow_273 f_12_51 la_146 (by decide) rfl) ?_
  refine zl_tr (r_iaload d_273_17 la_148) (zl_ck ?_)
  refine zl_tr (r_imul d_273_18) (zl_ck ?_)
  refine zl_tr (r_istore_n (loc' := [zm_A 146, zm_I x1, zm_I ((h 151 (h 146 13)) * (h 148 (h 146 13))), zm_U, zm_U, zm_U, zm_U, zm_U]) d_273_19 (Nat.le_of_ble_eq_true rfl) rfl) ?_
  refine zl_tr (r_iconst d_273_20 (by decide)) ?_
  refine zl_tr (r_iconst d_273_21 (by decide)) ?_
  refine zl_tr (r_aload_n d_273_22 rfl) ?_
  refine zl_tr (r_getR d_273_23 ow_273 f_12_54 la_146 (by decide) fr_146_14) ?_
  refine zl_tr (r_aload_n d_273_26 rfl) ?_
  refine zl_tr (r_getI (kk := 13) d_273_27 ow_273 f_12_51 la_146 (by decide) rfl) ?_
  refine zl_tr (r_iaload d_273_30 la_148) (zl_ck ?_)
  refine zl_tr (r_imul d_273_31) (zl_ck ?_)
  refine zl_tr (r_iadd d_273_32) (zl_ck ?_)
  refine zl_tr (r_istore_n (loc' := [zm_A 146, zm_I x1, zm_I ((h 151 (h 146 13)) * (h 148 (h 146 13))), zm_I (2 + (2 * (h 148 (h 146 13)))), zm_U, zm_U, zm_U, zm_U]) d_273_33 (Nat.le_of_ble_eq_true rfl) rfl) ?_
  refine zl_tr (r_iload_n d_273_34 rfl) ?_
  refine zl_tr (r_iconst d_273_35 (by decide)) ?_
  refine zl_tr (r_iload_n d_273_36 rfl) ?_
  refine zl_tr (r_iadd d_273_37) (zl_ck ?_)
  refine zl_tr (r_iload_n d_273_38 rfl) ?_
  refine zl_tr (r_aload_n d_273_39 rfl) ?_
  refine zl_tr (r_getR d_273_40 ow_273 f_12_69 la_146 (by decide) fr_146_19) ?_
  refine zl_tr (r_aload_n d_273_43 rfl) ?_
  refine zl_tr (r_getI (kk := 13) d_273_44 ow_273 f_12_51 la_146 (by decide) rfl) ?_
  refine zl_tr (r_iaload d_273_47 la_153) (zl_ck ?_)
  refine zl_tr (r_imul d_273_48) (zl_ck ?_)
  refine zl_tr (r_iadd d_273_49) (zl_ck ?_)
  refine zl_tr (r_icmp_ne (tgt := 75) d_273_50 (by decide)) (zl_if ?_ ?_)
  · skip
    refine zl_tr (r_aload_n d_273_53 rfl) ?_
    refine zl_tr (r_getR d_273_54 ow_273 f_12_7 la_146 (by decide) fr_146_0) ?_
    refine zl_tr (r_iconst d_273_57 (by decide)) ?_
    refine zl_tr (r_iaload d_273_58 la_147) (zl_ck ?_)
    refine zl_tr (r_bipush d_273_59 (by decide)) ?_
    refine zl_tr (r_icmp_gt (tgt := 75) d_273_61 (by decide)) (zl_if ?_ ?_)
    · skip
      refine zl_tr (r_iconst d_273_75 (by decide)) ?_
      exact r_zret d_273_76 rt_273
    · skip
      refine zl_tr (r_aload_n d_273_64 rfl) ?_
      refine zl_tr (r_iconst d_273_65 (by decide)) ?_
      refine zl_tr (r_VI [zm_A 146, zm_I 1] d_273_66 ow_273 cal_12_600 na_274 rfl rfl (Nat.le_of_ble_eq_true rfl) (by rw [rk_274]; decide) (zr_rcv la_146 ow_274) (zr_im mx_274 rfl (Nat.le_of_ble_eq_true rfl)) (by rw [rt_274]; decide)) (zl_I (fun v1 h2 => ?_))
      refine zl_tr (r_sipush d_273_69 (by decide)) ?_
      refine zl_tr (r_icmp_le (tgt := 77) d_273_72 (by decide)) (zl_if ?_ ?_)
      · skip
        refine zl_tr (r_bipush d_273_77 (by decide)) ?_
        refine zl_tr (r_istore (loc' := [zm_A 146, zm_I x1, zm_I ((h 151 (h 146 13)) * (h 148 (h 146 13))), zm_I (2 + (2 * (h 148 (h 146 13)))), zm_I 109, zm_U, zm_U, zm_U]) d_273_79 (Nat.le_of_ble_eq_true rfl) rfl) ?_
        refine zl_tr (r_iconst d_273_81 (by decide)) ?_
        refine zl_tr (r_istore (loc' := [zm_A 146, zm_I x1, zm_I ((h 151 (h 146 13)) * (h 148 (h 146 13))), zm_I (2 + (2 * (h 148 (h 146 13)))), zm_I 109, zm_I 0, zm_U, zm_U]) d_273_82 (Nat.le_of_ble_eq_true rfl) rfl) ?_
        exact zl_rf
      · skip
        refine zl_tr (r_iconst d_273_75 (by decide)) ?_
        exact r_zret d_273_76 rt_273
  · skip
    refine zl_tr (r_iconst d_273_75 (by decide)) ?_
    exact r_zret d_273_76 rt_273
-- BranTubModel.comesOn, from 84
set_option maxRecDepth 20000 in
theorem e_273_84 {h : zm_H} {x1 : Int} {x2 : Int} {x3 : Int} {x4 : Int} {x5 : Int} {w6 : zm_V} {w7 : zm_V} : zl (zm_ck (zm_i32 (x1 - 1)) (if x5 < (x1 - 1) then (zm_ck (zm_i32 (5 * x4)) (zm_ck (0 ≤ x5 ∧ x5 < ((1800 : Nat) : Int)) (zm_ck (zm_i32 ((5 * x4) + (h 147 x5))) (zm_ck ((251 : Int) ≠ 0 ∧ zm_i32 (((5 * x4) + (h 147 x5)).tdiv 251) ∧ zm_i32 (((5 * x4) + (h 147 x5)).tmod 251)) (zm_ck (zm_i32 (x5 + 1)) (zr none 2 273 84 [zm_A 146, zm_I x1, zm_I x2, zm_I x3, zm_I (((5 * x4) + (h 147 x5)).tmod 251), zm_I (x5 + 1), w6, w7] [] h)))))) else (zm_ck (zm_i32 (x1 - 1)) (zm_ck (0 ≤ (x1 - 1) ∧ (x1 - 1) < ((1800 : Nat) : Int)) (if (h 147 (x1 - 1)) = x4 then (zk_V (zc 202 [zm_A 146, zm_I 1, zm_I 0] h) (fun h1 => zm_ck (0 ≤ 0 ∧ 0 < ((1800 : Nat) : Int)) (zm_ck (0 ≤ 1 ∧ 1 < ((22 : Nat) : Int)) (zk_I (zc 274 [zm_A 146, zm_I 1] (zm_wr h1 174 1 (h1 147 0))) (fun v2 h3 => zm_ck (0 ≤ 1 ∧ 1 < ((22 : Nat) : Int)) (zm_ck (0 ≤ 1 ∧ 1 < ((22 : Nat) : Int)) (zr none 2 273 170 [zm_A 146, zm_I x1, zm_I x2, zm_I x3, zm_I x4, zm_I 0, w6, w7] [] (zm_wr (zm_wr h3 175 1 v2) 179 1 0)))))))) else (zm_ck (zm_bit 0) (some (zm_I 0, h)))))))) (zr none 2 273 84 [zm_A 146, zm_I x1, zm_I x2, zm_I x3, zm_I x4, zm_I x5, w6, w7] [] h) := by
  refine zl_tr (r_iload d_273_84 rfl) ?_
  refine zl_tr (r_iload_n d_273_86 rfl) ?_
  refine zl_tr (r_iconst d_273_87 (by decide)) ?_
  refine zl_tr (r_isub d_273_88) (zl_ck ?_)
  refine zl_tr (r_icmp_ge (tgt := 116) d_273_89 (by decide)) (zl_if ?_ ?_)
  · skip
    refine zl_tr (r_iconst d_273_92 (by decide)) ?_
    refine zl_tr (r_iload d_273_93 rfl) ?_
    refine zl_tr (r_imul d_273_95) (zl_ck ?_)
    refine zl_tr (r_aload_n d_273_96 rfl) ?_
    refine zl_tr (r_getR d_273_97 ow_273 f_12_7 la_146 (by decide) fr_146_0) ?_
    refine zl_tr (r_iload d_273_100 rfl) ?_
    refine zl_tr (r_iaload d_273_102 la_147) (zl_ck ?_)
    refine zl_tr (r_iadd d_273_103) (zl_ck ?_)
    refine zl_tr (r_sipush d_273_104 (by decide)) ?_
    refine zl_tr (r_irem d_273_107) (zl_ck ?_)
    refine zl_tr (r_istore (loc' := [zm_A 146, zm_I x1, zm_I x2, zm_I x3, zm_I (((5 * x4) + (h 147 x5)).tmod 251), zm_I x5, w6, w7]) d_273_108 (Nat.le_of_ble_eq_true rfl) rfl) ?_
    refine zl_tr (r_iinc (loc' := [zm_A 146, zm_I x1, zm_I x2, zm_I x3, zm_I (((5 * x4) + (h 147 x5)).tmod 251), zm_I (x5 + 1), w6, w7]) d_273_110 rfl (Nat.le_of_ble_eq_true rfl) rfl) (zl_ck ?_)
    refine zl_tr (r_goto (tgt := 84) d_273_113 (by decide)) ?_
    exact zl_rf
  · skip
    refine zl_tr (r_aload_n d_273_116 rfl) ?_
    refine zl_tr (r_getR d_273_117 ow_273 f_12_7 la_146 (by decide) fr_146_0) ?_
    refine zl_tr (r_iload_n d_273_120 rfl) ?_
    refine zl_tr (r_iconst d_273_121 (by decide)) ?_
    refine zl_tr (r_isub d_273_122) (zl_ck ?_)
    refine zl_tr (r_iaload d_273_123 la_147) (zl_ck ?_)
    refine zl_tr (r_iload d_273_124 rfl) ?_
    refine zl_tr (r_icmp_eq (tgt := 131) d_273_126 (by decide)) (zl_if ?_ ?_)
    · skip
      refine zl_tr (r_aload_n d_273_131 rfl) ?_
      refine zl_tr (r_iconst d_273_132 (by decide)) ?_
      refine zl_tr (r_iconst d_273_133 (by decide)) ?_
      refine zl_tr (r_VV [zm_A 146, zm_I 1, zm_I 0] d_273_134 ow_273 cal_12_437 na_202 rfl rfl (Nat.le_of_ble_eq_true rfl) (by rw [rk_202]; decide) (zr_rcv la_146 ow_202) (zr_im mx_202 rfl (Nat.le_of_ble_eq_true rfl)) rt_202) (zl_V (fun h1 => ?_))
      refine zl_tr (r_aload_n d_273_137 rfl) ?_
      refine zl_tr (r_getR d_273_138 ow_273 f_12_153 la_146 (by decide) fr_146_46) ?_
      refine zl_tr (r_iconst d_273_141 (by decide)) ?_
      refine zl_tr (r_aload_n d_273_142 rfl) ?_
      refine zl_tr (r_getR d_273_143 ow_273 f_12_7 la_146 (by decide) fr_146_0) ?_
      refine zl_tr (r_iconst d_273_146 (by decide)) ?_
      refine zl_tr (r_iaload d_273_147 la_147) (zl_ck ?_)
      refine zl_tr (r_iastore d_273_148 la_174) (zl_ck ?_)
      refine zl_tr (r_aload_n d_273_149 rfl) ?_
      refine zl_tr (r_getR d_273_150 ow_273 f_12_156 la_146 (by decide) fr_146_47) ?_
      refine zl_tr (r_iconst d_273_153 (by decide)) ?_
      refine zl_tr (r_aload_n d_273_154 rfl) ?_
      refine zl_tr (r_iconst d_273_155 (by decide)) ?_
      refine zl_tr (r_VI [zm_A 146, zm_I 1] d_273_156 ow_273 cal_12_600 na_274 rfl rfl (Nat.le_of_ble_eq_true rfl) (by rw [rk_274]; decide) (zr_rcv la_146 ow_274) (zr_im mx_274 rfl (Nat.le_of_ble_eq_true rfl)) (by rw [rt_274]; decide)) (zl_I (fun v2 h3 => ?_))
      refine zl_tr (r_iastore d_273_159 la_175) (zl_ck ?_)
      refine zl_tr (r_aload_n d_273_160 rfl) ?_
      refine zl_tr (r_getR d_273_161 ow_273 f_12_168 la_146 (by decide) fr_146_51) ?_
      refine zl_tr (r_iconst d_273_164 (by decide)) ?_
      refine zl_tr (r_iconst d_273_165 (by decide)) ?_
      refine zl_tr (r_iastore d_273_166 la_179) (zl_ck ?_)
      refine zl_tr (r_iconst d_273_167 (by decide)) ?_
      refine zl_tr (r_istore (loc' := [zm_A 146, zm_I x1, zm_I x2, zm_I x3, zm_I x4, zm_I 0, w6, w7]) d_273_168 (Nat.le_of_ble_eq_true rfl) rfl) ?_
      exact zl_rf
    · skip
      refine zl_tr (r_iconst d_273_129 (by decide)) ?_
      exact r_zret d_273_130 rt_273
-- BranTubModel.comesOn, from 170
set_option maxRecDepth 20000 in
theorem e_273_170 {h : zm_H} {w1 : zm_V} {x2 : Int} {x3 : Int} {w4 : zm_V} {x5 : Int} {w6 : zm_V} {w7 : zm_V} (hw4 : zm_cat w4 ≠ 2) : zl (if x5 < x2 then (zm_ck (0 ≤ (h 146 13) ∧ (h 146 13) < ((2 : Nat) : Int)) (zm_ck (((h 148 (h 146 13)) : Int) ≠ 0 ∧ zm_i32 (x5.tdiv (h 148 (h 146 13)))) (zm_ck (zm_i32 (8 * (x5.tdiv (h 148 (h 146 13))))) (zm_ck (zm_i32 (40 + (8 * (x5.tdiv (h 148 (h 146 13)))))) (zm_ck (0 ≤ (h 146 13) ∧ (h 146 13) < ((2 : Nat) : Int)) (zm_ck (((h 148 (h 146 13)) : Int) ≠ 0 ∧ zm_i32 (x5.tdiv (h 148 (h 146 13))) ∧ zm_i32 (x5.tmod (h 148 (h 146 13)))) (zm_ck (zm_i32 ((40 + (8 * (x5.tdiv (h 148 (h 146 13))))) + (x5.tmod (h 148 (h 146 13))))) (zm_ck (zm_i32 (3 + x5)) (zm_ck (0 ≤ (3 + x5) ∧ (3 + x5) < ((1800 : Nat) : Int)) (zm_ck (0 ≤ ((40 + (8 * (x5.tdiv (h 148 (h 146 13))))) + (x5.tmod (h 148 (h 146 13)))) ∧ ((40 + (8 * (x5.tdiv (h 148 (h 146 13))))) + (x5.tmod (h 148 (h 146 13)))) < ((880 : Nat) : Int)) (zm_ck (zm_i32 (3 + x5)) (zm_ck (0 ≤ (3 + x5) ∧ (3 + x5) < ((1800 : Nat) : Int)) (if ((zm_wr h 176 ((40 + (8 * (x5.tdiv (h 148 (h 146 13))))) + (x5.tmod (h 148 (h 146 13)))) (h 147 (3 + x5))) 147 (3 + x5)) ≤ 99 then (zm_ck (zm_i32 (x5 + 1)) (zr none 2 273 170 [zm_A 146, w1, zm_I x2, zm_I x3, w4, zm_I (x5 + 1), w6, w7] [] (zm_wr h 176 ((40 + (8 * (x5.tdiv (h 148 (h 146 13))))) + (x5.tmod (h 148 (h 146 13)))) (h 147 (3 + x5))))) else (zm_ck (zm_bit 0) (some (zm_I 0, (zm_wr h 176 ((40 + (8 * (x5.tdiv (h 148 (h 146 13))))) + (x5.tmod (h 148 (h 146 13)))) (h 147 (3 + x5))))))))))))))))))) else (zr none 2 273 246 [zm_A 146, w1, zm_I x2, zm_I x3, w4, zm_I 0, w6, w7] [] h)) (zr none 2 273 170 [zm_A 146, w1, zm_I x2, zm_I x3, w4, zm_I x5, w6, w7] [] h) := by
  refine zl_tr (r_iload d_273_170 rfl) ?_
  refine zl_tr (r_iload_n d_273_172 rfl) ?_
  refine zl_tr (r_icmp_ge (tgt := 243) d_273_173 (by decide)) (zl_if ?_ ?_)
  · skip
    refine zl_tr (r_aload_n d_273_176 rfl) ?_
    refine zl_tr (r_getR d_273_177 ow_273 f_12_159 la_146 (by decide) fr_146_48) ?_
    refine zl_tr (r_bipush d_273_180 (by decide)) ?_
    refine zl_tr (r_bipush d_273_182 (by decide)) ?_
    refine zl_tr (r_iload d_273_184 rfl) ?_
    refine zl_tr (r_aload_n d_273_186 rfl) ?_
    refine zl_tr (r_getR d_273_187 ow_273 f_12_54 la_146 (by decide) fr_146_14) ?_
    refine zl_tr (r_aload_n d_273_190 rfl) ?_
    refine zl_tr (r_getI (kk := 13) d_273_191 ow_273 f_12_51 la_146 (by decide) rfl) ?_
    refine zl_tr (r_iaload d_273_194 la_148) (zl_ck ?_)
    refine zl_tr (r_idiv d_273_195) (zl_ck ?_)
    refine zl_tr (r_imul d_273_196) (zl_ck ?_)
    refine zl_tr (r_iadd d_273_197) (zl_ck ?_)
    refine zl_tr (r_iload d_273_198 rfl) ?_
    refine zl_tr (r_aload_n d_273_200 rfl) ?_
    refine zl_tr (r_getR d_273_201 ow_273 f_12_54 la_146 (by decide) fr_146_14) ?_
    refine zl_tr (r_aload_n d_273_204 rfl) ?_
    refine zl_tr (r_getI (kk := 13) d_273_205 ow_273 f_12_51 la_146 (by decide) rfl) ?_
    refine zl_tr (r_iaload d_273_208 la_148) (zl_ck ?_)
    refine zl_tr (r_irem d_273_209) (zl_ck ?_)
    refine zl_tr (r_iadd d_273_210) (zl_ck ?_)
    refine zl_tr (r_aload_n d_273_211 rfl) ?_
    refine zl_tr (r_getR d_273_212 ow_273 f_12_7 la_146 (by decide) fr_146_0) ?_
    refine zl_tr (r_iconst d_273_215 (by decide)) ?_
    refine zl_tr (r_iload d_273_216 rfl) ?_
    refine zl_tr (r_iadd d_273_218) (zl_ck ?_)
    refine zl_tr (r_iaload d_273_219 la_147) (zl_ck ?_)
    refine zl_tr (r_iastore d_273_220 la_176) (zl_ck ?_)
    refine zl_tr (r_aload_n d_273_221 rfl) ?_
    refine zl_tr (r_getR d_273_222 ow_273 f_12_7 la_146 (by decide) fr_146_0) ?_
    refine zl_tr (r_iconst d_273_225 (by decide)) ?_
    refine zl_tr (r_iload d_273_226 rfl) ?_
    refine zl_tr (r_iadd d_273_228) (zl_ck ?_)
    refine zl_tr (r_iaload d_273_229 la_147) (zl_ck ?_)
    refine zl_tr (r_bipush d_273_230 (by decide)) ?_
    refine zl_tr (r_icmp_le (tgt := 237) d_273_232 (by decide)) (zl_if ?_ ?_)
    · skip
      refine zl_tr (r_iinc (loc' := [zm_A 146, w1, zm_I x2, zm_I x3, w4, zm_I (x5 + 1), w6, w7]) d_273_237 rfl (Nat.le_of_ble_eq_true rfl) (zr_k1 rfl hw4 rfl)) (zl_ck ?_)
      refine zl_tr (r_goto (tgt := 170) d_273_240 (by decide)) ?_
      exact zl_rf
    · skip
      refine zl_tr (r_iconst d_273_235 (by decide)) ?_
      exact r_zret d_273_236 rt_273
  · skip
    refine zl_tr (r_iconst d_273_243 (by decide)) ?_
    refine zl_tr (r_istore (loc' := [zm_A 146, w1, zm_I x2, zm_I x3, w4, zm_I 0, w6, w7]) d_273_244 (Nat.le_of_ble_eq_true rfl) (zr_k1 rfl hw4 rfl)) ?_
    exact zl_rf
-- BranTubModel.comesOn, from 246
set_option maxRecDepth 20000 in
theorem e_273_246 {h : zm_H} {w1 : zm_V} {x2 : Int} {x3 : Int} {w4 : zm_V} {x5 : Int} {w6 : zm_V} {w7 : zm_V} : zl (zm_ck (0 ≤ (h 146 13) ∧ (h 146 13) < ((2 : Nat) : Int)) (if x5 < (h 153 (h 146 13)) then (zm_ck (zm_i32 (3 + x2)) (zm_ck (zm_i32 (x3 * x5)) (zm_ck (zm_i32 ((3 + x2) + (x3 * x5))) (zm_ck (zm_i32 (8 + x5)) (zk_I (zc 274 [zm_A 146, zm_I ((3 + x2) + (x3 * x5))] h) (fun v1 h2 => zm_ck (0 ≤ (8 + x5) ∧ (8 + x5) < ((176 : Nat) : Int)) (zk_I (zc 274 [zm_A 146, zm_I ((3 + x2) + (x3 * x5))] (zm_wr h2 177 (8 + x5) v1)) (fun v3 h4 => if v3 ≤ 999 then (zr none 2 273 303 [zm_A 146, w1, zm_I x2, zm_I x3, w4, zm_I x5, zm_I ((3 + x2) + (x3 * x5)), zm_I 0] [] h4) else (zm_ck (zm_bit 0) (some (zm_I 0, h4))))))))))) else (zm_ck (zm_bit 1) (some (zm_I 1, h))))) (zr none 2 273 246 [zm_A 146, w1, zm_I x2, zm_I x3, w4, zm_I x5, w6, w7] [] h) := by
  refine zl_tr (r_iload d_273_246 rfl) ?_
  refine zl_tr (r_aload_n d_273_248 rfl) ?_
  refine zl_tr (r_getR d_273_249 ow_273 f_12_69 la_146 (by decide) fr_146_19) ?_
  refine zl_tr (r_aload_n d_273_252 rfl) ?_
  refine zl_tr (r_getI (kk := 13) d_273_253 ow_273 f_12_51 la_146 (by decide) rfl) ?_
  refine zl_tr (r_iaload d_273_256 la_153) (zl_ck ?_)
  refine zl_tr (r_icmp_ge (tgt := 379) d_273_257 (by decide)) (zl_if ?_ ?_)
  · skip
    refine zl_tr (r_iconst d_273_260 (by decide)) ?_
    refine zl_tr (r_iload_n d_273_261 rfl) ?_
    refine zl_tr (r_iadd d_273_262) (zl_ck ?_)
    refine zl_tr (r_iload_n d_273_263 rfl) ?_
    refine zl_tr (r_iload d_273_264 rfl) ?_
    refine zl_tr (r_imul d_273_266) (zl_ck ?_)
    refine zl_tr (r_iadd d_273_267) (zl_ck ?_)
    refine zl_tr (r_istore (loc' := [zm_A 146, w1, zm_I x2, zm_I x3, w4, zm_I x5, zm_I ((3 + x2) + (x3 * x5)), w7]) d_273_268 (Nat.le_of_ble_eq_true rfl) rfl) ?_
    refine zl_tr (r_aload_n d_273_270 rfl) ?_
    refine zl_tr (r_getR d_273_271 ow_273 f_12_162 la_146 (by decide) fr_146_49) ?_
    refine zl_tr (r_bipush d_273_274 (by decide)) ?_
    refine zl_tr (r_iload d_273_276 rfl) ?_
    refine zl_tr (r_iadd d_273_278) (zl_ck ?_)
    refine zl_tr (r_aload_n d_273_279 rfl) ?_
    refine zl_tr (r_iload d_273_280 rfl) ?_
    refine zl_tr (r_VI [zm_A 146, zm_I ((3 + x2) + (x3 * x5))] d_273_282 ow_273 cal_12_600 na_274 rfl rfl (Nat.le_of_ble_eq_true rfl) (by rw [rk_274]; decide) (zr_rcv la_146 ow_274) (zr_im mx_274 rfl (Nat.le_of_ble_eq_true rfl)) (by rw [rt_274]; decide)) (zl_I (fun v1 h2 => ?_))
    refine zl_tr (r_iastore d_273_285 la_177) (zl_ck ?_)
    refine zl_tr (r_aload_n d_273_286 rfl) ?_
    refine zl_tr (r_iload d_273_287 rfl) ?_
    refine zl_tr (r_VI [zm_A 146, zm_I ((3 + x2) + (x3 * x5))] d_273_289 ow_273 cal_12_600 na_274 rfl rfl (Nat.le_of_ble_eq_true rfl) (by rw [rk_274]; decide) (zr_rcv la_146 ow_274) (zr_im mx_274 rfl (Nat.le_of_ble_eq_true rfl)) (by rw [rt_274]; decide)) (zl_I (fun v3 h4 => ?_))
    refine zl_tr (r_sipush d_273_292 (by decide)) ?_
    refine zl_tr (r_icmp_le (tgt := 300) d_273_295 (by decide)) (zl_if ?_ ?_)
    · skip
      refine zl_tr (r_iconst d_273_300 (by decide)) ?_
      refine zl_tr (r_istore (loc' := [zm_A 146, w1, zm_I x2, zm_I x3, w4, zm_I x5, zm_I ((3 + x2) + (x3 * x5)), zm_I 0]) d_273_301 (Nat.le_of_ble_eq_true rfl) rfl) ?_
      exact zl_rf
    · skip
      refine zl_tr (r_iconst d_273_298 (by decide)) ?_
      exact r_zret d_273_299 rt_273
  · skip
    refine zl_tr (r_iconst d_273_379 (by decide)) ?_
    exact r_zret d_273_380 rt_273
-- BranTubModel.comesOn, from 303
set_option maxRecDepth 20000 in
theorem e_273_303 {h : zm_H} {w1 : zm_V} {x2 : Int} {x3 : Int} {w4 : zm_V} {x5 : Int} {x6 : Int} {x7 : Int} (hw4 : zm_cat w4 ≠ 2) : zl (zm_ck (0 ≤ (h 146 13) ∧ (h 146 13) < ((2 : Nat) : Int)) (if x7 < (h 148 (h 146 13)) then (zm_ck (zm_i32 (8 * x5)) (zm_ck (zm_i32 (64 + (8 * x5))) (zm_ck (zm_i32 ((64 + (8 * x5)) + x7)) (zm_ck (zm_i32 (x6 + 2)) (zm_ck (zm_i32 (2 * x7)) (zm_ck (zm_i32 ((x6 + 2) + (2 * x7))) (zk_I (zc 274 [zm_A 146, zm_I ((x6 + 2) + (2 * x7))] h) (fun v1 h2 => zm_ck (0 ≤ ((64 + (8 * x5)) + x7) ∧ ((64 + (8 * x5)) + x7) < ((1408 : Nat) : Int)) (zm_ck (zm_i32 (x6 + 2)) (zm_ck (zm_i32 (2 * x7)) (zm_ck (zm_i32 ((x6 + 2) + (2 * x7))) (zk_I (zc 274 [zm_A 146, zm_I ((x6 + 2) + (2 * x7))] (zm_wr h2 178 ((64 + (8 * x5)) + x7) v1)) (fun v3 h4 => if v3 ≤ 9999 then (zm_ck (zm_i32 (x7 + 1)) (zr none 2 273 303 [zm_A 146, w1, zm_I x2, zm_I x3, w4, zm_I x5, zm_I x6, zm_I (x7 + 1)] [] h4)) else (zm_ck (zm_bit 0) (some (zm_I 0, h4)))))))))))))))) else (zm_ck (zm_i32 (x5 + 1)) (zr none 2 273 246 [zm_A 146, w1, zm_I x2, zm_I x3, w4, zm_I (x5 + 1), zm_I x6, zm_I x7] [] h)))) (zr none 2 273 303 [zm_A 146, w1, zm_I x2, zm_I x3, w4, zm_I x5, zm_I x6, zm_I x7] [] h) := by
  refine zl_tr (r_iload d_273_303 rfl) ?_
  refine zl_tr (r_aload_n d_273_305 rfl) ?_
  refine zl_tr (r_getR d_273_306 ow_273 f_12_54 la_146 (by decide) fr_146_14) ?_
  refine zl_tr (r_aload_n d_273_309 rfl) ?_
  refine zl_tr (r_getI (kk := 13) d_273_310 ow_273 f_12_51 la_146 (by decide) rfl) ?_
  refine zl_tr (r_iaload d_273_313 la_148) (zl_ck ?_)
  refine zl_tr (r_icmp_ge (tgt := 373) d_273_314 (by decide)) (zl_if ?_ ?_)
  · skip
    refine zl_tr (r_aload_n d_273_317 rfl) ?_
    refine zl_tr (r_getR d_273_318 ow_273 f_12_165 la_146 (by decide) fr_146_50) ?_
    refine zl_tr (r_bipush d_273_321 (by decide)) ?_
    refine zl_tr (r_bipush d_273_323 (by decide)) ?_
    refine zl_tr (r_iload d_273_325 rfl) ?_
    refine zl_tr (r_imul d_273_327) (zl_ck ?_)
    refine zl_tr (r_iadd d_273_328) (zl_ck ?_)
    refine zl_tr (r_iload d_273_329 rfl) ?_
    refine zl_tr (r_iadd d_273_331) (zl_ck ?_)
    refine zl_tr (r_aload_n d_273_332 rfl) ?_
    refine zl_tr (r_iload d_273_333 rfl) ?_
    refine zl_tr (r_iconst d_273_335 (by decide)) ?_
    refine zl_tr (r_iadd d_273_336) (zl_ck ?_)
    refine zl_tr (r_iconst d_273_337 (by decide)) ?_
    refine zl_tr (r_iload d_273_338 rfl) ?_
    refine zl_tr (r_imul d_273_340) (zl_ck ?_)
    refine zl_tr (r_iadd d_273_341) (zl_ck ?_)
    refine zl_tr (r_VI [zm_A 146, zm_I ((x6 + 2) + (2 * x7))] d_273_342 ow_273 cal_12_600 na_274 rfl rfl (Nat.le_of_ble_eq_true rfl) (by rw [rk_274]; decide) (zr_rcv la_146 ow_274) (zr_im mx_274 rfl (Nat.le_of_ble_eq_true rfl)) (by rw [rt_274]; decide)) (zl_I (fun v1 h2 => ?_))
    refine zl_tr (r_iastore d_273_345 la_178) (zl_ck ?_)
    refine zl_tr (r_aload_n d_273_346 rfl) ?_
    refine zl_tr (r_iload d_273_347 rfl) ?_
    refine zl_tr (r_iconst d_273_349 (by decide)) ?_
    refine zl_tr (r_iadd d_273_350) (zl_ck ?_)
    refine zl_tr (r_iconst d_273_351 (by decide)) ?_
    refine zl_tr (r_iload d_273_352 rfl) ?_
    refine zl_tr (r_imul d_273_354) (zl_ck ?_)
    refine zl_tr (r_iadd d_273_355) (zl_ck ?_)
    refine zl_tr (r_VI [zm_A 146, zm_I ((x6 + 2) + (2 * x7))] d_273_356 ow_273 cal_12_600 na_274 rfl rfl (Nat.le_of_ble_eq_true rfl) (by rw [rk_274]; decide) (zr_rcv la_146 ow_274) (zr_im mx_274 rfl (Nat.le_of_ble_eq_true rfl)) (by rw [rt_274]; decide)) (zl_I (fun v3 h4 => ?_))
    refine zl_tr (r_sipush d_273_359 (by decide)) ?_
    refine zl_tr (r_icmp_le (tgt := 367) d_273_362 (by decide)) (zl_if ?_ ?_)
    · skip
      refine zl_tr (r_iinc (loc' := [zm_A 146, w1, zm_I x2, zm_I x3, w4, zm_I x5, zm_I x6, zm_I (x7 + 1)]) d_273_367 rfl (Nat.le_of_ble_eq_true rfl) rfl) (zl_ck ?_)
      refine zl_tr (r_goto (tgt := 303) d_273_370 (by decide)) ?_
      exact zl_rf
    · skip
      refine zl_tr (r_iconst d_273_365 (by decide)) ?_
      exact r_zret d_273_366 rt_273
  · skip
    refine zl_tr (r_iinc (loc' := [zm_A 146, w1, zm_I x2, zm_I x3, w4, zm_I (x5 + 1), zm_I x6, zm_I x7]) d_273_373 rfl (Nat.le_of_ble_eq_true rfl) (zr_k1 rfl hw4 rfl)) (zl_ck ?_)
    refine zl_tr (r_goto (tgt := 246) d_273_376 (by decide)) ?_
    exact zl_rf
-- BranTubModel.twoBytes
set_option maxRecDepth 20000 in
theorem e_274 {h : zm_H} {x1 : Int} : zl (zm_ck (0 ≤ x1 ∧ x1 < ((1800 : Nat) : Int)) (zm_ck (zm_i32 (x1 + 1)) (zm_ck (0 ≤ (x1 + 1) ∧ (x1 + 1) < ((1800 : Nat) : Int)) (some (zm_I (zb_ior (zb_ishl (h 147 x1) 8) (h 147 (x1 + 1))), h))))) (zc 274 [zm_A 146, zm_I x1] h) := by
  rw [zc_eq (loc := [zm_A 146, zm_I x1]) (rk_274 _) rfl]
  refine zl_tr (r_aload_n d_274_0 rfl) ?_
  refine zl_tr (r_getR d_274_1 ow_274 f_12_7 la_146 (by decide) fr_146_0) ?_
  refine zl_tr (r_iload_n d_274_4 rfl) ?_
  refine zl_tr (r_iaload d_274_5 la_147) (zl_ck ?_)
  refine zl_tr (r_bipush d_274_6 (by decide)) ?_
  refine zl_tr (r_ishl d_274_8) ?_
  refine zl_tr (r_aload_n d_274_9 rfl) ?_
  refine zl_tr (r_getR d_274_10 ow_274 f_12_7 la_146 (by decide) fr_146_0) ?_
  refine zl_tr (r_iload_n d_274_13 rfl) ?_
  refine zl_tr (r_iconst d_274_14 (by decide)) ?_
  refine zl_tr (r_iadd d_274_15) (zl_ck ?_)
  refine zl_tr (r_iaload d_274_16 la_147) (zl_ck ?_)
  refine zl_tr (r_ior d_274_17) ?_
  exact r_iret d_274_18 rt_274
