/-! MIRRORS 1 (printed by wip/gen/gen_mirror.py) -/
-- BranTub$Parser.read
set_option maxRecDepth 20000 in
theorem e_74 {h : zm_H} {pf : Nat} (hpf : zf_F pf) {t : Nat} (ht : zf_F t) : zl (zm_ck ((zm_wr h 29 1 (t : Int)) 29 1 = (pf : Int)) (zk_V (zc 60 [zm_A pf] (zm_wr h 29 1 (t : Int))) (fun h1 => zk_V (zc 132 [zm_A 30] (zm_wr (zm_wr h1 29 2 0) 29 3 (-1))) (fun h2 => zr none 93 74 31 [zm_A 29, zm_A t, zm_I 0] [] h2)))) (zc 74 [zm_A 29, zm_A t] h) := by
  rw [zc_eq (loc := [zm_A 29, zm_A t, zm_U]) (rk_74 _) rfl]
  refine zl_tr (r_aload_n d_74_0 rfl) ?_
  refine zl_tr (r_aload_n d_74_1 rfl) ?_
  refine zl_tr (r_putN (kk := 1) d_74_2 ow_74 f_4_24 la_29 (by decide) (zf_b ht) rfl) ?_
  refine zl_tr (r_aload_n d_74_5 rfl) ?_
  refine zl_tr (r_getN (b := pf) (kk := 1) d_74_6 ow_74 f_4_24 la_29 (by decide) (zf_3 hpf) rfl) (zl_ck ?_)
  refine zl_tr (r_VV [zm_A pf] d_74_9 ow_74 cal_4_28 na_60 rfl rfl (Nat.le_of_ble_eq_true rfl) (by rw [rk_60]; decide) (zr_rcv (zf_o hpf) ow_60) (zr_im mx_60 rfl (Nat.le_of_ble_eq_true rfl)) rt_60) (zl_V (fun h1 => ?_))
  refine zl_tr (r_aload_n d_74_12 rfl) ?_
  refine zl_tr (r_iconst d_74_13 (by decide)) ?_
  refine zl_tr (r_putI (kk := 2) d_74_14 ow_74 f_4_33 la_29 (by decide) rfl) ?_
  refine zl_tr (r_aload_n d_74_17 rfl) ?_
  refine zl_tr (r_iconst d_74_18 (by decide)) ?_
  refine zl_tr (r_putI (kk := 3) d_74_19 ow_74 f_4_9 la_29 (by decide) rfl) ?_
  refine zl_tr (r_aload_n d_74_22 rfl) ?_
  refine zl_tr (r_getR d_74_23 ow_74 f_4_20 la_29 (by decide) fr_29_0) ?_
  refine zl_tr (r_VV [zm_A 30] d_74_26 ow_74 cal_4_36 na_132 rfl rfl (Nat.le_of_ble_eq_true rfl) (by rw [rk_132]; decide) (zr_rcv la_30 ow_132) (zr_im mx_132 rfl (Nat.le_of_ble_eq_true rfl)) rt_132) (zl_V (fun h2 => ?_))
  refine zl_tr (r_iconst d_74_29 (by decide)) ?_
  refine zl_tr (r_istore_n (loc' := [zm_A 29, zm_A t, zm_I 0]) d_74_30 (Nat.le_of_ble_eq_true rfl) rfl) ?_
  exact zl_rf
-- BranTub$Parser.read, from 31
set_option maxRecDepth 20000 in
theorem e_74_31 {h : zm_H} {w1 : zm_V} {x2 : Int} {pf : Nat} (hpf : zf_F pf) (hw1 : zm_cat w1 ≠ 2) : zl (if 80 < x2 then (zm_ck (zm_bit 0) (some (zm_I 0, h))) else (if (h 30 3) = 0 then (zm_ck (zm_bit 1) (some (zm_I 1, h))) else (zk_I (zc 75 [zm_A 29] h) (fun v1 h2 => if v1 = 0 then (zm_ck (zm_bit 0) (some (zm_I 0, h2))) else (zm_ck (h2 29 1 = (pf : Int)) (zm_ck (zm_i32 ((h2 pf 0) + 1)) (zm_ck (zm_i32 (x2 + 1)) (zr none 93 74 31 [zm_A 29, w1, zm_I (x2 + 1)] [] (zm_wr h2 pf 0 ((h2 pf 0) + 1)))))))))) (zr none 93 74 31 [zm_A 29, w1, zm_I x2] [] h) := by
  refine zl_tr (r_iload_n d_74_31 rfl) ?_
  refine zl_tr (r_bipush d_74_32 (by decide)) ?_
  refine zl_tr (r_icmp_gt (tgt := 77) d_74_34 (by decide)) (zl_if ?_ ?_)
  · skip
    refine zl_tr (r_iconst d_74_77 (by decide)) ?_
    exact r_zret d_74_78 rt_74
  · skip
    refine zl_tr (r_aload_n d_74_37 rfl) ?_
    refine zl_tr (r_getR d_74_38 ow_74 f_4_20 la_29 (by decide) fr_29_0) ?_
    refine zl_tr (r_getI (kk := 3) d_74_41 ow_74 f_4_39 la_30 (by decide) rfl) ?_
    refine zl_tr (r_if_ne (tgt := 49) d_74_44 (by decide)) (zl_if ?_ ?_)
    · skip
      refine zl_tr (r_iconst d_74_47 (by decide)) ?_
      exact r_zret d_74_48 rt_74
    · skip
      refine zl_tr (r_aload_n d_74_49 rfl) ?_
      refine zl_tr (r_VI [zm_A 29] d_74_50 ow_74 cal_4_42 na_75 rfl rfl (Nat.le_of_ble_eq_true rfl) (by rw [rk_75]; decide) (zr_rcv la_29 ow_75) (zr_im mx_75 rfl (Nat.le_of_ble_eq_true rfl)) (by rw [rt_75]; decide)) (zl_I (fun v1 h2 => ?_))
      refine zl_tr (r_if_ne (tgt := 58) d_74_53 (by decide)) (zl_if ?_ ?_)
      · skip
        refine zl_tr (r_iconst d_74_56 (by decide)) ?_
        exact r_zret d_74_57 rt_74
      · skip
        refine zl_tr (r_aload_n d_74_58 rfl) ?_
        refine zl_tr (r_getN (b := pf) (kk := 1) d_74_59 ow_74 f_4_24 la_29 (by decide) (zf_3 hpf) rfl) (zl_ck ?_)
        refine zl_tr (r_dup d_74_62 rfl) ?_
        refine zl_tr (r_getI (kk := 0) d_74_63 ow_74 f_4_46 (zf_o hpf) (by decide) rfl) ?_
        refine zl_tr (r_iconst d_74_66 (by decide)) ?_
        refine zl_tr (r_iadd d_74_67) (zl_ck ?_)
        refine zl_tr (r_putI (kk := 0) d_74_68 ow_74 f_4_46 (zf_o hpf) (by decide) rfl) ?_
        refine zl_tr (r_iinc (loc' := [zm_A 29, w1, zm_I (x2 + 1)]) d_74_71 rfl (Nat.le_of_ble_eq_true rfl) (zr_k1 rfl hw1 rfl)) (zl_ck ?_)
        refine zl_tr (r_goto (tgt := 31) d_74_74 (by decide)) ?_
        exact zl_rf
-- BranTub$Parser.statement
set_option maxRecDepth 20000 in
theorem e_75 {h : zm_H} {pf : Nat} (hpf : zf_F pf) : zl (zm_ck (h 29 1 = (pf : Int)) (if (h pf 0) = 80 then (zk_I (zc 76 [zm_A 29, zm_I 6, zm_I (h 30 6)] h) (fun v1 h2 => zm_ck (zm_bit v1) (some (zm_I v1, h2)))) else (zk_I (zc 77 [zm_A 29, zm_I (h 30 5)] h) (fun v3 h4 => if v3 = 0 then (zk_I (zc 78 [zm_I (h 30 5)] h4) (fun v5 h6 => if v5 = 0 then (zk_I (zc 79 [zm_A 29] h6) (fun v7 h8 => zm_ck (zm_bit v7) (some (zm_I v7, h8)))) else (zk_V (zc 133 [zm_A 30] h6) (fun h9 => zm_ck (h9 29 1 = (pf : Int)) (if (h 30 5) = 0 then (zk_I (zc 80 [zm_A 29] h9) (fun v10 h11 => if v10 = 0 then (zm_ck (zm_bit 0) (some (zm_I 0, h11))) else (zk_I (zc 94 [zm_A 29, zm_I 59] h11) (fun v12 h13 => if v12 = 0 then (zm_ck (zm_bit 0) (some (zm_I 0, h13))) else (zm_ck (zm_bit 1) (some (zm_I 1, h13))))))) else (if (h 30 5) = 1 then (zm_ck (zm_rk 99 [zm_A 29, zm_I 0] < 92) (zk_I (zc 99 [zm_A 29, zm_I 0] h9) (fun v14 h15 => zm_ck (h15 29 1 = (pf : Int)) (zm_ck ((zm_wr h15 pf 18 (h9 pf 15)) 29 1 = (pf : Int)) (zm_ck ((zm_wr h15 pf 18 (h9 pf 15)) 29 1 = (pf : Int)) (if v14 = 0 then (zm_ck (zm_bit 0) (some (zm_I 0, (zm_wr (zm_wr h15 pf 18 (h9 pf 15)) pf 19 ((zm_wr h15 pf 18 (h9 pf 15)) pf 15))))) else (zk_I (zc 94 [zm_A 29, zm_I 59] (zm_wr (zm_wr h15 pf 18 (h9 pf 15)) pf 19 ((zm_wr h15 pf 18 (h9 pf 15)) pf 15))) (fun v16 h17 => if v16 = 0 then (zm_ck (zm_bit 0) (some (zm_I 0, h17))) else (zm_ck (zm_bit 1) (some (zm_I 1, h17))))))))))) else (if (h 30 5) = 2 then (zm_ck (zm_rk 99 [zm_A 29, zm_I 0] < 92) (zk_I (zc 99 [zm_A 29, zm_I 0] h9) (fun v18 h19 => zm_ck (h19 29 1 = (pf : Int)) (zm_ck ((zm_wr h19 pf 18 (h9 pf 15)) 29 1 = (pf : Int)) (zm_ck ((zm_wr h19 pf 18 (h9 pf 15)) 29 1 = (pf : Int)) (if v18 = 0 then (zm_ck (zm_bit 0) (some (zm_I 0, (zm_wr (zm_wr h19 pf 18 (h9 pf 15)) pf 19 ((zm_wr h19 pf 18 (h9 pf 15)) pf 15))))) else (zk_I (zc 94 [zm_A 29, zm_I 59] (zm_wr (zm_wr h19 pf 18 (h9 pf 15)) pf 19 ((zm_wr h19 pf 18 (h9 pf 15)) pf 15))) (fun v20 h21 => if v20 = 0 then (zm_ck (zm_bit 0) (some (zm_I 0, h21))) else (zm_ck (zm_bit 1) (some (zm_I 1, h21))))))))))) else (if (h 30 5) = 3 then (zk_I (zc 85 [zm_A 29] h9) (fun v22 h23 => if v22 = 0 then (zm_ck (zm_bit 0) (some (zm_I 0, h23))) else (zk_I (zc 94 [zm_A 29, zm_I 59] h23) (fun v24 h25 => if v24 = 0 then (zm_ck (zm_bit 0) (some (zm_I 0, h25))) else (zm_ck (zm_bit 1) (some (zm_I 1, h25))))))) else (if (h 30 5) = 4 then (zk_I (zc 87 [zm_A 29] h9) (fun v26 h27 => if v26 = 0 then (zm_ck (zm_bit 0) (some (zm_I 0, h27))) else (zk_I (zc 94 [zm_A 29, zm_I 59] h27) (fun v28 h29 => if v28 = 0 then (zm_ck (zm_bit 0) (some (zm_I 0, h29))) else (zm_ck (zm_bit 1) (some (zm_I 1, h29))))))) else (if (h 30 5) = 5 then (zm_ck (zm_rk 99 [zm_A 29, zm_I 0] < 92) (zk_I (zc 99 [zm_A 29, zm_I 0] h9) (fun v30 h31 => zm_ck (h31 29 1 = (pf : Int)) (zm_ck ((zm_wr h31 pf 18 (h9 pf 15)) 29 1 = (pf : Int)) (zm_ck ((zm_wr h31 pf 18 (h9 pf 15)) 29 1 = (pf : Int)) (if v30 = 0 then (zm_ck (zm_bit 0) (some (zm_I 0, (zm_wr (zm_wr h31 pf 18 (h9 pf 15)) pf 19 ((zm_wr h31 pf 18 (h9 pf 15)) pf 15))))) else (zk_I (zc 94 [zm_A 29, zm_I 59] (zm_wr (zm_wr h31 pf 18 (h9 pf 15)) pf 19 ((zm_wr h31 pf 18 (h9 pf 15)) pf 15))) (fun v32 h33 => if v32 = 0 then (zm_ck (zm_bit 0) (some (zm_I 0, h33))) else (zm_ck (zm_bit 1) (some (zm_I 1, h33))))))))))) else (if (h 30 5) = 6 then (zm_ck (zm_rk 99 [zm_A 29, zm_I 0] < 92) (zk_I (zc 99 [zm_A 29, zm_I 0] h9) (fun v34 h35 => zm_ck (h35 29 1 = (pf : Int)) (zm_ck ((zm_wr h35 pf 18 (h9 pf 15)) 29 1 = (pf : Int)) (zm_ck ((zm_wr h35 pf 18 (h9 pf 15)) 29 1 = (pf : Int)) (if v34 = 0 then (zm_ck (zm_bit 0) (some (zm_I 0, (zm_wr (zm_wr h35 pf 18 (h9 pf 15)) pf 19 ((zm_wr h35 pf 18 (h9 pf 15)) pf 15))))) else (zk_I (zc 94 [zm_A 29, zm_I 59] (zm_wr (zm_wr h35 pf 18 (h9 pf 15)) pf 19 ((zm_wr h35 pf 18 (h9 pf 15)) pf 15))) (fun v36 h37 => if v36 = 0 then (zm_ck (zm_bit 0) (some (zm_I 0, h37))) else (zm_ck (zm_bit 1) (some (zm_I 1, h37))))))))))) else (if (h 30 5) = 7 then (zm_ck (zm_rk 99 [zm_A 29, zm_I 0] < 92) (zk_I (zc 99 [zm_A 29, zm_I 0] h9) (fun v38 h39 => zm_ck (h39 29 1 = (pf : Int)) (zm_ck ((zm_wr h39 pf 18 (h9 pf 15)) 29 1 = (pf : Int)) (zm_ck ((zm_wr h39 pf 18 (h9 pf 15)) 29 1 = (pf : Int)) (if v38 = 0 then (zm_ck (zm_bit 0) (some (zm_I 0, (zm_wr (zm_wr h39 pf 18 (h9 pf 15)) pf 19 ((zm_wr h39 pf 18 (h9 pf 15)) pf 15))))) else (zk_I (zc 94 [zm_A 29, zm_I 59] (zm_wr (zm_wr h39 pf 18 (h9 pf 15)) pf 19 ((zm_wr h39 pf 18 (h9 pf 15)) pf 15))) (fun v40 h41 => if v40 = 0 then (zm_ck (zm_bit 0) (some (zm_I 0, h41))) else (zm_ck (zm_bit 1) (some (zm_I 1, h41))))))))))) else (if (h 30 5) = 8 then (zm_ck (zm_rk 99 [zm_A 29, zm_I 0] < 92) (zk_I (zc 99 [zm_A 29, zm_I 0] h9) (fun v42 h43 => zm_ck (h43 29 1 = (pf : Int)) (zm_ck ((zm_wr h43 pf 18 (h9 pf 15)) 29 1 = (pf : Int)) (zm_ck ((zm_wr h43 pf 18 (h9 pf 15)) 29 1 = (pf : Int)) (if v42 = 0 then (zm_ck (zm_bit 0) (some (zm_I 0, (zm_wr (zm_wr h43 pf 18 (h9 pf 15)) pf 19 ((zm_wr h43 pf 18 (h9 pf 15)) pf 15))))) else (zk_I (zc 94 [zm_A 29, zm_I 59] (zm_wr (zm_wr h43 pf 18 (h9 pf 15)) pf 19 ((zm_wr h43 pf 18 (h9 pf 15)) pf 15))) (fun v44 h45 => if v44 = 0 then (zm_ck (zm_bit 0) (some (zm_I 0, h45))) else (zm_ck (zm_bit 1) (some (zm_I 1, h45))))))))))) else (if (h 30 5) = 9 then (zm_ck (zm_rk 99 [zm_A 29, zm_I 0] < 92) (zk_I (zc 99 [zm_A 29, zm_I 0] h9) (fun v46 h47 => zm_ck (h47 29 1 = (pf : Int)) (zm_ck ((zm_wr h47 pf 18 (h9 pf 15)) 29 1 = (pf : Int)) (zm_ck ((zm_wr h47 pf 18 (h9 pf 15)) 29 1 = (pf : Int)) (if v46 = 0 then (zm_ck (zm_bit 0) (some (zm_I 0, (zm_wr (zm_wr h47 pf 18 (h9 pf 15)) pf 19 ((zm_wr h47 pf 18 (h9 pf 15)) pf 15))))) else (zk_I (zc 94 [zm_A 29, zm_I 59] (zm_wr (zm_wr h47 pf 18 (h9 pf 15)) pf 19 ((zm_wr h47 pf 18 (h9 pf 15)) pf 15))) (fun v48 h49 => if v48 = 0 then (zm_ck (zm_bit 0) (some (zm_I 0, h49))) else (zm_ck (zm_bit 1) (some (zm_I 1, h49))))))))))) else (if (h 30 5) = 10 then (zm_ck (zm_rk 99 [zm_A 29, zm_I 0] < 92) (zk_I (zc 99 [zm_A 29, zm_I 0] h9) (fun v50 h51 => zm_ck (h51 29 1 = (pf : Int)) (zm_ck ((zm_wr h51 pf 18 (h9 pf 15)) 29 1 = (pf : Int)) (zm_ck ((zm_wr h51 pf 18 (h9 pf 15)) 29 1 = (pf : Int)) (if v50 = 0 then (zm_ck (zm_bit 0) (some (zm_I 0, (zm_wr (zm_wr h51 pf 18 (h9 pf 15)) pf 19 ((zm_wr h51 pf 18 (h9 pf 15)) pf 15))))) else (zk_I (zc 94 [zm_A 29, zm_I 59] (zm_wr (zm_wr h51 pf 18 (h9 pf 15)) pf 19 ((zm_wr h51 pf 18 (h9 pf 15)) pf 15))) (fun v52 h53 => if v52 = 0 then (zm_ck (zm_bit 0) (some (zm_I 0, h53))) else (zm_ck (zm_bit 1) (some (zm_I 1, h53))))))))))) else (if (h 30 5) = 11 then (zk_I (zc 88 [zm_A 29] h9) (fun v54 h55 => if v54 = 0 then (zm_ck (zm_bit 0) (some (zm_I 0, h55))) else (zk_I (zc 94 [zm_A 29, zm_I 59] h55) (fun v56 h57 => if v56 = 0 then (zm_ck (zm_bit 0) (some (zm_I 0, h57))) else (zm_ck (zm_bit 1) (some (zm_I 1, h57))))))) else (if (h 30 5) = 12 then (zm_ck (zm_rk 90 [zm_A 29, zm_I 0] < 92) (zk_I (zc 90 [zm_A 29, zm_I 0] h9) (fun v58 h59 => zm_ck (h59 29 1 = (pf : Int)) (zm_ck ((zm_wr h59 pf 16 (h9 pf 15)) 29 1 = (pf : Int)) (zm_ck ((zm_wr h59 pf 16 (h9 pf 15)) 29 1 = (pf : Int)) (if v58 = 0 then (zm_ck (zm_bit 0) (some (zm_I 0, (zm_wr (zm_wr h59 pf 16 (h9 pf 15)) pf 17 ((zm_wr h59 pf 16 (h9 pf 15)) pf 15))))) else (zk_I (zc 94 [zm_A 29, zm_I 59] (zm_wr (zm_wr h59 pf 16 (h9 pf 15)) pf 17 ((zm_wr h59 pf 16 (h9 pf 15)) pf 15))) (fun v60 h61 => if v60 = 0 then (zm_ck (zm_bit 0) (some (zm_I 0, h61))) else (zm_ck (zm_bit 1) (some (zm_I 1, h61))))))))))) else (if (h 30 5) = 13 then (zm_ck (zm_rk 99 [zm_A 29, zm_I 0] < 92) (zk_I (zc 99 [zm_A 29, zm_I 0] h9) (fun v62 h63 => zm_ck (h63 29 1 = (pf : Int)) (zm_ck ((zm_wr h63 pf 18 (h9 pf 15)) 29 1 = (pf : Int)) (zm_ck ((zm_wr h63 pf 18 (h9 pf 15)) 29 1 = (pf : Int)) (if v62 = 0 then (zm_ck (zm_bit 0) (some (zm_I 0, (zm_wr (zm_wr h63 pf 18 (h9 pf 15)) pf 19 ((zm_wr h63 pf 18 (h9 pf 15)) pf 15))))) else (zk_I (zc 94 [zm_A 29, zm_I 59] (zm_wr (zm_wr h63 pf 18 (h9 pf 15)) pf 19 ((zm_wr h63 pf 18 (h9 pf 15)) pf 15))) (fun v64 h65 => if v64 = 0 then (zm_ck (zm_bit 0) (some (zm_I 0, h65))) else (zm_ck (zm_bit 1) (some (zm_I 1, h65))))))))))) else (if (h 30 5) = 14 then (zk_I (zc 89 [zm_A 29] h9) (fun v66 h67 => if v66 = 0 then (zm_ck (zm_bit 0) (some (zm_I 0, h67))) else (zk_I (zc 94 [zm_A 29, zm_I 59] h67) (fun v68 h69 => if v68 = 0 then (zm_ck (zm_bit 0) (some (zm_I 0, h69))) else (zm_ck (zm_bit 1) (some (zm_I 1, h69))))))) else (zm_ck (zm_rk 99 [zm_A 29, zm_I 0] < 92) (zk_I (zc 99 [zm_A 29, zm_I 0] h9) (fun v70 h71 => zm_ck (h71 29 1 = (pf : Int)) (zm_ck ((zm_wr h71 pf 18 (h9 pf 15)) 29 1 = (pf : Int)) (zm_ck ((zm_wr h71 pf 18 (h9 pf 15)) 29 1 = (pf : Int)) (if v70 = 0 then (zm_ck (zm_bit 0) (some (zm_I 0, (zm_wr (zm_wr h71 pf 18 (h9 pf 15)) pf 19 ((zm_wr h71 pf 18 (h9 pf 15)) pf 15))))) else (zk_I (zc 94 [zm_A 29, zm_I 59] (zm_wr (zm_wr h71 pf 18 (h9 pf 15)) pf 19 ((zm_wr h71 pf 18 (h9 pf 15)) pf 15))) (fun v72 h73 => if v72 = 0 then (zm_ck (zm_bit 0) (some (zm_I 0, h73))) else (zm_ck (zm_bit 1) (some (zm_I 1, h73)))))))))))))))))))))))))))))) else (zk_I (zc 76 [zm_A 29, zm_I 6, zm_I (h4 30 6)] h4) (fun v74 h75 => zm_ck (zm_bit v74) (some (zm_I v74, h75)))))))) (zc 75 [zm_A 29] h) := by
  rw [zc_eq (loc := [zm_A 29, zm_U, zm_U, zm_U]) (rk_75 _) rfl]
  refine zl_tr (r_aload_n d_75_0 rfl) ?_
  refine zl_tr (r_getN (b := pf) (kk := 1) d_75_1 ow_75 f_4_24 la_29 (by decide) (zf_3 hpf) rfl) (zl_ck ?_)
  refine zl_tr (r_getI (kk := 0) d_75_4 ow_75 f_4_46 (zf_o hpf) (by decide) rfl) ?_
  refine zl_tr (r_bipush d_75_7 (by decide)) ?_
  refine zl_tr (r_icmp_ne (tgt := 26) d_75_9 (by decide)) (zl_if ?_ ?_)
  · skip
    refine zl_tr (r_aload_n d_75_12 rfl) ?_
    refine zl_tr (r_bipush d_75_13 (by decide)) ?_
    refine zl_tr (r_aload_n d_75_15 rfl) ?_
    refine zl_tr (r_getR d_75_16 ow_75 f_4_20 la_29 (by decide) fr_29_0) ?_
    refine zl_tr (r_getI (kk := 6) d_75_19 ow_75 f_4_56 la_30 (by decide) rfl) ?_
    refine zl_tr (r_VI [zm_A 29, zm_I 6, zm_I (h 30 6)] d_75_22 ow_75 cal_4_52 na_76 rfl rfl (Nat.le_of_ble_eq_true rfl) (by rw [rk_76]; decide) (zr_rcv la_29 ow_76) (zr_im mx_76 rfl (Nat.le_of_ble_eq_true rfl)) (by rw [rt_76]; decide)) (zl_I (fun v1 h2 => ?_))
    exact r_zret d_75_25 rt_75
  · skip
    refine zl_tr (r_aload_n d_75_26 rfl) ?_
    refine zl_tr (r_getR d_75_27 ow_75 f_4_20 la_29 (by decide) fr_29_0) ?_
    refine zl_tr (r_getI (kk := 5) d_75_30 ow_75 f_4_59 la_30 (by decide) rfl) ?_
    refine zl_tr (r_istore_n (loc' := [zm_A 29, zm_I (h 30 5), zm_U, zm_U]) d_75_33 (Nat.le_of_ble_eq_true rfl) rfl) ?_
    refine zl_tr (r_aload_n d_75_34 rfl) ?_
    refine zl_tr (r_iload_n d_75_35 rfl) ?_
    refine zl_tr (r_VI [zm_A 29, zm_I (h 30 5)] d_75_36 ow_75 cal_4_62 na_77 rfl rfl (Nat.le_of_ble_eq_true rfl) (by rw [rk_77]; decide) (zr_rcv la_29 ow_77) (zr_im mx_77 rfl (Nat.le_of_ble_eq_true rfl)) (by rw [rt_77]; decide)) (zl_I (fun v3 h4 => ?_))
    refine zl_tr (r_if_eq (tgt := 56) d_75_39 (by decide)) (zl_if ?_ ?_)
    · skip
      refine zl_tr (r_iload_n d_75_56 rfl) ?_
      refine zl_tr (r_SI [zm_I (h 30 5)] d_75_57 ow_75 cal_4_66 (by decide) na_78 rfl rfl (Nat.le_of_ble_eq_true rfl) (by rw [rk_78]; decide) (zr_im mx_78 rfl (Nat.le_of_ble_eq_true rfl)) (by rw [rt_78]; decide)) (zl_I (fun v5 h6 => ?_))
      refine zl_tr (r_if_ne (tgt := 68) d_75_60 (by decide)) (zl_if ?_ ?_)
      · skip
        refine zl_tr (r_aload_n d_75_63 rfl) ?_
        refine zl_tr (r_VI [zm_A 29] d_75_64 ow_75 cal_4_69 na_79 rfl rfl (Nat.le_of_ble_eq_true rfl) (by rw [rk_79]; decide) (zr_rcv la_29 ow_79) (zr_im mx_79 rfl (Nat.le_of_ble_eq_true rfl)) (by rw [rt_79]; decide)) (zl_I (fun v7 h8 => ?_))
        exact r_zret d_75_67 rt_75
      · skip
        refine zl_tr (r_aload_n d_75_68 rfl) ?_
        refine zl_tr (r_getR d_75_69 ow_75 f_4_20 la_29 (by decide) fr_29_0) ?_
        refine zl_tr (r_VV [zm_A 30] d_75_72 ow_75 cal_4_72 na_133 rfl rfl (Nat.le_of_ble_eq_true rfl) (by rw [rk_133]; decide) (zr_rcv la_30 ow_133) (zr_im mx_133 rfl (Nat.le_of_ble_eq_true rfl)) rt_133) (zl_V (fun h9 => ?_))
        refine zl_tr (r_aload_n d_75_75 rfl) ?_
        refine zl_tr (r_getN (b := pf) (kk := 1) d_75_76 ow_75 f_4_24 la_29 (by decide) (zf_3 hpf) rfl) (zl_ck ?_)
        refine zl_tr (r_getI (kk := 15) d_75_79 ow_75 f_4_75 (zf_o hpf) (by decide) rfl) ?_
        refine zl_tr (r_istore_n (loc' := [zm_A 29, zm_I (h 30 5), zm_I (h9 pf 15), zm_U]) d_75_82 (Nat.le_of_ble_eq_true rfl) rfl) ?_
        refine zl_tr (r_iload_n d_75_83 rfl) ?_
        refine zl_eq 0 (fun hx => ?_) (fun hx0 => ?_)
        · refine zl_tr (r_tsw (tgt := 160) d_75_84 (by rw [hx]; decide) (by decide)) ?_
          refine zl_tr (r_aload_n d_75_160 rfl) ?_
          refine zl_tr (r_VI [zm_A 29] d_75_161 ow_75 cal_4_78 na_80 rfl rfl (Nat.le_of_ble_eq_true rfl) (by rw [rk_80]; decide) (zr_rcv la_29 ow_80) (zr_im mx_80 rfl (Nat.le_of_ble_eq_true rfl)) (by rw [rt_80]; decide)) (zl_I (fun v10 h11 => ?_))
          refine zl_tr (r_istore_n (loc' := [zm_A 29, zm_I (h 30 5), zm_I (h9 pf 15), zm_I v10]) d_75_164 (Nat.le_of_ble_eq_true rfl) rfl) ?_
          refine zl_tr (r_goto (tgt := 259) d_75_165 (by decide)) ?_
          refine zl_tr (r_iload_n d_75_259 rfl) ?_
          refine zl_tr (r_if_eq (tgt := 276) d_75_260 (by decide)) (zl_if ?_ ?_)
          · skip
            refine zl_tr (r_iconst d_75_276 (by decide)) ?_
            exact r_zret d_75_277 rt_75
          · skip
            refine zl_tr (r_aload_n d_75_263 rfl) ?_
            refine zl_tr (r_bipush d_75_264 (by decide)) ?_
            refine zl_tr (r_VI [zm_A 29, zm_I 59] d_75_266 ow_75 cal_4_111 na_94 rfl rfl (Nat.le_of_ble_eq_true rfl) (by rw [rk_94]; decide) (zr_rcv la_29 ow_94) (zr_im mx_94 rfl (Nat.le_of_ble_eq_true rfl)) (by rw [rt_94]; decide)) (zl_I (fun v12 h13 => ?_))
            refine zl_tr (r_if_eq (tgt := 276) d_75_269 (by decide)) (zl_if ?_ ?_)
            · skip
              refine zl_tr (r_iconst d_75_276 (by decide)) ?_
              exact r_zret d_75_277 rt_75
            · skip
              refine zl_tr (r_iconst d_75_272 (by decide)) ?_
              refine zl_tr (r_goto (tgt := 277) d_75_273 (by decide)) ?_
              exact r_zret d_75_277 rt_75
        refine zl_eq 1 (fun hx => ?_) (fun hx1 => ?_)
        · refine zl_tr (r_tsw (tgt := 231) d_75_84 (by rw [hx]; decide) (by decide)) ?_
          refine zl_tr (r_aload_n d_75_231 rfl) ?_
          refine zl_tr (r_iconst d_75_232 (by decide)) ?_
          refine zl_ckh (p := zm_rk 99 [zm_A 29, zm_I 0] < 92) (fun hrk => ?_)
          refine zl_tr (r_VI [zm_A 29, zm_I 0] d_75_233 ow_75 cal_4_102 na_99 rfl rfl (Nat.le_of_ble_eq_true rfl) hrk (zr_rcv la_29 ow_99) (zr_im mx_99 rfl (Nat.le_of_ble_eq_true rfl)) (by rw [rt_99]; decide)) (zl_I (fun v14 h15 => ?_))
          refine zl_tr (r_istore_n (loc' := [zm_A 29, zm_I (h 30 5), zm_I (h9 pf 15), zm_I v14]) d_75_236 (Nat.le_of_ble_eq_true rfl) rfl) ?_
          refine zl_tr (r_aload_n d_75_237 rfl) ?_
          refine zl_tr (r_getN (b := pf) (kk := 1) d_75_238 ow_75 f_4_24 la_29 (by decide) (zf_3 hpf) rfl) (zl_ck ?_)
          refine zl_tr (r_iload_n d_75_241 rfl) ?_
          refine zl_tr (r_putI (kk := 18) d_75_242 ow_75 f_4_105 (zf_o hpf) (by decide) rfl) ?_
          refine zl_tr (r_aload_n d_75_245 rfl) ?_
          refine zl_tr (r_getN (b := pf) (kk := 1) d_75_246 ow_75 f_4_24 la_29 (by decide) (zf_3 hpf) rfl) (zl_ck ?_)
          refine zl_tr (r_aload_n d_75_249 rfl) ?_
          refine zl_tr (r_getN (b := pf) (kk := 1) d_75_250 ow_75 f_4_24 la_29 (by decide) (zf_3 hpf) rfl) (zl_ck ?_)
          refine zl_tr (r_getI (kk := 15) d_75_253 ow_75 f_4_75 (zf_o hpf) (by decide) rfl) ?_
          refine zl_tr (r_putI (kk := 19) d_75_256 ow_75 f_4_108 (zf_o hpf) (by decide) rfl) ?_
          refine zl_tr (r_iload_n d_75_259 rfl) ?_
          refine zl_tr (r_if_eq (tgt := 276) d_75_260 (by decide)) (zl_if ?_ ?_)
          · skip
            refine zl_tr (r_iconst d_75_276 (by decide)) ?_
            exact r_zret d_75_277 rt_75
          · skip
            refine zl_tr (r_aload_n d_75_263 rfl) ?_
            refine zl_tr (r_bipush d_75_264 (by decide)) ?_
            refine zl_tr (r_VI [zm_A 29, zm_I 59] d_75_266 ow_75 cal_4_111 na_94 rfl rfl (Nat.le_of_ble_eq_true rfl) (by rw [rk_94]; decide) (zr_rcv la_29 ow_94) (zr_im mx_94 rfl (Nat.le_of_ble_eq_true rfl)) (by rw [rt_94]; decide)) (zl_I (fun v16 h17 => ?_))
            refine zl_tr (r_if_eq (tgt := 276) d_75_269 (by decide)) (zl_if ?_ ?_)
            · skip
              refine zl_tr (r_iconst d_75_276 (by decide)) ?_
              exact r_zret d_75_277 rt_75
            · skip
              refine zl_tr (r_iconst d_75_272 (by decide)) ?_
              refine zl_tr (r_goto (tgt := 277) d_75_273 (by decide)) ?_
              exact r_zret d_75_277 rt_75
        refine zl_eq 2 (fun hx => ?_) (fun hx2 => ?_)
        · refine zl_tr (r_tsw (tgt := 231) d_75_84 (by rw [hx]; decide) (by decide)) ?_
          refine zl_tr (r_aload_n d_75_231 rfl) ?_
          refine zl_tr (r_iconst d_75_232 (by decide)) ?_
          refine zl_ckh (p := zm_rk 99 [zm_A 29, zm_I 0] < 92) (fun hrk => ?_)
          refine zl_tr (r_VI [zm_A 29, zm_I 0] d_75_233 ow_75 cal_4_102 na_99 rfl rfl (Nat.le_of_ble_eq_true rfl) hrk (zr_rcv la_29 ow_99) (zr_im mx_99 rfl (Nat.le_of_ble_eq_true rfl)) (by rw [rt_99]; decide)) (zl_I (fun v18 h19 => ?_))
          refine zl_tr (r_istore_n (loc' := [zm_A 29, zm_I (h 30 5), zm_I (h9 pf 15), zm_I v18]) d_75_236 (Nat.le_of_ble_eq_true rfl) rfl) ?_
          refine zl_tr (r_aload_n d_75_237 rfl) ?_
          refine zl_tr (r_getN (b := pf) (kk := 1) d_75_238 ow_75 f_4_24 la_29 (by decide) (zf_3 hpf) rfl) (zl_ck ?_)
          refine zl_tr (r_iload_n d_75_241 rfl) ?_
          refine zl_tr (r_putI (kk := 18) d_75_242 ow_75 f_4_105 (zf_o hpf) (by decide) rfl) ?_
          refine zl_tr (r_aload_n d_75_245 rfl) ?_
          refine zl_tr (r_getN (b := pf) (kk := 1) d_75_246 ow_75 f_4_24 la_29 (by decide) (zf_3 hpf) rfl) (zl_ck ?_)
          refine zl_tr (r_aload_n d_75_249 rfl) ?_
          refine zl_tr (r_getN (b := pf) (kk := 1) d_75_250 ow_75 f_4_24 la_29 (by decide) (zf_3 hpf) rfl) (zl_ck ?_)
          refine zl_tr (r_getI (kk := 15) d_75_253 ow_75 f_4_75 (zf_o hpf) (by decide) rfl) ?_
          refine zl_tr (r_putI (kk := 19) d_75_256 ow_75 f_4_108 (zf_o hpf) (by decide) rfl) ?_
          refine zl_tr (r_iload_n d_75_259 rfl) ?_
          refine zl_tr (r_if_eq (tgt := 276) d_75_260 (by decide)) (zl_if ?_ ?_)
          · skip
            refine zl_tr (r_iconst d_75_276 (by decide)) ?_
            exact r_zret d_75_277 rt_75
          · skip
            refine zl_tr (r_aload_n d_75_263 rfl) ?_
            refine zl_tr (r_bipush d_75_264 (by decide)) ?_
            refine zl_tr (r_VI [zm_A 29, zm_I 59] d_75_266 ow_75 cal_4_111 na_94 rfl rfl (Nat.le_of_ble_eq_true rfl) (by rw [rk_94]; decide) (zr_rcv la_29 ow_94) (zr_im mx_94 rfl (Nat.le_of_ble_eq_true rfl)) (by rw [rt_94]; decide)) (zl_I (fun v20 h21 => ?_))
            refine zl_tr (r_if_eq (tgt := 276) d_75_269 (by decide)) (zl_if ?_ ?_)
            · skip
              refine zl_tr (r_iconst d_75_276 (by decide)) ?_
              exact r_zret d_75_277 rt_75
            · skip
              refine zl_tr (r_iconst d_75_272 (by decide)) ?_
              refine zl_tr (r_goto (tgt := 277) d_75_273 (by decide)) ?_
              exact r_zret d_75_277 rt_75
        refine zl_eq 3 (fun hx => ?_) (fun hx3 => ?_)
        · refine zl_tr (r_tsw (tgt := 168) d_75_84 (by rw [hx]; decide) (by decide)) ?_
          refine zl_tr (r_aload_n d_75_168 rfl) ?_
          refine zl_tr (r_VI [zm_A 29] d_75_169 ow_75 cal_4_81 na_85 rfl rfl (Nat.le_of_ble_eq_true rfl) (by rw [rk_85]; decide) (zr_rcv la_29 ow_85) (zr_im mx_85 rfl (Nat.le_of_ble_eq_true rfl)) (by rw [rt_85]; decide)) (zl_I (fun v22 h23 => ?_))
          refine zl_tr (r_istore_n (loc' := [zm_A 29, zm_I (h 30 5), zm_I (h9 pf 15), zm_I v22]) d_75_172 (Nat.le_of_ble_eq_true rfl) rfl) ?_
          refine zl_tr (r_goto (tgt := 259) d_75_173 (by decide)) ?_
          refine zl_tr (r_iload_n d_75_259 rfl) ?_
          refine zl_tr (r_if_eq (tgt := 276) d_75_260 (by decide)) (zl_if ?_ ?_)
          · skip
            refine zl_tr (r_iconst d_75_276 (by decide)) ?_
            exact r_zret d_75_277 rt_75
          · skip
            refine zl_tr (r_aload_n d_75_263 rfl) ?_
            refine zl_tr (r_bipush d_75_264 (by decide)) ?_
            refine zl_tr (r_VI [zm_A 29, zm_I 59] d_75_266 ow_75 cal_4_111 na_94 rfl rfl (Nat.le_of_ble_eq_true rfl) (by rw [rk_94]; decide) (zr_rcv la_29 ow_94) (zr_im mx_94 rfl (Nat.le_of_ble_eq_true rfl)) (by rw [rt_94]; decide)) (zl_I (fun v24 h25 => ?_))
            refine zl_tr (r_if_eq (tgt := 276) d_75_269 (by decide)) (zl_if ?_ ?_)
            · skip
              refine zl_tr (r_iconst d_75_276 (by decide)) ?_
              exact r_zret d_75_277 rt_75
            · skip
              refine zl_tr (r_iconst d_75_272 (by decide)) ?_
              refine zl_tr (r_goto (tgt := 277) d_75_273 (by decide)) ?_
              exact r_zret d_75_277 rt_75
        refine zl_eq 4 (fun hx => ?_) (fun hx4 => ?_)
        · refine zl_tr (r_tsw (tgt := 176) d_75_84 (by rw [hx]; decide) (by decide)) ?_
          refine zl_tr (r_aload_n d_75_176 rfl) ?_
          refine zl_tr (r_VI [zm_A 29] d_75_177 ow_75 cal_4_84 na_87 rfl rfl (Nat.le_of_ble_eq_true rfl) (by rw [rk_87]; decide) (zr_rcv la_29 ow_87) (zr_im mx_87 rfl (Nat.le_of_ble_eq_true rfl)) (by rw [rt_87]; decide)) (zl_I (fun v26 h27 => ?_))
          refine zl_tr (r_istore_n (loc' := [zm_A 29, zm_I (h 30 5), zm_I (h9 pf 15), zm_I v26]) d_75_180 (Nat.le_of_ble_eq_true rfl) rfl) ?_
          refine zl_tr (r_goto (tgt := 259) d_75_181 (by decide)) ?_
          refine zl_tr (r_iload_n d_75_259 rfl) ?_
          refine zl_tr (r_if_eq (tgt := 276) d_75_260 (by decide)) (zl_if ?_ ?_)
          · skip
            refine zl_tr (r_iconst d_75_276 (by decide)) ?_
            exact r_zret d_75_277 rt_75
          · skip
            refine zl_tr (r_aload_n d_75_263 rfl) ?_
            refine zl_tr (r_bipush d_75_264 (by decide)) ?_
            refine zl_tr (r_VI [zm_A 29, zm_I 59] d_75_266 ow_75 cal_4_111 na_94 rfl rfl (Nat.le_of_ble_eq_true rfl) (by rw [rk_94]; decide) (zr_rcv la_29 ow_94) (zr_im mx_94 rfl (Nat.le_of_ble_eq_true rfl)) (by rw [rt_94]; decide)) (zl_I (fun v28 h29 => ?_))
            refine zl_tr (r_if_eq (tgt := 276) d_75_269 (by decide)) (zl_if ?_ ?_)
            · skip
              refine zl_tr (r_iconst d_75_276 (by decide)) ?_
              exact r_zret d_75_277 rt_75
            · skip
              refine zl_tr (r_iconst d_75_272 (by decide)) ?_
              refine zl_tr (r_goto (tgt := 277) d_75_273 (by decide)) ?_
              exact r_zret d_75_277 rt_75
        refine zl_eq 5 (fun hx => ?_) (fun hx5 => ?_)
        · refine zl_tr (r_tsw (tgt := 231) d_75_84 (by rw [hx]; decide) (by decide)) ?_
          refine zl_tr (r_aload_n d_75_231 rfl) ?_
          refine zl_tr (r_iconst d_75_232 (by decide)) ?_
          refine zl_ckh (p := zm_rk 99 [zm_A 29, zm_I 0] < 92) (fun hrk => ?_)
          refine zl_tr (r_VI [zm_A 29, zm_I 0] d_75_233 ow_75 cal_4_102 na_99 rfl rfl (Nat.le_of_ble_eq_true rfl) hrk (zr_rcv la_29 ow_99) (zr_im mx_99 rfl (Nat.le_of_ble_eq_true rfl)) (by rw [rt_99]; decide)) (zl_I (fun v30 h31 => ?_))
          refine zl_tr (r_istore_n (loc' := [zm_A 29, zm_I (h 30 5), zm_I (h9 pf 15), zm_I v30]) d_75_236 (Nat.le_of_ble_eq_true rfl) rfl) ?_
          refine zl_tr (r_aload_n d_75_237 rfl) ?_
          refine zl_tr (r_getN (b := pf) (kk := 1) d_75_238 ow_75 f_4_24 la_29 (by decide) (zf_3 hpf) rfl) (zl_ck ?_)
          refine zl_tr (r_iload_n d_75_241 rfl) ?_
          refine zl_tr (r_putI (kk := 18) d_75_242 ow_75 f_4_105 (zf_o hpf) (by decide) rfl) ?_
          refine zl_tr (r_aload_n d_75_245 rfl) ?_
          refine zl_tr (r_getN (b := pf) (kk := 1) d_75_246 ow_75 f_4_24 la_29 (by decide) (zf_3 hpf) rfl) (zl_ck ?_)
          refine zl_tr (r_aload_n d_75_249 rfl) ?_
          refine zl_tr (r_getN (b := pf) (kk := 1) d_75_250 ow_75 f_4_24 la_29 (by decide) (zf_3 hpf) rfl) (zl_ck ?_)
          refine zl_tr (r_getI (kk := 15) d_75_253 ow_75 f_4_75 (zf_o hpf) (by decide) rfl) ?_
          refine zl_tr (r_putI (kk := 19) d_75_256 ow_75 f_4_108 (zf_o hpf) (by decide) rfl) ?_
          refine zl_tr (r_iload_n d_75_259 rfl) ?_
          refine zl_tr (r_if_eq (tgt := 276) d_75_260 (by decide)) (zl_if ?_ ?_)
          · skip
            refine zl_tr (r_iconst d_75_276 (by decide)) ?_
            exact r_zret d_75_277 rt_75
          · skip
            refine zl_tr (r_aload_n d_75_263 rfl) ?_
            refine zl_tr (r_bipush d_75_264 (by decide)) ?_
            refine zl_tr (r_VI [zm_A 29, zm_I 59] d_75_266 ow_75 cal_4_111 na_94 rfl rfl (Nat.le_of_ble_eq_true rfl) (by rw [rk_94]; decide) (zr_rcv la_29 ow_94) (zr_im mx_94 rfl (Nat.le_of_ble_eq_true rfl)) (by rw [rt_94]; decide)) (zl_I (fun v32 h33 => ?_))
            refine zl_tr (r_if_eq (tgt := 276) d_75_269 (by decide)) (zl_if ?_ ?_)
            · skip
              refine zl_tr (r_iconst d_75_276 (by decide)) ?_
              exact r_zret d_75_277 rt_75
            · skip
              refine zl_tr (r_iconst d_75_272 (by decide)) ?_
              refine zl_tr (r_goto (tgt := 277) d_75_273 (by decide)) ?_
              exact r_zret d_75_277 rt_75
        refine zl_eq 6 (fun hx => ?_) (fun hx6 => ?_)
        · refine zl_tr (r_tsw (tgt := 231) d_75_84 (by rw [hx]; decide) (by decide)) ?_
          refine zl_tr (r_aload_n d_75_231 rfl) ?_
          refine zl_tr (r_iconst d_75_232 (by decide)) ?_
          refine zl_ckh (p := zm_rk 99 [zm_A 29, zm_I 0] < 92) (fun hrk => ?_)
          refine zl_tr (r_VI [zm_A 29, zm_I 0] d_75_233 ow_75 cal_4_102 na_99 rfl rfl (Nat.le_of_ble_eq_true rfl) hrk (zr_rcv la_29 ow_99) (zr_im mx_99 rfl (Nat.le_of_ble_eq_true rfl)) (by rw [rt_99]; decide)) (zl_I (fun v34 h35 => ?_))
          refine zl_tr (r_istore_n (loc' := [zm_A 29, zm_I (h 30 5), zm_I (h9 pf 15), zm_I v34]) d_75_236 (Nat.le_of_ble_eq_true rfl) rfl) ?_
          refine zl_tr (r_aload_n d_75_237 rfl) ?_
          refine zl_tr (r_getN (b := pf) (kk := 1) d_75_238 ow_75 f_4_24 la_29 (by decide) (zf_3 hpf) rfl) (zl_ck ?_)
          refine zl_tr (r_iload_n d_75_241 rfl) ?_
          refine zl_tr (r_putI (kk := 18) d_75_242 ow_75 f_4_105 (zf_o hpf) (by decide) rfl) ?_
          refine zl_tr (r_aload_n d_75_245 rfl) ?_
          refine zl_tr (r_getN (b := pf) (kk := 1) d_75_246 ow_75 f_4_24 la_29 (by decide) (zf_3 hpf) rfl) (zl_ck ?_)
          refine zl_tr (r_aload_n d_75_249 rfl) ?_
          refine zl_tr (r_getN (b := pf) (kk := 1) d_75_250 ow_75 f_4_24 la_29 (by decide) (zf_3 hpf) rfl) (zl_ck ?_)
          refine zl_tr (r_getI (kk := 15) d_75_253 ow_75 f_4_75 (zf_o hpf) (by decide) rfl) ?_
          refine zl_tr (r_putI (kk := 19) d_75_256 ow_75 f_4_108 (zf_o hpf) (by decide) rfl) ?_
          refine zl_tr (r_iload_n d_75_259 rfl) ?_
          refine zl_tr (r_if_eq (tgt := 276) d_75_260 (by decide)) (zl_if ?_ ?_)
          · skip
            refine zl_tr (r_iconst d_75_276 (by decide)) ?_
            exact r_zret d_75_277 rt_75
          · skip
            refine zl_tr (r_aload_n d_75_263 rfl) ?_
            refine zl_tr (r_bipush d_75_264 (by decide)) ?_
            refine zl_tr (r_VI [zm_A 29, zm_I 59] d_75_266 ow_75 cal_4_111 na_94 rfl rfl (Nat.le_of_ble_eq_true rfl) (by rw [rk_94]; decide) (zr_rcv la_29 ow_94) (zr_im mx_94 rfl (Nat.le_of_ble_eq_true rfl)) (by rw [rt_94]; decide)) (zl_I (fun v36 h37 => ?_))
            refine zl_tr (r_if_eq (tgt := 276) d_75_269 (by decide)) (zl_if ?_ ?_)
            · skip
              refine zl_tr (r_iconst d_75_276 (by decide)) ?_
              exact r_zret d_75_277 rt_75
            · skip
              refine zl_tr (r_iconst d_75_272 (by decide)) ?_
              refine zl_tr (r_goto (tgt := 277) d_75_273 (by decide)) ?_
              exact r_zret d_75_277 rt_75
        refine zl_eq 7 (fun hx => ?_) (fun hx7 => ?_)
        · refine zl_tr (r_tsw (tgt := 231) d_75_84 (by rw [hx]; decide) (by decide)) ?_
          refine zl_tr (r_aload_n d_75_231 rfl) ?_
          refine zl_tr (r_iconst d_75_232 (by decide)) ?_
          refine zl_ckh (p := zm_rk 99 [zm_A 29, zm_I 0] < 92) (fun hrk => ?_)
          refine zl_tr (r_VI [zm_A 29, zm_I 0] d_75_233 ow_75 cal_4_102 na_99 rfl rfl (Nat.le_of_ble_eq_true rfl) hrk (zr_rcv la_29 ow_99) (zr_im mx_99 rfl (Nat.le_of_ble_eq_true rfl)) (by rw [rt_99]; decide)) (zl_I (fun v38 h39 => ?_))
          refine zl_tr (r_istore_n (loc' := [zm_A 29, zm_I (h 30 5), zm_I (h9 pf 15), zm_I v38]) d_75_236 (Nat.le_of_ble_eq_true rfl) rfl) ?_
          refine zl_tr (r_aload_n d_75_237 rfl) ?_
          refine zl_tr (r_getN (b := pf) (kk := 1) d_75_238 ow_75 f_4_24 la_29 (by decide) (zf_3 hpf) rfl) (zl_ck ?_)
          refine zl_tr (r_iload_n d_75_241 rfl) ?_
          refine zl_tr (r_putI (kk := 18) d_75_242 ow_75 f_4_105 (zf_o hpf) (by decide) rfl) ?_
          refine zl_tr (r_aload_n d_75_245 rfl) ?_
          refine zl_tr (r_getN (b := pf) (kk := 1) d_75_246 ow_75 f_4_24 la_29 (by decide) (zf_3 hpf) rfl) (zl_ck ?_)
          refine zl_tr (r_aload_n d_75_249 rfl) ?_
          refine zl_tr (r_getN (b := pf) (kk := 1) d_75_250 ow_75 f_4_24 la_29 (by decide) (zf_3 hpf) rfl) (zl_ck ?_)
          refine zl_tr (r_getI (kk := 15) d_75_253 ow_75 f_4_75 (zf_o hpf) (by decide) rfl) ?_
          refine zl_tr (r_putI (kk := 19) d_75_256 ow_75 f_4_108 (zf_o hpf) (by decide) rfl) ?_
          refine zl_tr (r_iload_n d_75_259 rfl) ?_
          refine zl_tr (r_if_eq (tgt := 276) d_75_260 (by decide)) (zl_if ?_ ?_)
          · skip
            refine zl_tr (r_iconst d_75_276 (by decide)) ?_
            exact r_zret d_75_277 rt_75
          · skip
            refine zl_tr (r_aload_n d_75_263 rfl) ?_
            refine zl_tr (r_bipush d_75_264 (by decide)) ?_
            refine zl_tr (r_VI [zm_A 29, zm_I 59] d_75_266 ow_75 cal_4_111 na_94 rfl rfl (Nat.le_of_ble_eq_true rfl) (by rw [rk_94]; decide) (zr_rcv la_29 ow_94) (zr_im mx_94 rfl (Nat.le_of_ble_eq_true rfl)) (by rw [rt_94]; decide)) (zl_I (fun v40 h41 => ?_))
            refine zl_tr (r_if_eq (tgt := 276) d_75_269 (by decide)) (zl_if ?_ ?_)
            · skip
              refine zl_tr (r_iconst d_75_276 (by decide)) ?_
              exact r_zret d_75_277 rt_75
            · skip
              refine zl_tr (r_iconst d_75_272 (by decide)) ?_
              refine zl_tr (r_goto (tgt := 277) d_75_273 (by decide)) ?_
              exact r_zret d_75_277 rt_75
        refine zl_eq 8 (fun hx => ?_) (fun hx8 => ?_)
        · refine zl_tr (r_tsw (tgt := 231) d_75_84 (by rw [hx]; decide) (by decide)) ?_
          refine zl_tr (r_aload_n d_75_231 rfl) ?_
          refine zl_tr (r_iconst d_75_232 (by decide)) ?_
          refine zl_ckh (p := zm_rk 99 [zm_A 29, zm_I 0] < 92) (fun hrk => ?_)
          refine zl_tr (r_VI [zm_A 29, zm_I 0] d_75_233 ow_75 cal_4_102 na_99 rfl rfl (Nat.le_of_ble_eq_true rfl) hrk (zr_rcv la_29 ow_99) (zr_im mx_99 rfl (Nat.le_of_ble_eq_true rfl)) (by rw [rt_99]; decide)) (zl_I (fun v42 h43 => ?_))
          refine zl_tr (r_istore_n (loc' := [zm_A 29, zm_I (h 30 5), zm_I (h9 pf 15), zm_I v42]) d_75_236 (Nat.le_of_ble_eq_true rfl) rfl) ?_
          refine zl_tr (r_aload_n d_75_237 rfl) ?_
          refine zl_tr (r_getN (b := pf) (kk := 1) d_75_238 ow_75 f_4_24 la_29 (by decide) (zf_3 hpf) rfl) (zl_ck ?_)
          refine zl_tr (r_iload_n d_75_241 rfl) ?_
          refine zl_tr (r_putI (kk := 18) d_75_242 ow_75 f_4_105 (zf_o hpf) (by decide) rfl) ?_
          refine zl_tr (r_aload_n d_75_245 rfl) ?_
          refine zl_tr (r_getN (b := pf) (kk := 1) d_75_246 ow_75 f_4_24 la_29 (by decide) (zf_3 hpf) rfl) (zl_ck ?_)
          refine zl_tr (r_aload_n d_75_249 rfl) ?_
          refine zl_tr (r_getN (b := pf) (kk := 1) d_75_250 ow_75 f_4_24 la_29 (by decide) (zf_3 hpf) rfl) (zl_ck ?_)
          refine zl_tr (r_getI (kk := 15) d_75_253 ow_75 f_4_75 (zf_o hpf) (by decide) rfl) ?_
          refine zl_tr (r_putI (kk := 19) d_75_256 ow_75 f_4_108 (zf_o hpf) (by decide) rfl) ?_
          refine zl_tr (r_iload_n d_75_259 rfl) ?_
          refine zl_tr (r_if_eq (tgt := 276) d_75_260 (by decide)) (zl_if ?_ ?_)
          · skip
            refine zl_tr (r_iconst d_75_276 (by decide)) ?_
            exact r_zret d_75_277 rt_75
          · skip
            refine zl_tr (r_aload_n d_75_263 rfl) ?_
            refine zl_tr (r_bipush d_75_264 (by decide)) ?_
            refine zl_tr (r_VI [zm_A 29, zm_I 59] d_75_266 ow_75 cal_4_111 na_94 rfl rfl (Nat.le_of_ble_eq_true rfl) (by rw [rk_94]; decide) (zr_rcv la_29 ow_94) (zr_im mx_94 rfl (Nat.le_of_ble_eq_true rfl)) (by rw [rt_94]; decide)) (zl_I (fun v44 h45 => ?_))
            refine zl_tr (r_if_eq (tgt := 276) d_75_269 (by decide)) (zl_if ?_ ?_)
            · skip
              refine zl_tr (r_iconst d_75_276 (by decide)) ?_
              exact r_zret d_75_277 rt_75
            · skip
              refine zl_tr (r_iconst d_75_272 (by decide)) ?_
              refine zl_tr (r_goto (tgt := 277) d_75_273 (by decide)) ?_
              exact r_zret d_75_277 rt_75
        refine zl_eq 9 (fun hx => ?_) (fun hx9 => ?_)
        · refine zl_tr (r_tsw (tgt := 231) d_75_84 (by rw [hx]; decide) (by decide)) ?_
          refine zl_tr (r_aload_n d_75_231 rfl) ?_
          refine zl_tr (r_iconst d_75_232 (by decide)) ?_
          refine zl_ckh (p := zm_rk 99 [zm_A 29, zm_I 0] < 92) (fun hrk => ?_)
          refine zl_tr (r_VI [zm_A 29, zm_I 0] d_75_233 ow_75 cal_4_102 na_99 rfl rfl (Nat.le_of_ble_eq_true rfl) hrk (zr_rcv la_29 ow_99) (zr_im mx_99 rfl (Nat.le_of_ble_eq_true rfl)) (by rw [rt_99]; decide)) (zl_I (fun v46 h47 => ?_))
          refine zl_tr (r_istore_n (loc' := [zm_A 29, zm_I (h 30 5), zm_I (h9 pf 15), zm_I v46]) d_75_236 (Nat.le_of_ble_eq_true rfl) rfl) ?_
          refine zl_tr (r_aload_n d_75_237 rfl) ?_
          refine zl_tr (r_getN (b := pf) (kk := 1) d_75_238 ow_75 f_4_24 la_29 (by decide) (zf_3 hpf) rfl) (zl_ck ?_)
          refine zl_tr (r_iload_n d_75_241 rfl) ?_
          refine zl_tr (r_putI (kk := 18) d_75_242 ow_75 f_4_105 (zf_o hpf) (by decide) rfl) ?_
          refine zl_tr (r_aload_n d_75_245 rfl) ?_
          refine zl_tr (r_getN (b := pf) (kk := 1) d_75_246 ow_75 f_4_24 la_29 (by decide) (zf_3 hpf) rfl) (zl_ck ?_)
          refine zl_tr (r_aload_n d_75_249 rfl) ?_
          refine zl_tr (r_getN (b := pf) (kk := 1) d_75_250 ow_75 f_4_24 la_29 (by decide) (zf_3 hpf) rfl) (zl_ck ?_)
          refine zl_tr (r_getI (kk := 15) d_75_253 ow_75 f_4_75 (zf_o hpf) (by decide) rfl) ?_
          refine zl_tr (r_putI (kk := 19) d_75_256 ow_75 f_4_108 (zf_o hpf) (by decide) rfl) ?_
          refine zl_tr (r_iload_n d_75_259 rfl) ?_
          refine zl_tr (r_if_eq (tgt := 276) d_75_260 (by decide)) (zl_if ?_ ?_)
          · skip
            refine zl_tr (r_iconst d_75_276 (by decide)) ?_
            exact r_zret d_75_277 rt_75
          · skip
            refine zl_tr (r_aload_n d_75_263 rfl) ?_
            refine zl_tr (r_bipush d_75_264 (by decide)) ?_
            refine zl_tr (r_VI [zm_A 29, zm_I 59] d_75_266 ow_75 cal_4_111 na_94 rfl rfl (Nat.le_of_ble_eq_true rfl) (by rw [rk_94]; decide) (zr_rcv la_29 ow_94) (zr_im mx_94 rfl (Nat.le_of_ble_eq_true rfl)) (by rw [rt_94]; decide)) (zl_I (fun v48 h49 => ?_))
            refine zl_tr (r_if_eq (tgt := 276) d_75_269 (by decide)) (zl_if ?_ ?_)
            · skip
              refine zl_tr (r_iconst d_75_276 (by decide)) ?_
              exact r_zret d_75_277 rt_75
            · skip
              refine zl_tr (r_iconst d_75_272 (by decide)) ?_
              refine zl_tr (r_goto (tgt := 277) d_75_273 (by decide)) ?_
              exact r_zret d_75_277 rt_75
        refine zl_eq 10 (fun hx => ?_) (fun hx10 => ?_)
        · refine zl_tr (r_tsw (tgt := 231) d_75_84 (by rw [hx]; decide) (by decide)) ?_
          refine zl_tr (r_aload_n d_75_231 rfl) ?_
          refine zl_tr (r_iconst d_75_232 (by decide)) ?_
          refine zl_ckh (p := zm_rk 99 [zm_A 29, zm_I 0] < 92) (fun hrk => ?_)
          refine zl_tr (r_VI [zm_A 29, zm_I 0] d_75_233 ow_75 cal_4_102 na_99 rfl rfl (Nat.le_of_ble_eq_true rfl) hrk (zr_rcv la_29 ow_99) (zr_im mx_99 rfl (Nat.le_of_ble_eq_true rfl)) (by rw [rt_99]; decide)) (zl_I (fun v50 h51 => ?_))
          refine zl_tr (r_istore_n (loc' := [zm_A 29, zm_I (h 30 5), zm_I (h9 pf 15), zm_I v50]) d_75_236 (Nat.le_of_ble_eq_true rfl) rfl) ?_
          refine zl_tr (r_aload_n d_75_237 rfl) ?_
          refine zl_tr (r_getN (b := pf) (kk := 1) d_75_238 ow_75 f_4_24 la_29 (by decide) (zf_3 hpf) rfl) (zl_ck ?_)
          refine zl_tr (r_iload_n d_75_241 rfl) ?_
          refine zl_tr (r_putI (kk := 18) d_75_242 ow_75 f_4_105 (zf_o hpf) (by decide) rfl) ?_
          refine zl_tr (r_aload_n d_75_245 rfl) ?_
          refine zl_tr (r_getN (b := pf) (kk := 1) d_75_246 ow_75 f_4_24 la_29 (by decide) (zf_3 hpf) rfl) (zl_ck ?_)
          refine zl_tr (r_aload_n d_75_249 rfl) ?_
          refine zl_tr (r_getN (b := pf) (kk := 1) d_75_250 ow_75 f_4_24 la_29 (by decide) (zf_3 hpf) rfl) (zl_ck ?_)
          refine zl_tr (r_getI (kk := 15) d_75_253 ow_75 f_4_75 (zf_o hpf) (by decide) rfl) ?_
          refine zl_tr (r_putI (kk := 19) d_75_256 ow_75 f_4_108 (zf_o hpf) (by decide) rfl) ?_
          refine zl_tr (r_iload_n d_75_259 rfl) ?_
          refine zl_tr (r_if_eq (tgt := 276) d_75_260 (by decide)) (zl_if ?_ ?_)
          · skip
            refine zl_tr (r_iconst d_75_276 (by decide)) ?_
            exact r_zret d_75_277 rt_75
          · skip
            refine zl_tr (r_aload_n d_75_263 rfl) ?_
            refine zl_tr (r_bipush d_75_264 (by decide)) ?_
            refine zl_tr (r_VI [zm_A 29, zm_I 59] d_75_266 ow_75 cal_4_111 na_94 rfl rfl (Nat.le_of_ble_eq_true rfl) (by rw [rk_94]; decide) (zr_rcv la_29 ow_94) (zr_im mx_94 rfl (Nat.le_of_ble_eq_true rfl)) (by rw [rt_94]; decide)) (zl_I (fun v52 h53 => ?_))
            refine zl_tr (r_if_eq (tgt := 276) d_75_269 (by decide)) (zl_if ?_ ?_)
            · skip
              refine zl_tr (r_iconst d_75_276 (by decide)) ?_
              exact r_zret d_75_277 rt_75
            · skip
              refine zl_tr (r_iconst d_75_272 (by decide)) ?_
              refine zl_tr (r_goto (tgt := 277) d_75_273 (by decide)) ?_
              exact r_zret d_75_277 rt_75
        refine zl_eq 11 (fun hx => ?_) (fun hx11 => ?_)
        · refine zl_tr (r_tsw (tgt := 184) d_75_84 (by rw [hx]; decide) (by decide)) ?_
          refine zl_tr (r_aload_n d_75_184 rfl) ?_
          refine zl_tr (r_VI [zm_A 29] d_75_185 ow_75 cal_4_87 na_88 rfl rfl (Nat.le_of_ble_eq_true rfl) (by rw [rk_88]; decide) (zr_rcv la_29 ow_88) (zr_im mx_88 rfl (Nat.le_of_ble_eq_true rfl)) (by rw [rt_88]; decide)) (zl_I (fun v54 h55 => ?_))
          refine zl_tr (r_istore_n (loc' := [zm_A 29, zm_I (h 30 5), zm_I (h9 pf 15), zm_I v54]) d_75_188 (Nat.le_of_ble_eq_true rfl) rfl) ?_
          refine zl_tr (r_goto (tgt := 259) d_75_189 (by decide)) ?_
          refine zl_tr (r_iload_n d_75_259 rfl) ?_
          refine zl_tr (r_if_eq (tgt := 276) d_75_260 (by decide)) (zl_if ?_ ?_)
          · skip
            refine zl_tr (r_iconst d_75_276 (by decide)) ?_
            exact r_zret d_75_277 rt_75
          · skip
            refine zl_tr (r_aload_n d_75_263 rfl) ?_
            refine zl_tr (r_bipush d_75_264 (by decide)) ?_
            refine zl_tr (r_VI [zm_A 29, zm_I 59] d_75_266 ow_75 cal_4_111 na_94 rfl rfl (Nat.le_of_ble_eq_true rfl) (by rw [rk_94]; decide) (zr_rcv la_29 ow_94) (zr_im mx_94 rfl (Nat.le_of_ble_eq_true rfl)) (by rw [rt_94]; decide)) (zl_I (fun v56 h57 => ?_))
            refine zl_tr (r_if_eq (tgt := 276) d_75_269 (by decide)) (zl_if ?_ ?_)
            · skip
              refine zl_tr (r_iconst d_75_276 (by decide)) ?_
              exact r_zret d_75_277 rt_75
            · skip
              refine zl_tr (r_iconst d_75_272 (by decide)) ?_
              refine zl_tr (r_goto (tgt := 277) d_75_273 (by decide)) ?_
              exact r_zret d_75_277 rt_75
        refine zl_eq 12 (fun hx => ?_) (fun hx12 => ?_)
        · refine zl_tr (r_tsw (tgt := 200) d_75_84 (by rw [hx]; decide) (by decide)) ?_
          refine zl_tr (r_aload_n d_75_200 rfl) ?_
          refine zl_tr (r_iconst d_75_201 (by decide)) ?_
          refine zl_ckh (p := zm_rk 90 [zm_A 29, zm_I 0] < 92) (fun hrk => ?_)
          refine zl_tr (r_VI [zm_A 29, zm_I 0] d_75_202 ow_75 cal_4_93 na_90 rfl rfl (Nat.le_of_ble_eq_true rfl) hrk (zr_rcv la_29 ow_90) (zr_im mx_90 rfl (Nat.le_of_ble_eq_true rfl)) (by rw [rt_90]; decide)) (zl_I (fun v58 h59 => ?_))
          refine zl_tr (r_istore_n (loc' := [zm_A 29, zm_I (h 30 5), zm_I (h9 pf 15), zm_I v58]) d_75_205 (Nat.le_of_ble_eq_true rfl) rfl) ?_
          refine zl_tr (r_aload_n d_75_206 rfl) ?_
          refine zl_tr (r_getN (b := pf) (kk := 1) d_75_207 ow_75 f_4_24 la_29 (by decide) (zf_3 hpf) rfl) (zl_ck ?_)
          refine zl_tr (r_iload_n d_75_210 rfl) ?_
          refine zl_tr (r_putI (kk := 16) d_75_211 ow_75 f_4_96 (zf_o hpf) (by decide) rfl) ?_
          refine zl_tr (r_aload_n d_75_214 rfl) ?_
          refine zl_tr (r_getN (b := pf) (kk := 1) d_75_215 ow_75 f_4_24 la_29 (by decide) (zf_3 hpf) rfl) (zl_ck ?_)
          refine zl_tr (r_aload_n d_75_218 rfl) ?_
          refine zl_tr (r_getN (b := pf) (kk := 1) d_75_219 ow_75 f_4_24 la_29 (by decide) (zf_3 hpf) rfl) (zl_ck ?_)
          refine zl_tr (r_getI (kk := 15) d_75_222 ow_75 f_4_75 (zf_o hpf) (by decide) rfl) ?_
          refine zl_tr (r_putI (kk := 17) d_75_225 ow_75 f_4_99 (zf_o hpf) (by decide) rfl) ?_
          refine zl_tr (r_goto (tgt := 259) d_75_228 (by decide)) ?_
          refine zl_tr (r_iload_n d_75_259 rfl) ?_
          refine zl_tr (r_if_eq (tgt := 276) d_75_260 (by decide)) (zl_if ?_ ?_)
          · skip
            refine zl_tr (r_iconst d_75_276 (by decide)) ?_
            exact r_zret d_75_277 rt_75
          · skip
            refine zl_tr (r_aload_n d_75_263 rfl) ?_
            refine zl_tr (r_bipush d_75_264 (by decide)) ?_
            refine zl_tr (r_VI [zm_A 29, zm_I 59] d_75_266 ow_75 cal_4_111 na_94 rfl rfl (Nat.le_of_ble_eq_true rfl) (by rw [rk_94]; decide) (zr_rcv la_29 ow_94) (zr_im mx_94 rfl (Nat.le_of_ble_eq_true rfl)) (by rw [rt_94]; decide)) (zl_I (fun v60 h61 => ?_))
            refine zl_tr (r_if_eq (tgt := 276) d_75_269 (by decide)) (zl_if ?_ ?_)
            · skip
              refine zl_tr (r_iconst d_75_276 (by decide)) ?_
              exact r_zret d_75_277 rt_75
            · skip
              refine zl_tr (r_iconst d_75_272 (by decide)) ?_
              refine zl_tr (r_goto (tgt := 277) d_75_273 (by decide)) ?_
              exact r_zret d_75_277 rt_75
        refine zl_eq 13 (fun hx => ?_) (fun hx13 => ?_)
        · refine zl_tr (r_tsw (tgt := 231) d_75_84 (by rw [hx]; decide) (by decide)) ?_
          refine zl_tr (r_aload_n d_75_231 rfl) ?_
          refine zl_tr (r_iconst d_75_232 (by decide)) ?_
          refine zl_ckh (p := zm_rk 99 [zm_A 29, zm_I 0] < 92) (fun hrk => ?_)
          refine zl_tr (r_VI [zm_A 29, zm_I 0] d_75_233 ow_75 cal_4_102 na_99 rfl rfl (Nat.le_of_ble_eq_true rfl) hrk (zr_rcv la_29 ow_99) (zr_im mx_99 rfl (Nat.le_of_ble_eq_true rfl)) (by rw [rt_99]; decide)) (zl_I (fun v62 h63 => ?_))
          refine zl_tr (r_istore_n (loc' := [zm_A 29, zm_I (h 30 5), zm_I (h9 pf 15), zm_I v62]) d_75_236 (Nat.le_of_ble_eq_true rfl) rfl) ?_
          refine zl_tr (r_aload_n d_75_237 rfl) ?_
          refine zl_tr (r_getN (b := pf) (kk := 1) d_75_238 ow_75 f_4_24 la_29 (by decide) (zf_3 hpf) rfl) (zl_ck ?_)
          refine zl_tr (r_iload_n d_75_241 rfl) ?_
          refine zl_tr (r_putI (kk := 18) d_75_242 ow_75 f_4_105 (zf_o hpf) (by decide) rfl) ?_
          refine zl_tr (r_aload_n d_75_245 rfl) ?_
          refine zl_tr (r_getN (b := pf) (kk := 1) d_75_246 ow_75 f_4_24 la_29 (by decide) (zf_3 hpf) rfl) (zl_ck ?_)
          refine zl_tr (r_aload_n d_75_249 rfl) ?_
          refine zl_tr (r_getN (b := pf) (kk := 1) d_75_250 ow_75 f_4_24 la_29 (by decide) (zf_3 hpf) rfl) (zl_ck ?_)
          refine zl_tr (r_getI (kk := 15) d_75_253 ow_75 f_4_75 (zf_o hpf) (by decide) rfl) ?_
          refine zl_tr (r_putI (kk := 19) d_75_256 ow_75 f_4_108 (zf_o hpf) (by decide) rfl) ?_
          refine zl_tr (r_iload_n d_75_259 rfl) ?_
          refine zl_tr (r_if_eq (tgt := 276) d_75_260 (by decide)) (zl_if ?_ ?_)
          · skip
            refine zl_tr (r_iconst d_75_276 (by decide)) ?_
            exact r_zret d_75_277 rt_75
          · skip
            refine zl_tr (r_aload_n d_75_263 rfl) ?_
            refine zl_tr (r_bipush d_75_264 (by decide)) ?_
            refine zl_tr (r_VI [zm_A 29, zm_I 59] d_75_266 ow_75 cal_4_111 na_94 rfl rfl (Nat.le_of_ble_eq_true rfl) (by rw [rk_94]; decide) (zr_rcv la_29 ow_94) (zr_im mx_94 rfl (Nat.le_of_ble_eq_true rfl)) (by rw [rt_94]; decide)) (zl_I (fun v64 h65 => ?_))
            refine zl_tr (r_if_eq (tgt := 276) d_75_269 (by decide)) (zl_if ?_ ?_)
            · skip
              refine zl_tr (r_iconst d_75_276 (by decide)) ?_
              exact r_zret d_75_277 rt_75
            · skip
              refine zl_tr (r_iconst d_75_272 (by decide)) ?_
              refine zl_tr (r_goto (tgt := 277) d_75_273 (by decide)) ?_
              exact r_zret d_75_277 rt_75
        refine zl_eq 14 (fun hx => ?_) (fun hx14 => ?_)
        · refine zl_tr (r_tsw (tgt := 192) d_75_84 (by rw [hx]; decide) (by decide)) ?_
          refine zl_tr (r_aload_n d_75_192 rfl) ?_
          refine zl_tr (r_VI [zm_A 29] d_75_193 ow_75 cal_4_90 na_89 rfl rfl (Nat.le_of_ble_eq_true rfl) (by rw [rk_89]; decide) (zr_rcv la_29 ow_89) (zr_im mx_89 rfl (Nat.le_of_ble_eq_true rfl)) (by rw [rt_89]; decide)) (zl_I (fun v66 h67 => ?_))
          refine zl_tr (r_istore_n (loc' := [zm_A 29, zm_I (h 30 5), zm_I (h9 pf 15), zm_I v66]) d_75_196 (Nat.le_of_ble_eq_true rfl) rfl) ?_
          refine zl_tr (r_goto (tgt := 259) d_75_197 (by decide)) ?_
          refine zl_tr (r_iload_n d_75_259 rfl) ?_
          refine zl_tr (r_if_eq (tgt := 276) d_75_260 (by decide)) (zl_if ?_ ?_)
          · skip
            refine zl_tr (r_iconst d_75_276 (by decide)) ?_
            exact r_zret d_75_277 rt_75
          · skip
            refine zl_tr (r_aload_n d_75_263 rfl) ?_
            refine zl_tr (r_bipush d_75_264 (by decide)) ?_
            refine zl_tr (r_VI [zm_A 29, zm_I 59] d_75_266 ow_75 cal_4_111 na_94 rfl rfl (Nat.le_of_ble_eq_true rfl) (by rw [rk_94]; decide) (zr_rcv la_29 ow_94) (zr_im mx_94 rfl (Nat.le_of_ble_eq_true rfl)) (by rw [rt_94]; decide)) (zl_I (fun v68 h69 => ?_))
            refine zl_tr (r_if_eq (tgt := 276) d_75_269 (by decide)) (zl_if ?_ ?_)
            · skip
              refine zl_tr (r_iconst d_75_276 (by decide)) ?_
              exact r_zret d_75_277 rt_75
            · skip
              refine zl_tr (r_iconst d_75_272 (by decide)) ?_
              refine zl_tr (r_goto (tgt := 277) d_75_273 (by decide)) ?_
              exact r_zret d_75_277 rt_75
        refine zl_tr (r_tsw (tgt := 231) d_75_84 (by rw [if_pos (by omega)]; decide) (by decide)) ?_
        refine zl_tr (r_aload_n d_75_231 rfl) ?_
        refine zl_tr (r_iconst d_75_232 (by decide)) ?_
        refine zl_ckh (p := zm_rk 99 [zm_A 29, zm_I 0] < 92) (fun hrk => ?_)
        refine zl_tr (r_VI [zm_A 29, zm_I 0] d_75_233 ow_75 cal_4_102 na_99 rfl rfl (Nat.le_of_ble_eq_true rfl) hrk (zr_rcv la_29 ow_99) (zr_im mx_99 rfl (Nat.le_of_ble_eq_true rfl)) (by rw [rt_99]; decide)) (zl_I (fun v70 h71 => ?_))
        refine zl_tr (r_istore_n (loc' := [zm_A 29, zm_I (h 30 5), zm_I (h9 pf 15), zm_I v70]) d_75_236 (Nat.le_of_ble_eq_true rfl) rfl) ?_
        refine zl_tr (r_aload_n d_75_237 rfl) ?_
        refine zl_tr (r_getN (b := pf) (kk := 1) d_75_238 ow_75 f_4_24 la_29 (by decide) (zf_3 hpf) rfl) (zl_ck ?_)
        refine zl_tr (r_iload_n d_75_241 rfl) ?_
        refine zl_tr (r_putI (kk := 18) d_75_242 ow_75 f_4_105 (zf_o hpf) (by decide) rfl) ?_
        refine zl_tr (r_aload_n d_75_245 rfl) ?_
        refine zl_tr (r_getN (b := pf) (kk := 1) d_75_246 ow_75 f_4_24 la_29 (by decide) (zf_3 hpf) rfl) (zl_ck ?_)
        refine zl_tr (r_aload_n d_75_249 rfl) ?_
        refine zl_tr (r_getN (b := pf) (kk := 1) d_75_250 ow_75 f_4_24 la_29 (by decide) (zf_3 hpf) rfl) (zl_ck ?_)
        refine zl_tr (r_getI (kk := 15) d_75_253 ow_75 f_4_75 (zf_o hpf) (by decide) rfl) ?_
        refine zl_tr (r_putI (kk := 19) d_75_256 ow_75 f_4_108 (zf_o hpf) (by decide) rfl) ?_
        refine zl_tr (r_iload_n d_75_259 rfl) ?_
        refine zl_tr (r_if_eq (tgt := 276) d_75_260 (by decide)) (zl_if ?_ ?_)
        · skip
          refine zl_tr (r_iconst d_75_276 (by decide)) ?_
          exact r_zret d_75_277 rt_75
        · skip
          refine zl_tr (r_aload_n d_75_263 rfl) ?_
          refine zl_tr (r_bipush d_75_264 (by decide)) ?_
          refine zl_tr (r_VI [zm_A 29, zm_I 59] d_75_266 ow_75 cal_4_111 na_94 rfl rfl (Nat.le_of_ble_eq_true rfl) (by rw [rk_94]; decide) (zr_rcv la_29 ow_94) (zr_im mx_94 rfl (Nat.le_of_ble_eq_true rfl)) (by rw [rt_94]; decide)) (zl_I (fun v72 h73 => ?_))
          refine zl_tr (r_if_eq (tgt := 276) d_75_269 (by decide)) (zl_if ?_ ?_)
          · skip
            refine zl_tr (r_iconst d_75_276 (by decide)) ?_
            exact r_zret d_75_277 rt_75
          · skip
            refine zl_tr (r_iconst d_75_272 (by decide)) ?_
            refine zl_tr (r_goto (tgt := 277) d_75_273 (by decide)) ?_
            exact r_zret d_75_277 rt_75
    · skip
      refine zl_tr (r_aload_n d_75_42 rfl) ?_
      refine zl_tr (r_bipush d_75_43 (by decide)) ?_
      refine zl_tr (r_aload_n d_75_45 rfl) ?_
      refine zl_tr (r_getR d_75_46 ow_75 f_4_20 la_29 (by decide) fr_29_0) ?_
      refine zl_tr (r_getI (kk := 6) d_75_49 ow_75 f_4_56 la_30 (by decide) rfl) ?_
      refine zl_tr (r_VI [zm_A 29, zm_I 6, zm_I (h4 30 6)] d_75_52 ow_75 cal_4_52 na_76 rfl rfl (Nat.le_of_ble_eq_true rfl) (by rw [rk_76]; decide) (zr_rcv la_29 ow_76) (zr_im mx_76 rfl (Nat.le_of_ble_eq_true rfl)) (by rw [rt_76]; decide)) (zl_I (fun v74 h75 => ?_))
      exact r_zret d_75_55 rt_75
-- BranTub$Parser.fail
set_option maxRecDepth 20000 in
theorem e_76 {h : zm_H} {x1 : Int} {x2 : Int} : zl (zm_ck (zm_bit 0) (some (zm_I 0, (zm_wr (zm_wr h 29 2 x1) 29 3 x2)))) (zc 76 [zm_A 29, zm_I x1, zm_I x2] h) := by
  rw [zc_eq (loc := [zm_A 29, zm_I x1, zm_I x2]) (rk_76 _) rfl]
  refine zl_tr (r_aload_n d_76_0 rfl) ?_
  refine zl_tr (r_iload_n d_76_1 rfl) ?_
  refine zl_tr (r_putI (kk := 2) d_76_2 ow_76 f_4_33 la_29 (by decide) rfl) ?_
  refine zl_tr (r_aload_n d_76_5 rfl) ?_
  refine zl_tr (r_iload_n d_76_6 rfl) ?_
  refine zl_tr (r_putI (kk := 3) d_76_7 ow_76 f_4_9 la_29 (by decide) rfl) ?_
  refine zl_tr (r_iconst d_76_10 (by decide)) ?_
  exact r_zret d_76_11 rt_76
-- BranTub$Parser.isOneTooMany
set_option maxRecDepth 20000 in
theorem e_77 {h : zm_H} {x1 : Int} {pf : Nat} (hpf : zf_F pf) : zl (if x1 = 0 then (zm_ck (h 29 1 = (pf : Int)) (if (h pf 1) = 8 then (zm_ck (zm_bit 1) (some (zm_I 1, h))) else (zm_ck (zm_bit 0) (some (zm_I 0, h))))) else (if x1 = 1 then (zm_ck (zm_bit 0) (some (zm_I 0, h))) else (if x1 = 2 then (zm_ck (zm_bit 0) (some (zm_I 0, h))) else (if x1 = 3 then (zm_ck (h 29 1 = (pf : Int)) (if (h pf 2) = 5 then (zm_ck (zm_bit 1) (some (zm_I 1, h))) else (zm_ck (zm_bit 0) (some (zm_I 0, h))))) else (if x1 = 4 then (zm_ck (h 29 1 = (pf : Int)) (if (h pf 3) = 8 then (zm_ck (zm_bit 1) (some (zm_I 1, h))) else (zm_ck (zm_bit 0) (some (zm_I 0, h))))) else (if x1 = 5 then (zm_ck (zm_bit 0) (some (zm_I 0, h))) else (if x1 = 6 then (zm_ck (zm_bit 0) (some (zm_I 0, h))) else (if x1 = 7 then (zm_ck (zm_bit 0) (some (zm_I 0, h))) else (if x1 = 8 then (zm_ck (zm_bit 0) (some (zm_I 0, h))) else (if x1 = 9 then (zm_ck (zm_bit 0) (some (zm_I 0, h))) else (if x1 = 10 then (zm_ck (zm_bit 0) (some (zm_I 0, h))) else (if x1 = 11 then (zm_ck (zm_bit 0) (some (zm_I 0, h))) else (if x1 = 12 then (zm_ck (h 29 1 = (pf : Int)) (if (h pf 17) ≤ 0 then (zm_ck (zm_bit 0) (some (zm_I 0, h))) else (zm_ck (zm_bit 1) (some (zm_I 1, h))))) else (if x1 = 13 then (zm_ck (h 29 1 = (pf : Int)) (if (h pf 19) ≤ 0 then (zm_ck (zm_bit 0) (some (zm_I 0, h))) else (zm_ck (zm_bit 1) (some (zm_I 1, h))))) else (zm_ck (zm_bit 0) (some (zm_I 0, h))))))))))))))))) (zc 77 [zm_A 29, zm_I x1] h) := by
  rw [zc_eq (loc := [zm_A 29, zm_I x1]) (rk_77 _) rfl]
  refine zl_tr (r_iload_n d_77_0 rfl) ?_
  refine zl_eq 0 (fun hx => ?_) (fun hx0 => ?_)
  · refine zl_tr (r_tsw (tgt := 72) d_77_1 (by rw [hx]; decide) (by decide)) ?_
    refine zl_tr (r_aload_n d_77_72 rfl) ?_
    refine zl_tr (r_getN (b := pf) (kk := 1) d_77_73 ow_77 f_4_24 la_29 (by decide) (zf_3 hpf) rfl) (zl_ck ?_)
    refine zl_tr (r_getI (kk := 1) d_77_76 ow_77 f_4_114 (zf_o hpf) (by decide) rfl) ?_
    refine zl_tr (r_bipush d_77_79 (by decide)) ?_
    refine zl_tr (r_icmp_ne (tgt := 88) d_77_81 (by decide)) (zl_if ?_ ?_)
    · skip
      refine zl_tr (r_iconst d_77_84 (by decide)) ?_
      refine zl_tr (r_goto (tgt := 89) d_77_85 (by decide)) ?_
      exact r_zret d_77_89 rt_77
    · skip
      refine zl_tr (r_iconst d_77_88 (by decide)) ?_
      exact r_zret d_77_89 rt_77
  refine zl_eq 1 (fun hx => ?_) (fun hx1 => ?_)
  · refine zl_tr (r_tsw (tgt := 157) d_77_1 (by rw [hx]; decide) (by decide)) ?_
    refine zl_tr (r_iconst d_77_157 (by decide)) ?_
    exact r_zret d_77_158 rt_77
  refine zl_eq 2 (fun hx => ?_) (fun hx2 => ?_)
  · refine zl_tr (r_tsw (tgt := 157) d_77_1 (by rw [hx]; decide) (by decide)) ?_
    refine zl_tr (r_iconst d_77_157 (by decide)) ?_
    exact r_zret d_77_158 rt_77
  refine zl_eq 3 (fun hx => ?_) (fun hx3 => ?_)
  · refine zl_tr (r_tsw (tgt := 90) d_77_1 (by rw [hx]; decide) (by decide)) ?_
    refine zl_tr (r_aload_n d_77_90 rfl) ?_
    refine zl_tr (r_getN (b := pf) (kk := 1) d_77_91 ow_77 f_4_24 la_29 (by decide) (zf_3 hpf) rfl) (zl_ck ?_)
    refine zl_tr (r_getI (kk := 2) d_77_94 ow_77 f_4_117 (zf_o hpf) (by decide) rfl) ?_
    refine zl_tr (r_iconst d_77_97 (by decide)) ?_
    refine zl_tr (r_icmp_ne (tgt := 105) d_77_98 (by decide)) (zl_if ?_ ?_)
    · skip
      refine zl_tr (r_iconst d_77_101 (by decide)) ?_
      refine zl_tr (r_goto (tgt := 106) d_77_102 (by decide)) ?_
      exact r_zret d_77_106 rt_77
    · skip
      refine zl_tr (r_iconst d_77_105 (by decide)) ?_
      exact r_zret d_77_106 rt_77
  refine zl_eq 4 (fun hx => ?_) (fun hx4 => ?_)
  · refine zl_tr (r_tsw (tgt := 107) d_77_1 (by rw [hx]; decide) (by decide)) ?_
    refine zl_tr (r_aload_n d_77_107 rfl) ?_
    refine zl_tr (r_getN (b := pf) (kk := 1) d_77_108 ow_77 f_4_24 la_29 (by decide) (zf_3 hpf) rfl) (zl_ck ?_)
    refine zl_tr (r_getI (kk := 3) d_77_111 ow_77 f_4_120 (zf_o hpf) (by decide) rfl) ?_
    refine zl_tr (r_bipush d_77_114 (by decide)) ?_
    refine zl_tr (r_icmp_ne (tgt := 123) d_77_116 (by decide)) (zl_if ?_ ?_)
    · skip
      refine zl_tr (r_iconst d_77_119 (by decide)) ?_
      refine zl_tr (r_goto (tgt := 124) d_77_120 (by decide)) ?_
      exact r_zret d_77_124 rt_77
    · skip
      refine zl_tr (r_iconst d_77_123 (by decide)) ?_
      exact r_zret d_77_124 rt_77
  refine zl_eq 5 (fun hx => ?_) (fun hx5 => ?_)
  · refine zl_tr (r_tsw (tgt := 157) d_77_1 (by rw [hx]; decide) (by decide)) ?_
    refine zl_tr (r_iconst d_77_157 (by decide)) ?_
    exact r_zret d_77_158 rt_77
  refine zl_eq 6 (fun hx => ?_) (fun hx6 => ?_)
  · refine zl_tr (r_tsw (tgt := 157) d_77_1 (by rw [hx]; decide) (by decide)) ?_
    refine zl_tr (r_iconst d_77_157 (by decide)) ?_
    exact r_zret d_77_158 rt_77
  refine zl_eq 7 (fun hx => ?_) (fun hx7 => ?_)
  · refine zl_tr (r_tsw (tgt := 157) d_77_1 (by rw [hx]; decide) (by decide)) ?_
    refine zl_tr (r_iconst d_77_157 (by decide)) ?_
    exact r_zret d_77_158 rt_77
  refine zl_eq 8 (fun hx => ?_) (fun hx8 => ?_)
  · refine zl_tr (r_tsw (tgt := 157) d_77_1 (by rw [hx]; decide) (by decide)) ?_
    refine zl_tr (r_iconst d_77_157 (by decide)) ?_
    exact r_zret d_77_158 rt_77
  refine zl_eq 9 (fun hx => ?_) (fun hx9 => ?_)
  · refine zl_tr (r_tsw (tgt := 157) d_77_1 (by rw [hx]; decide) (by decide)) ?_
    refine zl_tr (r_iconst d_77_157 (by decide)) ?_
    exact r_zret d_77_158 rt_77
  refine zl_eq 10 (fun hx => ?_) (fun hx10 => ?_)
  · refine zl_tr (r_tsw (tgt := 157) d_77_1 (by rw [hx]; decide) (by decide)) ?_
    refine zl_tr (r_iconst d_77_157 (by decide)) ?_
    exact r_zret d_77_158 rt_77
  refine zl_eq 11 (fun hx => ?_) (fun hx11 => ?_)
  · refine zl_tr (r_tsw (tgt := 157) d_77_1 (by rw [hx]; decide) (by decide)) ?_
    refine zl_tr (r_iconst d_77_157 (by decide)) ?_
    exact r_zret d_77_158 rt_77
  refine zl_eq 12 (fun hx => ?_) (fun hx12 => ?_)
  · refine zl_tr (r_tsw (tgt := 125) d_77_1 (by rw [hx]; decide) (by decide)) ?_
    refine zl_tr (r_aload_n d_77_125 rfl) ?_
    refine zl_tr (r_getN (b := pf) (kk := 1) d_77_126 ow_77 f_4_24 la_29 (by decide) (zf_3 hpf) rfl) (zl_ck ?_)
    refine zl_tr (r_getI (kk := 17) d_77_129 ow_77 f_4_99 (zf_o hpf) (by decide) rfl) ?_
    refine zl_tr (r_if_le (tgt := 139) d_77_132 (by decide)) (zl_if ?_ ?_)
    · skip
      refine zl_tr (r_iconst d_77_139 (by decide)) ?_
      exact r_zret d_77_140 rt_77
    · skip
      refine zl_tr (r_iconst d_77_135 (by decide)) ?_
      refine zl_tr (r_goto (tgt := 140) d_77_136 (by decide)) ?_
      exact r_zret d_77_140 rt_77
  refine zl_eq 13 (fun hx => ?_) (fun hx13 => ?_)
  · refine zl_tr (r_tsw (tgt := 141) d_77_1 (by rw [hx]; decide) (by decide)) ?_
    refine zl_tr (r_aload_n d_77_141 rfl) ?_
    refine zl_tr (r_getN (b := pf) (kk := 1) d_77_142 ow_77 f_4_24 la_29 (by decide) (zf_3 hpf) rfl) (zl_ck ?_)
    refine zl_tr (r_getI (kk := 19) d_77_145 ow_77 f_4_108 (zf_o hpf) (by decide) rfl) ?_
    refine zl_tr (r_if_le (tgt := 155) d_77_148 (by decide)) (zl_if ?_ ?_)
    · skip
      refine zl_tr (r_iconst d_77_155 (by decide)) ?_
      exact r_zret d_77_156 rt_77
    · skip
      refine zl_tr (r_iconst d_77_151 (by decide)) ?_
      refine zl_tr (r_goto (tgt := 156) d_77_152 (by decide)) ?_
      exact r_zret d_77_156 rt_77
  refine zl_tr (r_tsw (tgt := 157) d_77_1 (by rw [if_pos (by omega)]; decide) (by decide)) ?_
  refine zl_tr (r_iconst d_77_157 (by decide)) ?_
  exact r_zret d_77_158 rt_77
-- BranTub$Parser.startsStatement
set_option maxRecDepth 20000 in
theorem e_78 {h : zm_H} {x1 : Int} : zl (if x1 = 0 then (zm_ck (zm_bit 1) (some (zm_I 1, h))) else (if x1 = 1 then (zm_ck (zm_bit 0) (some (zm_I 0, h))) else (if x1 = 2 then (zm_ck (zm_bit 0) (some (zm_I 0, h))) else (if x1 = 3 then (zm_ck (zm_bit 1) (some (zm_I 1, h))) else (if x1 = 4 then (zm_ck (zm_bit 1) (some (zm_I 1, h))) else (if x1 = 5 then (zm_ck (zm_bit 0) (some (zm_I 0, h))) else (if x1 = 6 then (zm_ck (zm_bit 0) (some (zm_I 0, h))) else (if x1 = 7 then (zm_ck (zm_bit 0) (some (zm_I 0, h))) else (if x1 = 8 then (zm_ck (zm_bit 0) (some (zm_I 0, h))) else (if x1 = 9 then (zm_ck (zm_bit 0) (some (zm_I 0, h))) else (if x1 = 10 then (zm_ck (zm_bit 0) (some (zm_I 0, h))) else (if x1 = 11 then (zm_ck (zm_bit 1) (some (zm_I 1, h))) else (if x1 = 12 then (zm_ck (zm_bit 1) (some (zm_I 1, h))) else (if x1 = 13 then (zm_ck (zm_bit 1) (some (zm_I 1, h))) else (if x1 = 14 then (zm_ck (zm_bit 1) (some (zm_I 1, h))) else (zm_ck (zm_bit 0) (some (zm_I 0, h)))))))))))))))))) (zc 78 [zm_I x1] h) := by
  rw [zc_eq (loc := [zm_I x1]) (rk_78 _) rfl]
  refine zl_tr (r_iload_n d_78_0 rfl) ?_
  refine zl_eq 0 (fun hx => ?_) (fun hx0 => ?_)
  · refine zl_tr (r_tsw (tgt := 76) d_78_1 (by rw [hx]; decide) (by decide)) ?_
    refine zl_tr (r_iconst d_78_76 (by decide)) ?_
    exact r_zret d_78_77 rt_78
  refine zl_eq 1 (fun hx => ?_) (fun hx1 => ?_)
  · refine zl_tr (r_tsw (tgt := 78) d_78_1 (by rw [hx]; decide) (by decide)) ?_
    refine zl_tr (r_iconst d_78_78 (by decide)) ?_
    exact r_zret d_78_79 rt_78
  refine zl_eq 2 (fun hx => ?_) (fun hx2 => ?_)
  · refine zl_tr (r_tsw (tgt := 78) d_78_1 (by rw [hx]; decide) (by decide)) ?_
    refine zl_tr (r_iconst d_78_78 (by decide)) ?_
    exact r_zret d_78_79 rt_78
  refine zl_eq 3 (fun hx => ?_) (fun hx3 => ?_)
  · refine zl_tr (r_tsw (tgt := 76) d_78_1 (by rw [hx]; decide) (by decide)) ?_
    refine zl_tr (r_iconst d_78_76 (by decide)) ?_
    exact r_zret d_78_77 rt_78
  refine zl_eq 4 (fun hx => ?_) (fun hx4 => ?_)
  · refine zl_tr (r_tsw (tgt := 76) d_78_1 (by rw [hx]; decide) (by decide)) ?_
    refine zl_tr (r_iconst d_78_76 (by decide)) ?_
    exact r_zret d_78_77 rt_78
  refine zl_eq 5 (fun hx => ?_) (fun hx5 => ?_)
  · refine zl_tr (r_tsw (tgt := 78) d_78_1 (by rw [hx]; decide) (by decide)) ?_
    refine zl_tr (r_iconst d_78_78 (by decide)) ?_
    exact r_zret d_78_79 rt_78
  refine zl_eq 6 (fun hx => ?_) (fun hx6 => ?_)
  · refine zl_tr (r_tsw (tgt := 78) d_78_1 (by rw [hx]; decide) (by decide)) ?_
    refine zl_tr (r_iconst d_78_78 (by decide)) ?_
    exact r_zret d_78_79 rt_78
  refine zl_eq 7 (fun hx => ?_) (fun hx7 => ?_)
  · refine zl_tr (r_tsw (tgt := 78) d_78_1 (by rw [hx]; decide) (by decide)) ?_
    refine zl_tr (r_iconst d_78_78 (by decide)) ?_
    exact r_zret d_78_79 rt_78
  refine zl_eq 8 (fun hx => ?_) (fun hx8 => ?_)
  · refine zl_tr (r_tsw (tgt := 78) d_78_1 (by rw [hx]; decide) (by decide)) ?_
    refine zl_tr (r_iconst d_78_78 (by decide)) ?_
    exact r_zret d_78_79 rt_78
  refine zl_eq 9 (fun hx => ?_) (fun hx9 => ?_)
  · refine zl_tr (r_tsw (tgt := 78) d_78_1 (by rw [hx]; decide) (by decide)) ?_
    refine zl_tr (r_iconst d_78_78 (by decide)) ?_
    exact r_zret d_78_79 rt_78
  refine zl_eq 10 (fun hx => ?_) (fun hx10 => ?_)
  · refine zl_tr (r_tsw (tgt := 78) d_78_1 (by rw [hx]; decide) (by decide)) ?_
    refine zl_tr (r_iconst d_78_78 (by decide)) ?_
    exact r_zret d_78_79 rt_78
  refine zl_eq 11 (fun hx => ?_) (fun hx11 => ?_)
  · refine zl_tr (r_tsw (tgt := 76) d_78_1 (by rw [hx]; decide) (by decide)) ?_
    refine zl_tr (r_iconst d_78_76 (by decide)) ?_
    exact r_zret d_78_77 rt_78
  refine zl_eq 12 (fun hx => ?_) (fun hx12 => ?_)
  · refine zl_tr (r_tsw (tgt := 76) d_78_1 (by rw [hx]; decide) (by decide)) ?_
    refine zl_tr (r_iconst d_78_76 (by decide)) ?_
    exact r_zret d_78_77 rt_78
  refine zl_eq 13 (fun hx => ?_) (fun hx13 => ?_)
  · refine zl_tr (r_tsw (tgt := 76) d_78_1 (by rw [hx]; decide) (by decide)) ?_
    refine zl_tr (r_iconst d_78_76 (by decide)) ?_
    exact r_zret d_78_77 rt_78
  refine zl_eq 14 (fun hx => ?_) (fun hx14 => ?_)
  · refine zl_tr (r_tsw (tgt := 76) d_78_1 (by rw [hx]; decide) (by decide)) ?_
    refine zl_tr (r_iconst d_78_76 (by decide)) ?_
    exact r_zret d_78_77 rt_78
  refine zl_tr (r_tsw (tgt := 78) d_78_1 (by rw [if_pos (by omega)]; decide) (by decide)) ?_
  refine zl_tr (r_iconst d_78_78 (by decide)) ?_
  exact r_zret d_78_79 rt_78
-- BranTub$Parser.failForm
set_option maxRecDepth 20000 in
theorem e_79 {h : zm_H}  : zl (zk_I (zc 76 [zm_A 29, zm_I 1, zm_I (h 30 7)] h) (fun v1 h2 => zm_ck (zm_bit v1) (some (zm_I v1, h2)))) (zc 79 [zm_A 29] h) := by
  rw [zc_eq (loc := [zm_A 29]) (rk_79 _) rfl]
  refine zl_tr (r_aload_n d_79_0 rfl) ?_
  refine zl_tr (r_iconst d_79_1 (by decide)) ?_
  refine zl_tr (r_aload_n d_79_2 rfl) ?_
  refine zl_tr (r_getR d_79_3 ow_79 f_4_20 la_29 (by decide) fr_29_0) ?_
  refine zl_tr (r_getI (kk := 7) d_79_6 ow_79 f_4_49 la_30 (by decide) rfl) ?_
  refine zl_tr (r_VI [zm_A 29, zm_I 1, zm_I (h 30 7)] d_79_9 ow_79 cal_4_52 na_76 rfl rfl (Nat.le_of_ble_eq_true rfl) (by rw [rk_76]; decide) (zr_rcv la_29 ow_76) (zr_im mx_76 rfl (Nat.le_of_ble_eq_true rfl)) (by rw [rt_76]; decide)) (zl_I (fun v1 h2 => ?_))
  exact r_zret d_79_12 rt_79
-- BranTub$Parser.tellKind
set_option maxRecDepth 20000 in
theorem e_80 {h : zm_H} {pf : Nat} (hpf : zf_F pf) : zl (zk_I (zc 81 [zm_A 29] h) (fun v1 h2 => if v1 = (-1) then (zm_ck (zm_bit 0) (some (zm_I 0, h2))) else (zk_I (zc 83 [zm_A 29, zm_I 1] h2) (fun v3 h4 => if v3 = 0 then (zm_ck (zm_bit 0) (some (zm_I 0, h4))) else (zk_I (zc 84 [zm_A 29, zm_I 0, zm_I 99] h4) (fun v5 h6 => if v5 = (-1) then (zm_ck (zm_bit 0) (some (zm_I 0, h6))) else (zk_I (zc 83 [zm_A 29, zm_I 2] h6) (fun v7 h8 => if v7 = 0 then (zm_ck (zm_bit 0) (some (zm_I 0, h8))) else (zk_I (zc 84 [zm_A 29, zm_I 1, zm_I 9] h8) (fun v9 h10 => if v9 = (-1) then (zm_ck (zm_bit 0) (some (zm_I 0, h10))) else (zm_ck (h10 29 1 = (pf : Int)) (zm_ck (h10 29 1 = (pf : Int)) (zm_ck (0 ≤ (h10 pf 1) ∧ (h10 pf 1) < ((8 : Nat) : Int)) (zm_ck ((zm_wr h10 (pf + 1) (h10 pf 1) v1) 29 1 = (pf : Int)) (zm_ck ((zm_wr h10 (pf + 1) (h10 pf 1) v1) 29 1 = (pf : Int)) (zm_ck (0 ≤ ((zm_wr h10 (pf + 1) (h10 pf 1) v1) pf 1) ∧ ((zm_wr h10 (pf + 1) (h10 pf 1) v1) pf 1) < ((8 : Nat) : Int)) (zm_ck ((zm_wr (zm_wr h10 (pf + 1) (h10 pf 1) v1) (pf + 2) ((zm_wr h10 (pf + 1) (h10 pf 1) v1) pf 1) v5) 29 1 = (pf : Int)) (zm_ck ((zm_wr (zm_wr h10 (pf + 1) (h10 pf 1) v1) (pf + 2) ((zm_wr h10 (pf + 1) (h10 pf 1) v1) pf 1) v5) 29 1 = (pf : Int)) (zm_ck (0 ≤ ((zm_wr (zm_wr h10 (pf + 1) (h10 pf 1) v1) (pf + 2) ((zm_wr h10 (pf + 1) (h10 pf 1) v1) pf 1) v5) pf 1) ∧ ((zm_wr (zm_wr h10 (pf + 1) (h10 pf 1) v1) (pf + 2) ((zm_wr h10 (pf + 1) (h10 pf 1) v1) pf 1) v5) pf 1) < ((8 : Nat) : Int)) (zm_ck ((zm_wr (zm_wr (zm_wr h10 (pf + 1) (h10 pf 1) v1) (pf + 2) ((zm_wr h10 (pf + 1) (h10 pf 1) v1) pf 1) v5) (pf + 3) ((zm_wr (zm_wr h10 (pf + 1) (h10 pf 1) v1) (pf + 2) ((zm_wr h10 (pf + 1) (h10 pf 1) v1) pf 1) v5) pf 1) v9) 29 1 = (pf : Int)) (zm_ck (zm_i32 (((zm_wr (zm_wr (zm_wr h10 (pf + 1) (h10 pf 1) v1) (pf + 2) ((zm_wr h10 (pf + 1) (h10 pf 1) v1) pf 1) v5) (pf + 3) ((zm_wr (zm_wr h10 (pf + 1) (h10 pf 1) v1) (pf + 2) ((zm_wr h10 (pf + 1) (h10 pf 1) v1) pf 1) v5) pf 1) v9) pf 1) + 1)) (zm_ck (zm_bit 1) (some (zm_I 1, (zm_wr (zm_wr (zm_wr (zm_wr h10 (pf + 1) (h10 pf 1) v1) (pf + 2) ((zm_wr h10 (pf + 1) (h10 pf 1) v1) pf 1) v5) (pf + 3) ((zm_wr (zm_wr h10 (pf + 1) (h10 pf 1) v1) (pf + 2) ((zm_wr h10 (pf + 1) (h10 pf 1) v1) pf 1) v5) pf 1) v9) pf 1 (((zm_wr (zm_wr (zm_wr h10 (pf + 1) (h10 pf 1) v1) (pf + 2) ((zm_wr h10 (pf + 1) (h10 pf 1) v1) pf 1) v5) (pf + 3) ((zm_wr (zm_wr h10 (pf + 1) (h10 pf 1) v1) (pf + 2) ((zm_wr h10 (pf + 1) (h10 pf 1) v1) pf 1) v5) pf 1) v9) pf 1) + 1)))))))))))))))))))))))))) (zc 80 [zm_A 29] h) := by
  rw [zc_eq (loc := [zm_A 29, zm_U, zm_U, zm_U]) (rk_80 _) rfl]
  refine zl_tr (r_aload_n d_80_0 rfl) ?_
  refine zl_tr (r_VI [zm_A 29] d_80_1 ow_80 cal_4_123 na_81 rfl rfl (Nat.le_of_ble_eq_true rfl) (by rw [rk_81]; decide) (zr_rcv la_29 ow_81) (zr_im mx_81 rfl (Nat.le_of_ble_eq_true rfl)) (by rw [rt_81]; decide)) (zl_I (fun v1 h2 => ?_))
  refine zl_tr (r_istore_n (loc' := [zm_A 29, zm_I v1, zm_U, zm_U]) d_80_4 (Nat.le_of_ble_eq_true rfl) rfl) ?_
  refine zl_tr (r_iload_n d_80_5 rfl) ?_
  refine zl_tr (r_iconst d_80_6 (by decide)) ?_
  refine zl_tr (r_icmp_eq (tgt := 18) d_80_7 (by decide)) (zl_if ?_ ?_)
  · skip
    refine zl_tr (r_iconst d_80_18 (by decide)) ?_
    exact r_zret d_80_19 rt_80
  · skip
    refine zl_tr (r_aload_n d_80_10 rfl) ?_
    refine zl_tr (r_iconst d_80_11 (by decide)) ?_
    refine zl_tr (r_VI [zm_A 29, zm_I 1] d_80_12 ow_80 cal_4_127 na_83 rfl rfl (Nat.le_of_ble_eq_true rfl) (by rw [rk_83]; decide) (zr_rcv la_29 ow_83) (zr_im mx_83 rfl (Nat.le_of_ble_eq_true rfl)) (by rw [rt_83]; decide)) (zl_I (fun v3 h4 => ?_))
    refine zl_tr (r_if_ne (tgt := 20) d_80_15 (by decide)) (zl_if ?_ ?_)
    · skip
      refine zl_tr (r_iconst d_80_18 (by decide)) ?_
      exact r_zret d_80_19 rt_80
    · skip
      refine zl_tr (r_aload_n d_80_20 rfl) ?_
      refine zl_tr (r_iconst d_80_21 (by decide)) ?_
      refine zl_tr (r_bipush d_80_22 (by decide)) ?_
      refine zl_tr (r_VI [zm_A 29, zm_I 0, zm_I 99] d_80_24 ow_80 cal_4_130 na_84 rfl rfl (Nat.le_of_ble_eq_true rfl) (by rw [rk_84]; decide) (zr_rcv la_29 ow_84) (zr_im mx_84 rfl (Nat.le_of_ble_eq_true rfl)) (by rw [rt_84]; decide)) (zl_I (fun v5 h6 => ?_))
      refine zl_tr (r_istore_n (loc' := [zm_A 29, zm_I v1, zm_I v5, zm_U]) d_80_27 (Nat.le_of_ble_eq_true rfl) rfl) ?_
      refine zl_tr (r_iload_n d_80_28 rfl) ?_
      refine zl_tr (r_iconst d_80_29 (by decide)) ?_
      refine zl_tr (r_icmp_eq (tgt := 41) d_80_30 (by decide)) (zl_if ?_ ?_)
      · skip
        refine zl_tr (r_iconst d_80_41 (by decide)) ?_
        exact r_zret d_80_42 rt_80
      · skip
        refine zl_tr (r_aload_n d_80_33 rfl) ?_
        refine zl_tr (r_iconst d_80_34 (by decide)) ?_
        refine zl_tr (r_VI [zm_A 29, zm_I 2] d_80_35 ow_80 cal_4_127 na_83 rfl rfl (Nat.le_of_ble_eq_true rfl) (by rw [rk_83]; decide) (zr_rcv la_29 ow_83) (zr_im mx_83 rfl (Nat.le_of_ble_eq_true rfl)) (by rw [rt_83]; decide)) (zl_I (fun v7 h8 => ?_))
        refine zl_tr (r_if_ne (tgt := 43) d_80_38 (by decide)) (zl_if ?_ ?_)
        · skip
          refine zl_tr (r_iconst d_80_41 (by decide)) ?_
          exact r_zret d_80_42 rt_80
        · skip
          refine zl_tr (r_aload_n d_80_43 rfl) ?_
          refine zl_tr (r_iconst d_80_44 (by decide)) ?_
          refine zl_tr (r_bipush d_80_45 (by decide)) ?_
          refine zl_tr (r_VI [zm_A 29, zm_I 1, zm_I 9] d_80_47 ow_80 cal_4_130 na_84 rfl rfl (Nat.le_of_ble_eq_true rfl) (by rw [rk_84]; decide) (zr_rcv la_29 ow_84) (zr_im mx_84 rfl (Nat.le_of_ble_eq_true rfl)) (by rw [rt_84]; decide)) (zl_I (fun v9 h10 => ?_))
          refine zl_tr (r_istore_n (loc' := [zm_A 29, zm_I v1, zm_I v5, zm_I v9]) d_80_50 (Nat.le_of_ble_eq_true rfl) rfl) ?_
          refine zl_tr (r_iload_n d_80_51 rfl) ?_
          refine zl_tr (r_iconst d_80_52 (by decide)) ?_
          refine zl_tr (r_icmp_ne (tgt := 58) d_80_53 (by decide)) (zl_if ?_ ?_)
          · skip
            refine zl_tr (r_iconst d_80_56 (by decide)) ?_
            exact r_zret d_80_57 rt_80
          · skip
            refine zl_tr (r_aload_n d_80_58 rfl) ?_
            refine zl_tr (r_getN (b := pf) (kk := 1) d_80_59 ow_80 f_4_24 la_29 (by decide) (zf_3 hpf) rfl) (zl_ck ?_)
            refine zl_tr (r_getR d_80_62 ow_80 f_4_134 (zf_o hpf) (by decide) (zf_r5 hpf)) ?_
            refine zl_tr (r_aload_n d_80_65 rfl) ?_
            refine zl_tr (r_getN (b := pf) (kk := 1) d_80_66 ow_80 f_4_24 la_29 (by decide) (zf_3 hpf) rfl) (zl_ck ?_)
            refine zl_tr (r_getI (kk := 1) d_80_69 ow_80 f_4_114 (zf_o hpf) (by decide) rfl) ?_
            refine zl_tr (r_iload_n d_80_72 rfl) ?_
            refine zl_tr (r_iastore d_80_73 (zf_a1 hpf)) (zl_ck ?_)
            refine zl_tr (r_aload_n d_80_74 rfl) ?_
            refine zl_tr (r_getN (b := pf) (kk := 1) d_80_75 ow_80 f_4_24 la_29 (by decide) (zf_3 hpf) rfl) (zl_ck ?_)
            refine zl_tr (r_getR d_80_78 ow_80 f_4_138 (zf_o hpf) (by decide) (zf_r6 hpf)) ?_
            refine zl_tr (r_aload_n d_80_81 rfl) ?_
            refine zl_tr (r_getN (b := pf) (kk := 1) d_80_82 ow_80 f_4_24 la_29 (by decide) (zf_3 hpf) rfl) (zl_ck ?_)
            refine zl_tr (r_getI (kk := 1) d_80_85 ow_80 f_4_114 (zf_o hpf) (by decide) rfl) ?_
            refine zl_tr (r_iload_n d_80_88 rfl) ?_
            refine zl_tr (r_iastore d_80_89 (zf_a2 hpf)) (zl_ck ?_)
            refine zl_tr (r_aload_n d_80_90 rfl) ?_
            refine zl_tr (r_getN (b := pf) (kk := 1) d_80_91 ow_80 f_4_24 la_29 (by decide) (zf_3 hpf) rfl) (zl_ck ?_)
            refine zl_tr (r_getR d_80_94 ow_80 f_4_141 (zf_o hpf) (by decide) (zf_r7 hpf)) ?_
            refine zl_tr (r_aload_n d_80_97 rfl) ?_
            refine zl_tr (r_getN (b := pf) (kk := 1) d_80_98 ow_80 f_4_24 la_29 (by decide) (zf_3 hpf) rfl) (zl_ck ?_)
            refine zl_tr (r_getI (kk := 1) d_80_101 ow_80 f_4_114 (zf_o hpf) (by decide) rfl) ?_
            refine zl_tr (r_iload_n d_80_104 rfl) ?_
            refine zl_tr (r_iastore d_80_105 (zf_a3 hpf)) (zl_ck ?_)
            refine zl_tr (r_aload_n d_80_106 rfl) ?_
            refine zl_tr (r_getN (b := pf) (kk := 1) d_80_107 ow_80 f_4_24 la_29 (by decide) (zf_3 hpf) rfl) (zl_ck ?_)
            refine zl_tr (r_dup d_80_110 rfl) ?_
            refine zl_tr (r_getI (kk := 1) d_80_111 ow_80 f_4_114 (zf_o hpf) (by decide) rfl) ?_
            refine zl_tr (r_iconst d_80_114 (by decide)) ?_
            refine zl_tr (r_iadd d_80_115) (zl_ck ?_)
            refine zl_tr (r_putI (kk := 1) d_80_116 ow_80 f_4_114 (zf_o hpf) (by decide) rfl) ?_
            refine zl_tr (r_iconst d_80_119 (by decide)) ?_
            exact r_zret d_80_120 rt_80
-- BranTub$Parser.newName
set_option maxRecDepth 20000 in
theorem e_81 {h : zm_H} {pf : Nat} (hpf : zf_F pf) : zl (zk_I (zc 82 [zm_A 29] h) (fun v1 h2 => if v1 = 0 then (zk_I (zc 79 [zm_A 29] h2) (fun v3 h4 => some (zm_I (-1), h4))) else (zm_ck (h2 29 1 = (pf : Int)) (zk_I (zc 61 [zm_A pf, zm_I (h 30 4)] h2) (fun v5 h6 => if v5 = (-1) then (zm_ck (h6 29 1 = (pf : Int)) (zk_I (zc 62 [zm_A pf, zm_I (h 30 4)] h6) (fun v7 h8 => if v7 = (-1) then (zk_V (zc 133 [zm_A 30] h8) (fun h9 => some (zm_I (h 30 4), h9))) else (zk_I (zc 76 [zm_A 29, zm_I 2, zm_I (h8 30 6)] h8) (fun v10 h11 => some (zm_I (-1), h11)))))) else (zk_I (zc 76 [zm_A 29, zm_I 2, zm_I (h6 30 6)] h6) (fun v12 h13 => some (zm_I (-1), h13)))))))) (zc 81 [zm_A 29] h) := by
  rw [zc_eq (loc := [zm_A 29, zm_U]) (rk_81 _) rfl]
  refine zl_tr (r_aload_n d_81_0 rfl) ?_
  refine zl_tr (r_getR d_81_1 ow_81 f_4_20 la_29 (by decide) fr_29_0) ?_
  refine zl_tr (r_getI (kk := 4) d_81_4 ow_81 f_4_153 la_30 (by decide) rfl) ?_
  refine zl_tr (r_istore_n (loc' := [zm_A 29, zm_I (h 30 4)]) d_81_7 (Nat.le_of_ble_eq_true rfl) rfl) ?_
  refine zl_tr (r_aload_n d_81_8 rfl) ?_
  refine zl_tr (r_VI [zm_A 29] d_81_9 ow_81 cal_4_150 na_82 rfl rfl (Nat.le_of_ble_eq_true rfl) (by rw [rk_82]; decide) (zr_rcv la_29 ow_82) (zr_im mx_82 rfl (Nat.le_of_ble_eq_true rfl)) (by rw [rt_82]; decide)) (zl_I (fun v1 h2 => ?_))
  refine zl_tr (r_if_ne (tgt := 22) d_81_12 (by decide)) (zl_if ?_ ?_)
  · skip
    refine zl_tr (r_aload_n d_81_15 rfl) ?_
    refine zl_tr (r_VI [zm_A 29] d_81_16 ow_81 cal_4_69 na_79 rfl rfl (Nat.le_of_ble_eq_true rfl) (by rw [rk_79]; decide) (zr_rcv la_29 ow_79) (zr_im mx_79 rfl (Nat.le_of_ble_eq_true rfl)) (by rw [rt_79]; decide)) (zl_I (fun v3 h4 => ?_))
    refine zl_tr (r_pop d_81_19 rfl) ?_
    refine zl_tr (r_iconst d_81_20 (by decide)) ?_
    exact r_iret d_81_21 rt_81
  · skip
    refine zl_tr (r_aload_n d_81_22 rfl) ?_
    refine zl_tr (r_getN (b := pf) (kk := 1) d_81_23 ow_81 f_4_24 la_29 (by decide) (zf_3 hpf) rfl) (zl_ck ?_)
    refine zl_tr (r_iload_n d_81_26 rfl) ?_
    refine zl_tr (r_VI [zm_A pf, zm_I (h 30 4)] d_81_27 ow_81 cal_4_156 na_61 rfl rfl (Nat.le_of_ble_eq_true rfl) (by rw [rk_61]; decide) (zr_rcv (zf_o hpf) ow_61) (zr_im mx_61 rfl (Nat.le_of_ble_eq_true rfl)) (by rw [rt_61]; decide)) (zl_I (fun v5 h6 => ?_))
    refine zl_tr (r_iconst d_81_30 (by decide)) ?_
    refine zl_tr (r_icmp_ne (tgt := 46) d_81_31 (by decide)) (zl_if ?_ ?_)
    · skip
      refine zl_tr (r_aload_n d_81_34 rfl) ?_
      refine zl_tr (r_getN (b := pf) (kk := 1) d_81_35 ow_81 f_4_24 la_29 (by decide) (zf_3 hpf) rfl) (zl_ck ?_)
      refine zl_tr (r_iload_n d_81_38 rfl) ?_
      refine zl_tr (r_VI [zm_A pf, zm_I (h 30 4)] d_81_39 ow_81 cal_4_175 na_62 rfl rfl (Nat.le_of_ble_eq_true rfl) (by rw [rk_62]; decide) (zr_rcv (zf_o hpf) ow_62) (zr_im mx_62 rfl (Nat.le_of_ble_eq_true rfl)) (by rw [rt_62]; decide)) (zl_I (fun v7 h8 => ?_))
      refine zl_tr (r_iconst d_81_42 (by decide)) ?_
      refine zl_tr (r_icmp_eq (tgt := 61) d_81_43 (by decide)) (zl_if ?_ ?_)
      · skip
        refine zl_tr (r_aload_n d_81_61 rfl) ?_
        refine zl_tr (r_getR d_81_62 ow_81 f_4_20 la_29 (by decide) fr_29_0) ?_
        refine zl_tr (r_VV [zm_A 30] d_81_65 ow_81 cal_4_72 na_133 rfl rfl (Nat.le_of_ble_eq_true rfl) (by rw [rk_133]; decide) (zr_rcv la_30 ow_133) (zr_im mx_133 rfl (Nat.le_of_ble_eq_true rfl)) rt_133) (zl_V (fun h9 => ?_))
        refine zl_tr (r_iload_n d_81_68 rfl) ?_
        exact r_iret d_81_69 rt_81
      · skip
        refine zl_tr (r_aload_n d_81_46 rfl) ?_
        refine zl_tr (r_iconst d_81_47 (by decide)) ?_
        refine zl_tr (r_aload_n d_81_48 rfl) ?_
        refine zl_tr (r_getR d_81_49 ow_81 f_4_20 la_29 (by decide) fr_29_0) ?_
        refine zl_tr (r_getI (kk := 6) d_81_52 ow_81 f_4_56 la_30 (by decide) rfl) ?_
        refine zl_tr (r_VI [zm_A 29, zm_I 2, zm_I (h8 30 6)] d_81_55 ow_81 cal_4_52 na_76 rfl rfl (Nat.le_of_ble_eq_true rfl) (by rw [rk_76]; decide) (zr_rcv la_29 ow_76) (zr_im mx_76 rfl (Nat.le_of_ble_eq_true rfl)) (by rw [rt_76]; decide)) (zl_I (fun v10 h11 => ?_))
        refine zl_tr (r_pop d_81_58 rfl) ?_
        refine zl_tr (r_iconst d_81_59 (by decide)) ?_
        exact r_iret d_81_60 rt_81
    · skip
      refine zl_tr (r_aload_n d_81_46 rfl) ?_
      refine zl_tr (r_iconst d_81_47 (by decide)) ?_
      refine zl_tr (r_aload_n d_81_48 rfl) ?_
      refine zl_tr (r_getR d_81_49 ow_81 f_4_20 la_29 (by decide) fr_29_0) ?_
      refine zl_tr (r_getI (kk := 6) d_81_52 ow_81 f_4_56 la_30 (by decide) rfl) ?_
      refine zl_tr (r_VI [zm_A 29, zm_I 2, zm_I (h6 30 6)] d_81_55 ow_81 cal_4_52 na_76 rfl rfl (Nat.le_of_ble_eq_true rfl) (by rw [rk_76]; decide) (zr_rcv la_29 ow_76) (zr_im mx_76 rfl (Nat.le_of_ble_eq_true rfl)) (by rw [rt_76]; decide)) (zl_I (fun v12 h13 => ?_))
      refine zl_tr (r_pop d_81_58 rfl) ?_
      refine zl_tr (r_iconst d_81_59 (by decide)) ?_
      exact r_iret d_81_60 rt_81
-- BranTub$Parser.isName
set_option maxRecDepth 20000 in
theorem e_82 {h : zm_H}  : zl (if (h 30 3) = 1 then (if (h 30 5) = (-1) then (zm_ck (zm_bit 1) (some (zm_I 1, h))) else (zm_ck (zm_bit 0) (some (zm_I 0, h)))) else (zm_ck (zm_bit 0) (some (zm_I 0, h)))) (zc 82 [zm_A 29] h) := by
  rw [zc_eq (loc := [zm_A 29]) (rk_82 _) rfl]
  refine zl_tr (r_aload_n d_82_0 rfl) ?_
  refine zl_tr (r_getR d_82_1 ow_82 f_4_20 la_29 (by decide) fr_29_0) ?_
  refine zl_tr (r_getI (kk := 3) d_82_4 ow_82 f_4_39 la_30 (by decide) rfl) ?_
  refine zl_tr (r_iconst d_82_7 (by decide)) ?_
  refine zl_tr (r_icmp_ne (tgt := 26) d_82_8 (by decide)) (zl_if ?_ ?_)
  · skip
    refine zl_tr (r_aload_n d_82_11 rfl) ?_
    refine zl_tr (r_getR d_82_12 ow_82 f_4_20 la_29 (by decide) fr_29_0) ?_
    refine zl_tr (r_getI (kk := 5) d_82_15 ow_82 f_4_59 la_30 (by decide) rfl) ?_
    refine zl_tr (r_iconst d_82_18 (by decide)) ?_
    refine zl_tr (r_icmp_ne (tgt := 26) d_82_19 (by decide)) (zl_if ?_ ?_)
    · skip
      refine zl_tr (r_iconst d_82_22 (by decide)) ?_
      refine zl_tr (r_goto (tgt := 27) d_82_23 (by decide)) ?_
      exact r_zret d_82_27 rt_82
    · skip
      refine zl_tr (r_iconst d_82_26 (by decide)) ?_
      exact r_zret d_82_27 rt_82
  · skip
    refine zl_tr (r_iconst d_82_26 (by decide)) ?_
    exact r_zret d_82_27 rt_82
-- BranTub$Parser.passOwn
set_option maxRecDepth 20000 in
theorem e_83 {h : zm_H} {x1 : Int} : zl (zk_I (zc 138 [zm_A 30, zm_I x1] h) (fun v1 h2 => if v1 = 0 then (zk_I (zc 79 [zm_A 29] h2) (fun v3 h4 => zm_ck (zm_bit v3) (some (zm_I v3, h4)))) else (zk_V (zc 133 [zm_A 30] h2) (fun h5 => zm_ck (zm_bit 1) (some (zm_I 1, h5)))))) (zc 83 [zm_A 29, zm_I x1] h) := by
  rw [zc_eq (loc := [zm_A 29, zm_I x1]) (rk_83 _) rfl]
  refine zl_tr (r_aload_n d_83_0 rfl) ?_
  refine zl_tr (r_getR d_83_1 ow_83 f_4_20 la_29 (by decide) fr_29_0) ?_
  refine zl_tr (r_iload_n d_83_4 rfl) ?_
  refine zl_tr (r_VI [zm_A 30, zm_I x1] d_83_5 ow_83 cal_4_184 na_138 rfl rfl (Nat.le_of_ble_eq_true rfl) (by rw [rk_138]; decide) (zr_rcv la_30 ow_138) (zr_im mx_138 rfl (Nat.le_of_ble_eq_true rfl)) (by rw [rt_138]; decide)) (zl_I (fun v1 h2 => ?_))
  refine zl_tr (r_if_ne (tgt := 16) d_83_8 (by decide)) (zl_if ?_ ?_)
  · skip
    refine zl_tr (r_aload_n d_83_11 rfl) ?_
    refine zl_tr (r_VI [zm_A 29] d_83_12 ow_83 cal_4_69 na_79 rfl rfl (Nat.le_of_ble_eq_true rfl) (by rw [rk_79]; decide) (zr_rcv la_29 ow_79) (zr_im mx_79 rfl (Nat.le_of_ble_eq_true rfl)) (by rw [rt_79]; decide)) (zl_I (fun v3 h4 => ?_))
    exact r_zret d_83_15 rt_83
  · skip
    refine zl_tr (r_aload_n d_83_16 rfl) ?_
    refine zl_tr (r_getR d_83_17 ow_83 f_4_20 la_29 (by decide) fr_29_0) ?_
    refine zl_tr (r_VV [zm_A 30] d_83_20 ow_83 cal_4_72 na_133 rfl rfl (Nat.le_of_ble_eq_true rfl) (by rw [rk_133]; decide) (zr_rcv la_30 ow_133) (zr_im mx_133 rfl (Nat.le_of_ble_eq_true rfl)) rt_133) (zl_V (fun h5 => ?_))
    refine zl_tr (r_iconst d_83_23 (by decide)) ?_
    exact r_zret d_83_24 rt_83
-- BranTub$Parser.number
set_option maxRecDepth 20000 in
theorem e_84 {h : zm_H} {x1 : Int} {x2 : Int} : zl (if (h 30 3) = 2 then (if (h 30 4) < x1 then (zk_I (zc 76 [zm_A 29, zm_I 4, zm_I (h 30 6)] h) (fun v1 h2 => some (zm_I (-1), h2))) else (if (h 30 4) ≤ x2 then (zk_V (zc 133 [zm_A 30] h) (fun h3 => some (zm_I (h 30 4), h3))) else (zk_I (zc 76 [zm_A 29, zm_I 4, zm_I (h 30 6)] h) (fun v4 h5 => some (zm_I (-1), h5))))) else (zk_I (zc 79 [zm_A 29] h) (fun v6 h7 => some (zm_I (-1), h7)))) (zc 84 [zm_A 29, zm_I x1, zm_I x2] h) := by
  rw [zc_eq (loc := [zm_A 29, zm_I x1, zm_I x2, zm_U]) (rk_84 _) rfl]
  refine zl_tr (r_aload_n d_84_0 rfl) ?_
  refine zl_tr (r_getR d_84_1 ow_84 f_4_20 la_29 (by decide) fr_29_0) ?_
  refine zl_tr (r_getI (kk := 4) d_84_4 ow_84 f_4_153 la_30 (by decide) rfl) ?_
  refine zl_tr (r_istore_n (loc' := [zm_A 29, zm_I x1, zm_I x2, zm_I (h 30 4)]) d_84_7 (Nat.le_of_ble_eq_true rfl) rfl) ?_
  refine zl_tr (r_aload_n d_84_8 rfl) ?_
  refine zl_tr (r_getR d_84_9 ow_84 f_4_20 la_29 (by decide) fr_29_0) ?_
  refine zl_tr (r_getI (kk := 3) d_84_12 ow_84 f_4_39 la_30 (by decide) rfl) ?_
  refine zl_tr (r_iconst d_84_15 (by decide)) ?_
  refine zl_tr (r_icmp_eq (tgt := 26) d_84_16 (by decide)) (zl_if ?_ ?_)
  · skip
    refine zl_tr (r_iload_n d_84_26 rfl) ?_
    refine zl_tr (r_iload_n d_84_27 rfl) ?_
    refine zl_tr (r_icmp_lt (tgt := 36) d_84_28 (by decide)) (zl_if ?_ ?_)
    · skip
      refine zl_tr (r_aload_n d_84_36 rfl) ?_
      refine zl_tr (r_iconst d_84_37 (by decide)) ?_
      refine zl_tr (r_aload_n d_84_38 rfl) ?_
      refine zl_tr (r_getR d_84_39 ow_84 f_4_20 la_29 (by decide) fr_29_0) ?_
      refine zl_tr (r_getI (kk := 6) d_84_42 ow_84 f_4_56 la_30 (by decide) rfl) ?_
      refine zl_tr (r_VI [zm_A 29, zm_I 4, zm_I (h 30 6)] d_84_45 ow_84 cal_4_52 na_76 rfl rfl (Nat.le_of_ble_eq_true rfl) (by rw [rk_76]; decide) (zr_rcv la_29 ow_76) (zr_im mx_76 rfl (Nat.le_of_ble_eq_true rfl)) (by rw [rt_76]; decide)) (zl_I (fun v1 h2 => ?_))
      refine zl_tr (r_pop d_84_48 rfl) ?_
      refine zl_tr (r_iconst d_84_49 (by decide)) ?_
      exact r_iret d_84_50 rt_84
    · skip
      refine zl_tr (r_iload_n d_84_31 rfl) ?_
      refine zl_tr (r_iload_n d_84_32 rfl) ?_
      refine zl_tr (r_icmp_le (tgt := 51) d_84_33 (by decide)) (zl_if ?_ ?_)
      · skip
        refine zl_tr (r_aload_n d_84_51 rfl) ?_
        refine zl_tr (r_getR d_84_52 ow_84 f_4_20 la_29 (by decide) fr_29_0) ?_
        refine zl_tr (r_VV [zm_A 30] d_84_55 ow_84 cal_4_72 na_133 rfl rfl (Nat.le_of_ble_eq_true rfl) (by rw [rk_133]; decide) (zr_rcv la_30 ow_133) (zr_im mx_133 rfl (Nat.le_of_ble_eq_true rfl)) rt_133) (zl_V (fun h3 => ?_))
        refine zl_tr (r_iload_n d_84_58 rfl) ?_
        exact r_iret d_84_59 rt_84
      · skip
        refine zl_tr (r_aload_n d_84_36 rfl) ?_
        refine zl_tr (r_iconst d_84_37 (by decide)) ?_
        refine zl_tr (r_aload_n d_84_38 rfl) ?_
        refine zl_tr (r_getR d_84_39 ow_84 f_4_20 la_29 (by decide) fr_29_0) ?_
        refine zl_tr (r_getI (kk := 6) d_84_42 ow_84 f_4_56 la_30 (by decide) rfl) ?_
        refine zl_tr (r_VI [zm_A 29, zm_I 4, zm_I (h 30 6)] d_84_45 ow_84 cal_4_52 na_76 rfl rfl (Nat.le_of_ble_eq_true rfl) (by rw [rk_76]; decide) (zr_rcv la_29 ow_76) (zr_im mx_76 rfl (Nat.le_of_ble_eq_true rfl)) (by rw [rt_76]; decide)) (zl_I (fun v4 h5 => ?_))
        refine zl_tr (r_pop d_84_48 rfl) ?_
        refine zl_tr (r_iconst d_84_49 (by decide)) ?_
        exact r_iret d_84_50 rt_84
  · skip
    refine zl_tr (r_aload_n d_84_19 rfl) ?_
    refine zl_tr (r_VI [zm_A 29] d_84_20 ow_84 cal_4_69 na_79 rfl rfl (Nat.le_of_ble_eq_true rfl) (by rw [rk_79]; decide) (zr_rcv la_29 ow_79) (zr_im mx_79 rfl (Nat.le_of_ble_eq_true rfl)) (by rw [rt_79]; decide)) (zl_I (fun v6 h7 => ?_))
    refine zl_tr (r_pop d_84_23 rfl) ?_
    refine zl_tr (r_iconst d_84_24 (by decide)) ?_
    exact r_iret d_84_25 rt_84
-- BranTub$Parser.tellLayer
set_option maxRecDepth 20000 in
theorem e_85 {h : zm_H}  : zl (zr none 5 85 2 [zm_A 29, zm_I 0] [] h) (zc 85 [zm_A 29] h) := by
  rw [zc_eq (loc := [zm_A 29, zm_U]) (rk_85 _) rfl]
  refine zl_tr (r_iconst d_85_0 (by decide)) ?_
  refine zl_tr (r_istore_n (loc' := [zm_A 29, zm_I 0]) d_85_1 (Nat.le_of_ble_eq_true rfl) rfl) ?_
  exact zl_rf
-- BranTub$Parser.tellLayer, from 2
set_option maxRecDepth 20000 in
theorem e_85_2 {h : zm_H} {x1 : Int} {pf : Nat} (hpf : zf_F pf) : zl (if 8 < x1 then (zm_ck (h 29 1 = (pf : Int)) (zm_ck (zm_i32 ((h pf 2) + 1)) (zm_ck (zm_bit 1) (some (zm_I 1, (zm_wr h pf 2 ((h pf 2) + 1))))))) else (zk_I (zc 86 [zm_A 29] h) (fun v1 h2 => if v1 = 0 then (zm_ck (zm_bit 0) (some (zm_I 0, h2))) else (zk_I (zc 139 [zm_A 30, zm_I 59] h2) (fun v3 h4 => if v3 = 0 then (zm_ck (zm_i32 (x1 + 1)) (zr none 5 85 2 [zm_A 29, zm_I (x1 + 1)] [] h4)) else (zm_ck (h4 29 1 = (pf : Int)) (zm_ck (zm_i32 ((h4 pf 2) + 1)) (zm_ck (zm_bit 1) (some (zm_I 1, (zm_wr h4 pf 2 ((h4 pf 2) + 1)))))))))))) (zr none 5 85 2 [zm_A 29, zm_I x1] [] h) := by
  refine zl_tr (r_iload_n d_85_2 rfl) ?_
  refine zl_tr (r_bipush d_85_3 (by decide)) ?_
  refine zl_tr (r_icmp_gt (tgt := 38) d_85_5 (by decide)) (zl_if ?_ ?_)
  · skip
    refine zl_tr (r_aload_n d_85_38 rfl) ?_
    refine zl_tr (r_getN (b := pf) (kk := 1) d_85_39 ow_85 f_4_24 la_29 (by decide) (zf_3 hpf) rfl) (zl_ck ?_)
    refine zl_tr (r_dup d_85_42 rfl) ?_
    refine zl_tr (r_getI (kk := 2) d_85_43 ow_85 f_4_117 (zf_o hpf) (by decide) rfl) ?_
    refine zl_tr (r_iconst d_85_46 (by decide)) ?_
    refine zl_tr (r_iadd d_85_47) (zl_ck ?_)
    refine zl_tr (r_putI (kk := 2) d_85_48 ow_85 f_4_117 (zf_o hpf) (by decide) rfl) ?_
    refine zl_tr (r_iconst d_85_51 (by decide)) ?_
    exact r_zret d_85_52 rt_85
  · skip
    refine zl_tr (r_aload_n d_85_8 rfl) ?_
    refine zl_tr (r_VI [zm_A 29] d_85_9 ow_85 cal_4_144 na_86 rfl rfl (Nat.le_of_ble_eq_true rfl) (by rw [rk_86]; decide) (zr_rcv la_29 ow_86) (zr_im mx_86 rfl (Nat.le_of_ble_eq_true rfl)) (by rw [rt_86]; decide)) (zl_I (fun v1 h2 => ?_))
    refine zl_tr (r_if_ne (tgt := 17) d_85_12 (by decide)) (zl_if ?_ ?_)
    · skip
      refine zl_tr (r_iconst d_85_15 (by decide)) ?_
      exact r_zret d_85_16 rt_85
    · skip
      refine zl_tr (r_aload_n d_85_17 rfl) ?_
      refine zl_tr (r_getR d_85_18 ow_85 f_4_20 la_29 (by decide) fr_29_0) ?_
      refine zl_tr (r_bipush d_85_21 (by decide)) ?_
      refine zl_tr (r_VI [zm_A 30, zm_I 59] d_85_23 ow_85 cal_4_147 na_139 rfl rfl (Nat.le_of_ble_eq_true rfl) (by rw [rk_139]; decide) (zr_rcv la_30 ow_139) (zr_im mx_139 rfl (Nat.le_of_ble_eq_true rfl)) (by rw [rt_139]; decide)) (zl_I (fun v3 h4 => ?_))
      refine zl_tr (r_if_eq (tgt := 32) d_85_26 (by decide)) (zl_if ?_ ?_)
      · skip
        refine zl_tr (r_iinc (loc' := [zm_A 29, zm_I (x1 + 1)]) d_85_32 rfl (Nat.le_of_ble_eq_true rfl) rfl) (zl_ck ?_)
        refine zl_tr (r_goto (tgt := 2) d_85_35 (by decide)) ?_
        exact zl_rf
      · skip
        refine zl_tr (r_goto (tgt := 38) d_85_29 (by decide)) ?_
        refine zl_tr (r_aload_n d_85_38 rfl) ?_
        refine zl_tr (r_getN (b := pf) (kk := 1) d_85_39 ow_85 f_4_24 la_29 (by decide) (zf_3 hpf) rfl) (zl_ck ?_)
        refine zl_tr (r_dup d_85_42 rfl) ?_
        refine zl_tr (r_getI (kk := 2) d_85_43 ow_85 f_4_117 (zf_o hpf) (by decide) rfl) ?_
        refine zl_tr (r_iconst d_85_46 (by decide)) ?_
        refine zl_tr (r_iadd d_85_47) (zl_ck ?_)
        refine zl_tr (r_putI (kk := 2) d_85_48 ow_85 f_4_117 (zf_o hpf) (by decide) rfl) ?_
        refine zl_tr (r_iconst d_85_51 (by decide)) ?_
        exact r_zret d_85_52 rt_85
-- BranTub$Parser.tellParcels
set_option maxRecDepth 20000 in
theorem e_86 {h : zm_H} {pf : Nat} (hpf : zf_F pf) : zl (zk_I (zc 82 [zm_A 29] h) (fun v1 h2 => if v1 = 0 then (zk_I (zc 79 [zm_A 29] h2) (fun v3 h4 => zm_ck (zm_bit v3) (some (zm_I v3, h4)))) else (zm_ck (h2 29 1 = (pf : Int)) (zk_I (zc 61 [zm_A pf, zm_I (h2 30 4)] h2) (fun v5 h6 => if v5 = (-1) then (zk_I (zc 76 [zm_A 29, zm_I 3, zm_I (h6 30 6)] h6) (fun v7 h8 => zm_ck (zm_bit v7) (some (zm_I v7, h8)))) else (zm_ck (h6 29 1 = (pf : Int)) (zm_ck (zm_i32 ((h6 pf 2) * 8)) (zm_ck (zm_i32 (((h6 pf 2) * 8) + v5)) (zm_ck (h6 29 1 = (pf : Int)) (zm_ck (0 ≤ (((h6 pf 2) * 8) + v5) ∧ (((h6 pf 2) * 8) + v5) < ((40 : Nat) : Int)) (if (h6 (pf + 4) (((h6 pf 2) * 8) + v5)) ≤ 0 then (zk_V (zc 133 [zm_A 30] h6) (fun h9 => zk_I (zc 84 [zm_A 29, zm_I 1, zm_I 30] h9) (fun v10 h11 => if v10 = (-1) then (zm_ck (zm_bit 0) (some (zm_I 0, h11))) else (zm_ck (h11 29 1 = (pf : Int)) (zm_ck (0 ≤ (((h6 pf 2) * 8) + v5) ∧ (((h6 pf 2) * 8) + v5) < ((40 : Nat) : Int)) (zm_ck (zm_bit 1) (some (zm_I 1, (zm_wr h11 (pf + 4) (((h6 pf 2) * 8) + v5) v10))))))))) else (zk_I (zc 76 [zm_A 29, zm_I 3, zm_I (h6 30 6)] h6) (fun v12 h13 => zm_ck (zm_bit v12) (some (zm_I v12, h13))))))))))))))) (zc 86 [zm_A 29] h) := by
  rw [zc_eq (loc := [zm_A 29, zm_U, zm_U, zm_U]) (rk_86 _) rfl]
  refine zl_tr (r_aload_n d_86_0 rfl) ?_
  refine zl_tr (r_VI [zm_A 29] d_86_1 ow_86 cal_4_150 na_82 rfl rfl (Nat.le_of_ble_eq_true rfl) (by rw [rk_82]; decide) (zr_rcv la_29 ow_82) (zr_im mx_82 rfl (Nat.le_of_ble_eq_true rfl)) (by rw [rt_82]; decide)) (zl_I (fun v1 h2 => ?_))
  refine zl_tr (r_if_ne (tgt := 12) d_86_4 (by decide)) (zl_if ?_ ?_)
  · skip
    refine zl_tr (r_aload_n d_86_7 rfl) ?_
    refine zl_tr (r_VI [zm_A 29] d_86_8 ow_86 cal_4_69 na_79 rfl rfl (Nat.le_of_ble_eq_true rfl) (by rw [rk_79]; decide) (zr_rcv la_29 ow_79) (zr_im mx_79 rfl (Nat.le_of_ble_eq_true rfl)) (by rw [rt_79]; decide)) (zl_I (fun v3 h4 => ?_))
    exact r_zret d_86_11 rt_86
  · skip
    refine zl_tr (r_aload_n d_86_12 rfl) ?_
    refine zl_tr (r_getN (b := pf) (kk := 1) d_86_13 ow_86 f_4_24 la_29 (by decide) (zf_3 hpf) rfl) (zl_ck ?_)
    refine zl_tr (r_aload_n d_86_16 rfl) ?_
    refine zl_tr (r_getR d_86_17 ow_86 f_4_20 la_29 (by decide) fr_29_0) ?_
    refine zl_tr (r_getI (kk := 4) d_86_20 ow_86 f_4_153 la_30 (by decide) rfl) ?_
    refine zl_tr (r_VI [zm_A pf, zm_I (h2 30 4)] d_86_23 ow_86 cal_4_156 na_61 rfl rfl (Nat.le_of_ble_eq_true rfl) (by rw [rk_61]; decide) (zr_rcv (zf_o hpf) ow_61) (zr_im mx_61 rfl (Nat.le_of_ble_eq_true rfl)) (by rw [rt_61]; decide)) (zl_I (fun v5 h6 => ?_))
    refine zl_tr (r_istore_n (loc' := [zm_A 29, zm_I v5, zm_U, zm_U]) d_86_26 (Nat.le_of_ble_eq_true rfl) rfl) ?_
    refine zl_tr (r_iload_n d_86_27 rfl) ?_
    refine zl_tr (r_iconst d_86_28 (by decide)) ?_
    refine zl_tr (r_icmp_ne (tgt := 45) d_86_29 (by decide)) (zl_if ?_ ?_)
    · skip
      refine zl_tr (r_aload_n d_86_32 rfl) ?_
      refine zl_tr (r_iconst d_86_33 (by decide)) ?_
      refine zl_tr (r_aload_n d_86_34 rfl) ?_
      refine zl_tr (r_getR d_86_35 ow_86 f_4_20 la_29 (by decide) fr_29_0) ?_
      refine zl_tr (r_getI (kk := 6) d_86_38 ow_86 f_4_56 la_30 (by decide) rfl) ?_
      refine zl_tr (r_VI [zm_A 29, zm_I 3, zm_I (h6 30 6)] d_86_41 ow_86 cal_4_52 na_76 rfl rfl (Nat.le_of_ble_eq_true rfl) (by rw [rk_76]; decide) (zr_rcv la_29 ow_76) (zr_im mx_76 rfl (Nat.le_of_ble_eq_true rfl)) (by rw [rt_76]; decide)) (zl_I (fun v7 h8 => ?_))
      exact r_zret d_86_44 rt_86
    · skip
      refine zl_tr (r_aload_n d_86_45 rfl) ?_
      refine zl_tr (r_getN (b := pf) (kk := 1) d_86_46 ow_86 f_4_24 la_29 (by decide) (zf_3 hpf) rfl) (zl_ck ?_)
      refine zl_tr (r_getI (kk := 2) d_86_49 ow_86 f_4_117 (zf_o hpf) (by decide) rfl) ?_
      refine zl_tr (r_bipush d_86_52 (by decide)) ?_
      refine zl_tr (r_imul d_86_54) (zl_ck ?_)
      refine zl_tr (r_iload_n d_86_55 rfl) ?_
      refine zl_tr (r_iadd d_86_56) (zl_ck ?_)
      refine zl_tr (r_istore_n (loc' := [zm_A 29, zm_I v5, zm_I (((h6 pf 2) * 8) + v5), zm_U]) d_86_57 (Nat.le_of_ble_eq_true rfl) rfl) ?_
      refine zl_tr (r_aload_n d_86_58 rfl) ?_
      refine zl_tr (r_getN (b := pf) (kk := 1) d_86_59 ow_86 f_4_24 la_29 (by decide) (zf_3 hpf) rfl) (zl_ck ?_)
      refine zl_tr (r_getR d_86_62 ow_86 f_4_160 (zf_o hpf) (by decide) (zf_r8 hpf)) ?_
      refine zl_tr (r_iload_n d_86_65 rfl) ?_
      refine zl_tr (r_iaload d_86_66 (zf_a4 hpf)) (zl_ck ?_)
      refine zl_tr (r_if_le (tgt := 83) d_86_67 (by decide)) (zl_if ?_ ?_)
      · skip
        refine zl_tr (r_aload_n d_86_83 rfl) ?_
        refine zl_tr (r_getR d_86_84 ow_86 f_4_20 la_29 (by decide) fr_29_0) ?_
        refine zl_tr (r_VV [zm_A 30] d_86_87 ow_86 cal_4_72 na_133 rfl rfl (Nat.le_of_ble_eq_true rfl) (by rw [rk_133]; decide) (zr_rcv la_30 ow_133) (zr_im mx_133 rfl (Nat.le_of_ble_eq_true rfl)) rt_133) (zl_V (fun h9 => ?_))
        refine zl_tr (r_aload_n d_86_90 rfl) ?_
        refine zl_tr (r_iconst d_86_91 (by decide)) ?_
        refine zl_tr (r_bipush d_86_92 (by decide)) ?_
        refine zl_tr (r_VI [zm_A 29, zm_I 1, zm_I 30] d_86_94 ow_86 cal_4_130 na_84 rfl rfl (Nat.le_of_ble_eq_true rfl) (by rw [rk_84]; decide) (zr_rcv la_29 ow_84) (zr_im mx_84 rfl (Nat.le_of_ble_eq_true rfl)) (by rw [rt_84]; decide)) (zl_I (fun v10 h11 => ?_))
        refine zl_tr (r_istore_n (loc' := [zm_A 29, zm_I v5, zm_I (((h6 pf 2) * 8) + v5), zm_I v10]) d_86_97 (Nat.le_of_ble_eq_true rfl) rfl) ?_
        refine zl_tr (r_iload_n d_86_98 rfl) ?_
        refine zl_tr (r_iconst d_86_99 (by decide)) ?_
        refine zl_tr (r_icmp_ne (tgt := 105) d_86_100 (by decide)) (zl_if ?_ ?_)
        · skip
          refine zl_tr (r_iconst d_86_103 (by decide)) ?_
          exact r_zret d_86_104 rt_86
        · skip
          refine zl_tr (r_aload_n d_86_105 rfl) ?_
          refine zl_tr (r_getN (b := pf) (kk := 1) d_86_106 ow_86 f_4_24 la_29 (by decide) (zf_3 hpf) rfl) (zl_ck ?_)
          refine zl_tr (r_getR d_86_109 ow_86 f_4_160 (zf_o hpf) (by decide) (zf_r8 hpf)) ?_
          refine zl_tr (r_iload_n d_86_112 rfl) ?_
          refine zl_tr (r_iload_n d_86_113 rfl) ?_
          refine zl_tr (r_iastore d_86_114 (zf_a4 hpf)) (zl_ck ?_)
          refine zl_tr (r_iconst d_86_115 (by decide)) ?_
          exact r_zret d_86_116 rt_86
      · skip
        refine zl_tr (r_aload_n d_86_70 rfl) ?_
        refine zl_tr (r_iconst d_86_71 (by decide)) ?_
        refine zl_tr (r_aload_n d_86_72 rfl) ?_
        refine zl_tr (r_getR d_86_73 ow_86 f_4_20 la_29 (by decide) fr_29_0) ?_
        refine zl_tr (r_getI (kk := 6) d_86_76 ow_86 f_4_56 la_30 (by decide) rfl) ?_
        refine zl_tr (r_VI [zm_A 29, zm_I 3, zm_I (h6 30 6)] d_86_79 ow_86 cal_4_52 na_76 rfl rfl (Nat.le_of_ble_eq_true rfl) (by rw [rk_76]; decide) (zr_rcv la_29 ow_76) (zr_im mx_76 rfl (Nat.le_of_ble_eq_true rfl)) (by rw [rt_76]; decide)) (zl_I (fun v12 h13 => ?_))
        exact r_zret d_86_82 rt_86
-- BranTub$Parser.tellChild
set_option maxRecDepth 20000 in
theorem e_87 {h : zm_H} {pf : Nat} (hpf : zf_F pf) : zl (zk_I (zc 81 [zm_A 29] h) (fun v1 h2 => if v1 = (-1) then (zm_ck (zm_bit 0) (some (zm_I 0, h2))) else (zk_I (zc 83 [zm_A 29, zm_I 5] h2) (fun v3 h4 => if v3 = 0 then (zm_ck (zm_bit 0) (some (zm_I 0, h4))) else (zk_I (zc 84 [zm_A 29, zm_I 1, zm_I 5] h4) (fun v5 h6 => if v5 = (-1) then (zm_ck (zm_bit 0) (some (zm_I 0, h6))) else (zk_I (zc 83 [zm_A 29, zm_I 6] h6) (fun v7 h8 => if v7 = 0 then (zm_ck (zm_bit 0) (some (zm_I 0, h8))) else (zk_I (zc 84 [zm_A 29, zm_I 0, zm_I 3] h8) (fun v9 h10 => if v9 = (-1) then (zm_ck (zm_bit 0) (some (zm_I 0, h10))) else (if (h10 30 5) < 7 then (zk_I (zc 79 [zm_A 29] h10) (fun v11 h12 => zm_ck (zm_bit v11) (some (zm_I v11, h12)))) else (if (h10 30 5) ≤ 10 then (zm_ck (h10 29 1 = (pf : Int)) (zm_ck (h10 29 1 = (pf : Int)) (zm_ck (0 ≤ (h10 pf 3) ∧ (h10 pf 3) < ((8 : Nat) : Int)) (zm_ck ((zm_wr h10 (pf + 5) (h10 pf 3) v1) 29 1 = (pf : Int)) (zm_ck ((zm_wr h10 (pf + 5) (h10 pf 3) v1) 29 1 = (pf : Int)) (zm_ck (0 ≤ ((zm_wr h10 (pf + 5) (h10 pf 3) v1) pf 3) ∧ ((zm_wr h10 (pf + 5) (h10 pf 3) v1) pf 3) < ((8 : Nat) : Int)) (zm_ck ((zm_wr (zm_wr h10 (pf + 5) (h10 pf 3) v1) (pf + 6) ((zm_wr h10 (pf + 5) (h10 pf 3) v1) pf 3) v5) 29 1 = (pf : Int)) (zm_ck ((zm_wr (zm_wr h10 (pf + 5) (h10 pf 3) v1) (pf + 6) ((zm_wr h10 (pf + 5) (h10 pf 3) v1) pf 3) v5) 29 1 = (pf : Int)) (zm_ck (0 ≤ ((zm_wr (zm_wr h10 (pf + 5) (h10 pf 3) v1) (pf + 6) ((zm_wr h10 (pf + 5) (h10 pf 3) v1) pf 3) v5) pf 3) ∧ ((zm_wr (zm_wr h10 (pf + 5) (h10 pf 3) v1) (pf + 6) ((zm_wr h10 (pf + 5) (h10 pf 3) v1) pf 3) v5) pf 3) < ((8 : Nat) : Int)) (zm_ck ((zm_wr (zm_wr (zm_wr h10 (pf + 5) (h10 pf 3) v1) (pf + 6) ((zm_wr h10 (pf + 5) (h10 pf 3) v1) pf 3) v5) (pf + 7) ((zm_wr (zm_wr h10 (pf + 5) (h10 pf 3) v1) (pf + 6) ((zm_wr h10 (pf + 5) (h10 pf 3) v1) pf 3) v5) pf 3) v9) 29 1 = (pf : Int)) (zm_ck ((zm_wr (zm_wr (zm_wr h10 (pf + 5) (h10 pf 3) v1) (pf + 6) ((zm_wr h10 (pf + 5) (h10 pf 3) v1) pf 3) v5) (pf + 7) ((zm_wr (zm_wr h10 (pf + 5) (h10 pf 3) v1) (pf + 6) ((zm_wr h10 (pf + 5) (h10 pf 3) v1) pf 3) v5) pf 3) v9) 29 1 = (pf : Int)) (zm_ck (zm_i32 (((zm_wr (zm_wr (zm_wr h10 (pf + 5) (h10 pf 3) v1) (pf + 6) ((zm_wr h10 (pf + 5) (h10 pf 3) v1) pf 3) v5) (pf + 7) ((zm_wr (zm_wr h10 (pf + 5) (h10 pf 3) v1) (pf + 6) ((zm_wr h10 (pf + 5) (h10 pf 3) v1) pf 3) v5) pf 3) v9) 30 5) - 7)) (zm_ck (0 ≤ ((zm_wr (zm_wr (zm_wr h10 (pf + 5) (h10 pf 3) v1) (pf + 6) ((zm_wr h10 (pf + 5) (h10 pf 3) v1) pf 3) v5) (pf + 7) ((zm_wr (zm_wr h10 (pf + 5) (h10 pf 3) v1) (pf + 6) ((zm_wr h10 (pf + 5) (h10 pf 3) v1) pf 3) v5) pf 3) v9) pf 3) ∧ ((zm_wr (zm_wr (zm_wr h10 (pf + 5) (h10 pf 3) v1) (pf + 6) ((zm_wr h10 (pf + 5) (h10 pf 3) v1) pf 3) v5) (pf + 7) ((zm_wr (zm_wr h10 (pf + 5) (h10 pf 3) v1) (pf + 6) ((zm_wr h10 (pf + 5) (h10 pf 3) v1) pf 3) v5) pf 3) v9) pf 3) < ((8 : Nat) : Int)) (zm_ck ((zm_wr (zm_wr (zm_wr (zm_wr h10 (pf + 5) (h10 pf 3) v1) (pf + 6) ((zm_wr h10 (pf + 5) (h10 pf 3) v1) pf 3) v5) (pf + 7) ((zm_wr (zm_wr h10 (pf + 5) (h10 pf 3) v1) (pf + 6) ((zm_wr h10 (pf + 5) (h10 pf 3) v1) pf 3) v5) pf 3) v9) (pf + 8) ((zm_wr (zm_wr (zm_wr h10 (pf + 5) (h10 pf 3) v1) (pf + 6) ((zm_wr h10 (pf + 5) (h10 pf 3) v1) pf 3) v5) (pf + 7) ((zm_wr (zm_wr h10 (pf + 5) (h10 pf 3) v1) (pf + 6) ((zm_wr h10 (pf + 5) (h10 pf 3) v1) pf 3) v5) pf 3) v9) pf 3) (((zm_wr (zm_wr (zm_wr h10 (pf + 5) (h10 pf 3) v1) (pf + 6) ((zm_wr h10 (pf + 5) (h10 pf 3) v1) pf 3) v5) (pf + 7) ((zm_wr (zm_wr h10 (pf + 5) (h10 pf 3) v1) (pf + 6) ((zm_wr h10 (pf + 5) (h10 pf 3) v1) pf 3) v5) pf 3) v9) 30 5) - 7)) 29 1 = (pf : Int)) (zm_ck (zm_i32 (((zm_wr (zm_wr (zm_wr (zm_wr h10 (pf + 5) (h10 pf 3) v1) (pf + 6) ((zm_wr h10 (pf + 5) (h10 pf 3) v1) pf 3) v5) (pf + 7) ((zm_wr (zm_wr h10 (pf + 5) (h10 pf 3) v1) (pf + 6) ((zm_wr h10 (pf + 5) (h10 pf 3) v1) pf 3) v5) pf 3) v9) (pf + 8) ((zm_wr (zm_wr (zm_wr h10 (pf + 5) (h10 pf 3) v1) (pf + 6) ((zm_wr h10 (pf + 5) (h10 pf 3) v1) pf 3) v5) (pf + 7) ((zm_wr (zm_wr h10 (pf + 5) (h10 pf 3) v1) (pf + 6) ((zm_wr h10 (pf + 5) (h10 pf 3) v1) pf 3) v5) pf 3) v9) pf 3) (((zm_wr (zm_wr (zm_wr h10 (pf + 5) (h10 pf 3) v1) (pf + 6) ((zm_wr h10 (pf + 5) (h10 pf 3) v1) pf 3) v5) (pf + 7) ((zm_wr (zm_wr h10 (pf + 5) (h10 pf 3) v1) (pf + 6) ((zm_wr h10 (pf + 5) (h10 pf 3) v1) pf 3) v5) pf 3) v9) 30 5) - 7)) pf 3) + 1)) (zk_V (zc 133 [zm_A 30] (zm_wr (zm_wr (zm_wr (zm_wr (zm_wr h10 (pf + 5) (h10 pf 3) v1) (pf + 6) ((zm_wr h10 (pf + 5) (h10 pf 3) v1) pf 3) v5) (pf + 7) ((zm_wr (zm_wr h10 (pf + 5) (h10 pf 3) v1) (pf + 6) ((zm_wr h10 (pf + 5) (h10 pf 3) v1) pf 3) v5) pf 3) v9) (pf + 8) ((zm_wr (zm_wr (zm_wr h10 (pf + 5) (h10 pf 3) v1) (pf + 6) ((zm_wr h10 (pf + 5) (h10 pf 3) v1) pf 3) v5) (pf + 7) ((zm_wr (zm_wr h10 (pf + 5) (h10 pf 3) v1) (pf + 6) ((zm_wr h10 (pf + 5) (h10 pf 3) v1) pf 3) v5) pf 3) v9) pf 3) (((zm_wr (zm_wr (zm_wr h10 (pf + 5) (h10 pf 3) v1) (pf + 6) ((zm_wr h10 (pf + 5) (h10 pf 3) v1) pf 3) v5) (pf + 7) ((zm_wr (zm_wr h10 (pf + 5) (h10 pf 3) v1) (pf + 6) ((zm_wr h10 (pf + 5) (h10 pf 3) v1) pf 3) v5) pf 3) v9) 30 5) - 7)) pf 3 (((zm_wr (zm_wr (zm_wr (zm_wr h10 (pf + 5) (h10 pf 3) v1) (pf + 6) ((zm_wr h10 (pf + 5) (h10 pf 3) v1) pf 3) v5) (pf + 7) ((zm_wr (zm_wr h10 (pf + 5) (h10 pf 3) v1) (pf + 6) ((zm_wr h10 (pf + 5) (h10 pf 3) v1) pf 3) v5) pf 3) v9) (pf + 8) ((zm_wr (zm_wr (zm_wr h10 (pf + 5) (h10 pf 3) v1) (pf + 6) ((zm_wr h10 (pf + 5) (h10 pf 3) v1) pf 3) v5) (pf + 7) ((zm_wr (zm_wr h10 (pf + 5) (h10 pf 3) v1) (pf + 6) ((zm_wr h10 (pf + 5) (h10 pf 3) v1) pf 3) v5) pf 3) v9) pf 3) (((zm_wr (zm_wr (zm_wr h10 (pf + 5) (h10 pf 3) v1) (pf + 6) ((zm_wr h10 (pf + 5) (h10 pf 3) v1) pf 3) v5) (pf + 7) ((zm_wr (zm_wr h10 (pf + 5) (h10 pf 3) v1) (pf + 6) ((zm_wr h10 (pf + 5) (h10 pf 3) v1) pf 3) v5) pf 3) v9) 30 5) - 7)) pf 3) + 1))) (fun h13 => zm_ck (zm_bit 1) (some (zm_I 1, h13))))))))))))))))))) else (zk_I (zc 79 [zm_A 29] h10) (fun v14 h15 => zm_ck (zm_bit v14) (some (zm_I v14, h15)))))))))))))))) (zc 87 [zm_A 29] h) := by
  rw [zc_eq (loc := [zm_A 29, zm_U, zm_U, zm_U]) (rk_87 _) rfl]
  refine zl_tr (r_aload_n d_87_0 rfl) ?_
  refine zl_tr (r_VI [zm_A 29] d_87_1 ow_87 cal_4_123 na_81 rfl rfl (Nat.le_of_ble_eq_true rfl) (by rw [rk_81]; decide) (zr_rcv la_29 ow_81) (zr_im mx_81 rfl (Nat.le_of_ble_eq_true rfl)) (by rw [rt_81]; decide)) (zl_I (fun v1 h2 => ?_))
  refine zl_tr (r_istore_n (loc' := [zm_A 29, zm_I v1, zm_U, zm_U]) d_87_4 (Nat.le_of_ble_eq_true rfl) rfl) ?_
  refine zl_tr (r_iload_n d_87_5 rfl) ?_
  refine zl_tr (r_iconst d_87_6 (by decide)) ?_
  refine zl_tr (r_icmp_eq (tgt := 18) d_87_7 (by decide)) (zl_if ?_ ?_)
  · skip
    refine zl_tr (r_iconst d_87_18 (by decide)) ?_
    exact r_zret d_87_19 rt_87
  · skip
    refine zl_tr (r_aload_n d_87_10 rfl) ?_
    refine zl_tr (r_iconst d_87_11 (by decide)) ?_
    refine zl_tr (r_VI [zm_A 29, zm_I 5] d_87_12 ow_87 cal_4_127 na_83 rfl rfl (Nat.le_of_ble_eq_true rfl) (by rw [rk_83]; decide) (zr_rcv la_29 ow_83) (zr_im mx_83 rfl (Nat.le_of_ble_eq_true rfl)) (by rw [rt_83]; decide)) (zl_I (fun v3 h4 => ?_))
    refine zl_tr (r_if_ne (tgt := 20) d_87_15 (by decide)) (zl_if ?_ ?_)
    · skip
      refine zl_tr (r_iconst d_87_18 (by decide)) ?_
      exact r_zret d_87_19 rt_87
    · skip
      refine zl_tr (r_aload_n d_87_20 rfl) ?_
      refine zl_tr (r_iconst d_87_21 (by decide)) ?_
      refine zl_tr (r_iconst d_87_22 (by decide)) ?_
      refine zl_tr (r_VI [zm_A 29, zm_I 1, zm_I 5] d_87_23 ow_87 cal_4_130 na_84 rfl rfl (Nat.le_of_ble_eq_true rfl) (by rw [rk_84]; decide) (zr_rcv la_29 ow_84) (zr_im mx_84 rfl (Nat.le_of_ble_eq_true rfl)) (by rw [rt_84]; decide)) (zl_I (fun v5 h6 => ?_))
      refine zl_tr (r_istore_n (loc' := [zm_A 29, zm_I v1, zm_I v5, zm_U]) d_87_26 (Nat.le_of_ble_eq_true rfl) rfl) ?_
      refine zl_tr (r_iload_n d_87_27 rfl) ?_
      refine zl_tr (r_iconst d_87_28 (by decide)) ?_
      refine zl_tr (r_icmp_eq (tgt := 41) d_87_29 (by decide)) (zl_if ?_ ?_)
      · skip
        refine zl_tr (r_iconst d_87_41 (by decide)) ?_
        exact r_zret d_87_42 rt_87
      · skip
        refine zl_tr (r_aload_n d_87_32 rfl) ?_
        refine zl_tr (r_bipush d_87_33 (by decide)) ?_
        refine zl_tr (r_VI [zm_A 29, zm_I 6] d_87_35 ow_87 cal_4_127 na_83 rfl rfl (Nat.le_of_ble_eq_true rfl) (by rw [rk_83]; decide) (zr_rcv la_29 ow_83) (zr_im mx_83 rfl (Nat.le_of_ble_eq_true rfl)) (by rw [rt_83]; decide)) (zl_I (fun v7 h8 => ?_))
        refine zl_tr (r_if_ne (tgt := 43) d_87_38 (by decide)) (zl_if ?_ ?_)
        · skip
          refine zl_tr (r_iconst d_87_41 (by decide)) ?_
          exact r_zret d_87_42 rt_87
        · skip
          refine zl_tr (r_aload_n d_87_43 rfl) ?_
          refine zl_tr (r_iconst d_87_44 (by decide)) ?_
          refine zl_tr (r_iconst d_87_45 (by decide)) ?_
          refine zl_tr (r_VI [zm_A 29, zm_I 0, zm_I 3] d_87_46 ow_87 cal_4_130 na_84 rfl rfl (Nat.le_of_ble_eq_true rfl) (by rw [rk_84]; decide) (zr_rcv la_29 ow_84) (zr_im mx_84 rfl (Nat.le_of_ble_eq_true rfl)) (by rw [rt_84]; decide)) (zl_I (fun v9 h10 => ?_))
          refine zl_tr (r_istore_n (loc' := [zm_A 29, zm_I v1, zm_I v5, zm_I v9]) d_87_49 (Nat.le_of_ble_eq_true rfl) rfl) ?_
          refine zl_tr (r_iload_n d_87_50 rfl) ?_
          refine zl_tr (r_iconst d_87_51 (by decide)) ?_
          refine zl_tr (r_icmp_ne (tgt := 57) d_87_52 (by decide)) (zl_if ?_ ?_)
          · skip
            refine zl_tr (r_iconst d_87_55 (by decide)) ?_
            exact r_zret d_87_56 rt_87
          · skip
            refine zl_tr (r_aload_n d_87_57 rfl) ?_
            refine zl_tr (r_getR d_87_58 ow_87 f_4_20 la_29 (by decide) fr_29_0) ?_
            refine zl_tr (r_getI (kk := 5) d_87_61 ow_87 f_4_59 la_30 (by decide) rfl) ?_
            refine zl_tr (r_bipush d_87_64 (by decide)) ?_
            refine zl_tr (r_icmp_lt (tgt := 81) d_87_66 (by decide)) (zl_if ?_ ?_)
            · skip
              refine zl_tr (r_aload_n d_87_81 rfl) ?_
              refine zl_tr (r_VI [zm_A 29] d_87_82 ow_87 cal_4_69 na_79 rfl rfl (Nat.le_of_ble_eq_true rfl) (by rw [rk_79]; decide) (zr_rcv la_29 ow_79) (zr_im mx_79 rfl (Nat.le_of_ble_eq_true rfl)) (by rw [rt_79]; decide)) (zl_I (fun v11 h12 => ?_))
              exact r_zret d_87_85 rt_87
            · skip
              refine zl_tr (r_aload_n d_87_69 rfl) ?_
              refine zl_tr (r_getR d_87_70 ow_87 f_4_20 la_29 (by decide) fr_29_0) ?_
              refine zl_tr (r_getI (kk := 5) d_87_73 ow_87 f_4_59 la_30 (by decide) rfl) ?_
              refine zl_tr (r_bipush d_87_76 (by decide)) ?_
              refine zl_tr (r_icmp_le (tgt := 86) d_87_78 (by decide)) (zl_if ?_ ?_)
              · skip
                refine zl_tr (r_aload_n d_87_86 rfl) ?_
                refine zl_tr (r_getN (b := pf) (kk := 1) d_87_87 ow_87 f_4_24 la_29 (by decide) (zf_3 hpf) rfl) (zl_ck ?_)
                refine zl_tr (r_getR d_87_90 ow_87 f_4_163 (zf_o hpf) (by decide) (zf_r9 hpf)) ?_
                refine zl_tr (r_aload_n d_87_93 rfl) ?_
                refine zl_tr (r_getN (b := pf) (kk := 1) d_87_94 ow_87 f_4_24 la_29 (by decide) (zf_3 hpf) rfl) (zl_ck ?_)
                refine zl_tr (r_getI (kk := 3) d_87_97 ow_87 f_4_120 (zf_o hpf) (by decide) rfl) ?_
                refine zl_tr (r_iload_n d_87_100 rfl) ?_
                refine zl_tr (r_iastore d_87_101 (zf_a5 hpf)) (zl_ck ?_)
                refine zl_tr (r_aload_n d_87_102 rfl) ?_
                refine zl_tr (r_getN (b := pf) (kk := 1) d_87_103 ow_87 f_4_24 la_29 (by decide) (zf_3 hpf) rfl) (zl_ck ?_)
                refine zl_tr (r_getR d_87_106 ow_87 f_4_166 (zf_o hpf) (by decide) (zf_r10 hpf)) ?_
                refine zl_tr (r_aload_n d_87_109 rfl) ?_
                refine zl_tr (r_getN (b := pf) (kk := 1) d_87_110 ow_87 f_4_24 la_29 (by decide) (zf_3 hpf) rfl) (zl_ck ?_)
                refine zl_tr (r_getI (kk := 3) d_87_113 ow_87 f_4_120 (zf_o hpf) (by decide) rfl) ?_
                refine zl_tr (r_iload_n d_87_116 rfl) ?_
                refine zl_tr (r_iastore d_87_117 (zf_a6 hpf)) (zl_ck ?_)
                refine zl_tr (r_aload_n d_87_118 rfl) ?_
                refine zl_tr (r_getN (b := pf) (kk := 1) d_87_119 ow_87 f_4_24 la_29 (by decide) (zf_3 hpf) rfl) (zl_ck ?_)
                refine zl_tr (r_getR d_87_122 ow_87 f_4_169 (zf_o hpf) (by decide) (zf_r11 hpf)) ?_
                refine zl_tr (r_aload_n d_87_125 rfl) ?_
                refine zl_tr (r_getN (b := pf) (kk := 1) d_87_126 ow_87 f_4_24 la_29 (by decide) (zf_3 hpf) rfl) (zl_ck ?_)
                refine zl_tr (r_getI (kk := 3) d_87_129 ow_87 f_4_120 (zf_o hpf) (by decide) rfl) ?_
                refine zl_tr (r_iload_n d_87_132 rfl) ?_
                refine zl_tr (r_iastore d_87_133 (zf_a7 hpf)) (zl_ck ?_)
                refine zl_tr (r_aload_n d_87_134 rfl) ?_
                refine zl_tr (r_getN (b := pf) (kk := 1) d_87_135 ow_87 f_4_24 la_29 (by decide) (zf_3 hpf) rfl) (zl_ck ?_)
                refine zl_tr (r_getR d_87_138 ow_87 f_4_172 (zf_o hpf) (by decide) (zf_r12 hpf)) ?_
                refine zl_tr (r_aload_n d_87_141 rfl) ?_
                refine zl_tr (r_getN (b := pf) (kk := 1) d_87_142 ow_87 f_4_24 la_29 (by decide) (zf_3 hpf) rfl) (zl_ck ?_)
                refine zl_tr (r_getI (kk := 3) d_87_145 ow_87 f_4_120 (zf_o hpf) (by decide) rfl) ?_
                refine zl_tr (r_aload_n d_87_148 rfl) ?_
                refine zl_tr (r_getR d_87_149 ow_87 f_4_20 la_29 (by decide) fr_29_0) ?_
                refine zl_tr (r_getI (kk := 5) d_87_152 ow_87 f_4_59 la_30 (by decide) rfl) ?_
                refine zl_tr (r_bipush d_87_155 (by decide)) ?_
                refine zl_tr (r_isub d_87_157) (zl_ck ?_)
                refine zl_tr (r_iastore d_87_158 (zf_a8 hpf)) (zl_ck ?_)
                refine zl_tr (r_aload_n d_87_159 rfl) ?_
                refine zl_tr (r_getN (b := pf) (kk := 1) d_87_160 ow_87 f_4_24 la_29 (by decide) (zf_3 hpf) rfl) (zl_ck ?_)
                refine zl_tr (r_dup d_87_163 rfl) ?_
                refine zl_tr (r_getI (kk := 3) d_87_164 ow_87 f_4_120 (zf_o hpf) (by decide) rfl) ?_
                refine zl_tr (r_iconst d_87_167 (by decide)) ?_
                refine zl_tr (r_iadd d_87_168) (zl_ck ?_)
                refine zl_tr (r_putI (kk := 3) d_87_169 ow_87 f_4_120 (zf_o hpf) (by decide) rfl) ?_
                refine zl_tr (r_aload_n d_87_172 rfl) ?_
                refine zl_tr (r_getR d_87_173 ow_87 f_4_20 la_29 (by decide) fr_29_0) ?_
                refine zl_tr (r_VV [zm_A 30] d_87_176 ow_87 cal_4_72 na_133 rfl rfl (Nat.le_of_ble_eq_true rfl) (by rw [rk_133]; decide) (zr_rcv la_30 ow_133) (zr_im mx_133 rfl (Nat.le_of_ble_eq_true rfl)) rt_133) (zl_V (fun h13 => ?_))
                refine zl_tr (r_iconst d_87_179 (by decide)) ?_
                exact r_zret d_87_180 rt_87
              · skip
                refine zl_tr (r_aload_n d_87_81 rfl) ?_
                refine zl_tr (r_VI [zm_A 29] d_87_82 ow_87 cal_4_69 na_79 rfl rfl (Nat.le_of_ble_eq_true rfl) (by rw [rk_79]; decide) (zr_rcv la_29 ow_79) (zr_im mx_79 rfl (Nat.le_of_ble_eq_true rfl)) (by rw [rt_79]; decide)) (zl_I (fun v14 h15 => ?_))
                exact r_zret d_87_85 rt_87
-- BranTub$Parser.tellLikes
set_option maxRecDepth 20000 in
theorem e_88 {h : zm_H} {pf : Nat} (hpf : zf_F pf) : zl (zk_I (zc 82 [zm_A 29] h) (fun v1 h2 => if v1 = 0 then (zk_I (zc 79 [zm_A 29] h2) (fun v3 h4 => zm_ck (zm_bit v3) (some (zm_I v3, h4)))) else (zm_ck (h2 29 1 = (pf : Int)) (zk_I (zc 62 [zm_A pf, zm_I (h2 30 4)] h2) (fun v5 h6 => if v5 = (-1) then (zk_I (zc 76 [zm_A 29, zm_I 3, zm_I (h6 30 6)] h6) (fun v7 h8 => zm_ck (zm_bit v7) (some (zm_I v7, h8)))) else (zk_V (zc 133 [zm_A 30] h6) (fun h9 => zk_I (zc 82 [zm_A 29] h9) (fun v10 h11 => if v10 = 0 then (zk_I (zc 79 [zm_A 29] h11) (fun v12 h13 => zm_ck (zm_bit v12) (some (zm_I v12, h13)))) else (zm_ck (h11 29 1 = (pf : Int)) (zk_I (zc 61 [zm_A pf, zm_I (h11 30 4)] h11) (fun v14 h15 => if v14 = (-1) then (zk_I (zc 76 [zm_A 29, zm_I 3, zm_I (h15 30 6)] h15) (fun v16 h17 => zm_ck (zm_bit v16) (some (zm_I v16, h17)))) else (zk_V (zc 133 [zm_A 30] h15) (fun h18 => zk_I (zc 84 [zm_A 29, zm_I 0, zm_I 99] h18) (fun v19 h20 => if v19 = (-1) then (zm_ck (zm_bit 0) (some (zm_I 0, h20))) else (zm_ck (h20 29 1 = (pf : Int)) (zm_ck (zm_i32 (v5 * 8)) (zm_ck (zm_i32 ((v5 * 8) + v14)) (zm_ck (0 ≤ ((v5 * 8) + v14) ∧ ((v5 * 8) + v14) < ((64 : Nat) : Int)) (zm_ck (zm_bit 1) (some (zm_I 1, (zm_wr h20 (pf + 9) ((v5 * 8) + v14) v19)))))))))))))))))))))) (zc 88 [zm_A 29] h) := by
  rw [zc_eq (loc := [zm_A 29, zm_U, zm_U, zm_U]) (rk_88 _) rfl]
  refine zl_tr (r_aload_n d_88_0 rfl) ?_
  refine zl_tr (r_VI [zm_A 29] d_88_1 ow_88 cal_4_150 na_82 rfl rfl (Nat.le_of_ble_eq_true rfl) (by rw [rk_82]; decide) (zr_rcv la_29 ow_82) (zr_im mx_82 rfl (Nat.le_of_ble_eq_true rfl)) (by rw [rt_82]; decide)) (zl_I (fun v1 h2 => ?_))
  refine zl_tr (r_if_ne (tgt := 12) d_88_4 (by decide)) (zl_if ?_ ?_)
  · skip
    refine zl_tr (r_aload_n d_88_7 rfl) ?_
    refine zl_tr (r_VI [zm_A 29] d_88_8 ow_88 cal_4_69 na_79 rfl rfl (Nat.le_of_ble_eq_true rfl) (by rw [rk_79]; decide) (zr_rcv la_29 ow_79) (zr_im mx_79 rfl (Nat.le_of_ble_eq_true rfl)) (by rw [rt_79]; decide)) (zl_I (fun v3 h4 => ?_))
    exact r_zret d_88_11 rt_88
  · skip
    refine zl_tr (r_aload_n d_88_12 rfl) ?_
    refine zl_tr (r_getN (b := pf) (kk := 1) d_88_13 ow_88 f_4_24 la_29 (by decide) (zf_3 hpf) rfl) (zl_ck ?_)
    refine zl_tr (r_aload_n d_88_16 rfl) ?_
    refine zl_tr (r_getR d_88_17 ow_88 f_4_20 la_29 (by decide) fr_29_0) ?_
    refine zl_tr (r_getI (kk := 4) d_88_20 ow_88 f_4_153 la_30 (by decide) rfl) ?_
    refine zl_tr (r_VI [zm_A pf, zm_I (h2 30 4)] d_88_23 ow_88 cal_4_175 na_62 rfl rfl (Nat.le_of_ble_eq_true rfl) (by rw [rk_62]; decide) (zr_rcv (zf_o hpf) ow_62) (zr_im mx_62 rfl (Nat.le_of_ble_eq_true rfl)) (by rw [rt_62]; decide)) (zl_I (fun v5 h6 => ?_))
    refine zl_tr (r_istore_n (loc' := [zm_A 29, zm_I v5, zm_U, zm_U]) d_88_26 (Nat.le_of_ble_eq_true rfl) rfl) ?_
    refine zl_tr (r_iload_n d_88_27 rfl) ?_
    refine zl_tr (r_iconst d_88_28 (by decide)) ?_
    refine zl_tr (r_icmp_ne (tgt := 45) d_88_29 (by decide)) (zl_if ?_ ?_)
    · skip
      refine zl_tr (r_aload_n d_88_32 rfl) ?_
      refine zl_tr (r_iconst d_88_33 (by decide)) ?_
      refine zl_tr (r_aload_n d_88_34 rfl) ?_
      refine zl_tr (r_getR d_88_35 ow_88 f_4_20 la_29 (by decide) fr_29_0) ?_
      refine zl_tr (r_getI (kk := 6) d_88_38 ow_88 f_4_56 la_30 (by decide) rfl) ?_
      refine zl_tr (r_VI [zm_A 29, zm_I 3, zm_I (h6 30 6)] d_88_41 ow_88 cal_4_52 na_76 rfl rfl (Nat.le_of_ble_eq_true rfl) (by rw [rk_76]; decide) (zr_rcv la_29 ow_76) (zr_im mx_76 rfl (Nat.le_of_ble_eq_true rfl)) (by rw [rt_76]; decide)) (zl_I (fun v7 h8 => ?_))
      exact r_zret d_88_44 rt_88
    · skip
      refine zl_tr (r_aload_n d_88_45 rfl) ?_
      refine zl_tr (r_getR d_88_46 ow_88 f_4_20 la_29 (by decide) fr_29_0) ?_
      refine zl_tr (r_VV [zm_A 30] d_88_49 ow_88 cal_4_72 na_133 rfl rfl (Nat.le_of_ble_eq_true rfl) (by rw [rk_133]; decide) (zr_rcv la_30 ow_133) (zr_im mx_133 rfl (Nat.le_of_ble_eq_true rfl)) rt_133) (zl_V (fun h9 => ?_))
      refine zl_tr (r_aload_n d_88_52 rfl) ?_
      refine zl_tr (r_VI [zm_A 29] d_88_53 ow_88 cal_4_150 na_82 rfl rfl (Nat.le_of_ble_eq_true rfl) (by rw [rk_82]; decide) (zr_rcv la_29 ow_82) (zr_im mx_82 rfl (Nat.le_of_ble_eq_true rfl)) (by rw [rt_82]; decide)) (zl_I (fun v10 h11 => ?_))
      refine zl_tr (r_if_ne (tgt := 64) d_88_56 (by decide)) (zl_if ?_ ?_)
      · skip
        refine zl_tr (r_aload_n d_88_59 rfl) ?_
        refine zl_tr (r_VI [zm_A 29] d_88_60 ow_88 cal_4_69 na_79 rfl rfl (Nat.le_of_ble_eq_true rfl) (by rw [rk_79]; decide) (zr_rcv la_29 ow_79) (zr_im mx_79 rfl (Nat.le_of_ble_eq_true rfl)) (by rw [rt_79]; decide)) (zl_I (fun v12 h13 => ?_))
        exact r_zret d_88_63 rt_88
      · skip
        refine zl_tr (r_aload_n d_88_64 rfl) ?_
        refine zl_tr (r_getN (b := pf) (kk := 1) d_88_65 ow_88 f_4_24 la_29 (by decide) (zf_3 hpf) rfl) (zl_ck ?_)
        refine zl_tr (r_aload_n d_88_68 rfl) ?_
        refine zl_tr (r_getR d_88_69 ow_88 f_4_20 la_29 (by decide) fr_29_0) ?_
        refine zl_tr (r_getI (kk := 4) d_88_72 ow_88 f_4_153 la_30 (by decide) rfl) ?_
        refine zl_tr (r_VI [zm_A pf, zm_I (h11 30 4)] d_88_75 ow_88 cal_4_156 na_61 rfl rfl (Nat.le_of_ble_eq_true rfl) (by rw [rk_61]; decide) (zr_rcv (zf_o hpf) ow_61) (zr_im mx_61 rfl (Nat.le_of_ble_eq_true rfl)) (by rw [rt_61]; decide)) (zl_I (fun v14 h15 => ?_))
        refine zl_tr (r_istore_n (loc' := [zm_A 29, zm_I v5, zm_I v14, zm_U]) d_88_78 (Nat.le_of_ble_eq_true rfl) rfl) ?_
        refine zl_tr (r_iload_n d_88_79 rfl) ?_
        refine zl_tr (r_iconst d_88_80 (by decide)) ?_
        refine zl_tr (r_icmp_ne (tgt := 97) d_88_81 (by decide)) (zl_if ?_ ?_)
        · skip
          refine zl_tr (r_aload_n d_88_84 rfl) ?_
          refine zl_tr (r_iconst d_88_85 (by decide)) ?_
          refine zl_tr (r_aload_n d_88_86 rfl) ?_
          refine zl_tr (r_getR d_88_87 ow_88 f_4_20 la_29 (by decide) fr_29_0) ?_
          refine zl_tr (r_getI (kk := 6) d_88_90 ow_88 f_4_56 la_30 (by decide) rfl) ?_
          refine zl_tr (r_VI [zm_A 29, zm_I 3, zm_I (h15 30 6)] d_88_93 ow_88 cal_4_52 na_76 rfl rfl (Nat.le_of_ble_eq_true rfl) (by rw [rk_76]; decide) (zr_rcv la_29 ow_76) (zr_im mx_76 rfl (Nat.le_of_ble_eq_true rfl)) (by rw [rt_76]; decide)) (zl_I (fun v16 h17 => ?_))
          exact r_zret d_88_96 rt_88
        · skip
          refine zl_tr (r_aload_n d_88_97 rfl) ?_
          refine zl_tr (r_getR d_88_98 ow_88 f_4_20 la_29 (by decide) fr_29_0) ?_
          refine zl_tr (r_VV [zm_A 30] d_88_101 ow_88 cal_4_72 na_133 rfl rfl (Nat.le_of_ble_eq_true rfl) (by rw [rk_133]; decide) (zr_rcv la_30 ow_133) (zr_im mx_133 rfl (Nat.le_of_ble_eq_true rfl)) rt_133) (zl_V (fun h18 => ?_))
          refine zl_tr (r_aload_n d_88_104 rfl) ?_
          refine zl_tr (r_iconst d_88_105 (by decide)) ?_
          refine zl_tr (r_bipush d_88_106 (by decide)) ?_
          refine zl_tr (r_VI [zm_A 29, zm_I 0, zm_I 99] d_88_108 ow_88 cal_4_130 na_84 rfl rfl (Nat.le_of_ble_eq_true rfl) (by rw [rk_84]; decide) (zr_rcv la_29 ow_84) (zr_im mx_84 rfl (Nat.le_of_ble_eq_true rfl)) (by rw [rt_84]; decide)) (zl_I (fun v19 h20 => ?_))
          refine zl_tr (r_istore_n (loc' := [zm_A 29, zm_I v5, zm_I v14, zm_I v19]) d_88_111 (Nat.le_of_ble_eq_true rfl) rfl) ?_
          refine zl_tr (r_iload_n d_88_112 rfl) ?_
          refine zl_tr (r_iconst d_88_113 (by decide)) ?_
          refine zl_tr (r_icmp_ne (tgt := 119) d_88_114 (by decide)) (zl_if ?_ ?_)
          · skip
            refine zl_tr (r_iconst d_88_117 (by decide)) ?_
            exact r_zret d_88_118 rt_88
          · skip
            refine zl_tr (r_aload_n d_88_119 rfl) ?_
            refine zl_tr (r_getN (b := pf) (kk := 1) d_88_120 ow_88 f_4_24 la_29 (by decide) (zf_3 hpf) rfl) (zl_ck ?_)
            refine zl_tr (r_getR d_88_123 ow_88 f_4_178 (zf_o hpf) (by decide) (zf_r13 hpf)) ?_
            refine zl_tr (r_iload_n d_88_126 rfl) ?_
            refine zl_tr (r_bipush d_88_127 (by decide)) ?_
            refine zl_tr (r_imul d_88_129) (zl_ck ?_)
            refine zl_tr (r_iload_n d_88_130 rfl) ?_
            refine zl_tr (r_iadd d_88_131) (zl_ck ?_)
            refine zl_tr (r_iload_n d_88_132 rfl) ?_
            refine zl_tr (r_iastore d_88_133 (zf_a9 hpf)) (zl_ck ?_)
            refine zl_tr (r_iconst d_88_134 (by decide)) ?_
            exact r_zret d_88_135 rt_88
-- BranTub$Parser.tellPurse
set_option maxRecDepth 20000 in
theorem e_89 {h : zm_H} {pf : Nat} (hpf : zf_F pf) : zl (zk_I (zc 84 [zm_A 29, zm_I 0, zm_I 999] h) (fun v1 h2 => if v1 = (-1) then (zm_ck (zm_bit 0) (some (zm_I 0, h2))) else (zm_ck (h2 29 1 = (pf : Int)) (zm_ck (zm_bit 1) (some (zm_I 1, (zm_wr h2 pf 4 v1))))))) (zc 89 [zm_A 29] h) := by
  rw [zc_eq (loc := [zm_A 29, zm_U]) (rk_89 _) rfl]
  refine zl_tr (r_aload_n d_89_0 rfl) ?_
  refine zl_tr (r_iconst d_89_1 (by decide)) ?_
  refine zl_tr (r_sipush d_89_2 (by decide)) ?_
  refine zl_tr (r_VI [zm_A 29, zm_I 0, zm_I 999] d_89_5 ow_89 cal_4_130 na_84 rfl rfl (Nat.le_of_ble_eq_true rfl) (by rw [rk_84]; decide) (zr_rcv la_29 ow_84) (zr_im mx_84 rfl (Nat.le_of_ble_eq_true rfl)) (by rw [rt_84]; decide)) (zl_I (fun v1 h2 => ?_))
  refine zl_tr (r_istore_n (loc' := [zm_A 29, zm_I v1]) d_89_8 (Nat.le_of_ble_eq_true rfl) rfl) ?_
  refine zl_tr (r_iload_n d_89_9 rfl) ?_
  refine zl_tr (r_iconst d_89_10 (by decide)) ?_
  refine zl_tr (r_icmp_ne (tgt := 16) d_89_11 (by decide)) (zl_if ?_ ?_)
  · skip
    refine zl_tr (r_iconst d_89_14 (by decide)) ?_
    exact r_zret d_89_15 rt_89
  · skip
    refine zl_tr (r_aload_n d_89_16 rfl) ?_
    refine zl_tr (r_getN (b := pf) (kk := 1) d_89_17 ow_89 f_4_24 la_29 (by decide) (zf_3 hpf) rfl) (zl_ck ?_)
    refine zl_tr (r_iload_n d_89_20 rfl) ?_
    refine zl_tr (r_putI (kk := 4) d_89_21 ow_89 f_4_181 (zf_o hpf) (by decide) rfl) ?_
    refine zl_tr (r_iconst d_89_24 (by decide)) ?_
    exact r_zret d_89_25 rt_89
-- BranTub$Parser.sum
set_option maxRecDepth 20000 in
theorem e_90 {h : zm_H} {x1 : Int} {rk : Nat} : zl (zm_ck (zm_rk 91 [zm_A 29, zm_I x1] < rk) (zk_I (zc 91 [zm_A 29, zm_I x1] h) (fun v1 h2 => if v1 = 0 then (zm_ck (zm_bit 0) (some (zm_I 0, h2))) else (zr none rk 90 12 [zm_A 29, zm_I x1, zm_I 0, zm_U] [] h2)))) (zr none rk 90 0 [zm_A 29, zm_I x1, zm_U, zm_U] [] h) := by
  refine zl_tr (r_aload_n d_90_0 rfl) ?_
  refine zl_tr (r_iload_n d_90_1 rfl) ?_
  refine zl_ckh (p := zm_rk 91 [zm_A 29, zm_I x1] < rk) (fun hrk => ?_)
  refine zl_tr (r_VI [zm_A 29, zm_I x1] d_90_2 ow_90 cal_4_203 na_91 rfl rfl (Nat.le_of_ble_eq_true rfl) hrk (zr_rcv la_29 ow_91) (zr_im mx_91 rfl (Nat.le_of_ble_eq_true rfl)) (by rw [rt_91]; decide)) (zl_I (fun v1 h2 => ?_))
  refine zl_tr (r_if_ne (tgt := 10) d_90_5 (by decide)) (zl_if ?_ ?_)
  · skip
    refine zl_tr (r_iconst d_90_8 (by decide)) ?_
    exact r_zret d_90_9 rt_90
  · skip
    refine zl_tr (r_iconst d_90_10 (by decide)) ?_
    refine zl_tr (r_istore_n (loc' := [zm_A 29, zm_I x1, zm_I 0, zm_U]) d_90_11 (Nat.le_of_ble_eq_true rfl) rfl) ?_
    exact zl_rf
theorem c_90 {h : zm_H} {x1 : Int} : zc 90 [zm_A 29, zm_I x1] h = zr none (zm_rk 90 [zm_A 29, zm_I x1]) 90 0 [zm_A 29, zm_I x1, zm_U, zm_U] [] h := rfl
-- BranTub$Parser.sum, from 12
set_option maxRecDepth 20000 in
theorem e_90_12 {h : zm_H} {x1 : Int} {x2 : Int} {w3 : zm_V} {pf : Nat} (hpf : zf_F pf) {rk : Nat} : zl (if x2 < 1600 then (zm_ck (2 < rk) (zk_I (zc 98 [zm_A 29] h) (fun v1 h2 => if v1 = 0 then (zm_ck (zm_bit 1) (some (zm_I 1, h2))) else (zm_ck (2 < rk) (zk_V (zc 133 [zm_A 30] h2) (fun h3 => zm_ck (zm_rk 91 [zm_A 29, zm_I x1] < rk) (zk_I (zc 91 [zm_A 29, zm_I x1] h3) (fun v4 h5 => if v4 = 0 then (zm_ck (zm_bit 0) (some (zm_I 0, h5))) else (zm_ck (h5 29 1 = (pf : Int)) (zm_ck (1 < rk) (zk_V (zc 63 [zm_A pf, zm_I v1] h5) (fun h6 => zm_ck (zm_i32 (x2 + 1)) (zr none rk 90 12 [zm_A 29, zm_I x1, zm_I (x2 + 1), zm_I v1] [] h6))))))))))))) else (zm_ck (zm_bit 1) (some (zm_I 1, h)))) (zr none rk 90 12 [zm_A 29, zm_I x1, zm_I x2, w3] [] h) := by
  refine zl_tr (r_iload_n d_90_12 rfl) ?_
  refine zl_tr (r_sipush d_90_13 (by decide)) ?_
  refine zl_tr (r_icmp_ge (tgt := 61) d_90_16 (by decide)) (zl_if ?_ ?_)
  · skip
    refine zl_tr (r_aload_n d_90_19 rfl) ?_
    refine zl_ckh (p := 2 < rk) (fun hrk => ?_)
    refine zl_tr (r_VI [zm_A 29] d_90_20 ow_90 cal_4_206 na_98 rfl rfl (Nat.le_of_ble_eq_true rfl) (by rw [rk_98]; exact hrk) (zr_rcv la_29 ow_98) (zr_im mx_98 rfl (Nat.le_of_ble_eq_true rfl)) (by rw [rt_98]; decide)) (zl_I (fun v1 h2 => ?_))
    refine zl_tr (r_istore_n (loc' := [zm_A 29, zm_I x1, zm_I x2, zm_I v1]) d_90_23 (Nat.le_of_ble_eq_true rfl) rfl) ?_
    refine zl_tr (r_iload_n d_90_24 rfl) ?_
    refine zl_tr (r_if_ne (tgt := 30) d_90_25 (by decide)) (zl_if ?_ ?_)
    · skip
      refine zl_tr (r_iconst d_90_28 (by decide)) ?_
      exact r_zret d_90_29 rt_90
    · skip
      refine zl_tr (r_aload_n d_90_30 rfl) ?_
      refine zl_tr (r_getR d_90_31 ow_90 f_4_20 la_29 (by decide) fr_29_0) ?_
      refine zl_ckh (p := 2 < rk) (fun hrk => ?_)
      refine zl_tr (r_VV [zm_A 30] d_90_34 ow_90 cal_4_72 na_133 rfl rfl (Nat.le_of_ble_eq_true rfl) (by rw [rk_133]; exact hrk) (zr_rcv la_30 ow_133) (zr_im mx_133 rfl (Nat.le_of_ble_eq_true rfl)) rt_133) (zl_V (fun h3 => ?_))
      refine zl_tr (r_aload_n d_90_37 rfl) ?_
      refine zl_tr (r_iload_n d_90_38 rfl) ?_
      refine zl_ckh (p := zm_rk 91 [zm_A 29, zm_I x1] < rk) (fun hrk => ?_)
      refine zl_tr (r_VI [zm_A 29, zm_I x1] d_90_39 ow_90 cal_4_203 na_91 rfl rfl (Nat.le_of_ble_eq_true rfl) hrk (zr_rcv la_29 ow_91) (zr_im mx_91 rfl (Nat.le_of_ble_eq_true rfl)) (by rw [rt_91]; decide)) (zl_I (fun v4 h5 => ?_))
      refine zl_tr (r_if_ne (tgt := 47) d_90_42 (by decide)) (zl_if ?_ ?_)
      · skip
        refine zl_tr (r_iconst d_90_45 (by decide)) ?_
        exact r_zret d_90_46 rt_90
      · skip
        refine zl_tr (r_aload_n d_90_47 rfl) ?_
        refine zl_tr (r_getN (b := pf) (kk := 1) d_90_48 ow_90 f_4_24 la_29 (by decide) (zf_3 hpf) rfl) (zl_ck ?_)
        refine zl_tr (r_iload_n d_90_51 rfl) ?_
        refine zl_ckh (p := 1 < rk) (fun hrk => ?_)
        refine zl_tr (r_VV [zm_A pf, zm_I v1] d_90_52 ow_90 cal_4_190 na_63 rfl rfl (Nat.le_of_ble_eq_true rfl) (by rw [rk_63]; exact hrk) (zr_rcv (zf_o hpf) ow_63) (zr_im mx_63 rfl (Nat.le_of_ble_eq_true rfl)) rt_63) (zl_V (fun h6 => ?_))
        refine zl_tr (r_iinc (loc' := [zm_A 29, zm_I x1, zm_I (x2 + 1), zm_I v1]) d_90_55 rfl (Nat.le_of_ble_eq_true rfl) rfl) (zl_ck ?_)
        refine zl_tr (r_goto (tgt := 12) d_90_58 (by decide)) ?_
        exact zl_rf
  · skip
    refine zl_tr (r_iconst d_90_61 (by decide)) ?_
    exact r_zret d_90_62 rt_90
-- BranTub$Parser.product
set_option maxRecDepth 20000 in
theorem e_91 {h : zm_H} {x1 : Int} {rk : Nat} : zl (zm_ck (zm_rk 92 [zm_A 29, zm_I x1] < rk) (zk_I (zc 92 [zm_A 29, zm_I x1] h) (fun v1 h2 => if v1 = 0 then (zm_ck (zm_bit 0) (some (zm_I 0, h2))) else (zr none rk 91 12 [zm_A 29, zm_I x1, zm_I 0, zm_U] [] h2)))) (zr none rk 91 0 [zm_A 29, zm_I x1, zm_U, zm_U] [] h) := by
  refine zl_tr (r_aload_n d_91_0 rfl) ?_
  refine zl_tr (r_iload_n d_91_1 rfl) ?_
  refine zl_ckh (p := zm_rk 92 [zm_A 29, zm_I x1] < rk) (fun hrk => ?_)
  refine zl_tr (r_VI [zm_A 29, zm_I x1] d_91_2 ow_91 cal_4_209 na_92 rfl rfl (Nat.le_of_ble_eq_true rfl) hrk (zr_rcv la_29 ow_92) (zr_im mx_92 rfl (Nat.le_of_ble_eq_true rfl)) (by rw [rt_92]; decide)) (zl_I (fun v1 h2 => ?_))
  refine zl_tr (r_if_ne (tgt := 10) d_91_5 (by decide)) (zl_if ?_ ?_)
  · skip
    refine zl_tr (r_iconst d_91_8 (by decide)) ?_
    exact r_zret d_91_9 rt_91
  · skip
    refine zl_tr (r_iconst d_91_10 (by decide)) ?_
    refine zl_tr (r_istore_n (loc' := [zm_A 29, zm_I x1, zm_I 0, zm_U]) d_91_11 (Nat.le_of_ble_eq_true rfl) rfl) ?_
    exact zl_rf
theorem c_91 {h : zm_H} {x1 : Int} : zc 91 [zm_A 29, zm_I x1] h = zr none (zm_rk 91 [zm_A 29, zm_I x1]) 91 0 [zm_A 29, zm_I x1, zm_U, zm_U] [] h := rfl
-- BranTub$Parser.product, from 12
set_option maxRecDepth 20000 in
theorem e_91_12 {h : zm_H} {x1 : Int} {x2 : Int} {w3 : zm_V} {pf : Nat} (hpf : zf_F pf) {rk : Nat} : zl (if x2 < 1600 then (zm_ck (2 < rk) (zk_I (zc 97 [zm_A 29] h) (fun v1 h2 => if v1 = 0 then (zm_ck (zm_bit 1) (some (zm_I 1, h2))) else (zm_ck (2 < rk) (zk_V (zc 133 [zm_A 30] h2) (fun h3 => zm_ck (zm_rk 92 [zm_A 29, zm_I x1] < rk) (zk_I (zc 92 [zm_A 29, zm_I x1] h3) (fun v4 h5 => if v4 = 0 then (zm_ck (zm_bit 0) (some (zm_I 0, h5))) else (zm_ck (h5 29 1 = (pf : Int)) (zm_ck (1 < rk) (zk_V (zc 63 [zm_A pf, zm_I v1] h5) (fun h6 => zm_ck (zm_i32 (x2 + 1)) (zr none rk 91 12 [zm_A 29, zm_I x1, zm_I (x2 + 1), zm_I v1] [] h6))))))))))))) else (zm_ck (zm_bit 1) (some (zm_I 1, h)))) (zr none rk 91 12 [zm_A 29, zm_I x1, zm_I x2, w3] [] h) := by
  refine zl_tr (r_iload_n d_91_12 rfl) ?_
  refine zl_tr (r_sipush d_91_13 (by decide)) ?_
  refine zl_tr (r_icmp_ge (tgt := 61) d_91_16 (by decide)) (zl_if ?_ ?_)
  · skip
    refine zl_tr (r_aload_n d_91_19 rfl) ?_
    refine zl_ckh (p := 2 < rk) (fun hrk => ?_)
    refine zl_tr (r_VI [zm_A 29] d_91_20 ow_91 cal_4_212 na_97 rfl rfl (Nat.le_of_ble_eq_true rfl) (by rw [rk_97]; exact hrk) (zr_rcv la_29 ow_97) (zr_im mx_97 rfl (Nat.le_of_ble_eq_true rfl)) (by rw [rt_97]; decide)) (zl_I (fun v1 h2 => ?_))
    refine zl_tr (r_istore_n (loc' := [zm_A 29, zm_I x1, zm_I x2, zm_I v1]) d_91_23 (Nat.le_of_ble_eq_true rfl) rfl) ?_
    refine zl_tr (r_iload_n d_91_24 rfl) ?_
    refine zl_tr (r_if_ne (tgt := 30) d_91_25 (by decide)) (zl_if ?_ ?_)
    · skip
      refine zl_tr (r_iconst d_91_28 (by decide)) ?_
      exact r_zret d_91_29 rt_91
    · skip
      refine zl_tr (r_aload_n d_91_30 rfl) ?_
      refine zl_tr (r_getR d_91_31 ow_91 f_4_20 la_29 (by decide) fr_29_0) ?_
      refine zl_ckh (p := 2 < rk) (fun hrk => ?_)
      refine zl_tr (r_VV [zm_A 30] d_91_34 ow_91 cal_4_72 na_133 rfl rfl (Nat.le_of_ble_eq_true rfl) (by rw [rk_133]; exact hrk) (zr_rcv la_30 ow_133) (zr_im mx_133 rfl (Nat.le_of_ble_eq_true rfl)) rt_133) (zl_V (fun h3 => ?_))
      refine zl_tr (r_aload_n d_91_37 rfl) ?_
      refine zl_tr (r_iload_n d_91_38 rfl) ?_
      refine zl_ckh (p := zm_rk 92 [zm_A 29, zm_I x1] < rk) (fun hrk => ?_)
      refine zl_tr (r_VI [zm_A 29, zm_I x1] d_91_39 ow_91 cal_4_209 na_92 rfl rfl (Nat.le_of_ble_eq_true rfl) hrk (zr_rcv la_29 ow_92) (zr_im mx_92 rfl (Nat.le_of_ble_eq_true rfl)) (by rw [rt_92]; decide)) (zl_I (fun v4 h5 => ?_))
      refine zl_tr (r_if_ne (tgt := 47) d_91_42 (by decide)) (zl_if ?_ ?_)
      · skip
        refine zl_tr (r_iconst d_91_45 (by decide)) ?_
        exact r_zret d_91_46 rt_91
      · skip
        refine zl_tr (r_aload_n d_91_47 rfl) ?_
        refine zl_tr (r_getN (b := pf) (kk := 1) d_91_48 ow_91 f_4_24 la_29 (by decide) (zf_3 hpf) rfl) (zl_ck ?_)
        refine zl_tr (r_iload_n d_91_51 rfl) ?_
        refine zl_ckh (p := 1 < rk) (fun hrk => ?_)
        refine zl_tr (r_VV [zm_A pf, zm_I v1] d_91_52 ow_91 cal_4_190 na_63 rfl rfl (Nat.le_of_ble_eq_true rfl) (by rw [rk_63]; exact hrk) (zr_rcv (zf_o hpf) ow_63) (zr_im mx_63 rfl (Nat.le_of_ble_eq_true rfl)) rt_63) (zl_V (fun h6 => ?_))
        refine zl_tr (r_iinc (loc' := [zm_A 29, zm_I x1, zm_I (x2 + 1), zm_I v1]) d_91_55 rfl (Nat.le_of_ble_eq_true rfl) rfl) (zl_ck ?_)
        refine zl_tr (r_goto (tgt := 12) d_91_58 (by decide)) ?_
        exact zl_rf
  · skip
    refine zl_tr (r_iconst d_91_61 (by decide)) ?_
    exact r_zret d_91_62 rt_91
-- BranTub$Parser.part
set_option maxRecDepth 20000 in
theorem e_92 {h : zm_H} {x1 : Int} {pf : Nat} (hpf : zf_F pf) {rk : Nat} : zl (zm_ck (1 < rk) (zk_I (zc 139 [zm_A 30, zm_I 40] h) (fun v1 h2 => if v1 = 0 then (zm_ck (1 < rk) (zk_I (zc 138 [zm_A 30, zm_I 23] h2) (fun v3 h4 => if v3 = 0 then (zm_ck (1 < rk) (zk_I (zc 138 [zm_A 30, zm_I 24] h4) (fun v5 h6 => if v5 = 0 then (if (h6 30 3) = 2 then (zm_ck (h6 29 1 = (pf : Int)) (zm_ck (1 < rk) (zk_V (zc 63 [zm_A pf, zm_I (h6 30 4)] h6) (fun h7 => zm_ck (2 < rk) (zk_V (zc 133 [zm_A 30] h7) (fun h8 => zm_ck (zm_bit 1) (some (zm_I 1, h8)))))))) else (zm_ck (1 < rk) (zk_I (zc 96 [zm_I (h6 30 5)] h6) (fun v9 h10 => if v9 = (-1) then (zm_ck (2 < rk) (zk_I (zc 79 [zm_A 29] h10) (fun v11 h12 => zm_ck (zm_bit v11) (some (zm_I v11, h12))))) else (zm_ck (h10 29 1 = (pf : Int)) (zm_ck (zm_i32 ((-1) - v9)) (zm_ck (1 < rk) (zk_V (zc 63 [zm_A pf, zm_I ((-1) - v9)] h10) (fun h13 => zm_ck (2 < rk) (zk_V (zc 133 [zm_A 30] h13) (fun h14 => zm_ck (zm_bit 1) (some (zm_I 1, h14))))))))))))) else (zm_ck (zm_rk 95 [zm_A 29, zm_I x1, zm_I (-17)] < rk) (zk_I (zc 95 [zm_A 29, zm_I x1, zm_I (-17)] h6) (fun v15 h16 => zm_ck (zm_bit v15) (some (zm_I v15, h16)))))))) else (zm_ck (zm_rk 95 [zm_A 29, zm_I x1, zm_I (-16)] < rk) (zk_I (zc 95 [zm_A 29, zm_I x1, zm_I (-16)] h4) (fun v17 h18 => zm_ck (zm_bit v17) (some (zm_I v17, h18)))))))) else (zm_ck (3 < rk) (zk_I (zc 93 [zm_A 29, zm_I x1] h2) (fun v19 h20 => if v19 = 0 then (zm_ck (zm_bit 0) (some (zm_I 0, h20))) else (zm_ck (zm_i32 (x1 + 1)) (zm_ck (zm_rk 90 [zm_A 29, zm_I (x1 + 1)] < rk) (zk_I (zc 90 [zm_A 29, zm_I (x1 + 1)] h20) (fun v21 h22 => if v21 = 0 then (zm_ck (zm_bit 0) (some (zm_I 0, h22))) else (zm_ck (3 < rk) (zk_I (zc 94 [zm_A 29, zm_I 41] h22) (fun v23 h24 => if v23 = 0 then (zm_ck (zm_bit 0) (some (zm_I 0, h24))) else (zm_ck (zm_bit 1) (some (zm_I 1, h24)))))))))))))))) (zr none rk 92 0 [zm_A 29, zm_I x1, zm_U] [] h) := by
  refine zl_tr (r_aload_n d_92_0 rfl) ?_
  refine zl_tr (r_getR d_92_1 ow_92 f_4_20 la_29 (by decide) fr_29_0) ?_
  refine zl_tr (r_bipush d_92_4 (by decide)) ?_
  refine zl_ckh (p := 1 < rk) (fun hrk => ?_)
  refine zl_tr (r_VI [zm_A 30, zm_I 40] d_92_6 ow_92 cal_4_147 na_139 rfl rfl (Nat.le_of_ble_eq_true rfl) (by rw [rk_139]; exact hrk) (zr_rcv la_30 ow_139) (zr_im mx_139 rfl (Nat.le_of_ble_eq_true rfl)) (by rw [rt_139]; decide)) (zl_I (fun v1 h2 => ?_))
  refine zl_tr (r_if_eq (tgt := 45) d_92_9 (by decide)) (zl_if ?_ ?_)
  · skip
    refine zl_tr (r_aload_n d_92_45 rfl) ?_
    refine zl_tr (r_getR d_92_46 ow_92 f_4_20 la_29 (by decide) fr_29_0) ?_
    refine zl_tr (r_bipush d_92_49 (by decide)) ?_
    refine zl_ckh (p := 1 < rk) (fun hrk => ?_)
    refine zl_tr (r_VI [zm_A 30, zm_I 23] d_92_51 ow_92 cal_4_184 na_138 rfl rfl (Nat.le_of_ble_eq_true rfl) (by rw [rk_138]; exact hrk) (zr_rcv la_30 ow_138) (zr_im mx_138 rfl (Nat.le_of_ble_eq_true rfl)) (by rw [rt_138]; decide)) (zl_I (fun v3 h4 => ?_))
    refine zl_tr (r_if_eq (tgt := 65) d_92_54 (by decide)) (zl_if ?_ ?_)
    · skip
      refine zl_tr (r_aload_n d_92_65 rfl) ?_
      refine zl_tr (r_getR d_92_66 ow_92 f_4_20 la_29 (by decide) fr_29_0) ?_
      refine zl_tr (r_bipush d_92_69 (by decide)) ?_
      refine zl_ckh (p := 1 < rk) (fun hrk => ?_)
      refine zl_tr (r_VI [zm_A 30, zm_I 24] d_92_71 ow_92 cal_4_184 na_138 rfl rfl (Nat.le_of_ble_eq_true rfl) (by rw [rk_138]; exact hrk) (zr_rcv la_30 ow_138) (zr_im mx_138 rfl (Nat.le_of_ble_eq_true rfl)) (by rw [rt_138]; decide)) (zl_I (fun v5 h6 => ?_))
      refine zl_tr (r_if_eq (tgt := 85) d_92_74 (by decide)) (zl_if ?_ ?_)
      · skip
        refine zl_tr (r_aload_n d_92_85 rfl) ?_
        refine zl_tr (r_getR d_92_86 ow_92 f_4_20 la_29 (by decide) fr_29_0) ?_
        refine zl_tr (r_getI (kk := 3) d_92_89 ow_92 f_4_39 la_30 (by decide) rfl) ?_
        refine zl_tr (r_iconst d_92_92 (by decide)) ?_
        refine zl_tr (r_icmp_ne (tgt := 113) d_92_93 (by decide)) (zl_if ?_ ?_)
        · skip
          refine zl_tr (r_aload_n d_92_96 rfl) ?_
          refine zl_tr (r_getN (b := pf) (kk := 1) d_92_97 ow_92 f_4_24 la_29 (by decide) (zf_3 hpf) rfl) (zl_ck ?_)
          refine zl_tr (r_aload_n d_92_100 rfl) ?_
          refine zl_tr (r_getR d_92_101 ow_92 f_4_20 la_29 (by decide) fr_29_0) ?_
          refine zl_tr (r_getI (kk := 4) d_92_104 ow_92 f_4_153 la_30 (by decide) rfl) ?_
          refine zl_ckh (p := 1 < rk) (fun hrk => ?_)
          refine zl_tr (r_VV [zm_A pf, zm_I (h6 30 4)] d_92_107 ow_92 cal_4_190 na_63 rfl rfl (Nat.le_of_ble_eq_true rfl) (by rw [rk_63]; exact hrk) (zr_rcv (zf_o hpf) ow_63) (zr_im mx_63 rfl (Nat.le_of_ble_eq_true rfl)) rt_63) (zl_V (fun h7 => ?_))
          refine zl_tr (r_goto (tgt := 144) d_92_110 (by decide)) ?_
          refine zl_tr (r_aload_n d_92_144 rfl) ?_
          refine zl_tr (r_getR d_92_145 ow_92 f_4_20 la_29 (by decide) fr_29_0) ?_
          refine zl_ckh (p := 2 < rk) (fun hrk => ?_)
          refine zl_tr (r_VV [zm_A 30] d_92_148 ow_92 cal_4_72 na_133 rfl rfl (Nat.le_of_ble_eq_true rfl) (by rw [rk_133]; exact hrk) (zr_rcv la_30 ow_133) (zr_im mx_133 rfl (Nat.le_of_ble_eq_true rfl)) rt_133) (zl_V (fun h8 => ?_))
          refine zl_tr (r_iconst d_92_151 (by decide)) ?_
          exact r_zret d_92_152 rt_92
        · skip
          refine zl_tr (r_aload_n d_92_113 rfl) ?_
          refine zl_tr (r_getR d_92_114 ow_92 f_4_20 la_29 (by decide) fr_29_0) ?_
          refine zl_tr (r_getI (kk := 5) d_92_117 ow_92 f_4_59 la_30 (by decide) rfl) ?_
          refine zl_ckh (p := 1 < rk) (fun hrk => ?_)
          refine zl_tr (r_SI [zm_I (h6 30 5)] d_92_120 ow_92 cal_4_218 (by decide) na_96 rfl rfl (Nat.le_of_ble_eq_true rfl) (by rw [rk_96]; exact hrk) (zr_im mx_96 rfl (Nat.le_of_ble_eq_true rfl)) (by rw [rt_96]; decide)) (zl_I (fun v9 h10 => ?_))
          refine zl_tr (r_istore_n (loc' := [zm_A 29, zm_I x1, zm_I v9]) d_92_123 (Nat.le_of_ble_eq_true rfl) rfl) ?_
          refine zl_tr (r_iload_n d_92_124 rfl) ?_
          refine zl_tr (r_iconst d_92_125 (by decide)) ?_
          refine zl_tr (r_icmp_ne (tgt := 134) d_92_126 (by decide)) (zl_if ?_ ?_)
          · skip
            refine zl_tr (r_aload_n d_92_129 rfl) ?_
            refine zl_ckh (p := 2 < rk) (fun hrk => ?_)
            refine zl_tr (r_VI [zm_A 29] d_92_130 ow_92 cal_4_69 na_79 rfl rfl (Nat.le_of_ble_eq_true rfl) (by rw [rk_79]; exact hrk) (zr_rcv la_29 ow_79) (zr_im mx_79 rfl (Nat.le_of_ble_eq_true rfl)) (by rw [rt_79]; decide)) (zl_I (fun v11 h12 => ?_))
            exact r_zret d_92_133 rt_92
          · skip
            refine zl_tr (r_aload_n d_92_134 rfl) ?_
            refine zl_tr (r_getN (b := pf) (kk := 1) d_92_135 ow_92 f_4_24 la_29 (by decide) (zf_3 hpf) rfl) (zl_ck ?_)
            refine zl_tr (r_iconst d_92_138 (by decide)) ?_
            refine zl_tr (r_iload_n d_92_139 rfl) ?_
            refine zl_tr (r_isub d_92_140) (zl_ck ?_)
            refine zl_ckh (p := 1 < rk) (fun hrk => ?_)
            refine zl_tr (r_VV [zm_A pf, zm_I ((-1) - v9)] d_92_141 ow_92 cal_4_190 na_63 rfl rfl (Nat.le_of_ble_eq_true rfl) (by rw [rk_63]; exact hrk) (zr_rcv (zf_o hpf) ow_63) (zr_im mx_63 rfl (Nat.le_of_ble_eq_true rfl)) rt_63) (zl_V (fun h13 => ?_))
            refine zl_tr (r_aload_n d_92_144 rfl) ?_
            refine zl_tr (r_getR d_92_145 ow_92 f_4_20 la_29 (by decide) fr_29_0) ?_
            refine zl_ckh (p := 2 < rk) (fun hrk => ?_)
            refine zl_tr (r_VV [zm_A 30] d_92_148 ow_92 cal_4_72 na_133 rfl rfl (Nat.le_of_ble_eq_true rfl) (by rw [rk_133]; exact hrk) (zr_rcv la_30 ow_133) (zr_im mx_133 rfl (Nat.le_of_ble_eq_true rfl)) rt_133) (zl_V (fun h14 => ?_))
            refine zl_tr (r_iconst d_92_151 (by decide)) ?_
            exact r_zret d_92_152 rt_92
      · skip
        refine zl_tr (r_aload_n d_92_77 rfl) ?_
        refine zl_tr (r_iload_n d_92_78 rfl) ?_
        refine zl_tr (r_bipush d_92_79 (by decide)) ?_
        refine zl_ckh (p := zm_rk 95 [zm_A 29, zm_I x1, zm_I (-17)] < rk) (fun hrk => ?_)
        refine zl_tr (r_VI [zm_A 29, zm_I x1, zm_I (-17)] d_92_81 ow_92 cal_4_215 na_95 rfl rfl (Nat.le_of_ble_eq_true rfl) hrk (zr_rcv la_29 ow_95) (zr_im mx_95 rfl (Nat.le_of_ble_eq_true rfl)) (by rw [rt_95]; decide)) (zl_I (fun v15 h16 => ?_))
        exact r_zret d_92_84 rt_92
    · skip
      refine zl_tr (r_aload_n d_92_57 rfl) ?_
      refine zl_tr (r_iload_n d_92_58 rfl) ?_
      refine zl_tr (r_bipush d_92_59 (by decide)) ?_
      refine zl_ckh (p := zm_rk 95 [zm_A 29, zm_I x1, zm_I (-16)] < rk) (fun hrk => ?_)
      refine zl_tr (r_VI [zm_A 29, zm_I x1, zm_I (-16)] d_92_61 ow_92 cal_4_215 na_95 rfl rfl (Nat.le_of_ble_eq_true rfl) hrk (zr_rcv la_29 ow_95) (zr_im mx_95 rfl (Nat.le_of_ble_eq_true rfl)) (by rw [rt_95]; decide)) (zl_I (fun v17 h18 => ?_))
      exact r_zret d_92_64 rt_92
  · skip
    refine zl_tr (r_aload_n d_92_12 rfl) ?_
    refine zl_tr (r_iload_n d_92_13 rfl) ?_
    refine zl_ckh (p := 3 < rk) (fun hrk => ?_)
    refine zl_tr (r_VI [zm_A 29, zm_I x1] d_92_14 ow_92 cal_4_197 na_93 rfl rfl (Nat.le_of_ble_eq_true rfl) (by rw [rk_93]; exact hrk) (zr_rcv la_29 ow_93) (zr_im mx_93 rfl (Nat.le_of_ble_eq_true rfl)) (by rw [rt_93]; decide)) (zl_I (fun v19 h20 => ?_))
    refine zl_tr (r_if_eq (tgt := 43) d_92_17 (by decide)) (zl_if ?_ ?_)
    · skip
      refine zl_tr (r_iconst d_92_43 (by decide)) ?_
      exact r_zret d_92_44 rt_92
    · skip
      refine zl_tr (r_aload_n d_92_20 rfl) ?_
      refine zl_tr (r_iload_n d_92_21 rfl) ?_
      refine zl_tr (r_iconst d_92_22 (by decide)) ?_
      refine zl_tr (r_iadd d_92_23) (zl_ck ?_)
      refine zl_ckh (p := zm_rk 90 [zm_A 29, zm_I (x1 + 1)] < rk) (fun hrk => ?_)
      refine zl_tr (r_VI [zm_A 29, zm_I (x1 + 1)] d_92_24 ow_92 cal_4_93 na_90 rfl rfl (Nat.le_of_ble_eq_true rfl) hrk (zr_rcv la_29 ow_90) (zr_im mx_90 rfl (Nat.le_of_ble_eq_true rfl)) (by rw [rt_90]; decide)) (zl_I (fun v21 h22 => ?_))
      refine zl_tr (r_if_eq (tgt := 43) d_92_27 (by decide)) (zl_if ?_ ?_)
      · skip
        refine zl_tr (r_iconst d_92_43 (by decide)) ?_
        exact r_zret d_92_44 rt_92
      · skip
        refine zl_tr (r_aload_n d_92_30 rfl) ?_
        refine zl_tr (r_bipush d_92_31 (by decide)) ?_
        refine zl_ckh (p := 3 < rk) (fun hrk => ?_)
        refine zl_tr (r_VI [zm_A 29, zm_I 41] d_92_33 ow_92 cal_4_111 na_94 rfl rfl (Nat.le_of_ble_eq_true rfl) (by rw [rk_94]; exact hrk) (zr_rcv la_29 ow_94) (zr_im mx_94 rfl (Nat.le_of_ble_eq_true rfl)) (by rw [rt_94]; decide)) (zl_I (fun v23 h24 => ?_))
        refine zl_tr (r_if_eq (tgt := 43) d_92_36 (by decide)) (zl_if ?_ ?_)
        · skip
          refine zl_tr (r_iconst d_92_43 (by decide)) ?_
          exact r_zret d_92_44 rt_92
        · skip
          refine zl_tr (r_iconst d_92_39 (by decide)) ?_
          refine zl_tr (r_goto (tgt := 44) d_92_40 (by decide)) ?_
          exact r_zret d_92_44 rt_92
theorem c_92 {h : zm_H} {x1 : Int} {pf : Nat} (hpf : zf_F pf) : zc 92 [zm_A 29, zm_I x1] h = zr none (zm_rk 92 [zm_A 29, zm_I x1]) 92 0 [zm_A 29, zm_I x1, zm_U] [] h := rfl
-- BranTub$Parser.passOpening
set_option maxRecDepth 20000 in
theorem e_93 {h : zm_H} {x1 : Int} : zl (if x1 < 7 then (zk_V (zc 133 [zm_A 30] h) (fun h1 => zm_ck (zm_bit 1) (some (zm_I 1, h1)))) else (zk_I (zc 76 [zm_A 29, zm_I 5, zm_I (h 30 6)] h) (fun v2 h3 => zm_ck (zm_bit v2) (some (zm_I v2, h3))))) (zc 93 [zm_A 29, zm_I x1] h) := by
  rw [zc_eq (loc := [zm_A 29, zm_I x1]) (rk_93 _) rfl]
  refine zl_tr (r_iload_n d_93_0 rfl) ?_
  refine zl_tr (r_bipush d_93_1 (by decide)) ?_
  refine zl_tr (r_icmp_lt (tgt := 19) d_93_3 (by decide)) (zl_if ?_ ?_)
  · skip
    refine zl_tr (r_aload_n d_93_19 rfl) ?_
    refine zl_tr (r_getR d_93_20 ow_93 f_4_20 la_29 (by decide) fr_29_0) ?_
    refine zl_tr (r_VV [zm_A 30] d_93_23 ow_93 cal_4_72 na_133 rfl rfl (Nat.le_of_ble_eq_true rfl) (by rw [rk_133]; decide) (zr_rcv la_30 ow_133) (zr_im mx_133 rfl (Nat.le_of_ble_eq_true rfl)) rt_133) (zl_V (fun h1 => ?_))
    refine zl_tr (r_iconst d_93_26 (by decide)) ?_
    exact r_zret d_93_27 rt_93
  · skip
    refine zl_tr (r_aload_n d_93_6 rfl) ?_
    refine zl_tr (r_iconst d_93_7 (by decide)) ?_
    refine zl_tr (r_aload_n d_93_8 rfl) ?_
    refine zl_tr (r_getR d_93_9 ow_93 f_4_20 la_29 (by decide) fr_29_0) ?_
    refine zl_tr (r_getI (kk := 6) d_93_12 ow_93 f_4_56 la_30 (by decide) rfl) ?_
    refine zl_tr (r_VI [zm_A 29, zm_I 5, zm_I (h 30 6)] d_93_15 ow_93 cal_4_52 na_76 rfl rfl (Nat.le_of_ble_eq_true rfl) (by rw [rk_76]; decide) (zr_rcv la_29 ow_76) (zr_im mx_76 rfl (Nat.le_of_ble_eq_true rfl)) (by rw [rt_76]; decide)) (zl_I (fun v2 h3 => ?_))
    exact r_zret d_93_18 rt_93
-- BranTub$Parser.passSign
set_option maxRecDepth 20000 in
theorem e_94 {h : zm_H} {x1 : Int} : zl (zk_I (zc 139 [zm_A 30, zm_I x1] h) (fun v1 h2 => if v1 = 0 then (zk_I (zc 79 [zm_A 29] h2) (fun v3 h4 => zm_ck (zm_bit v3) (some (zm_I v3, h4)))) else (zk_V (zc 133 [zm_A 30] h2) (fun h5 => zm_ck (zm_bit 1) (some (zm_I 1, h5)))))) (zc 94 [zm_A 29, zm_I x1] h) := by
  rw [zc_eq (loc := [zm_A 29, zm_I x1]) (rk_94 _) rfl]
  refine zl_tr (r_aload_n d_94_0 rfl) ?_
  refine zl_tr (r_getR d_94_1 ow_94 f_4_20 la_29 (by decide) fr_29_0) ?_
  refine zl_tr (r_iload_n d_94_4 rfl) ?_
  refine zl_tr (r_VI [zm_A 30, zm_I x1] d_94_5 ow_94 cal_4_147 na_139 rfl rfl (Nat.le_of_ble_eq_true rfl) (by rw [rk_139]; decide) (zr_rcv la_30 ow_139) (zr_im mx_139 rfl (Nat.le_of_ble_eq_true rfl)) (by rw [rt_139]; decide)) (zl_I (fun v1 h2 => ?_))
  refine zl_tr (r_if_ne (tgt := 16) d_94_8 (by decide)) (zl_if ?_ ?_)
  · skip
    refine zl_tr (r_aload_n d_94_11 rfl) ?_
    refine zl_tr (r_VI [zm_A 29] d_94_12 ow_94 cal_4_69 na_79 rfl rfl (Nat.le_of_ble_eq_true rfl) (by rw [rk_79]; decide) (zr_rcv la_29 ow_79) (zr_im mx_79 rfl (Nat.le_of_ble_eq_true rfl)) (by rw [rt_79]; decide)) (zl_I (fun v3 h4 => ?_))
    exact r_zret d_94_15 rt_94
  · skip
    refine zl_tr (r_aload_n d_94_16 rfl) ?_
    refine zl_tr (r_getR d_94_17 ow_94 f_4_20 la_29 (by decide) fr_29_0) ?_
    refine zl_tr (r_VV [zm_A 30] d_94_20 ow_94 cal_4_72 na_133 rfl rfl (Nat.le_of_ble_eq_true rfl) (by rw [rk_133]; decide) (zr_rcv la_30 ow_133) (zr_im mx_133 rfl (Nat.le_of_ble_eq_true rfl)) rt_133) (zl_V (fun h5 => ?_))
    refine zl_tr (r_iconst d_94_23 (by decide)) ?_
    exact r_zret d_94_24 rt_94
-- BranTub$Parser.ofTwo
set_option maxRecDepth 20000 in
theorem e_95 {h : zm_H} {x1 : Int} {x2 : Int} {pf : Nat} (hpf : zf_F pf) {rk : Nat} : zl (zm_ck (2 < rk) (zk_V (zc 133 [zm_A 30] h) (fun h1 => zm_ck (1 < rk) (zk_I (zc 139 [zm_A 30, zm_I 40] h1) (fun v2 h3 => if v2 = 0 then (zm_ck (2 < rk) (zk_I (zc 79 [zm_A 29] h3) (fun v4 h5 => zm_ck (zm_bit v4) (some (zm_I v4, h5))))) else (zm_ck (3 < rk) (zk_I (zc 93 [zm_A 29, zm_I x1] h3) (fun v6 h7 => if v6 = 0 then (zm_ck (zm_bit 0) (some (zm_I 0, h7))) else (zm_ck (zm_i32 (x1 + 1)) (zm_ck (zm_rk 90 [zm_A 29, zm_I (x1 + 1)] < rk) (zk_I (zc 90 [zm_A 29, zm_I (x1 + 1)] h7) (fun v8 h9 => if v8 = 0 then (zm_ck (zm_bit 0) (some (zm_I 0, h9))) else (zm_ck (3 < rk) (zk_I (zc 94 [zm_A 29, zm_I 44] h9) (fun v10 h11 => if v10 = 0 then (zm_ck (zm_bit 0) (some (zm_I 0, h11))) else (zm_ck (zm_i32 (x1 + 1)) (zm_ck (zm_rk 90 [zm_A 29, zm_I (x1 + 1)] < rk) (zk_I (zc 90 [zm_A 29, zm_I (x1 + 1)] h11) (fun v12 h13 => if v12 = 0 then (zm_ck (zm_bit 0) (some (zm_I 0, h13))) else (zm_ck (3 < rk) (zk_I (zc 94 [zm_A 29, zm_I 41] h13) (fun v14 h15 => if v14 = 0 then (zm_ck (zm_bit 0) (some (zm_I 0, h15))) else (zm_ck (h15 29 1 = (pf : Int)) (zm_ck (1 < rk) (zk_V (zc 63 [zm_A pf, zm_I x2] h15) (fun h16 => zm_ck (zm_bit 1) (some (zm_I 1, h16)))))))))))))))))))))))))))) (zr none rk 95 0 [zm_A 29, zm_I x1, zm_I x2] [] h) := by
  refine zl_tr (r_aload_n d_95_0 rfl) ?_
  refine zl_tr (r_getR d_95_1 ow_95 f_4_20 la_29 (by decide) fr_29_0) ?_
  refine zl_ckh (p := 2 < rk) (fun hrk => ?_)
  refine zl_tr (r_VV [zm_A 30] d_95_4 ow_95 cal_4_72 na_133 rfl rfl (Nat.le_of_ble_eq_true rfl) (by rw [rk_133]; exact hrk) (zr_rcv la_30 ow_133) (zr_im mx_133 rfl (Nat.le_of_ble_eq_true rfl)) rt_133) (zl_V (fun h1 => ?_))
  refine zl_tr (r_aload_n d_95_7 rfl) ?_
  refine zl_tr (r_getR d_95_8 ow_95 f_4_20 la_29 (by decide) fr_29_0) ?_
  refine zl_tr (r_bipush d_95_11 (by decide)) ?_
  refine zl_ckh (p := 1 < rk) (fun hrk => ?_)
  refine zl_tr (r_VI [zm_A 30, zm_I 40] d_95_13 ow_95 cal_4_147 na_139 rfl rfl (Nat.le_of_ble_eq_true rfl) (by rw [rk_139]; exact hrk) (zr_rcv la_30 ow_139) (zr_im mx_139 rfl (Nat.le_of_ble_eq_true rfl)) (by rw [rt_139]; decide)) (zl_I (fun v2 h3 => ?_))
  refine zl_tr (r_if_ne (tgt := 24) d_95_16 (by decide)) (zl_if ?_ ?_)
  · skip
    refine zl_tr (r_aload_n d_95_19 rfl) ?_
    refine zl_ckh (p := 2 < rk) (fun hrk => ?_)
    refine zl_tr (r_VI [zm_A 29] d_95_20 ow_95 cal_4_69 na_79 rfl rfl (Nat.le_of_ble_eq_true rfl) (by rw [rk_79]; exact hrk) (zr_rcv la_29 ow_79) (zr_im mx_79 rfl (Nat.le_of_ble_eq_true rfl)) (by rw [rt_79]; decide)) (zl_I (fun v4 h5 => ?_))
    exact r_zret d_95_23 rt_95
  · skip
    refine zl_tr (r_aload_n d_95_24 rfl) ?_
    refine zl_tr (r_iload_n d_95_25 rfl) ?_
    refine zl_ckh (p := 3 < rk) (fun hrk => ?_)
    refine zl_tr (r_VI [zm_A 29, zm_I x1] d_95_26 ow_95 cal_4_197 na_93 rfl rfl (Nat.le_of_ble_eq_true rfl) (by rw [rk_93]; exact hrk) (zr_rcv la_29 ow_93) (zr_im mx_93 rfl (Nat.le_of_ble_eq_true rfl)) (by rw [rt_93]; decide)) (zl_I (fun v6 h7 => ?_))
    refine zl_tr (r_if_eq (tgt := 51) d_95_29 (by decide)) (zl_if ?_ ?_)
    · skip
      refine zl_tr (r_iconst d_95_51 (by decide)) ?_
      exact r_zret d_95_52 rt_95
    · skip
      refine zl_tr (r_aload_n d_95_32 rfl) ?_
      refine zl_tr (r_iload_n d_95_33 rfl) ?_
      refine zl_tr (r_iconst d_95_34 (by decide)) ?_
      refine zl_tr (r_iadd d_95_35) (zl_ck ?_)
      refine zl_ckh (p := zm_rk 90 [zm_A 29, zm_I (x1 + 1)] < rk) (fun hrk => ?_)
      refine zl_tr (r_VI [zm_A 29, zm_I (x1 + 1)] d_95_36 ow_95 cal_4_93 na_90 rfl rfl (Nat.le_of_ble_eq_true rfl) hrk (zr_rcv la_29 ow_90) (zr_im mx_90 rfl (Nat.le_of_ble_eq_true rfl)) (by rw [rt_90]; decide)) (zl_I (fun v8 h9 => ?_))
      refine zl_tr (r_if_eq (tgt := 51) d_95_39 (by decide)) (zl_if ?_ ?_)
      · skip
        refine zl_tr (r_iconst d_95_51 (by decide)) ?_
        exact r_zret d_95_52 rt_95
      · skip
        refine zl_tr (r_aload_n d_95_42 rfl) ?_
        refine zl_tr (r_bipush d_95_43 (by decide)) ?_
        refine zl_ckh (p := 3 < rk) (fun hrk => ?_)
        refine zl_tr (r_VI [zm_A 29, zm_I 44] d_95_45 ow_95 cal_4_111 na_94 rfl rfl (Nat.le_of_ble_eq_true rfl) (by rw [rk_94]; exact hrk) (zr_rcv la_29 ow_94) (zr_im mx_94 rfl (Nat.le_of_ble_eq_true rfl)) (by rw [rt_94]; decide)) (zl_I (fun v10 h11 => ?_))
        refine zl_tr (r_if_ne (tgt := 53) d_95_48 (by decide)) (zl_if ?_ ?_)
        · skip
          refine zl_tr (r_iconst d_95_51 (by decide)) ?_
          exact r_zret d_95_52 rt_95
        · skip
          refine zl_tr (r_aload_n d_95_53 rfl) ?_
          refine zl_tr (r_iload_n d_95_54 rfl) ?_
          refine zl_tr (r_iconst d_95_55 (by decide)) ?_
          refine zl_tr (r_iadd d_95_56) (zl_ck ?_)
          refine zl_ckh (p := zm_rk 90 [zm_A 29, zm_I (x1 + 1)] < rk) (fun hrk => ?_)
          refine zl_tr (r_VI [zm_A 29, zm_I (x1 + 1)] d_95_57 ow_95 cal_4_93 na_90 rfl rfl (Nat.le_of_ble_eq_true rfl) hrk (zr_rcv la_29 ow_90) (zr_im mx_90 rfl (Nat.le_of_ble_eq_true rfl)) (by rw [rt_90]; decide)) (zl_I (fun v12 h13 => ?_))
          refine zl_tr (r_if_eq (tgt := 72) d_95_60 (by decide)) (zl_if ?_ ?_)
          · skip
            refine zl_tr (r_iconst d_95_72 (by decide)) ?_
            exact r_zret d_95_73 rt_95
          · skip
            refine zl_tr (r_aload_n d_95_63 rfl) ?_
            refine zl_tr (r_bipush d_95_64 (by decide)) ?_
            refine zl_ckh (p := 3 < rk) (fun hrk => ?_)
            refine zl_tr (r_VI [zm_A 29, zm_I 41] d_95_66 ow_95 cal_4_111 na_94 rfl rfl (Nat.le_of_ble_eq_true rfl) (by rw [rk_94]; exact hrk) (zr_rcv la_29 ow_94) (zr_im mx_94 rfl (Nat.le_of_ble_eq_true rfl)) (by rw [rt_94]; decide)) (zl_I (fun v14 h15 => ?_))
            refine zl_tr (r_if_ne (tgt := 74) d_95_69 (by decide)) (zl_if ?_ ?_)
            · skip
              refine zl_tr (r_iconst d_95_72 (by decide)) ?_
              exact r_zret d_95_73 rt_95
            · skip
              refine zl_tr (r_aload_n d_95_74 rfl) ?_
              refine zl_tr (r_getN (b := pf) (kk := 1) d_95_75 ow_95 f_4_24 la_29 (by decide) (zf_3 hpf) rfl) (zl_ck ?_)
              refine zl_tr (r_iload_n d_95_78 rfl) ?_
              refine zl_ckh (p := 1 < rk) (fun hrk => ?_)
              refine zl_tr (r_VV [zm_A pf, zm_I x2] d_95_79 ow_95 cal_4_190 na_63 rfl rfl (Nat.le_of_ble_eq_true rfl) (by rw [rk_63]; exact hrk) (zr_rcv (zf_o hpf) ow_63) (zr_im mx_63 rfl (Nat.le_of_ble_eq_true rfl)) rt_63) (zl_V (fun h16 => ?_))
              refine zl_tr (r_iconst d_95_82 (by decide)) ?_
              exact r_zret d_95_83 rt_95
theorem c_95 {h : zm_H} {x1 : Int} {x2 : Int} {pf : Nat} (hpf : zf_F pf) : zc 95 [zm_A 29, zm_I x1, zm_I x2] h = zr none (zm_rk 95 [zm_A 29, zm_I x1, zm_I x2]) 95 0 [zm_A 29, zm_I x1, zm_I x2] [] h := rfl
-- BranTub$Parser.seenBy
set_option maxRecDepth 20000 in
theorem e_96 {h : zm_H} {x1 : Int} : zl (if x1 = 1 then (some (zm_I 3, h)) else (if x1 = 2 then (some (zm_I 4, h)) else (if x1 = 3 then (some (zm_I (-1), h)) else (if x1 = 4 then (some (zm_I (-1), h)) else (if x1 = 5 then (some (zm_I (-1), h)) else (if x1 = 6 then (some (zm_I (-1), h)) else (if x1 = 7 then (some (zm_I (-1), h)) else (if x1 = 8 then (some (zm_I (-1), h)) else (if x1 = 9 then (some (zm_I (-1), h)) else (if x1 = 10 then (some (zm_I (-1), h)) else (if x1 = 11 then (some (zm_I (-1), h)) else (if x1 = 12 then (some (zm_I (-1), h)) else (if x1 = 13 then (some (zm_I (-1), h)) else (if x1 = 14 then (some (zm_I (-1), h)) else (if x1 = 15 then (some (zm_I 0, h)) else (if x1 = 16 then (some (zm_I 1, h)) else (if x1 = 17 then (some (zm_I 2, h)) else (if x1 = 18 then (some (zm_I 5, h)) else (some (zm_I (-1), h)))))))))))))))))))) (zc 96 [zm_I x1] h) := by
  rw [zc_eq (loc := [zm_I x1]) (rk_96 _) rfl]
  refine zl_tr (r_iload_n d_96_0 rfl) ?_
  refine zl_eq 1 (fun hx => ?_) (fun hx1 => ?_)
  · refine zl_tr (r_tsw (tgt := 94) d_96_1 (by rw [hx]; decide) (by decide)) ?_
    refine zl_tr (r_iconst d_96_94 (by decide)) ?_
    exact r_iret d_96_95 rt_96
  refine zl_eq 2 (fun hx => ?_) (fun hx2 => ?_)
  · refine zl_tr (r_tsw (tgt := 96) d_96_1 (by rw [hx]; decide) (by decide)) ?_
    refine zl_tr (r_iconst d_96_96 (by decide)) ?_
    exact r_iret d_96_97 rt_96
  refine zl_eq 3 (fun hx => ?_) (fun hx3 => ?_)
  · refine zl_tr (r_tsw (tgt := 100) d_96_1 (by rw [hx]; decide) (by decide)) ?_
    refine zl_tr (r_iconst d_96_100 (by decide)) ?_
    exact r_iret d_96_101 rt_96
  refine zl_eq 4 (fun hx => ?_) (fun hx4 => ?_)
  · refine zl_tr (r_tsw (tgt := 100) d_96_1 (by rw [hx]; decide) (by decide)) ?_
    refine zl_tr (r_iconst d_96_100 (by decide)) ?_
    exact r_iret d_96_101 rt_96
  refine zl_eq 5 (fun hx => ?_) (fun hx5 => ?_)
  · refine zl_tr (r_tsw (tgt := 100) d_96_1 (by rw [hx]; decide) (by decide)) ?_
    refine zl_tr (r_iconst d_96_100 (by decide)) ?_
    exact r_iret d_96_101 rt_96
  refine zl_eq 6 (fun hx => ?_) (fun hx6 => ?_)
  · refine zl_tr (r_tsw (tgt := 100) d_96_1 (by rw [hx]; decide) (by decide)) ?_
    refine zl_tr (r_iconst d_96_100 (by decide)) ?_
    exact r_iret d_96_101 rt_96
  refine zl_eq 7 (fun hx => ?_) (fun hx7 => ?_)
  · refine zl_tr (r_tsw (tgt := 100) d_96_1 (by rw [hx]; decide) (by decide)) ?_
    refine zl_tr (r_iconst d_96_100 (by decide)) ?_
    exact r_iret d_96_101 rt_96
  refine zl_eq 8 (fun hx => ?_) (fun hx8 => ?_)
  · refine zl_tr (r_tsw (tgt := 100) d_96_1 (by rw [hx]; decide) (by decide)) ?_
    refine zl_tr (r_iconst d_96_100 (by decide)) ?_
    exact r_iret d_96_101 rt_96
  refine zl_eq 9 (fun hx => ?_) (fun hx9 => ?_)
  · refine zl_tr (r_tsw (tgt := 100) d_96_1 (by rw [hx]; decide) (by decide)) ?_
    refine zl_tr (r_iconst d_96_100 (by decide)) ?_
    exact r_iret d_96_101 rt_96
  refine zl_eq 10 (fun hx => ?_) (fun hx10 => ?_)
  · refine zl_tr (r_tsw (tgt := 100) d_96_1 (by rw [hx]; decide) (by decide)) ?_
    refine zl_tr (r_iconst d_96_100 (by decide)) ?_
    exact r_iret d_96_101 rt_96
  refine zl_eq 11 (fun hx => ?_) (fun hx11 => ?_)
  · refine zl_tr (r_tsw (tgt := 100) d_96_1 (by rw [hx]; decide) (by decide)) ?_
    refine zl_tr (r_iconst d_96_100 (by decide)) ?_
    exact r_iret d_96_101 rt_96
  refine zl_eq 12 (fun hx => ?_) (fun hx12 => ?_)
  · refine zl_tr (r_tsw (tgt := 100) d_96_1 (by rw [hx]; decide) (by decide)) ?_
    refine zl_tr (r_iconst d_96_100 (by decide)) ?_
    exact r_iret d_96_101 rt_96
  refine zl_eq 13 (fun hx => ?_) (fun hx13 => ?_)
  · refine zl_tr (r_tsw (tgt := 100) d_96_1 (by rw [hx]; decide) (by decide)) ?_
    refine zl_tr (r_iconst d_96_100 (by decide)) ?_
    exact r_iret d_96_101 rt_96
  refine zl_eq 14 (fun hx => ?_) (fun hx14 => ?_)
  · refine zl_tr (r_tsw (tgt := 100) d_96_1 (by rw [hx]; decide) (by decide)) ?_
    refine zl_tr (r_iconst d_96_100 (by decide)) ?_
    exact r_iret d_96_101 rt_96
  refine zl_eq 15 (fun hx => ?_) (fun hx15 => ?_)
  · refine zl_tr (r_tsw (tgt := 88) d_96_1 (by rw [hx]; decide) (by decide)) ?_
    refine zl_tr (r_iconst d_96_88 (by decide)) ?_
    exact r_iret d_96_89 rt_96
  refine zl_eq 16 (fun hx => ?_) (fun hx16 => ?_)
  · refine zl_tr (r_tsw (tgt := 90) d_96_1 (by rw [hx]; decide) (by decide)) ?_
    refine zl_tr (r_iconst d_96_90 (by decide)) ?_
    exact r_iret d_96_91 rt_96
  refine zl_eq 17 (fun hx => ?_) (fun hx17 => ?_)
  · refine zl_tr (r_tsw (tgt := 92) d_96_1 (by rw [hx]; decide) (by decide)) ?_
    refine zl_tr (r_iconst d_96_92 (by decide)) ?_
    exact r_iret d_96_93 rt_96
  refine zl_eq 18 (fun hx => ?_) (fun hx18 => ?_)
  · refine zl_tr (r_tsw (tgt := 98) d_96_1 (by rw [hx]; decide) (by decide)) ?_
    refine zl_tr (r_iconst d_96_98 (by decide)) ?_
    exact r_iret d_96_99 rt_96
  refine zl_tr (r_tsw (tgt := 100) d_96_1 (by rw [if_pos (by omega)]; decide) (by decide)) ?_
  refine zl_tr (r_iconst d_96_100 (by decide)) ?_
  exact r_iret d_96_101 rt_96
-- BranTub$Parser.multiplying
set_option maxRecDepth 20000 in
theorem e_97 {h : zm_H}  : zl (zk_I (zc 139 [zm_A 30, zm_I 42] h) (fun v1 h2 => if v1 = 0 then (zk_I (zc 139 [zm_A 30, zm_I 47] h2) (fun v3 h4 => if v3 = 0 then (zk_I (zc 139 [zm_A 30, zm_I 37] h4) (fun v5 h6 => if v5 = 0 then (some (zm_I 0, h6)) else (some (zm_I (-15), h6)))) else (some (zm_I (-14), h4)))) else (some (zm_I (-13), h2)))) (zc 97 [zm_A 29] h) := by
  rw [zc_eq (loc := [zm_A 29]) (rk_97 _) rfl]
  refine zl_tr (r_aload_n d_97_0 rfl) ?_
  refine zl_tr (r_getR d_97_1 ow_97 f_4_20 la_29 (by decide) fr_29_0) ?_
  refine zl_tr (r_bipush d_97_4 (by decide)) ?_
  refine zl_tr (r_VI [zm_A 30, zm_I 42] d_97_6 ow_97 cal_4_147 na_139 rfl rfl (Nat.le_of_ble_eq_true rfl) (by rw [rk_139]; decide) (zr_rcv la_30 ow_139) (zr_im mx_139 rfl (Nat.le_of_ble_eq_true rfl)) (by rw [rt_139]; decide)) (zl_I (fun v1 h2 => ?_))
  refine zl_tr (r_if_eq (tgt := 15) d_97_9 (by decide)) (zl_if ?_ ?_)
  · skip
    refine zl_tr (r_aload_n d_97_15 rfl) ?_
    refine zl_tr (r_getR d_97_16 ow_97 f_4_20 la_29 (by decide) fr_29_0) ?_
    refine zl_tr (r_bipush d_97_19 (by decide)) ?_
    refine zl_tr (r_VI [zm_A 30, zm_I 47] d_97_21 ow_97 cal_4_147 na_139 rfl rfl (Nat.le_of_ble_eq_true rfl) (by rw [rk_139]; decide) (zr_rcv la_30 ow_139) (zr_im mx_139 rfl (Nat.le_of_ble_eq_true rfl)) (by rw [rt_139]; decide)) (zl_I (fun v3 h4 => ?_))
    refine zl_tr (r_if_eq (tgt := 30) d_97_24 (by decide)) (zl_if ?_ ?_)
    · skip
      refine zl_tr (r_aload_n d_97_30 rfl) ?_
      refine zl_tr (r_getR d_97_31 ow_97 f_4_20 la_29 (by decide) fr_29_0) ?_
      refine zl_tr (r_bipush d_97_34 (by decide)) ?_
      refine zl_tr (r_VI [zm_A 30, zm_I 37] d_97_36 ow_97 cal_4_147 na_139 rfl rfl (Nat.le_of_ble_eq_true rfl) (by rw [rk_139]; decide) (zr_rcv la_30 ow_139) (zr_im mx_139 rfl (Nat.le_of_ble_eq_true rfl)) (by rw [rt_139]; decide)) (zl_I (fun v5 h6 => ?_))
      refine zl_tr (r_if_eq (tgt := 47) d_97_39 (by decide)) (zl_if ?_ ?_)
      · skip
        refine zl_tr (r_iconst d_97_47 (by decide)) ?_
        exact r_iret d_97_48 rt_97
      · skip
        refine zl_tr (r_bipush d_97_42 (by decide)) ?_
        refine zl_tr (r_goto (tgt := 48) d_97_44 (by decide)) ?_
        exact r_iret d_97_48 rt_97
    · skip
      refine zl_tr (r_bipush d_97_27 (by decide)) ?_
      exact r_iret d_97_29 rt_97
  · skip
    refine zl_tr (r_bipush d_97_12 (by decide)) ?_
    exact r_iret d_97_14 rt_97
-- BranTub$Parser.adding
set_option maxRecDepth 20000 in
theorem e_98 {h : zm_H}  : zl (zk_I (zc 139 [zm_A 30, zm_I 43] h) (fun v1 h2 => if v1 = 0 then (zk_I (zc 139 [zm_A 30, zm_I 45] h2) (fun v3 h4 => if v3 = 0 then (some (zm_I 0, h4)) else (some (zm_I (-12), h4)))) else (some (zm_I (-11), h2)))) (zc 98 [zm_A 29] h) := by
  rw [zc_eq (loc := [zm_A 29]) (rk_98 _) rfl]
  refine zl_tr (r_aload_n d_98_0 rfl) ?_
  refine zl_tr (r_getR d_98_1 ow_98 f_4_20 la_29 (by decide) fr_29_0) ?_
  refine zl_tr (r_bipush d_98_4 (by decide)) ?_
  refine zl_tr (r_VI [zm_A 30, zm_I 43] d_98_6 ow_98 cal_4_147 na_139 rfl rfl (Nat.le_of_ble_eq_true rfl) (by rw [rk_139]; decide) (zr_rcv la_30 ow_139) (zr_im mx_139 rfl (Nat.le_of_ble_eq_true rfl)) (by rw [rt_139]; decide)) (zl_I (fun v1 h2 => ?_))
  refine zl_tr (r_if_eq (tgt := 15) d_98_9 (by decide)) (zl_if ?_ ?_)
  · skip
    refine zl_tr (r_aload_n d_98_15 rfl) ?_
    refine zl_tr (r_getR d_98_16 ow_98 f_4_20 la_29 (by decide) fr_29_0) ?_
    refine zl_tr (r_bipush d_98_19 (by decide)) ?_
    refine zl_tr (r_VI [zm_A 30, zm_I 45] d_98_21 ow_98 cal_4_147 na_139 rfl rfl (Nat.le_of_ble_eq_true rfl) (by rw [rk_139]; decide) (zr_rcv la_30 ow_139) (zr_im mx_139 rfl (Nat.le_of_ble_eq_true rfl)) (by rw [rt_139]; decide)) (zl_I (fun v3 h4 => ?_))
    refine zl_tr (r_if_eq (tgt := 32) d_98_24 (by decide)) (zl_if ?_ ?_)
    · skip
      refine zl_tr (r_iconst d_98_32 (by decide)) ?_
      exact r_iret d_98_33 rt_98
    · skip
      refine zl_tr (r_bipush d_98_27 (by decide)) ?_
      refine zl_tr (r_goto (tgt := 33) d_98_29 (by decide)) ?_
      exact r_iret d_98_33 rt_98
  · skip
    refine zl_tr (r_bipush d_98_12 (by decide)) ?_
    exact r_iret d_98_14 rt_98
-- BranTub$Parser.test
set_option maxRecDepth 20000 in
theorem e_99 {h : zm_H} {x1 : Int} {rk : Nat} : zl (zm_ck (zm_rk 100 [zm_A 29, zm_I x1] < rk) (zk_I (zc 100 [zm_A 29, zm_I x1] h) (fun v1 h2 => if v1 = 0 then (zm_ck (zm_bit 0) (some (zm_I 0, h2))) else (zr none rk 99 12 [zm_A 29, zm_I x1, zm_I 0] [] h2)))) (zr none rk 99 0 [zm_A 29, zm_I x1, zm_U] [] h) := by
  refine zl_tr (r_aload_n d_99_0 rfl) ?_
  refine zl_tr (r_iload_n d_99_1 rfl) ?_
  refine zl_ckh (p := zm_rk 100 [zm_A 29, zm_I x1] < rk) (fun hrk => ?_)
  refine zl_tr (r_VI [zm_A 29, zm_I x1] d_99_2 ow_99 cal_4_187 na_100 rfl rfl (Nat.le_of_ble_eq_true rfl) hrk (zr_rcv la_29 ow_100) (zr_im mx_100 rfl (Nat.le_of_ble_eq_true rfl)) (by rw [rt_100]; decide)) (zl_I (fun v1 h2 => ?_))
  refine zl_tr (r_if_ne (tgt := 10) d_99_5 (by decide)) (zl_if ?_ ?_)
  · skip
    refine zl_tr (r_iconst d_99_8 (by decide)) ?_
    exact r_zret d_99_9 rt_99
  · skip
    refine zl_tr (r_iconst d_99_10 (by decide)) ?_
    refine zl_tr (r_istore_n (loc' := [zm_A 29, zm_I x1, zm_I 0]) d_99_11 (Nat.le_of_ble_eq_true rfl) rfl) ?_
    exact zl_rf
theorem c_99 {h : zm_H} {x1 : Int} : zc 99 [zm_A 29, zm_I x1] h = zr none (zm_rk 99 [zm_A 29, zm_I x1]) 99 0 [zm_A 29, zm_I x1, zm_U] [] h := rfl
-- BranTub$Parser.test, from 12
set_option maxRecDepth 20000 in
theorem e_99_12 {h : zm_H} {x1 : Int} {x2 : Int} {pf : Nat} (hpf : zf_F pf) {rk : Nat} : zl (if x2 < 1600 then (zm_ck (1 < rk) (zk_I (zc 138 [zm_A 30, zm_I 19] h) (fun v1 h2 => if v1 = 0 then (zm_ck (zm_bit 1) (some (zm_I 1, h2))) else (zm_ck (2 < rk) (zk_V (zc 133 [zm_A 30] h2) (fun h3 => zm_ck (zm_rk 100 [zm_A 29, zm_I x1] < rk) (zk_I (zc 100 [zm_A 29, zm_I x1] h3) (fun v4 h5 => if v4 = 0 then (zm_ck (zm_bit 0) (some (zm_I 0, h5))) else (zm_ck (h5 29 1 = (pf : Int)) (zm_ck (1 < rk) (zk_V (zc 63 [zm_A pf, zm_I (-23)] h5) (fun h6 => zm_ck (zm_i32 (x2 + 1)) (zr none rk 99 12 [zm_A 29, zm_I x1, zm_I (x2 + 1)] [] h6))))))))))))) else (zm_ck (zm_bit 1) (some (zm_I 1, h)))) (zr none rk 99 12 [zm_A 29, zm_I x1, zm_I x2] [] h) := by
  refine zl_tr (r_iload_n d_99_12 rfl) ?_
  refine zl_tr (r_sipush d_99_13 (by decide)) ?_
  refine zl_tr (r_icmp_ge (tgt := 63) d_99_16 (by decide)) (zl_if ?_ ?_)
  · skip
    refine zl_tr (r_aload_n d_99_19 rfl) ?_
    refine zl_tr (r_getR d_99_20 ow_99 f_4_20 la_29 (by decide) fr_29_0) ?_
    refine zl_tr (r_bipush d_99_23 (by decide)) ?_
    refine zl_ckh (p := 1 < rk) (fun hrk => ?_)
    refine zl_tr (r_VI [zm_A 30, zm_I 19] d_99_25 ow_99 cal_4_184 na_138 rfl rfl (Nat.le_of_ble_eq_true rfl) (by rw [rk_138]; exact hrk) (zr_rcv la_30 ow_138) (zr_im mx_138 rfl (Nat.le_of_ble_eq_true rfl)) (by rw [rt_138]; decide)) (zl_I (fun v1 h2 => ?_))
    refine zl_tr (r_if_eq (tgt := 63) d_99_28 (by decide)) (zl_if ?_ ?_)
    · skip
      refine zl_tr (r_iconst d_99_63 (by decide)) ?_
      exact r_zret d_99_64 rt_99
    · skip
      refine zl_tr (r_aload_n d_99_31 rfl) ?_
      refine zl_tr (r_getR d_99_32 ow_99 f_4_20 la_29 (by decide) fr_29_0) ?_
      refine zl_ckh (p := 2 < rk) (fun hrk => ?_)
      refine zl_tr (r_VV [zm_A 30] d_99_35 ow_99 cal_4_72 na_133 rfl rfl (Nat.le_of_ble_eq_true rfl) (by rw [rk_133]; exact hrk) (zr_rcv la_30 ow_133) (zr_im mx_133 rfl (Nat.le_of_ble_eq_true rfl)) rt_133) (zl_V (fun h3 => ?_))
      refine zl_tr (r_aload_n d_99_38 rfl) ?_
      refine zl_tr (r_iload_n d_99_39 rfl) ?_
      refine zl_ckh (p := zm_rk 100 [zm_A 29, zm_I x1] < rk) (fun hrk => ?_)
      refine zl_tr (r_VI [zm_A 29, zm_I x1] d_99_40 ow_99 cal_4_187 na_100 rfl rfl (Nat.le_of_ble_eq_true rfl) hrk (zr_rcv la_29 ow_100) (zr_im mx_100 rfl (Nat.le_of_ble_eq_true rfl)) (by rw [rt_100]; decide)) (zl_I (fun v4 h5 => ?_))
      refine zl_tr (r_if_ne (tgt := 48) d_99_43 (by decide)) (zl_if ?_ ?_)
      · skip
        refine zl_tr (r_iconst d_99_46 (by decide)) ?_
        exact r_zret d_99_47 rt_99
      · skip
        refine zl_tr (r_aload_n d_99_48 rfl) ?_
        refine zl_tr (r_getN (b := pf) (kk := 1) d_99_49 ow_99 f_4_24 la_29 (by decide) (zf_3 hpf) rfl) (zl_ck ?_)
        refine zl_tr (r_bipush d_99_52 (by decide)) ?_
        refine zl_ckh (p := 1 < rk) (fun hrk => ?_)
        refine zl_tr (r_VV [zm_A pf, zm_I (-23)] d_99_54 ow_99 cal_4_190 na_63 rfl rfl (Nat.le_of_ble_eq_true rfl) (by rw [rk_63]; exact hrk) (zr_rcv (zf_o hpf) ow_63) (zr_im mx_63 rfl (Nat.le_of_ble_eq_true rfl)) rt_63) (zl_V (fun h6 => ?_))
        refine zl_tr (r_iinc (loc' := [zm_A 29, zm_I x1, zm_I (x2 + 1)]) d_99_57 rfl (Nat.le_of_ble_eq_true rfl) rfl) (zl_ck ?_)
        refine zl_tr (r_goto (tgt := 12) d_99_60 (by decide)) ?_
        exact zl_rf
  · skip
    refine zl_tr (r_iconst d_99_63 (by decide)) ?_
    exact r_zret d_99_64 rt_99
-- BranTub$Parser.both
set_option maxRecDepth 20000 in
theorem e_100 {h : zm_H} {x1 : Int} {rk : Nat} : zl (zm_ck (zm_rk 101 [zm_A 29, zm_I x1] < rk) (zk_I (zc 101 [zm_A 29, zm_I x1] h) (fun v1 h2 => if v1 = 0 then (zm_ck (zm_bit 0) (some (zm_I 0, h2))) else (zr none rk 100 12 [zm_A 29, zm_I x1, zm_I 0] [] h2)))) (zr none rk 100 0 [zm_A 29, zm_I x1, zm_U] [] h) := by
  refine zl_tr (r_aload_n d_100_0 rfl) ?_
  refine zl_tr (r_iload_n d_100_1 rfl) ?_
  refine zl_ckh (p := zm_rk 101 [zm_A 29, zm_I x1] < rk) (fun hrk => ?_)
  refine zl_tr (r_VI [zm_A 29, zm_I x1] d_100_2 ow_100 cal_4_194 na_101 rfl rfl (Nat.le_of_ble_eq_true rfl) hrk (zr_rcv la_29 ow_101) (zr_im mx_101 rfl (Nat.le_of_ble_eq_true rfl)) (by rw [rt_101]; decide)) (zl_I (fun v1 h2 => ?_))
  refine zl_tr (r_if_ne (tgt := 10) d_100_5 (by decide)) (zl_if ?_ ?_)
  · skip
    refine zl_tr (r_iconst d_100_8 (by decide)) ?_
    exact r_zret d_100_9 rt_100
  · skip
    refine zl_tr (r_iconst d_100_10 (by decide)) ?_
    refine zl_tr (r_istore_n (loc' := [zm_A 29, zm_I x1, zm_I 0]) d_100_11 (Nat.le_of_ble_eq_true rfl) rfl) ?_
    exact zl_rf
theorem c_100 {h : zm_H} {x1 : Int} : zc 100 [zm_A 29, zm_I x1] h = zr none (zm_rk 100 [zm_A 29, zm_I x1]) 100 0 [zm_A 29, zm_I x1, zm_U] [] h := rfl
-- BranTub$Parser.both, from 12
set_option maxRecDepth 20000 in
theorem e_100_12 {h : zm_H} {x1 : Int} {x2 : Int} {pf : Nat} (hpf : zf_F pf) {rk : Nat} : zl (if x2 < 1600 then (zm_ck (1 < rk) (zk_I (zc 138 [zm_A 30, zm_I 20] h) (fun v1 h2 => if v1 = 0 then (zm_ck (zm_bit 1) (some (zm_I 1, h2))) else (zm_ck (2 < rk) (zk_V (zc 133 [zm_A 30] h2) (fun h3 => zm_ck (zm_rk 101 [zm_A 29, zm_I x1] < rk) (zk_I (zc 101 [zm_A 29, zm_I x1] h3) (fun v4 h5 => if v4 = 0 then (zm_ck (zm_bit 0) (some (zm_I 0, h5))) else (zm_ck (h5 29 1 = (pf : Int)) (zm_ck (1 < rk) (zk_V (zc 63 [zm_A pf, zm_I (-22)] h5) (fun h6 => zm_ck (zm_i32 (x2 + 1)) (zr none rk 100 12 [zm_A 29, zm_I x1, zm_I (x2 + 1)] [] h6))))))))))))) else (zm_ck (zm_bit 1) (some (zm_I 1, h)))) (zr none rk 100 12 [zm_A 29, zm_I x1, zm_I x2] [] h) := by
  refine zl_tr (r_iload_n d_100_12 rfl) ?_
  refine zl_tr (r_sipush d_100_13 (by decide)) ?_
  refine zl_tr (r_icmp_ge (tgt := 63) d_100_16 (by decide)) (zl_if ?_ ?_)
  · skip
    refine zl_tr (r_aload_n d_100_19 rfl) ?_
    refine zl_tr (r_getR d_100_20 ow_100 f_4_20 la_29 (by decide) fr_29_0) ?_
    refine zl_tr (r_bipush d_100_23 (by decide)) ?_
    refine zl_ckh (p := 1 < rk) (fun hrk => ?_)
    refine zl_tr (r_VI [zm_A 30, zm_I 20] d_100_25 ow_100 cal_4_184 na_138 rfl rfl (Nat.le_of_ble_eq_true rfl) (by rw [rk_138]; exact hrk) (zr_rcv la_30 ow_138) (zr_im mx_138 rfl (Nat.le_of_ble_eq_true rfl)) (by rw [rt_138]; decide)) (zl_I (fun v1 h2 => ?_))
    refine zl_tr (r_if_eq (tgt := 63) d_100_28 (by decide)) (zl_if ?_ ?_)
    · skip
      refine zl_tr (r_iconst d_100_63 (by decide)) ?_
      exact r_zret d_100_64 rt_100
    · skip
      refine zl_tr (r_aload_n d_100_31 rfl) ?_
      refine zl_tr (r_getR d_100_32 ow_100 f_4_20 la_29 (by decide) fr_29_0) ?_
      refine zl_ckh (p := 2 < rk) (fun hrk => ?_)
      refine zl_tr (r_VV [zm_A 30] d_100_35 ow_100 cal_4_72 na_133 rfl rfl (Nat.le_of_ble_eq_true rfl) (by rw [rk_133]; exact hrk) (zr_rcv la_30 ow_133) (zr_im mx_133 rfl (Nat.le_of_ble_eq_true rfl)) rt_133) (zl_V (fun h3 => ?_))
      refine zl_tr (r_aload_n d_100_38 rfl) ?_
      refine zl_tr (r_iload_n d_100_39 rfl) ?_
      refine zl_ckh (p := zm_rk 101 [zm_A 29, zm_I x1] < rk) (fun hrk => ?_)
      refine zl_tr (r_VI [zm_A 29, zm_I x1] d_100_40 ow_100 cal_4_194 na_101 rfl rfl (Nat.le_of_ble_eq_true rfl) hrk (zr_rcv la_29 ow_101) (zr_im mx_101 rfl (Nat.le_of_ble_eq_true rfl)) (by rw [rt_101]; decide)) (zl_I (fun v4 h5 => ?_))
      refine zl_tr (r_if_ne (tgt := 48) d_100_43 (by decide)) (zl_if ?_ ?_)
      · skip
        refine zl_tr (r_iconst d_100_46 (by decide)) ?_
        exact r_zret d_100_47 rt_100
      · skip
        refine zl_tr (r_aload_n d_100_48 rfl) ?_
        refine zl_tr (r_getN (b := pf) (kk := 1) d_100_49 ow_100 f_4_24 la_29 (by decide) (zf_3 hpf) rfl) (zl_ck ?_)
        refine zl_tr (r_bipush d_100_52 (by decide)) ?_
        refine zl_ckh (p := 1 < rk) (fun hrk => ?_)
        refine zl_tr (r_VV [zm_A pf, zm_I (-22)] d_100_54 ow_100 cal_4_190 na_63 rfl rfl (Nat.le_of_ble_eq_true rfl) (by rw [rk_63]; exact hrk) (zr_rcv (zf_o hpf) ow_63) (zr_im mx_63 rfl (Nat.le_of_ble_eq_true rfl)) rt_63) (zl_V (fun h6 => ?_))
        refine zl_tr (r_iinc (loc' := [zm_A 29, zm_I x1, zm_I (x2 + 1)]) d_100_57 rfl (Nat.le_of_ble_eq_true rfl) rfl) (zl_ck ?_)
        refine zl_tr (r_goto (tgt := 12) d_100_60 (by decide)) ?_
        exact zl_rf
  · skip
    refine zl_tr (r_iconst d_100_63 (by decide)) ?_
    exact r_zret d_100_64 rt_100
-- BranTub$Parser.fact
set_option maxRecDepth 20000 in
theorem e_101 {h : zm_H} {x1 : Int} {pf : Nat} (hpf : zf_F pf) {rk : Nat} : zl (zm_ck (1 < rk) (zk_I (zc 138 [zm_A 30, zm_I 21] h) (fun v1 h2 => if v1 = 0 then (zm_ck (1 < rk) (zk_I (zc 139 [zm_A 30, zm_I 91] h2) (fun v3 h4 => if v3 = 0 then (zm_ck (1 < rk) (zk_I (zc 138 [zm_A 30, zm_I 22] h4) (fun v5 h6 => if v5 = 0 then (zm_ck (zm_rk 90 [zm_A 29, zm_I x1] < rk) (zk_I (zc 90 [zm_A 29, zm_I x1] h6) (fun v7 h8 => if v7 = 0 then (zm_ck (zm_bit 0) (some (zm_I 0, h8))) else (zm_ck (2 < rk) (zk_I (zc 102 [zm_A 29] h8) (fun v9 h10 => if v9 = 0 then (zm_ck (2 < rk) (zk_I (zc 79 [zm_A 29] h10) (fun v11 h12 => zm_ck (zm_bit v11) (some (zm_I v11, h12))))) else (zm_ck (2 < rk) (zk_V (zc 133 [zm_A 30] h10) (fun h13 => zm_ck (zm_rk 90 [zm_A 29, zm_I x1] < rk) (zk_I (zc 90 [zm_A 29, zm_I x1] h13) (fun v14 h15 => if v14 = 0 then (zm_ck (zm_bit 0) (some (zm_I 0, h15))) else (zm_ck (h15 29 1 = (pf : Int)) (zm_ck (1 < rk) (zk_V (zc 63 [zm_A pf, zm_I v9] h15) (fun h16 => zm_ck (zm_bit 1) (some (zm_I 1, h16))))))))))))))))) else (zm_ck (h6 29 1 = (pf : Int)) (zm_ck (1 < rk) (zk_V (zc 63 [zm_A pf, zm_I 1] h6) (fun h17 => zm_ck (2 < rk) (zk_V (zc 133 [zm_A 30] h17) (fun h18 => zm_ck (zm_bit 1) (some (zm_I 1, h18))))))))))) else (zm_ck (3 < rk) (zk_I (zc 93 [zm_A 29, zm_I x1] h4) (fun v19 h20 => if v19 = 0 then (zm_ck (zm_bit 0) (some (zm_I 0, h20))) else (zm_ck (zm_i32 (x1 + 1)) (zm_ck (zm_rk 99 [zm_A 29, zm_I (x1 + 1)] < rk) (zk_I (zc 99 [zm_A 29, zm_I (x1 + 1)] h20) (fun v21 h22 => if v21 = 0 then (zm_ck (zm_bit 0) (some (zm_I 0, h22))) else (zm_ck (3 < rk) (zk_I (zc 94 [zm_A 29, zm_I 93] h22) (fun v23 h24 => if v23 = 0 then (zm_ck (zm_bit 0) (some (zm_I 0, h24))) else (zm_ck (zm_bit 1) (some (zm_I 1, h24)))))))))))))))) else (zm_ck (3 < rk) (zk_I (zc 93 [zm_A 29, zm_I x1] h2) (fun v25 h26 => if v25 = 0 then (zm_ck (zm_bit 0) (some (zm_I 0, h26))) else (zm_ck (zm_i32 (x1 + 1)) (zm_ck (zm_rk 101 [zm_A 29, zm_I (x1 + 1)] < rk) (zk_I (zc 101 [zm_A 29, zm_I (x1 + 1)] h26) (fun v27 h28 => if v27 = 0 then (zm_ck (zm_bit 0) (some (zm_I 0, h28))) else (zm_ck (h28 29 1 = (pf : Int)) (zm_ck (1 < rk) (zk_V (zc 63 [zm_A pf, zm_I (-21)] h28) (fun h29 => zm_ck (zm_bit 1) (some (zm_I 1, h29)))))))))))))))) (zr none rk 101 0 [zm_A 29, zm_I x1, zm_U] [] h) := by
  refine zl_tr (r_aload_n d_101_0 rfl) ?_
  refine zl_tr (r_getR d_101_1 ow_101 f_4_20 la_29 (by decide) fr_29_0) ?_
  refine zl_tr (r_bipush d_101_4 (by decide)) ?_
  refine zl_ckh (p := 1 < rk) (fun hrk => ?_)
  refine zl_tr (r_VI [zm_A 30, zm_I 21] d_101_6 ow_101 cal_4_184 na_138 rfl rfl (Nat.le_of_ble_eq_true rfl) (by rw [rk_138]; exact hrk) (zr_rcv la_30 ow_138) (zr_im mx_138 rfl (Nat.le_of_ble_eq_true rfl)) (by rw [rt_138]; decide)) (zl_I (fun v1 h2 => ?_))
  refine zl_tr (r_if_eq (tgt := 43) d_101_9 (by decide)) (zl_if ?_ ?_)
  · skip
    refine zl_tr (r_aload_n d_101_43 rfl) ?_
    refine zl_tr (r_getR d_101_44 ow_101 f_4_20 la_29 (by decide) fr_29_0) ?_
    refine zl_tr (r_bipush d_101_47 (by decide)) ?_
    refine zl_ckh (p := 1 < rk) (fun hrk => ?_)
    refine zl_tr (r_VI [zm_A 30, zm_I 91] d_101_49 ow_101 cal_4_147 na_139 rfl rfl (Nat.le_of_ble_eq_true rfl) (by rw [rk_139]; exact hrk) (zr_rcv la_30 ow_139) (zr_im mx_139 rfl (Nat.le_of_ble_eq_true rfl)) (by rw [rt_139]; decide)) (zl_I (fun v3 h4 => ?_))
    refine zl_tr (r_if_eq (tgt := 88) d_101_52 (by decide)) (zl_if ?_ ?_)
    · skip
      refine zl_tr (r_aload_n d_101_88 rfl) ?_
      refine zl_tr (r_getR d_101_89 ow_101 f_4_20 la_29 (by decide) fr_29_0) ?_
      refine zl_tr (r_bipush d_101_92 (by decide)) ?_
      refine zl_ckh (p := 1 < rk) (fun hrk => ?_)
      refine zl_tr (r_VI [zm_A 30, zm_I 22] d_101_94 ow_101 cal_4_184 na_138 rfl rfl (Nat.le_of_ble_eq_true rfl) (by rw [rk_138]; exact hrk) (zr_rcv la_30 ow_138) (zr_im mx_138 rfl (Nat.le_of_ble_eq_true rfl)) (by rw [rt_138]; decide)) (zl_I (fun v5 h6 => ?_))
      refine zl_tr (r_if_eq (tgt := 117) d_101_97 (by decide)) (zl_if ?_ ?_)
      · skip
        refine zl_tr (r_aload_n d_101_117 rfl) ?_
        refine zl_tr (r_iload_n d_101_118 rfl) ?_
        refine zl_ckh (p := zm_rk 90 [zm_A 29, zm_I x1] < rk) (fun hrk => ?_)
        refine zl_tr (r_VI [zm_A 29, zm_I x1] d_101_119 ow_101 cal_4_93 na_90 rfl rfl (Nat.le_of_ble_eq_true rfl) hrk (zr_rcv la_29 ow_90) (zr_im mx_90 rfl (Nat.le_of_ble_eq_true rfl)) (by rw [rt_90]; decide)) (zl_I (fun v7 h8 => ?_))
        refine zl_tr (r_if_ne (tgt := 127) d_101_122 (by decide)) (zl_if ?_ ?_)
        · skip
          refine zl_tr (r_iconst d_101_125 (by decide)) ?_
          exact r_zret d_101_126 rt_101
        · skip
          refine zl_tr (r_aload_n d_101_127 rfl) ?_
          refine zl_ckh (p := 2 < rk) (fun hrk => ?_)
          refine zl_tr (r_VI [zm_A 29] d_101_128 ow_101 cal_4_200 na_102 rfl rfl (Nat.le_of_ble_eq_true rfl) (by rw [rk_102]; exact hrk) (zr_rcv la_29 ow_102) (zr_im mx_102 rfl (Nat.le_of_ble_eq_true rfl)) (by rw [rt_102]; decide)) (zl_I (fun v9 h10 => ?_))
          refine zl_tr (r_istore_n (loc' := [zm_A 29, zm_I x1, zm_I v9]) d_101_131 (Nat.le_of_ble_eq_true rfl) rfl) ?_
          refine zl_tr (r_iload_n d_101_132 rfl) ?_
          refine zl_tr (r_if_ne (tgt := 141) d_101_133 (by decide)) (zl_if ?_ ?_)
          · skip
            refine zl_tr (r_aload_n d_101_136 rfl) ?_
            refine zl_ckh (p := 2 < rk) (fun hrk => ?_)
            refine zl_tr (r_VI [zm_A 29] d_101_137 ow_101 cal_4_69 na_79 rfl rfl (Nat.le_of_ble_eq_true rfl) (by rw [rk_79]; exact hrk) (zr_rcv la_29 ow_79) (zr_im mx_79 rfl (Nat.le_of_ble_eq_true rfl)) (by rw [rt_79]; decide)) (zl_I (fun v11 h12 => ?_))
            exact r_zret d_101_140 rt_101
          · skip
            refine zl_tr (r_aload_n d_101_141 rfl) ?_
            refine zl_tr (r_getR d_101_142 ow_101 f_4_20 la_29 (by decide) fr_29_0) ?_
            refine zl_ckh (p := 2 < rk) (fun hrk => ?_)
            refine zl_tr (r_VV [zm_A 30] d_101_145 ow_101 cal_4_72 na_133 rfl rfl (Nat.le_of_ble_eq_true rfl) (by rw [rk_133]; exact hrk) (zr_rcv la_30 ow_133) (zr_im mx_133 rfl (Nat.le_of_ble_eq_true rfl)) rt_133) (zl_V (fun h13 => ?_))
            refine zl_tr (r_aload_n d_101_148 rfl) ?_
            refine zl_tr (r_iload_n d_101_149 rfl) ?_
            refine zl_ckh (p := zm_rk 90 [zm_A 29, zm_I x1] < rk) (fun hrk => ?_)
            refine zl_tr (r_VI [zm_A 29, zm_I x1] d_101_150 ow_101 cal_4_93 na_90 rfl rfl (Nat.le_of_ble_eq_true rfl) hrk (zr_rcv la_29 ow_90) (zr_im mx_90 rfl (Nat.le_of_ble_eq_true rfl)) (by rw [rt_90]; decide)) (zl_I (fun v14 h15 => ?_))
            refine zl_tr (r_if_ne (tgt := 158) d_101_153 (by decide)) (zl_if ?_ ?_)
            · skip
              refine zl_tr (r_iconst d_101_156 (by decide)) ?_
              exact r_zret d_101_157 rt_101
            · skip
              refine zl_tr (r_aload_n d_101_158 rfl) ?_
              refine zl_tr (r_getN (b := pf) (kk := 1) d_101_159 ow_101 f_4_24 la_29 (by decide) (zf_3 hpf) rfl) (zl_ck ?_)
              refine zl_tr (r_iload_n d_101_162 rfl) ?_
              refine zl_ckh (p := 1 < rk) (fun hrk => ?_)
              refine zl_tr (r_VV [zm_A pf, zm_I v9] d_101_163 ow_101 cal_4_190 na_63 rfl rfl (Nat.le_of_ble_eq_true rfl) (by rw [rk_63]; exact hrk) (zr_rcv (zf_o hpf) ow_63) (zr_im mx_63 rfl (Nat.le_of_ble_eq_true rfl)) rt_63) (zl_V (fun h16 => ?_))
              refine zl_tr (r_iconst d_101_166 (by decide)) ?_
              exact r_zret d_101_167 rt_101
      · skip
        refine zl_tr (r_aload_n d_101_100 rfl) ?_
        refine zl_tr (r_getN (b := pf) (kk := 1) d_101_101 ow_101 f_4_24 la_29 (by decide) (zf_3 hpf) rfl) (zl_ck ?_)
        refine zl_tr (r_iconst d_101_104 (by decide)) ?_
        refine zl_ckh (p := 1 < rk) (fun hrk => ?_)
        refine zl_tr (r_VV [zm_A pf, zm_I 1] d_101_105 ow_101 cal_4_190 na_63 rfl rfl (Nat.le_of_ble_eq_true rfl) (by rw [rk_63]; exact hrk) (zr_rcv (zf_o hpf) ow_63) (zr_im mx_63 rfl (Nat.le_of_ble_eq_true rfl)) rt_63) (zl_V (fun h17 => ?_))
        refine zl_tr (r_aload_n d_101_108 rfl) ?_
        refine zl_tr (r_getR d_101_109 ow_101 f_4_20 la_29 (by decide) fr_29_0) ?_
        refine zl_ckh (p := 2 < rk) (fun hrk => ?_)
        refine zl_tr (r_VV [zm_A 30] d_101_112 ow_101 cal_4_72 na_133 rfl rfl (Nat.le_of_ble_eq_true rfl) (by rw [rk_133]; exact hrk) (zr_rcv la_30 ow_133) (zr_im mx_133 rfl (Nat.le_of_ble_eq_true rfl)) rt_133) (zl_V (fun h18 => ?_))
        refine zl_tr (r_iconst d_101_115 (by decide)) ?_
        exact r_zret d_101_116 rt_101
    · skip
      refine zl_tr (r_aload_n d_101_55 rfl) ?_
      refine zl_tr (r_iload_n d_101_56 rfl) ?_
      refine zl_ckh (p := 3 < rk) (fun hrk => ?_)
      refine zl_tr (r_VI [zm_A 29, zm_I x1] d_101_57 ow_101 cal_4_197 na_93 rfl rfl (Nat.le_of_ble_eq_true rfl) (by rw [rk_93]; exact hrk) (zr_rcv la_29 ow_93) (zr_im mx_93 rfl (Nat.le_of_ble_eq_true rfl)) (by rw [rt_93]; decide)) (zl_I (fun v19 h20 => ?_))
      refine zl_tr (r_if_eq (tgt := 86) d_101_60 (by decide)) (zl_if ?_ ?_)
      · skip
        refine zl_tr (r_iconst d_101_86 (by decide)) ?_
        exact r_zret d_101_87 rt_101
      · skip
        refine zl_tr (r_aload_n d_101_63 rfl) ?_
        refine zl_tr (r_iload_n d_101_64 rfl) ?_
        refine zl_tr (r_iconst d_101_65 (by decide)) ?_
        refine zl_tr (r_iadd d_101_66) (zl_ck ?_)
        refine zl_ckh (p := zm_rk 99 [zm_A 29, zm_I (x1 + 1)] < rk) (fun hrk => ?_)
        refine zl_tr (r_VI [zm_A 29, zm_I (x1 + 1)] d_101_67 ow_101 cal_4_102 na_99 rfl rfl (Nat.le_of_ble_eq_true rfl) hrk (zr_rcv la_29 ow_99) (zr_im mx_99 rfl (Nat.le_of_ble_eq_true rfl)) (by rw [rt_99]; decide)) (zl_I (fun v21 h22 => ?_))
        refine zl_tr (r_if_eq (tgt := 86) d_101_70 (by decide)) (zl_if ?_ ?_)
        · skip
          refine zl_tr (r_iconst d_101_86 (by decide)) ?_
          exact r_zret d_101_87 rt_101
        · skip
          refine zl_tr (r_aload_n d_101_73 rfl) ?_
          refine zl_tr (r_bipush d_101_74 (by decide)) ?_
          refine zl_ckh (p := 3 < rk) (fun hrk => ?_)
          refine zl_tr (r_VI [zm_A 29, zm_I 93] d_101_76 ow_101 cal_4_111 na_94 rfl rfl (Nat.le_of_ble_eq_true rfl) (by rw [rk_94]; exact hrk) (zr_rcv la_29 ow_94) (zr_im mx_94 rfl (Nat.le_of_ble_eq_true rfl)) (by rw [rt_94]; decide)) (zl_I (fun v23 h24 => ?_))
          refine zl_tr (r_if_eq (tgt := 86) d_101_79 (by decide)) (zl_if ?_ ?_)
          · skip
            refine zl_tr (r_iconst d_101_86 (by decide)) ?_
            exact r_zret d_101_87 rt_101
          · skip
            refine zl_tr (r_iconst d_101_82 (by decide)) ?_
            refine zl_tr (r_goto (tgt := 87) d_101_83 (by decide)) ?_
            exact r_zret d_101_87 rt_101
  · skip
    refine zl_tr (r_aload_n d_101_12 rfl) ?_
    refine zl_tr (r_iload_n d_101_13 rfl) ?_
    refine zl_ckh (p := 3 < rk) (fun hrk => ?_)
    refine zl_tr (r_VI [zm_A 29, zm_I x1] d_101_14 ow_101 cal_4_197 na_93 rfl rfl (Nat.le_of_ble_eq_true rfl) (by rw [rk_93]; exact hrk) (zr_rcv la_29 ow_93) (zr_im mx_93 rfl (Nat.le_of_ble_eq_true rfl)) (by rw [rt_93]; decide)) (zl_I (fun v25 h26 => ?_))
    refine zl_tr (r_if_eq (tgt := 30) d_101_17 (by decide)) (zl_if ?_ ?_)
    · skip
      refine zl_tr (r_iconst d_101_30 (by decide)) ?_
      exact r_zret d_101_31 rt_101
    · skip
      refine zl_tr (r_aload_n d_101_20 rfl) ?_
      refine zl_tr (r_iload_n d_101_21 rfl) ?_
      refine zl_tr (r_iconst d_101_22 (by decide)) ?_
      refine zl_tr (r_iadd d_101_23) (zl_ck ?_)
      refine zl_ckh (p := zm_rk 101 [zm_A 29, zm_I (x1 + 1)] < rk) (fun hrk => ?_)
      refine zl_tr (r_VI [zm_A 29, zm_I (x1 + 1)] d_101_24 ow_101 cal_4_194 na_101 rfl rfl (Nat.le_of_ble_eq_true rfl) hrk (zr_rcv la_29 ow_101) (zr_im mx_101 rfl (Nat.le_of_ble_eq_true rfl)) (by rw [rt_101]; decide)) (zl_I (fun v27 h28 => ?_))
      refine zl_tr (r_if_ne (tgt := 32) d_101_27 (by decide)) (zl_if ?_ ?_)
      · skip
        refine zl_tr (r_iconst d_101_30 (by decide)) ?_
        exact r_zret d_101_31 rt_101
      · skip
        refine zl_tr (r_aload_n d_101_32 rfl) ?_
        refine zl_tr (r_getN (b := pf) (kk := 1) d_101_33 ow_101 f_4_24 la_29 (by decide) (zf_3 hpf) rfl) (zl_ck ?_)
        refine zl_tr (r_bipush d_101_36 (by decide)) ?_
        refine zl_ckh (p := 1 < rk) (fun hrk => ?_)
        refine zl_tr (r_VV [zm_A pf, zm_I (-21)] d_101_38 ow_101 cal_4_190 na_63 rfl rfl (Nat.le_of_ble_eq_true rfl) (by rw [rk_63]; exact hrk) (zr_rcv (zf_o hpf) ow_63) (zr_im mx_63 rfl (Nat.le_of_ble_eq_true rfl)) rt_63) (zl_V (fun h29 => ?_))
        refine zl_tr (r_iconst d_101_41 (by decide)) ?_
        exact r_zret d_101_42 rt_101
theorem c_101 {h : zm_H} {x1 : Int} {pf : Nat} (hpf : zf_F pf) : zc 101 [zm_A 29, zm_I x1] h = zr none (zm_rk 101 [zm_A 29, zm_I x1]) 101 0 [zm_A 29, zm_I x1, zm_U] [] h := rfl
-- BranTub$Parser.comparing
set_option maxRecDepth 20000 in
theorem e_102 {h : zm_H}  : zl (zk_I (zc 139 [zm_A 30, zm_I 60] h) (fun v1 h2 => if v1 = 0 then (zk_I (zc 139 [zm_A 30, zm_I 62] h2) (fun v3 h4 => if v3 = 0 then (zk_I (zc 139 [zm_A 30, zm_I 61] h4) (fun v5 h6 => if v5 = 0 then (some (zm_I 0, h6)) else (some (zm_I (-20), h6)))) else (some (zm_I (-19), h4)))) else (some (zm_I (-18), h2)))) (zc 102 [zm_A 29] h) := by
  rw [zc_eq (loc := [zm_A 29]) (rk_102 _) rfl]
  refine zl_tr (r_aload_n d_102_0 rfl) ?_
  refine zl_tr (r_getR d_102_1 ow_102 f_4_20 la_29 (by decide) fr_29_0) ?_
  refine zl_tr (r_bipush d_102_4 (by decide)) ?_
  refine zl_tr (r_VI [zm_A 30, zm_I 60] d_102_6 ow_102 cal_4_147 na_139 rfl rfl (Nat.le_of_ble_eq_true rfl) (by rw [rk_139]; decide) (zr_rcv la_30 ow_139) (zr_im mx_139 rfl (Nat.le_of_ble_eq_true rfl)) (by rw [rt_139]; decide)) (zl_I (fun v1 h2 => ?_))
  refine zl_tr (r_if_eq (tgt := 15) d_102_9 (by decide)) (zl_if ?_ ?_)
  · skip
    refine zl_tr (r_aload_n d_102_15 rfl) ?_
    refine zl_tr (r_getR d_102_16 ow_102 f_4_20 la_29 (by decide) fr_29_0) ?_
    refine zl_tr (r_bipush d_102_19 (by decide)) ?_
    refine zl_tr (r_VI [zm_A 30, zm_I 62] d_102_21 ow_102 cal_4_147 na_139 rfl rfl (Nat.le_of_ble_eq_true rfl) (by rw [rk_139]; decide) (zr_rcv la_30 ow_139) (zr_im mx_139 rfl (Nat.le_of_ble_eq_true rfl)) (by rw [rt_139]; decide)) (zl_I (fun v3 h4 => ?_))
    refine zl_tr (r_if_eq (tgt := 30) d_102_24 (by decide)) (zl_if ?_ ?_)
    · skip
      refine zl_tr (r_aload_n d_102_30 rfl) ?_
      refine zl_tr (r_getR d_102_31 ow_102 f_4_20 la_29 (by decide) fr_29_0) ?_
      refine zl_tr (r_bipush d_102_34 (by decide)) ?_
      refine zl_tr (r_VI [zm_A 30, zm_I 61] d_102_36 ow_102 cal_4_147 na_139 rfl rfl (Nat.le_of_ble_eq_true rfl) (by rw [rk_139]; decide) (zr_rcv la_30 ow_139) (zr_im mx_139 rfl (Nat.le_of_ble_eq_true rfl)) (by rw [rt_139]; decide)) (zl_I (fun v5 h6 => ?_))
      refine zl_tr (r_if_eq (tgt := 47) d_102_39 (by decide)) (zl_if ?_ ?_)
      · skip
        refine zl_tr (r_iconst d_102_47 (by decide)) ?_
        exact r_iret d_102_48 rt_102
      · skip
        refine zl_tr (r_bipush d_102_42 (by decide)) ?_
        refine zl_tr (r_goto (tgt := 48) d_102_44 (by decide)) ?_
        exact r_iret d_102_48 rt_102
    · skip
      refine zl_tr (r_bipush d_102_27 (by decide)) ?_
      exact r_iret d_102_29 rt_102
  · skip
    refine zl_tr (r_bipush d_102_12 (by decide)) ?_
    exact r_iret d_102_14 rt_102
-- BranTub$Picture.write
set_option maxRecDepth 20000 in
theorem e_104 {h : zm_H} {o : Nat} (ho : zf_T o) {t : Nat} (ht : zf_F t) : zl (zk_V (zc 105 [zm_A 139, zm_I ((zm_wr h 139 1 0) o 0)] (zm_wr h 139 1 0)) (fun h1 => zk_V (zc 106 [zm_A 139, zm_I (h1 o 1)] h1) (fun h2 => zr none 3 104 23 [zm_A 139, zm_A t, zm_A o, zm_I 0, zm_U] [] h2))) (zc 104 [zm_A 139, zm_A t, zm_A o] h) := by
  rw [zc_eq (loc := [zm_A 139, zm_A t, zm_A o, zm_U, zm_U]) (rk_104 _) rfl]
  refine zl_tr (r_aload_n d_104_0 rfl) ?_
  refine zl_tr (r_iconst d_104_1 (by decide)) ?_
  refine zl_tr (r_putI (kk := 1) d_104_2 ow_104 f_5_15 la_139 (by decide) rfl) ?_
  refine zl_tr (r_aload_n d_104_5 rfl) ?_
  refine zl_tr (r_aload_n d_104_6 rfl) ?_
  refine zl_tr (r_getI (kk := 0) d_104_7 ow_104 f_5_19 (zt_o ho) (by decide) rfl) ?_
  refine zl_tr (r_VV [zm_A 139, zm_I ((zm_wr h 139 1 0) o 0)] d_104_10 ow_104 cal_5_24 na_105 rfl rfl (Nat.le_of_ble_eq_true rfl) (by rw [rk_105]; decide) (zr_rcv la_139 ow_105) (zr_im mx_105 rfl (Nat.le_of_ble_eq_true rfl)) rt_105) (zl_V (fun h1 => ?_))
  refine zl_tr (r_aload_n d_104_13 rfl) ?_
  refine zl_tr (r_aload_n d_104_14 rfl) ?_
  refine zl_tr (r_getI (kk := 1) d_104_15 ow_104 f_5_28 (zt_o ho) (by decide) rfl) ?_
  refine zl_tr (r_VV [zm_A 139, zm_I (h1 o 1)] d_104_18 ow_104 cal_5_31 na_106 rfl rfl (Nat.le_of_ble_eq_true rfl) (by rw [rk_106]; decide) (zr_rcv la_139 ow_106) (zr_im mx_106 rfl (Nat.le_of_ble_eq_true rfl)) rt_106) (zl_V (fun h2 => ?_))
  refine zl_tr (r_iconst d_104_21 (by decide)) ?_
  refine zl_tr (r_istore_n (loc' := [zm_A 139, zm_A t, zm_A o, zm_I 0, zm_U]) d_104_22 (Nat.le_of_ble_eq_true rfl) rfl) ?_
  exact zl_rf
-- BranTub$Picture.write, from 23
set_option maxRecDepth 20000 in
theorem e_104_23 {h : zm_H} {x3 : Int} {w4 : zm_V} {o : Nat} (ho : zf_T o) {t : Nat} (ht : zf_F t) : zl (if x3 < (h t 2) then (zr none 3 104 34 [zm_A 139, zm_A t, zm_A o, zm_I x3, zm_I 0] [] h) else (zr none 3 104 73 [zm_A 139, zm_A t, zm_A o, zm_I 0, w4] [] h)) (zr none 3 104 23 [zm_A 139, zm_A t, zm_A o, zm_I x3, w4] [] h) := by
  refine zl_tr (r_iload_n d_104_23 rfl) ?_
  refine zl_tr (r_aload_n d_104_24 rfl) ?_
  refine zl_tr (r_getI (kk := 2) d_104_25 ow_104 f_5_34 (zf_o ht) (by decide) rfl) ?_
  refine zl_tr (r_icmp_ge (tgt := 71) d_104_28 (by decide)) (zl_if ?_ ?_)
  · skip
    refine zl_tr (r_iconst d_104_31 (by decide)) ?_
    refine zl_tr (r_istore (loc' := [zm_A 139, zm_A t, zm_A o, zm_I x3, zm_I 0]) d_104_32 (Nat.le_of_ble_eq_true rfl) rfl) ?_
    exact zl_rf
  · skip
    refine zl_tr (r_iconst d_104_71 (by decide)) ?_
    refine zl_tr (r_istore_n (loc' := [zm_A 139, zm_A t, zm_A o, zm_I 0, w4]) d_104_72 (Nat.le_of_ble_eq_true rfl) rfl) ?_
    exact zl_rf
-- BranTub$Picture.write, from 34
set_option maxRecDepth 20000 in
theorem e_104_34 {h : zm_H} {x3 : Int} {x4 : Int} {o : Nat} (ho : zf_T o) {t : Nat} (ht : zf_F t) : zl (if x4 < (h t 1) then (zm_ck (zm_i32 (x3 * 8)) (zm_ck (zm_i32 ((x3 * 8) + x4)) (zm_ck (0 ≤ ((x3 * 8) + x4) ∧ ((x3 * 8) + x4) < ((40 : Nat) : Int)) (zk_V (zc 105 [zm_A 139, zm_I (h (o + 1) ((x3 * 8) + x4))] h) (fun h1 => zm_ck (zm_i32 (x4 + 1)) (zr none 3 104 34 [zm_A 139, zm_A t, zm_A o, zm_I x3, zm_I (x4 + 1)] [] h1)))))) else (zm_ck (zm_i32 (x3 + 1)) (zr none 3 104 23 [zm_A 139, zm_A t, zm_A o, zm_I (x3 + 1), zm_I x4] [] h))) (zr none 3 104 34 [zm_A 139, zm_A t, zm_A o, zm_I x3, zm_I x4] [] h) := by
  refine zl_tr (r_iload d_104_34 rfl) ?_
  refine zl_tr (r_aload_n d_104_36 rfl) ?_
  refine zl_tr (r_getI (kk := 1) d_104_37 ow_104 f_5_39 (zf_o ht) (by decide) rfl) ?_
  refine zl_tr (r_icmp_ge (tgt := 65) d_104_40 (by decide)) (zl_if ?_ ?_)
  · skip
    refine zl_tr (r_aload_n d_104_43 rfl) ?_
    refine zl_tr (r_aload_n d_104_44 rfl) ?_
    refine zl_tr (r_getR d_104_45 ow_104 f_5_42 (zt_o ho) (by decide) (zt_r2 ho)) ?_
    refine zl_tr (r_iload_n d_104_48 rfl) ?_
    refine zl_tr (r_bipush d_104_49 (by decide)) ?_
    refine zl_tr (r_imul d_104_51) (zl_ck ?_)
    refine zl_tr (r_iload d_104_52 rfl) ?_
    refine zl_tr (r_iadd d_104_54) (zl_ck ?_)
    refine zl_tr (r_iaload d_104_55 (zt_a1 ho)) (zl_ck ?_)
    refine zl_tr (r_VV [zm_A 139, zm_I (h (o + 1) ((x3 * 8) + x4))] d_104_56 ow_104 cal_5_24 na_105 rfl rfl (Nat.le_of_ble_eq_true rfl) (by rw [rk_105]; decide) (zr_rcv la_139 ow_105) (zr_im mx_105 rfl (Nat.le_of_ble_eq_true rfl)) rt_105) (zl_V (fun h1 => ?_))
    refine zl_tr (r_iinc (loc' := [zm_A 139, zm_A t, zm_A o, zm_I x3, zm_I (x4 + 1)]) d_104_59 rfl (Nat.le_of_ble_eq_true rfl) rfl) (zl_ck ?_)
    refine zl_tr (r_goto (tgt := 34) d_104_62 (by decide)) ?_
    exact zl_rf
  · skip
    refine zl_tr (r_iinc (loc' := [zm_A 139, zm_A t, zm_A o, zm_I (x3 + 1), zm_I x4]) d_104_65 rfl (Nat.le_of_ble_eq_true rfl) rfl) (zl_ck ?_)
    refine zl_tr (r_goto (tgt := 23) d_104_68 (by decide)) ?_
    exact zl_rf
-- BranTub$Picture.write, from 73
set_option maxRecDepth 20000 in
theorem e_104_73 {h : zm_H} {x3 : Int} {w4 : zm_V} {o : Nat} (ho : zf_T o) {t : Nat} (ht : zf_F t) : zl (if x3 < (h t 3) then (zm_ck (0 ≤ x3 ∧ x3 < ((8 : Nat) : Int)) (zk_V (zc 106 [zm_A 139, zm_I (h (o + 2) x3)] h) (fun h1 => zr none 3 104 94 [zm_A 139, zm_A t, zm_A o, zm_I x3, zm_I 0] [] h1))) else (zk_I (zc 107 [zm_A 140, zm_I (h 139 1)] h) (fun v2 h3 => zk_V (zc 105 [zm_A 139, zm_I v2] h3) (fun h4 => some (zm_U, h4))))) (zr none 3 104 73 [zm_A 139, zm_A t, zm_A o, zm_I x3, w4] [] h) := by
  refine zl_tr (r_iload_n d_104_73 rfl) ?_
  refine zl_tr (r_aload_n d_104_74 rfl) ?_
  refine zl_tr (r_getI (kk := 3) d_104_75 ow_104 f_5_45 (zf_o ht) (by decide) rfl) ?_
  refine zl_tr (r_icmp_ge (tgt := 131) d_104_78 (by decide)) (zl_if ?_ ?_)
  · skip
    refine zl_tr (r_aload_n d_104_81 rfl) ?_
    refine zl_tr (r_aload_n d_104_82 rfl) ?_
    refine zl_tr (r_getR d_104_83 ow_104 f_5_48 (zt_o ho) (by decide) (zt_r3 ho)) ?_
    refine zl_tr (r_iload_n d_104_86 rfl) ?_
    refine zl_tr (r_iaload d_104_87 (zt_a2 ho)) (zl_ck ?_)
    refine zl_tr (r_VV [zm_A 139, zm_I (h (o + 2) x3)] d_104_88 ow_104 cal_5_31 na_106 rfl rfl (Nat.le_of_ble_eq_true rfl) (by rw [rk_106]; decide) (zr_rcv la_139 ow_106) (zr_im mx_106 rfl (Nat.le_of_ble_eq_true rfl)) rt_106) (zl_V (fun h1 => ?_))
    refine zl_tr (r_iconst d_104_91 (by decide)) ?_
    refine zl_tr (r_istore (loc' := [zm_A 139, zm_A t, zm_A o, zm_I x3, zm_I 0]) d_104_92 (Nat.le_of_ble_eq_true rfl) rfl) ?_
    exact zl_rf
  · skip
    refine zl_tr (r_aload_n d_104_131 rfl) ?_
    refine zl_tr (r_aload_n d_104_132 rfl) ?_
    refine zl_tr (r_getR d_104_133 ow_104 f_5_11 la_139 (by decide) fr_139_0) ?_
    refine zl_tr (r_aload_n d_104_136 rfl) ?_
    refine zl_tr (r_getI (kk := 1) d_104_137 ow_104 f_5_15 la_139 (by decide) rfl) ?_
    refine zl_tr (r_SI [zm_A 140, zm_I (h 139 1)] d_104_140 ow_104 cal_5_54 (by decide) na_107 rfl rfl (Nat.le_of_ble_eq_true rfl) (by rw [rk_107]; decide) (zr_im mx_107 rfl (Nat.le_of_ble_eq_true rfl)) (by rw [rt_107]; decide)) (zl_I (fun v2 h3 => ?_))
    refine zl_tr (r_VV [zm_A 139, zm_I v2] d_104_143 ow_104 cal_5_24 na_105 rfl rfl (Nat.le_of_ble_eq_true rfl) (by rw [rk_105]; decide) (zr_rcv la_139 ow_105) (zr_im mx_105 rfl (Nat.le_of_ble_eq_true rfl)) rt_105) (zl_V (fun h4 => ?_))
    exact r_vret d_104_146 rt_104
-- BranTub$Picture.write, from 94
set_option maxRecDepth 20000 in
theorem e_104_94 {h : zm_H} {x3 : Int} {x4 : Int} {o : Nat} (ho : zf_T o) {t : Nat} (ht : zf_F t) : zl (if x4 < (h t 1) then (zm_ck (zm_i32 (x3 * 8)) (zm_ck (zm_i32 ((x3 * 8) + x4)) (zm_ck (0 ≤ ((x3 * 8) + x4) ∧ ((x3 * 8) + x4) < ((64 : Nat) : Int)) (zk_V (zc 106 [zm_A 139, zm_I (h (o + 3) ((x3 * 8) + x4))] h) (fun h1 => zm_ck (zm_i32 (x4 + 1)) (zr none 3 104 94 [zm_A 139, zm_A t, zm_A o, zm_I x3, zm_I (x4 + 1)] [] h1)))))) else (zm_ck (zm_i32 (x3 + 1)) (zr none 3 104 73 [zm_A 139, zm_A t, zm_A o, zm_I (x3 + 1), zm_I x4] [] h))) (zr none 3 104 94 [zm_A 139, zm_A t, zm_A o, zm_I x3, zm_I x4] [] h) := by
  refine zl_tr (r_iload d_104_94 rfl) ?_
  refine zl_tr (r_aload_n d_104_96 rfl) ?_
  refine zl_tr (r_getI (kk := 1) d_104_97 ow_104 f_5_39 (zf_o ht) (by decide) rfl) ?_
  refine zl_tr (r_icmp_ge (tgt := 125) d_104_100 (by decide)) (zl_if ?_ ?_)
  · skip
    refine zl_tr (r_aload_n d_104_103 rfl) ?_
    refine zl_tr (r_aload_n d_104_104 rfl) ?_
    refine zl_tr (r_getR d_104_105 ow_104 f_5_51 (zt_o ho) (by decide) (zt_r4 ho)) ?_
    refine zl_tr (r_iload_n d_104_108 rfl) ?_
    refine zl_tr (r_bipush d_104_109 (by decide)) ?_
    refine zl_tr (r_imul d_104_111) (zl_ck ?_)
    refine zl_tr (r_iload d_104_112 rfl) ?_
    refine zl_tr (r_iadd d_104_114) (zl_ck ?_)
    refine zl_tr (r_iaload d_104_115 (zt_a3 ho)) (zl_ck ?_)
    refine zl_tr (r_VV [zm_A 139, zm_I (h (o + 3) ((x3 * 8) + x4))] d_104_116 ow_104 cal_5_31 na_106 rfl rfl (Nat.le_of_ble_eq_true rfl) (by rw [rk_106]; decide) (zr_rcv la_139 ow_106) (zr_im mx_106 rfl (Nat.le_of_ble_eq_true rfl)) rt_106) (zl_V (fun h1 => ?_))
    refine zl_tr (r_iinc (loc' := [zm_A 139, zm_A t, zm_A o, zm_I x3, zm_I (x4 + 1)]) d_104_119 rfl (Nat.le_of_ble_eq_true rfl) rfl) (zl_ck ?_)
    refine zl_tr (r_goto (tgt := 94) d_104_122 (by decide)) ?_
    exact zl_rf
  · skip
    refine zl_tr (r_iinc (loc' := [zm_A 139, zm_A t, zm_A o, zm_I (x3 + 1), zm_I x4]) d_104_125 rfl (Nat.le_of_ble_eq_true rfl) rfl) (zl_ck ?_)
    refine zl_tr (r_goto (tgt := 73) d_104_128 (by decide)) ?_
    exact zl_rf
-- BranTub$Picture.add
set_option maxRecDepth 20000 in
theorem e_105 {h : zm_H} {x1 : Int} : zl (if (h 139 1) < 188 then (zm_ck (zm_i32 ((h 139 1) + 1)) (zm_ck (0 ≤ (h 139 1) ∧ (h 139 1) < ((188 : Nat) : Int)) (some (zm_U, (zm_wr (zm_wr h 139 1 ((h 139 1) + 1)) 140 (h 139 1) (zb_iand x1 255)))))) else (some (zm_U, h))) (zc 105 [zm_A 139, zm_I x1] h) := by
  rw [zc_eq (loc := [zm_A 139, zm_I x1]) (rk_105 _) rfl]
  refine zl_tr (r_aload_n d_105_0 rfl) ?_
  refine zl_tr (r_getI (kk := 1) d_105_1 ow_105 f_5_15 la_139 (by decide) rfl) ?_
  refine zl_tr (r_sipush d_105_4 (by decide)) ?_
  refine zl_tr (r_icmp_ge (tgt := 31) d_105_7 (by decide)) (zl_if ?_ ?_)
  · skip
    refine zl_tr (r_aload_n d_105_10 rfl) ?_
    refine zl_tr (r_getR d_105_11 ow_105 f_5_11 la_139 (by decide) fr_139_0) ?_
    refine zl_tr (r_aload_n d_105_14 rfl) ?_
    refine zl_tr (r_dup d_105_15 rfl) ?_
    refine zl_tr (r_getI (kk := 1) d_105_16 ow_105 f_5_15 la_139 (by decide) rfl) ?_
    refine zl_tr (r_dup_x1 d_105_19 ⟨rfl, rfl⟩) ?_
    refine zl_tr (r_iconst d_105_20 (by decide)) ?_
    refine zl_tr (r_iadd d_105_21) (zl_ck ?_)
    refine zl_tr (r_putI (kk := 1) d_105_22 ow_105 f_5_15 la_139 (by decide) rfl) ?_
    refine zl_tr (r_iload_n d_105_25 rfl) ?_
    refine zl_tr (r_sipush d_105_26 (by decide)) ?_
    refine zl_tr (r_iand d_105_29) ?_
    refine zl_tr (r_iastore d_105_30 la_140) (zl_ck ?_)
    exact r_vret d_105_31 rt_105
  · skip
    exact r_vret d_105_31 rt_105
-- BranTub$Picture.addTwo
set_option maxRecDepth 20000 in
theorem e_106 {h : zm_H} {x1 : Int} : zl (zk_V (zc 105 [zm_A 139, zm_I (zb_ishr x1 8)] h) (fun h1 => zk_V (zc 105 [zm_A 139, zm_I x1] h1) (fun h2 => some (zm_U, h2)))) (zc 106 [zm_A 139, zm_I x1] h) := by
  rw [zc_eq (loc := [zm_A 139, zm_I x1]) (rk_106 _) rfl]
  refine zl_tr (r_aload_n d_106_0 rfl) ?_
  refine zl_tr (r_iload_n d_106_1 rfl) ?_
  refine zl_tr (r_bipush d_106_2 (by decide)) ?_
  refine zl_tr (r_ishr d_106_4) ?_
  refine zl_tr (r_VV [zm_A 139, zm_I (zb_ishr x1 8)] d_106_5 ow_106 cal_5_24 na_105 rfl rfl (Nat.le_of_ble_eq_true rfl) (by rw [rk_105]; decide) (zr_rcv la_139 ow_105) (zr_im mx_105 rfl (Nat.le_of_ble_eq_true rfl)) rt_105) (zl_V (fun h1 => ?_))
  refine zl_tr (r_aload_n d_106_8 rfl) ?_
  refine zl_tr (r_iload_n d_106_9 rfl) ?_
  refine zl_tr (r_VV [zm_A 139, zm_I x1] d_106_10 ow_106 cal_5_24 na_105 rfl rfl (Nat.le_of_ble_eq_true rfl) (by rw [rk_105]; decide) (zr_rcv la_139 ow_105) (zr_im mx_105 rfl (Nat.le_of_ble_eq_true rfl)) rt_105) (zl_V (fun h2 => ?_))
  exact r_vret d_106_13 rt_106
-- BranTub$Picture.checkOf
set_option maxRecDepth 20000 in
theorem e_107 {h : zm_H} {x2 : Int} {a1 na1 : Nat} (ha1 : zm_lay a1 = .inr (0, na1) ∧ 3 < a1 ∧ a1 < zm_NX) : zl (zr none 1 107 5 [zm_A a1, zm_I x2, zm_I 109, zm_I 0] [] h) (zc 107 [zm_A a1, zm_I x2] h) := by
  rw [zc_eq (loc := [zm_A a1, zm_I x2, zm_U, zm_U]) (rk_107 _) rfl]
  refine zl_tr (r_bipush d_107_0 (by decide)) ?_
  refine zl_tr (r_istore_n (loc' := [zm_A a1, zm_I x2, zm_I 109, zm_U]) d_107_2 (Nat.le_of_ble_eq_true rfl) rfl) ?_
  refine zl_tr (r_iconst d_107_3 (by decide)) ?_
  refine zl_tr (r_istore_n (loc' := [zm_A a1, zm_I x2, zm_I 109, zm_I 0]) d_107_4 (Nat.le_of_ble_eq_true rfl) rfl) ?_
  exact zl_rf
-- BranTub$Picture.checkOf, from 5
set_option maxRecDepth 20000 in
theorem e_107_5 {h : zm_H} {x1 : Int} {x2 : Int} {x3 : Int} {a1 na1 : Nat} (ha1 : zm_lay a1 = .inr (0, na1) ∧ 3 < a1 ∧ a1 < zm_NX) : zl (if x3 < x1 then (if x3 < (((na1 : Nat) : Int)) then (zm_ck (zm_i32 (5 * x2)) (zm_ck (0 ≤ x3 ∧ x3 < ((na1 : Nat) : Int)) (zm_ck (zm_i32 ((5 * x2) + (h a1 x3))) (zm_ck ((251 : Int) ≠ 0 ∧ zm_i32 (((5 * x2) + (h a1 x3)).tdiv 251) ∧ zm_i32 (((5 * x2) + (h a1 x3)).tmod 251)) (zm_ck (zm_i32 (x3 + 1)) (zr none 1 107 5 [zm_A a1, zm_I x1, zm_I (((5 * x2) + (h a1 x3)).tmod 251), zm_I (x3 + 1)] [] h)))))) else (some (zm_I x2, h))) else (some (zm_I x2, h))) (zr none 1 107 5 [zm_A a1, zm_I x1, zm_I x2, zm_I x3] [] h) := by
  refine zl_tr (r_iload_n d_107_5 rfl) ?_
  refine zl_tr (r_iload_n d_107_6 rfl) ?_
  refine zl_tr (r_icmp_ge (tgt := 34) d_107_7 (by decide)) (zl_if ?_ ?_)
  · skip
    refine zl_tr (r_iload_n d_107_10 rfl) ?_
    refine zl_tr (r_aload_n d_107_11 rfl) ?_
    refine zl_tr (r_alen (nn := ((na1 : Nat) : Int)) d_107_12 ha1 (by decide) rfl) ?_
    refine zl_tr (r_icmp_ge (tgt := 34) d_107_13 (by decide)) (zl_if ?_ ?_)
    · skip
      refine zl_tr (r_iconst d_107_16 (by decide)) ?_
      refine zl_tr (r_iload_n d_107_17 rfl) ?_
      refine zl_tr (r_imul d_107_18) (zl_ck ?_)
      refine zl_tr (r_aload_n d_107_19 rfl) ?_
      refine zl_tr (r_iload_n d_107_20 rfl) ?_
      refine zl_tr (r_iaload d_107_21 ha1) (zl_ck ?_)
      refine zl_tr (r_iadd d_107_22) (zl_ck ?_)
      refine zl_tr (r_sipush d_107_23 (by decide)) ?_
      refine zl_tr (r_irem d_107_26) (zl_ck ?_)
      refine zl_tr (r_istore_n (loc' := [zm_A a1, zm_I x1, zm_I (((5 * x2) + (h a1 x3)).tmod 251), zm_I x3]) d_107_27 (Nat.le_of_ble_eq_true rfl) rfl) ?_
      refine zl_tr (r_iinc (loc' := [zm_A a1, zm_I x1, zm_I (((5 * x2) + (h a1 x3)).tmod 251), zm_I (x3 + 1)]) d_107_28 rfl (Nat.le_of_ble_eq_true rfl) rfl) (zl_ck ?_)
      refine zl_tr (r_goto (tgt := 5) d_107_31 (by decide)) ?_
      exact zl_rf
    · skip
      refine zl_tr (r_iload_n d_107_34 rfl) ?_
      exact r_iret d_107_35 rt_107
  · skip
    refine zl_tr (r_iload_n d_107_34 rfl) ?_
    exact r_iret d_107_35 rt_107
-- BranTub$Picture.read
set_option maxRecDepth 20000 in
theorem e_108 {h : zm_H} {o : Nat} (ho : zf_T o) {t : Nat} (ht : zf_F t) : zl (zm_ck (zm_i32 ((h t 2) * (h t 1))) (zm_ck (zm_i32 (3 + ((h t 2) * (h t 1)))) (zm_ck (zm_i32 (2 * (h t 1))) (zm_ck (zm_i32 (2 + (2 * (h t 1)))) (zm_ck (zm_i32 ((h t 3) * (2 + (2 * (h t 1))))) (zm_ck (zm_i32 ((3 + ((h t 2) * (h t 1))) + ((h t 3) * (2 + (2 * (h t 1)))))) (zm_ck (zm_i32 (((3 + ((h t 2) * (h t 1))) + ((h t 3) * (2 + (2 * (h t 1))))) + 1)) (if (h 5 1) = (((3 + ((h t 2) * (h t 1))) + ((h t 3) * (2 + (2 * (h t 1))))) + 1) then (zm_ck (0 ≤ ((3 + ((h t 2) * (h t 1))) + ((h t 3) * (2 + (2 * (h t 1))))) ∧ ((3 + ((h t 2) * (h t 1))) + ((h t 3) * (2 + (2 * (h t 1))))) < ((1600 : Nat) : Int)) (zk_I (zc 107 [zm_A 6, zm_I ((3 + ((h t 2) * (h t 1))) + ((h t 3) * (2 + (2 * (h t 1)))))] h) (fun v1 h2 => if (h 6 ((3 + ((h t 2) * (h t 1))) + ((h t 3) * (2 + (2 * (h t 1)))))) = v1 then (zk_V (zc 143 [zm_A o, zm_A t] h2) (fun h3 => zm_ck (0 ≤ 0 ∧ 0 < ((1600 : Nat) : Int)) (zk_I (zc 109 [zm_A 5, zm_I 1] (zm_wr h3 o 0 (h3 6 0))) (fun v4 h5 => if 99 < ((zm_wr h5 o 1 v4) o 0) then (zm_ck (zm_bit 0) (some (zm_I 0, (zm_wr h5 o 1 v4)))) else (if ((zm_wr h5 o 1 v4) o 1) ≤ 9999 then (zk_I (zc 110 [zm_A 5, zm_A t, zm_A o] (zm_wr h5 o 1 v4)) (fun v6 h7 => if v6 = 0 then (zm_ck (zm_bit 0) (some (zm_I 0, h7))) else (zk_I (zc 111 [zm_A 5, zm_A t, zm_A o] h7) (fun v8 h9 => if v8 = 0 then (zm_ck (zm_bit 0) (some (zm_I 0, h9))) else (zm_ck (zm_bit 1) (some (zm_I 1, h9))))))) else (zm_ck (zm_bit 0) (some (zm_I 0, (zm_wr h5 o 1 v4))))))))) else (zm_ck (zm_bit 0) (some (zm_I 0, h2)))))) else (zm_ck (zm_bit 0) (some (zm_I 0, h))))))))))) (zc 108 [zm_A 5, zm_A t, zm_A o] h) := by
  rw [zc_eq (loc := [zm_A 5, zm_A t, zm_A o, zm_U]) (rk_108 _) rfl]
  refine zl_tr (r_iconst d_108_0 (by decide)) ?_
  refine zl_tr (r_aload_n d_108_1 rfl) ?_
  refine zl_tr (r_getI (kk := 2) d_108_2 ow_108 f_5_34 (zf_o ht) (by decide) rfl) ?_
  refine zl_tr (r_aload_n d_108_5 rfl) ?_
  refine zl_tr (r_getI (kk := 1) d_108_6 ow_108 f_5_39 (zf_o ht) (by decide) rfl) ?_
  refine zl_tr (r_imul d_108_9) (zl_ck ?_)
  refine zl_tr (r_iadd d_108_10) (zl_ck ?_)
  refine zl_tr (r_aload_n d_108_11 rfl) ?_
  refine zl_tr (r_getI (kk := 3) d_108_12 ow_108 f_5_45 (zf_o ht) (by decide) rfl) ?_
  refine zl_tr (r_iconst d_108_15 (by decide)) ?_
  refine zl_tr (r_iconst d_108_16 (by decide)) ?_
  refine zl_tr (r_aload_n d_108_17 rfl) ?_
  refine zl_tr (r_getI (kk := 1) d_108_18 ow_108 f_5_39 (zf_o ht) (by decide) rfl) ?_
  refine zl_tr (r_imul d_108_21) (zl_ck ?_)
  refine zl_tr (r_iadd d_108_22) (zl_ck ?_)
  refine zl_tr (r_imul d_108_23) (zl_ck ?_)
  refine zl_tr (r_iadd d_108_24) (zl_ck ?_)
  refine zl_tr (r_istore_n (loc' := [zm_A 5, zm_A t, zm_A o, zm_I ((3 + ((h t 2) * (h t 1))) + ((h t 3) * (2 + (2 * (h t 1)))))]) d_108_25 (Nat.le_of_ble_eq_true rfl) rfl) ?_
  refine zl_tr (r_aload_n d_108_26 rfl) ?_
  refine zl_tr (r_getI (kk := 1) d_108_27 ow_108 f_5_58 la_5 (by decide) rfl) ?_
  refine zl_tr (r_iload_n d_108_30 rfl) ?_
  refine zl_tr (r_iconst d_108_31 (by decide)) ?_
  refine zl_tr (r_iadd d_108_32) (zl_ck ?_)
  refine zl_tr (r_icmp_ne (tgt := 53) d_108_33 (by decide)) (zl_if ?_ ?_)
  · skip
    refine zl_tr (r_aload_n d_108_36 rfl) ?_
    refine zl_tr (r_getR d_108_37 ow_108 f_5_61 la_5 (by decide) fr_5_0) ?_
    refine zl_tr (r_iload_n d_108_40 rfl) ?_
    refine zl_tr (r_iaload d_108_41 la_6) (zl_ck ?_)
    refine zl_tr (r_aload_n d_108_42 rfl) ?_
    refine zl_tr (r_getR d_108_43 ow_108 f_5_61 la_5 (by decide) fr_5_0) ?_
    refine zl_tr (r_iload_n d_108_46 rfl) ?_
    refine zl_tr (r_SI [zm_A 6, zm_I ((3 + ((h t 2) * (h t 1))) + ((h t 3) * (2 + (2 * (h t 1)))))] d_108_47 ow_108 cal_5_54 (by decide) na_107 rfl rfl (Nat.le_of_ble_eq_true rfl) (by rw [rk_107]; decide) (zr_im mx_107 rfl (Nat.le_of_ble_eq_true rfl)) (by rw [rt_107]; decide)) (zl_I (fun v1 h2 => ?_))
    refine zl_tr (r_icmp_eq (tgt := 55) d_108_50 (by decide)) (zl_if ?_ ?_)
    · skip
      refine zl_tr (r_aload_n d_108_55 rfl) ?_
      refine zl_tr (r_aload_n d_108_56 rfl) ?_
      refine zl_tr (r_VV [zm_A o, zm_A t] d_108_57 ow_108 cal_5_62 na_143 rfl rfl (Nat.le_of_ble_eq_true rfl) (by rw [rk_143]; decide) (zr_rcv (zt_o ho) ow_143) (zr_im mx_143 rfl (Nat.le_of_ble_eq_true rfl)) rt_143) (zl_V (fun h3 => ?_))
      refine zl_tr (r_aload_n d_108_60 rfl) ?_
      refine zl_tr (r_aload_n d_108_61 rfl) ?_
      refine zl_tr (r_getR d_108_62 ow_108 f_5_61 la_5 (by decide) fr_5_0) ?_
      refine zl_tr (r_iconst d_108_65 (by decide)) ?_
      refine zl_tr (r_iaload d_108_66 la_6) (zl_ck ?_)
      refine zl_tr (r_putI (kk := 0) d_108_67 ow_108 f_5_19 (zt_o ho) (by decide) rfl) ?_
      refine zl_tr (r_aload_n d_108_70 rfl) ?_
      refine zl_tr (r_aload_n d_108_71 rfl) ?_
      refine zl_tr (r_iconst d_108_72 (by decide)) ?_
      refine zl_tr (r_SI [zm_A 5, zm_I 1] d_108_73 ow_108 cal_5_66 (by decide) na_109 rfl rfl (Nat.le_of_ble_eq_true rfl) (by rw [rk_109]; decide) (zr_im mx_109 rfl (Nat.le_of_ble_eq_true rfl)) (by rw [rt_109]; decide)) (zl_I (fun v4 h5 => ?_))
      refine zl_tr (r_putI (kk := 1) d_108_76 ow_108 f_5_28 (zt_o ho) (by decide) rfl) ?_
      refine zl_tr (r_aload_n d_108_79 rfl) ?_
      refine zl_tr (r_getI (kk := 0) d_108_80 ow_108 f_5_19 (zt_o ho) (by decide) rfl) ?_
      refine zl_tr (r_bipush d_108_83 (by decide)) ?_
      refine zl_tr (r_icmp_gt (tgt := 98) d_108_85 (by decide)) (zl_if ?_ ?_)
      · skip
        refine zl_tr (r_iconst d_108_98 (by decide)) ?_
        exact r_zret d_108_99 rt_108
      · skip
        refine zl_tr (r_aload_n d_108_88 rfl) ?_
        refine zl_tr (r_getI (kk := 1) d_108_89 ow_108 f_5_28 (zt_o ho) (by decide) rfl) ?_
        refine zl_tr (r_sipush d_108_92 (by decide)) ?_
        refine zl_tr (r_icmp_le (tgt := 100) d_108_95 (by decide)) (zl_if ?_ ?_)
        · skip
          refine zl_tr (r_aload_n d_108_100 rfl) ?_
          refine zl_tr (r_aload_n d_108_101 rfl) ?_
          refine zl_tr (r_aload_n d_108_102 rfl) ?_
          refine zl_tr (r_SI [zm_A 5, zm_A t, zm_A o] d_108_103 ow_108 cal_5_70 (by decide) na_110 rfl rfl (Nat.le_of_ble_eq_true rfl) (by rw [rk_110]; decide) (zr_im mx_110 rfl (Nat.le_of_ble_eq_true rfl)) (by rw [rt_110]; decide)) (zl_I (fun v6 h7 => ?_))
          refine zl_tr (r_if_eq (tgt := 122) d_108_106 (by decide)) (zl_if ?_ ?_)
          · skip
            refine zl_tr (r_iconst d_108_122 (by decide)) ?_
            exact r_zret d_108_123 rt_108
          · skip
            refine zl_tr (r_aload_n d_108_109 rfl) ?_
            refine zl_tr (r_aload_n d_108_110 rfl) ?_
            refine zl_tr (r_aload_n d_108_111 rfl) ?_
            refine zl_tr (r_SI [zm_A 5, zm_A t, zm_A o] d_108_112 ow_108 cal_5_74 (by decide) na_111 rfl rfl (Nat.le_of_ble_eq_true rfl) (by rw [rk_111]; decide) (zr_im mx_111 rfl (Nat.le_of_ble_eq_true rfl)) (by rw [rt_111]; decide)) (zl_I (fun v8 h9 => ?_))
            refine zl_tr (r_if_eq (tgt := 122) d_108_115 (by decide)) (zl_if ?_ ?_)
            · skip
              refine zl_tr (r_iconst d_108_122 (by decide)) ?_
              exact r_zret d_108_123 rt_108
            · skip
              refine zl_tr (r_iconst d_108_118 (by decide)) ?_
              refine zl_tr (r_goto (tgt := 123) d_108_119 (by decide)) ?_
              exact r_zret d_108_123 rt_108
        · skip
          refine zl_tr (r_iconst d_108_98 (by decide)) ?_
          exact r_zret d_108_99 rt_108
    · skip
      refine zl_tr (r_iconst d_108_53 (by decide)) ?_
      exact r_zret d_108_54 rt_108
  · skip
    refine zl_tr (r_iconst d_108_53 (by decide)) ?_
    exact r_zret d_108_54 rt_108
-- BranTub$Picture.twoAt
set_option maxRecDepth 20000 in
theorem e_109 {h : zm_H} {x2 : Int} : zl (zm_ck (zm_i32 (x2 + 1)) (if (x2 + 1) < (h 5 1) then (zm_ck (0 ≤ x2 ∧ x2 < ((1600 : Nat) : Int)) (zm_ck (zm_i32 ((h 6 x2) * 256)) (zm_ck (zm_i32 (x2 + 1)) (zm_ck (0 ≤ (x2 + 1) ∧ (x2 + 1) < ((1600 : Nat) : Int)) (zm_ck (zm_i32 (((h 6 x2) * 256) + (h 6 (x2 + 1)))) (some (zm_I (((h 6 x2) * 256) + (h 6 (x2 + 1))), h))))))) else (some (zm_I 0, h)))) (zc 109 [zm_A 5, zm_I x2] h) := by
  rw [zc_eq (loc := [zm_A 5, zm_I x2]) (rk_109 _) rfl]
  refine zl_tr (r_iload_n d_109_0 rfl) ?_
  refine zl_tr (r_iconst d_109_1 (by decide)) ?_
  refine zl_tr (r_iadd d_109_2) (zl_ck ?_)
  refine zl_tr (r_aload_n d_109_3 rfl) ?_
  refine zl_tr (r_getI (kk := 1) d_109_4 ow_109 f_5_58 la_5 (by decide) rfl) ?_
  refine zl_tr (r_icmp_ge (tgt := 32) d_109_7 (by decide)) (zl_if ?_ ?_)
  · skip
    refine zl_tr (r_aload_n d_109_10 rfl) ?_
    refine zl_tr (r_getR d_109_11 ow_109 f_5_61 la_5 (by decide) fr_5_0) ?_
    refine zl_tr (r_iload_n d_109_14 rfl) ?_
    refine zl_tr (r_iaload d_109_15 la_6) (zl_ck ?_)
    refine zl_tr (r_sipush d_109_16 (by decide)) ?_
    refine zl_tr (r_imul d_109_19) (zl_ck ?_)
    refine zl_tr (r_aload_n d_109_20 rfl) ?_
    refine zl_tr (r_getR d_109_21 ow_109 f_5_61 la_5 (by decide) fr_5_0) ?_
    refine zl_tr (r_iload_n d_109_24 rfl) ?_
    refine zl_tr (r_iconst d_109_25 (by decide)) ?_
    refine zl_tr (r_iadd d_109_26) (zl_ck ?_)
    refine zl_tr (r_iaload d_109_27 la_6) (zl_ck ?_)
    refine zl_tr (r_iadd d_109_28) (zl_ck ?_)
    refine zl_tr (r_goto (tgt := 33) d_109_29 (by decide)) ?_
    exact r_iret d_109_33 rt_109
  · skip
    refine zl_tr (r_iconst d_109_32 (by decide)) ?_
    exact r_iret d_109_33 rt_109
-- BranTub$Picture.readLayers
set_option maxRecDepth 20000 in
theorem e_110 {h : zm_H} {o : Nat} (ho : zf_T o) {t : Nat} (ht : zf_F t) : zl (zr none 1 110 5 [zm_A 5, zm_A t, zm_A o, zm_I 3, zm_I 0, zm_U, zm_U] [] h) (zc 110 [zm_A 5, zm_A t, zm_A o] h) := by
  rw [zc_eq (loc := [zm_A 5, zm_A t, zm_A o, zm_U, zm_U, zm_U, zm_U]) (rk_110 _) rfl]
  refine zl_tr (r_iconst d_110_0 (by decide)) ?_
  refine zl_tr (r_istore_n (loc' := [zm_A 5, zm_A t, zm_A o, zm_I 3, zm_U, zm_U, zm_U]) d_110_1 (Nat.le_of_ble_eq_true rfl) rfl) ?_
  refine zl_tr (r_iconst d_110_2 (by decide)) ?_
  refine zl_tr (r_istore (loc' := [zm_A 5, zm_A t, zm_A o, zm_I 3, zm_I 0, zm_U, zm_U]) d_110_3 (Nat.le_of_ble_eq_true rfl) rfl) ?_
  exact zl_rf
-- BranTub$Picture.readLayers, from 5
set_option maxRecDepth 20000 in
theorem e_110_5 {h : zm_H} {x3 : Int} {x4 : Int} {w5 : zm_V} {w6 : zm_V} {o : Nat} (ho : zf_T o) {t : Nat} (ht : zf_F t) : zl (if x4 < (h t 2) then (zr none 1 110 17 [zm_A 5, zm_A t, zm_A o, zm_I x3, zm_I x4, zm_I 0, w6] [] h) else (zm_ck (zm_bit 1) (some (zm_I 1, h)))) (zr none 1 110 5 [zm_A 5, zm_A t, zm_A o, zm_I x3, zm_I x4, w5, w6] [] h) := by
  refine zl_tr (r_iload d_110_5 rfl) ?_
  refine zl_tr (r_aload_n d_110_7 rfl) ?_
  refine zl_tr (r_getI (kk := 2) d_110_8 ow_110 f_5_34 (zf_o ht) (by decide) rfl) ?_
  refine zl_tr (r_icmp_ge (tgt := 73) d_110_11 (by decide)) (zl_if ?_ ?_)
  · skip
    refine zl_tr (r_iconst d_110_14 (by decide)) ?_
    refine zl_tr (r_istore (loc' := [zm_A 5, zm_A t, zm_A o, zm_I x3, zm_I x4, zm_I 0, w6]) d_110_15 (Nat.le_of_ble_eq_true rfl) rfl) ?_
    exact zl_rf
  · skip
    refine zl_tr (r_iconst d_110_73 (by decide)) ?_
    exact r_zret d_110_74 rt_110
-- BranTub$Picture.readLayers, from 17
set_option maxRecDepth 20000 in
theorem e_110_17 {h : zm_H} {x3 : Int} {x4 : Int} {x5 : Int} {w6 : zm_V} {o : Nat} (ho : zf_T o) {t : Nat} (ht : zf_F t) : zl (if x5 < (h t 1) then (zm_ck (zm_i32 (x3 + 1)) (zm_ck (0 ≤ x3 ∧ x3 < ((1600 : Nat) : Int)) (if (h 6 x3) ≤ 99 then (zm_ck (zm_i32 (x4 * 8)) (zm_ck (zm_i32 ((x4 * 8) + x5)) (zm_ck (0 ≤ ((x4 * 8) + x5) ∧ ((x4 * 8) + x5) < ((40 : Nat) : Int)) (zm_ck (zm_i32 (x5 + 1)) (zr none 1 110 17 [zm_A 5, zm_A t, zm_A o, zm_I (x3 + 1), zm_I x4, zm_I (x5 + 1), zm_I (h 6 x3)] [] (zm_wr h (o + 1) ((x4 * 8) + x5) (h 6 x3))))))) else (zm_ck (zm_bit 0) (some (zm_I 0, h)))))) else (zm_ck (zm_i32 (x4 + 1)) (zr none 1 110 5 [zm_A 5, zm_A t, zm_A o, zm_I x3, zm_I (x4 + 1), zm_I x5, w6] [] h))) (zr none 1 110 17 [zm_A 5, zm_A t, zm_A o, zm_I x3, zm_I x4, zm_I x5, w6] [] h) := by
  refine zl_tr (r_iload d_110_17 rfl) ?_
  refine zl_tr (r_aload_n d_110_19 rfl) ?_
  refine zl_tr (r_getI (kk := 1) d_110_20 ow_110 f_5_39 (zf_o ht) (by decide) rfl) ?_
  refine zl_tr (r_icmp_ge (tgt := 67) d_110_23 (by decide)) (zl_if ?_ ?_)
  · skip
    refine zl_tr (r_aload_n d_110_26 rfl) ?_
    refine zl_tr (r_getR d_110_27 ow_110 f_5_61 la_5 (by decide) fr_5_0) ?_
    refine zl_tr (r_iload_n d_110_30 rfl) ?_
    refine zl_tr (r_iinc (loc' := [zm_A 5, zm_A t, zm_A o, zm_I (x3 + 1), zm_I x4, zm_I x5, w6]) d_110_31 rfl (Nat.le_of_ble_eq_true rfl) rfl) (zl_ck ?_)
    refine zl_tr (r_iaload d_110_34 la_6) (zl_ck ?_)
    refine zl_tr (r_istore (loc' := [zm_A 5, zm_A t, zm_A o, zm_I (x3 + 1), zm_I x4, zm_I x5, zm_I (h 6 x3)]) d_110_35 (Nat.le_of_ble_eq_true rfl) rfl) ?_
    refine zl_tr (r_iload d_110_37 rfl) ?_
    refine zl_tr (r_bipush d_110_39 (by decide)) ?_
    refine zl_tr (r_icmp_le (tgt := 46) d_110_41 (by decide)) (zl_if ?_ ?_)
    · skip
      refine zl_tr (r_aload_n d_110_46 rfl) ?_
      refine zl_tr (r_getR d_110_47 ow_110 f_5_42 (zt_o ho) (by decide) (zt_r2 ho)) ?_
      refine zl_tr (r_iload d_110_50 rfl) ?_
      refine zl_tr (r_bipush d_110_52 (by decide)) ?_
      refine zl_tr (r_imul d_110_54) (zl_ck ?_)
      refine zl_tr (r_iload d_110_55 rfl) ?_
      refine zl_tr (r_iadd d_110_57) (zl_ck ?_)
      refine zl_tr (r_iload d_110_58 rfl) ?_
      refine zl_tr (r_iastore d_110_60 (zt_a1 ho)) (zl_ck ?_)
      refine zl_tr (r_iinc (loc' := [zm_A 5, zm_A t, zm_A o, zm_I (x3 + 1), zm_I x4, zm_I (x5 + 1), zm_I (h 6 x3)]) d_110_61 rfl (Nat.le_of_ble_eq_true rfl) rfl) (zl_ck ?_)
      refine zl_tr (r_goto (tgt := 17) d_110_64 (by decide)) ?_
      exact zl_rf
    · skip
      refine zl_tr (r_iconst d_110_44 (by decide)) ?_
      exact r_zret d_110_45 rt_110
  · skip
    refine zl_tr (r_iinc (loc' := [zm_A 5, zm_A t, zm_A o, zm_I x3, zm_I (x4 + 1), zm_I x5, w6]) d_110_67 rfl (Nat.le_of_ble_eq_true rfl) rfl) (zl_ck ?_)
    refine zl_tr (r_goto (tgt := 5) d_110_70 (by decide)) ?_
    exact zl_rf
-- BranTub$Picture.readChildren
set_option maxRecDepth 20000 in
theorem e_111 {h : zm_H} {o : Nat} (ho : zf_T o) {t : Nat} (ht : zf_F t) : zl (zm_ck (zm_i32 ((h t 2) * (h t 1))) (zm_ck (zm_i32 (3 + ((h t 2) * (h t 1)))) (zr none 2 111 15 [zm_A 5, zm_A t, zm_A o, zm_I (3 + ((h t 2) * (h t 1))), zm_I 0, zm_U, zm_U] [] h))) (zc 111 [zm_A 5, zm_A t, zm_A o] h) := by
  rw [zc_eq (loc := [zm_A 5, zm_A t, zm_A o, zm_U, zm_U, zm_U, zm_U]) (rk_111 _) rfl]
  refine zl_tr (r_iconst d_111_0 (by decide)) ?_
  refine zl_tr (r_aload_n d_111_1 rfl) ?_
  refine zl_tr (r_getI (kk := 2) d_111_2 ow_111 f_5_34 (zf_o ht) (by decide) rfl) ?_
  refine zl_tr (r_aload_n d_111_5 rfl) ?_
  refine zl_tr (r_getI (kk := 1) d_111_6 ow_111 f_5_39 (zf_o ht) (by decide) rfl) ?_
  refine zl_tr (r_imul d_111_9) (zl_ck ?_)
  refine zl_tr (r_iadd d_111_10) (zl_ck ?_)
  refine zl_tr (r_istore_n (loc' := [zm_A 5, zm_A t, zm_A o, zm_I (3 + ((h t 2) * (h t 1))), zm_U, zm_U, zm_U]) d_111_11 (Nat.le_of_ble_eq_true rfl) rfl) ?_
  refine zl_tr (r_iconst d_111_12 (by decide)) ?_
  refine zl_tr (r_istore (loc' := [zm_A 5, zm_A t, zm_A o, zm_I (3 + ((h t 2) * (h t 1))), zm_I 0, zm_U, zm_U]) d_111_13 (Nat.le_of_ble_eq_true rfl) rfl) ?_
  exact zl_rf
-- BranTub$Picture.readChildren, from 15
set_option maxRecDepth 20000 in
theorem e_111_15 {h : zm_H} {x3 : Int} {x4 : Int} {w5 : zm_V} {w6 : zm_V} {o : Nat} (ho : zf_T o) {t : Nat} (ht : zf_F t) : zl (if x4 < (h t 3) then (zk_I (zc 109 [zm_A 5, zm_I x3] h) (fun v1 h2 => zm_ck (0 ≤ x4 ∧ x4 < ((8 : Nat) : Int)) (zm_ck (0 ≤ x4 ∧ x4 < ((8 : Nat) : Int)) (if ((zm_wr h2 (o + 2) x4 v1) (o + 2) x4) ≤ 999 then (zm_ck (zm_i32 (x3 + 2)) (zr none 2 111 57 [zm_A 5, zm_A t, zm_A o, zm_I (x3 + 2), zm_I x4, zm_I 0, w6] [] (zm_wr h2 (o + 2) x4 v1))) else (zm_ck (zm_bit 0) (some (zm_I 0, (zm_wr h2 (o + 2) x4 v1)))))))) else (zm_ck (zm_bit 1) (some (zm_I 1, h)))) (zr none 2 111 15 [zm_A 5, zm_A t, zm_A o, zm_I x3, zm_I x4, w5, w6] [] h) := by
  refine zl_tr (r_iload d_111_15 rfl) ?_
  refine zl_tr (r_aload_n d_111_17 rfl) ?_
  refine zl_tr (r_getI (kk := 3) d_111_18 ow_111 f_5_45 (zf_o ht) (by decide) rfl) ?_
  refine zl_tr (r_icmp_ge (tgt := 113) d_111_21 (by decide)) (zl_if ?_ ?_)
  · skip
    refine zl_tr (r_aload_n d_111_24 rfl) ?_
    refine zl_tr (r_getR d_111_25 ow_111 f_5_48 (zt_o ho) (by decide) (zt_r3 ho)) ?_
    refine zl_tr (r_iload d_111_28 rfl) ?_
    refine zl_tr (r_aload_n d_111_30 rfl) ?_
    refine zl_tr (r_iload_n d_111_31 rfl) ?_
    refine zl_tr (r_SI [zm_A 5, zm_I x3] d_111_32 ow_111 cal_5_66 (by decide) na_109 rfl rfl (Nat.le_of_ble_eq_true rfl) (by rw [rk_109]; decide) (zr_im mx_109 rfl (Nat.le_of_ble_eq_true rfl)) (by rw [rt_109]; decide)) (zl_I (fun v1 h2 => ?_))
    refine zl_tr (r_iastore d_111_35 (zt_a2 ho)) (zl_ck ?_)
    refine zl_tr (r_aload_n d_111_36 rfl) ?_
    refine zl_tr (r_getR d_111_37 ow_111 f_5_48 (zt_o ho) (by decide) (zt_r3 ho)) ?_
    refine zl_tr (r_iload d_111_40 rfl) ?_
    refine zl_tr (r_iaload d_111_42 (zt_a2 ho)) (zl_ck ?_)
    refine zl_tr (r_sipush d_111_43 (by decide)) ?_
    refine zl_tr (r_icmp_le (tgt := 51) d_111_46 (by decide)) (zl_if ?_ ?_)
    · skip
      refine zl_tr (r_iinc (loc' := [zm_A 5, zm_A t, zm_A o, zm_I (x3 + 2), zm_I x4, w5, w6]) d_111_51 rfl (Nat.le_of_ble_eq_true rfl) rfl) (zl_ck ?_)
      refine zl_tr (r_iconst d_111_54 (by decide)) ?_
      refine zl_tr (r_istore (loc' := [zm_A 5, zm_A t, zm_A o, zm_I (x3 + 2), zm_I x4, zm_I 0, w6]) d_111_55 (Nat.le_of_ble_eq_true rfl) rfl) ?_
      exact zl_rf
    · skip
      refine zl_tr (r_iconst d_111_49 (by decide)) ?_
      exact r_zret d_111_50 rt_111
  · skip
    refine zl_tr (r_iconst d_111_113 (by decide)) ?_
    exact r_zret d_111_114 rt_111
-- BranTub$Picture.readChildren, from 57
set_option maxRecDepth 20000 in
theorem e_111_57 {h : zm_H} {x3 : Int} {x4 : Int} {x5 : Int} {w6 : zm_V} {o : Nat} (ho : zf_T o) {t : Nat} (ht : zf_F t) : zl (if x5 < (h t 1) then (zk_I (zc 109 [zm_A 5, zm_I x3] h) (fun v1 h2 => if v1 ≤ 9999 then (zm_ck (zm_i32 (x4 * 8)) (zm_ck (zm_i32 ((x4 * 8) + x5)) (zm_ck (0 ≤ ((x4 * 8) + x5) ∧ ((x4 * 8) + x5) < ((64 : Nat) : Int)) (zm_ck (zm_i32 (x3 + 2)) (zm_ck (zm_i32 (x5 + 1)) (zr none 2 111 57 [zm_A 5, zm_A t, zm_A o, zm_I (x3 + 2), zm_I x4, zm_I (x5 + 1), zm_I v1] [] (zm_wr h2 (o + 3) ((x4 * 8) + x5) v1))))))) else (zm_ck (zm_bit 0) (some (zm_I 0, h2))))) else (zm_ck (zm_i32 (x4 + 1)) (zr none 2 111 15 [zm_A 5, zm_A t, zm_A o, zm_I x3, zm_I (x4 + 1), zm_I x5, w6] [] h))) (zr none 2 111 57 [zm_A 5, zm_A t, zm_A o, zm_I x3, zm_I x4, zm_I x5, w6] [] h) := by
  refine zl_tr (r_iload d_111_57 rfl) ?_
  refine zl_tr (r_aload_n d_111_59 rfl) ?_
  refine zl_tr (r_getI (kk := 1) d_111_60 ow_111 f_5_39 (zf_o ht) (by decide) rfl) ?_
  refine zl_tr (r_icmp_ge (tgt := 107) d_111_63 (by decide)) (zl_if ?_ ?_)
  · skip
    refine zl_tr (r_aload_n d_111_66 rfl) ?_
    refine zl_tr (r_iload_n d_111_67 rfl) ?_
    refine zl_tr (r_SI [zm_A 5, zm_I x3] d_111_68 ow_111 cal_5_66 (by decide) na_109 rfl rfl (Nat.le_of_ble_eq_true rfl) (by rw [rk_109]; decide) (zr_im mx_109 rfl (Nat.le_of_ble_eq_true rfl)) (by rw [rt_109]; decide)) (zl_I (fun v1 h2 => ?_))
    refine zl_tr (r_istore (loc' := [zm_A 5, zm_A t, zm_A o, zm_I x3, zm_I x4, zm_I x5, zm_I v1]) d_111_71 (Nat.le_of_ble_eq_true rfl) rfl) ?_
    refine zl_tr (r_iload d_111_73 rfl) ?_
    refine zl_tr (r_sipush d_111_75 (by decide)) ?_
    refine zl_tr (r_icmp_le (tgt := 83) d_111_78 (by decide)) (zl_if ?_ ?_)
    · skip
      refine zl_tr (r_aload_n d_111_83 rfl) ?_
      refine zl_tr (r_getR d_111_84 ow_111 f_5_51 (zt_o ho) (by decide) (zt_r4 ho)) ?_
      refine zl_tr (r_iload d_111_87 rfl) ?_
      refine zl_tr (r_bipush d_111_89 (by decide)) ?_
      refine zl_tr (r_imul d_111_91) (zl_ck ?_)
      refine zl_tr (r_iload d_111_92 rfl) ?_
      refine zl_tr (r_iadd d_111_94) (zl_ck ?_)
      refine zl_tr (r_iload d_111_95 rfl) ?_
      refine zl_tr (r_iastore d_111_97 (zt_a3 ho)) (zl_ck ?_)
      refine zl_tr (r_iinc (loc' := [zm_A 5, zm_A t, zm_A o, zm_I (x3 + 2), zm_I x4, zm_I x5, zm_I v1]) d_111_98 rfl (Nat.le_of_ble_eq_true rfl) rfl) (zl_ck ?_)
      refine zl_tr (r_iinc (loc' := [zm_A 5, zm_A t, zm_A o, zm_I (x3 + 2), zm_I x4, zm_I (x5 + 1), zm_I v1]) d_111_101 rfl (Nat.le_of_ble_eq_true rfl) rfl) (zl_ck ?_)
      refine zl_tr (r_goto (tgt := 57) d_111_104 (by decide)) ?_
      exact zl_rf
    · skip
      refine zl_tr (r_iconst d_111_81 (by decide)) ?_
      exact r_zret d_111_82 rt_111
  · skip
    refine zl_tr (r_iinc (loc' := [zm_A 5, zm_A t, zm_A o, zm_I x3, zm_I (x4 + 1), zm_I x5, w6]) d_111_107 rfl (Nat.le_of_ble_eq_true rfl) rfl) (zl_ck ?_)
    refine zl_tr (r_goto (tgt := 15) d_111_110 (by decide)) ?_
    exact zl_rf
