/-! MIRRORS 2 (printed by wip/gen/gen_mirror.py) -/
-- BranTub$Reach.look {4: 1}
set_option maxRecDepth 20000 in
theorem e_113_1 {h : zm_H} {x3 : Int} {o : Nat} (ho : zf_T o) {t : Nat} (ht : zf_F t) : zl (zm_ck (0 ≤ x3 ∧ x3 < ((8 : Nat) : Int)) (zm_ck (zm_i32 ((h (t + 7) x3) + 1)) (zr none 3 113 17 [zm_A 128, zm_A t, zm_A o, zm_I x3, zm_A 1, zm_U, zm_U] [] (zm_wr (zm_wr h 128 6 ((h (t + 7) x3) + 1)) 128 4 0)))) (zc 113 [zm_A 128, zm_A t, zm_A o, zm_I x3, zm_A 1] h) := by
  rw [zc_eq (loc := [zm_A 128, zm_A t, zm_A o, zm_I x3, zm_A 1, zm_U, zm_U]) (rk_113 _) rfl]
  refine zl_tr (r_aload_n d_113_0 rfl) ?_
  refine zl_tr (r_aload_n d_113_1 rfl) ?_
  refine zl_tr (r_getR d_113_2 ow_113 f_6_21 (zf_o ht) (by decide) (zf_r11 ht)) ?_
  refine zl_tr (r_iload_n d_113_5 rfl) ?_
  refine zl_tr (r_iaload d_113_6 (zf_a7 ht)) (zl_ck ?_)
  refine zl_tr (r_iconst d_113_7 (by decide)) ?_
  refine zl_tr (r_iadd d_113_8) (zl_ck ?_)
  refine zl_tr (r_putI (kk := 6) d_113_9 ow_113 f_6_26 la_128 (by decide) rfl) ?_
  refine zl_tr (r_aload_n d_113_12 rfl) ?_
  refine zl_tr (r_iconst d_113_13 (by decide)) ?_
  refine zl_tr (r_putI (kk := 4) d_113_14 ow_113 f_6_30 la_128 (by decide) rfl) ?_
  exact zl_rf
-- BranTub$Reach.look, from 17 {4: 1}
set_option maxRecDepth 20000 in
theorem e_113_1_17 {h : zm_H} {x3 : Int} {w5 : zm_V} {w6 : zm_V} {o : Nat} (ho : zf_T o) {t : Nat} (ht : zf_F t) : zl (if (h 128 4) < (h t 2) then (zm_ck (0 ≤ (h 128 4) ∧ (h 128 4) < 5) (zk_I (zc 150 [zm_A o, zm_I (h 128 4)] h) (fun v1 h2 => if v1 = 0 then (zm_ck (zm_i32 ((h2 128 4) + 1)) (zr none 3 113 17 [zm_A 128, zm_A t, zm_A o, zm_I x3, zm_A 1, w5, w6] [] (zm_wr h2 128 4 ((h2 128 4) + 1)))) else (zr none 3 113 55 [zm_A 128, zm_A t, zm_A o, zm_I x3, zm_A 1, w5, w6] [] h2)))) else (zr none 3 113 55 [zm_A 128, zm_A t, zm_A o, zm_I x3, zm_A 1, w5, w6] [] h)) (zr none 3 113 17 [zm_A 128, zm_A t, zm_A o, zm_I x3, zm_A 1, w5, w6] [] h) := by
  refine zl_tr (r_aload_n d_113_17 rfl) ?_
  refine zl_tr (r_getI (kk := 4) d_113_18 ow_113 f_6_30 la_128 (by decide) rfl) ?_
  refine zl_tr (r_aload_n d_113_21 rfl) ?_
  refine zl_tr (r_getI (kk := 2) d_113_22 ow_113 f_6_33 (zf_o ht) (by decide) rfl) ?_
  refine zl_tr (r_icmp_ge (tgt := 55) d_113_25 (by decide)) (zl_if ?_ ?_)
  · skip
    refine zl_tr (r_aload_n d_113_28 rfl) ?_
    refine zl_tr (r_aload d_113_29 rfl) ?_
    refine zl_tr (r_aload_n d_113_31 rfl) ?_
    refine zl_tr (r_getI (kk := 4) d_113_32 ow_113 f_6_30 la_128 (by decide) rfl) ?_
    refine zl_tr (r_iaload1 d_113_35) (zl_ck ?_)
    refine zl_tr (r_VI [zm_A o, zm_I (h 128 4)] d_113_36 ow_113 cal_6_36 na_150 rfl rfl (Nat.le_of_ble_eq_true rfl) (by rw [rk_150]; decide) (zr_rcv (zt_o ho) ow_150) (zr_im mx_150 rfl (Nat.le_of_ble_eq_true rfl)) (by rw [rt_150]; decide)) (zl_I (fun v1 h2 => ?_))
    refine zl_tr (r_if_ne (tgt := 55) d_113_39 (by decide)) (zl_if ?_ ?_)
    · skip
      refine zl_tr (r_aload_n d_113_42 rfl) ?_
      refine zl_tr (r_dup d_113_43 rfl) ?_
      refine zl_tr (r_getI (kk := 4) d_113_44 ow_113 f_6_30 la_128 (by decide) rfl) ?_
      refine zl_tr (r_iconst d_113_47 (by decide)) ?_
      refine zl_tr (r_iadd d_113_48) (zl_ck ?_)
      refine zl_tr (r_putI (kk := 4) d_113_49 ow_113 f_6_30 la_128 (by decide) rfl) ?_
      refine zl_tr (r_goto (tgt := 17) d_113_52 (by decide)) ?_
      exact zl_rf
    · skip
      exact zl_rf
  · skip
    exact zl_rf
-- BranTub$Reach.look, from 55 {4: 1}
set_option maxRecDepth 20000 in
theorem e_113_1_55 {h : zm_H} {x3 : Int} {w5 : zm_V} {w6 : zm_V} {o : Nat} (ho : zf_T o) {t : Nat} (ht : zf_F t) : zl (zm_ck (0 ≤ x3 ∧ x3 < ((8 : Nat) : Int)) (zm_ck (zm_i32 ((h 128 4) + (h (t + 6) x3))) (zr none 3 113 85 [zm_A 128, zm_A t, zm_A o, zm_I x3, zm_A 1, zm_I 0, w6] [] (zm_wr (zm_wr h 128 5 (min (h t 2) ((h 128 4) + (h (t + 6) x3)))) 128 3 0)))) (zr none 3 113 55 [zm_A 128, zm_A t, zm_A o, zm_I x3, zm_A 1, w5, w6] [] h) := by
  refine zl_tr (r_aload_n d_113_55 rfl) ?_
  refine zl_tr (r_aload_n d_113_56 rfl) ?_
  refine zl_tr (r_getI (kk := 2) d_113_57 ow_113 f_6_33 (zf_o ht) (by decide) rfl) ?_
  refine zl_tr (r_aload_n d_113_60 rfl) ?_
  refine zl_tr (r_getI (kk := 4) d_113_61 ow_113 f_6_30 la_128 (by decide) rfl) ?_
  refine zl_tr (r_aload_n d_113_64 rfl) ?_
  refine zl_tr (r_getR d_113_65 ow_113 f_6_42 (zf_o ht) (by decide) (zf_r10 ht)) ?_
  refine zl_tr (r_iload_n d_113_68 rfl) ?_
  refine zl_tr (r_iaload d_113_69 (zf_a6 ht)) (zl_ck ?_)
  refine zl_tr (r_iadd d_113_70) (zl_ck ?_)
  refine zl_tr (r_mmin d_113_71 ow_113 cal_6_45 (Nat.le_of_ble_eq_true rfl) (by decide)) ?_
  refine zl_tr (r_putI (kk := 5) d_113_74 ow_113 f_6_51 la_128 (by decide) rfl) ?_
  refine zl_tr (r_aload_n d_113_77 rfl) ?_
  refine zl_tr (r_iconst d_113_78 (by decide)) ?_
  refine zl_tr (r_putI (kk := 3) d_113_79 ow_113 f_6_54 la_128 (by decide) rfl) ?_
  refine zl_tr (r_iconst d_113_82 (by decide)) ?_
  refine zl_tr (r_istore (loc' := [zm_A 128, zm_A t, zm_A o, zm_I x3, zm_A 1, zm_I 0, w6]) d_113_83 (Nat.le_of_ble_eq_true rfl) rfl) ?_
  exact zl_rf
-- BranTub$Reach.look, from 85 {4: 1}
set_option maxRecDepth 20000 in
theorem e_113_1_85 {h : zm_H} {x3 : Int} {x5 : Int} {w6 : zm_V} {o : Nat} (ho : zf_T o) {t : Nat} (ht : zf_F t) : zl (if x5 < 8 then (zm_ck (0 ≤ x5 ∧ x5 < ((8 : Nat) : Int)) (zr none 3 113 106 [zm_A 128, zm_A t, zm_A o, zm_I x3, zm_A 1, zm_I x5, zm_I ((zm_wr h 129 x5 0) 128 4)] [] (zm_wr h 129 x5 0))) else (some (zm_U, h))) (zr none 3 113 85 [zm_A 128, zm_A t, zm_A o, zm_I x3, zm_A 1, zm_I x5, w6] [] h) := by
  refine zl_tr (r_iload d_113_85 rfl) ?_
  refine zl_tr (r_bipush d_113_87 (by decide)) ?_
  refine zl_tr (r_icmp_ge (tgt := 223) d_113_89 (by decide)) (zl_if ?_ ?_)
  · skip
    refine zl_tr (r_aload_n d_113_92 rfl) ?_
    refine zl_tr (r_getR d_113_93 ow_113 f_6_9 la_128 (by decide) fr_128_0) ?_
    refine zl_tr (r_iload d_113_96 rfl) ?_
    refine zl_tr (r_iconst d_113_98 (by decide)) ?_
    refine zl_tr (r_iastore d_113_99 la_129) (zl_ck ?_)
    refine zl_tr (r_aload_n d_113_100 rfl) ?_
    refine zl_tr (r_getI (kk := 4) d_113_101 ow_113 f_6_30 la_128 (by decide) rfl) ?_
    refine zl_tr (r_istore (loc' := [zm_A 128, zm_A t, zm_A o, zm_I x3, zm_A 1, zm_I x5, zm_I ((zm_wr h 129 x5 0) 128 4)]) d_113_104 (Nat.le_of_ble_eq_true rfl) rfl) ?_
    exact zl_rf
  · skip
    exact r_vret d_113_223 rt_113
-- BranTub$Reach.look, from 106 {4: 1}
set_option maxRecDepth 20000 in
theorem e_113_1_106 {h : zm_H} {x3 : Int} {x5 : Int} {x6 : Int} {o : Nat} (ho : zf_T o) {t : Nat} (ht : zf_F t) : zl (if x6 < (h 128 5) then (zm_ck (0 ≤ x5 ∧ x5 < ((8 : Nat) : Int)) (zm_ck (0 ≤ x6 ∧ x6 < 5) (zm_ck (zm_i32 (x6 * 8)) (zm_ck (zm_i32 ((x6 * 8) + x5)) (zm_ck (0 ≤ ((x6 * 8) + x5) ∧ ((x6 * 8) + x5) < ((40 : Nat) : Int)) (zm_ck (zm_i32 ((h 129 x5) + (h (o + 1) ((x6 * 8) + x5)))) (zm_ck (0 ≤ x5 ∧ x5 < ((8 : Nat) : Int)) (zm_ck (zm_i32 (x6 + 1)) (zr none 3 113 106 [zm_A 128, zm_A t, zm_A o, zm_I x3, zm_A 1, zm_I x5, zm_I (x6 + 1)] [] (zm_wr h 129 x5 ((h 129 x5) + (h (o + 1) ((x6 * 8) + x5))))))))))))) else (zm_ck (0 ≤ x5 ∧ x5 < ((8 : Nat) : Int)) (zm_ck (zm_i32 ((h 128 3) + (h 129 x5))) (if x5 < ((zm_wr h 128 3 ((h 128 3) + (h 129 x5))) t 1) then (zk_I (zc 64 [zm_A t, zm_I x3, zm_I x5] (zm_wr h 128 3 ((h 128 3) + (h 129 x5)))) (fun v1 h2 => zm_ck (0 ≤ x5 ∧ x5 < ((8 : Nat) : Int)) (if x5 < ((zm_wr h2 130 x5 v1) t 1) then (zk_I (zc 65 [zm_A t, zm_I x3, zm_I x5] (zm_wr h2 130 x5 v1)) (fun v3 h4 => zm_ck (0 ≤ x5 ∧ x5 < ((8 : Nat) : Int)) (zm_ck (zm_i32 (x5 + 1)) (zr none 3 113 85 [zm_A 128, zm_A t, zm_A o, zm_I x3, zm_A 1, zm_I (x5 + 1), zm_I x6] [] (zm_wr h4 131 x5 v3))))) else (zm_ck (0 ≤ x5 ∧ x5 < ((8 : Nat) : Int)) (zm_ck (zm_i32 (x5 + 1)) (zr none 3 113 85 [zm_A 128, zm_A t, zm_A o, zm_I x3, zm_A 1, zm_I (x5 + 1), zm_I x6] [] (zm_wr (zm_wr h2 130 x5 v1) 131 x5 0))))))) else (zm_ck (0 ≤ x5 ∧ x5 < ((8 : Nat) : Int)) (if x5 < ((zm_wr (zm_wr h 128 3 ((h 128 3) + (h 129 x5))) 130 x5 0) t 1) then (zk_I (zc 65 [zm_A t, zm_I x3, zm_I x5] (zm_wr (zm_wr h 128 3 ((h 128 3) + (h 129 x5))) 130 x5 0)) (fun v5 h6 => zm_ck (0 ≤ x5 ∧ x5 < ((8 : Nat) : Int)) (zm_ck (zm_i32 (x5 + 1)) (zr none 3 113 85 [zm_A 128, zm_A t, zm_A o, zm_I x3, zm_A 1, zm_I (x5 + 1), zm_I x6] [] (zm_wr h6 131 x5 v5))))) else (zm_ck (0 ≤ x5 ∧ x5 < ((8 : Nat) : Int)) (zm_ck (zm_i32 (x5 + 1)) (zr none 3 113 85 [zm_A 128, zm_A t, zm_A o, zm_I x3, zm_A 1, zm_I (x5 + 1), zm_I x6] [] (zm_wr (zm_wr (zm_wr h 128 3 ((h 128 3) + (h 129 x5))) 130 x5 0) 131 x5 0)))))))))) (zr none 3 113 106 [zm_A 128, zm_A t, zm_A o, zm_I x3, zm_A 1, zm_I x5, zm_I x6] [] h) := by
  refine zl_tr (r_iload d_113_106 rfl) ?_
  refine zl_tr (r_aload_n d_113_108 rfl) ?_
  refine zl_tr (r_getI (kk := 5) d_113_109 ow_113 f_6_51 la_128 (by decide) rfl) ?_
  refine zl_tr (r_icmp_ge (tgt := 147) d_113_112 (by decide)) (zl_if ?_ ?_)
  · skip
    refine zl_tr (r_aload_n d_113_115 rfl) ?_
    refine zl_tr (r_getR d_113_116 ow_113 f_6_9 la_128 (by decide) fr_128_0) ?_
    refine zl_tr (r_iload d_113_119 rfl) ?_
    refine zl_tr (r_dup2 d_113_121 ⟨rfl, rfl⟩) ?_
    refine zl_tr (r_iaload d_113_122 la_129) (zl_ck ?_)
    refine zl_tr (r_aload_n d_113_123 rfl) ?_
    refine zl_tr (r_getR d_113_124 ow_113 f_6_57 (zt_o ho) (by decide) (zt_r2 ho)) ?_
    refine zl_tr (r_aload d_113_127 rfl) ?_
    refine zl_tr (r_iload d_113_129 rfl) ?_
    refine zl_tr (r_iaload1 d_113_131) (zl_ck ?_)
    refine zl_tr (r_bipush d_113_132 (by decide)) ?_
    refine zl_tr (r_imul d_113_134) (zl_ck ?_)
    refine zl_tr (r_iload d_113_135 rfl) ?_
    refine zl_tr (r_iadd d_113_137) (zl_ck ?_)
    refine zl_tr (r_iaload d_113_138 (zt_a1 ho)) (zl_ck ?_)
    refine zl_tr (r_iadd d_113_139) (zl_ck ?_)
    refine zl_tr (r_iastore d_113_140 la_129) (zl_ck ?_)
    refine zl_tr (r_iinc (loc' := [zm_A 128, zm_A t, zm_A o, zm_I x3, zm_A 1, zm_I x5, zm_I (x6 + 1)]) d_113_141 rfl (Nat.le_of_ble_eq_true rfl) rfl) (zl_ck ?_)
    refine zl_tr (r_goto (tgt := 106) d_113_144 (by decide)) ?_
    exact zl_rf
  · skip
    refine zl_tr (r_aload_n d_113_147 rfl) ?_
    refine zl_tr (r_dup d_113_148 rfl) ?_
    refine zl_tr (r_getI (kk := 3) d_113_149 ow_113 f_6_54 la_128 (by decide) rfl) ?_
    refine zl_tr (r_aload_n d_113_152 rfl) ?_
    refine zl_tr (r_getR d_113_153 ow_113 f_6_9 la_128 (by decide) fr_128_0) ?_
    refine zl_tr (r_iload d_113_156 rfl) ?_
    refine zl_tr (r_iaload d_113_158 la_129) (zl_ck ?_)
    refine zl_tr (r_iadd d_113_159) (zl_ck ?_)
    refine zl_tr (r_putI (kk := 3) d_113_160 ow_113 f_6_54 la_128 (by decide) rfl) ?_
    refine zl_tr (r_aload_n d_113_163 rfl) ?_
    refine zl_tr (r_getR d_113_164 ow_113 f_6_15 la_128 (by decide) fr_128_1) ?_
    refine zl_tr (r_iload d_113_167 rfl) ?_
    refine zl_tr (r_iload d_113_169 rfl) ?_
    refine zl_tr (r_aload_n d_113_171 rfl) ?_
    refine zl_tr (r_getI (kk := 1) d_113_172 ow_113 f_6_60 (zf_o ht) (by decide) rfl) ?_
    refine zl_tr (r_icmp_ge (tgt := 188) d_113_175 (by decide)) (zl_if ?_ ?_)
    · skip
      refine zl_tr (r_aload_n d_113_178 rfl) ?_
      refine zl_tr (r_iload_n d_113_179 rfl) ?_
      refine zl_tr (r_iload d_113_180 rfl) ?_
      refine zl_tr (r_VI [zm_A t, zm_I x3, zm_I x5] d_113_182 ow_113 cal_6_63 na_64 rfl rfl (Nat.le_of_ble_eq_true rfl) (by rw [rk_64]; decide) (zr_rcv (zf_o ht) ow_64) (zr_im mx_64 rfl (Nat.le_of_ble_eq_true rfl)) (by rw [rt_64]; decide)) (zl_I (fun v1 h2 => ?_))
      refine zl_tr (r_goto (tgt := 189) d_113_185 (by decide)) ?_
      refine zl_tr (r_iastore d_113_189 la_130) (zl_ck ?_)
      refine zl_tr (r_aload_n d_113_190 rfl) ?_
      refine zl_tr (r_getR d_113_191 ow_113 f_6_18 la_128 (by decide) fr_128_2) ?_
      refine zl_tr (r_iload d_113_194 rfl) ?_
      refine zl_tr (r_iload d_113_196 rfl) ?_
      refine zl_tr (r_aload_n d_113_198 rfl) ?_
      refine zl_tr (r_getI (kk := 1) d_113_199 ow_113 f_6_60 (zf_o ht) (by decide) rfl) ?_
      refine zl_tr (r_icmp_ge (tgt := 215) d_113_202 (by decide)) (zl_if ?_ ?_)
      · skip
        refine zl_tr (r_aload_n d_113_205 rfl) ?_
        refine zl_tr (r_iload_n d_113_206 rfl) ?_
        refine zl_tr (r_iload d_113_207 rfl) ?_
        refine zl_tr (r_VI [zm_A t, zm_I x3, zm_I x5] d_113_209 ow_113 cal_6_66 na_65 rfl rfl (Nat.le_of_ble_eq_true rfl) (by rw [rk_65]; decide) (zr_rcv (zf_o ht) ow_65) (zr_im mx_65 rfl (Nat.le_of_ble_eq_true rfl)) (by rw [rt_65]; decide)) (zl_I (fun v3 h4 => ?_))
        refine zl_tr (r_goto (tgt := 216) d_113_212 (by decide)) ?_
        refine zl_tr (r_iastore d_113_216 la_131) (zl_ck ?_)
        refine zl_tr (r_iinc (loc' := [zm_A 128, zm_A t, zm_A o, zm_I x3, zm_A 1, zm_I (x5 + 1), zm_I x6]) d_113_217 rfl (Nat.le_of_ble_eq_true rfl) rfl) (zl_ck ?_)
        refine zl_tr (r_goto (tgt := 85) d_113_220 (by decide)) ?_
        exact zl_rf
      · skip
        refine zl_tr (r_iconst d_113_215 (by decide)) ?_
        refine zl_tr (r_iastore d_113_216 la_131) (zl_ck ?_)
        refine zl_tr (r_iinc (loc' := [zm_A 128, zm_A t, zm_A o, zm_I x3, zm_A 1, zm_I (x5 + 1), zm_I x6]) d_113_217 rfl (Nat.le_of_ble_eq_true rfl) rfl) (zl_ck ?_)
        refine zl_tr (r_goto (tgt := 85) d_113_220 (by decide)) ?_
        exact zl_rf
    · skip
      refine zl_tr (r_iconst d_113_188 (by decide)) ?_
      refine zl_tr (r_iastore d_113_189 la_130) (zl_ck ?_)
      refine zl_tr (r_aload_n d_113_190 rfl) ?_
      refine zl_tr (r_getR d_113_191 ow_113 f_6_18 la_128 (by decide) fr_128_2) ?_
      refine zl_tr (r_iload d_113_194 rfl) ?_
      refine zl_tr (r_iload d_113_196 rfl) ?_
      refine zl_tr (r_aload_n d_113_198 rfl) ?_
      refine zl_tr (r_getI (kk := 1) d_113_199 ow_113 f_6_60 (zf_o ht) (by decide) rfl) ?_
      refine zl_tr (r_icmp_ge (tgt := 215) d_113_202 (by decide)) (zl_if ?_ ?_)
      · skip
        refine zl_tr (r_aload_n d_113_205 rfl) ?_
        refine zl_tr (r_iload_n d_113_206 rfl) ?_
        refine zl_tr (r_iload d_113_207 rfl) ?_
        refine zl_tr (r_VI [zm_A t, zm_I x3, zm_I x5] d_113_209 ow_113 cal_6_66 na_65 rfl rfl (Nat.le_of_ble_eq_true rfl) (by rw [rk_65]; decide) (zr_rcv (zf_o ht) ow_65) (zr_im mx_65 rfl (Nat.le_of_ble_eq_true rfl)) (by rw [rt_65]; decide)) (zl_I (fun v5 h6 => ?_))
        refine zl_tr (r_goto (tgt := 216) d_113_212 (by decide)) ?_
        refine zl_tr (r_iastore d_113_216 la_131) (zl_ck ?_)
        refine zl_tr (r_iinc (loc' := [zm_A 128, zm_A t, zm_A o, zm_I x3, zm_A 1, zm_I (x5 + 1), zm_I x6]) d_113_217 rfl (Nat.le_of_ble_eq_true rfl) rfl) (zl_ck ?_)
        refine zl_tr (r_goto (tgt := 85) d_113_220 (by decide)) ?_
        exact zl_rf
      · skip
        refine zl_tr (r_iconst d_113_215 (by decide)) ?_
        refine zl_tr (r_iastore d_113_216 la_131) (zl_ck ?_)
        refine zl_tr (r_iinc (loc' := [zm_A 128, zm_A t, zm_A o, zm_I x3, zm_A 1, zm_I (x5 + 1), zm_I x6]) d_113_217 rfl (Nat.le_of_ble_eq_true rfl) rfl) (zl_ck ?_)
        refine zl_tr (r_goto (tgt := 85) d_113_220 (by decide)) ?_
        exact zl_rf
-- BranTub$Reach.look {4: 133}
set_option maxRecDepth 20000 in
theorem e_113_133 {h : zm_H} {x3 : Int} {o : Nat} (ho : zf_T o) {t : Nat} (ht : zf_F t) : zl (zm_ck (0 ≤ x3 ∧ x3 < ((8 : Nat) : Int)) (zm_ck (zm_i32 ((h (t + 7) x3) + 1)) (zr none 3 113 17 [zm_A 128, zm_A t, zm_A o, zm_I x3, zm_A 133, zm_U, zm_U] [] (zm_wr (zm_wr h 128 6 ((h (t + 7) x3) + 1)) 128 4 0)))) (zc 113 [zm_A 128, zm_A t, zm_A o, zm_I x3, zm_A 133] h) := by
  rw [zc_eq (loc := [zm_A 128, zm_A t, zm_A o, zm_I x3, zm_A 133, zm_U, zm_U]) (rk_113 _) rfl]
  refine zl_tr (r_aload_n d_113_0 rfl) ?_
  refine zl_tr (r_aload_n d_113_1 rfl) ?_
  refine zl_tr (r_getR d_113_2 ow_113 f_6_21 (zf_o ht) (by decide) (zf_r11 ht)) ?_
  refine zl_tr (r_iload_n d_113_5 rfl) ?_
  refine zl_tr (r_iaload d_113_6 (zf_a7 ht)) (zl_ck ?_)
  refine zl_tr (r_iconst d_113_7 (by decide)) ?_
  refine zl_tr (r_iadd d_113_8) (zl_ck ?_)
  refine zl_tr (r_putI (kk := 6) d_113_9 ow_113 f_6_26 la_128 (by decide) rfl) ?_
  refine zl_tr (r_aload_n d_113_12 rfl) ?_
  refine zl_tr (r_iconst d_113_13 (by decide)) ?_
  refine zl_tr (r_putI (kk := 4) d_113_14 ow_113 f_6_30 la_128 (by decide) rfl) ?_
  exact zl_rf
-- BranTub$Reach.look, from 17 {4: 133}
set_option maxRecDepth 20000 in
theorem e_113_133_17 {h : zm_H} {x3 : Int} {w5 : zm_V} {w6 : zm_V} {o : Nat} (ho : zf_T o) {t : Nat} (ht : zf_F t) : zl (if (h 128 4) < (h t 2) then (zm_ck (0 ≤ (h 128 4) ∧ (h 128 4) < ((5 : Nat) : Int)) (zk_I (zc 150 [zm_A o, zm_I (h 133 (h 128 4))] h) (fun v1 h2 => if v1 = 0 then (zm_ck (zm_i32 ((h2 128 4) + 1)) (zr none 3 113 17 [zm_A 128, zm_A t, zm_A o, zm_I x3, zm_A 133, w5, w6] [] (zm_wr h2 128 4 ((h2 128 4) + 1)))) else (zr none 3 113 55 [zm_A 128, zm_A t, zm_A o, zm_I x3, zm_A 133, w5, w6] [] h2)))) else (zr none 3 113 55 [zm_A 128, zm_A t, zm_A o, zm_I x3, zm_A 133, w5, w6] [] h)) (zr none 3 113 17 [zm_A 128, zm_A t, zm_A o, zm_I x3, zm_A 133, w5, w6] [] h) := by
  refine zl_tr (r_aload_n d_113_17 rfl) ?_
  refine zl_tr (r_getI (kk := 4) d_113_18 ow_113 f_6_30 la_128 (by decide) rfl) ?_
  refine zl_tr (r_aload_n d_113_21 rfl) ?_
  refine zl_tr (r_getI (kk := 2) d_113_22 ow_113 f_6_33 (zf_o ht) (by decide) rfl) ?_
  refine zl_tr (r_icmp_ge (tgt := 55) d_113_25 (by decide)) (zl_if ?_ ?_)
  · skip
    refine zl_tr (r_aload_n d_113_28 rfl) ?_
    refine zl_tr (r_aload d_113_29 rfl) ?_
    refine zl_tr (r_aload_n d_113_31 rfl) ?_
    refine zl_tr (r_getI (kk := 4) d_113_32 ow_113 f_6_30 la_128 (by decide) rfl) ?_
    refine zl_tr (r_iaload d_113_35 la_133) (zl_ck ?_)
    refine zl_tr (r_VI [zm_A o, zm_I (h 133 (h 128 4))] d_113_36 ow_113 cal_6_36 na_150 rfl rfl (Nat.le_of_ble_eq_true rfl) (by rw [rk_150]; decide) (zr_rcv (zt_o ho) ow_150) (zr_im mx_150 rfl (Nat.le_of_ble_eq_true rfl)) (by rw [rt_150]; decide)) (zl_I (fun v1 h2 => ?_))
    refine zl_tr (r_if_ne (tgt := 55) d_113_39 (by decide)) (zl_if ?_ ?_)
    · skip
      refine zl_tr (r_aload_n d_113_42 rfl) ?_
      refine zl_tr (r_dup d_113_43 rfl) ?_
      refine zl_tr (r_getI (kk := 4) d_113_44 ow_113 f_6_30 la_128 (by decide) rfl) ?_
      refine zl_tr (r_iconst d_113_47 (by decide)) ?_
      refine zl_tr (r_iadd d_113_48) (zl_ck ?_)
      refine zl_tr (r_putI (kk := 4) d_113_49 ow_113 f_6_30 la_128 (by decide) rfl) ?_
      refine zl_tr (r_goto (tgt := 17) d_113_52 (by decide)) ?_
      exact zl_rf
    · skip
      exact zl_rf
  · skip
    exact zl_rf
-- BranTub$Reach.look, from 55 {4: 133}
set_option maxRecDepth 20000 in
theorem e_113_133_55 {h : zm_H} {x3 : Int} {w5 : zm_V} {w6 : zm_V} {o : Nat} (ho : zf_T o) {t : Nat} (ht : zf_F t) : zl (zm_ck (0 ≤ x3 ∧ x3 < ((8 : Nat) : Int)) (zm_ck (zm_i32 ((h 128 4) + (h (t + 6) x3))) (zr none 3 113 85 [zm_A 128, zm_A t, zm_A o, zm_I x3, zm_A 133, zm_I 0, w6] [] (zm_wr (zm_wr h 128 5 (min (h t 2) ((h 128 4) + (h (t + 6) x3)))) 128 3 0)))) (zr none 3 113 55 [zm_A 128, zm_A t, zm_A o, zm_I x3, zm_A 133, w5, w6] [] h) := by
  refine zl_tr (r_aload_n d_113_55 rfl) ?_
  refine zl_tr (r_aload_n d_113_56 rfl) ?_
  refine zl_tr (r_getI (kk := 2) d_113_57 ow_113 f_6_33 (zf_o ht) (by decide) rfl) ?_
  refine zl_tr (r_aload_n d_113_60 rfl) ?_
  refine zl_tr (r_getI (kk := 4) d_113_61 ow_113 f_6_30 la_128 (by decide) rfl) ?_
  refine zl_tr (r_aload_n d_113_64 rfl) ?_
  refine zl_tr (r_getR d_113_65 ow_113 f_6_42 (zf_o ht) (by decide) (zf_r10 ht)) ?_
  refine zl_tr (r_iload_n d_113_68 rfl) ?_
  refine zl_tr (r_iaload d_113_69 (zf_a6 ht)) (zl_ck ?_)
  refine zl_tr (r_iadd d_113_70) (zl_ck ?_)
  refine zl_tr (r_mmin d_113_71 ow_113 cal_6_45 (Nat.le_of_ble_eq_true rfl) (by decide)) ?_
  refine zl_tr (r_putI (kk := 5) d_113_74 ow_113 f_6_51 la_128 (by decide) rfl) ?_
  refine zl_tr (r_aload_n d_113_77 rfl) ?_
  refine zl_tr (r_iconst d_113_78 (by decide)) ?_
  refine zl_tr (r_putI (kk := 3) d_113_79 ow_113 f_6_54 la_128 (by decide) rfl) ?_
  refine zl_tr (r_iconst d_113_82 (by decide)) ?_
  refine zl_tr (r_istore (loc' := [zm_A 128, zm_A t, zm_A o, zm_I x3, zm_A 133, zm_I 0, w6]) d_113_83 (Nat.le_of_ble_eq_true rfl) rfl) ?_
  exact zl_rf
-- BranTub$Reach.look, from 85 {4: 133}
set_option maxRecDepth 20000 in
theorem e_113_133_85 {h : zm_H} {x3 : Int} {x5 : Int} {w6 : zm_V} {o : Nat} (ho : zf_T o) {t : Nat} (ht : zf_F t) : zl (if x5 < 8 then (zm_ck (0 ≤ x5 ∧ x5 < ((8 : Nat) : Int)) (zr none 3 113 106 [zm_A 128, zm_A t, zm_A o, zm_I x3, zm_A 133, zm_I x5, zm_I ((zm_wr h 129 x5 0) 128 4)] [] (zm_wr h 129 x5 0))) else (some (zm_U, h))) (zr none 3 113 85 [zm_A 128, zm_A t, zm_A o, zm_I x3, zm_A 133, zm_I x5, w6] [] h) := by
  refine zl_tr (r_iload d_113_85 rfl) ?_
  refine zl_tr (r_bipush d_113_87 (by decide)) ?_
  refine zl_tr (r_icmp_ge (tgt := 223) d_113_89 (by decide)) (zl_if ?_ ?_)
  · skip
    refine zl_tr (r_aload_n d_113_92 rfl) ?_
    refine zl_tr (r_getR d_113_93 ow_113 f_6_9 la_128 (by decide) fr_128_0) ?_
    refine zl_tr (r_iload d_113_96 rfl) ?_
    refine zl_tr (r_iconst d_113_98 (by decide)) ?_
    refine zl_tr (r_iastore d_113_99 la_129) (zl_ck ?_)
    refine zl_tr (r_aload_n d_113_100 rfl) ?_
    refine zl_tr (r_getI (kk := 4) d_113_101 ow_113 f_6_30 la_128 (by decide) rfl) ?_
    refine zl_tr (r_istore (loc' := [zm_A 128, zm_A t, zm_A o, zm_I x3, zm_A 133, zm_I x5, zm_I ((zm_wr h 129 x5 0) 128 4)]) d_113_104 (Nat.le_of_ble_eq_true rfl) rfl) ?_
    exact zl_rf
  · skip
    exact r_vret d_113_223 rt_113
-- BranTub$Reach.look, from 106 {4: 133}
set_option maxRecDepth 20000 in
theorem e_113_133_106 {h : zm_H} {x3 : Int} {x5 : Int} {x6 : Int} {o : Nat} (ho : zf_T o) {t : Nat} (ht : zf_F t) : zl (if x6 < (h 128 5) then (zm_ck (0 ≤ x5 ∧ x5 < ((8 : Nat) : Int)) (zm_ck (0 ≤ x6 ∧ x6 < ((5 : Nat) : Int)) (zm_ck (zm_i32 ((h 133 x6) * 8)) (zm_ck (zm_i32 (((h 133 x6) * 8) + x5)) (zm_ck (0 ≤ (((h 133 x6) * 8) + x5) ∧ (((h 133 x6) * 8) + x5) < ((40 : Nat) : Int)) (zm_ck (zm_i32 ((h 129 x5) + (h (o + 1) (((h 133 x6) * 8) + x5)))) (zm_ck (0 ≤ x5 ∧ x5 < ((8 : Nat) : Int)) (zm_ck (zm_i32 (x6 + 1)) (zr none 3 113 106 [zm_A 128, zm_A t, zm_A o, zm_I x3, zm_A 133, zm_I x5, zm_I (x6 + 1)] [] (zm_wr h 129 x5 ((h 129 x5) + (h (o + 1) (((h 133 x6) * 8) + x5))))))))))))) else (zm_ck (0 ≤ x5 ∧ x5 < ((8 : Nat) : Int)) (zm_ck (zm_i32 ((h 128 3) + (h 129 x5))) (if x5 < ((zm_wr h 128 3 ((h 128 3) + (h 129 x5))) t 1) then (zk_I (zc 64 [zm_A t, zm_I x3, zm_I x5] (zm_wr h 128 3 ((h 128 3) + (h 129 x5)))) (fun v1 h2 => zm_ck (0 ≤ x5 ∧ x5 < ((8 : Nat) : Int)) (if x5 < ((zm_wr h2 130 x5 v1) t 1) then (zk_I (zc 65 [zm_A t, zm_I x3, zm_I x5] (zm_wr h2 130 x5 v1)) (fun v3 h4 => zm_ck (0 ≤ x5 ∧ x5 < ((8 : Nat) : Int)) (zm_ck (zm_i32 (x5 + 1)) (zr none 3 113 85 [zm_A 128, zm_A t, zm_A o, zm_I x3, zm_A 133, zm_I (x5 + 1), zm_I x6] [] (zm_wr h4 131 x5 v3))))) else (zm_ck (0 ≤ x5 ∧ x5 < ((8 : Nat) : Int)) (zm_ck (zm_i32 (x5 + 1)) (zr none 3 113 85 [zm_A 128, zm_A t, zm_A o, zm_I x3, zm_A 133, zm_I (x5 + 1), zm_I x6] [] (zm_wr (zm_wr h2 130 x5 v1) 131 x5 0))))))) else (zm_ck (0 ≤ x5 ∧ x5 < ((8 : Nat) : Int)) (if x5 < ((zm_wr (zm_wr h 128 3 ((h 128 3) + (h 129 x5))) 130 x5 0) t 1) then (zk_I (zc 65 [zm_A t, zm_I x3, zm_I x5] (zm_wr (zm_wr h 128 3 ((h 128 3) + (h 129 x5))) 130 x5 0)) (fun v5 h6 => zm_ck (0 ≤ x5 ∧ x5 < ((8 : Nat) : Int)) (zm_ck (zm_i32 (x5 + 1)) (zr none 3 113 85 [zm_A 128, zm_A t, zm_A o, zm_I x3, zm_A 133, zm_I (x5 + 1), zm_I x6] [] (zm_wr h6 131 x5 v5))))) else (zm_ck (0 ≤ x5 ∧ x5 < ((8 : Nat) : Int)) (zm_ck (zm_i32 (x5 + 1)) (zr none 3 113 85 [zm_A 128, zm_A t, zm_A o, zm_I x3, zm_A 133, zm_I (x5 + 1), zm_I x6] [] (zm_wr (zm_wr (zm_wr h 128 3 ((h 128 3) + (h 129 x5))) 130 x5 0) 131 x5 0)))))))))) (zr none 3 113 106 [zm_A 128, zm_A t, zm_A o, zm_I x3, zm_A 133, zm_I x5, zm_I x6] [] h) := by
  refine zl_tr (r_iload d_113_106 rfl) ?_
  refine zl_tr (r_aload_n d_113_108 rfl) ?_
  refine zl_tr (r_getI (kk := 5) d_113_109 ow_113 f_6_51 la_128 (by decide) rfl) ?_
  refine zl_tr (r_icmp_ge (tgt := 147) d_113_112 (by decide)) (zl_if ?_ ?_)
  · skip
    refine zl_tr (r_aload_n d_113_115 rfl) ?_
    refine zl_tr (r_getR d_113_116 ow_113 f_6_9 la_128 (by decide) fr_128_0) ?_
    refine zl_tr (r_iload d_113_119 rfl) ?_
    refine zl_tr (r_dup2 d_113_121 ⟨rfl, rfl⟩) ?_
    refine zl_tr (r_iaload d_113_122 la_129) (zl_ck ?_)
    refine zl_tr (r_aload_n d_113_123 rfl) ?_
    refine zl_tr (r_getR d_113_124 ow_113 f_6_57 (zt_o ho) (by decide) (zt_r2 ho)) ?_
    refine zl_tr (r_aload d_113_127 rfl) ?_
    refine zl_tr (r_iload d_113_129 rfl) ?_
    refine zl_tr (r_iaload d_113_131 la_133) (zl_ck ?_)
    refine zl_tr (r_bipush d_113_132 (by decide)) ?_
    refine zl_tr (r_imul d_113_134) (zl_ck ?_)
    refine zl_tr (r_iload d_113_135 rfl) ?_
    refine zl_tr (r_iadd d_113_137) (zl_ck ?_)
    refine zl_tr (r_iaload d_113_138 (zt_a1 ho)) (zl_ck ?_)
    refine zl_tr (r_iadd d_113_139) (zl_ck ?_)
    refine zl_tr (r_iastore d_113_140 la_129) (zl_ck ?_)
    refine zl_tr (r_iinc (loc' := [zm_A 128, zm_A t, zm_A o, zm_I x3, zm_A 133, zm_I x5, zm_I (x6 + 1)]) d_113_141 rfl (Nat.le_of_ble_eq_true rfl) rfl) (zl_ck ?_)
    refine zl_tr (r_goto (tgt := 106) d_113_144 (by decide)) ?_
    exact zl_rf
  · skip
    refine zl_tr (r_aload_n d_113_147 rfl) ?_
    refine zl_tr (r_dup d_113_148 rfl) ?_
    refine zl_tr (r_getI (kk := 3) d_113_149 ow_113 f_6_54 la_128 (by decide) rfl) ?_
    refine zl_tr (r_aload_n d_113_152 rfl) ?_
    refine zl_tr (r_getR d_113_153 ow_113 f_6_9 la_128 (by decide) fr_128_0) ?_
    refine zl_tr (r_iload d_113_156 rfl) ?_
    refine zl_tr (r_iaload d_113_158 la_129) (zl_ck ?_)
    refine zl_tr (r_iadd d_113_159) (zl_ck ?_)
    refine zl_tr (r_putI (kk := 3) d_113_160 ow_113 f_6_54 la_128 (by decide) rfl) ?_
    refine zl_tr (r_aload_n d_113_163 rfl) ?_
    refine zl_tr (r_getR d_113_164 ow_113 f_6_15 la_128 (by decide) fr_128_1) ?_
    refine zl_tr (r_iload d_113_167 rfl) ?_
    refine zl_tr (r_iload d_113_169 rfl) ?_
    refine zl_tr (r_aload_n d_113_171 rfl) ?_
    refine zl_tr (r_getI (kk := 1) d_113_172 ow_113 f_6_60 (zf_o ht) (by decide) rfl) ?_
    refine zl_tr (r_icmp_ge (tgt := 188) d_113_175 (by decide)) (zl_if ?_ ?_)
    · skip
      refine zl_tr (r_aload_n d_113_178 rfl) ?_
      refine zl_tr (r_iload_n d_113_179 rfl) ?_
      refine zl_tr (r_iload d_113_180 rfl) ?_
      refine zl_tr (r_VI [zm_A t, zm_I x3, zm_I x5] d_113_182 ow_113 cal_6_63 na_64 rfl rfl (Nat.le_of_ble_eq_true rfl) (by rw [rk_64]; decide) (zr_rcv (zf_o ht) ow_64) (zr_im mx_64 rfl (Nat.le_of_ble_eq_true rfl)) (by rw [rt_64]; decide)) (zl_I (fun v1 h2 => ?_))
      refine zl_tr (r_goto (tgt := 189) d_113_185 (by decide)) ?_
      refine zl_tr (r_iastore d_113_189 la_130) (zl_ck ?_)
      refine zl_tr (r_aload_n d_113_190 rfl) ?_
      refine zl_tr (r_getR d_113_191 ow_113 f_6_18 la_128 (by decide) fr_128_2) ?_
      refine zl_tr (r_iload d_113_194 rfl) ?_
      refine zl_tr (r_iload d_113_196 rfl) ?_
      refine zl_tr (r_aload_n d_113_198 rfl) ?_
      refine zl_tr (r_getI (kk := 1) d_113_199 ow_113 f_6_60 (zf_o ht) (by decide) rfl) ?_
      refine zl_tr (r_icmp_ge (tgt := 215) d_113_202 (by decide)) (zl_if ?_ ?_)
      · skip
        refine zl_tr (r_aload_n d_113_205 rfl) ?_
        refine zl_tr (r_iload_n d_113_206 rfl) ?_
        refine zl_tr (r_iload d_113_207 rfl) ?_
        refine zl_tr (r_VI [zm_A t, zm_I x3, zm_I x5] d_113_209 ow_113 cal_6_66 na_65 rfl rfl (Nat.le_of_ble_eq_true rfl) (by rw [rk_65]; decide) (zr_rcv (zf_o ht) ow_65) (zr_im mx_65 rfl (Nat.le_of_ble_eq_true rfl)) (by rw [rt_65]; decide)) (zl_I (fun v3 h4 => ?_))
        refine zl_tr (r_goto (tgt := 216) d_113_212 (by decide)) ?_
        refine zl_tr (r_iastore d_113_216 la_131) (zl_ck ?_)
        refine zl_tr (r_iinc (loc' := [zm_A 128, zm_A t, zm_A o, zm_I x3, zm_A 133, zm_I (x5 + 1), zm_I x6]) d_113_217 rfl (Nat.le_of_ble_eq_true rfl) rfl) (zl_ck ?_)
        refine zl_tr (r_goto (tgt := 85) d_113_220 (by decide)) ?_
        exact zl_rf
      · skip
        refine zl_tr (r_iconst d_113_215 (by decide)) ?_
        refine zl_tr (r_iastore d_113_216 la_131) (zl_ck ?_)
        refine zl_tr (r_iinc (loc' := [zm_A 128, zm_A t, zm_A o, zm_I x3, zm_A 133, zm_I (x5 + 1), zm_I x6]) d_113_217 rfl (Nat.le_of_ble_eq_true rfl) rfl) (zl_ck ?_)
        refine zl_tr (r_goto (tgt := 85) d_113_220 (by decide)) ?_
        exact zl_rf
    · skip
      refine zl_tr (r_iconst d_113_188 (by decide)) ?_
      refine zl_tr (r_iastore d_113_189 la_130) (zl_ck ?_)
      refine zl_tr (r_aload_n d_113_190 rfl) ?_
      refine zl_tr (r_getR d_113_191 ow_113 f_6_18 la_128 (by decide) fr_128_2) ?_
      refine zl_tr (r_iload d_113_194 rfl) ?_
      refine zl_tr (r_iload d_113_196 rfl) ?_
      refine zl_tr (r_aload_n d_113_198 rfl) ?_
      refine zl_tr (r_getI (kk := 1) d_113_199 ow_113 f_6_60 (zf_o ht) (by decide) rfl) ?_
      refine zl_tr (r_icmp_ge (tgt := 215) d_113_202 (by decide)) (zl_if ?_ ?_)
      · skip
        refine zl_tr (r_aload_n d_113_205 rfl) ?_
        refine zl_tr (r_iload_n d_113_206 rfl) ?_
        refine zl_tr (r_iload d_113_207 rfl) ?_
        refine zl_tr (r_VI [zm_A t, zm_I x3, zm_I x5] d_113_209 ow_113 cal_6_66 na_65 rfl rfl (Nat.le_of_ble_eq_true rfl) (by rw [rk_65]; decide) (zr_rcv (zf_o ht) ow_65) (zr_im mx_65 rfl (Nat.le_of_ble_eq_true rfl)) (by rw [rt_65]; decide)) (zl_I (fun v5 h6 => ?_))
        refine zl_tr (r_goto (tgt := 216) d_113_212 (by decide)) ?_
        refine zl_tr (r_iastore d_113_216 la_131) (zl_ck ?_)
        refine zl_tr (r_iinc (loc' := [zm_A 128, zm_A t, zm_A o, zm_I x3, zm_A 133, zm_I (x5 + 1), zm_I x6]) d_113_217 rfl (Nat.le_of_ble_eq_true rfl) rfl) (zl_ck ?_)
        refine zl_tr (r_goto (tgt := 85) d_113_220 (by decide)) ?_
        exact zl_rf
      · skip
        refine zl_tr (r_iconst d_113_215 (by decide)) ?_
        refine zl_tr (r_iastore d_113_216 la_131) (zl_ck ?_)
        refine zl_tr (r_iinc (loc' := [zm_A 128, zm_A t, zm_A o, zm_I x3, zm_A 133, zm_I (x5 + 1), zm_I x6]) d_113_217 rfl (Nat.le_of_ble_eq_true rfl) rfl) (zl_ck ?_)
        refine zl_tr (r_goto (tgt := 85) d_113_220 (by decide)) ?_
        exact zl_rf
-- BranTub$Reach.ways
set_option maxRecDepth 20000 in
theorem e_114 {h : zm_H} {x1 : Int} : zl (zr none 2 114 7 [zm_A 128, zm_I x1, zm_I 0, zm_I 0, zm_I 0, zm_U, zm_U] [] h) (zc 114 [zm_A 128, zm_I x1] h) := by
  rw [zc_eq (loc := [zm_A 128, zm_I x1, zm_U, zm_U, zm_U, zm_U, zm_U]) (rk_114 _) rfl]
  refine zl_tr (r_iconst d_114_0 (by decide)) ?_
  refine zl_tr (r_istore_n (loc' := [zm_A 128, zm_I x1, zm_I 0, zm_U, zm_U, zm_U, zm_U]) d_114_1 (Nat.le_of_ble_eq_true rfl) rfl) ?_
  refine zl_tr (r_iconst d_114_2 (by decide)) ?_
  refine zl_tr (r_istore_n (loc' := [zm_A 128, zm_I x1, zm_I 0, zm_I 0, zm_U, zm_U, zm_U]) d_114_3 (Nat.le_of_ble_eq_true rfl) rfl) ?_
  refine zl_tr (r_iconst d_114_4 (by decide)) ?_
  refine zl_tr (r_istore (loc' := [zm_A 128, zm_I x1, zm_I 0, zm_I 0, zm_I 0, zm_U, zm_U]) d_114_5 (Nat.le_of_ble_eq_true rfl) rfl) ?_
  exact zl_rf
-- BranTub$Reach.ways, from 7
set_option maxRecDepth 20000 in
theorem e_114_7 {h : zm_H} {x1 : Int} {x2 : Int} {x3 : Int} {x4 : Int} {w5 : zm_V} {w6 : zm_V} : zl (if x4 < 8 then (zm_ck (0 ≤ x4 ∧ x4 < ((8 : Nat) : Int)) (zm_ck (0 ≤ x1 ∧ x1 < ((8 : Nat) : Int)) (if (h 131 x4) < (h 131 x1) then (zm_ck (0 ≤ x4 ∧ x4 < ((8 : Nat) : Int)) (zm_ck (zm_i32 (x2 + (h 129 x4))) (zr none 2 114 40 [zm_A 128, zm_I x1, zm_I (x2 + (h 129 x4)), zm_I x3, zm_I x4, w5, w6] [] h))) else (zr none 2 114 40 [zm_A 128, zm_I x1, zm_I x2, zm_I x3, zm_I x4, w5, w6] [] h)))) else (zr none 2 114 78 [zm_A 128, zm_I x1, zm_I x2, zm_I x3, zm_L 0, zm_U, zm_I 0] [] h)) (zr none 2 114 7 [zm_A 128, zm_I x1, zm_I x2, zm_I x3, zm_I x4, w5, w6] [] h) := by
  refine zl_tr (r_iload d_114_7 rfl) ?_
  refine zl_tr (r_bipush d_114_9 (by decide)) ?_
  refine zl_tr (r_icmp_ge (tgt := 72) d_114_11 (by decide)) (zl_if ?_ ?_)
  · skip
    refine zl_tr (r_aload_n d_114_14 rfl) ?_
    refine zl_tr (r_getR d_114_15 ow_114 f_6_18 la_128 (by decide) fr_128_2) ?_
    refine zl_tr (r_iload d_114_18 rfl) ?_
    refine zl_tr (r_iaload d_114_20 la_131) (zl_ck ?_)
    refine zl_tr (r_aload_n d_114_21 rfl) ?_
    refine zl_tr (r_getR d_114_22 ow_114 f_6_18 la_128 (by decide) fr_128_2) ?_
    refine zl_tr (r_iload_n d_114_25 rfl) ?_
    refine zl_tr (r_iaload d_114_26 la_131) (zl_ck ?_)
    refine zl_tr (r_icmp_ge (tgt := 40) d_114_27 (by decide)) (zl_if ?_ ?_)
    · skip
      refine zl_tr (r_iload_n d_114_30 rfl) ?_
      refine zl_tr (r_aload_n d_114_31 rfl) ?_
      refine zl_tr (r_getR d_114_32 ow_114 f_6_9 la_128 (by decide) fr_128_0) ?_
      refine zl_tr (r_iload d_114_35 rfl) ?_
      refine zl_tr (r_iaload d_114_37 la_129) (zl_ck ?_)
      refine zl_tr (r_iadd d_114_38) (zl_ck ?_)
      refine zl_tr (r_istore_n (loc' := [zm_A 128, zm_I x1, zm_I (x2 + (h 129 x4)), zm_I x3, zm_I x4, w5, w6]) d_114_39 (Nat.le_of_ble_eq_true rfl) rfl) ?_
      exact zl_rf
    · skip
      exact zl_rf
  · skip
    refine zl_tr (r_lconst (z := 0) d_114_72 rfl) ?_
    refine zl_tr (r_lstore (loc' := [zm_A 128, zm_I x1, zm_I x2, zm_I x3, zm_L 0, zm_U, w6]) d_114_73 (Nat.le_of_ble_eq_true rfl) rfl) ?_
    refine zl_tr (r_iconst d_114_75 (by decide)) ?_
    refine zl_tr (r_istore (loc' := [zm_A 128, zm_I x1, zm_I x2, zm_I x3, zm_L 0, zm_U, zm_I 0]) d_114_76 (Nat.le_of_ble_eq_true rfl) rfl) ?_
    exact zl_rf
-- BranTub$Reach.ways, from 40
set_option maxRecDepth 20000 in
theorem e_114_40 {h : zm_H} {x1 : Int} {x2 : Int} {x3 : Int} {x4 : Int} {w5 : zm_V} {w6 : zm_V} : zl (zm_ck (0 ≤ x4 ∧ x4 < ((8 : Nat) : Int)) (zm_ck (0 ≤ x1 ∧ x1 < ((8 : Nat) : Int)) (if (h 131 x1) < (h 131 x4) then (zm_ck (zm_i32 (x4 + 1)) (zr none 2 114 7 [zm_A 128, zm_I x1, zm_I x2, zm_I x3, zm_I (x4 + 1), w5, w6] [] h)) else (zm_ck (0 ≤ x4 ∧ x4 < ((8 : Nat) : Int)) (zm_ck (zm_i32 (x3 + (h 129 x4))) (zm_ck (zm_i32 (x4 + 1)) (zr none 2 114 7 [zm_A 128, zm_I x1, zm_I x2, zm_I (x3 + (h 129 x4)), zm_I (x4 + 1), w5, w6] [] h))))))) (zr none 2 114 40 [zm_A 128, zm_I x1, zm_I x2, zm_I x3, zm_I x4, w5, w6] [] h) := by
  refine zl_tr (r_aload_n d_114_40 rfl) ?_
  refine zl_tr (r_getR d_114_41 ow_114 f_6_18 la_128 (by decide) fr_128_2) ?_
  refine zl_tr (r_iload d_114_44 rfl) ?_
  refine zl_tr (r_iaload d_114_46 la_131) (zl_ck ?_)
  refine zl_tr (r_aload_n d_114_47 rfl) ?_
  refine zl_tr (r_getR d_114_48 ow_114 f_6_18 la_128 (by decide) fr_128_2) ?_
  refine zl_tr (r_iload_n d_114_51 rfl) ?_
  refine zl_tr (r_iaload d_114_52 la_131) (zl_ck ?_)
  refine zl_tr (r_icmp_gt (tgt := 66) d_114_53 (by decide)) (zl_if ?_ ?_)
  · skip
    refine zl_tr (r_iinc (loc' := [zm_A 128, zm_I x1, zm_I x2, zm_I x3, zm_I (x4 + 1), w5, w6]) d_114_66 rfl (Nat.le_of_ble_eq_true rfl) rfl) (zl_ck ?_)
    refine zl_tr (r_goto (tgt := 7) d_114_69 (by decide)) ?_
    exact zl_rf
  · skip
    refine zl_tr (r_iload_n d_114_56 rfl) ?_
    refine zl_tr (r_aload_n d_114_57 rfl) ?_
    refine zl_tr (r_getR d_114_58 ow_114 f_6_9 la_128 (by decide) fr_128_0) ?_
    refine zl_tr (r_iload d_114_61 rfl) ?_
    refine zl_tr (r_iaload d_114_63 la_129) (zl_ck ?_)
    refine zl_tr (r_iadd d_114_64) (zl_ck ?_)
    refine zl_tr (r_istore_n (loc' := [zm_A 128, zm_I x1, zm_I x2, zm_I (x3 + (h 129 x4)), zm_I x4, w5, w6]) d_114_65 (Nat.le_of_ble_eq_true rfl) rfl) ?_
    refine zl_tr (r_iinc (loc' := [zm_A 128, zm_I x1, zm_I x2, zm_I (x3 + (h 129 x4)), zm_I (x4 + 1), w5, w6]) d_114_66 rfl (Nat.le_of_ble_eq_true rfl) rfl) (zl_ck ?_)
    refine zl_tr (r_goto (tgt := 7) d_114_69 (by decide)) ?_
    exact zl_rf
-- BranTub$Reach.ways, from 78
set_option maxRecDepth 20000 in
theorem e_114_78 {h : zm_H} {x1 : Int} {x2 : Int} {x3 : Int} {x4 : Int} {x6 : Int} : zl (if x6 < (h 128 6) then (zm_ck (zm_i32 ((h 128 6) - 1)) (zm_ck (zm_i32 (((h 128 6) - 1) - x6)) (zk_L (zc 115 [zm_I x3, zm_I (((h 128 6) - 1) - x6)] h) (fun v1 h2 => zk_L (zc 115 [zm_I x2, zm_I x6] h2) (fun v3 h4 => zm_ck (zm_i64 (v1 * v3)) (zm_ck (zm_i64 (x4 + (v1 * v3))) (zm_ck (zm_i32 (x6 + 1)) (zr none 2 114 78 [zm_A 128, zm_I x1, zm_I x2, zm_I x3, zm_L (x4 + (v1 * v3)), zm_U, zm_I (x6 + 1)] [] h4)))))))) else (zm_ck (0 ≤ x1 ∧ x1 < ((8 : Nat) : Int)) (zm_ck (zm_i64 (x4 * (h 129 x1))) (some (zm_L (x4 * (h 129 x1)), h))))) (zr none 2 114 78 [zm_A 128, zm_I x1, zm_I x2, zm_I x3, zm_L x4, zm_U, zm_I x6] [] h) := by
  refine zl_tr (r_iload d_114_78 rfl) ?_
  refine zl_tr (r_aload_n d_114_80 rfl) ?_
  refine zl_tr (r_getI (kk := 6) d_114_81 ow_114 f_6_26 la_128 (by decide) rfl) ?_
  refine zl_tr (r_icmp_ge (tgt := 118) d_114_84 (by decide)) (zl_if ?_ ?_)
  · skip
    refine zl_tr (r_lload d_114_87 rfl) ?_
    refine zl_tr (r_iload_n d_114_89 rfl) ?_
    refine zl_tr (r_aload_n d_114_90 rfl) ?_
    refine zl_tr (r_getI (kk := 6) d_114_91 ow_114 f_6_26 la_128 (by decide) rfl) ?_
    refine zl_tr (r_iconst d_114_94 (by decide)) ?_
    refine zl_tr (r_isub d_114_95) (zl_ck ?_)
    refine zl_tr (r_iload d_114_96 rfl) ?_
    refine zl_tr (r_isub d_114_98) (zl_ck ?_)
    refine zl_tr (r_SL [zm_I x3, zm_I (((h 128 6) - 1) - x6)] d_114_99 ow_114 cal_6_69 (by decide) na_115 rfl rfl (Nat.le_of_ble_eq_true rfl) (by rw [rk_115]; decide) (zr_im mx_115 rfl (Nat.le_of_ble_eq_true rfl)) rt_115) (zl_L (fun v1 h2 => ?_))
    refine zl_tr (r_iload_n d_114_102 rfl) ?_
    refine zl_tr (r_iload d_114_103 rfl) ?_
    refine zl_tr (r_SL [zm_I x2, zm_I x6] d_114_105 ow_114 cal_6_69 (by decide) na_115 rfl rfl (Nat.le_of_ble_eq_true rfl) (by rw [rk_115]; decide) (zr_im mx_115 rfl (Nat.le_of_ble_eq_true rfl)) rt_115) (zl_L (fun v3 h4 => ?_))
    refine zl_tr (r_lmul d_114_108) (zl_ck ?_)
    refine zl_tr (r_ladd d_114_109) (zl_ck ?_)
    refine zl_tr (r_lstore (loc' := [zm_A 128, zm_I x1, zm_I x2, zm_I x3, zm_L (x4 + (v1 * v3)), zm_U, zm_I x6]) d_114_110 (Nat.le_of_ble_eq_true rfl) rfl) ?_
    refine zl_tr (r_iinc (loc' := [zm_A 128, zm_I x1, zm_I x2, zm_I x3, zm_L (x4 + (v1 * v3)), zm_U, zm_I (x6 + 1)]) d_114_112 rfl (Nat.le_of_ble_eq_true rfl) rfl) (zl_ck ?_)
    refine zl_tr (r_goto (tgt := 78) d_114_115 (by decide)) ?_
    exact zl_rf
  · skip
    refine zl_tr (r_lload d_114_118 rfl) ?_
    refine zl_tr (r_aload_n d_114_120 rfl) ?_
    refine zl_tr (r_getR d_114_121 ow_114 f_6_9 la_128 (by decide) fr_128_0) ?_
    refine zl_tr (r_iload_n d_114_124 rfl) ?_
    refine zl_tr (r_iaload d_114_125 la_129) (zl_ck ?_)
    refine zl_tr (r_i2l d_114_126) ?_
    refine zl_tr (r_lmul d_114_127) (zl_ck ?_)
    exact r_lret d_114_128 rt_114
-- BranTub$Reach.power
set_option maxRecDepth 20000 in
theorem e_115 {h : zm_H} {x1 : Int} {x2 : Int} : zl (zr none 1 115 5 [zm_I x1, zm_I x2, zm_L 1, zm_U, zm_I 0] [] h) (zc 115 [zm_I x1, zm_I x2] h) := by
  rw [zc_eq (loc := [zm_I x1, zm_I x2, zm_U, zm_U, zm_U]) (rk_115 _) rfl]
  refine zl_tr (r_lconst (z := 1) d_115_0 rfl) ?_
  refine zl_tr (r_lstore_n (loc' := [zm_I x1, zm_I x2, zm_L 1, zm_U, zm_U]) d_115_1 (Nat.le_of_ble_eq_true rfl) rfl) ?_
  refine zl_tr (r_iconst d_115_2 (by decide)) ?_
  refine zl_tr (r_istore (loc' := [zm_I x1, zm_I x2, zm_L 1, zm_U, zm_I 0]) d_115_3 (Nat.le_of_ble_eq_true rfl) rfl) ?_
  exact zl_rf
-- BranTub$Reach.power, from 5
set_option maxRecDepth 20000 in
theorem e_115_5 {h : zm_H} {x0 : Int} {x1 : Int} {x2 : Int} {x4 : Int} : zl (if x4 < x1 then (zm_ck (zm_i64 (x2 * x0)) (zm_ck (zm_i32 (x4 + 1)) (zr none 1 115 5 [zm_I x0, zm_I x1, zm_L (x2 * x0), zm_U, zm_I (x4 + 1)] [] h))) else (some (zm_L x2, h))) (zr none 1 115 5 [zm_I x0, zm_I x1, zm_L x2, zm_U, zm_I x4] [] h) := by
  refine zl_tr (r_iload d_115_5 rfl) ?_
  refine zl_tr (r_iload_n d_115_7 rfl) ?_
  refine zl_tr (r_icmp_ge (tgt := 22) d_115_8 (by decide)) (zl_if ?_ ?_)
  · skip
    refine zl_tr (r_lload_n d_115_11 rfl) ?_
    refine zl_tr (r_iload_n d_115_12 rfl) ?_
    refine zl_tr (r_i2l d_115_13) ?_
    refine zl_tr (r_lmul d_115_14) (zl_ck ?_)
    refine zl_tr (r_lstore_n (loc' := [zm_I x0, zm_I x1, zm_L (x2 * x0), zm_U, zm_I x4]) d_115_15 (Nat.le_of_ble_eq_true rfl) rfl) ?_
    refine zl_tr (r_iinc (loc' := [zm_I x0, zm_I x1, zm_L (x2 * x0), zm_U, zm_I (x4 + 1)]) d_115_16 rfl (Nat.le_of_ble_eq_true rfl) rfl) (zl_ck ?_)
    refine zl_tr (r_goto (tgt := 5) d_115_19 (by decide)) ?_
    exact zl_rf
  · skip
    refine zl_tr (r_lload_n d_115_22 rfl) ?_
    exact r_lret d_115_23 rt_115
-- BranTub$Reach.allWays
set_option maxRecDepth 20000 in
theorem e_116 {h : zm_H}  : zl (zk_L (zc 115 [zm_I (h 128 3), zm_I (h 128 6)] h) (fun v1 h2 => some (zm_L v1, h2))) (zc 116 [zm_A 128] h) := by
  rw [zc_eq (loc := [zm_A 128]) (rk_116 _) rfl]
  refine zl_tr (r_aload_n d_116_0 rfl) ?_
  refine zl_tr (r_getI (kk := 3) d_116_1 ow_116 f_6_54 la_128 (by decide) rfl) ?_
  refine zl_tr (r_aload_n d_116_4 rfl) ?_
  refine zl_tr (r_getI (kk := 6) d_116_5 ow_116 f_6_26 la_128 (by decide) rfl) ?_
  refine zl_tr (r_SL [zm_I (h 128 3), zm_I (h 128 6)] d_116_8 ow_116 cal_6_69 (by decide) na_115 rfl rfl (Nat.le_of_ble_eq_true rfl) (by rw [rk_115]; decide) (zr_im mx_115 rfl (Nat.le_of_ble_eq_true rfl)) rt_115) (zl_L (fun v1 h2 => ?_))
  exact r_lret d_116_11 rt_116
-- BranTub$Reach.worthOfAllWays
set_option maxRecDepth 20000 in
theorem e_117 {h : zm_H}  : zl (zr none 3 117 4 [zm_A 128, zm_L 0, zm_U, zm_I 0] [] h) (zc 117 [zm_A 128] h) := by
  rw [zc_eq (loc := [zm_A 128, zm_U, zm_U, zm_U]) (rk_117 _) rfl]
  refine zl_tr (r_lconst (z := 0) d_117_0 rfl) ?_
  refine zl_tr (r_lstore_n (loc' := [zm_A 128, zm_L 0, zm_U, zm_U]) d_117_1 (Nat.le_of_ble_eq_true rfl) rfl) ?_
  refine zl_tr (r_iconst d_117_2 (by decide)) ?_
  refine zl_tr (r_istore_n (loc' := [zm_A 128, zm_L 0, zm_U, zm_I 0]) d_117_3 (Nat.le_of_ble_eq_true rfl) rfl) ?_
  exact zl_rf
-- BranTub$Reach.worthOfAllWays, from 4
set_option maxRecDepth 20000 in
theorem e_117_4 {h : zm_H} {x1 : Int} {x3 : Int} : zl (if x3 < 8 then (zk_L (zc 114 [zm_A 128, zm_I x3] h) (fun v1 h2 => zm_ck (0 ≤ x3 ∧ x3 < ((8 : Nat) : Int)) (zm_ck (zm_i64 (v1 * (h2 130 x3))) (zm_ck (zm_i64 (x1 + (v1 * (h2 130 x3)))) (zm_ck (zm_i32 (x3 + 1)) (zr none 3 117 4 [zm_A 128, zm_L (x1 + (v1 * (h2 130 x3))), zm_U, zm_I (x3 + 1)] [] h2)))))) else (some (zm_L x1, h))) (zr none 3 117 4 [zm_A 128, zm_L x1, zm_U, zm_I x3] [] h) := by
  refine zl_tr (r_iload_n d_117_4 rfl) ?_
  refine zl_tr (r_bipush d_117_5 (by decide)) ?_
  refine zl_tr (r_icmp_ge (tgt := 32) d_117_7 (by decide)) (zl_if ?_ ?_)
  · skip
    refine zl_tr (r_lload_n d_117_10 rfl) ?_
    refine zl_tr (r_aload_n d_117_11 rfl) ?_
    refine zl_tr (r_iload_n d_117_12 rfl) ?_
    refine zl_tr (r_VL [zm_A 128, zm_I x3] d_117_13 ow_117 cal_6_73 na_114 rfl rfl (Nat.le_of_ble_eq_true rfl) (by rw [rk_114]; decide) (zr_rcv la_128 ow_114) (zr_im mx_114 rfl (Nat.le_of_ble_eq_true rfl)) rt_114) (zl_L (fun v1 h2 => ?_))
    refine zl_tr (r_aload_n d_117_16 rfl) ?_
    refine zl_tr (r_getR d_117_17 ow_117 f_6_15 la_128 (by decide) fr_128_1) ?_
    refine zl_tr (r_iload_n d_117_20 rfl) ?_
    refine zl_tr (r_iaload d_117_21 la_130) (zl_ck ?_)
    refine zl_tr (r_i2l d_117_22) ?_
    refine zl_tr (r_lmul d_117_23) (zl_ck ?_)
    refine zl_tr (r_ladd d_117_24) (zl_ck ?_)
    refine zl_tr (r_lstore_n (loc' := [zm_A 128, zm_L (x1 + (v1 * (h2 130 x3))), zm_U, zm_I x3]) d_117_25 (Nat.le_of_ble_eq_true rfl) rfl) ?_
    refine zl_tr (r_iinc (loc' := [zm_A 128, zm_L (x1 + (v1 * (h2 130 x3))), zm_U, zm_I (x3 + 1)]) d_117_26 rfl (Nat.le_of_ble_eq_true rfl) rfl) (zl_ck ?_)
    refine zl_tr (r_goto (tgt := 4) d_117_29 (by decide)) ?_
    exact zl_rf
  · skip
    refine zl_tr (r_lload_n d_117_32 rfl) ?_
    exact r_lret d_117_33 rt_117
-- BranTub$Reach.spot
set_option maxRecDepth 20000 in
theorem e_118 {h : zm_H} {x2 : Int} {o : Nat} (ho : zf_T o) : zl (zm_ck (zm_i32 ((h 128 4) * 8)) (zr none 1 118 11 [zm_A 128, zm_A o, zm_I x2, zm_I x2, zm_I ((h 128 4) * 8)] [] h)) (zc 118 [zm_A 128, zm_A o, zm_I x2] h) := by
  rw [zc_eq (loc := [zm_A 128, zm_A o, zm_I x2, zm_U, zm_U]) (rk_118 _) rfl]
  refine zl_tr (r_iload_n d_118_0 rfl) ?_
  refine zl_tr (r_istore_n (loc' := [zm_A 128, zm_A o, zm_I x2, zm_I x2, zm_U]) d_118_1 (Nat.le_of_ble_eq_true rfl) rfl) ?_
  refine zl_tr (r_aload_n d_118_2 rfl) ?_
  refine zl_tr (r_getI (kk := 4) d_118_3 ow_118 f_6_30 la_128 (by decide) rfl) ?_
  refine zl_tr (r_bipush d_118_6 (by decide)) ?_
  refine zl_tr (r_imul d_118_8) (zl_ck ?_)
  refine zl_tr (r_istore (loc' := [zm_A 128, zm_A o, zm_I x2, zm_I x2, zm_I ((h 128 4) * 8)]) d_118_9 (Nat.le_of_ble_eq_true rfl) rfl) ?_
  exact zl_rf
-- BranTub$Reach.spot, from 11
set_option maxRecDepth 20000 in
theorem e_118_11 {h : zm_H} {w2 : zm_V} {x3 : Int} {x4 : Int} {o : Nat} (ho : zf_T o) (hw2 : zm_cat w2 ≠ 2) : zl (zm_ck (zm_i32 ((h 128 5) * 8)) (if x4 < ((h 128 5) * 8) then (zm_ck (0 ≤ x4 ∧ x4 < ((40 : Nat) : Int)) (if x3 < (h (o + 1) x4) then (some (zm_I x4, h)) else (zm_ck (0 ≤ x4 ∧ x4 < ((40 : Nat) : Int)) (zm_ck (zm_i32 (x3 - (h (o + 1) x4))) (zm_ck (zm_i32 (x4 + 1)) (zr none 1 118 11 [zm_A 128, zm_A o, w2, zm_I (x3 - (h (o + 1) x4)), zm_I (x4 + 1)] [] h)))))) else (zm_ck (zm_i32 ((h 128 4) * 8)) (some (zm_I ((h 128 4) * 8), h))))) (zr none 1 118 11 [zm_A 128, zm_A o, w2, zm_I x3, zm_I x4] [] h) := by
  refine zl_tr (r_iload d_118_11 rfl) ?_
  refine zl_tr (r_aload_n d_118_13 rfl) ?_
  refine zl_tr (r_getI (kk := 5) d_118_14 ow_118 f_6_51 la_128 (by decide) rfl) ?_
  refine zl_tr (r_bipush d_118_17 (by decide)) ?_
  refine zl_tr (r_imul d_118_19) (zl_ck ?_)
  refine zl_tr (r_icmp_ge (tgt := 53) d_118_20 (by decide)) (zl_if ?_ ?_)
  · skip
    refine zl_tr (r_iload_n d_118_23 rfl) ?_
    refine zl_tr (r_aload_n d_118_24 rfl) ?_
    refine zl_tr (r_getR d_118_25 ow_118 f_6_57 (zt_o ho) (by decide) (zt_r2 ho)) ?_
    refine zl_tr (r_iload d_118_28 rfl) ?_
    refine zl_tr (r_iaload d_118_30 (zt_a1 ho)) (zl_ck ?_)
    refine zl_tr (r_icmp_ge (tgt := 37) d_118_31 (by decide)) (zl_if ?_ ?_)
    · skip
      refine zl_tr (r_iload d_118_34 rfl) ?_
      exact r_iret d_118_36 rt_118
    · skip
      refine zl_tr (r_iload_n d_118_37 rfl) ?_
      refine zl_tr (r_aload_n d_118_38 rfl) ?_
      refine zl_tr (r_getR d_118_39 ow_118 f_6_57 (zt_o ho) (by decide) (zt_r2 ho)) ?_
      refine zl_tr (r_iload d_118_42 rfl) ?_
      refine zl_tr (r_iaload d_118_44 (zt_a1 ho)) (zl_ck ?_)
      refine zl_tr (r_isub d_118_45) (zl_ck ?_)
      refine zl_tr (r_istore_n (loc' := [zm_A 128, zm_A o, w2, zm_I (x3 - (h (o + 1) x4)), zm_I x4]) d_118_46 (Nat.le_of_ble_eq_true rfl) (zr_k1 rfl hw2 rfl)) ?_
      refine zl_tr (r_iinc (loc' := [zm_A 128, zm_A o, w2, zm_I (x3 - (h (o + 1) x4)), zm_I (x4 + 1)]) d_118_47 rfl (Nat.le_of_ble_eq_true rfl) rfl) (zl_ck ?_)
      refine zl_tr (r_goto (tgt := 11) d_118_50 (by decide)) ?_
      exact zl_rf
  · skip
    refine zl_tr (r_aload_n d_118_53 rfl) ?_
    refine zl_tr (r_getI (kk := 4) d_118_54 ow_118 f_6_30 la_128 (by decide) rfl) ?_
    refine zl_tr (r_bipush d_118_57 (by decide)) ?_
    refine zl_tr (r_imul d_118_59) (zl_ck ?_)
    exact r_iret d_118_60 rt_118
-- BranTub$Reach.plainMean
set_option maxRecDepth 20000 in
theorem e_119 {h : zm_H}  : zl (zr none 1 119 4 [zm_A 128, zm_I 0, zm_I 0] [] h) (zc 119 [zm_A 128] h) := by
  rw [zc_eq (loc := [zm_A 128, zm_U, zm_U]) (rk_119 _) rfl]
  refine zl_tr (r_iconst d_119_0 (by decide)) ?_
  refine zl_tr (r_istore_n (loc' := [zm_A 128, zm_I 0, zm_U]) d_119_1 (Nat.le_of_ble_eq_true rfl) rfl) ?_
  refine zl_tr (r_iconst d_119_2 (by decide)) ?_
  refine zl_tr (r_istore_n (loc' := [zm_A 128, zm_I 0, zm_I 0]) d_119_3 (Nat.le_of_ble_eq_true rfl) rfl) ?_
  exact zl_rf
-- BranTub$Reach.plainMean, from 4
set_option maxRecDepth 20000 in
theorem e_119_4 {h : zm_H} {x1 : Int} {x2 : Int} : zl (if x2 < 8 then (zm_ck (0 ≤ x2 ∧ x2 < ((8 : Nat) : Int)) (zm_ck (0 ≤ x2 ∧ x2 < ((8 : Nat) : Int)) (zm_ck (zm_i32 ((h 129 x2) * (h 130 x2))) (zm_ck (zm_i32 (x1 + ((h 129 x2) * (h 130 x2)))) (zm_ck (zm_i32 (x2 + 1)) (zr none 1 119 4 [zm_A 128, zm_I (x1 + ((h 129 x2) * (h 130 x2))), zm_I (x2 + 1)] [] h)))))) else (if 0 < (h 128 3) then (zm_ck (((h 128 3) : Int) ≠ 0 ∧ zm_i32 (x1.tdiv (h 128 3))) (some (zm_I (x1.tdiv (h 128 3)), h))) else (some (zm_I 0, h)))) (zr none 1 119 4 [zm_A 128, zm_I x1, zm_I x2] [] h) := by
  refine zl_tr (r_iload_n d_119_4 rfl) ?_
  refine zl_tr (r_bipush d_119_5 (by decide)) ?_
  refine zl_tr (r_icmp_ge (tgt := 32) d_119_7 (by decide)) (zl_if ?_ ?_)
  · skip
    refine zl_tr (r_iload_n d_119_10 rfl) ?_
    refine zl_tr (r_aload_n d_119_11 rfl) ?_
    refine zl_tr (r_getR d_119_12 ow_119 f_6_9 la_128 (by decide) fr_128_0) ?_
    refine zl_tr (r_iload_n d_119_15 rfl) ?_
    refine zl_tr (r_iaload d_119_16 la_129) (zl_ck ?_)
    refine zl_tr (r_aload_n d_119_17 rfl) ?_
    refine zl_tr (r_getR d_119_18 ow_119 f_6_15 la_128 (by decide) fr_128_1) ?_
    refine zl_tr (r_iload_n d_119_21 rfl) ?_
    refine zl_tr (r_iaload d_119_22 la_130) (zl_ck ?_)
    refine zl_tr (r_imul d_119_23) (zl_ck ?_)
    refine zl_tr (r_iadd d_119_24) (zl_ck ?_)
    refine zl_tr (r_istore_n (loc' := [zm_A 128, zm_I (x1 + ((h 129 x2) * (h 130 x2))), zm_I x2]) d_119_25 (Nat.le_of_ble_eq_true rfl) rfl) ?_
    refine zl_tr (r_iinc (loc' := [zm_A 128, zm_I (x1 + ((h 129 x2) * (h 130 x2))), zm_I (x2 + 1)]) d_119_26 rfl (Nat.le_of_ble_eq_true rfl) rfl) (zl_ck ?_)
    refine zl_tr (r_goto (tgt := 4) d_119_29 (by decide)) ?_
    exact zl_rf
  · skip
    refine zl_tr (r_aload_n d_119_32 rfl) ?_
    refine zl_tr (r_getI (kk := 3) d_119_33 ow_119 f_6_54 la_128 (by decide) rfl) ?_
    refine zl_tr (r_if_gt (tgt := 43) d_119_36 (by decide)) (zl_if ?_ ?_)
    · skip
      refine zl_tr (r_iload_n d_119_43 rfl) ?_
      refine zl_tr (r_aload_n d_119_44 rfl) ?_
      refine zl_tr (r_getI (kk := 3) d_119_45 ow_119 f_6_54 la_128 (by decide) rfl) ?_
      refine zl_tr (r_idiv d_119_48) (zl_ck ?_)
      exact r_iret d_119_49 rt_119
    · skip
      refine zl_tr (r_iconst d_119_39 (by decide)) ?_
      refine zl_tr (r_goto (tgt := 49) d_119_40 (by decide)) ?_
      exact r_iret d_119_49 rt_119
-- BranTub$Reckoner.reckon {4: 143}
set_option maxRecDepth 20000 in
theorem e_121_143 {h : zm_H} {x2 : Int} {x3 : Int} {a1 na1 : Nat} (ha1 : zm_lay a1 = .inr (0, na1) ∧ 3 < a1 ∧ a1 < zm_NX) : zl (zr none 3 121 8 [zm_A 141, zm_A a1, zm_I x2, zm_I x3, zm_A 143, zm_I x2, zm_U, zm_U, zm_U] [] (zm_wr h 141 1 0)) (zc 121 [zm_A 141, zm_A a1, zm_I x2, zm_I x3, zm_A 143] h) := by
  rw [zc_eq (loc := [zm_A 141, zm_A a1, zm_I x2, zm_I x3, zm_A 143, zm_U, zm_U, zm_U, zm_U]) (rk_121 _) rfl]
  refine zl_tr (r_aload_n d_121_0 rfl) ?_
  refine zl_tr (r_iconst d_121_1 (by decide)) ?_
  refine zl_tr (r_putI (kk := 1) d_121_2 ow_121 f_7_15 la_141 (by decide) rfl) ?_
  refine zl_tr (r_iload_n d_121_5 rfl) ?_
  refine zl_tr (r_istore (loc' := [zm_A 141, zm_A a1, zm_I x2, zm_I x3, zm_A 143, zm_I x2, zm_U, zm_U, zm_U]) d_121_6 (Nat.le_of_ble_eq_true rfl) rfl) ?_
  exact zl_rf
-- BranTub$Reckoner.reckon, from 8 {4: 143}
set_option maxRecDepth 20000 in
theorem e_121_143_8 {h : zm_H} {w2 : zm_V} {x3 : Int} {x5 : Int} {w6 : zm_V} {w7 : zm_V} {w8 : zm_V} {a1 na1 : Nat} (ha1 : zm_lay a1 = .inr (0, na1) ∧ 3 < a1 ∧ a1 < zm_NX) : zl (if x5 < x3 then (zm_ck (0 ≤ x5 ∧ x5 < ((na1 : Nat) : Int)) (if (h a1 x5) < 0 then (if (h a1 x5) < (-6) then (if (h a1 x5) = (-21) then (zk_I (zc 123 [zm_A 141] h) (fun v1 h2 => zm_ck (zm_i32 (1 - v1)) (zk_V (zc 122 [zm_A 141, zm_I (1 - v1)] h2) (fun h3 => zm_ck (zm_i32 (x5 + 1)) (zr none 3 121 8 [zm_A 141, zm_A a1, w2, zm_I x3, zm_A 143, zm_I (x5 + 1), zm_I (h a1 x5), w7, w8] [] h3))))) else (zk_I (zc 123 [zm_A 141] h) (fun v4 h5 => zk_I (zc 123 [zm_A 141] h5) (fun v6 h7 => zk_I (zc 124 [zm_I (h a1 x5), zm_I v6, zm_I v4] h7) (fun v8 h9 => zk_V (zc 122 [zm_A 141, zm_I v8] h9) (fun h10 => zm_ck (zm_i32 (x5 + 1)) (zr none 3 121 8 [zm_A 141, zm_A a1, w2, zm_I x3, zm_A 143, zm_I (x5 + 1), zm_I (h a1 x5), zm_I v4, zm_I v6] [] h10))))))) else (zm_ck (zm_i32 ((-1) - (h a1 x5))) (zm_ck (0 ≤ ((-1) - (h a1 x5)) ∧ ((-1) - (h a1 x5)) < ((6 : Nat) : Int)) (zk_V (zc 122 [zm_A 141, zm_I (h 143 ((-1) - (h a1 x5)))] h) (fun h11 => zm_ck (zm_i32 (x5 + 1)) (zr none 3 121 8 [zm_A 141, zm_A a1, w2, zm_I x3, zm_A 143, zm_I (x5 + 1), zm_I (h a1 x5), w7, w8] [] h11)))))) else (zk_V (zc 122 [zm_A 141, zm_I (h a1 x5)] h) (fun h12 => zm_ck (zm_i32 (x5 + 1)) (zr none 3 121 8 [zm_A 141, zm_A a1, w2, zm_I x3, zm_A 143, zm_I (x5 + 1), zm_I (h a1 x5), w7, w8] [] h12))))) else (zk_I (zc 123 [zm_A 141] h) (fun v13 h14 => some (zm_I v13, h14)))) (zr none 3 121 8 [zm_A 141, zm_A a1, w2, zm_I x3, zm_A 143, zm_I x5, w6, w7, w8] [] h) := by
  refine zl_tr (r_iload d_121_8 rfl) ?_
  refine zl_tr (r_iload_n d_121_10 rfl) ?_
  refine zl_tr (r_icmp_ge (tgt := 106) d_121_11 (by decide)) (zl_if ?_ ?_)
  · skip
    refine zl_tr (r_aload_n d_121_14 rfl) ?_
    refine zl_tr (r_iload d_121_15 rfl) ?_
    refine zl_tr (r_iaload d_121_17 ha1) (zl_ck ?_)
    refine zl_tr (r_istore (loc' := [zm_A 141, zm_A a1, w2, zm_I x3, zm_A 143, zm_I x5, zm_I (h a1 x5), w7, w8]) d_121_18 (Nat.le_of_ble_eq_true rfl) rfl) ?_
    refine zl_tr (r_iload d_121_20 rfl) ?_
    refine zl_tr (r_if_lt (tgt := 34) d_121_22 (by decide)) (zl_if ?_ ?_)
    · skip
      refine zl_tr (r_iload d_121_34 rfl) ?_
      refine zl_tr (r_bipush d_121_36 (by decide)) ?_
      refine zl_tr (r_icmp_lt (tgt := 55) d_121_38 (by decide)) (zl_if ?_ ?_)
      · skip
        refine zl_tr (r_iload d_121_55 rfl) ?_
        refine zl_tr (r_bipush d_121_57 (by decide)) ?_
        refine zl_tr (r_icmp_ne (tgt := 75) d_121_59 (by decide)) (zl_if ?_ ?_)
        · skip
          refine zl_tr (r_aload_n d_121_62 rfl) ?_
          refine zl_tr (r_iconst d_121_63 (by decide)) ?_
          refine zl_tr (r_aload_n d_121_64 rfl) ?_
          refine zl_tr (r_VI [zm_A 141] d_121_65 ow_121 cal_7_23 na_123 rfl rfl (Nat.le_of_ble_eq_true rfl) (by rw [rk_123]; decide) (zr_rcv la_141 ow_123) (zr_im mx_123 rfl (Nat.le_of_ble_eq_true rfl)) (by rw [rt_123]; decide)) (zl_I (fun v1 h2 => ?_))
          refine zl_tr (r_isub d_121_68) (zl_ck ?_)
          refine zl_tr (r_VV [zm_A 141, zm_I (1 - v1)] d_121_69 ow_121 cal_7_19 na_122 rfl rfl (Nat.le_of_ble_eq_true rfl) (by rw [rk_122]; decide) (zr_rcv la_141 ow_122) (zr_im mx_122 rfl (Nat.le_of_ble_eq_true rfl)) rt_122) (zl_V (fun h3 => ?_))
          refine zl_tr (r_goto (tgt := 100) d_121_72 (by decide)) ?_
          refine zl_tr (r_iinc (loc' := [zm_A 141, zm_A a1, w2, zm_I x3, zm_A 143, zm_I (x5 + 1), zm_I (h a1 x5), w7, w8]) d_121_100 rfl (Nat.le_of_ble_eq_true rfl) rfl) (zl_ck ?_)
          refine zl_tr (r_goto (tgt := 8) d_121_103 (by decide)) ?_
          exact zl_rf
        · skip
          refine zl_tr (r_aload_n d_121_75 rfl) ?_
          refine zl_tr (r_VI [zm_A 141] d_121_76 ow_121 cal_7_23 na_123 rfl rfl (Nat.le_of_ble_eq_true rfl) (by rw [rk_123]; decide) (zr_rcv la_141 ow_123) (zr_im mx_123 rfl (Nat.le_of_ble_eq_true rfl)) (by rw [rt_123]; decide)) (zl_I (fun v4 h5 => ?_))
          refine zl_tr (r_istore (loc' := [zm_A 141, zm_A a1, w2, zm_I x3, zm_A 143, zm_I x5, zm_I (h a1 x5), zm_I v4, w8]) d_121_79 (Nat.le_of_ble_eq_true rfl) rfl) ?_
          refine zl_tr (r_aload_n d_121_81 rfl) ?_
          refine zl_tr (r_VI [zm_A 141] d_121_82 ow_121 cal_7_23 na_123 rfl rfl (Nat.le_of_ble_eq_true rfl) (by rw [rk_123]; decide) (zr_rcv la_141 ow_123) (zr_im mx_123 rfl (Nat.le_of_ble_eq_true rfl)) (by rw [rt_123]; decide)) (zl_I (fun v6 h7 => ?_))
          refine zl_tr (r_istore (loc' := [zm_A 141, zm_A a1, w2, zm_I x3, zm_A 143, zm_I x5, zm_I (h a1 x5), zm_I v4, zm_I v6]) d_121_85 (Nat.le_of_ble_eq_true rfl) rfl) ?_
          refine zl_tr (r_aload_n d_121_87 rfl) ?_
          refine zl_tr (r_iload d_121_88 rfl) ?_
          refine zl_tr (r_iload d_121_90 rfl) ?_
          refine zl_tr (r_iload d_121_92 rfl) ?_
          refine zl_tr (r_SI [zm_I (h a1 x5), zm_I v6, zm_I v4] d_121_94 ow_121 cal_7_27 (by decide) na_124 rfl rfl (Nat.le_of_ble_eq_true rfl) (by rw [rk_124]; decide) (zr_im mx_124 rfl (Nat.le_of_ble_eq_true rfl)) (by rw [rt_124]; decide)) (zl_I (fun v8 h9 => ?_))
          refine zl_tr (r_VV [zm_A 141, zm_I v8] d_121_97 ow_121 cal_7_19 na_122 rfl rfl (Nat.le_of_ble_eq_true rfl) (by rw [rk_122]; decide) (zr_rcv la_141 ow_122) (zr_im mx_122 rfl (Nat.le_of_ble_eq_true rfl)) rt_122) (zl_V (fun h10 => ?_))
          refine zl_tr (r_iinc (loc' := [zm_A 141, zm_A a1, w2, zm_I x3, zm_A 143, zm_I (x5 + 1), zm_I (h a1 x5), zm_I v4, zm_I v6]) d_121_100 rfl (Nat.le_of_ble_eq_true rfl) rfl) (zl_ck ?_)
          refine zl_tr (r_goto (tgt := 8) d_121_103 (by decide)) ?_
          exact zl_rf
      · skip
        refine zl_tr (r_aload_n d_121_41 rfl) ?_
        refine zl_tr (r_aload d_121_42 rfl) ?_
        refine zl_tr (r_iconst d_121_44 (by decide)) ?_
        refine zl_tr (r_iload d_121_45 rfl) ?_
        refine zl_tr (r_isub d_121_47) (zl_ck ?_)
        refine zl_tr (r_iaload d_121_48 la_143) (zl_ck ?_)
        refine zl_tr (r_VV [zm_A 141, zm_I (h 143 ((-1) - (h a1 x5)))] d_121_49 ow_121 cal_7_19 na_122 rfl rfl (Nat.le_of_ble_eq_true rfl) (by rw [rk_122]; decide) (zr_rcv la_141 ow_122) (zr_im mx_122 rfl (Nat.le_of_ble_eq_true rfl)) rt_122) (zl_V (fun h11 => ?_))
        refine zl_tr (r_goto (tgt := 100) d_121_52 (by decide)) ?_
        refine zl_tr (r_iinc (loc' := [zm_A 141, zm_A a1, w2, zm_I x3, zm_A 143, zm_I (x5 + 1), zm_I (h a1 x5), w7, w8]) d_121_100 rfl (Nat.le_of_ble_eq_true rfl) rfl) (zl_ck ?_)
        refine zl_tr (r_goto (tgt := 8) d_121_103 (by decide)) ?_
        exact zl_rf
    · skip
      refine zl_tr (r_aload_n d_121_25 rfl) ?_
      refine zl_tr (r_iload d_121_26 rfl) ?_
      refine zl_tr (r_VV [zm_A 141, zm_I (h a1 x5)] d_121_28 ow_121 cal_7_19 na_122 rfl rfl (Nat.le_of_ble_eq_true rfl) (by rw [rk_122]; decide) (zr_rcv la_141 ow_122) (zr_im mx_122 rfl (Nat.le_of_ble_eq_true rfl)) rt_122) (zl_V (fun h12 => ?_))
      refine zl_tr (r_goto (tgt := 100) d_121_31 (by decide)) ?_
      refine zl_tr (r_iinc (loc' := [zm_A 141, zm_A a1, w2, zm_I x3, zm_A 143, zm_I (x5 + 1), zm_I (h a1 x5), w7, w8]) d_121_100 rfl (Nat.le_of_ble_eq_true rfl) rfl) (zl_ck ?_)
      refine zl_tr (r_goto (tgt := 8) d_121_103 (by decide)) ?_
      exact zl_rf
  · skip
    refine zl_tr (r_aload_n d_121_106 rfl) ?_
    refine zl_tr (r_VI [zm_A 141] d_121_107 ow_121 cal_7_23 na_123 rfl rfl (Nat.le_of_ble_eq_true rfl) (by rw [rk_123]; decide) (zr_rcv la_141 ow_123) (zr_im mx_123 rfl (Nat.le_of_ble_eq_true rfl)) (by rw [rt_123]; decide)) (zl_I (fun v13 h14 => ?_))
    exact r_iret d_121_110 rt_121
-- BranTub$Reckoner.push
set_option maxRecDepth 20000 in
theorem e_122 {h : zm_H} {x1 : Int} : zl (if (h 141 1) < 64 then (zm_ck (zm_i32 ((h 141 1) + 1)) (zm_ck (0 ≤ (h 141 1) ∧ (h 141 1) < ((64 : Nat) : Int)) (some (zm_U, (zm_wr (zm_wr h 141 1 ((h 141 1) + 1)) 142 (h 141 1) x1))))) else (some (zm_U, h))) (zc 122 [zm_A 141, zm_I x1] h) := by
  rw [zc_eq (loc := [zm_A 141, zm_I x1]) (rk_122 _) rfl]
  refine zl_tr (r_aload_n d_122_0 rfl) ?_
  refine zl_tr (r_getI (kk := 1) d_122_1 ow_122 f_7_15 la_141 (by decide) rfl) ?_
  refine zl_tr (r_bipush d_122_4 (by decide)) ?_
  refine zl_tr (r_icmp_ge (tgt := 26) d_122_6 (by decide)) (zl_if ?_ ?_)
  · skip
    refine zl_tr (r_aload_n d_122_9 rfl) ?_
    refine zl_tr (r_getR d_122_10 ow_122 f_7_11 la_141 (by decide) fr_141_0) ?_
    refine zl_tr (r_aload_n d_122_13 rfl) ?_
    refine zl_tr (r_dup d_122_14 rfl) ?_
    refine zl_tr (r_getI (kk := 1) d_122_15 ow_122 f_7_15 la_141 (by decide) rfl) ?_
    refine zl_tr (r_dup_x1 d_122_18 ⟨rfl, rfl⟩) ?_
    refine zl_tr (r_iconst d_122_19 (by decide)) ?_
    refine zl_tr (r_iadd d_122_20) (zl_ck ?_)
    refine zl_tr (r_putI (kk := 1) d_122_21 ow_122 f_7_15 la_141 (by decide) rfl) ?_
    refine zl_tr (r_iload_n d_122_24 rfl) ?_
    refine zl_tr (r_iastore d_122_25 la_142) (zl_ck ?_)
    exact r_vret d_122_26 rt_122
  · skip
    exact r_vret d_122_26 rt_122
-- BranTub$Reckoner.pop
set_option maxRecDepth 20000 in
theorem e_123 {h : zm_H}  : zl (if (h 141 1) ≤ 0 then (some (zm_I 0, h)) else (zm_ck (zm_i32 ((h 141 1) - 1)) (zm_ck (0 ≤ ((h 141 1) - 1) ∧ ((h 141 1) - 1) < ((64 : Nat) : Int)) (some (zm_I ((zm_wr h 141 1 ((h 141 1) - 1)) 142 ((h 141 1) - 1)), (zm_wr h 141 1 ((h 141 1) - 1))))))) (zc 123 [zm_A 141] h) := by
  rw [zc_eq (loc := [zm_A 141]) (rk_123 _) rfl]
  refine zl_tr (r_aload_n d_123_0 rfl) ?_
  refine zl_tr (r_getI (kk := 1) d_123_1 ow_123 f_7_15 la_141 (by decide) rfl) ?_
  refine zl_tr (r_if_le (tgt := 26) d_123_4 (by decide)) (zl_if ?_ ?_)
  · skip
    refine zl_tr (r_iconst d_123_26 (by decide)) ?_
    exact r_iret d_123_27 rt_123
  · skip
    refine zl_tr (r_aload_n d_123_7 rfl) ?_
    refine zl_tr (r_getR d_123_8 ow_123 f_7_11 la_141 (by decide) fr_141_0) ?_
    refine zl_tr (r_aload_n d_123_11 rfl) ?_
    refine zl_tr (r_dup d_123_12 rfl) ?_
    refine zl_tr (r_getI (kk := 1) d_123_13 ow_123 f_7_15 la_141 (by decide) rfl) ?_
    refine zl_tr (r_iconst d_123_16 (by decide)) ?_
    refine zl_tr (r_isub d_123_17) (zl_ck ?_)
    refine zl_tr (r_dup_x1 d_123_18 ⟨rfl, rfl⟩) ?_
    refine zl_tr (r_putI (kk := 1) d_123_19 ow_123 f_7_15 la_141 (by decide) rfl) ?_
    refine zl_tr (r_iaload d_123_22 la_142) (zl_ck ?_)
    refine zl_tr (r_goto (tgt := 27) d_123_23 (by decide)) ?_
    exact r_iret d_123_27 rt_123
-- BranTub$Reckoner.resultOf
set_option maxRecDepth 20000 in
theorem e_124 {h : zm_H} {x1 : Int} {x2 : Int} {x3 : Int} : zl (if x1 = -23 then (some (zm_I (zb_ior x2 x3), h)) else (if x1 = -22 then (some (zm_I (zb_iand x2 x3), h)) else (if x1 = -21 then (some (zm_I 0, h)) else (if x1 = -20 then (if x2 = x3 then (some (zm_I 1, h)) else (some (zm_I 0, h))) else (if x1 = -19 then (if x2 ≤ x3 then (some (zm_I 0, h)) else (some (zm_I 1, h))) else (if x1 = -18 then (if x2 < x3 then (some (zm_I 1, h)) else (some (zm_I 0, h))) else (if x1 = -17 then (some (zm_I (max x2 x3), h)) else (if x1 = -16 then (some (zm_I (min x2 x3), h)) else (if x1 = -15 then (if x3 = 0 then (some (zm_I 0, h)) else (zm_ck ((x3 : Int) ≠ 0 ∧ -1000000000 ≤ x2 ∧ x2 ≤ 1000000000) (some (zm_I (x2.fmod x3), h)))) else (if x1 = -14 then (if x3 = 0 then (some (zm_I 0, h)) else (zm_ck ((x3 : Int) ≠ 0 ∧ -1000000000 ≤ x2 ∧ x2 ≤ 1000000000) (some (zm_I (x2.fdiv x3), h)))) else (if x1 = -13 then (zm_ck (zm_i64 (x2 * x3)) (zk_I (zc 125 [zm_L (x2 * x3)] h) (fun v1 h2 => some (zm_I v1, h2)))) else (if x1 = -12 then (zm_ck (zm_i64 (x2 - x3)) (zk_I (zc 125 [zm_L (x2 - x3)] h) (fun v3 h4 => some (zm_I v3, h4)))) else (if x1 = -11 then (zm_ck (zm_i64 (x2 + x3)) (zk_I (zc 125 [zm_L (x2 + x3)] h) (fun v5 h6 => some (zm_I v5, h6)))) else (some (zm_I 0, h))))))))))))))) (zc 124 [zm_I x1, zm_I x2, zm_I x3] h) := by
  rw [zc_eq (loc := [zm_I x1, zm_I x2, zm_I x3]) (rk_124 _) rfl]
  refine zl_tr (r_iload_n d_124_0 rfl) ?_
  refine zl_eq (-23) (fun hx => ?_) (fun hx923 => ?_)
  · refine zl_tr (r_tsw (tgt := 172) d_124_1 (by rw [hx]; decide) (by decide)) ?_
    refine zl_tr (r_iload_n d_124_172 rfl) ?_
    refine zl_tr (r_iload_n d_124_173 rfl) ?_
    refine zl_tr (r_ior d_124_174) ?_
    exact r_iret d_124_175 rt_124
  refine zl_eq (-22) (fun hx => ?_) (fun hx922 => ?_)
  · refine zl_tr (r_tsw (tgt := 168) d_124_1 (by rw [hx]; decide) (by decide)) ?_
    refine zl_tr (r_iload_n d_124_168 rfl) ?_
    refine zl_tr (r_iload_n d_124_169 rfl) ?_
    refine zl_tr (r_iand d_124_170) ?_
    exact r_iret d_124_171 rt_124
  refine zl_eq (-21) (fun hx => ?_) (fun hx921 => ?_)
  · refine zl_tr (r_tsw (tgt := 176) d_124_1 (by rw [hx]; decide) (by decide)) ?_
    refine zl_tr (r_iconst d_124_176 (by decide)) ?_
    exact r_iret d_124_177 rt_124
  refine zl_eq (-20) (fun hx => ?_) (fun hx920 => ?_)
  · refine zl_tr (r_tsw (tgt := 157) d_124_1 (by rw [hx]; decide) (by decide)) ?_
    refine zl_tr (r_iload_n d_124_157 rfl) ?_
    refine zl_tr (r_iload_n d_124_158 rfl) ?_
    refine zl_tr (r_icmp_ne (tgt := 166) d_124_159 (by decide)) (zl_if ?_ ?_)
    · skip
      refine zl_tr (r_iconst d_124_162 (by decide)) ?_
      refine zl_tr (r_goto (tgt := 167) d_124_163 (by decide)) ?_
      exact r_iret d_124_167 rt_124
    · skip
      refine zl_tr (r_iconst d_124_166 (by decide)) ?_
      exact r_iret d_124_167 rt_124
  refine zl_eq (-19) (fun hx => ?_) (fun hx919 => ?_)
  · refine zl_tr (r_tsw (tgt := 146) d_124_1 (by rw [hx]; decide) (by decide)) ?_
    refine zl_tr (r_iload_n d_124_146 rfl) ?_
    refine zl_tr (r_iload_n d_124_147 rfl) ?_
    refine zl_tr (r_icmp_le (tgt := 155) d_124_148 (by decide)) (zl_if ?_ ?_)
    · skip
      refine zl_tr (r_iconst d_124_155 (by decide)) ?_
      exact r_iret d_124_156 rt_124
    · skip
      refine zl_tr (r_iconst d_124_151 (by decide)) ?_
      refine zl_tr (r_goto (tgt := 156) d_124_152 (by decide)) ?_
      exact r_iret d_124_156 rt_124
  refine zl_eq (-18) (fun hx => ?_) (fun hx918 => ?_)
  · refine zl_tr (r_tsw (tgt := 135) d_124_1 (by rw [hx]; decide) (by decide)) ?_
    refine zl_tr (r_iload_n d_124_135 rfl) ?_
    refine zl_tr (r_iload_n d_124_136 rfl) ?_
    refine zl_tr (r_icmp_ge (tgt := 144) d_124_137 (by decide)) (zl_if ?_ ?_)
    · skip
      refine zl_tr (r_iconst d_124_140 (by decide)) ?_
      refine zl_tr (r_goto (tgt := 145) d_124_141 (by decide)) ?_
      exact r_iret d_124_145 rt_124
    · skip
      refine zl_tr (r_iconst d_124_144 (by decide)) ?_
      exact r_iret d_124_145 rt_124
  refine zl_eq (-17) (fun hx => ?_) (fun hx917 => ?_)
  · refine zl_tr (r_tsw (tgt := 129) d_124_1 (by rw [hx]; decide) (by decide)) ?_
    refine zl_tr (r_iload_n d_124_129 rfl) ?_
    refine zl_tr (r_iload_n d_124_130 rfl) ?_
    refine zl_tr (r_mmax d_124_131 ow_124 cal_7_47 (Nat.le_of_ble_eq_true rfl) (by decide)) ?_
    exact r_iret d_124_134 rt_124
  refine zl_eq (-16) (fun hx => ?_) (fun hx916 => ?_)
  · refine zl_tr (r_tsw (tgt := 123) d_124_1 (by rw [hx]; decide) (by decide)) ?_
    refine zl_tr (r_iload_n d_124_123 rfl) ?_
    refine zl_tr (r_iload_n d_124_124 rfl) ?_
    refine zl_tr (r_mmin d_124_125 ow_124 cal_7_44 (Nat.le_of_ble_eq_true rfl) (by decide)) ?_
    exact r_iret d_124_128 rt_124
  refine zl_eq (-15) (fun hx => ?_) (fun hx915 => ?_)
  · refine zl_tr (r_tsw (tgt := 109) d_124_1 (by rw [hx]; decide) (by decide)) ?_
    refine zl_tr (r_iload_n d_124_109 rfl) ?_
    refine zl_tr (r_if_ne (tgt := 117) d_124_110 (by decide)) (zl_if ?_ ?_)
    · skip
      refine zl_tr (r_iconst d_124_113 (by decide)) ?_
      refine zl_tr (r_goto (tgt := 122) d_124_114 (by decide)) ?_
      exact r_iret d_124_122 rt_124
    · skip
      refine zl_tr (r_iload_n d_124_117 rfl) ?_
      refine zl_tr (r_iload_n d_124_118 rfl) ?_
      refine zl_tr (r_fmod d_124_119 ow_124 cal_7_41 (Nat.le_of_ble_eq_true rfl) (by decide)) (zl_ck ?_)
      exact r_iret d_124_122 rt_124
  refine zl_eq (-14) (fun hx => ?_) (fun hx914 => ?_)
  · refine zl_tr (r_tsw (tgt := 95) d_124_1 (by rw [hx]; decide) (by decide)) ?_
    refine zl_tr (r_iload_n d_124_95 rfl) ?_
    refine zl_tr (r_if_ne (tgt := 103) d_124_96 (by decide)) (zl_if ?_ ?_)
    · skip
      refine zl_tr (r_iconst d_124_99 (by decide)) ?_
      refine zl_tr (r_goto (tgt := 108) d_124_100 (by decide)) ?_
      exact r_iret d_124_108 rt_124
    · skip
      refine zl_tr (r_iload_n d_124_103 rfl) ?_
      refine zl_tr (r_iload_n d_124_104 rfl) ?_
      refine zl_tr (r_fdiv d_124_105 ow_124 cal_7_35 (Nat.le_of_ble_eq_true rfl) (by decide)) (zl_ck ?_)
      exact r_iret d_124_108 rt_124
  refine zl_eq (-13) (fun hx => ?_) (fun hx913 => ?_)
  · refine zl_tr (r_tsw (tgt := 86) d_124_1 (by rw [hx]; decide) (by decide)) ?_
    refine zl_tr (r_iload_n d_124_86 rfl) ?_
    refine zl_tr (r_i2l d_124_87) ?_
    refine zl_tr (r_iload_n d_124_88 rfl) ?_
    refine zl_tr (r_i2l d_124_89) ?_
    refine zl_tr (r_lmul d_124_90) (zl_ck ?_)
    refine zl_tr (r_SI [zm_L (x2 * x3)] d_124_91 ow_124 cal_7_31 (by decide) na_125 rfl rfl (Nat.le_of_ble_eq_true rfl) (by rw [rk_125]; decide) (zr_im mx_125 rfl (Nat.le_of_ble_eq_true rfl)) (by rw [rt_125]; decide)) (zl_I (fun v1 h2 => ?_))
    exact r_iret d_124_94 rt_124
  refine zl_eq (-12) (fun hx => ?_) (fun hx912 => ?_)
  · refine zl_tr (r_tsw (tgt := 77) d_124_1 (by rw [hx]; decide) (by decide)) ?_
    refine zl_tr (r_iload_n d_124_77 rfl) ?_
    refine zl_tr (r_i2l d_124_78) ?_
    refine zl_tr (r_iload_n d_124_79 rfl) ?_
    refine zl_tr (r_i2l d_124_80) ?_
    refine zl_tr (r_lsub d_124_81) (zl_ck ?_)
    refine zl_tr (r_SI [zm_L (x2 - x3)] d_124_82 ow_124 cal_7_31 (by decide) na_125 rfl rfl (Nat.le_of_ble_eq_true rfl) (by rw [rk_125]; decide) (zr_im mx_125 rfl (Nat.le_of_ble_eq_true rfl)) (by rw [rt_125]; decide)) (zl_I (fun v3 h4 => ?_))
    exact r_iret d_124_85 rt_124
  refine zl_eq (-11) (fun hx => ?_) (fun hx911 => ?_)
  · refine zl_tr (r_tsw (tgt := 68) d_124_1 (by rw [hx]; decide) (by decide)) ?_
    refine zl_tr (r_iload_n d_124_68 rfl) ?_
    refine zl_tr (r_i2l d_124_69) ?_
    refine zl_tr (r_iload_n d_124_70 rfl) ?_
    refine zl_tr (r_i2l d_124_71) ?_
    refine zl_tr (r_ladd d_124_72) (zl_ck ?_)
    refine zl_tr (r_SI [zm_L (x2 + x3)] d_124_73 ow_124 cal_7_31 (by decide) na_125 rfl rfl (Nat.le_of_ble_eq_true rfl) (by rw [rk_125]; decide) (zr_im mx_125 rfl (Nat.le_of_ble_eq_true rfl)) (by rw [rt_125]; decide)) (zl_I (fun v5 h6 => ?_))
    exact r_iret d_124_76 rt_124
  refine zl_tr (r_tsw (tgt := 176) d_124_1 (by rw [if_pos (by omega)]; decide) (by decide)) ?_
  refine zl_tr (r_iconst d_124_176 (by decide)) ?_
  exact r_iret d_124_177 rt_124
-- BranTub$Reckoner.limited
set_option maxRecDepth 20000 in
theorem e_125 {h : zm_H} {x1 : Int} : zl (zm_ck (zm_i32 (max (-1000000) (min 1000000 x1))) (some (zm_I (max (-1000000) (min 1000000 x1)), h))) (zc 125 [zm_L x1] h) := by
  rw [zc_eq (loc := [zm_L x1, zm_U]) (rk_125 _) rfl]
  refine zl_tr (r_ldc2 d_125_0 ow_125 lng_7_50) ?_
  refine zl_tr (r_ldc2 d_125_3 ow_125 lng_7_52) ?_
  refine zl_tr (r_lload_n d_125_6 rfl) ?_
  refine zl_tr (r_mminl d_125_7 ow_125 cal_7_54 (Nat.le_of_ble_eq_true rfl) (by decide)) ?_
  refine zl_tr (r_mmaxl d_125_10 ow_125 cal_7_57 (Nat.le_of_ble_eq_true rfl) (by decide)) ?_
  refine zl_tr (r_l2i d_125_13) (zl_ck ?_)
  exact r_iret d_125_14 rt_125
-- BranTub$Rings.go
set_option maxRecDepth 20000 in
theorem e_127 {h : zm_H} {o : Nat} (ho : zf_T o) {t : Nat} (ht : zf_F t) : zl (zr none 3 127 2 [zm_A 135, zm_A t, zm_A o, zm_I 0, zm_U] [] h) (zc 127 [zm_A 135, zm_A t, zm_A o] h) := by
  rw [zc_eq (loc := [zm_A 135, zm_A t, zm_A o, zm_U, zm_U]) (rk_127 _) rfl]
  refine zl_tr (r_iconst d_127_0 (by decide)) ?_
  refine zl_tr (r_istore_n (loc' := [zm_A 135, zm_A t, zm_A o, zm_I 0, zm_U]) d_127_1 (Nat.le_of_ble_eq_true rfl) rfl) ?_
  exact zl_rf
-- BranTub$Rings.go, from 2
set_option maxRecDepth 20000 in
theorem e_127_2 {h : zm_H} {x3 : Int} {w4 : zm_V} {o : Nat} (ho : zf_T o) {t : Nat} (ht : zf_F t) : zl (if x3 < (h t 3) then (zk_I (zc 128 [zm_A t, zm_A o, zm_I x3] h) (fun v1 h2 => zm_ck (0 ≤ x3 ∧ x3 < ((8 : Nat) : Int)) (zm_ck (0 ≤ x3 ∧ x3 < ((8 : Nat) : Int)) (if ((zm_wr h2 136 x3 v1) 136 x3) = (-1) then (zm_ck (0 ≤ x3 ∧ x3 < ((8 : Nat) : Int)) (zm_ck (zm_i32 (x3 + 1)) (zr none 3 127 2 [zm_A 135, zm_A t, zm_A o, zm_I (x3 + 1), w4] [] (zm_wr (zm_wr h2 136 x3 v1) 138 x3 (-1))))) else (zm_ck (0 ≤ x3 ∧ x3 < ((8 : Nat) : Int)) (zm_ck (zm_i32 (x3 + 1)) (zr none 3 127 2 [zm_A 135, zm_A t, zm_A o, zm_I (x3 + 1), w4] [] (zm_wr (zm_wr h2 136 x3 v1) 138 x3 0)))))))) else (zr none 3 127 51 [zm_A 135, zm_A t, zm_A o, zm_I 1, w4] [] h)) (zr none 3 127 2 [zm_A 135, zm_A t, zm_A o, zm_I x3, w4] [] h) := by
  refine zl_tr (r_iload_n d_127_2 rfl) ?_
  refine zl_tr (r_aload_n d_127_3 rfl) ?_
  refine zl_tr (r_getI (kk := 3) d_127_4 ow_127 f_8_21 (zf_o ht) (by decide) rfl) ?_
  refine zl_tr (r_icmp_ge (tgt := 49) d_127_7 (by decide)) (zl_if ?_ ?_)
  · skip
    refine zl_tr (r_aload_n d_127_10 rfl) ?_
    refine zl_tr (r_getR d_127_11 ow_127 f_8_9 la_135 (by decide) fr_135_0) ?_
    refine zl_tr (r_iload_n d_127_14 rfl) ?_
    refine zl_tr (r_aload_n d_127_15 rfl) ?_
    refine zl_tr (r_aload_n d_127_16 rfl) ?_
    refine zl_tr (r_iload_n d_127_17 rfl) ?_
    refine zl_tr (r_SI [zm_A t, zm_A o, zm_I x3] d_127_18 ow_127 cal_8_27 (by decide) na_128 rfl rfl (Nat.le_of_ble_eq_true rfl) (by rw [rk_128]; decide) (zr_im mx_128 rfl (Nat.le_of_ble_eq_true rfl)) (by rw [rt_128]; decide)) (zl_I (fun v1 h2 => ?_))
    refine zl_tr (r_iastore d_127_21 la_136) (zl_ck ?_)
    refine zl_tr (r_aload_n d_127_22 rfl) ?_
    refine zl_tr (r_getR d_127_23 ow_127 f_8_18 la_135 (by decide) fr_135_2) ?_
    refine zl_tr (r_iload_n d_127_26 rfl) ?_
    refine zl_tr (r_aload_n d_127_27 rfl) ?_
    refine zl_tr (r_getR d_127_28 ow_127 f_8_9 la_135 (by decide) fr_135_0) ?_
    refine zl_tr (r_iload_n d_127_31 rfl) ?_
    refine zl_tr (r_iaload d_127_32 la_136) (zl_ck ?_)
    refine zl_tr (r_iconst d_127_33 (by decide)) ?_
    refine zl_tr (r_icmp_ne (tgt := 41) d_127_34 (by decide)) (zl_if ?_ ?_)
    · skip
      refine zl_tr (r_iconst d_127_37 (by decide)) ?_
      refine zl_tr (r_goto (tgt := 42) d_127_38 (by decide)) ?_
      refine zl_tr (r_iastore d_127_42 la_138) (zl_ck ?_)
      refine zl_tr (r_iinc (loc' := [zm_A 135, zm_A t, zm_A o, zm_I (x3 + 1), w4]) d_127_43 rfl (Nat.le_of_ble_eq_true rfl) rfl) (zl_ck ?_)
      refine zl_tr (r_goto (tgt := 2) d_127_46 (by decide)) ?_
      exact zl_rf
    · skip
      refine zl_tr (r_iconst d_127_41 (by decide)) ?_
      refine zl_tr (r_iastore d_127_42 la_138) (zl_ck ?_)
      refine zl_tr (r_iinc (loc' := [zm_A 135, zm_A t, zm_A o, zm_I (x3 + 1), w4]) d_127_43 rfl (Nat.le_of_ble_eq_true rfl) rfl) (zl_ck ?_)
      refine zl_tr (r_goto (tgt := 2) d_127_46 (by decide)) ?_
      exact zl_rf
  · skip
    refine zl_tr (r_iconst d_127_49 (by decide)) ?_
    refine zl_tr (r_istore_n (loc' := [zm_A 135, zm_A t, zm_A o, zm_I 1, w4]) d_127_50 (Nat.le_of_ble_eq_true rfl) rfl) ?_
    exact zl_rf
-- BranTub$Rings.go, from 51
set_option maxRecDepth 20000 in
theorem e_127_51 {h : zm_H} {w2 : zm_V} {x3 : Int} {w4 : zm_V} {t : Nat} (ht : zf_F t) : zl (if (h t 3) < x3 then (some (zm_U, h)) else (zr none 3 127 62 [zm_A 135, zm_A t, w2, zm_I x3, zm_I 0] [] h)) (zr none 3 127 51 [zm_A 135, zm_A t, w2, zm_I x3, w4] [] h) := by
  refine zl_tr (r_iload_n d_127_51 rfl) ?_
  refine zl_tr (r_aload_n d_127_52 rfl) ?_
  refine zl_tr (r_getI (kk := 3) d_127_53 ow_127 f_8_21 (zf_o ht) (by decide) rfl) ?_
  refine zl_tr (r_icmp_gt (tgt := 156) d_127_56 (by decide)) (zl_if ?_ ?_)
  · skip
    exact r_vret d_127_156 rt_127
  · skip
    refine zl_tr (r_iconst d_127_59 (by decide)) ?_
    refine zl_tr (r_istore (loc' := [zm_A 135, zm_A t, w2, zm_I x3, zm_I 0]) d_127_60 (Nat.le_of_ble_eq_true rfl) rfl) ?_
    exact zl_rf
-- BranTub$Rings.go, from 62
set_option maxRecDepth 20000 in
theorem e_127_62 {h : zm_H} {w2 : zm_V} {x3 : Int} {x4 : Int} {t : Nat} (ht : zf_F t) : zl (if x4 < (h t 3) then (zm_ck (0 ≤ x4 ∧ x4 < ((8 : Nat) : Int)) (if (h 138 x4) = 0 then (zk_I (zc 129 [zm_A 135, zm_A t, zm_I x4] h) (fun v1 h2 => zm_ck (0 ≤ x4 ∧ x4 < ((8 : Nat) : Int)) (zm_ck (zm_i32 (x4 + 1)) (zr none 3 127 62 [zm_A 135, zm_A t, w2, zm_I x3, zm_I (x4 + 1)] [] (zm_wr h2 137 x4 v1))))) else (zm_ck (zm_i32 (x4 + 1)) (zr none 3 127 62 [zm_A 135, zm_A t, w2, zm_I x3, zm_I (x4 + 1)] [] h)))) else (zr none 3 127 104 [zm_A 135, zm_A t, w2, zm_I x3, zm_I 0] [] h)) (zr none 3 127 62 [zm_A 135, zm_A t, w2, zm_I x3, zm_I x4] [] h) := by
  refine zl_tr (r_iload d_127_62 rfl) ?_
  refine zl_tr (r_aload_n d_127_64 rfl) ?_
  refine zl_tr (r_getI (kk := 3) d_127_65 ow_127 f_8_21 (zf_o ht) (by decide) rfl) ?_
  refine zl_tr (r_icmp_ge (tgt := 101) d_127_68 (by decide)) (zl_if ?_ ?_)
  · skip
    refine zl_tr (r_aload_n d_127_71 rfl) ?_
    refine zl_tr (r_getR d_127_72 ow_127 f_8_18 la_135 (by decide) fr_135_2) ?_
    refine zl_tr (r_iload d_127_75 rfl) ?_
    refine zl_tr (r_iaload d_127_77 la_138) (zl_ck ?_)
    refine zl_tr (r_if_ne (tgt := 95) d_127_78 (by decide)) (zl_if ?_ ?_)
    · skip
      refine zl_tr (r_aload_n d_127_81 rfl) ?_
      refine zl_tr (r_getR d_127_82 ow_127 f_8_15 la_135 (by decide) fr_135_1) ?_
      refine zl_tr (r_iload d_127_85 rfl) ?_
      refine zl_tr (r_aload_n d_127_87 rfl) ?_
      refine zl_tr (r_aload_n d_127_88 rfl) ?_
      refine zl_tr (r_iload d_127_89 rfl) ?_
      refine zl_tr (r_VI [zm_A 135, zm_A t, zm_I x4] d_127_91 ow_127 cal_8_31 na_129 rfl rfl (Nat.le_of_ble_eq_true rfl) (by rw [rk_129]; decide) (zr_rcv la_135 ow_129) (zr_im mx_129 rfl (Nat.le_of_ble_eq_true rfl)) (by rw [rt_129]; decide)) (zl_I (fun v1 h2 => ?_))
      refine zl_tr (r_iastore d_127_94 la_137) (zl_ck ?_)
      refine zl_tr (r_iinc (loc' := [zm_A 135, zm_A t, w2, zm_I x3, zm_I (x4 + 1)]) d_127_95 rfl (Nat.le_of_ble_eq_true rfl) rfl) (zl_ck ?_)
      refine zl_tr (r_goto (tgt := 62) d_127_98 (by decide)) ?_
      exact zl_rf
    · skip
      refine zl_tr (r_iinc (loc' := [zm_A 135, zm_A t, w2, zm_I x3, zm_I (x4 + 1)]) d_127_95 rfl (Nat.le_of_ble_eq_true rfl) rfl) (zl_ck ?_)
      refine zl_tr (r_goto (tgt := 62) d_127_98 (by decide)) ?_
      exact zl_rf
  · skip
    refine zl_tr (r_iconst d_127_101 (by decide)) ?_
    refine zl_tr (r_istore (loc' := [zm_A 135, zm_A t, w2, zm_I x3, zm_I 0]) d_127_102 (Nat.le_of_ble_eq_true rfl) rfl) ?_
    exact zl_rf
-- BranTub$Rings.go, from 104
set_option maxRecDepth 20000 in
theorem e_127_104 {h : zm_H} {w2 : zm_V} {x3 : Int} {x4 : Int} {t : Nat} (ht : zf_F t) (hw2 : zm_cat w2 ≠ 2) : zl (if x4 < (h t 3) then (zm_ck (0 ≤ x4 ∧ x4 < ((8 : Nat) : Int)) (if (h 138 x4) = 0 then (zk_I (zc 130 [zm_A 135, zm_I x4, zm_I (h t 3)] h) (fun v1 h2 => if v1 = 0 then (zm_ck (zm_i32 (x4 + 1)) (zr none 3 127 104 [zm_A 135, zm_A t, w2, zm_I x3, zm_I (x4 + 1)] [] h2)) else (zm_ck (0 ≤ x4 ∧ x4 < ((8 : Nat) : Int)) (zm_ck (zm_i32 (x4 + 1)) (zr none 3 127 104 [zm_A 135, zm_A t, w2, zm_I x3, zm_I (x4 + 1)] [] (zm_wr h2 138 x4 x3)))))) else (zm_ck (zm_i32 (x4 + 1)) (zr none 3 127 104 [zm_A 135, zm_A t, w2, zm_I x3, zm_I (x4 + 1)] [] h)))) else (zm_ck (zm_i32 (x3 + 1)) (zr none 3 127 51 [zm_A 135, zm_A t, w2, zm_I (x3 + 1), zm_I x4] [] h))) (zr none 3 127 104 [zm_A 135, zm_A t, w2, zm_I x3, zm_I x4] [] h) := by
  refine zl_tr (r_iload d_127_104 rfl) ?_
  refine zl_tr (r_aload_n d_127_106 rfl) ?_
  refine zl_tr (r_getI (kk := 3) d_127_107 ow_127 f_8_21 (zf_o ht) (by decide) rfl) ?_
  refine zl_tr (r_icmp_ge (tgt := 150) d_127_110 (by decide)) (zl_if ?_ ?_)
  · skip
    refine zl_tr (r_aload_n d_127_113 rfl) ?_
    refine zl_tr (r_getR d_127_114 ow_127 f_8_18 la_135 (by decide) fr_135_2) ?_
    refine zl_tr (r_iload d_127_117 rfl) ?_
    refine zl_tr (r_iaload d_127_119 la_138) (zl_ck ?_)
    refine zl_tr (r_if_ne (tgt := 144) d_127_120 (by decide)) (zl_if ?_ ?_)
    · skip
      refine zl_tr (r_aload_n d_127_123 rfl) ?_
      refine zl_tr (r_iload d_127_124 rfl) ?_
      refine zl_tr (r_aload_n d_127_126 rfl) ?_
      refine zl_tr (r_getI (kk := 3) d_127_127 ow_127 f_8_21 (zf_o ht) (by decide) rfl) ?_
      refine zl_tr (r_VI [zm_A 135, zm_I x4, zm_I (h t 3)] d_127_130 ow_127 cal_8_35 na_130 rfl rfl (Nat.le_of_ble_eq_true rfl) (by rw [rk_130]; decide) (zr_rcv la_135 ow_130) (zr_im mx_130 rfl (Nat.le_of_ble_eq_true rfl)) (by rw [rt_130]; decide)) (zl_I (fun v1 h2 => ?_))
      refine zl_tr (r_if_eq (tgt := 144) d_127_133 (by decide)) (zl_if ?_ ?_)
      · skip
        refine zl_tr (r_iinc (loc' := [zm_A 135, zm_A t, w2, zm_I x3, zm_I (x4 + 1)]) d_127_144 rfl (Nat.le_of_ble_eq_true rfl) rfl) (zl_ck ?_)
        refine zl_tr (r_goto (tgt := 104) d_127_147 (by decide)) ?_
        exact zl_rf
      · skip
        refine zl_tr (r_aload_n d_127_136 rfl) ?_
        refine zl_tr (r_getR d_127_137 ow_127 f_8_18 la_135 (by decide) fr_135_2) ?_
        refine zl_tr (r_iload d_127_140 rfl) ?_
        refine zl_tr (r_iload_n d_127_142 rfl) ?_
        refine zl_tr (r_iastore d_127_143 la_138) (zl_ck ?_)
        refine zl_tr (r_iinc (loc' := [zm_A 135, zm_A t, w2, zm_I x3, zm_I (x4 + 1)]) d_127_144 rfl (Nat.le_of_ble_eq_true rfl) rfl) (zl_ck ?_)
        refine zl_tr (r_goto (tgt := 104) d_127_147 (by decide)) ?_
        exact zl_rf
    · skip
      refine zl_tr (r_iinc (loc' := [zm_A 135, zm_A t, w2, zm_I x3, zm_I (x4 + 1)]) d_127_144 rfl (Nat.le_of_ble_eq_true rfl) rfl) (zl_ck ?_)
      refine zl_tr (r_goto (tgt := 104) d_127_147 (by decide)) ?_
      exact zl_rf
  · skip
    refine zl_tr (r_iinc (loc' := [zm_A 135, zm_A t, w2, zm_I (x3 + 1), zm_I x4]) d_127_150 rfl (Nat.le_of_ble_eq_true rfl) (zr_k1 rfl hw2 rfl)) (zl_ck ?_)
    refine zl_tr (r_goto (tgt := 51) d_127_153 (by decide)) ?_
    exact zl_rf
-- BranTub$Rings.offerOf
set_option maxRecDepth 20000 in
theorem e_128 {h : zm_H} {x3 : Int} {o : Nat} (ho : zf_T o) {t : Nat} (ht : zf_F t) : zl (zr none 2 128 5 [zm_A t, zm_A o, zm_I x3, zm_I (-1), zm_I 0] [] h) (zc 128 [zm_A t, zm_A o, zm_I x3] h) := by
  rw [zc_eq (loc := [zm_A t, zm_A o, zm_I x3, zm_U, zm_U]) (rk_128 _) rfl]
  refine zl_tr (r_iconst d_128_0 (by decide)) ?_
  refine zl_tr (r_istore_n (loc' := [zm_A t, zm_A o, zm_I x3, zm_I (-1), zm_U]) d_128_1 (Nat.le_of_ble_eq_true rfl) rfl) ?_
  refine zl_tr (r_iconst d_128_2 (by decide)) ?_
  refine zl_tr (r_istore (loc' := [zm_A t, zm_A o, zm_I x3, zm_I (-1), zm_I 0]) d_128_3 (Nat.le_of_ble_eq_true rfl) rfl) ?_
  exact zl_rf
-- BranTub$Rings.offerOf, from 5
set_option maxRecDepth 20000 in
theorem e_128_5 {h : zm_H} {x2 : Int} {x3 : Int} {x4 : Int} {o : Nat} (ho : zf_T o) {t : Nat} (ht : zf_F t) : zl (if x4 < (h t 1) then (zm_ck (zm_i32 (x2 * 8)) (zm_ck (zm_i32 ((x2 * 8) + x4)) (zm_ck (0 ≤ ((x2 * 8) + x4) ∧ ((x2 * 8) + x4) < ((64 : Nat) : Int)) (if (h (o + 3) ((x2 * 8) + x4)) = 0 then (zm_ck (zm_i32 (x4 + 1)) (zr none 2 128 5 [zm_A t, zm_A o, zm_I x2, zm_I x3, zm_I (x4 + 1)] [] h)) else (if x3 = (-1) then (zm_ck (zm_i32 (x4 + 1)) (zr none 2 128 5 [zm_A t, zm_A o, zm_I x2, zm_I x4, zm_I (x4 + 1)] [] h)) else (zk_I (zc 64 [zm_A t, zm_I x2, zm_I x4] h) (fun v1 h2 => zk_I (zc 64 [zm_A t, zm_I x2, zm_I x3] h2) (fun v3 h4 => if v1 < v3 then (zm_ck (zm_i32 (x4 + 1)) (zr none 2 128 5 [zm_A t, zm_A o, zm_I x2, zm_I x4, zm_I (x4 + 1)] [] h4)) else (zm_ck (zm_i32 (x4 + 1)) (zr none 2 128 5 [zm_A t, zm_A o, zm_I x2, zm_I x3, zm_I (x4 + 1)] [] h4)))))))))) else (some (zm_I x3, h))) (zr none 2 128 5 [zm_A t, zm_A o, zm_I x2, zm_I x3, zm_I x4] [] h) := by
  refine zl_tr (r_iload d_128_5 rfl) ?_
  refine zl_tr (r_aload_n d_128_7 rfl) ?_
  refine zl_tr (r_getI (kk := 1) d_128_8 ow_128 f_8_39 (zf_o ht) (by decide) rfl) ?_
  refine zl_tr (r_icmp_ge (tgt := 62) d_128_11 (by decide)) (zl_if ?_ ?_)
  · skip
    refine zl_tr (r_aload_n d_128_14 rfl) ?_
    refine zl_tr (r_getR d_128_15 ow_128 f_8_42 (zt_o ho) (by decide) (zt_r4 ho)) ?_
    refine zl_tr (r_iload_n d_128_18 rfl) ?_
    refine zl_tr (r_bipush d_128_19 (by decide)) ?_
    refine zl_tr (r_imul d_128_21) (zl_ck ?_)
    refine zl_tr (r_iload d_128_22 rfl) ?_
    refine zl_tr (r_iadd d_128_24) (zl_ck ?_)
    refine zl_tr (r_iaload d_128_25 (zt_a3 ho)) (zl_ck ?_)
    refine zl_tr (r_if_ne (tgt := 32) d_128_26 (by decide)) (zl_if ?_ ?_)
    · skip
      refine zl_tr (r_goto (tgt := 56) d_128_29 (by decide)) ?_
      refine zl_tr (r_iinc (loc' := [zm_A t, zm_A o, zm_I x2, zm_I x3, zm_I (x4 + 1)]) d_128_56 rfl (Nat.le_of_ble_eq_true rfl) rfl) (zl_ck ?_)
      refine zl_tr (r_goto (tgt := 5) d_128_59 (by decide)) ?_
      exact zl_rf
    · skip
      refine zl_tr (r_iload_n d_128_32 rfl) ?_
      refine zl_tr (r_iconst d_128_33 (by decide)) ?_
      refine zl_tr (r_icmp_eq (tgt := 53) d_128_34 (by decide)) (zl_if ?_ ?_)
      · skip
        refine zl_tr (r_iload d_128_53 rfl) ?_
        refine zl_tr (r_istore_n (loc' := [zm_A t, zm_A o, zm_I x2, zm_I x4, zm_I x4]) d_128_55 (Nat.le_of_ble_eq_true rfl) rfl) ?_
        refine zl_tr (r_iinc (loc' := [zm_A t, zm_A o, zm_I x2, zm_I x4, zm_I (x4 + 1)]) d_128_56 rfl (Nat.le_of_ble_eq_true rfl) rfl) (zl_ck ?_)
        refine zl_tr (r_goto (tgt := 5) d_128_59 (by decide)) ?_
        exact zl_rf
      · skip
        refine zl_tr (r_aload_n d_128_37 rfl) ?_
        refine zl_tr (r_iload_n d_128_38 rfl) ?_
        refine zl_tr (r_iload d_128_39 rfl) ?_
        refine zl_tr (r_VI [zm_A t, zm_I x2, zm_I x4] d_128_41 ow_128 cal_8_47 na_64 rfl rfl (Nat.le_of_ble_eq_true rfl) (by rw [rk_64]; decide) (zr_rcv (zf_o ht) ow_64) (zr_im mx_64 rfl (Nat.le_of_ble_eq_true rfl)) (by rw [rt_64]; decide)) (zl_I (fun v1 h2 => ?_))
        refine zl_tr (r_aload_n d_128_44 rfl) ?_
        refine zl_tr (r_iload_n d_128_45 rfl) ?_
        refine zl_tr (r_iload_n d_128_46 rfl) ?_
        refine zl_tr (r_VI [zm_A t, zm_I x2, zm_I x3] d_128_47 ow_128 cal_8_47 na_64 rfl rfl (Nat.le_of_ble_eq_true rfl) (by rw [rk_64]; decide) (zr_rcv (zf_o ht) ow_64) (zr_im mx_64 rfl (Nat.le_of_ble_eq_true rfl)) (by rw [rt_64]; decide)) (zl_I (fun v3 h4 => ?_))
        refine zl_tr (r_icmp_ge (tgt := 56) d_128_50 (by decide)) (zl_if ?_ ?_)
        · skip
          refine zl_tr (r_iload d_128_53 rfl) ?_
          refine zl_tr (r_istore_n (loc' := [zm_A t, zm_A o, zm_I x2, zm_I x4, zm_I x4]) d_128_55 (Nat.le_of_ble_eq_true rfl) rfl) ?_
          refine zl_tr (r_iinc (loc' := [zm_A t, zm_A o, zm_I x2, zm_I x4, zm_I (x4 + 1)]) d_128_56 rfl (Nat.le_of_ble_eq_true rfl) rfl) (zl_ck ?_)
          refine zl_tr (r_goto (tgt := 5) d_128_59 (by decide)) ?_
          exact zl_rf
        · skip
          refine zl_tr (r_iinc (loc' := [zm_A t, zm_A o, zm_I x2, zm_I x3, zm_I (x4 + 1)]) d_128_56 rfl (Nat.le_of_ble_eq_true rfl) rfl) (zl_ck ?_)
          refine zl_tr (r_goto (tgt := 5) d_128_59 (by decide)) ?_
          exact zl_rf
  · skip
    refine zl_tr (r_iload_n d_128_62 rfl) ?_
    exact r_iret d_128_63 rt_128
-- BranTub$Rings.choiceOf
set_option maxRecDepth 20000 in
theorem e_129 {h : zm_H} {x2 : Int} {t : Nat} (ht : zf_F t) : zl (zr none 2 129 5 [zm_A 135, zm_A t, zm_I x2, zm_I x2, zm_I 0] [] h) (zc 129 [zm_A 135, zm_A t, zm_I x2] h) := by
  rw [zc_eq (loc := [zm_A 135, zm_A t, zm_I x2, zm_U, zm_U]) (rk_129 _) rfl]
  refine zl_tr (r_iload_n d_129_0 rfl) ?_
  refine zl_tr (r_istore_n (loc' := [zm_A 135, zm_A t, zm_I x2, zm_I x2, zm_U]) d_129_1 (Nat.le_of_ble_eq_true rfl) rfl) ?_
  refine zl_tr (r_iconst d_129_2 (by decide)) ?_
  refine zl_tr (r_istore (loc' := [zm_A 135, zm_A t, zm_I x2, zm_I x2, zm_I 0]) d_129_3 (Nat.le_of_ble_eq_true rfl) rfl) ?_
  exact zl_rf
-- BranTub$Rings.choiceOf, from 5
set_option maxRecDepth 20000 in
theorem e_129_5 {h : zm_H} {x2 : Int} {x3 : Int} {x4 : Int} {t : Nat} (ht : zf_F t) : zl (if x4 < (h t 3) then (zm_ck (0 ≤ x4 ∧ x4 < ((8 : Nat) : Int)) (if (h 138 x4) = 0 then (zm_ck (0 ≤ x4 ∧ x4 < ((8 : Nat) : Int)) (zk_I (zc 64 [zm_A t, zm_I x2, zm_I (h 136 x4)] h) (fun v1 h2 => zm_ck (0 ≤ x3 ∧ x3 < ((8 : Nat) : Int)) (zk_I (zc 64 [zm_A t, zm_I x2, zm_I (h2 136 x3)] h2) (fun v3 h4 => if v1 ≤ v3 then (zm_ck (zm_i32 (x4 + 1)) (zr none 2 129 5 [zm_A 135, zm_A t, zm_I x2, zm_I x3, zm_I (x4 + 1)] [] h4)) else (zm_ck (zm_i32 (x4 + 1)) (zr none 2 129 5 [zm_A 135, zm_A t, zm_I x2, zm_I x4, zm_I (x4 + 1)] [] h4))))))) else (zm_ck (zm_i32 (x4 + 1)) (zr none 2 129 5 [zm_A 135, zm_A t, zm_I x2, zm_I x3, zm_I (x4 + 1)] [] h)))) else (some (zm_I x3, h))) (zr none 2 129 5 [zm_A 135, zm_A t, zm_I x2, zm_I x3, zm_I x4] [] h) := by
  refine zl_tr (r_iload d_129_5 rfl) ?_
  refine zl_tr (r_aload_n d_129_7 rfl) ?_
  refine zl_tr (r_getI (kk := 3) d_129_8 ow_129 f_8_21 (zf_o ht) (by decide) rfl) ?_
  refine zl_tr (r_icmp_ge (tgt := 62) d_129_11 (by decide)) (zl_if ?_ ?_)
  · skip
    refine zl_tr (r_aload_n d_129_14 rfl) ?_
    refine zl_tr (r_getR d_129_15 ow_129 f_8_18 la_135 (by decide) fr_135_2) ?_
    refine zl_tr (r_iload d_129_18 rfl) ?_
    refine zl_tr (r_iaload d_129_20 la_138) (zl_ck ?_)
    refine zl_tr (r_if_eq (tgt := 27) d_129_21 (by decide)) (zl_if ?_ ?_)
    · skip
      refine zl_tr (r_aload_n d_129_27 rfl) ?_
      refine zl_tr (r_iload_n d_129_28 rfl) ?_
      refine zl_tr (r_aload_n d_129_29 rfl) ?_
      refine zl_tr (r_getR d_129_30 ow_129 f_8_9 la_135 (by decide) fr_135_0) ?_
      refine zl_tr (r_iload d_129_33 rfl) ?_
      refine zl_tr (r_iaload d_129_35 la_136) (zl_ck ?_)
      refine zl_tr (r_VI [zm_A t, zm_I x2, zm_I (h 136 x4)] d_129_36 ow_129 cal_8_47 na_64 rfl rfl (Nat.le_of_ble_eq_true rfl) (by rw [rk_64]; decide) (zr_rcv (zf_o ht) ow_64) (zr_im mx_64 rfl (Nat.le_of_ble_eq_true rfl)) (by rw [rt_64]; decide)) (zl_I (fun v1 h2 => ?_))
      refine zl_tr (r_aload_n d_129_39 rfl) ?_
      refine zl_tr (r_iload_n d_129_40 rfl) ?_
      refine zl_tr (r_aload_n d_129_41 rfl) ?_
      refine zl_tr (r_getR d_129_42 ow_129 f_8_9 la_135 (by decide) fr_135_0) ?_
      refine zl_tr (r_iload_n d_129_45 rfl) ?_
      refine zl_tr (r_iaload d_129_46 la_136) (zl_ck ?_)
      refine zl_tr (r_VI [zm_A t, zm_I x2, zm_I (h2 136 x3)] d_129_47 ow_129 cal_8_47 na_64 rfl rfl (Nat.le_of_ble_eq_true rfl) (by rw [rk_64]; decide) (zr_rcv (zf_o ht) ow_64) (zr_im mx_64 rfl (Nat.le_of_ble_eq_true rfl)) (by rw [rt_64]; decide)) (zl_I (fun v3 h4 => ?_))
      refine zl_tr (r_icmp_le (tgt := 56) d_129_50 (by decide)) (zl_if ?_ ?_)
      · skip
        refine zl_tr (r_iinc (loc' := [zm_A 135, zm_A t, zm_I x2, zm_I x3, zm_I (x4 + 1)]) d_129_56 rfl (Nat.le_of_ble_eq_true rfl) rfl) (zl_ck ?_)
        refine zl_tr (r_goto (tgt := 5) d_129_59 (by decide)) ?_
        exact zl_rf
      · skip
        refine zl_tr (r_iload d_129_53 rfl) ?_
        refine zl_tr (r_istore_n (loc' := [zm_A 135, zm_A t, zm_I x2, zm_I x4, zm_I x4]) d_129_55 (Nat.le_of_ble_eq_true rfl) rfl) ?_
        refine zl_tr (r_iinc (loc' := [zm_A 135, zm_A t, zm_I x2, zm_I x4, zm_I (x4 + 1)]) d_129_56 rfl (Nat.le_of_ble_eq_true rfl) rfl) (zl_ck ?_)
        refine zl_tr (r_goto (tgt := 5) d_129_59 (by decide)) ?_
        exact zl_rf
    · skip
      refine zl_tr (r_goto (tgt := 56) d_129_24 (by decide)) ?_
      refine zl_tr (r_iinc (loc' := [zm_A 135, zm_A t, zm_I x2, zm_I x3, zm_I (x4 + 1)]) d_129_56 rfl (Nat.le_of_ble_eq_true rfl) rfl) (zl_ck ?_)
      refine zl_tr (r_goto (tgt := 5) d_129_59 (by decide)) ?_
      exact zl_rf
  · skip
    refine zl_tr (r_iload_n d_129_62 rfl) ?_
    exact r_iret d_129_63 rt_129
-- BranTub$Rings.goesRound
set_option maxRecDepth 20000 in
theorem e_130 {h : zm_H} {x1 : Int} {x2 : Int} : zl (zm_ck (0 ≤ x1 ∧ x1 < ((8 : Nat) : Int)) (zr none 1 130 10 [zm_A 135, zm_I x1, zm_I x2, zm_I (h 137 x1), zm_I 0] [] h)) (zc 130 [zm_A 135, zm_I x1, zm_I x2] h) := by
  rw [zc_eq (loc := [zm_A 135, zm_I x1, zm_I x2, zm_U, zm_U]) (rk_130 _) rfl]
  refine zl_tr (r_aload_n d_130_0 rfl) ?_
  refine zl_tr (r_getR d_130_1 ow_130 f_8_15 la_135 (by decide) fr_135_1) ?_
  refine zl_tr (r_iload_n d_130_4 rfl) ?_
  refine zl_tr (r_iaload d_130_5 la_137) (zl_ck ?_)
  refine zl_tr (r_istore_n (loc' := [zm_A 135, zm_I x1, zm_I x2, zm_I (h 137 x1), zm_U]) d_130_6 (Nat.le_of_ble_eq_true rfl) rfl) ?_
  refine zl_tr (r_iconst d_130_7 (by decide)) ?_
  refine zl_tr (r_istore (loc' := [zm_A 135, zm_I x1, zm_I x2, zm_I (h 137 x1), zm_I 0]) d_130_8 (Nat.le_of_ble_eq_true rfl) rfl) ?_
  exact zl_rf
-- BranTub$Rings.goesRound, from 10
set_option maxRecDepth 20000 in
theorem e_130_10 {h : zm_H} {x1 : Int} {x2 : Int} {x3 : Int} {x4 : Int} : zl (if x4 < x2 then (if x3 = x1 then (if x3 = x1 then (zm_ck (zm_bit 1) (some (zm_I 1, h))) else (zm_ck (zm_bit 0) (some (zm_I 0, h)))) else (zm_ck (0 ≤ x3 ∧ x3 < ((8 : Nat) : Int)) (zm_ck (zm_i32 (x4 + 1)) (zr none 1 130 10 [zm_A 135, zm_I x1, zm_I x2, zm_I (h 137 x3), zm_I (x4 + 1)] [] h)))) else (if x3 = x1 then (zm_ck (zm_bit 1) (some (zm_I 1, h))) else (zm_ck (zm_bit 0) (some (zm_I 0, h))))) (zr none 1 130 10 [zm_A 135, zm_I x1, zm_I x2, zm_I x3, zm_I x4] [] h) := by
  refine zl_tr (r_iload d_130_10 rfl) ?_
  refine zl_tr (r_iload_n d_130_12 rfl) ?_
  refine zl_tr (r_icmp_ge (tgt := 34) d_130_13 (by decide)) (zl_if ?_ ?_)
  · skip
    refine zl_tr (r_iload_n d_130_16 rfl) ?_
    refine zl_tr (r_iload_n d_130_17 rfl) ?_
    refine zl_tr (r_icmp_eq (tgt := 34) d_130_18 (by decide)) (zl_if ?_ ?_)
    · skip
      refine zl_tr (r_iload_n d_130_34 rfl) ?_
      refine zl_tr (r_iload_n d_130_35 rfl) ?_
      refine zl_tr (r_icmp_ne (tgt := 43) d_130_36 (by decide)) (zl_if ?_ ?_)
      · skip
        refine zl_tr (r_iconst d_130_39 (by decide)) ?_
        refine zl_tr (r_goto (tgt := 44) d_130_40 (by decide)) ?_
        exact r_zret d_130_44 rt_130
      · skip
        refine zl_tr (r_iconst d_130_43 (by decide)) ?_
        exact r_zret d_130_44 rt_130
    · skip
      refine zl_tr (r_aload_n d_130_21 rfl) ?_
      refine zl_tr (r_getR d_130_22 ow_130 f_8_15 la_135 (by decide) fr_135_1) ?_
      refine zl_tr (r_iload_n d_130_25 rfl) ?_
      refine zl_tr (r_iaload d_130_26 la_137) (zl_ck ?_)
      refine zl_tr (r_istore_n (loc' := [zm_A 135, zm_I x1, zm_I x2, zm_I (h 137 x3), zm_I x4]) d_130_27 (Nat.le_of_ble_eq_true rfl) rfl) ?_
      refine zl_tr (r_iinc (loc' := [zm_A 135, zm_I x1, zm_I x2, zm_I (h 137 x3), zm_I (x4 + 1)]) d_130_28 rfl (Nat.le_of_ble_eq_true rfl) rfl) (zl_ck ?_)
      refine zl_tr (r_goto (tgt := 10) d_130_31 (by decide)) ?_
      exact zl_rf
  · skip
    refine zl_tr (r_iload_n d_130_34 rfl) ?_
    refine zl_tr (r_iload_n d_130_35 rfl) ?_
    refine zl_tr (r_icmp_ne (tgt := 43) d_130_36 (by decide)) (zl_if ?_ ?_)
    · skip
      refine zl_tr (r_iconst d_130_39 (by decide)) ?_
      refine zl_tr (r_goto (tgt := 44) d_130_40 (by decide)) ?_
      exact r_zret d_130_44 rt_130
    · skip
      refine zl_tr (r_iconst d_130_43 (by decide)) ?_
      exact r_zret d_130_44 rt_130
-- BranTub$Scanner.begin
set_option maxRecDepth 20000 in
theorem e_132 {h : zm_H}  : zl (zk_V (zc 133 [zm_A 30] (zm_wr (zm_wr h 30 2 0) 30 3 0)) (fun h1 => some (zm_U, h1))) (zc 132 [zm_A 30] h) := by
  rw [zc_eq (loc := [zm_A 30]) (rk_132 _) rfl]
  refine zl_tr (r_aload_n d_132_0 rfl) ?_
  refine zl_tr (r_iconst d_132_1 (by decide)) ?_
  refine zl_tr (r_putI (kk := 2) d_132_2 ow_132 f_9_31 la_30 (by decide) rfl) ?_
  refine zl_tr (r_aload_n d_132_5 rfl) ?_
  refine zl_tr (r_iconst d_132_6 (by decide)) ?_
  refine zl_tr (r_putI (kk := 3) d_132_7 ow_132 f_9_35 la_30 (by decide) rfl) ?_
  refine zl_tr (r_aload_n d_132_10 rfl) ?_
  refine zl_tr (r_VV [zm_A 30] d_132_11 ow_132 cal_9_38 na_133 rfl rfl (Nat.le_of_ble_eq_true rfl) (by rw [rk_133]; decide) (zr_rcv la_30 ow_133) (zr_im mx_133 rfl (Nat.le_of_ble_eq_true rfl)) rt_133) (zl_V (fun h1 => ?_))
  exact r_vret d_132_14 rt_132
-- BranTub$Scanner.advance
set_option maxRecDepth 20000 in
theorem e_133 {h : zm_H}  : zl (if (h 30 3) = 1 then (zr none 2 133 27 [zm_A 30, zm_I 1, zm_I (h 30 2), zm_U, zm_U] [] h) else (if (h 30 3) = 2 then (zr none 2 133 27 [zm_A 30, zm_I 1, zm_I (h 30 2), zm_U, zm_U] [] h) else (zr none 2 133 27 [zm_A 30, zm_I 0, zm_I (h 30 2), zm_U, zm_U] [] h))) (zc 133 [zm_A 30] h) := by
  rw [zc_eq (loc := [zm_A 30, zm_U, zm_U, zm_U, zm_U]) (rk_133 _) rfl]
  refine zl_tr (r_aload_n d_133_0 rfl) ?_
  refine zl_tr (r_getI (kk := 3) d_133_1 ow_133 f_9_35 la_30 (by decide) rfl) ?_
  refine zl_tr (r_iconst d_133_4 (by decide)) ?_
  refine zl_tr (r_icmp_eq (tgt := 16) d_133_5 (by decide)) (zl_if ?_ ?_)
  · skip
    refine zl_tr (r_iconst d_133_16 (by decide)) ?_
    refine zl_tr (r_goto (tgt := 21) d_133_17 (by decide)) ?_
    refine zl_tr (r_istore_n (loc' := [zm_A 30, zm_I 1, zm_U, zm_U, zm_U]) d_133_21 (Nat.le_of_ble_eq_true rfl) rfl) ?_
    refine zl_tr (r_aload_n d_133_22 rfl) ?_
    refine zl_tr (r_getI (kk := 2) d_133_23 ow_133 f_9_31 la_30 (by decide) rfl) ?_
    refine zl_tr (r_istore_n (loc' := [zm_A 30, zm_I 1, zm_I (h 30 2), zm_U, zm_U]) d_133_26 (Nat.le_of_ble_eq_true rfl) rfl) ?_
    exact zl_rf
  · skip
    refine zl_tr (r_aload_n d_133_8 rfl) ?_
    refine zl_tr (r_getI (kk := 3) d_133_9 ow_133 f_9_35 la_30 (by decide) rfl) ?_
    refine zl_tr (r_iconst d_133_12 (by decide)) ?_
    refine zl_tr (r_icmp_ne (tgt := 20) d_133_13 (by decide)) (zl_if ?_ ?_)
    · skip
      refine zl_tr (r_iconst d_133_16 (by decide)) ?_
      refine zl_tr (r_goto (tgt := 21) d_133_17 (by decide)) ?_
      refine zl_tr (r_istore_n (loc' := [zm_A 30, zm_I 1, zm_U, zm_U, zm_U]) d_133_21 (Nat.le_of_ble_eq_true rfl) rfl) ?_
      refine zl_tr (r_aload_n d_133_22 rfl) ?_
      refine zl_tr (r_getI (kk := 2) d_133_23 ow_133 f_9_31 la_30 (by decide) rfl) ?_
      refine zl_tr (r_istore_n (loc' := [zm_A 30, zm_I 1, zm_I (h 30 2), zm_U, zm_U]) d_133_26 (Nat.le_of_ble_eq_true rfl) rfl) ?_
      exact zl_rf
    · skip
      refine zl_tr (r_iconst d_133_20 (by decide)) ?_
      refine zl_tr (r_istore_n (loc' := [zm_A 30, zm_I 0, zm_U, zm_U, zm_U]) d_133_21 (Nat.le_of_ble_eq_true rfl) rfl) ?_
      refine zl_tr (r_aload_n d_133_22 rfl) ?_
      refine zl_tr (r_getI (kk := 2) d_133_23 ow_133 f_9_31 la_30 (by decide) rfl) ?_
      refine zl_tr (r_istore_n (loc' := [zm_A 30, zm_I 0, zm_I (h 30 2), zm_U, zm_U]) d_133_26 (Nat.le_of_ble_eq_true rfl) rfl) ?_
      exact zl_rf
-- BranTub$Scanner.advance, from 27
set_option maxRecDepth 20000 in
theorem e_133_27 {h : zm_H} {x1 : Int} {x2 : Int} {w3 : zm_V} {w4 : zm_V} : zl (if (h 30 2) < (h 5 1) then (zm_ck (0 ≤ (h 30 2) ∧ (h 30 2) < ((1600 : Nat) : Int)) (if (h 6 (h 30 2)) = 10 then (zm_ck (zm_i32 ((h 30 2) + 1)) (zr none 2 133 27 [zm_A 30, zm_I x1, zm_I x2, w3, w4] [] (zm_wr h 30 2 ((h 30 2) + 1)))) else (zm_ck (0 ≤ (h 30 2) ∧ (h 30 2) < ((1600 : Nat) : Int)) (if (h 6 (h 30 2)) = 32 then (zm_ck (zm_i32 ((h 30 2) + 1)) (zr none 2 133 27 [zm_A 30, zm_I x1, zm_I x2, w3, w4] [] (zm_wr h 30 2 ((h 30 2) + 1)))) else (zr none 2 133 88 [zm_A 30, zm_I x1, zm_I x2, w3, w4] [] h))))) else (zr none 2 133 88 [zm_A 30, zm_I x1, zm_I x2, w3, w4] [] h)) (zr none 2 133 27 [zm_A 30, zm_I x1, zm_I x2, w3, w4] [] h) := by
  refine zl_tr (r_aload_n d_133_27 rfl) ?_
  refine zl_tr (r_getI (kk := 2) d_133_28 ow_133 f_9_31 la_30 (by decide) rfl) ?_
  refine zl_tr (r_aload_n d_133_31 rfl) ?_
  refine zl_tr (r_getR d_133_32 ow_133 f_9_15 la_30 (by decide) fr_30_1) ?_
  refine zl_tr (r_getI (kk := 1) d_133_35 ow_133 f_9_41 la_5 (by decide) rfl) ?_
  refine zl_tr (r_icmp_ge (tgt := 88) d_133_38 (by decide)) (zl_if ?_ ?_)
  · skip
    refine zl_tr (r_aload_n d_133_41 rfl) ?_
    refine zl_tr (r_getR d_133_42 ow_133 f_9_15 la_30 (by decide) fr_30_1) ?_
    refine zl_tr (r_getR d_133_45 ow_133 f_9_45 la_5 (by decide) fr_5_0) ?_
    refine zl_tr (r_aload_n d_133_48 rfl) ?_
    refine zl_tr (r_getI (kk := 2) d_133_49 ow_133 f_9_31 la_30 (by decide) rfl) ?_
    refine zl_tr (r_iaload d_133_52 la_6) (zl_ck ?_)
    refine zl_tr (r_bipush d_133_53 (by decide)) ?_
    refine zl_tr (r_icmp_eq (tgt := 75) d_133_55 (by decide)) (zl_if ?_ ?_)
    · skip
      refine zl_tr (r_aload_n d_133_75 rfl) ?_
      refine zl_tr (r_dup d_133_76 rfl) ?_
      refine zl_tr (r_getI (kk := 2) d_133_77 ow_133 f_9_31 la_30 (by decide) rfl) ?_
      refine zl_tr (r_iconst d_133_80 (by decide)) ?_
      refine zl_tr (r_iadd d_133_81) (zl_ck ?_)
      refine zl_tr (r_putI (kk := 2) d_133_82 ow_133 f_9_31 la_30 (by decide) rfl) ?_
      refine zl_tr (r_goto (tgt := 27) d_133_85 (by decide)) ?_
      exact zl_rf
    · skip
      refine zl_tr (r_aload_n d_133_58 rfl) ?_
      refine zl_tr (r_getR d_133_59 ow_133 f_9_15 la_30 (by decide) fr_30_1) ?_
      refine zl_tr (r_getR d_133_62 ow_133 f_9_45 la_5 (by decide) fr_5_0) ?_
      refine zl_tr (r_aload_n d_133_65 rfl) ?_
      refine zl_tr (r_getI (kk := 2) d_133_66 ow_133 f_9_31 la_30 (by decide) rfl) ?_
      refine zl_tr (r_iaload d_133_69 la_6) (zl_ck ?_)
      refine zl_tr (r_bipush d_133_70 (by decide)) ?_
      refine zl_tr (r_icmp_ne (tgt := 88) d_133_72 (by decide)) (zl_if ?_ ?_)
      · skip
        refine zl_tr (r_aload_n d_133_75 rfl) ?_
        refine zl_tr (r_dup d_133_76 rfl) ?_
        refine zl_tr (r_getI (kk := 2) d_133_77 ow_133 f_9_31 la_30 (by decide) rfl) ?_
        refine zl_tr (r_iconst d_133_80 (by decide)) ?_
        refine zl_tr (r_iadd d_133_81) (zl_ck ?_)
        refine zl_tr (r_putI (kk := 2) d_133_82 ow_133 f_9_31 la_30 (by decide) rfl) ?_
        refine zl_tr (r_goto (tgt := 27) d_133_85 (by decide)) ?_
        exact zl_rf
      · skip
        exact zl_rf
  · skip
    exact zl_rf
-- BranTub$Scanner.advance, from 88
set_option maxRecDepth 20000 in
theorem e_133_88 {h : zm_H} {x1 : Int} {x2 : Int} {w3 : zm_V} {w4 : zm_V} : zl (if ((zm_wr (zm_wr (zm_wr h 30 6 (h 30 2)) 30 7 ((zm_wr h 30 6 (h 30 2)) 30 2)) 30 4 0) 30 2) < ((zm_wr (zm_wr (zm_wr h 30 6 (h 30 2)) 30 7 ((zm_wr h 30 6 (h 30 2)) 30 2)) 30 4 0) 5 1) then (zm_ck (0 ≤ ((zm_wr (zm_wr (zm_wr h 30 6 (h 30 2)) 30 7 ((zm_wr h 30 6 (h 30 2)) 30 2)) 30 4 0) 30 2) ∧ ((zm_wr (zm_wr (zm_wr h 30 6 (h 30 2)) 30 7 ((zm_wr h 30 6 (h 30 2)) 30 2)) 30 4 0) 30 2) < ((1600 : Nat) : Int)) (if ((zm_wr (zm_wr (zm_wr h 30 6 (h 30 2)) 30 7 ((zm_wr h 30 6 (h 30 2)) 30 2)) 30 4 0) 6 ((zm_wr (zm_wr (zm_wr h 30 6 (h 30 2)) 30 7 ((zm_wr h 30 6 (h 30 2)) 30 2)) 30 4 0) 30 2)) < 97 then (zr none 2 133 159 [zm_A 30, zm_I x1, zm_I x2, zm_I ((zm_wr (zm_wr (zm_wr h 30 6 (h 30 2)) 30 7 ((zm_wr h 30 6 (h 30 2)) 30 2)) 30 4 0) 6 ((zm_wr (zm_wr (zm_wr h 30 6 (h 30 2)) 30 7 ((zm_wr h 30 6 (h 30 2)) 30 2)) 30 4 0) 30 2)), w4] [] (zm_wr (zm_wr (zm_wr h 30 6 (h 30 2)) 30 7 ((zm_wr h 30 6 (h 30 2)) 30 2)) 30 4 0)) else (if 122 < ((zm_wr (zm_wr (zm_wr h 30 6 (h 30 2)) 30 7 ((zm_wr h 30 6 (h 30 2)) 30 2)) 30 4 0) 6 ((zm_wr (zm_wr (zm_wr h 30 6 (h 30 2)) 30 7 ((zm_wr h 30 6 (h 30 2)) 30 2)) 30 4 0) 30 2)) then (zr none 2 133 159 [zm_A 30, zm_I x1, zm_I x2, zm_I ((zm_wr (zm_wr (zm_wr h 30 6 (h 30 2)) 30 7 ((zm_wr h 30 6 (h 30 2)) 30 2)) 30 4 0) 6 ((zm_wr (zm_wr (zm_wr h 30 6 (h 30 2)) 30 7 ((zm_wr h 30 6 (h 30 2)) 30 2)) 30 4 0) 30 2)), w4] [] (zm_wr (zm_wr (zm_wr h 30 6 (h 30 2)) 30 7 ((zm_wr h 30 6 (h 30 2)) 30 2)) 30 4 0)) else (zk_V (zc 134 [zm_A 30] (zm_wr (zm_wr (zm_wr h 30 6 (h 30 2)) 30 7 ((zm_wr h 30 6 (h 30 2)) 30 2)) 30 4 0)) (fun h1 => zr none 2 133 183 [zm_A 30, zm_I x1, zm_I x2, zm_I ((zm_wr (zm_wr (zm_wr h 30 6 (h 30 2)) 30 7 ((zm_wr h 30 6 (h 30 2)) 30 2)) 30 4 0) 6 ((zm_wr (zm_wr (zm_wr h 30 6 (h 30 2)) 30 7 ((zm_wr h 30 6 (h 30 2)) 30 2)) 30 4 0) 30 2)), w4] [] h1))))) else (if (-1) < 97 then (zr none 2 133 159 [zm_A 30, zm_I x1, zm_I x2, zm_I (-1), w4] [] (zm_wr (zm_wr (zm_wr h 30 6 (h 30 2)) 30 7 ((zm_wr h 30 6 (h 30 2)) 30 2)) 30 4 0)) else (if 122 < (-1) then (zr none 2 133 159 [zm_A 30, zm_I x1, zm_I x2, zm_I (-1), w4] [] (zm_wr (zm_wr (zm_wr h 30 6 (h 30 2)) 30 7 ((zm_wr h 30 6 (h 30 2)) 30 2)) 30 4 0)) else (zk_V (zc 134 [zm_A 30] (zm_wr (zm_wr (zm_wr h 30 6 (h 30 2)) 30 7 ((zm_wr h 30 6 (h 30 2)) 30 2)) 30 4 0)) (fun h2 => zr none 2 133 183 [zm_A 30, zm_I x1, zm_I x2, zm_I (-1), w4] [] h2))))) (zr none 2 133 88 [zm_A 30, zm_I x1, zm_I x2, w3, w4] [] h) := by
  refine zl_tr (r_aload_n d_133_88 rfl) ?_
  refine zl_tr (r_aload_n d_133_89 rfl) ?_
  refine zl_tr (r_getI (kk := 2) d_133_90 ow_133 f_9_31 la_30 (by decide) rfl) ?_
  refine zl_tr (r_putI (kk := 6) d_133_93 ow_133 f_9_48 la_30 (by decide) rfl) ?_
  refine zl_tr (r_aload_n d_133_96 rfl) ?_
  refine zl_tr (r_aload_n d_133_97 rfl) ?_
  refine zl_tr (r_getI (kk := 2) d_133_98 ow_133 f_9_31 la_30 (by decide) rfl) ?_
  refine zl_tr (r_putI (kk := 7) d_133_101 ow_133 f_9_51 la_30 (by decide) rfl) ?_
  refine zl_tr (r_aload_n d_133_104 rfl) ?_
  refine zl_tr (r_iconst d_133_105 (by decide)) ?_
  refine zl_tr (r_putI (kk := 4) d_133_106 ow_133 f_9_54 la_30 (by decide) rfl) ?_
  refine zl_tr (r_aload_n d_133_109 rfl) ?_
  refine zl_tr (r_getI (kk := 2) d_133_110 ow_133 f_9_31 la_30 (by decide) rfl) ?_
  refine zl_tr (r_aload_n d_133_113 rfl) ?_
  refine zl_tr (r_getR d_133_114 ow_133 f_9_15 la_30 (by decide) fr_30_1) ?_
  refine zl_tr (r_getI (kk := 1) d_133_117 ow_133 f_9_41 la_5 (by decide) rfl) ?_
  refine zl_tr (r_icmp_ge (tgt := 138) d_133_120 (by decide)) (zl_if ?_ ?_)
  · skip
    refine zl_tr (r_aload_n d_133_123 rfl) ?_
    refine zl_tr (r_getR d_133_124 ow_133 f_9_15 la_30 (by decide) fr_30_1) ?_
    refine zl_tr (r_getR d_133_127 ow_133 f_9_45 la_5 (by decide) fr_5_0) ?_
    refine zl_tr (r_aload_n d_133_130 rfl) ?_
    refine zl_tr (r_getI (kk := 2) d_133_131 ow_133 f_9_31 la_30 (by decide) rfl) ?_
    refine zl_tr (r_iaload d_133_134 la_6) (zl_ck ?_)
    refine zl_tr (r_goto (tgt := 139) d_133_135 (by decide)) ?_
    refine zl_tr (r_istore_n (loc' := [zm_A 30, zm_I x1, zm_I x2, zm_I ((zm_wr (zm_wr (zm_wr h 30 6 (h 30 2)) 30 7 ((zm_wr h 30 6 (h 30 2)) 30 2)) 30 4 0) 6 ((zm_wr (zm_wr (zm_wr h 30 6 (h 30 2)) 30 7 ((zm_wr h 30 6 (h 30 2)) 30 2)) 30 4 0) 30 2)), w4]) d_133_139 (Nat.le_of_ble_eq_true rfl) rfl) ?_
    refine zl_tr (r_iload_n d_133_140 rfl) ?_
    refine zl_tr (r_bipush d_133_141 (by decide)) ?_
    refine zl_tr (r_icmp_lt (tgt := 159) d_133_143 (by decide)) (zl_if ?_ ?_)
    · skip
      exact zl_rf
    · skip
      refine zl_tr (r_iload_n d_133_146 rfl) ?_
      refine zl_tr (r_bipush d_133_147 (by decide)) ?_
      refine zl_tr (r_icmp_gt (tgt := 159) d_133_149 (by decide)) (zl_if ?_ ?_)
      · skip
        exact zl_rf
      · skip
        refine zl_tr (r_aload_n d_133_152 rfl) ?_
        refine zl_tr (r_VV [zm_A 30] d_133_153 ow_133 cal_9_57 na_134 rfl rfl (Nat.le_of_ble_eq_true rfl) (by rw [rk_134]; decide) (zr_rcv la_30 ow_134) (zr_im mx_134 rfl (Nat.le_of_ble_eq_true rfl)) rt_134) (zl_V (fun h1 => ?_))
        refine zl_tr (r_goto (tgt := 183) d_133_156 (by decide)) ?_
        exact zl_rf
  · skip
    refine zl_tr (r_iconst d_133_138 (by decide)) ?_
    refine zl_tr (r_istore_n (loc' := [zm_A 30, zm_I x1, zm_I x2, zm_I (-1), w4]) d_133_139 (Nat.le_of_ble_eq_true rfl) rfl) ?_
    refine zl_tr (r_iload_n d_133_140 rfl) ?_
    refine zl_tr (r_bipush d_133_141 (by decide)) ?_
    refine zl_tr (r_icmp_lt (tgt := 159) d_133_143 (by decide)) (zl_if ?_ ?_)
    · skip
      exact zl_rf
    · skip
      refine zl_tr (r_iload_n d_133_146 rfl) ?_
      refine zl_tr (r_bipush d_133_147 (by decide)) ?_
      refine zl_tr (r_icmp_gt (tgt := 159) d_133_149 (by decide)) (zl_if ?_ ?_)
      · skip
        exact zl_rf
      · skip
        refine zl_tr (r_aload_n d_133_152 rfl) ?_
        refine zl_tr (r_VV [zm_A 30] d_133_153 ow_133 cal_9_57 na_134 rfl rfl (Nat.le_of_ble_eq_true rfl) (by rw [rk_134]; decide) (zr_rcv la_30 ow_134) (zr_im mx_134 rfl (Nat.le_of_ble_eq_true rfl)) rt_134) (zl_V (fun h2 => ?_))
        refine zl_tr (r_goto (tgt := 183) d_133_156 (by decide)) ?_
        exact zl_rf
-- BranTub$Scanner.advance, from 159
set_option maxRecDepth 20000 in
theorem e_133_159 {h : zm_H} {x1 : Int} {x2 : Int} {x3 : Int} {w4 : zm_V} : zl (if x3 < 48 then (zr none 2 133 178 [zm_A 30, zm_I x1, zm_I x2, zm_I x3, w4] [] h) else (if 57 < x3 then (zr none 2 133 178 [zm_A 30, zm_I x1, zm_I x2, zm_I x3, w4] [] h) else (zk_V (zc 135 [zm_A 30] h) (fun h1 => zr none 2 133 183 [zm_A 30, zm_I x1, zm_I x2, zm_I x3, w4] [] h1)))) (zr none 2 133 159 [zm_A 30, zm_I x1, zm_I x2, zm_I x3, w4] [] h) := by
  refine zl_tr (r_iload_n d_133_159 rfl) ?_
  refine zl_tr (r_bipush d_133_160 (by decide)) ?_
  refine zl_tr (r_icmp_lt (tgt := 178) d_133_162 (by decide)) (zl_if ?_ ?_)
  · skip
    exact zl_rf
  · skip
    refine zl_tr (r_iload_n d_133_165 rfl) ?_
    refine zl_tr (r_bipush d_133_166 (by decide)) ?_
    refine zl_tr (r_icmp_gt (tgt := 178) d_133_168 (by decide)) (zl_if ?_ ?_)
    · skip
      exact zl_rf
    · skip
      refine zl_tr (r_aload_n d_133_171 rfl) ?_
      refine zl_tr (r_VV [zm_A 30] d_133_172 ow_133 cal_9_60 na_135 rfl rfl (Nat.le_of_ble_eq_true rfl) (by rw [rk_135]; decide) (zr_rcv la_30 ow_135) (zr_im mx_135 rfl (Nat.le_of_ble_eq_true rfl)) rt_135) (zl_V (fun h1 => ?_))
      refine zl_tr (r_goto (tgt := 183) d_133_175 (by decide)) ?_
      exact zl_rf
-- BranTub$Scanner.advance, from 183
set_option maxRecDepth 20000 in
theorem e_133_183 {h : zm_H} {x1 : Int} {x2 : Int} {w3 : zm_V} {w4 : zm_V} (hw3 : zm_cat w3 ≠ 2) : zl (if x1 = 0 then (zr none 2 133 199 [zm_A 30, zm_I x1, zm_I x2, w3, w4] [] h) else (if x2 = (h 30 6) then (if (1 : Int) = 0 then (if (h 30 3) = 1 then (zk_I (zc 137 [zm_A 30, zm_I (h 30 4)] h) (fun v1 h2 => some (zm_U, (zm_wr h2 30 5 v1)))) else (some (zm_U, (zm_wr h 30 5 (-1))))) else (if (h 30 3) = 3 then (if (h 30 3) = 1 then (zk_I (zc 137 [zm_A 30, zm_I (h 30 4)] h) (fun v3 h4 => some (zm_U, (zm_wr h4 30 5 v3)))) else (some (zm_U, (zm_wr h 30 5 (-1))))) else (if (h 30 3) = 0 then (if (h 30 3) = 1 then (zk_I (zc 137 [zm_A 30, zm_I (h 30 4)] h) (fun v5 h6 => some (zm_U, (zm_wr h6 30 5 v5)))) else (some (zm_U, (zm_wr h 30 5 (-1))))) else (if ((zm_wr (zm_wr h 30 3 4) 30 7 ((zm_wr h 30 3 4) 30 6)) 30 3) = 1 then (zk_I (zc 137 [zm_A 30, zm_I ((zm_wr (zm_wr h 30 3 4) 30 7 ((zm_wr h 30 3 4) 30 6)) 30 4)] (zm_wr (zm_wr h 30 3 4) 30 7 ((zm_wr h 30 3 4) 30 6))) (fun v7 h8 => some (zm_U, (zm_wr h8 30 5 v7)))) else (some (zm_U, (zm_wr (zm_wr (zm_wr h 30 3 4) 30 7 ((zm_wr h 30 3 4) 30 6)) 30 5 (-1)))))))) else (zr none 2 133 199 [zm_A 30, zm_I x1, zm_I x2, w3, w4] [] h))) (zr none 2 133 183 [zm_A 30, zm_I x1, zm_I x2, w3, w4] [] h) := by
  refine zl_tr (r_iload_n d_133_183 rfl) ?_
  refine zl_tr (r_if_eq (tgt := 199) d_133_184 (by decide)) (zl_if ?_ ?_)
  · skip
    exact zl_rf
  · skip
    refine zl_tr (r_iload_n d_133_187 rfl) ?_
    refine zl_tr (r_aload_n d_133_188 rfl) ?_
    refine zl_tr (r_getI (kk := 6) d_133_189 ow_133 f_9_48 la_30 (by decide) rfl) ?_
    refine zl_tr (r_icmp_ne (tgt := 199) d_133_192 (by decide)) (zl_if ?_ ?_)
    · skip
      refine zl_tr (r_iconst d_133_195 (by decide)) ?_
      refine zl_tr (r_goto (tgt := 200) d_133_196 (by decide)) ?_
      refine zl_tr (r_istore (loc' := [zm_A 30, zm_I x1, zm_I x2, w3, zm_I 1]) d_133_200 (Nat.le_of_ble_eq_true rfl) (zr_k1 rfl hw3 rfl)) ?_
      refine zl_tr (r_iload d_133_202 rfl) ?_
      refine zl_tr (r_if_eq (tgt := 235) d_133_204 (by decide)) (zl_if ?_ ?_)
      · skip
        refine zl_tr (r_aload_n d_133_235 rfl) ?_
        refine zl_tr (r_aload_n d_133_236 rfl) ?_
        refine zl_tr (r_getI (kk := 3) d_133_237 ow_133 f_9_35 la_30 (by decide) rfl) ?_
        refine zl_tr (r_iconst d_133_240 (by decide)) ?_
        refine zl_tr (r_icmp_ne (tgt := 255) d_133_241 (by decide)) (zl_if ?_ ?_)
        · skip
          refine zl_tr (r_aload_n d_133_244 rfl) ?_
          refine zl_tr (r_aload_n d_133_245 rfl) ?_
          refine zl_tr (r_getI (kk := 4) d_133_246 ow_133 f_9_54 la_30 (by decide) rfl) ?_
          refine zl_tr (r_VI [zm_A 30, zm_I (h 30 4)] d_133_249 ow_133 cal_9_67 na_137 rfl rfl (Nat.le_of_ble_eq_true rfl) (by rw [rk_137]; decide) (zr_rcv la_30 ow_137) (zr_im mx_137 rfl (Nat.le_of_ble_eq_true rfl)) (by rw [rt_137]; decide)) (zl_I (fun v1 h2 => ?_))
          refine zl_tr (r_goto (tgt := 256) d_133_252 (by decide)) ?_
          refine zl_tr (r_putI (kk := 5) d_133_256 ow_133 f_9_71 la_30 (by decide) rfl) ?_
          exact r_vret d_133_259 rt_133
        · skip
          refine zl_tr (r_iconst d_133_255 (by decide)) ?_
          refine zl_tr (r_putI (kk := 5) d_133_256 ow_133 f_9_71 la_30 (by decide) rfl) ?_
          exact r_vret d_133_259 rt_133
      · skip
        refine zl_tr (r_aload_n d_133_207 rfl) ?_
        refine zl_tr (r_getI (kk := 3) d_133_208 ow_133 f_9_35 la_30 (by decide) rfl) ?_
        refine zl_tr (r_iconst d_133_211 (by decide)) ?_
        refine zl_tr (r_icmp_eq (tgt := 235) d_133_212 (by decide)) (zl_if ?_ ?_)
        · skip
          refine zl_tr (r_aload_n d_133_235 rfl) ?_
          refine zl_tr (r_aload_n d_133_236 rfl) ?_
          refine zl_tr (r_getI (kk := 3) d_133_237 ow_133 f_9_35 la_30 (by decide) rfl) ?_
          refine zl_tr (r_iconst d_133_240 (by decide)) ?_
          refine zl_tr (r_icmp_ne (tgt := 255) d_133_241 (by decide)) (zl_if ?_ ?_)
          · skip
            refine zl_tr (r_aload_n d_133_244 rfl) ?_
            refine zl_tr (r_aload_n d_133_245 rfl) ?_
            refine zl_tr (r_getI (kk := 4) d_133_246 ow_133 f_9_54 la_30 (by decide) rfl) ?_
            refine zl_tr (r_VI [zm_A 30, zm_I (h 30 4)] d_133_249 ow_133 cal_9_67 na_137 rfl rfl (Nat.le_of_ble_eq_true rfl) (by rw [rk_137]; decide) (zr_rcv la_30 ow_137) (zr_im mx_137 rfl (Nat.le_of_ble_eq_true rfl)) (by rw [rt_137]; decide)) (zl_I (fun v3 h4 => ?_))
            refine zl_tr (r_goto (tgt := 256) d_133_252 (by decide)) ?_
            refine zl_tr (r_putI (kk := 5) d_133_256 ow_133 f_9_71 la_30 (by decide) rfl) ?_
            exact r_vret d_133_259 rt_133
          · skip
            refine zl_tr (r_iconst d_133_255 (by decide)) ?_
            refine zl_tr (r_putI (kk := 5) d_133_256 ow_133 f_9_71 la_30 (by decide) rfl) ?_
            exact r_vret d_133_259 rt_133
        · skip
          refine zl_tr (r_aload_n d_133_215 rfl) ?_
          refine zl_tr (r_getI (kk := 3) d_133_216 ow_133 f_9_35 la_30 (by decide) rfl) ?_
          refine zl_tr (r_if_eq (tgt := 235) d_133_219 (by decide)) (zl_if ?_ ?_)
          · skip
            refine zl_tr (r_aload_n d_133_235 rfl) ?_
            refine zl_tr (r_aload_n d_133_236 rfl) ?_
            refine zl_tr (r_getI (kk := 3) d_133_237 ow_133 f_9_35 la_30 (by decide) rfl) ?_
            refine zl_tr (r_iconst d_133_240 (by decide)) ?_
            refine zl_tr (r_icmp_ne (tgt := 255) d_133_241 (by decide)) (zl_if ?_ ?_)
            · skip
              refine zl_tr (r_aload_n d_133_244 rfl) ?_
              refine zl_tr (r_aload_n d_133_245 rfl) ?_
              refine zl_tr (r_getI (kk := 4) d_133_246 ow_133 f_9_54 la_30 (by decide) rfl) ?_
              refine zl_tr (r_VI [zm_A 30, zm_I (h 30 4)] d_133_249 ow_133 cal_9_67 na_137 rfl rfl (Nat.le_of_ble_eq_true rfl) (by rw [rk_137]; decide) (zr_rcv la_30 ow_137) (zr_im mx_137 rfl (Nat.le_of_ble_eq_true rfl)) (by rw [rt_137]; decide)) (zl_I (fun v5 h6 => ?_))
              refine zl_tr (r_goto (tgt := 256) d_133_252 (by decide)) ?_
              refine zl_tr (r_putI (kk := 5) d_133_256 ow_133 f_9_71 la_30 (by decide) rfl) ?_
              exact r_vret d_133_259 rt_133
            · skip
              refine zl_tr (r_iconst d_133_255 (by decide)) ?_
              refine zl_tr (r_putI (kk := 5) d_133_256 ow_133 f_9_71 la_30 (by decide) rfl) ?_
              exact r_vret d_133_259 rt_133
          · skip
            refine zl_tr (r_aload_n d_133_222 rfl) ?_
            refine zl_tr (r_iconst d_133_223 (by decide)) ?_
            refine zl_tr (r_putI (kk := 3) d_133_224 ow_133 f_9_35 la_30 (by decide) rfl) ?_
            refine zl_tr (r_aload_n d_133_227 rfl) ?_
            refine zl_tr (r_aload_n d_133_228 rfl) ?_
            refine zl_tr (r_getI (kk := 6) d_133_229 ow_133 f_9_48 la_30 (by decide) rfl) ?_
            refine zl_tr (r_putI (kk := 7) d_133_232 ow_133 f_9_51 la_30 (by decide) rfl) ?_
            refine zl_tr (r_aload_n d_133_235 rfl) ?_
            refine zl_tr (r_aload_n d_133_236 rfl) ?_
            refine zl_tr (r_getI (kk := 3) d_133_237 ow_133 f_9_35 la_30 (by decide) rfl) ?_
            refine zl_tr (r_iconst d_133_240 (by decide)) ?_
            refine zl_tr (r_icmp_ne (tgt := 255) d_133_241 (by decide)) (zl_if ?_ ?_)
            · skip
              refine zl_tr (r_aload_n d_133_244 rfl) ?_
              refine zl_tr (r_aload_n d_133_245 rfl) ?_
              refine zl_tr (r_getI (kk := 4) d_133_246 ow_133 f_9_54 la_30 (by decide) rfl) ?_
              refine zl_tr (r_VI [zm_A 30, zm_I ((zm_wr (zm_wr h 30 3 4) 30 7 ((zm_wr h 30 3 4) 30 6)) 30 4)] d_133_249 ow_133 cal_9_67 na_137 rfl rfl (Nat.le_of_ble_eq_true rfl) (by rw [rk_137]; decide) (zr_rcv la_30 ow_137) (zr_im mx_137 rfl (Nat.le_of_ble_eq_true rfl)) (by rw [rt_137]; decide)) (zl_I (fun v7 h8 => ?_))
              refine zl_tr (r_goto (tgt := 256) d_133_252 (by decide)) ?_
              refine zl_tr (r_putI (kk := 5) d_133_256 ow_133 f_9_71 la_30 (by decide) rfl) ?_
              exact r_vret d_133_259 rt_133
            · skip
              refine zl_tr (r_iconst d_133_255 (by decide)) ?_
              refine zl_tr (r_putI (kk := 5) d_133_256 ow_133 f_9_71 la_30 (by decide) rfl) ?_
              exact r_vret d_133_259 rt_133
    · skip
      exact zl_rf
-- BranTub$Scanner.advance, from 178
set_option maxRecDepth 20000 in
theorem e_133_178 {h : zm_H} {x1 : Int} {x2 : Int} {x3 : Int} {w4 : zm_V} : zl (zk_V (zc 136 [zm_A 30, zm_I x3] h) (fun h1 => zr none 2 133 183 [zm_A 30, zm_I x1, zm_I x2, zm_I x3, w4] [] h1)) (zr none 2 133 178 [zm_A 30, zm_I x1, zm_I x2, zm_I x3, w4] [] h) := by
  refine zl_tr (r_aload_n d_133_178 rfl) ?_
  refine zl_tr (r_iload_n d_133_179 rfl) ?_
  refine zl_tr (r_VV [zm_A 30, zm_I x3] d_133_180 ow_133 cal_9_63 na_136 rfl rfl (Nat.le_of_ble_eq_true rfl) (by rw [rk_136]; decide) (zr_rcv la_30 ow_136) (zr_im mx_136 rfl (Nat.le_of_ble_eq_true rfl)) rt_136) (zl_V (fun h1 => ?_))
  exact zl_rf
-- BranTub$Scanner.advance, from 199
set_option maxRecDepth 20000 in
theorem e_133_199 {h : zm_H} {w1 : zm_V} {w2 : zm_V} {w3 : zm_V} {w4 : zm_V} (hw3 : zm_cat w3 ≠ 2) : zl (if (0 : Int) = 0 then (if (h 30 3) = 1 then (zk_I (zc 137 [zm_A 30, zm_I (h 30 4)] h) (fun v1 h2 => some (zm_U, (zm_wr h2 30 5 v1)))) else (some (zm_U, (zm_wr h 30 5 (-1))))) else (if (h 30 3) = 3 then (if (h 30 3) = 1 then (zk_I (zc 137 [zm_A 30, zm_I (h 30 4)] h) (fun v3 h4 => some (zm_U, (zm_wr h4 30 5 v3)))) else (some (zm_U, (zm_wr h 30 5 (-1))))) else (if (h 30 3) = 0 then (if (h 30 3) = 1 then (zk_I (zc 137 [zm_A 30, zm_I (h 30 4)] h) (fun v5 h6 => some (zm_U, (zm_wr h6 30 5 v5)))) else (some (zm_U, (zm_wr h 30 5 (-1))))) else (if ((zm_wr (zm_wr h 30 3 4) 30 7 ((zm_wr h 30 3 4) 30 6)) 30 3) = 1 then (zk_I (zc 137 [zm_A 30, zm_I ((zm_wr (zm_wr h 30 3 4) 30 7 ((zm_wr h 30 3 4) 30 6)) 30 4)] (zm_wr (zm_wr h 30 3 4) 30 7 ((zm_wr h 30 3 4) 30 6))) (fun v7 h8 => some (zm_U, (zm_wr h8 30 5 v7)))) else (some (zm_U, (zm_wr (zm_wr (zm_wr h 30 3 4) 30 7 ((zm_wr h 30 3 4) 30 6)) 30 5 (-1)))))))) (zr none 2 133 199 [zm_A 30, w1, w2, w3, w4] [] h) := by
  refine zl_tr (r_iconst d_133_199 (by decide)) ?_
  refine zl_tr (r_istore (loc' := [zm_A 30, w1, w2, w3, zm_I 0]) d_133_200 (Nat.le_of_ble_eq_true rfl) (zr_k1 rfl hw3 rfl)) ?_
  refine zl_tr (r_iload d_133_202 rfl) ?_
  refine zl_tr (r_if_eq (tgt := 235) d_133_204 (by decide)) (zl_if ?_ ?_)
  · skip
    refine zl_tr (r_aload_n d_133_235 rfl) ?_
    refine zl_tr (r_aload_n d_133_236 rfl) ?_
    refine zl_tr (r_getI (kk := 3) d_133_237 ow_133 f_9_35 la_30 (by decide) rfl) ?_
    refine zl_tr (r_iconst d_133_240 (by decide)) ?_
    refine zl_tr (r_icmp_ne (tgt := 255) d_133_241 (by decide)) (zl_if ?_ ?_)
    · skip
      refine zl_tr (r_aload_n d_133_244 rfl) ?_
      refine zl_tr (r_aload_n d_133_245 rfl) ?_
      refine zl_tr (r_getI (kk := 4) d_133_246 ow_133 f_9_54 la_30 (by decide) rfl) ?_
      refine zl_tr (r_VI [zm_A 30, zm_I (h 30 4)] d_133_249 ow_133 cal_9_67 na_137 rfl rfl (Nat.le_of_ble_eq_true rfl) (by rw [rk_137]; decide) (zr_rcv la_30 ow_137) (zr_im mx_137 rfl (Nat.le_of_ble_eq_true rfl)) (by rw [rt_137]; decide)) (zl_I (fun v1 h2 => ?_))
      refine zl_tr (r_goto (tgt := 256) d_133_252 (by decide)) ?_
      refine zl_tr (r_putI (kk := 5) d_133_256 ow_133 f_9_71 la_30 (by decide) rfl) ?_
      exact r_vret d_133_259 rt_133
    · skip
      refine zl_tr (r_iconst d_133_255 (by decide)) ?_
      refine zl_tr (r_putI (kk := 5) d_133_256 ow_133 f_9_71 la_30 (by decide) rfl) ?_
      exact r_vret d_133_259 rt_133
  · skip
    refine zl_tr (r_aload_n d_133_207 rfl) ?_
    refine zl_tr (r_getI (kk := 3) d_133_208 ow_133 f_9_35 la_30 (by decide) rfl) ?_
    refine zl_tr (r_iconst d_133_211 (by decide)) ?_
    refine zl_tr (r_icmp_eq (tgt := 235) d_133_212 (by decide)) (zl_if ?_ ?_)
    · skip
      refine zl_tr (r_aload_n d_133_235 rfl) ?_
      refine zl_tr (r_aload_n d_133_236 rfl) ?_
      refine zl_tr (r_getI (kk := 3) d_133_237 ow_133 f_9_35 la_30 (by decide) rfl) ?_
      refine zl_tr (r_iconst d_133_240 (by decide)) ?_
      refine zl_tr (r_icmp_ne (tgt := 255) d_133_241 (by decide)) (zl_if ?_ ?_)
      · skip
        refine zl_tr (r_aload_n d_133_244 rfl) ?_
        refine zl_tr (r_aload_n d_133_245 rfl) ?_
        refine zl_tr (r_getI (kk := 4) d_133_246 ow_133 f_9_54 la_30 (by decide) rfl) ?_
        refine zl_tr (r_VI [zm_A 30, zm_I (h 30 4)] d_133_249 ow_133 cal_9_67 na_137 rfl rfl (Nat.le_of_ble_eq_true rfl) (by rw [rk_137]; decide) (zr_rcv la_30 ow_137) (zr_im mx_137 rfl (Nat.le_of_ble_eq_true rfl)) (by rw [rt_137]; decide)) (zl_I (fun v3 h4 => ?_))
        refine zl_tr (r_goto (tgt := 256) d_133_252 (by decide)) ?_
        refine zl_tr (r_putI (kk := 5) d_133_256 ow_133 f_9_71 la_30 (by decide) rfl) ?_
        exact r_vret d_133_259 rt_133
      · skip
        refine zl_tr (r_iconst d_133_255 (by decide)) ?_
        refine zl_tr (r_putI (kk := 5) d_133_256 ow_133 f_9_71 la_30 (by decide) rfl) ?_
        exact r_vret d_133_259 rt_133
    · skip
      refine zl_tr (r_aload_n d_133_215 rfl) ?_
      refine zl_tr (r_getI (kk := 3) d_133_216 ow_133 f_9_35 la_30 (by decide) rfl) ?_
      refine zl_tr (r_if_eq (tgt := 235) d_133_219 (by decide)) (zl_if ?_ ?_)
      · skip
        refine zl_tr (r_aload_n d_133_235 rfl) ?_
        refine zl_tr (r_aload_n d_133_236 rfl) ?_
        refine zl_tr (r_getI (kk := 3) d_133_237 ow_133 f_9_35 la_30 (by decide) rfl) ?_
        refine zl_tr (r_iconst d_133_240 (by decide)) ?_
        refine zl_tr (r_icmp_ne (tgt := 255) d_133_241 (by decide)) (zl_if ?_ ?_)
        · skip
          refine zl_tr (r_aload_n d_133_244 rfl) ?_
          refine zl_tr (r_aload_n d_133_245 rfl) ?_
          refine zl_tr (r_getI (kk := 4) d_133_246 ow_133 f_9_54 la_30 (by decide) rfl) ?_
          refine zl_tr (r_VI [zm_A 30, zm_I (h 30 4)] d_133_249 ow_133 cal_9_67 na_137 rfl rfl (Nat.le_of_ble_eq_true rfl) (by rw [rk_137]; decide) (zr_rcv la_30 ow_137) (zr_im mx_137 rfl (Nat.le_of_ble_eq_true rfl)) (by rw [rt_137]; decide)) (zl_I (fun v5 h6 => ?_))
          refine zl_tr (r_goto (tgt := 256) d_133_252 (by decide)) ?_
          refine zl_tr (r_putI (kk := 5) d_133_256 ow_133 f_9_71 la_30 (by decide) rfl) ?_
          exact r_vret d_133_259 rt_133
        · skip
          refine zl_tr (r_iconst d_133_255 (by decide)) ?_
          refine zl_tr (r_putI (kk := 5) d_133_256 ow_133 f_9_71 la_30 (by decide) rfl) ?_
          exact r_vret d_133_259 rt_133
      · skip
        refine zl_tr (r_aload_n d_133_222 rfl) ?_
        refine zl_tr (r_iconst d_133_223 (by decide)) ?_
        refine zl_tr (r_putI (kk := 3) d_133_224 ow_133 f_9_35 la_30 (by decide) rfl) ?_
        refine zl_tr (r_aload_n d_133_227 rfl) ?_
        refine zl_tr (r_aload_n d_133_228 rfl) ?_
        refine zl_tr (r_getI (kk := 6) d_133_229 ow_133 f_9_48 la_30 (by decide) rfl) ?_
        refine zl_tr (r_putI (kk := 7) d_133_232 ow_133 f_9_51 la_30 (by decide) rfl) ?_
        refine zl_tr (r_aload_n d_133_235 rfl) ?_
        refine zl_tr (r_aload_n d_133_236 rfl) ?_
        refine zl_tr (r_getI (kk := 3) d_133_237 ow_133 f_9_35 la_30 (by decide) rfl) ?_
        refine zl_tr (r_iconst d_133_240 (by decide)) ?_
        refine zl_tr (r_icmp_ne (tgt := 255) d_133_241 (by decide)) (zl_if ?_ ?_)
        · skip
          refine zl_tr (r_aload_n d_133_244 rfl) ?_
          refine zl_tr (r_aload_n d_133_245 rfl) ?_
          refine zl_tr (r_getI (kk := 4) d_133_246 ow_133 f_9_54 la_30 (by decide) rfl) ?_
          refine zl_tr (r_VI [zm_A 30, zm_I ((zm_wr (zm_wr h 30 3 4) 30 7 ((zm_wr h 30 3 4) 30 6)) 30 4)] d_133_249 ow_133 cal_9_67 na_137 rfl rfl (Nat.le_of_ble_eq_true rfl) (by rw [rk_137]; decide) (zr_rcv la_30 ow_137) (zr_im mx_137 rfl (Nat.le_of_ble_eq_true rfl)) (by rw [rt_137]; decide)) (zl_I (fun v7 h8 => ?_))
          refine zl_tr (r_goto (tgt := 256) d_133_252 (by decide)) ?_
          refine zl_tr (r_putI (kk := 5) d_133_256 ow_133 f_9_71 la_30 (by decide) rfl) ?_
          exact r_vret d_133_259 rt_133
        · skip
          refine zl_tr (r_iconst d_133_255 (by decide)) ?_
          refine zl_tr (r_putI (kk := 5) d_133_256 ow_133 f_9_71 la_30 (by decide) rfl) ?_
          exact r_vret d_133_259 rt_133
-- BranTub$Scanner.readWord
set_option maxRecDepth 20000 in
theorem e_134 {h : zm_H}  : zl (zr none 1 134 5 [zm_A 30, zm_U] [] (zm_wr h 30 3 1)) (zc 134 [zm_A 30] h) := by
  rw [zc_eq (loc := [zm_A 30, zm_U]) (rk_134 _) rfl]
  refine zl_tr (r_aload_n d_134_0 rfl) ?_
  refine zl_tr (r_iconst d_134_1 (by decide)) ?_
  refine zl_tr (r_putI (kk := 3) d_134_2 ow_134 f_9_35 la_30 (by decide) rfl) ?_
  exact zl_rf
-- BranTub$Scanner.readWord, from 5
set_option maxRecDepth 20000 in
theorem e_134_5 {h : zm_H} {w1 : zm_V} : zl (if (h 30 2) < (h 5 1) then (zm_ck (0 ≤ (h 30 2) ∧ (h 30 2) < ((1600 : Nat) : Int)) (if (h 6 (h 30 2)) < 97 then (some (zm_U, h)) else (zm_ck (0 ≤ (h 30 2) ∧ (h 30 2) < ((1600 : Nat) : Int)) (if 122 < (h 6 (h 30 2)) then (some (zm_U, h)) else (zm_ck (zm_i32 ((h 30 2) - (h 30 6))) (if ((h 30 2) - (h 30 6)) = 6 then (some (zm_U, (zm_wr (zm_wr h 30 3 4) 30 7 ((zm_wr h 30 3 4) 30 2)))) else (zm_ck (0 ≤ (h 30 2) ∧ (h 30 2) < ((1600 : Nat) : Int)) (zm_ck (zm_i32 ((h 6 (h 30 2)) - 97)) (zm_ck (zm_i32 (((h 6 (h 30 2)) - 97) + 1)) (zm_ck (zm_i32 (5 * ((h 30 2) - (h 30 6)))) (zm_ck (zm_i32 (((zm_wr h 30 4 (zb_ior (h 30 4) (zb_ishl (((h 6 (h 30 2)) - 97) + 1) (5 * ((h 30 2) - (h 30 6)))))) 30 2) + 1)) (zr none 1 134 5 [zm_A 30, zm_I ((h 30 2) - (h 30 6))] [] (zm_wr (zm_wr h 30 4 (zb_ior (h 30 4) (zb_ishl (((h 6 (h 30 2)) - 97) + 1) (5 * ((h 30 2) - (h 30 6)))))) 30 2 (((zm_wr h 30 4 (zb_ior (h 30 4) (zb_ishl (((h 6 (h 30 2)) - 97) + 1) (5 * ((h 30 2) - (h 30 6)))))) 30 2) + 1)))))))))))))) else (some (zm_U, h))) (zr none 1 134 5 [zm_A 30, w1] [] h) := by
  refine zl_tr (r_aload_n d_134_5 rfl) ?_
  refine zl_tr (r_getI (kk := 2) d_134_6 ow_134 f_9_31 la_30 (by decide) rfl) ?_
  refine zl_tr (r_aload_n d_134_9 rfl) ?_
  refine zl_tr (r_getR d_134_10 ow_134 f_9_15 la_30 (by decide) fr_30_1) ?_
  refine zl_tr (r_getI (kk := 1) d_134_13 ow_134 f_9_41 la_5 (by decide) rfl) ?_
  refine zl_tr (r_icmp_ge (tgt := 126) d_134_16 (by decide)) (zl_if ?_ ?_)
  · skip
    refine zl_tr (r_aload_n d_134_19 rfl) ?_
    refine zl_tr (r_getR d_134_20 ow_134 f_9_15 la_30 (by decide) fr_30_1) ?_
    refine zl_tr (r_getR d_134_23 ow_134 f_9_45 la_5 (by decide) fr_5_0) ?_
    refine zl_tr (r_aload_n d_134_26 rfl) ?_
    refine zl_tr (r_getI (kk := 2) d_134_27 ow_134 f_9_31 la_30 (by decide) rfl) ?_
    refine zl_tr (r_iaload d_134_30 la_6) (zl_ck ?_)
    refine zl_tr (r_bipush d_134_31 (by decide)) ?_
    refine zl_tr (r_icmp_lt (tgt := 126) d_134_33 (by decide)) (zl_if ?_ ?_)
    · skip
      exact r_vret d_134_126 rt_134
    · skip
      refine zl_tr (r_aload_n d_134_36 rfl) ?_
      refine zl_tr (r_getR d_134_37 ow_134 f_9_15 la_30 (by decide) fr_30_1) ?_
      refine zl_tr (r_getR d_134_40 ow_134 f_9_45 la_5 (by decide) fr_5_0) ?_
      refine zl_tr (r_aload_n d_134_43 rfl) ?_
      refine zl_tr (r_getI (kk := 2) d_134_44 ow_134 f_9_31 la_30 (by decide) rfl) ?_
      refine zl_tr (r_iaload d_134_47 la_6) (zl_ck ?_)
      refine zl_tr (r_bipush d_134_48 (by decide)) ?_
      refine zl_tr (r_icmp_gt (tgt := 126) d_134_50 (by decide)) (zl_if ?_ ?_)
      · skip
        exact r_vret d_134_126 rt_134
      · skip
        refine zl_tr (r_aload_n d_134_53 rfl) ?_
        refine zl_tr (r_getI (kk := 2) d_134_54 ow_134 f_9_31 la_30 (by decide) rfl) ?_
        refine zl_tr (r_aload_n d_134_57 rfl) ?_
        refine zl_tr (r_getI (kk := 6) d_134_58 ow_134 f_9_48 la_30 (by decide) rfl) ?_
        refine zl_tr (r_isub d_134_61) (zl_ck ?_)
        refine zl_tr (r_istore_n (loc' := [zm_A 30, zm_I ((h 30 2) - (h 30 6))]) d_134_62 (Nat.le_of_ble_eq_true rfl) rfl) ?_
        refine zl_tr (r_iload_n d_134_63 rfl) ?_
        refine zl_tr (r_bipush d_134_64 (by decide)) ?_
        refine zl_tr (r_icmp_ne (tgt := 83) d_134_66 (by decide)) (zl_if ?_ ?_)
        · skip
          refine zl_tr (r_aload_n d_134_69 rfl) ?_
          refine zl_tr (r_iconst d_134_70 (by decide)) ?_
          refine zl_tr (r_putI (kk := 3) d_134_71 ow_134 f_9_35 la_30 (by decide) rfl) ?_
          refine zl_tr (r_aload_n d_134_74 rfl) ?_
          refine zl_tr (r_aload_n d_134_75 rfl) ?_
          refine zl_tr (r_getI (kk := 2) d_134_76 ow_134 f_9_31 la_30 (by decide) rfl) ?_
          refine zl_tr (r_putI (kk := 7) d_134_79 ow_134 f_9_51 la_30 (by decide) rfl) ?_
          exact r_vret d_134_82 rt_134
        · skip
          refine zl_tr (r_aload_n d_134_83 rfl) ?_
          refine zl_tr (r_dup d_134_84 rfl) ?_
          refine zl_tr (r_getI (kk := 4) d_134_85 ow_134 f_9_54 la_30 (by decide) rfl) ?_
          refine zl_tr (r_aload_n d_134_88 rfl) ?_
          refine zl_tr (r_getR d_134_89 ow_134 f_9_15 la_30 (by decide) fr_30_1) ?_
          refine zl_tr (r_getR d_134_92 ow_134 f_9_45 la_5 (by decide) fr_5_0) ?_
          refine zl_tr (r_aload_n d_134_95 rfl) ?_
          refine zl_tr (r_getI (kk := 2) d_134_96 ow_134 f_9_31 la_30 (by decide) rfl) ?_
          refine zl_tr (r_iaload d_134_99 la_6) (zl_ck ?_)
          refine zl_tr (r_bipush d_134_100 (by decide)) ?_
          refine zl_tr (r_isub d_134_102) (zl_ck ?_)
          refine zl_tr (r_iconst d_134_103 (by decide)) ?_
          refine zl_tr (r_iadd d_134_104) (zl_ck ?_)
          refine zl_tr (r_iconst d_134_105 (by decide)) ?_
          refine zl_tr (r_iload_n d_134_106 rfl) ?_
          refine zl_tr (r_imul d_134_107) (zl_ck ?_)
          refine zl_tr (r_ishl d_134_108) ?_
          refine zl_tr (r_ior d_134_109) ?_
          refine zl_tr (r_putI (kk := 4) d_134_110 ow_134 f_9_54 la_30 (by decide) rfl) ?_
          refine zl_tr (r_aload_n d_134_113 rfl) ?_
          refine zl_tr (r_dup d_134_114 rfl) ?_
          refine zl_tr (r_getI (kk := 2) d_134_115 ow_134 f_9_31 la_30 (by decide) rfl) ?_
          refine zl_tr (r_iconst d_134_118 (by decide)) ?_
          refine zl_tr (r_iadd d_134_119) (zl_ck ?_)
          refine zl_tr (r_putI (kk := 2) d_134_120 ow_134 f_9_31 la_30 (by decide) rfl) ?_
          refine zl_tr (r_goto (tgt := 5) d_134_123 (by decide)) ?_
          exact zl_rf
  · skip
    exact r_vret d_134_126 rt_134
-- BranTub$Scanner.readNumber
set_option maxRecDepth 20000 in
theorem e_135 {h : zm_H}  : zl (zr none 1 135 5 [zm_A 30] [] (zm_wr h 30 3 2)) (zc 135 [zm_A 30] h) := by
  rw [zc_eq (loc := [zm_A 30]) (rk_135 _) rfl]
  refine zl_tr (r_aload_n d_135_0 rfl) ?_
  refine zl_tr (r_iconst d_135_1 (by decide)) ?_
  refine zl_tr (r_putI (kk := 3) d_135_2 ow_135 f_9_35 la_30 (by decide) rfl) ?_
  exact zl_rf
-- BranTub$Scanner.readNumber, from 5
set_option maxRecDepth 20000 in
theorem e_135_5 {h : zm_H}  : zl (if (h 30 2) < (h 5 1) then (zm_ck (0 ≤ (h 30 2) ∧ (h 30 2) < ((1600 : Nat) : Int)) (if (h 6 (h 30 2)) < 48 then (some (zm_U, h)) else (zm_ck (0 ≤ (h 30 2) ∧ (h 30 2) < ((1600 : Nat) : Int)) (if 57 < (h 6 (h 30 2)) then (some (zm_U, h)) else (zm_ck (zm_i32 ((h 30 2) - (h 30 6))) (if ((h 30 2) - (h 30 6)) = 4 then (some (zm_U, (zm_wr (zm_wr h 30 3 4) 30 7 ((zm_wr h 30 3 4) 30 2)))) else (zm_ck (zm_i32 ((h 30 4) * 10)) (zm_ck (0 ≤ (h 30 2) ∧ (h 30 2) < ((1600 : Nat) : Int)) (zm_ck (zm_i32 (((h 30 4) * 10) + (h 6 (h 30 2)))) (zm_ck (zm_i32 ((((h 30 4) * 10) + (h 6 (h 30 2))) - 48)) (zm_ck (zm_i32 (((zm_wr h 30 4 ((((h 30 4) * 10) + (h 6 (h 30 2))) - 48)) 30 2) + 1)) (zr none 1 135 5 [zm_A 30] [] (zm_wr (zm_wr h 30 4 ((((h 30 4) * 10) + (h 6 (h 30 2))) - 48)) 30 2 (((zm_wr h 30 4 ((((h 30 4) * 10) + (h 6 (h 30 2))) - 48)) 30 2) + 1)))))))))))))) else (some (zm_U, h))) (zr none 1 135 5 [zm_A 30] [] h) := by
  refine zl_tr (r_aload_n d_135_5 rfl) ?_
  refine zl_tr (r_getI (kk := 2) d_135_6 ow_135 f_9_31 la_30 (by decide) rfl) ?_
  refine zl_tr (r_aload_n d_135_9 rfl) ?_
  refine zl_tr (r_getR d_135_10 ow_135 f_9_15 la_30 (by decide) fr_30_1) ?_
  refine zl_tr (r_getI (kk := 1) d_135_13 ow_135 f_9_41 la_5 (by decide) rfl) ?_
  refine zl_tr (r_icmp_ge (tgt := 120) d_135_16 (by decide)) (zl_if ?_ ?_)
  · skip
    refine zl_tr (r_aload_n d_135_19 rfl) ?_
    refine zl_tr (r_getR d_135_20 ow_135 f_9_15 la_30 (by decide) fr_30_1) ?_
    refine zl_tr (r_getR d_135_23 ow_135 f_9_45 la_5 (by decide) fr_5_0) ?_
    refine zl_tr (r_aload_n d_135_26 rfl) ?_
    refine zl_tr (r_getI (kk := 2) d_135_27 ow_135 f_9_31 la_30 (by decide) rfl) ?_
    refine zl_tr (r_iaload d_135_30 la_6) (zl_ck ?_)
    refine zl_tr (r_bipush d_135_31 (by decide)) ?_
    refine zl_tr (r_icmp_lt (tgt := 120) d_135_33 (by decide)) (zl_if ?_ ?_)
    · skip
      exact r_vret d_135_120 rt_135
    · skip
      refine zl_tr (r_aload_n d_135_36 rfl) ?_
      refine zl_tr (r_getR d_135_37 ow_135 f_9_15 la_30 (by decide) fr_30_1) ?_
      refine zl_tr (r_getR d_135_40 ow_135 f_9_45 la_5 (by decide) fr_5_0) ?_
      refine zl_tr (r_aload_n d_135_43 rfl) ?_
      refine zl_tr (r_getI (kk := 2) d_135_44 ow_135 f_9_31 la_30 (by decide) rfl) ?_
      refine zl_tr (r_iaload d_135_47 la_6) (zl_ck ?_)
      refine zl_tr (r_bipush d_135_48 (by decide)) ?_
      refine zl_tr (r_icmp_gt (tgt := 120) d_135_50 (by decide)) (zl_if ?_ ?_)
      · skip
        exact r_vret d_135_120 rt_135
      · skip
        refine zl_tr (r_aload_n d_135_53 rfl) ?_
        refine zl_tr (r_getI (kk := 2) d_135_54 ow_135 f_9_31 la_30 (by decide) rfl) ?_
        refine zl_tr (r_aload_n d_135_57 rfl) ?_
        refine zl_tr (r_getI (kk := 6) d_135_58 ow_135 f_9_48 la_30 (by decide) rfl) ?_
        refine zl_tr (r_isub d_135_61) (zl_ck ?_)
        refine zl_tr (r_iconst d_135_62 (by decide)) ?_
        refine zl_tr (r_icmp_ne (tgt := 80) d_135_63 (by decide)) (zl_if ?_ ?_)
        · skip
          refine zl_tr (r_aload_n d_135_66 rfl) ?_
          refine zl_tr (r_iconst d_135_67 (by decide)) ?_
          refine zl_tr (r_putI (kk := 3) d_135_68 ow_135 f_9_35 la_30 (by decide) rfl) ?_
          refine zl_tr (r_aload_n d_135_71 rfl) ?_
          refine zl_tr (r_aload_n d_135_72 rfl) ?_
          refine zl_tr (r_getI (kk := 2) d_135_73 ow_135 f_9_31 la_30 (by decide) rfl) ?_
          refine zl_tr (r_putI (kk := 7) d_135_76 ow_135 f_9_51 la_30 (by decide) rfl) ?_
          exact r_vret d_135_79 rt_135
        · skip
          refine zl_tr (r_aload_n d_135_80 rfl) ?_
          refine zl_tr (r_aload_n d_135_81 rfl) ?_
          refine zl_tr (r_getI (kk := 4) d_135_82 ow_135 f_9_54 la_30 (by decide) rfl) ?_
          refine zl_tr (r_bipush d_135_85 (by decide)) ?_
          refine zl_tr (r_imul d_135_87) (zl_ck ?_)
          refine zl_tr (r_aload_n d_135_88 rfl) ?_
          refine zl_tr (r_getR d_135_89 ow_135 f_9_15 la_30 (by decide) fr_30_1) ?_
          refine zl_tr (r_getR d_135_92 ow_135 f_9_45 la_5 (by decide) fr_5_0) ?_
          refine zl_tr (r_aload_n d_135_95 rfl) ?_
          refine zl_tr (r_getI (kk := 2) d_135_96 ow_135 f_9_31 la_30 (by decide) rfl) ?_
          refine zl_tr (r_iaload d_135_99 la_6) (zl_ck ?_)
          refine zl_tr (r_iadd d_135_100) (zl_ck ?_)
          refine zl_tr (r_bipush d_135_101 (by decide)) ?_
          refine zl_tr (r_isub d_135_103) (zl_ck ?_)
          refine zl_tr (r_putI (kk := 4) d_135_104 ow_135 f_9_54 la_30 (by decide) rfl) ?_
          refine zl_tr (r_aload_n d_135_107 rfl) ?_
          refine zl_tr (r_dup d_135_108 rfl) ?_
          refine zl_tr (r_getI (kk := 2) d_135_109 ow_135 f_9_31 la_30 (by decide) rfl) ?_
          refine zl_tr (r_iconst d_135_112 (by decide)) ?_
          refine zl_tr (r_iadd d_135_113) (zl_ck ?_)
          refine zl_tr (r_putI (kk := 2) d_135_114 ow_135 f_9_31 la_30 (by decide) rfl) ?_
          refine zl_tr (r_goto (tgt := 5) d_135_117 (by decide)) ?_
          exact zl_rf
  · skip
    exact r_vret d_135_120 rt_135
-- BranTub$Scanner.readSign
set_option maxRecDepth 20000 in
theorem e_136 {h : zm_H} {x1 : Int} : zl (if x1 = (-1) then (if ((zm_wr (zm_wr h 30 3 0) 30 4 x1) 30 3) = 3 then (zm_ck (zm_i32 (((zm_wr (zm_wr h 30 3 0) 30 4 x1) 30 2) + 1)) (some (zm_U, (zm_wr (zm_wr (zm_wr h 30 3 0) 30 4 x1) 30 2 (((zm_wr (zm_wr h 30 3 0) 30 4 x1) 30 2) + 1))))) else (some (zm_U, (zm_wr (zm_wr h 30 3 0) 30 4 x1)))) else (if ((zm_wr (zm_wr h 30 3 3) 30 4 x1) 30 3) = 3 then (zm_ck (zm_i32 (((zm_wr (zm_wr h 30 3 3) 30 4 x1) 30 2) + 1)) (some (zm_U, (zm_wr (zm_wr (zm_wr h 30 3 3) 30 4 x1) 30 2 (((zm_wr (zm_wr h 30 3 3) 30 4 x1) 30 2) + 1))))) else (some (zm_U, (zm_wr (zm_wr h 30 3 3) 30 4 x1))))) (zc 136 [zm_A 30, zm_I x1] h) := by
  rw [zc_eq (loc := [zm_A 30, zm_I x1]) (rk_136 _) rfl]
  refine zl_tr (r_aload_n d_136_0 rfl) ?_
  refine zl_tr (r_iload_n d_136_1 rfl) ?_
  refine zl_tr (r_iconst d_136_2 (by decide)) ?_
  refine zl_tr (r_icmp_ne (tgt := 10) d_136_3 (by decide)) (zl_if ?_ ?_)
  · skip
    refine zl_tr (r_iconst d_136_6 (by decide)) ?_
    refine zl_tr (r_goto (tgt := 11) d_136_7 (by decide)) ?_
    refine zl_tr (r_putI (kk := 3) d_136_11 ow_136 f_9_35 la_30 (by decide) rfl) ?_
    refine zl_tr (r_aload_n d_136_14 rfl) ?_
    refine zl_tr (r_iload_n d_136_15 rfl) ?_
    refine zl_tr (r_putI (kk := 4) d_136_16 ow_136 f_9_54 la_30 (by decide) rfl) ?_
    refine zl_tr (r_aload_n d_136_19 rfl) ?_
    refine zl_tr (r_getI (kk := 3) d_136_20 ow_136 f_9_35 la_30 (by decide) rfl) ?_
    refine zl_tr (r_iconst d_136_23 (by decide)) ?_
    refine zl_tr (r_icmp_ne (tgt := 37) d_136_24 (by decide)) (zl_if ?_ ?_)
    · skip
      refine zl_tr (r_aload_n d_136_27 rfl) ?_
      refine zl_tr (r_dup d_136_28 rfl) ?_
      refine zl_tr (r_getI (kk := 2) d_136_29 ow_136 f_9_31 la_30 (by decide) rfl) ?_
      refine zl_tr (r_iconst d_136_32 (by decide)) ?_
      refine zl_tr (r_iadd d_136_33) (zl_ck ?_)
      refine zl_tr (r_putI (kk := 2) d_136_34 ow_136 f_9_31 la_30 (by decide) rfl) ?_
      exact r_vret d_136_37 rt_136
    · skip
      exact r_vret d_136_37 rt_136
  · skip
    refine zl_tr (r_iconst d_136_10 (by decide)) ?_
    refine zl_tr (r_putI (kk := 3) d_136_11 ow_136 f_9_35 la_30 (by decide) rfl) ?_
    refine zl_tr (r_aload_n d_136_14 rfl) ?_
    refine zl_tr (r_iload_n d_136_15 rfl) ?_
    refine zl_tr (r_putI (kk := 4) d_136_16 ow_136 f_9_54 la_30 (by decide) rfl) ?_
    refine zl_tr (r_aload_n d_136_19 rfl) ?_
    refine zl_tr (r_getI (kk := 3) d_136_20 ow_136 f_9_35 la_30 (by decide) rfl) ?_
    refine zl_tr (r_iconst d_136_23 (by decide)) ?_
    refine zl_tr (r_icmp_ne (tgt := 37) d_136_24 (by decide)) (zl_if ?_ ?_)
    · skip
      refine zl_tr (r_aload_n d_136_27 rfl) ?_
      refine zl_tr (r_dup d_136_28 rfl) ?_
      refine zl_tr (r_getI (kk := 2) d_136_29 ow_136 f_9_31 la_30 (by decide) rfl) ?_
      refine zl_tr (r_iconst d_136_32 (by decide)) ?_
      refine zl_tr (r_iadd d_136_33) (zl_ck ?_)
      refine zl_tr (r_putI (kk := 2) d_136_34 ow_136 f_9_31 la_30 (by decide) rfl) ?_
      exact r_vret d_136_37 rt_136
    · skip
      exact r_vret d_136_37 rt_136
-- BranTub$Scanner.ownWordOf
set_option maxRecDepth 20000 in
theorem e_137 {h : zm_H} {x1 : Int} : zl (zr none 1 137 2 [zm_A 30, zm_I x1, zm_I 0] [] h) (zc 137 [zm_A 30, zm_I x1] h) := by
  rw [zc_eq (loc := [zm_A 30, zm_I x1, zm_U]) (rk_137 _) rfl]
  refine zl_tr (r_iconst d_137_0 (by decide)) ?_
  refine zl_tr (r_istore_n (loc' := [zm_A 30, zm_I x1, zm_I 0]) d_137_1 (Nat.le_of_ble_eq_true rfl) rfl) ?_
  exact zl_rf
-- BranTub$Scanner.ownWordOf, from 2
set_option maxRecDepth 20000 in
theorem e_137_2 {h : zm_H} {x1 : Int} {x2 : Int} : zl (if x2 < 25 then (zm_ck (0 ≤ x2 ∧ x2 < ((25 : Nat) : Int)) (if (h 31 x2) = x1 then (some (zm_I x2, h)) else (zm_ck (zm_i32 (x2 + 1)) (zr none 1 137 2 [zm_A 30, zm_I x1, zm_I (x2 + 1)] [] h)))) else (some (zm_I (-1), h))) (zr none 1 137 2 [zm_A 30, zm_I x1, zm_I x2] [] h) := by
  refine zl_tr (r_iload_n d_137_2 rfl) ?_
  refine zl_tr (r_bipush d_137_3 (by decide)) ?_
  refine zl_tr (r_icmp_ge (tgt := 26) d_137_5 (by decide)) (zl_if ?_ ?_)
  · skip
    refine zl_tr (r_aload_n d_137_8 rfl) ?_
    refine zl_tr (r_getR d_137_9 ow_137 f_9_9 la_30 (by decide) fr_30_0) ?_
    refine zl_tr (r_iload_n d_137_12 rfl) ?_
    refine zl_tr (r_iaload d_137_13 la_31) (zl_ck ?_)
    refine zl_tr (r_iload_n d_137_14 rfl) ?_
    refine zl_tr (r_icmp_ne (tgt := 20) d_137_15 (by decide)) (zl_if ?_ ?_)
    · skip
      refine zl_tr (r_iload_n d_137_18 rfl) ?_
      exact r_iret d_137_19 rt_137
    · skip
      refine zl_tr (r_iinc (loc' := [zm_A 30, zm_I x1, zm_I (x2 + 1)]) d_137_20 rfl (Nat.le_of_ble_eq_true rfl) rfl) (zl_ck ?_)
      refine zl_tr (r_goto (tgt := 2) d_137_23 (by decide)) ?_
      exact zl_rf
  · skip
    refine zl_tr (r_iconst d_137_26 (by decide)) ?_
    exact r_iret d_137_27 rt_137
-- BranTub$Scanner.isOwn
set_option maxRecDepth 20000 in
theorem e_138 {h : zm_H} {x1 : Int} : zl (if (h 30 5) = x1 then (zm_ck (zm_bit 1) (some (zm_I 1, h))) else (zm_ck (zm_bit 0) (some (zm_I 0, h)))) (zc 138 [zm_A 30, zm_I x1] h) := by
  rw [zc_eq (loc := [zm_A 30, zm_I x1]) (rk_138 _) rfl]
  refine zl_tr (r_aload_n d_138_0 rfl) ?_
  refine zl_tr (r_getI (kk := 5) d_138_1 ow_138 f_9_71 la_30 (by decide) rfl) ?_
  refine zl_tr (r_iload_n d_138_4 rfl) ?_
  refine zl_tr (r_icmp_ne (tgt := 12) d_138_5 (by decide)) (zl_if ?_ ?_)
  · skip
    refine zl_tr (r_iconst d_138_8 (by decide)) ?_
    refine zl_tr (r_goto (tgt := 13) d_138_9 (by decide)) ?_
    exact r_zret d_138_13 rt_138
  · skip
    refine zl_tr (r_iconst d_138_12 (by decide)) ?_
    exact r_zret d_138_13 rt_138
-- BranTub$Scanner.isSign
set_option maxRecDepth 20000 in
theorem e_139 {h : zm_H} {x1 : Int} : zl (if (h 30 3) = 3 then (if (h 30 4) = x1 then (zm_ck (zm_bit 1) (some (zm_I 1, h))) else (zm_ck (zm_bit 0) (some (zm_I 0, h)))) else (zm_ck (zm_bit 0) (some (zm_I 0, h)))) (zc 139 [zm_A 30, zm_I x1] h) := by
  rw [zc_eq (loc := [zm_A 30, zm_I x1]) (rk_139 _) rfl]
  refine zl_tr (r_aload_n d_139_0 rfl) ?_
  refine zl_tr (r_getI (kk := 3) d_139_1 ow_139 f_9_35 la_30 (by decide) rfl) ?_
  refine zl_tr (r_iconst d_139_4 (by decide)) ?_
  refine zl_tr (r_icmp_ne (tgt := 20) d_139_5 (by decide)) (zl_if ?_ ?_)
  · skip
    refine zl_tr (r_aload_n d_139_8 rfl) ?_
    refine zl_tr (r_getI (kk := 4) d_139_9 ow_139 f_9_54 la_30 (by decide) rfl) ?_
    refine zl_tr (r_iload_n d_139_12 rfl) ?_
    refine zl_tr (r_icmp_ne (tgt := 20) d_139_13 (by decide)) (zl_if ?_ ?_)
    · skip
      refine zl_tr (r_iconst d_139_16 (by decide)) ?_
      refine zl_tr (r_goto (tgt := 21) d_139_17 (by decide)) ?_
      exact r_zret d_139_21 rt_139
    · skip
      refine zl_tr (r_iconst d_139_20 (by decide)) ?_
      exact r_zret d_139_21 rt_139
  · skip
    refine zl_tr (r_iconst d_139_20 (by decide)) ?_
    exact r_zret d_139_21 rt_139
-- BranTub$Tape.add
set_option maxRecDepth 20000 in
theorem e_141 {h : zm_H} {x1 : Int} : zl (zr none 1 141 3 [zm_A 5, zm_I x1, zm_I 24] [] h) (zc 141 [zm_A 5, zm_I x1] h) := by
  rw [zc_eq (loc := [zm_A 5, zm_I x1, zm_U]) (rk_141 _) rfl]
  refine zl_tr (r_bipush d_141_0 (by decide)) ?_
  refine zl_tr (r_istore_n (loc' := [zm_A 5, zm_I x1, zm_I 24]) d_141_2 (Nat.le_of_ble_eq_true rfl) rfl) ?_
  exact zl_rf
-- BranTub$Tape.add, from 3
set_option maxRecDepth 20000 in
theorem e_141_3 {h : zm_H} {x1 : Int} {x2 : Int} : zl (if x2 < 0 then (some (zm_U, h)) else (if (h 5 1) < 1600 then (zm_ck (zm_i32 ((h 5 1) + 1)) (zm_ck (0 ≤ (h 5 1) ∧ (h 5 1) < ((1600 : Nat) : Int)) (zm_ck (zm_i32 (x2 + (-8))) (zr none 1 141 3 [zm_A 5, zm_I x1, zm_I (x2 + (-8))] [] (zm_wr (zm_wr h 5 1 ((h 5 1) + 1)) 6 (h 5 1) (zb_iand (zb_iushr x1 x2) 255)))))) else (zm_ck (zm_i32 (x2 + (-8))) (zr none 1 141 3 [zm_A 5, zm_I x1, zm_I (x2 + (-8))] [] h)))) (zr none 1 141 3 [zm_A 5, zm_I x1, zm_I x2] [] h) := by
  refine zl_tr (r_iload_n d_141_3 rfl) ?_
  refine zl_tr (r_if_lt (tgt := 46) d_141_4 (by decide)) (zl_if ?_ ?_)
  · skip
    exact r_vret d_141_46 rt_141
  · skip
    refine zl_tr (r_aload_n d_141_7 rfl) ?_
    refine zl_tr (r_getI (kk := 1) d_141_8 ow_141 f_10_15 la_5 (by decide) rfl) ?_
    refine zl_tr (r_sipush d_141_11 (by decide)) ?_
    refine zl_tr (r_icmp_ge (tgt := 40) d_141_14 (by decide)) (zl_if ?_ ?_)
    · skip
      refine zl_tr (r_aload_n d_141_17 rfl) ?_
      refine zl_tr (r_getR d_141_18 ow_141 f_10_9 la_5 (by decide) fr_5_0) ?_
      refine zl_tr (r_aload_n d_141_21 rfl) ?_
      refine zl_tr (r_dup d_141_22 rfl) ?_
      refine zl_tr (r_getI (kk := 1) d_141_23 ow_141 f_10_15 la_5 (by decide) rfl) ?_
      refine zl_tr (r_dup_x1 d_141_26 ⟨rfl, rfl⟩) ?_
      refine zl_tr (r_iconst d_141_27 (by decide)) ?_
      refine zl_tr (r_iadd d_141_28) (zl_ck ?_)
      refine zl_tr (r_putI (kk := 1) d_141_29 ow_141 f_10_15 la_5 (by decide) rfl) ?_
      refine zl_tr (r_iload_n d_141_32 rfl) ?_
      refine zl_tr (r_iload_n d_141_33 rfl) ?_
      refine zl_tr (r_iushr d_141_34) ?_
      refine zl_tr (r_sipush d_141_35 (by decide)) ?_
      refine zl_tr (r_iand d_141_38) ?_
      refine zl_tr (r_iastore d_141_39 la_6) (zl_ck ?_)
      refine zl_tr (r_iinc (loc' := [zm_A 5, zm_I x1, zm_I (x2 + (-8))]) d_141_40 rfl (Nat.le_of_ble_eq_true rfl) rfl) (zl_ck ?_)
      refine zl_tr (r_goto (tgt := 3) d_141_43 (by decide)) ?_
      exact zl_rf
    · skip
      refine zl_tr (r_iinc (loc' := [zm_A 5, zm_I x1, zm_I (x2 + (-8))]) d_141_40 rfl (Nat.le_of_ble_eq_true rfl) rfl) (zl_ck ?_)
      refine zl_tr (r_goto (tgt := 3) d_141_43 (by decide)) ?_
      exact zl_rf
-- BranTub$Tub.begin
set_option maxRecDepth 20000 in
theorem e_143 {h : zm_H} {o : Nat} (ho : zf_T o) {t : Nat} (ht : zf_F t) : zl (zr none 1 143 12 [zm_A o, zm_A t, zm_I 0] [] (zm_wr (zm_wr h o 0 0) o 1 0)) (zc 143 [zm_A o, zm_A t] h) := by
  rw [zc_eq (loc := [zm_A o, zm_A t, zm_U]) (rk_143 _) rfl]
  refine zl_tr (r_aload_n d_143_0 rfl) ?_
  refine zl_tr (r_iconst d_143_1 (by decide)) ?_
  refine zl_tr (r_putI (kk := 0) d_143_2 ow_143 f_11_21 (zt_o ho) (by decide) rfl) ?_
  refine zl_tr (r_aload_n d_143_5 rfl) ?_
  refine zl_tr (r_iconst d_143_6 (by decide)) ?_
  refine zl_tr (r_putI (kk := 1) d_143_7 ow_143 f_11_25 (zt_o ho) (by decide) rfl) ?_
  refine zl_tr (r_iconst d_143_10 (by decide)) ?_
  refine zl_tr (r_istore_n (loc' := [zm_A o, zm_A t, zm_I 0]) d_143_11 (Nat.le_of_ble_eq_true rfl) rfl) ?_
  exact zl_rf
-- BranTub$Tub.begin, from 12
set_option maxRecDepth 20000 in
theorem e_143_12 {h : zm_H} {x2 : Int} {o : Nat} (ho : zf_T o) {t : Nat} (ht : zf_F t) : zl (if x2 < 40 then (zm_ck (0 ≤ x2 ∧ x2 < ((40 : Nat) : Int)) (zm_ck (0 ≤ x2 ∧ x2 < ((40 : Nat) : Int)) (zm_ck (zm_i32 (x2 + 1)) (zr none 1 143 12 [zm_A o, zm_A t, zm_I (x2 + 1)] [] (zm_wr h (o + 1) x2 (h (t + 4) x2)))))) else (zr none 1 143 41 [zm_A o, zm_A t, zm_I 0] [] h)) (zr none 1 143 12 [zm_A o, zm_A t, zm_I x2] [] h) := by
  refine zl_tr (r_iload_n d_143_12 rfl) ?_
  refine zl_tr (r_aload_n d_143_13 rfl) ?_
  refine zl_tr (r_getR d_143_14 ow_143 f_11_9 (zt_o ho) (by decide) (zt_r2 ho)) ?_
  refine zl_tr (r_alen (nn := 40) d_143_17 (zt_a1 ho) (by decide) rfl) ?_
  refine zl_tr (r_icmp_ge (tgt := 39) d_143_18 (by decide)) (zl_if ?_ ?_)
  · skip
    refine zl_tr (r_aload_n d_143_21 rfl) ?_
    refine zl_tr (r_getR d_143_22 ow_143 f_11_9 (zt_o ho) (by decide) (zt_r2 ho)) ?_
    refine zl_tr (r_iload_n d_143_25 rfl) ?_
    refine zl_tr (r_aload_n d_143_26 rfl) ?_
    refine zl_tr (r_getR d_143_27 ow_143 f_11_28 (zf_o ht) (by decide) (zf_r8 ht)) ?_
    refine zl_tr (r_iload_n d_143_30 rfl) ?_
    refine zl_tr (r_iaload d_143_31 (zf_a4 ht)) (zl_ck ?_)
    refine zl_tr (r_iastore d_143_32 (zt_a1 ho)) (zl_ck ?_)
    refine zl_tr (r_iinc (loc' := [zm_A o, zm_A t, zm_I (x2 + 1)]) d_143_33 rfl (Nat.le_of_ble_eq_true rfl) rfl) (zl_ck ?_)
    refine zl_tr (r_goto (tgt := 12) d_143_36 (by decide)) ?_
    exact zl_rf
  · skip
    refine zl_tr (r_iconst d_143_39 (by decide)) ?_
    refine zl_tr (r_istore_n (loc' := [zm_A o, zm_A t, zm_I 0]) d_143_40 (Nat.le_of_ble_eq_true rfl) rfl) ?_
    exact zl_rf
-- BranTub$Tub.begin, from 41
set_option maxRecDepth 20000 in
theorem e_143_41 {h : zm_H} {x2 : Int} {o : Nat} (ho : zf_T o) {t : Nat} (ht : zf_F t) : zl (if x2 < 8 then (if x2 < (h t 3) then (zm_ck (0 ≤ x2 ∧ x2 < ((8 : Nat) : Int)) (zm_ck (zm_i32 (x2 + 1)) (zr none 1 143 41 [zm_A o, zm_A t, zm_I (x2 + 1)] [] (zm_wr h (o + 2) x2 (h t 4))))) else (zm_ck (0 ≤ x2 ∧ x2 < ((8 : Nat) : Int)) (zm_ck (zm_i32 (x2 + 1)) (zr none 1 143 41 [zm_A o, zm_A t, zm_I (x2 + 1)] [] (zm_wr h (o + 2) x2 0))))) else (zr none 1 143 80 [zm_A o, zm_A t, zm_I 0] [] h)) (zr none 1 143 41 [zm_A o, zm_A t, zm_I x2] [] h) := by
  refine zl_tr (r_iload_n d_143_41 rfl) ?_
  refine zl_tr (r_aload_n d_143_42 rfl) ?_
  refine zl_tr (r_getR d_143_43 ow_143 f_11_15 (zt_o ho) (by decide) (zt_r3 ho)) ?_
  refine zl_tr (r_alen (nn := 8) d_143_46 (zt_a2 ho) (by decide) rfl) ?_
  refine zl_tr (r_icmp_ge (tgt := 78) d_143_47 (by decide)) (zl_if ?_ ?_)
  · skip
    refine zl_tr (r_aload_n d_143_50 rfl) ?_
    refine zl_tr (r_getR d_143_51 ow_143 f_11_15 (zt_o ho) (by decide) (zt_r3 ho)) ?_
    refine zl_tr (r_iload_n d_143_54 rfl) ?_
    refine zl_tr (r_iload_n d_143_55 rfl) ?_
    refine zl_tr (r_aload_n d_143_56 rfl) ?_
    refine zl_tr (r_getI (kk := 3) d_143_57 ow_143 f_11_31 (zf_o ht) (by decide) rfl) ?_
    refine zl_tr (r_icmp_ge (tgt := 70) d_143_60 (by decide)) (zl_if ?_ ?_)
    · skip
      refine zl_tr (r_aload_n d_143_63 rfl) ?_
      refine zl_tr (r_getI (kk := 4) d_143_64 ow_143 f_11_34 (zf_o ht) (by decide) rfl) ?_
      refine zl_tr (r_goto (tgt := 71) d_143_67 (by decide)) ?_
      refine zl_tr (r_iastore d_143_71 (zt_a2 ho)) (zl_ck ?_)
      refine zl_tr (r_iinc (loc' := [zm_A o, zm_A t, zm_I (x2 + 1)]) d_143_72 rfl (Nat.le_of_ble_eq_true rfl) rfl) (zl_ck ?_)
      refine zl_tr (r_goto (tgt := 41) d_143_75 (by decide)) ?_
      exact zl_rf
    · skip
      refine zl_tr (r_iconst d_143_70 (by decide)) ?_
      refine zl_tr (r_iastore d_143_71 (zt_a2 ho)) (zl_ck ?_)
      refine zl_tr (r_iinc (loc' := [zm_A o, zm_A t, zm_I (x2 + 1)]) d_143_72 rfl (Nat.le_of_ble_eq_true rfl) rfl) (zl_ck ?_)
      refine zl_tr (r_goto (tgt := 41) d_143_75 (by decide)) ?_
      exact zl_rf
  · skip
    refine zl_tr (r_iconst d_143_78 (by decide)) ?_
    refine zl_tr (r_istore_n (loc' := [zm_A o, zm_A t, zm_I 0]) d_143_79 (Nat.le_of_ble_eq_true rfl) rfl) ?_
    exact zl_rf
-- BranTub$Tub.begin, from 80
set_option maxRecDepth 20000 in
theorem e_143_80 {h : zm_H} {w1 : zm_V} {x2 : Int} {o : Nat} (ho : zf_T o) (hw1 : zm_cat w1 ≠ 2) : zl (if x2 < 64 then (zm_ck (0 ≤ x2 ∧ x2 < ((64 : Nat) : Int)) (zm_ck (zm_i32 (x2 + 1)) (zr none 1 143 80 [zm_A o, w1, zm_I (x2 + 1)] [] (zm_wr h (o + 3) x2 0)))) else (some (zm_U, h))) (zr none 1 143 80 [zm_A o, w1, zm_I x2] [] h) := by
  refine zl_tr (r_iload_n d_143_80 rfl) ?_
  refine zl_tr (r_aload_n d_143_81 rfl) ?_
  refine zl_tr (r_getR d_143_82 ow_143 f_11_18 (zt_o ho) (by decide) (zt_r4 ho)) ?_
  refine zl_tr (r_alen (nn := 64) d_143_85 (zt_a3 ho) (by decide) rfl) ?_
  refine zl_tr (r_icmp_ge (tgt := 102) d_143_86 (by decide)) (zl_if ?_ ?_)
  · skip
    refine zl_tr (r_aload_n d_143_89 rfl) ?_
    refine zl_tr (r_getR d_143_90 ow_143 f_11_18 (zt_o ho) (by decide) (zt_r4 ho)) ?_
    refine zl_tr (r_iload_n d_143_93 rfl) ?_
    refine zl_tr (r_iconst d_143_94 (by decide)) ?_
    refine zl_tr (r_iastore d_143_95 (zt_a3 ho)) (zl_ck ?_)
    refine zl_tr (r_iinc (loc' := [zm_A o, w1, zm_I (x2 + 1)]) d_143_96 rfl (Nat.le_of_ble_eq_true rfl) (zr_k1 rfl hw1 rfl)) (zl_ck ?_)
    refine zl_tr (r_goto (tgt := 80) d_143_99 (by decide)) ?_
    exact zl_rf
  · skip
    exact r_vret d_143_102 rt_143
-- BranTub$Tub.parcelsLeft
set_option maxRecDepth 20000 in
theorem e_144 {h : zm_H} {o : Nat} (ho : zf_T o) : zl (zk_I (zc 145 [zm_A (o + 1), zm_I 0, zm_I 40] h) (fun v1 h2 => some (zm_I v1, h2))) (zc 144 [zm_A o] h) := by
  rw [zc_eq (loc := [zm_A o]) (rk_144 _) rfl]
  refine zl_tr (r_aload_n d_144_0 rfl) ?_
  refine zl_tr (r_getR d_144_1 ow_144 f_11_9 (zt_o ho) (by decide) (zt_r2 ho)) ?_
  refine zl_tr (r_iconst d_144_4 (by decide)) ?_
  refine zl_tr (r_aload_n d_144_5 rfl) ?_
  refine zl_tr (r_getR d_144_6 ow_144 f_11_9 (zt_o ho) (by decide) (zt_r2 ho)) ?_
  refine zl_tr (r_alen (nn := 40) d_144_9 (zt_a1 ho) (by decide) rfl) ?_
  refine zl_tr (r_SI [zm_A (o + 1), zm_I 0, zm_I 40] d_144_10 ow_144 cal_11_36 (by decide) na_145 rfl rfl (Nat.le_of_ble_eq_true rfl) (by rw [rk_145]; decide) (zr_im mx_145 rfl (Nat.le_of_ble_eq_true rfl)) (by rw [rt_145]; decide)) (zl_I (fun v1 h2 => ?_))
  exact r_iret d_144_13 rt_144
-- BranTub$Tub.sumOf
set_option maxRecDepth 20000 in
theorem e_145 {h : zm_H} {x2 : Int} {x3 : Int} {a1 na1 : Nat} (ha1 : zm_lay a1 = .inr (0, na1) ∧ 3 < a1 ∧ a1 < zm_NX) : zl (zr none 1 145 5 [zm_A a1, zm_I x2, zm_I x3, zm_I 0, zm_I x2] [] h) (zc 145 [zm_A a1, zm_I x2, zm_I x3] h) := by
  rw [zc_eq (loc := [zm_A a1, zm_I x2, zm_I x3, zm_U, zm_U]) (rk_145 _) rfl]
  refine zl_tr (r_iconst d_145_0 (by decide)) ?_
  refine zl_tr (r_istore_n (loc' := [zm_A a1, zm_I x2, zm_I x3, zm_I 0, zm_U]) d_145_1 (Nat.le_of_ble_eq_true rfl) rfl) ?_
  refine zl_tr (r_iload_n d_145_2 rfl) ?_
  refine zl_tr (r_istore (loc' := [zm_A a1, zm_I x2, zm_I x3, zm_I 0, zm_I x2]) d_145_3 (Nat.le_of_ble_eq_true rfl) rfl) ?_
  exact zl_rf
-- BranTub$Tub.sumOf, from 5
set_option maxRecDepth 20000 in
theorem e_145_5 {h : zm_H} {w1 : zm_V} {x2 : Int} {x3 : Int} {x4 : Int} {a1 na1 : Nat} (ha1 : zm_lay a1 = .inr (0, na1) ∧ 3 < a1 ∧ a1 < zm_NX) : zl (if x4 < x2 then (zm_ck (0 ≤ x4 ∧ x4 < ((na1 : Nat) : Int)) (zm_ck (zm_i32 (x3 + (h a1 x4))) (zm_ck (zm_i32 (x4 + 1)) (zr none 1 145 5 [zm_A a1, w1, zm_I x2, zm_I (x3 + (h a1 x4)), zm_I (x4 + 1)] [] h)))) else (some (zm_I x3, h))) (zr none 1 145 5 [zm_A a1, w1, zm_I x2, zm_I x3, zm_I x4] [] h) := by
  refine zl_tr (r_iload d_145_5 rfl) ?_
  refine zl_tr (r_iload_n d_145_7 rfl) ?_
  refine zl_tr (r_icmp_ge (tgt := 24) d_145_8 (by decide)) (zl_if ?_ ?_)
  · skip
    refine zl_tr (r_iload_n d_145_11 rfl) ?_
    refine zl_tr (r_aload_n d_145_12 rfl) ?_
    refine zl_tr (r_iload d_145_13 rfl) ?_
    refine zl_tr (r_iaload d_145_15 ha1) (zl_ck ?_)
    refine zl_tr (r_iadd d_145_16) (zl_ck ?_)
    refine zl_tr (r_istore_n (loc' := [zm_A a1, w1, zm_I x2, zm_I (x3 + (h a1 x4)), zm_I x4]) d_145_17 (Nat.le_of_ble_eq_true rfl) rfl) ?_
    refine zl_tr (r_iinc (loc' := [zm_A a1, w1, zm_I x2, zm_I (x3 + (h a1 x4)), zm_I (x4 + 1)]) d_145_18 rfl (Nat.le_of_ble_eq_true rfl) rfl) (zl_ck ?_)
    refine zl_tr (r_goto (tgt := 5) d_145_21 (by decide)) ?_
    exact zl_rf
  · skip
    refine zl_tr (r_iload_n d_145_24 rfl) ?_
    exact r_iret d_145_25 rt_145
-- BranTub$Tub.coins
set_option maxRecDepth 20000 in
theorem e_146 {h : zm_H} {o : Nat} (ho : zf_T o) : zl (zk_I (zc 145 [zm_A (o + 2), zm_I 0, zm_I 8] h) (fun v1 h2 => some (zm_I v1, h2))) (zc 146 [zm_A o] h) := by
  rw [zc_eq (loc := [zm_A o]) (rk_146 _) rfl]
  refine zl_tr (r_aload_n d_146_0 rfl) ?_
  refine zl_tr (r_getR d_146_1 ow_146 f_11_15 (zt_o ho) (by decide) (zt_r3 ho)) ?_
  refine zl_tr (r_iconst d_146_4 (by decide)) ?_
  refine zl_tr (r_aload_n d_146_5 rfl) ?_
  refine zl_tr (r_getR d_146_6 ow_146 f_11_15 (zt_o ho) (by decide) (zt_r3 ho)) ?_
  refine zl_tr (r_alen (nn := 8) d_146_9 (zt_a2 ho) (by decide) rfl) ?_
  refine zl_tr (r_SI [zm_A (o + 2), zm_I 0, zm_I 8] d_146_10 ow_146 cal_11_36 (by decide) na_145 rfl rfl (Nat.le_of_ble_eq_true rfl) (by rw [rk_145]; decide) (zr_im mx_145 rfl (Nat.le_of_ble_eq_true rfl)) (by rw [rt_145]; decide)) (zl_I (fun v1 h2 => ?_))
  exact r_iret d_146_13 rt_146
-- BranTub$Tub.parcelsHad
set_option maxRecDepth 20000 in
theorem e_147 {h : zm_H} {o : Nat} (ho : zf_T o) : zl (zk_I (zc 145 [zm_A (o + 3), zm_I 0, zm_I 64] h) (fun v1 h2 => some (zm_I v1, h2))) (zc 147 [zm_A o] h) := by
  rw [zc_eq (loc := [zm_A o]) (rk_147 _) rfl]
  refine zl_tr (r_aload_n d_147_0 rfl) ?_
  refine zl_tr (r_getR d_147_1 ow_147 f_11_18 (zt_o ho) (by decide) (zt_r4 ho)) ?_
  refine zl_tr (r_iconst d_147_4 (by decide)) ?_
  refine zl_tr (r_aload_n d_147_5 rfl) ?_
  refine zl_tr (r_getR d_147_6 ow_147 f_11_18 (zt_o ho) (by decide) (zt_r4 ho)) ?_
  refine zl_tr (r_alen (nn := 64) d_147_9 (zt_a3 ho) (by decide) rfl) ?_
  refine zl_tr (r_SI [zm_A (o + 3), zm_I 0, zm_I 64] d_147_10 ow_147 cal_11_36 (by decide) na_145 rfl rfl (Nat.le_of_ble_eq_true rfl) (by rw [rk_145]; decide) (zr_im mx_145 rfl (Nat.le_of_ble_eq_true rfl)) (by rw [rt_145]; decide)) (zl_I (fun v1 h2 => ?_))
  exact r_iret d_147_13 rt_147
-- BranTub$Tub.leftOf
set_option maxRecDepth 20000 in
theorem e_148 {h : zm_H} {x1 : Int} {o : Nat} (ho : zf_T o) : zl (zr none 1 148 4 [zm_A o, zm_I x1, zm_I 0, zm_I x1] [] h) (zc 148 [zm_A o, zm_I x1] h) := by
  rw [zc_eq (loc := [zm_A o, zm_I x1, zm_U, zm_U]) (rk_148 _) rfl]
  refine zl_tr (r_iconst d_148_0 (by decide)) ?_
  refine zl_tr (r_istore_n (loc' := [zm_A o, zm_I x1, zm_I 0, zm_U]) d_148_1 (Nat.le_of_ble_eq_true rfl) rfl) ?_
  refine zl_tr (r_iload_n d_148_2 rfl) ?_
  refine zl_tr (r_istore_n (loc' := [zm_A o, zm_I x1, zm_I 0, zm_I x1]) d_148_3 (Nat.le_of_ble_eq_true rfl) rfl) ?_
  exact zl_rf
-- BranTub$Tub.leftOf, from 4
set_option maxRecDepth 20000 in
theorem e_148_4 {h : zm_H} {w1 : zm_V} {x2 : Int} {x3 : Int} {o : Nat} (ho : zf_T o) (hw1 : zm_cat w1 ≠ 2) : zl (if x3 < 40 then (zm_ck (0 ≤ x3 ∧ x3 < ((40 : Nat) : Int)) (zm_ck (zm_i32 (x2 + (h (o + 1) x3))) (zm_ck (zm_i32 (x3 + 8)) (zr none 1 148 4 [zm_A o, w1, zm_I (x2 + (h (o + 1) x3)), zm_I (x3 + 8)] [] h)))) else (some (zm_I x2, h))) (zr none 1 148 4 [zm_A o, w1, zm_I x2, zm_I x3] [] h) := by
  refine zl_tr (r_iload_n d_148_4 rfl) ?_
  refine zl_tr (r_aload_n d_148_5 rfl) ?_
  refine zl_tr (r_getR d_148_6 ow_148 f_11_9 (zt_o ho) (by decide) (zt_r2 ho)) ?_
  refine zl_tr (r_alen (nn := 40) d_148_9 (zt_a1 ho) (by decide) rfl) ?_
  refine zl_tr (r_icmp_ge (tgt := 28) d_148_10 (by decide)) (zl_if ?_ ?_)
  · skip
    refine zl_tr (r_iload_n d_148_13 rfl) ?_
    refine zl_tr (r_aload_n d_148_14 rfl) ?_
    refine zl_tr (r_getR d_148_15 ow_148 f_11_9 (zt_o ho) (by decide) (zt_r2 ho)) ?_
    refine zl_tr (r_iload_n d_148_18 rfl) ?_
    refine zl_tr (r_iaload d_148_19 (zt_a1 ho)) (zl_ck ?_)
    refine zl_tr (r_iadd d_148_20) (zl_ck ?_)
    refine zl_tr (r_istore_n (loc' := [zm_A o, w1, zm_I (x2 + (h (o + 1) x3)), zm_I x3]) d_148_21 (Nat.le_of_ble_eq_true rfl) (zr_k1 rfl hw1 rfl)) ?_
    refine zl_tr (r_iinc (loc' := [zm_A o, w1, zm_I (x2 + (h (o + 1) x3)), zm_I (x3 + 8)]) d_148_22 rfl (Nat.le_of_ble_eq_true rfl) rfl) (zl_ck ?_)
    refine zl_tr (r_goto (tgt := 4) d_148_25 (by decide)) ?_
    exact zl_rf
  · skip
    refine zl_tr (r_iload_n d_148_28 rfl) ?_
    exact r_iret d_148_29 rt_148
-- BranTub$Tub.hadOf
set_option maxRecDepth 20000 in
theorem e_149 {h : zm_H} {x1 : Int} {o : Nat} (ho : zf_T o) : zl (zr none 1 149 4 [zm_A o, zm_I x1, zm_I 0, zm_I x1] [] h) (zc 149 [zm_A o, zm_I x1] h) := by
  rw [zc_eq (loc := [zm_A o, zm_I x1, zm_U, zm_U]) (rk_149 _) rfl]
  refine zl_tr (r_iconst d_149_0 (by decide)) ?_
  refine zl_tr (r_istore_n (loc' := [zm_A o, zm_I x1, zm_I 0, zm_U]) d_149_1 (Nat.le_of_ble_eq_true rfl) rfl) ?_
  refine zl_tr (r_iload_n d_149_2 rfl) ?_
  refine zl_tr (r_istore_n (loc' := [zm_A o, zm_I x1, zm_I 0, zm_I x1]) d_149_3 (Nat.le_of_ble_eq_true rfl) rfl) ?_
  exact zl_rf
-- BranTub$Tub.hadOf, from 4
set_option maxRecDepth 20000 in
theorem e_149_4 {h : zm_H} {w1 : zm_V} {x2 : Int} {x3 : Int} {o : Nat} (ho : zf_T o) (hw1 : zm_cat w1 ≠ 2) : zl (if x3 < 64 then (zm_ck (0 ≤ x3 ∧ x3 < ((64 : Nat) : Int)) (zm_ck (zm_i32 (x2 + (h (o + 3) x3))) (zm_ck (zm_i32 (x3 + 8)) (zr none 1 149 4 [zm_A o, w1, zm_I (x2 + (h (o + 3) x3)), zm_I (x3 + 8)] [] h)))) else (some (zm_I x2, h))) (zr none 1 149 4 [zm_A o, w1, zm_I x2, zm_I x3] [] h) := by
  refine zl_tr (r_iload_n d_149_4 rfl) ?_
  refine zl_tr (r_aload_n d_149_5 rfl) ?_
  refine zl_tr (r_getR d_149_6 ow_149 f_11_18 (zt_o ho) (by decide) (zt_r4 ho)) ?_
  refine zl_tr (r_alen (nn := 64) d_149_9 (zt_a3 ho) (by decide) rfl) ?_
  refine zl_tr (r_icmp_ge (tgt := 28) d_149_10 (by decide)) (zl_if ?_ ?_)
  · skip
    refine zl_tr (r_iload_n d_149_13 rfl) ?_
    refine zl_tr (r_aload_n d_149_14 rfl) ?_
    refine zl_tr (r_getR d_149_15 ow_149 f_11_18 (zt_o ho) (by decide) (zt_r4 ho)) ?_
    refine zl_tr (r_iload_n d_149_18 rfl) ?_
    refine zl_tr (r_iaload d_149_19 (zt_a3 ho)) (zl_ck ?_)
    refine zl_tr (r_iadd d_149_20) (zl_ck ?_)
    refine zl_tr (r_istore_n (loc' := [zm_A o, w1, zm_I (x2 + (h (o + 3) x3)), zm_I x3]) d_149_21 (Nat.le_of_ble_eq_true rfl) (zr_k1 rfl hw1 rfl)) ?_
    refine zl_tr (r_iinc (loc' := [zm_A o, w1, zm_I (x2 + (h (o + 3) x3)), zm_I (x3 + 8)]) d_149_22 rfl (Nat.le_of_ble_eq_true rfl) rfl) (zl_ck ?_)
    refine zl_tr (r_goto (tgt := 4) d_149_25 (by decide)) ?_
    exact zl_rf
  · skip
    refine zl_tr (r_iload_n d_149_28 rfl) ?_
    exact r_iret d_149_29 rt_149
-- BranTub$Tub.parcelsIn
set_option maxRecDepth 20000 in
theorem e_150 {h : zm_H} {x1 : Int} {o : Nat} (ho : zf_T o) : zl (zm_ck (zm_i32 (x1 * 8)) (zm_ck (zm_i32 (x1 + 1)) (zm_ck (zm_i32 ((x1 + 1) * 8)) (zk_I (zc 145 [zm_A (o + 1), zm_I (x1 * 8), zm_I ((x1 + 1) * 8)] h) (fun v1 h2 => some (zm_I v1, h2)))))) (zc 150 [zm_A o, zm_I x1] h) := by
  rw [zc_eq (loc := [zm_A o, zm_I x1]) (rk_150 _) rfl]
  refine zl_tr (r_aload_n d_150_0 rfl) ?_
  refine zl_tr (r_getR d_150_1 ow_150 f_11_9 (zt_o ho) (by decide) (zt_r2 ho)) ?_
  refine zl_tr (r_iload_n d_150_4 rfl) ?_
  refine zl_tr (r_bipush d_150_5 (by decide)) ?_
  refine zl_tr (r_imul d_150_7) (zl_ck ?_)
  refine zl_tr (r_iload_n d_150_8 rfl) ?_
  refine zl_tr (r_iconst d_150_9 (by decide)) ?_
  refine zl_tr (r_iadd d_150_10) (zl_ck ?_)
  refine zl_tr (r_bipush d_150_11 (by decide)) ?_
  refine zl_tr (r_imul d_150_13) (zl_ck ?_)
  refine zl_tr (r_SI [zm_A (o + 1), zm_I (x1 * 8), zm_I ((x1 + 1) * 8)] d_150_14 ow_150 cal_11_36 (by decide) na_145 rfl rfl (Nat.le_of_ble_eq_true rfl) (by rw [rk_145]; decide) (zr_im mx_145 rfl (Nat.le_of_ble_eq_true rfl)) (by rw [rt_145]; decide)) (zl_I (fun v1 h2 => ?_))
  exact r_iret d_150_17 rt_150
-- BranTub$Tub.hadBy
set_option maxRecDepth 20000 in
theorem e_151 {h : zm_H} {x1 : Int} {o : Nat} (ho : zf_T o) : zl (zm_ck (zm_i32 (x1 * 8)) (zm_ck (zm_i32 (x1 + 1)) (zm_ck (zm_i32 ((x1 + 1) * 8)) (zk_I (zc 145 [zm_A (o + 3), zm_I (x1 * 8), zm_I ((x1 + 1) * 8)] h) (fun v1 h2 => some (zm_I v1, h2)))))) (zc 151 [zm_A o, zm_I x1] h) := by
  rw [zc_eq (loc := [zm_A o, zm_I x1]) (rk_151 _) rfl]
  refine zl_tr (r_aload_n d_151_0 rfl) ?_
  refine zl_tr (r_getR d_151_1 ow_151 f_11_18 (zt_o ho) (by decide) (zt_r4 ho)) ?_
  refine zl_tr (r_iload_n d_151_4 rfl) ?_
  refine zl_tr (r_bipush d_151_5 (by decide)) ?_
  refine zl_tr (r_imul d_151_7) (zl_ck ?_)
  refine zl_tr (r_iload_n d_151_8 rfl) ?_
  refine zl_tr (r_iconst d_151_9 (by decide)) ?_
  refine zl_tr (r_iadd d_151_10) (zl_ck ?_)
  refine zl_tr (r_bipush d_151_11 (by decide)) ?_
  refine zl_tr (r_imul d_151_13) (zl_ck ?_)
  refine zl_tr (r_SI [zm_A (o + 3), zm_I (x1 * 8), zm_I ((x1 + 1) * 8)] d_151_14 ow_151 cal_11_36 (by decide) na_145 rfl rfl (Nat.le_of_ble_eq_true rfl) (by rw [rk_145]; decide) (zr_im mx_145 rfl (Nat.le_of_ble_eq_true rfl)) (by rw [rt_145]; decide)) (zl_I (fun v1 h2 => ?_))
  exact r_iret d_151_17 rt_151
-- BranTub$Tub.copy
set_option maxRecDepth 20000 in
theorem e_152 {h : zm_H} {o : Nat} (ho : zf_T o) {o2 : Nat} (ho2 : zf_T o2) : zl (zr none 1 152 18 [zm_A o, zm_A o2, zm_I 0] [] (zm_wr (zm_wr h o 0 (h o2 0)) o 1 ((zm_wr h o 0 (h o2 0)) o2 1))) (zc 152 [zm_A o, zm_A o2] h) := by
  rw [zc_eq (loc := [zm_A o, zm_A o2, zm_U]) (rk_152 _) rfl]
  refine zl_tr (r_aload_n d_152_0 rfl) ?_
  refine zl_tr (r_aload_n d_152_1 rfl) ?_
  refine zl_tr (r_getI (kk := 0) d_152_2 ow_152 f_11_21 (zt_o ho2) (by decide) rfl) ?_
  refine zl_tr (r_putI (kk := 0) d_152_5 ow_152 f_11_21 (zt_o ho) (by decide) rfl) ?_
  refine zl_tr (r_aload_n d_152_8 rfl) ?_
  refine zl_tr (r_aload_n d_152_9 rfl) ?_
  refine zl_tr (r_getI (kk := 1) d_152_10 ow_152 f_11_25 (zt_o ho2) (by decide) rfl) ?_
  refine zl_tr (r_putI (kk := 1) d_152_13 ow_152 f_11_25 (zt_o ho) (by decide) rfl) ?_
  refine zl_tr (r_iconst d_152_16 (by decide)) ?_
  refine zl_tr (r_istore_n (loc' := [zm_A o, zm_A o2, zm_I 0]) d_152_17 (Nat.le_of_ble_eq_true rfl) rfl) ?_
  exact zl_rf
-- BranTub$Tub.copy, from 18
set_option maxRecDepth 20000 in
theorem e_152_18 {h : zm_H} {x2 : Int} {o : Nat} (ho : zf_T o) {o2 : Nat} (ho2 : zf_T o2) : zl (if x2 < 40 then (zm_ck (0 ≤ x2 ∧ x2 < ((40 : Nat) : Int)) (zm_ck (0 ≤ x2 ∧ x2 < ((40 : Nat) : Int)) (zm_ck (zm_i32 (x2 + 1)) (zr none 1 152 18 [zm_A o, zm_A o2, zm_I (x2 + 1)] [] (zm_wr h (o + 1) x2 (h (o2 + 1) x2)))))) else (zr none 1 152 47 [zm_A o, zm_A o2, zm_I 0] [] h)) (zr none 1 152 18 [zm_A o, zm_A o2, zm_I x2] [] h) := by
  refine zl_tr (r_iload_n d_152_18 rfl) ?_
  refine zl_tr (r_aload_n d_152_19 rfl) ?_
  refine zl_tr (r_getR d_152_20 ow_152 f_11_9 (zt_o ho) (by decide) (zt_r2 ho)) ?_
  refine zl_tr (r_alen (nn := 40) d_152_23 (zt_a1 ho) (by decide) rfl) ?_
  refine zl_tr (r_icmp_ge (tgt := 45) d_152_24 (by decide)) (zl_if ?_ ?_)
  · skip
    refine zl_tr (r_aload_n d_152_27 rfl) ?_
    refine zl_tr (r_getR d_152_28 ow_152 f_11_9 (zt_o ho) (by decide) (zt_r2 ho)) ?_
    refine zl_tr (r_iload_n d_152_31 rfl) ?_
    refine zl_tr (r_aload_n d_152_32 rfl) ?_
    refine zl_tr (r_getR d_152_33 ow_152 f_11_9 (zt_o ho2) (by decide) (zt_r2 ho2)) ?_
    refine zl_tr (r_iload_n d_152_36 rfl) ?_
    refine zl_tr (r_iaload d_152_37 (zt_a1 ho2)) (zl_ck ?_)
    refine zl_tr (r_iastore d_152_38 (zt_a1 ho)) (zl_ck ?_)
    refine zl_tr (r_iinc (loc' := [zm_A o, zm_A o2, zm_I (x2 + 1)]) d_152_39 rfl (Nat.le_of_ble_eq_true rfl) rfl) (zl_ck ?_)
    refine zl_tr (r_goto (tgt := 18) d_152_42 (by decide)) ?_
    exact zl_rf
  · skip
    refine zl_tr (r_iconst d_152_45 (by decide)) ?_
    refine zl_tr (r_istore_n (loc' := [zm_A o, zm_A o2, zm_I 0]) d_152_46 (Nat.le_of_ble_eq_true rfl) rfl) ?_
    exact zl_rf
-- BranTub$Tub.copy, from 47
set_option maxRecDepth 20000 in
theorem e_152_47 {h : zm_H} {x2 : Int} {o : Nat} (ho : zf_T o) {o2 : Nat} (ho2 : zf_T o2) : zl (if x2 < 8 then (zm_ck (0 ≤ x2 ∧ x2 < ((8 : Nat) : Int)) (zm_ck (0 ≤ x2 ∧ x2 < ((8 : Nat) : Int)) (zm_ck (zm_i32 (x2 + 1)) (zr none 1 152 47 [zm_A o, zm_A o2, zm_I (x2 + 1)] [] (zm_wr h (o + 2) x2 (h (o2 + 2) x2)))))) else (zr none 1 152 76 [zm_A o, zm_A o2, zm_I 0] [] h)) (zr none 1 152 47 [zm_A o, zm_A o2, zm_I x2] [] h) := by
  refine zl_tr (r_iload_n d_152_47 rfl) ?_
  refine zl_tr (r_aload_n d_152_48 rfl) ?_
  refine zl_tr (r_getR d_152_49 ow_152 f_11_15 (zt_o ho) (by decide) (zt_r3 ho)) ?_
  refine zl_tr (r_alen (nn := 8) d_152_52 (zt_a2 ho) (by decide) rfl) ?_
  refine zl_tr (r_icmp_ge (tgt := 74) d_152_53 (by decide)) (zl_if ?_ ?_)
  · skip
    refine zl_tr (r_aload_n d_152_56 rfl) ?_
    refine zl_tr (r_getR d_152_57 ow_152 f_11_15 (zt_o ho) (by decide) (zt_r3 ho)) ?_
    refine zl_tr (r_iload_n d_152_60 rfl) ?_
    refine zl_tr (r_aload_n d_152_61 rfl) ?_
    refine zl_tr (r_getR d_152_62 ow_152 f_11_15 (zt_o ho2) (by decide) (zt_r3 ho2)) ?_
    refine zl_tr (r_iload_n d_152_65 rfl) ?_
    refine zl_tr (r_iaload d_152_66 (zt_a2 ho2)) (zl_ck ?_)
    refine zl_tr (r_iastore d_152_67 (zt_a2 ho)) (zl_ck ?_)
    refine zl_tr (r_iinc (loc' := [zm_A o, zm_A o2, zm_I (x2 + 1)]) d_152_68 rfl (Nat.le_of_ble_eq_true rfl) rfl) (zl_ck ?_)
    refine zl_tr (r_goto (tgt := 47) d_152_71 (by decide)) ?_
    exact zl_rf
  · skip
    refine zl_tr (r_iconst d_152_74 (by decide)) ?_
    refine zl_tr (r_istore_n (loc' := [zm_A o, zm_A o2, zm_I 0]) d_152_75 (Nat.le_of_ble_eq_true rfl) rfl) ?_
    exact zl_rf
-- BranTub$Tub.copy, from 76
set_option maxRecDepth 20000 in
theorem e_152_76 {h : zm_H} {x2 : Int} {o : Nat} (ho : zf_T o) {o2 : Nat} (ho2 : zf_T o2) : zl (if x2 < 64 then (zm_ck (0 ≤ x2 ∧ x2 < ((64 : Nat) : Int)) (zm_ck (0 ≤ x2 ∧ x2 < ((64 : Nat) : Int)) (zm_ck (zm_i32 (x2 + 1)) (zr none 1 152 76 [zm_A o, zm_A o2, zm_I (x2 + 1)] [] (zm_wr h (o + 3) x2 (h (o2 + 3) x2)))))) else (some (zm_U, h))) (zr none 1 152 76 [zm_A o, zm_A o2, zm_I x2] [] h) := by
  refine zl_tr (r_iload_n d_152_76 rfl) ?_
  refine zl_tr (r_aload_n d_152_77 rfl) ?_
  refine zl_tr (r_getR d_152_78 ow_152 f_11_18 (zt_o ho) (by decide) (zt_r4 ho)) ?_
  refine zl_tr (r_alen (nn := 64) d_152_81 (zt_a3 ho) (by decide) rfl) ?_
  refine zl_tr (r_icmp_ge (tgt := 103) d_152_82 (by decide)) (zl_if ?_ ?_)
  · skip
    refine zl_tr (r_aload_n d_152_85 rfl) ?_
    refine zl_tr (r_getR d_152_86 ow_152 f_11_18 (zt_o ho) (by decide) (zt_r4 ho)) ?_
    refine zl_tr (r_iload_n d_152_89 rfl) ?_
    refine zl_tr (r_aload_n d_152_90 rfl) ?_
    refine zl_tr (r_getR d_152_91 ow_152 f_11_18 (zt_o ho2) (by decide) (zt_r4 ho2)) ?_
    refine zl_tr (r_iload_n d_152_94 rfl) ?_
    refine zl_tr (r_iaload d_152_95 (zt_a3 ho2)) (zl_ck ?_)
    refine zl_tr (r_iastore d_152_96 (zt_a3 ho)) (zl_ck ?_)
    refine zl_tr (r_iinc (loc' := [zm_A o, zm_A o2, zm_I (x2 + 1)]) d_152_97 rfl (Nat.le_of_ble_eq_true rfl) rfl) (zl_ck ?_)
    refine zl_tr (r_goto (tgt := 76) d_152_100 (by decide)) ?_
    exact zl_rf
  · skip
    exact r_vret d_152_103 rt_152
-- BranTubModel.feed
set_option maxRecDepth 20000 in
theorem e_154 {h : zm_H} {x1 : Int} {x2 : Int} {x3 : Int} {x4 : Int} {x5 : Int} : zl (zm_ck (zm_i32 ((h 146 1) + 20)) (if ((h 146 1) + 20) ≤ 1600 then (zk_V (zc 156 [zm_A 146, zm_I x1] h) (fun h1 => zk_V (zc 156 [zm_A 146, zm_I x2] h1) (fun h2 => zk_V (zc 156 [zm_A 146, zm_I x3] h2) (fun h3 => zk_V (zc 156 [zm_A 146, zm_I x4] h3) (fun h4 => zk_V (zc 156 [zm_A 146, zm_I x5] h4) (fun h5 => some (zm_I (h5 146 1), h5))))))) else (zk_I (zc 155 [zm_A 146, zm_I 0] h) (fun v6 h7 => some (zm_I v6, h7))))) (zc 154 [zm_A 146, zm_I x1, zm_I x2, zm_I x3, zm_I x4, zm_I x5] h) := by
  rw [zc_eq (loc := [zm_A 146, zm_I x1, zm_I x2, zm_I x3, zm_I x4, zm_I x5]) (rk_154 _) rfl]
  refine zl_tr (r_aload_n d_154_0 rfl) ?_
  refine zl_tr (r_getI (kk := 1) d_154_1 ow_154 f_12_13 la_146 (by decide) rfl) ?_
  refine zl_tr (r_bipush d_154_4 (by decide)) ?_
  refine zl_tr (r_iadd d_154_6) (zl_ck ?_)
  refine zl_tr (r_sipush d_154_7 (by decide)) ?_
  refine zl_tr (r_icmp_le (tgt := 19) d_154_10 (by decide)) (zl_if ?_ ?_)
  · skip
    refine zl_tr (r_aload_n d_154_19 rfl) ?_
    refine zl_tr (r_iload_n d_154_20 rfl) ?_
    refine zl_tr (r_VV [zm_A 146, zm_I x1] d_154_21 ow_154 cal_12_253 na_156 rfl rfl (Nat.le_of_ble_eq_true rfl) (by rw [rk_156]; decide) (zr_rcv la_146 ow_156) (zr_im mx_156 rfl (Nat.le_of_ble_eq_true rfl)) rt_156) (zl_V (fun h1 => ?_))
    refine zl_tr (r_aload_n d_154_24 rfl) ?_
    refine zl_tr (r_iload_n d_154_25 rfl) ?_
    refine zl_tr (r_VV [zm_A 146, zm_I x2] d_154_26 ow_154 cal_12_253 na_156 rfl rfl (Nat.le_of_ble_eq_true rfl) (by rw [rk_156]; decide) (zr_rcv la_146 ow_156) (zr_im mx_156 rfl (Nat.le_of_ble_eq_true rfl)) rt_156) (zl_V (fun h2 => ?_))
    refine zl_tr (r_aload_n d_154_29 rfl) ?_
    refine zl_tr (r_iload_n d_154_30 rfl) ?_
    refine zl_tr (r_VV [zm_A 146, zm_I x3] d_154_31 ow_154 cal_12_253 na_156 rfl rfl (Nat.le_of_ble_eq_true rfl) (by rw [rk_156]; decide) (zr_rcv la_146 ow_156) (zr_im mx_156 rfl (Nat.le_of_ble_eq_true rfl)) rt_156) (zl_V (fun h3 => ?_))
    refine zl_tr (r_aload_n d_154_34 rfl) ?_
    refine zl_tr (r_iload d_154_35 rfl) ?_
    refine zl_tr (r_VV [zm_A 146, zm_I x4] d_154_37 ow_154 cal_12_253 na_156 rfl rfl (Nat.le_of_ble_eq_true rfl) (by rw [rk_156]; decide) (zr_rcv la_146 ow_156) (zr_im mx_156 rfl (Nat.le_of_ble_eq_true rfl)) rt_156) (zl_V (fun h4 => ?_))
    refine zl_tr (r_aload_n d_154_40 rfl) ?_
    refine zl_tr (r_iload d_154_41 rfl) ?_
    refine zl_tr (r_VV [zm_A 146, zm_I x5] d_154_43 ow_154 cal_12_253 na_156 rfl rfl (Nat.le_of_ble_eq_true rfl) (by rw [rk_156]; decide) (zr_rcv la_146 ow_156) (zr_im mx_156 rfl (Nat.le_of_ble_eq_true rfl)) rt_156) (zl_V (fun h5 => ?_))
    refine zl_tr (r_aload_n d_154_46 rfl) ?_
    refine zl_tr (r_getI (kk := 1) d_154_47 ow_154 f_12_13 la_146 (by decide) rfl) ?_
    exact r_iret d_154_50 rt_154
  · skip
    refine zl_tr (r_aload_n d_154_13 rfl) ?_
    refine zl_tr (r_iconst d_154_14 (by decide)) ?_
    refine zl_tr (r_VI [zm_A 146, zm_I 0] d_154_15 ow_154 cal_12_249 na_155 rfl rfl (Nat.le_of_ble_eq_true rfl) (by rw [rk_155]; decide) (zr_rcv la_146 ow_155) (zr_im mx_155 rfl (Nat.le_of_ble_eq_true rfl)) (by rw [rt_155]; decide)) (zl_I (fun v6 h7 => ?_))
    exact r_iret d_154_18 rt_154
-- BranTubModel.refuses
set_option maxRecDepth 20000 in
theorem e_155 {h : zm_H} {x1 : Int} : zl (zm_ck (0 ≤ x1 ∧ x1 < ((6 : Nat) : Int)) (zm_ck (zm_i32 ((h 173 x1) + 1)) (zm_ck (0 ≤ x1 ∧ x1 < ((6 : Nat) : Int)) (some (zm_I (-1), (zm_wr h 173 x1 ((h 173 x1) + 1))))))) (zc 155 [zm_A 146, zm_I x1] h) := by
  rw [zc_eq (loc := [zm_A 146, zm_I x1]) (rk_155 _) rfl]
  refine zl_tr (r_aload_n d_155_0 rfl) ?_
  refine zl_tr (r_getR d_155_1 ow_155 f_12_150 la_146 (by decide) fr_146_45) ?_
  refine zl_tr (r_iload_n d_155_4 rfl) ?_
  refine zl_tr (r_dup2 d_155_5 ⟨rfl, rfl⟩) ?_
  refine zl_tr (r_iaload d_155_6 la_173) (zl_ck ?_)
  refine zl_tr (r_iconst d_155_7 (by decide)) ?_
  refine zl_tr (r_iadd d_155_8) (zl_ck ?_)
  refine zl_tr (r_iastore d_155_9 la_173) (zl_ck ?_)
  refine zl_tr (r_iconst d_155_10 (by decide)) ?_
  exact r_iret d_155_11 rt_155
-- BranTubModel.put
set_option maxRecDepth 20000 in
theorem e_156 {h : zm_H} {x1 : Int} : zl (zr none 1 156 3 [zm_A 146, zm_I x1, zm_I 24] [] h) (zc 156 [zm_A 146, zm_I x1] h) := by
  rw [zc_eq (loc := [zm_A 146, zm_I x1, zm_U]) (rk_156 _) rfl]
  refine zl_tr (r_bipush d_156_0 (by decide)) ?_
  refine zl_tr (r_istore_n (loc' := [zm_A 146, zm_I x1, zm_I 24]) d_156_2 (Nat.le_of_ble_eq_true rfl) rfl) ?_
  exact zl_rf
-- BranTubModel.put, from 3
set_option maxRecDepth 20000 in
theorem e_156_3 {h : zm_H} {x1 : Int} {x2 : Int} : zl (if x2 < 0 then (some (zm_U, h)) else (zm_ck (0 ≤ (h 146 1) ∧ (h 146 1) < ((1800 : Nat) : Int)) (zm_ck (zm_i32 (((zm_wr h 147 (h 146 1) (zb_iand (zb_ishr x1 x2) 255)) 146 1) + 1)) (zm_ck (zm_i32 (x2 + (-8))) (zr none 1 156 3 [zm_A 146, zm_I x1, zm_I (x2 + (-8))] [] (zm_wr (zm_wr h 147 (h 146 1) (zb_iand (zb_ishr x1 x2) 255)) 146 1 (((zm_wr h 147 (h 146 1) (zb_iand (zb_ishr x1 x2) 255)) 146 1) + 1))))))) (zr none 1 156 3 [zm_A 146, zm_I x1, zm_I x2] [] h) := by
  refine zl_tr (r_iload_n d_156_3 rfl) ?_
  refine zl_tr (r_if_lt (tgt := 39) d_156_4 (by decide)) (zl_if ?_ ?_)
  · skip
    exact r_vret d_156_39 rt_156
  · skip
    refine zl_tr (r_aload_n d_156_7 rfl) ?_
    refine zl_tr (r_getR d_156_8 ow_156 f_12_7 la_146 (by decide) fr_146_0) ?_
    refine zl_tr (r_aload_n d_156_11 rfl) ?_
    refine zl_tr (r_getI (kk := 1) d_156_12 ow_156 f_12_13 la_146 (by decide) rfl) ?_
    refine zl_tr (r_iload_n d_156_15 rfl) ?_
    refine zl_tr (r_iload_n d_156_16 rfl) ?_
    refine zl_tr (r_ishr d_156_17) ?_
    refine zl_tr (r_sipush d_156_18 (by decide)) ?_
    refine zl_tr (r_iand d_156_21) ?_
    refine zl_tr (r_iastore d_156_22 la_147) (zl_ck ?_)
    refine zl_tr (r_aload_n d_156_23 rfl) ?_
    refine zl_tr (r_dup d_156_24 rfl) ?_
    refine zl_tr (r_getI (kk := 1) d_156_25 ow_156 f_12_13 la_146 (by decide) rfl) ?_
    refine zl_tr (r_iconst d_156_28 (by decide)) ?_
    refine zl_tr (r_iadd d_156_29) (zl_ck ?_)
    refine zl_tr (r_putI (kk := 1) d_156_30 ow_156 f_12_13 la_146 (by decide) rfl) ?_
    refine zl_tr (r_iinc (loc' := [zm_A 146, zm_I x1, zm_I (x2 + (-8))]) d_156_33 rfl (Nat.le_of_ble_eq_true rfl) rfl) (zl_ck ?_)
    refine zl_tr (r_goto (tgt := 3) d_156_36 (by decide)) ?_
    exact zl_rf
-- BranTubModel.end
set_option maxRecDepth 20000 in
theorem e_157 {h : zm_H} {x1 : Int} : zl (if x1 < 0 then (zk_I (zc 155 [zm_A 146, zm_I 0] h) (fun v1 h2 => if v1 < 0 then (zm_ck (zm_bit 0) (some (zm_I 0, h2))) else (zm_ck (zm_bit 1) (some (zm_I 1, h2))))) else (if x1 ≤ (h 146 1) then (zm_ck (zm_bit 1) (some (zm_I 1, (zm_wr h 146 1 x1)))) else (zk_I (zc 155 [zm_A 146, zm_I 0] h) (fun v3 h4 => if v3 < 0 then (zm_ck (zm_bit 0) (some (zm_I 0, h4))) else (zm_ck (zm_bit 1) (some (zm_I 1, h4))))))) (zc 157 [zm_A 146, zm_I x1] h) := by
  rw [zc_eq (loc := [zm_A 146, zm_I x1]) (rk_157 _) rfl]
  refine zl_tr (r_iload_n d_157_0 rfl) ?_
  refine zl_tr (r_if_lt (tgt := 12) d_157_1 (by decide)) (zl_if ?_ ?_)
  · skip
    refine zl_tr (r_aload_n d_157_12 rfl) ?_
    refine zl_tr (r_iconst d_157_13 (by decide)) ?_
    refine zl_tr (r_VI [zm_A 146, zm_I 0] d_157_14 ow_157 cal_12_249 na_155 rfl rfl (Nat.le_of_ble_eq_true rfl) (by rw [rk_155]; decide) (zr_rcv la_146 ow_155) (zr_im mx_155 rfl (Nat.le_of_ble_eq_true rfl)) (by rw [rt_155]; decide)) (zl_I (fun v1 h2 => ?_))
    refine zl_tr (r_if_lt (tgt := 24) d_157_17 (by decide)) (zl_if ?_ ?_)
    · skip
      refine zl_tr (r_iconst d_157_24 (by decide)) ?_
      exact r_zret d_157_25 rt_157
    · skip
      refine zl_tr (r_iconst d_157_20 (by decide)) ?_
      refine zl_tr (r_goto (tgt := 25) d_157_21 (by decide)) ?_
      exact r_zret d_157_25 rt_157
  · skip
    refine zl_tr (r_iload_n d_157_4 rfl) ?_
    refine zl_tr (r_aload_n d_157_5 rfl) ?_
    refine zl_tr (r_getI (kk := 1) d_157_6 ow_157 f_12_13 la_146 (by decide) rfl) ?_
    refine zl_tr (r_icmp_le (tgt := 26) d_157_9 (by decide)) (zl_if ?_ ?_)
    · skip
      refine zl_tr (r_aload_n d_157_26 rfl) ?_
      refine zl_tr (r_iload_n d_157_27 rfl) ?_
      refine zl_tr (r_putI (kk := 1) d_157_28 ow_157 f_12_13 la_146 (by decide) rfl) ?_
      refine zl_tr (r_iconst d_157_31 (by decide)) ?_
      exact r_zret d_157_32 rt_157
    · skip
      refine zl_tr (r_aload_n d_157_12 rfl) ?_
      refine zl_tr (r_iconst d_157_13 (by decide)) ?_
      refine zl_tr (r_VI [zm_A 146, zm_I 0] d_157_14 ow_157 cal_12_249 na_155 rfl rfl (Nat.le_of_ble_eq_true rfl) (by rw [rk_155]; decide) (zr_rcv la_146 ow_155) (zr_im mx_155 rfl (Nat.le_of_ble_eq_true rfl)) (by rw [rt_155]; decide)) (zl_I (fun v3 h4 => ?_))
      refine zl_tr (r_if_lt (tgt := 24) d_157_17 (by decide)) (zl_if ?_ ?_)
      · skip
        refine zl_tr (r_iconst d_157_24 (by decide)) ?_
        exact r_zret d_157_25 rt_157
      · skip
        refine zl_tr (r_iconst d_157_20 (by decide)) ?_
        refine zl_tr (r_goto (tgt := 25) d_157_21 (by decide)) ?_
        exact r_zret d_157_25 rt_157
-- BranTubModel.fete
set_option maxRecDepth 20000 in
theorem e_158 {h : zm_H}  : zl (zm_ck (zm_i32 (1 - ((zm_wr (zm_wr (zm_wr (zm_wr (zm_wr h 146 2 (h 146 1)) 146 1 0) 146 5 0) 146 8 0) 146 9 (-1)) 146 13))) (zm_ck (0 ≤ ((zm_wr (zm_wr (zm_wr (zm_wr (zm_wr (zm_wr h 146 2 (h 146 1)) 146 1 0) 146 5 0) 146 8 0) 146 9 (-1)) 146 34 (1 - ((zm_wr (zm_wr (zm_wr (zm_wr (zm_wr h 146 2 (h 146 1)) 146 1 0) 146 5 0) 146 8 0) 146 9 (-1)) 146 13))) 146 34) ∧ ((zm_wr (zm_wr (zm_wr (zm_wr (zm_wr (zm_wr h 146 2 (h 146 1)) 146 1 0) 146 5 0) 146 8 0) 146 9 (-1)) 146 34 (1 - ((zm_wr (zm_wr (zm_wr (zm_wr (zm_wr h 146 2 (h 146 1)) 146 1 0) 146 5 0) 146 8 0) 146 9 (-1)) 146 13))) 146 34) < ((2 : Nat) : Int)) (zm_ck (0 ≤ ((zm_wr (zm_wr (zm_wr (zm_wr (zm_wr (zm_wr (zm_wr h 146 2 (h 146 1)) 146 1 0) 146 5 0) 146 8 0) 146 9 (-1)) 146 34 (1 - ((zm_wr (zm_wr (zm_wr (zm_wr (zm_wr h 146 2 (h 146 1)) 146 1 0) 146 5 0) 146 8 0) 146 9 (-1)) 146 13))) 148 ((zm_wr (zm_wr (zm_wr (zm_wr (zm_wr (zm_wr h 146 2 (h 146 1)) 146 1 0) 146 5 0) 146 8 0) 146 9 (-1)) 146 34 (1 - ((zm_wr (zm_wr (zm_wr (zm_wr (zm_wr h 146 2 (h 146 1)) 146 1 0) 146 5 0) 146 8 0) 146 9 (-1)) 146 13))) 146 34) 0) 146 34) ∧ ((zm_wr (zm_wr (zm_wr (zm_wr (zm_wr (zm_wr (zm_wr h 146 2 (h 146 1)) 146 1 0) 146 5 0) 146 8 0) 146 9 (-1)) 146 34 (1 - ((zm_wr (zm_wr (zm_wr (zm_wr (zm_wr h 146 2 (h 146 1)) 146 1 0) 146 5 0) 146 8 0) 146 9 (-1)) 146 13))) 148 ((zm_wr (zm_wr (zm_wr (zm_wr (zm_wr (zm_wr h 146 2 (h 146 1)) 146 1 0) 146 5 0) 146 8 0) 146 9 (-1)) 146 34 (1 - ((zm_wr (zm_wr (zm_wr (zm_wr (zm_wr h 146 2 (h 146 1)) 146 1 0) 146 5 0) 146 8 0) 146 9 (-1)) 146 13))) 146 34) 0) 146 34) < ((2 : Nat) : Int)) (zm_ck (0 ≤ ((zm_wr (zm_wr (zm_wr (zm_wr (zm_wr (zm_wr (zm_wr (zm_wr h 146 2 (h 146 1)) 146 1 0) 146 5 0) 146 8 0) 146 9 (-1)) 146 34 (1 - ((zm_wr (zm_wr (zm_wr (zm_wr (zm_wr h 146 2 (h 146 1)) 146 1 0) 146 5 0) 146 8 0) 146 9 (-1)) 146 13))) 148 ((zm_wr (zm_wr (zm_wr (zm_wr (zm_wr (zm_wr h 146 2 (h 146 1)) 146 1 0) 146 5 0) 146 8 0) 146 9 (-1)) 146 34 (1 - ((zm_wr (zm_wr (zm_wr (zm_wr (zm_wr h 146 2 (h 146 1)) 146 1 0) 146 5 0) 146 8 0) 146 9 (-1)) 146 13))) 146 34) 0) 151 ((zm_wr (zm_wr (zm_wr (zm_wr (zm_wr (zm_wr (zm_wr h 146 2 (h 146 1)) 146 1 0) 146 5 0) 146 8 0) 146 9 (-1)) 146 34 (1 - ((zm_wr (zm_wr (zm_wr (zm_wr (zm_wr h 146 2 (h 146 1)) 146 1 0) 146 5 0) 146 8 0) 146 9 (-1)) 146 13))) 148 ((zm_wr (zm_wr (zm_wr (zm_wr (zm_wr (zm_wr h 146 2 (h 146 1)) 146 1 0) 146 5 0) 146 8 0) 146 9 (-1)) 146 34 (1 - ((zm_wr (zm_wr (zm_wr (zm_wr (zm_wr h 146 2 (h 146 1)) 146 1 0) 146 5 0) 146 8 0) 146 9 (-1)) 146 13))) 146 34) 0) 146 34) 0) 146 34) ∧ ((zm_wr (zm_wr (zm_wr (zm_wr (zm_wr (zm_wr (zm_wr (zm_wr h 146 2 (h 146 1)) 146 1 0) 146 5 0) 146 8 0) 146 9 (-1)) 146 34 (1 - ((zm_wr (zm_wr (zm_wr (zm_wr (zm_wr h 146 2 (h 146 1)) 146 1 0) 146 5 0) 146 8 0) 146 9 (-1)) 146 13))) 148 ((zm_wr (zm_wr (zm_wr (zm_wr (zm_wr (zm_wr h 146 2 (h 146 1)) 146 1 0) 146 5 0) 146 8 0) 146 9 (-1)) 146 34 (1 - ((zm_wr (zm_wr (zm_wr (zm_wr (zm_wr h 146 2 (h 146 1)) 146 1 0) 146 5 0) 146 8 0) 146 9 (-1)) 146 13))) 146 34) 0) 151 ((zm_wr (zm_wr (zm_wr (zm_wr (zm_wr (zm_wr (zm_wr h 146 2 (h 146 1)) 146 1 0) 146 5 0) 146 8 0) 146 9 (-1)) 146 34 (1 - ((zm_wr (zm_wr (zm_wr (zm_wr (zm_wr h 146 2 (h 146 1)) 146 1 0) 146 5 0) 146 8 0) 146 9 (-1)) 146 13))) 148 ((zm_wr (zm_wr (zm_wr (zm_wr (zm_wr (zm_wr h 146 2 (h 146 1)) 146 1 0) 146 5 0) 146 8 0) 146 9 (-1)) 146 34 (1 - ((zm_wr (zm_wr (zm_wr (zm_wr (zm_wr h 146 2 (h 146 1)) 146 1 0) 146 5 0) 146 8 0) 146 9 (-1)) 146 13))) 146 34) 0) 146 34) 0) 146 34) < ((2 : Nat) : Int)) (zm_ck (0 ≤ ((zm_wr (zm_wr (zm_wr (zm_wr (zm_wr (zm_wr (zm_wr (zm_wr (zm_wr h 146 2 (h 146 1)) 146 1 0) 146 5 0) 146 8 0) 146 9 (-1)) 146 34 (1 - ((zm_wr (zm_wr (zm_wr (zm_wr (zm_wr h 146 2 (h 146 1)) 146 1 0) 146 5 0) 146 8 0) 146 9 (-1)) 146 13))) 148 ((zm_wr (zm_wr (zm_wr (zm_wr (zm_wr (zm_wr h 146 2 (h 146 1)) 146 1 0) 146 5 0) 146 8 0) 146 9 (-1)) 146 34 (1 - ((zm_wr (zm_wr (zm_wr (zm_wr (zm_wr h 146 2 (h 146 1)) 146 1 0) 146 5 0) 146 8 0) 146 9 (-1)) 146 13))) 146 34) 0) 151 ((zm_wr (zm_wr (zm_wr (zm_wr (zm_wr (zm_wr (zm_wr h 146 2 (h 146 1)) 146 1 0) 146 5 0) 146 8 0) 146 9 (-1)) 146 34 (1 - ((zm_wr (zm_wr (zm_wr (zm_wr (zm_wr h 146 2 (h 146 1)) 146 1 0) 146 5 0) 146 8 0) 146 9 (-1)) 146 13))) 148 ((zm_wr (zm_wr (zm_wr (zm_wr (zm_wr (zm_wr h 146 2 (h 146 1)) 146 1 0) 146 5 0) 146 8 0) 146 9 (-1)) 146 34 (1 - ((zm_wr (zm_wr (zm_wr (zm_wr (zm_wr h 146 2 (h 146 1)) 146 1 0) 146 5 0) 146 8 0) 146 9 (-1)) 146 13))) 146 34) 0) 146 34) 0) 153 ((zm_wr (zm_wr (zm_wr (zm_wr (zm_wr (zm_wr (zm_wr (zm_wr h 146 2 (h 146 1)) 146 1 0) 146 5 0) 146 8 0) 146 9 (-1)) 146 34 (1 - ((zm_wr (zm_wr (zm_wr (zm_wr (zm_wr h 146 2 (h 146 1)) 146 1 0) 146 5 0) 146 8 0) 146 9 (-1)) 146 13))) 148 ((zm_wr (zm_wr (zm_wr (zm_wr (zm_wr (zm_wr h 146 2 (h 146 1)) 146 1 0) 146 5 0) 146 8 0) 146 9 (-1)) 146 34 (1 - ((zm_wr (zm_wr (zm_wr (zm_wr (zm_wr h 146 2 (h 146 1)) 146 1 0) 146 5 0) 146 8 0) 146 9 (-1)) 146 13))) 146 34) 0) 151 ((zm_wr (zm_wr (zm_wr (zm_wr (zm_wr (zm_wr (zm_wr h 146 2 (h 146 1)) 146 1 0) 146 5 0) 146 8 0) 146 9 (-1)) 146 34 (1 - ((zm_wr (zm_wr (zm_wr (zm_wr (zm_wr h 146 2 (h 146 1)) 146 1 0) 146 5 0) 146 8 0) 146 9 (-1)) 146 13))) 148 ((zm_wr (zm_wr (zm_wr (zm_wr (zm_wr (zm_wr h 146 2 (h 146 1)) 146 1 0) 146 5 0) 146 8 0) 146 9 (-1)) 146 34 (1 - ((zm_wr (zm_wr (zm_wr (zm_wr (zm_wr h 146 2 (h 146 1)) 146 1 0) 146 5 0) 146 8 0) 146 9 (-1)) 146 13))) 146 34) 0) 146 34) 0) 146 34) 0) 146 34) ∧ ((zm_wr (zm_wr (zm_wr (zm_wr (zm_wr (zm_wr (zm_wr (zm_wr (zm_wr h 146 2 (h 146 1)) 146 1 0) 146 5 0) 146 8 0) 146 9 (-1)) 146 34 (1 - ((zm_wr (zm_wr (zm_wr (zm_wr (zm_wr h 146 2 (h 146 1)) 146 1 0) 146 5 0) 146 8 0) 146 9 (-1)) 146 13))) 148 ((zm_wr (zm_wr (zm_wr (zm_wr (zm_wr (zm_wr h 146 2 (h 146 1)) 146 1 0) 146 5 0) 146 8 0) 146 9 (-1)) 146 34 (1 - ((zm_wr (zm_wr (zm_wr (zm_wr (zm_wr h 146 2 (h 146 1)) 146 1 0) 146 5 0) 146 8 0) 146 9 (-1)) 146 13))) 146 34) 0) 151 ((zm_wr (zm_wr (zm_wr (zm_wr (zm_wr (zm_wr (zm_wr h 146 2 (h 146 1)) 146 1 0) 146 5 0) 146 8 0) 146 9 (-1)) 146 34 (1 - ((zm_wr (zm_wr (zm_wr (zm_wr (zm_wr h 146 2 (h 146 1)) 146 1 0) 146 5 0) 146 8 0) 146 9 (-1)) 146 13))) 148 ((zm_wr (zm_wr (zm_wr (zm_wr (zm_wr (zm_wr h 146 2 (h 146 1)) 146 1 0) 146 5 0) 146 8 0) 146 9 (-1)) 146 34 (1 - ((zm_wr (zm_wr (zm_wr (zm_wr (zm_wr h 146 2 (h 146 1)) 146 1 0) 146 5 0) 146 8 0) 146 9 (-1)) 146 13))) 146 34) 0) 146 34) 0) 153 ((zm_wr (zm_wr (zm_wr (zm_wr (zm_wr (zm_wr (zm_wr (zm_wr h 146 2 (h 146 1)) 146 1 0) 146 5 0) 146 8 0) 146 9 (-1)) 146 34 (1 - ((zm_wr (zm_wr (zm_wr (zm_wr (zm_wr h 146 2 (h 146 1)) 146 1 0) 146 5 0) 146 8 0) 146 9 (-1)) 146 13))) 148 ((zm_wr (zm_wr (zm_wr (zm_wr (zm_wr (zm_wr h 146 2 (h 146 1)) 146 1 0) 146 5 0) 146 8 0) 146 9 (-1)) 146 34 (1 - ((zm_wr (zm_wr (zm_wr (zm_wr (zm_wr h 146 2 (h 146 1)) 146 1 0) 146 5 0) 146 8 0) 146 9 (-1)) 146 13))) 146 34) 0) 151 ((zm_wr (zm_wr (zm_wr (zm_wr (zm_wr (zm_wr (zm_wr h 146 2 (h 146 1)) 146 1 0) 146 5 0) 146 8 0) 146 9 (-1)) 146 34 (1 - ((zm_wr (zm_wr (zm_wr (zm_wr (zm_wr h 146 2 (h 146 1)) 146 1 0) 146 5 0) 146 8 0) 146 9 (-1)) 146 13))) 148 ((zm_wr (zm_wr (zm_wr (zm_wr (zm_wr (zm_wr h 146 2 (h 146 1)) 146 1 0) 146 5 0) 146 8 0) 146 9 (-1)) 146 34 (1 - ((zm_wr (zm_wr (zm_wr (zm_wr (zm_wr h 146 2 (h 146 1)) 146 1 0) 146 5 0) 146 8 0) 146 9 (-1)) 146 13))) 146 34) 0) 146 34) 0) 146 34) 0) 146 34) < ((2 : Nat) : Int)) (zm_ck (0 ≤ ((zm_wr (zm_wr (zm_wr (zm_wr (zm_wr (zm_wr (zm_wr (zm_wr (zm_wr (zm_wr h 146 2 (h 146 1)) 146 1 0) 146 5 0) 146 8 0) 146 9 (-1)) 146 34 (1 - ((zm_wr (zm_wr (zm_wr (zm_wr (zm_wr h 146 2 (h 146 1)) 146 1 0) 146 5 0) 146 8 0) 146 9 (-1)) 146 13))) 148 ((zm_wr (zm_wr (zm_wr (zm_wr (zm_wr (zm_wr h 146 2 (h 146 1)) 146 1 0) 146 5 0) 146 8 0) 146 9 (-1)) 146 34 (1 - ((zm_wr (zm_wr (zm_wr (zm_wr (zm_wr h 146 2 (h 146 1)) 146 1 0) 146 5 0) 146 8 0) 146 9 (-1)) 146 13))) 146 34) 0) 151 ((zm_wr (zm_wr (zm_wr (zm_wr (zm_wr (zm_wr (zm_wr h 146 2 (h 146 1)) 146 1 0) 146 5 0) 146 8 0) 146 9 (-1)) 146 34 (1 - ((zm_wr (zm_wr (zm_wr (zm_wr (zm_wr h 146 2 (h 146 1)) 146 1 0) 146 5 0) 146 8 0) 146 9 (-1)) 146 13))) 148 ((zm_wr (zm_wr (zm_wr (zm_wr (zm_wr (zm_wr h 146 2 (h 146 1)) 146 1 0) 146 5 0) 146 8 0) 146 9 (-1)) 146 34 (1 - ((zm_wr (zm_wr (zm_wr (zm_wr (zm_wr h 146 2 (h 146 1)) 146 1 0) 146 5 0) 146 8 0) 146 9 (-1)) 146 13))) 146 34) 0) 146 34) 0) 153 ((zm_wr (zm_wr (zm_wr (zm_wr (zm_wr (zm_wr (zm_wr (zm_wr h 146 2 (h 146 1)) 146 1 0) 146 5 0) 146 8 0) 146 9 (-1)) 146 34 (1 - ((zm_wr (zm_wr (zm_wr (zm_wr (zm_wr h 146 2 (h 146 1)) 146 1 0) 146 5 0) 146 8 0) 146 9 (-1)) 146 13))) 148 ((zm_wr (zm_wr (zm_wr (zm_wr (zm_wr (zm_wr h 146 2 (h 146 1)) 146 1 0) 146 5 0) 146 8 0) 146 9 (-1)) 146 34 (1 - ((zm_wr (zm_wr (zm_wr (zm_wr (zm_wr h 146 2 (h 146 1)) 146 1 0) 146 5 0) 146 8 0) 146 9 (-1)) 146 13))) 146 34) 0) 151 ((zm_wr (zm_wr (zm_wr (zm_wr (zm_wr (zm_wr (zm_wr h 146 2 (h 146 1)) 146 1 0) 146 5 0) 146 8 0) 146 9 (-1)) 146 34 (1 - ((zm_wr (zm_wr (zm_wr (zm_wr (zm_wr h 146 2 (h 146 1)) 146 1 0) 146 5 0) 146 8 0) 146 9 (-1)) 146 13))) 148 ((zm_wr (zm_wr (zm_wr (zm_wr (zm_wr (zm_wr h 146 2 (h 146 1)) 146 1 0) 146 5 0) 146 8 0) 146 9 (-1)) 146 34 (1 - ((zm_wr (zm_wr (zm_wr (zm_wr (zm_wr h 146 2 (h 146 1)) 146 1 0) 146 5 0) 146 8 0) 146 9 (-1)) 146 13))) 146 34) 0) 146 34) 0) 146 34) 0) 158 ((zm_wr (zm_wr (zm_wr (zm_wr (zm_wr (zm_wr (zm_wr (zm_wr (zm_wr h 146 2 (h 146 1)) 146 1 0) 146 5 0) 146 8 0) 146 9 (-1)) 146 34 (1 - ((zm_wr (zm_wr (zm_wr (zm_wr (zm_wr h 146 2 (h 146 1)) 146 1 0) 146 5 0) 146 8 0) 146 9 (-1)) 146 13))) 148 ((zm_wr (zm_wr (zm_wr (zm_wr (zm_wr (zm_wr h 146 2 (h 146 1)) 146 1 0) 146 5 0) 146 8 0) 146 9 (-1)) 146 34 (1 - ((zm_wr (zm_wr (zm_wr (zm_wr (zm_wr h 146 2 (h 146 1)) 146 1 0) 146 5 0) 146 8 0) 146 9 (-1)) 146 13))) 146 34) 0) 151 ((zm_wr (zm_wr (zm_wr (zm_wr (zm_wr (zm_wr (zm_wr h 146 2 (h 146 1)) 146 1 0) 146 5 0) 146 8 0) 146 9 (-1)) 146 34 (1 - ((zm_wr (zm_wr (zm_wr (zm_wr (zm_wr h 146 2 (h 146 1)) 146 1 0) 146 5 0) 146 8 0) 146 9 (-1)) 146 13))) 148 ((zm_wr (zm_wr (zm_wr (zm_wr (zm_wr (zm_wr h 146 2 (h 146 1)) 146 1 0) 146 5 0) 146 8 0) 146 9 (-1)) 146 34 (1 - ((zm_wr (zm_wr (zm_wr (zm_wr (zm_wr h 146 2 (h 146 1)) 146 1 0) 146 5 0) 146 8 0) 146 9 (-1)) 146 13))) 146 34) 0) 146 34) 0) 153 ((zm_wr (zm_wr (zm_wr (zm_wr (zm_wr (zm_wr (zm_wr (zm_wr h 146 2 (h 146 1)) 146 1 0) 146 5 0) 146 8 0) 146 9 (-1)) 146 34 (1 - ((zm_wr (zm_wr (zm_wr (zm_wr (zm_wr h 146 2 (h 146 1)) 146 1 0) 146 5 0) 146 8 0) 146 9 (-1)) 146 13))) 148 ((zm_wr (zm_wr (zm_wr (zm_wr (zm_wr (zm_wr h 146 2 (h 146 1)) 146 1 0) 146 5 0) 146 8 0) 146 9 (-1)) 146 34 (1 - ((zm_wr (zm_wr (zm_wr (zm_wr (zm_wr h 146 2 (h 146 1)) 146 1 0) 146 5 0) 146 8 0) 146 9 (-1)) 146 13))) 146 34) 0) 151 ((zm_wr (zm_wr (zm_wr (zm_wr (zm_wr (zm_wr (zm_wr h 146 2 (h 146 1)) 146 1 0) 146 5 0) 146 8 0) 146 9 (-1)) 146 34 (1 - ((zm_wr (zm_wr (zm_wr (zm_wr (zm_wr h 146 2 (h 146 1)) 146 1 0) 146 5 0) 146 8 0) 146 9 (-1)) 146 13))) 148 ((zm_wr (zm_wr (zm_wr (zm_wr (zm_wr (zm_wr h 146 2 (h 146 1)) 146 1 0) 146 5 0) 146 8 0) 146 9 (-1)) 146 34 (1 - ((zm_wr (zm_wr (zm_wr (zm_wr (zm_wr h 146 2 (h 146 1)) 146 1 0) 146 5 0) 146 8 0) 146 9 (-1)) 146 13))) 146 34) 0) 146 34) 0) 146 34) 0) 146 34) 50) 146 34) ∧ ((zm_wr (zm_wr (zm_wr (zm_wr (zm_wr (zm_wr (zm_wr (zm_wr (zm_wr (zm_wr h 146 2 (h 146 1)) 146 1 0) 146 5 0) 146 8 0) 146 9 (-1)) 146 34 (1 - ((zm_wr (zm_wr (zm_wr (zm_wr (zm_wr h 146 2 (h 146 1)) 146 1 0) 146 5 0) 146 8 0) 146 9 (-1)) 146 13))) 148 ((zm_wr (zm_wr (zm_wr (zm_wr (zm_wr (zm_wr h 146 2 (h 146 1)) 146 1 0) 146 5 0) 146 8 0) 146 9 (-1)) 146 34 (1 - ((zm_wr (zm_wr (zm_wr (zm_wr (zm_wr h 146 2 (h 146 1)) 146 1 0) 146 5 0) 146 8 0) 146 9 (-1)) 146 13))) 146 34) 0) 151 ((zm_wr (zm_wr (zm_wr (zm_wr (zm_wr (zm_wr (zm_wr h 146 2 (h 146 1)) 146 1 0) 146 5 0) 146 8 0) 146 9 (-1)) 146 34 (1 - ((zm_wr (zm_wr (zm_wr (zm_wr (zm_wr h 146 2 (h 146 1)) 146 1 0) 146 5 0) 146 8 0) 146 9 (-1)) 146 13))) 148 ((zm_wr (zm_wr (zm_wr (zm_wr (zm_wr (zm_wr h 146 2 (h 146 1)) 146 1 0) 146 5 0) 146 8 0) 146 9 (-1)) 146 34 (1 - ((zm_wr (zm_wr (zm_wr (zm_wr (zm_wr h 146 2 (h 146 1)) 146 1 0) 146 5 0) 146 8 0) 146 9 (-1)) 146 13))) 146 34) 0) 146 34) 0) 153 ((zm_wr (zm_wr (zm_wr (zm_wr (zm_wr (zm_wr (zm_wr (zm_wr h 146 2 (h 146 1)) 146 1 0) 146 5 0) 146 8 0) 146 9 (-1)) 146 34 (1 - ((zm_wr (zm_wr (zm_wr (zm_wr (zm_wr h 146 2 (h 146 1)) 146 1 0) 146 5 0) 146 8 0) 146 9 (-1)) 146 13))) 148 ((zm_wr (zm_wr (zm_wr (zm_wr (zm_wr (zm_wr h 146 2 (h 146 1)) 146 1 0) 146 5 0) 146 8 0) 146 9 (-1)) 146 34 (1 - ((zm_wr (zm_wr (zm_wr (zm_wr (zm_wr h 146 2 (h 146 1)) 146 1 0) 146 5 0) 146 8 0) 146 9 (-1)) 146 13))) 146 34) 0) 151 ((zm_wr (zm_wr (zm_wr (zm_wr (zm_wr (zm_wr (zm_wr h 146 2 (h 146 1)) 146 1 0) 146 5 0) 146 8 0) 146 9 (-1)) 146 34 (1 - ((zm_wr (zm_wr (zm_wr (zm_wr (zm_wr h 146 2 (h 146 1)) 146 1 0) 146 5 0) 146 8 0) 146 9 (-1)) 146 13))) 148 ((zm_wr (zm_wr (zm_wr (zm_wr (zm_wr (zm_wr h 146 2 (h 146 1)) 146 1 0) 146 5 0) 146 8 0) 146 9 (-1)) 146 34 (1 - ((zm_wr (zm_wr (zm_wr (zm_wr (zm_wr h 146 2 (h 146 1)) 146 1 0) 146 5 0) 146 8 0) 146 9 (-1)) 146 13))) 146 34) 0) 146 34) 0) 146 34) 0) 158 ((zm_wr (zm_wr (zm_wr (zm_wr (zm_wr (zm_wr (zm_wr (zm_wr (zm_wr h 146 2 (h 146 1)) 146 1 0) 146 5 0) 146 8 0) 146 9 (-1)) 146 34 (1 - ((zm_wr (zm_wr (zm_wr (zm_wr (zm_wr h 146 2 (h 146 1)) 146 1 0) 146 5 0) 146 8 0) 146 9 (-1)) 146 13))) 148 ((zm_wr (zm_wr (zm_wr (zm_wr (zm_wr (zm_wr h 146 2 (h 146 1)) 146 1 0) 146 5 0) 146 8 0) 146 9 (-1)) 146 34 (1 - ((zm_wr (zm_wr (zm_wr (zm_wr (zm_wr h 146 2 (h 146 1)) 146 1 0) 146 5 0) 146 8 0) 146 9 (-1)) 146 13))) 146 34) 0) 151 ((zm_wr (zm_wr (zm_wr (zm_wr (zm_wr (zm_wr (zm_wr h 146 2 (h 146 1)) 146 1 0) 146 5 0) 146 8 0) 146 9 (-1)) 146 34 (1 - ((zm_wr (zm_wr (zm_wr (zm_wr (zm_wr h 146 2 (h 146 1)) 146 1 0) 146 5 0) 146 8 0) 146 9 (-1)) 146 13))) 148 ((zm_wr (zm_wr (zm_wr (zm_wr (zm_wr (zm_wr h 146 2 (h 146 1)) 146 1 0) 146 5 0) 146 8 0) 146 9 (-1)) 146 34 (1 - ((zm_wr (zm_wr (zm_wr (zm_wr (zm_wr h 146 2 (h 146 1)) 146 1 0) 146 5 0) 146 8 0) 146 9 (-1)) 146 13))) 146 34) 0) 146 34) 0) 153 ((zm_wr (zm_wr (zm_wr (zm_wr (zm_wr (zm_wr (zm_wr (zm_wr h 146 2 (h 146 1)) 146 1 0) 146 5 0) 146 8 0) 146 9 (-1)) 146 34 (1 - ((zm_wr (zm_wr (zm_wr (zm_wr (zm_wr h 146 2 (h 146 1)) 146 1 0) 146 5 0) 146 8 0) 146 9 (-1)) 146 13))) 148 ((zm_wr (zm_wr (zm_wr (zm_wr (zm_wr (zm_wr h 146 2 (h 146 1)) 146 1 0) 146 5 0) 146 8 0) 146 9 (-1)) 146 34 (1 - ((zm_wr (zm_wr (zm_wr (zm_wr (zm_wr h 146 2 (h 146 1)) 146 1 0) 146 5 0) 146 8 0) 146 9 (-1)) 146 13))) 146 34) 0) 151 ((zm_wr (zm_wr (zm_wr (zm_wr (zm_wr (zm_wr (zm_wr h 146 2 (h 146 1)) 146 1 0) 146 5 0) 146 8 0) 146 9 (-1)) 146 34 (1 - ((zm_wr (zm_wr (zm_wr (zm_wr (zm_wr h 146 2 (h 146 1)) 146 1 0) 146 5 0) 146 8 0) 146 9 (-1)) 146 13))) 148 ((zm_wr (zm_wr (zm_wr (zm_wr (zm_wr (zm_wr h 146 2 (h 146 1)) 146 1 0) 146 5 0) 146 8 0) 146 9 (-1)) 146 34 (1 - ((zm_wr (zm_wr (zm_wr (zm_wr (zm_wr h 146 2 (h 146 1)) 146 1 0) 146 5 0) 146 8 0) 146 9 (-1)) 146 13))) 146 34) 0) 146 34) 0) 146 34) 0) 146 34) 50) 146 34) < ((2 : Nat) : Int)) (zm_ck (0 ≤ ((zm_wr (zm_wr (zm_wr (zm_wr (zm_wr (zm_wr (zm_wr (zm_wr (zm_wr (zm_wr (zm_wr h 146 2 (h 146 1)) 146 1 0) 146 5 0) 146 8 0) 146 9 (-1)) 146 34 (1 - ((zm_wr (zm_wr (zm_wr (zm_wr (zm_wr h 146 2 (h 146 1)) 146 1 0) 146 5 0) 146 8 0) 146 9 (-1)) 146 13))) 148 ((zm_wr (zm_wr (zm_wr (zm_wr (zm_wr (zm_wr h 146 2 (h 146 1)) 146 1 0) 146 5 0) 146 8 0) 146 9 (-1)) 146 34 (1 - ((zm_wr (zm_wr (zm_wr (zm_wr (zm_wr h 146 2 (h 146 1)) 146 1 0) 146 5 0) 146 8 0) 146 9 (-1)) 146 13))) 146 34) 0) 151 ((zm_wr (zm_wr (zm_wr (zm_wr (zm_wr (zm_wr (zm_wr h 146 2 (h 146 1)) 146 1 0) 146 5 0) 146 8 0) 146 9 (-1)) 146 34 (1 - ((zm_wr (zm_wr (zm_wr (zm_wr (zm_wr h 146 2 (h 146 1)) 146 1 0) 146 5 0) 146 8 0) 146 9 (-1)) 146 13))) 148 ((zm_wr (zm_wr (zm_wr (zm_wr (zm_wr (zm_wr h 146 2 (h 146 1)) 146 1 0) 146 5 0) 146 8 0) 146 9 (-1)) 146 34 (1 - ((zm_wr (zm_wr (zm_wr (zm_wr (zm_wr h 146 2 (h 146 1)) 146 1 0) 146 5 0) 146 8 0) 146 9 (-1)) 146 13))) 146 34) 0) 146 34) 0) 153 ((zm_wr (zm_wr (zm_wr (zm_wr (zm_wr (zm_wr (zm_wr (zm_wr h 146 2 (h 146 1)) 146 1 0) 146 5 0) 146 8 0) 146 9 (-1)) 146 34 (1 - ((zm_wr (zm_wr (zm_wr (zm_wr (zm_wr h 146 2 (h 146 1)) 146 1 0) 146 5 0) 146 8 0) 146 9 (-1)) 146 13))) 148 ((zm_wr (zm_wr (zm_wr (zm_wr (zm_wr (zm_wr h 146 2 (h 146 1)) 146 1 0) 146 5 0) 146 8 0) 146 9 (-1)) 146 34 (1 - ((zm_wr (zm_wr (zm_wr (zm_wr (zm_wr h 146 2 (h 146 1)) 146 1 0) 146 5 0) 146 8 0) 146 9 (-1)) 146 13))) 146 34) 0) 151 ((zm_wr (zm_wr (zm_wr (zm_wr (zm_wr (zm_wr (zm_wr h 146 2 (h 146 1)) 146 1 0) 146 5 0) 146 8 0) 146 9 (-1)) 146 34 (1 - ((zm_wr (zm_wr (zm_wr (zm_wr (zm_wr h 146 2 (h 146 1)) 146 1 0) 146 5 0) 146 8 0) 146 9 (-1)) 146 13))) 148 ((zm_wr (zm_wr (zm_wr (zm_wr (zm_wr (zm_wr h 146 2 (h 146 1)) 146 1 0) 146 5 0) 146 8 0) 146 9 (-1)) 146 34 (1 - ((zm_wr (zm_wr (zm_wr (zm_wr (zm_wr h 146 2 (h 146 1)) 146 1 0) 146 5 0) 146 8 0) 146 9 (-1)) 146 13))) 146 34) 0) 146 34) 0) 146 34) 0) 158 ((zm_wr (zm_wr (zm_wr (zm_wr (zm_wr (zm_wr (zm_wr (zm_wr (zm_wr h 146 2 (h 146 1)) 146 1 0) 146 5 0) 146 8 0) 146 9 (-1)) 146 34 (1 - ((zm_wr (zm_wr (zm_wr (zm_wr (zm_wr h 146 2 (h 146 1)) 146 1 0) 146 5 0) 146 8 0) 146 9 (-1)) 146 13))) 148 ((zm_wr (zm_wr (zm_wr (zm_wr (zm_wr (zm_wr h 146 2 (h 146 1)) 146 1 0) 146 5 0) 146 8 0) 146 9 (-1)) 146 34 (1 - ((zm_wr (zm_wr (zm_wr (zm_wr (zm_wr h 146 2 (h 146 1)) 146 1 0) 146 5 0) 146 8 0) 146 9 (-1)) 146 13))) 146 34) 0) 151 ((zm_wr (zm_wr (zm_wr (zm_wr (zm_wr (zm_wr (zm_wr h 146 2 (h 146 1)) 146 1 0) 146 5 0) 146 8 0) 146 9 (-1)) 146 34 (1 - ((zm_wr (zm_wr (zm_wr (zm_wr (zm_wr h 146 2 (h 146 1)) 146 1 0) 146 5 0) 146 8 0) 146 9 (-1)) 146 13))) 148 ((zm_wr (zm_wr (zm_wr (zm_wr (zm_wr (zm_wr h 146 2 (h 146 1)) 146 1 0) 146 5 0) 146 8 0) 146 9 (-1)) 146 34 (1 - ((zm_wr (zm_wr (zm_wr (zm_wr (zm_wr h 146 2 (h 146 1)) 146 1 0) 146 5 0) 146 8 0) 146 9 (-1)) 146 13))) 146 34) 0) 146 34) 0) 153 ((zm_wr (zm_wr (zm_wr (zm_wr (zm_wr (zm_wr (zm_wr (zm_wr h 146 2 (h 146 1)) 146 1 0) 146 5 0) 146 8 0) 146 9 (-1)) 146 34 (1 - ((zm_wr (zm_wr (zm_wr (zm_wr (zm_wr h 146 2 (h 146 1)) 146 1 0) 146 5 0) 146 8 0) 146 9 (-1)) 146 13))) 148 ((zm_wr (zm_wr (zm_wr (zm_wr (zm_wr (zm_wr h 146 2 (h 146 1)) 146 1 0) 146 5 0) 146 8 0) 146 9 (-1)) 146 34 (1 - ((zm_wr (zm_wr (zm_wr (zm_wr (zm_wr h 146 2 (h 146 1)) 146 1 0) 146 5 0) 146 8 0) 146 9 (-1)) 146 13))) 146 34) 0) 151 ((zm_wr (zm_wr (zm_wr (zm_wr (zm_wr (zm_wr (zm_wr h 146 2 (h 146 1)) 146 1 0) 146 5 0) 146 8 0) 146 9 (-1)) 146 34 (1 - ((zm_wr (zm_wr (zm_wr (zm_wr (zm_wr h 146 2 (h 146 1)) 146 1 0) 146 5 0) 146 8 0) 146 9 (-1)) 146 13))) 148 ((zm_wr (zm_wr (zm_wr (zm_wr (zm_wr (zm_wr h 146 2 (h 146 1)) 146 1 0) 146 5 0) 146 8 0) 146 9 (-1)) 146 34 (1 - ((zm_wr (zm_wr (zm_wr (zm_wr (zm_wr h 146 2 (h 146 1)) 146 1 0) 146 5 0) 146 8 0) 146 9 (-1)) 146 13))) 146 34) 0) 146 34) 0) 146 34) 0) 146 34) 50) 159 ((zm_wr (zm_wr (zm_wr (zm_wr (zm_wr (zm_wr (zm_wr (zm_wr (zm_wr (zm_wr h 146 2 (h 146 1)) 146 1 0) 146 5 0) 146 8 0) 146 9 (-1)) 146 34 (1 - ((zm_wr (zm_wr (zm_wr (zm_wr (zm_wr h 146 2 (h 146 1)) 146 1 0) 146 5 0) 146 8 0) 146 9 (-1)) 146 13))) 148 ((zm_wr (zm_wr (zm_wr (zm_wr (zm_wr (zm_wr h 146 2 (h 146 1)) 146 1 0) 146 5 0) 146 8 0) 146 9 (-1)) 146 34 (1 - ((zm_wr (zm_wr (zm_wr (zm_wr (zm_wr h 146 2 (h 146 1)) 146 1 0) 146 5 0) 146 8 0) 146 9 (-1)) 146 13))) 146 34) 0) 151 ((zm_wr (zm_wr (zm_wr (zm_wr (zm_wr (zm_wr (zm_wr h 146 2 (h 146 1)) 146 1 0) 146 5 0) 146 8 0) 146 9 (-1)) 146 34 (1 - ((zm_wr (zm_wr (zm_wr (zm_wr (zm_wr h 146 2 (h 146 1)) 146 1 0) 146 5 0) 146 8 0) 146 9 (-1)) 146 13))) 148 ((zm_wr (zm_wr (zm_wr (zm_wr (zm_wr (zm_wr h 146 2 (h 146 1)) 146 1 0) 146 5 0) 146 8 0) 146 9 (-1)) 146 34 (1 - ((zm_wr (zm_wr (zm_wr (zm_wr (zm_wr h 146 2 (h 146 1)) 146 1 0) 146 5 0) 146 8 0) 146 9 (-1)) 146 13))) 146 34) 0) 146 34) 0) 153 ((zm_wr (zm_wr (zm_wr (zm_wr (zm_wr (zm_wr (zm_wr (zm_wr h 146 2 (h 146 1)) 146 1 0) 146 5 0) 146 8 0) 146 9 (-1)) 146 34 (1 - ((zm_wr (zm_wr (zm_wr (zm_wr (zm_wr h 146 2 (h 146 1)) 146 1 0) 146 5 0) 146 8 0) 146 9 (-1)) 146 13))) 148 ((zm_wr (zm_wr (zm_wr (zm_wr (zm_wr (zm_wr h 146 2 (h 146 1)) 146 1 0) 146 5 0) 146 8 0) 146 9 (-1)) 146 34 (1 - ((zm_wr (zm_wr (zm_wr (zm_wr (zm_wr h 146 2 (h 146 1)) 146 1 0) 146 5 0) 146 8 0) 146 9 (-1)) 146 13))) 146 34) 0) 151 ((zm_wr (zm_wr (zm_wr (zm_wr (zm_wr (zm_wr (zm_wr h 146 2 (h 146 1)) 146 1 0) 146 5 0) 146 8 0) 146 9 (-1)) 146 34 (1 - ((zm_wr (zm_wr (zm_wr (zm_wr (zm_wr h 146 2 (h 146 1)) 146 1 0) 146 5 0) 146 8 0) 146 9 (-1)) 146 13))) 148 ((zm_wr (zm_wr (zm_wr (zm_wr (zm_wr (zm_wr h 146 2 (h 146 1)) 146 1 0) 146 5 0) 146 8 0) 146 9 (-1)) 146 34 (1 - ((zm_wr (zm_wr (zm_wr (zm_wr (zm_wr h 146 2 (h 146 1)) 146 1 0) 146 5 0) 146 8 0) 146 9 (-1)) 146 13))) 146 34) 0) 146 34) 0) 146 34) 0) 158 ((zm_wr (zm_wr (zm_wr (zm_wr (zm_wr (zm_wr (zm_wr (zm_wr (zm_wr h 146 2 (h 146 1)) 146 1 0) 146 5 0) 146 8 0) 146 9 (-1)) 146 34 (1 - ((zm_wr (zm_wr (zm_wr (zm_wr (zm_wr h 146 2 (h 146 1)) 146 1 0) 146 5 0) 146 8 0) 146 9 (-1)) 146 13))) 148 ((zm_wr (zm_wr (zm_wr (zm_wr (zm_wr (zm_wr h 146 2 (h 146 1)) 146 1 0) 146 5 0) 146 8 0) 146 9 (-1)) 146 34 (1 - ((zm_wr (zm_wr (zm_wr (zm_wr (zm_wr h 146 2 (h 146 1)) 146 1 0) 146 5 0) 146 8 0) 146 9 (-1)) 146 13))) 146 34) 0) 151 ((zm_wr (zm_wr (zm_wr (zm_wr (zm_wr (zm_wr (zm_wr h 146 2 (h 146 1)) 146 1 0) 146 5 0) 146 8 0) 146 9 (-1)) 146 34 (1 - ((zm_wr (zm_wr (zm_wr (zm_wr (zm_wr h 146 2 (h 146 1)) 146 1 0) 146 5 0) 146 8 0) 146 9 (-1)) 146 13))) 148 ((zm_wr (zm_wr (zm_wr (zm_wr (zm_wr (zm_wr h 146 2 (h 146 1)) 146 1 0) 146 5 0) 146 8 0) 146 9 (-1)) 146 34 (1 - ((zm_wr (zm_wr (zm_wr (zm_wr (zm_wr h 146 2 (h 146 1)) 146 1 0) 146 5 0) 146 8 0) 146 9 (-1)) 146 13))) 146 34) 0) 146 34) 0) 153 ((zm_wr (zm_wr (zm_wr (zm_wr (zm_wr (zm_wr (zm_wr (zm_wr h 146 2 (h 146 1)) 146 1 0) 146 5 0) 146 8 0) 146 9 (-1)) 146 34 (1 - ((zm_wr (zm_wr (zm_wr (zm_wr (zm_wr h 146 2 (h 146 1)) 146 1 0) 146 5 0) 146 8 0) 146 9 (-1)) 146 13))) 148 ((zm_wr (zm_wr (zm_wr (zm_wr (zm_wr (zm_wr h 146 2 (h 146 1)) 146 1 0) 146 5 0) 146 8 0) 146 9 (-1)) 146 34 (1 - ((zm_wr (zm_wr (zm_wr (zm_wr (zm_wr h 146 2 (h 146 1)) 146 1 0) 146 5 0) 146 8 0) 146 9 (-1)) 146 13))) 146 34) 0) 151 ((zm_wr (zm_wr (zm_wr (zm_wr (zm_wr (zm_wr (zm_wr h 146 2 (h 146 1)) 146 1 0) 146 5 0) 146 8 0) 146 9 (-1)) 146 34 (1 - ((zm_wr (zm_wr (zm_wr (zm_wr (zm_wr h 146 2 (h 146 1)) 146 1 0) 146 5 0) 146 8 0) 146 9 (-1)) 146 13))) 148 ((zm_wr (zm_wr (zm_wr (zm_wr (zm_wr (zm_wr h 146 2 (h 146 1)) 146 1 0) 146 5 0) 146 8 0) 146 9 (-1)) 146 34 (1 - ((zm_wr (zm_wr (zm_wr (zm_wr (zm_wr h 146 2 (h 146 1)) 146 1 0) 146 5 0) 146 8 0) 146 9 (-1)) 146 13))) 146 34) 0) 146 34) 0) 146 34) 0) 146 34) 50) 146 34) (-1)) 146 34) ∧ ((zm_wr (zm_wr (zm_wr (zm_wr (zm_wr (zm_wr (zm_wr (zm_wr (zm_wr (zm_wr (zm_wr h 146 2 (h 146 1)) 146 1 0) 146 5 0) 146 8 0) 146 9 (-1)) 146 34 (1 - ((zm_wr (zm_wr (zm_wr (zm_wr (zm_wr h 146 2 (h 146 1)) 146 1 0) 146 5 0) 146 8 0) 146 9 (-1)) 146 13))) 148 ((zm_wr (zm_wr (zm_wr (zm_wr (zm_wr (zm_wr h 146 2 (h 146 1)) 146 1 0) 146 5 0) 146 8 0) 146 9 (-1)) 146 34 (1 - ((zm_wr (zm_wr (zm_wr (zm_wr (zm_wr h 146 2 (h 146 1)) 146 1 0) 146 5 0) 146 8 0) 146 9 (-1)) 146 13))) 146 34) 0) 151 ((zm_wr (zm_wr (zm_wr (zm_wr (zm_wr (zm_wr (zm_wr h 146 2 (h 146 1)) 146 1 0) 146 5 0) 146 8 0) 146 9 (-1)) 146 34 (1 - ((zm_wr (zm_wr (zm_wr (zm_wr (zm_wr h 146 2 (h 146 1)) 146 1 0) 146 5 0) 146 8 0) 146 9 (-1)) 146 13))) 148 ((zm_wr (zm_wr (zm_wr (zm_wr (zm_wr (zm_wr h 146 2 (h 146 1)) 146 1 0) 146 5 0) 146 8 0) 146 9 (-1)) 146 34 (1 - ((zm_wr (zm_wr (zm_wr (zm_wr (zm_wr h 146 2 (h 146 1)) 146 1 0) 146 5 0) 146 8 0) 146 9 (-1)) 146 13))) 146 34) 0) 146 34) 0) 153 ((zm_wr (zm_wr (zm_wr (zm_wr (zm_wr (zm_wr (zm_wr (zm_wr h 146 2 (h 146 1)) 146 1 0) 146 5 0) 146 8 0) 146 9 (-1)) 146 34 (1 - ((zm_wr (zm_wr (zm_wr (zm_wr (zm_wr h 146 2 (h 146 1)) 146 1 0) 146 5 0) 146 8 0) 146 9 (-1)) 146 13))) 148 ((zm_wr (zm_wr (zm_wr (zm_wr (zm_wr (zm_wr h 146 2 (h 146 1)) 146 1 0) 146 5 0) 146 8 0) 146 9 (-1)) 146 34 (1 - ((zm_wr (zm_wr (zm_wr (zm_wr (zm_wr h 146 2 (h 146 1)) 146 1 0) 146 5 0) 146 8 0) 146 9 (-1)) 146 13))) 146 34) 0) 151 ((zm_wr (zm_wr (zm_wr (zm_wr (zm_wr (zm_wr (zm_wr h 146 2 (h 146 1)) 146 1 0) 146 5 0) 146 8 0) 146 9 (-1)) 146 34 (1 - ((zm_wr (zm_wr (zm_wr (zm_wr (zm_wr h 146 2 (h 146 1)) 146 1 0) 146 5 0) 146 8 0) 146 9 (-1)) 146 13))) 148 ((zm_wr (zm_wr (zm_wr (zm_wr (zm_wr (zm_wr h 146 2 (h 146 1)) 146 1 0) 146 5 0) 146 8 0) 146 9 (-1)) 146 34 (1 - ((zm_wr (zm_wr (zm_wr (zm_wr (zm_wr h 146 2 (h 146 1)) 146 1 0) 146 5 0) 146 8 0) 146 9 (-1)) 146 13))) 146 34) 0) 146 34) 0) 146 34) 0) 158 ((zm_wr (zm_wr (zm_wr (zm_wr (zm_wr (zm_wr (zm_wr (zm_wr (zm_wr h 146 2 (h 146 1)) 146 1 0) 146 5 0) 146 8 0) 146 9 (-1)) 146 34 (1 - ((zm_wr (zm_wr (zm_wr (zm_wr (zm_wr h 146 2 (h 146 1)) 146 1 0) 146 5 0) 146 8 0) 146 9 (-1)) 146 13))) 148 ((zm_wr (zm_wr (zm_wr (zm_wr (zm_wr (zm_wr h 146 2 (h 146 1)) 146 1 0) 146 5 0) 146 8 0) 146 9 (-1)) 146 34 (1 - ((zm_wr (zm_wr (zm_wr (zm_wr (zm_wr h 146 2 (h 146 1)) 146 1 0) 146 5 0) 146 8 0) 146 9 (-1)) 146 13))) 146 34) 0) 151 ((zm_wr (zm_wr (zm_wr (zm_wr (zm_wr (zm_wr (zm_wr h 146 2 (h 146 1)) 146 1 0) 146 5 0) 146 8 0) 146 9 (-1)) 146 34 (1 - ((zm_wr (zm_wr (zm_wr (zm_wr (zm_wr h 146 2 (h 146 1)) 146 1 0) 146 5 0) 146 8 0) 146 9 (-1)) 146 13))) 148 ((zm_wr (zm_wr (zm_wr (zm_wr (zm_wr (zm_wr h 146 2 (h 146 1)) 146 1 0) 146 5 0) 146 8 0) 146 9 (-1)) 146 34 (1 - ((zm_wr (zm_wr (zm_wr (zm_wr (zm_wr h 146 2 (h 146 1)) 146 1 0) 146 5 0) 146 8 0) 146 9 (-1)) 146 13))) 146 34) 0) 146 34) 0) 153 ((zm_wr (zm_wr (zm_wr (zm_wr (zm_wr (zm_wr (zm_wr (zm_wr h 146 2 (h 146 1)) 146 1 0) 146 5 0) 146 8 0) 146 9 (-1)) 146 34 (1 - ((zm_wr (zm_wr (zm_wr (zm_wr (zm_wr h 146 2 (h 146 1)) 146 1 0) 146 5 0) 146 8 0) 146 9 (-1)) 146 13))) 148 ((zm_wr (zm_wr (zm_wr (zm_wr (zm_wr (zm_wr h 146 2 (h 146 1)) 146 1 0) 146 5 0) 146 8 0) 146 9 (-1)) 146 34 (1 - ((zm_wr (zm_wr (zm_wr (zm_wr (zm_wr h 146 2 (h 146 1)) 146 1 0) 146 5 0) 146 8 0) 146 9 (-1)) 146 13))) 146 34) 0) 151 ((zm_wr (zm_wr (zm_wr (zm_wr (zm_wr (zm_wr (zm_wr h 146 2 (h 146 1)) 146 1 0) 146 5 0) 146 8 0) 146 9 (-1)) 146 34 (1 - ((zm_wr (zm_wr (zm_wr (zm_wr (zm_wr h 146 2 (h 146 1)) 146 1 0) 146 5 0) 146 8 0) 146 9 (-1)) 146 13))) 148 ((zm_wr (zm_wr (zm_wr (zm_wr (zm_wr (zm_wr h 146 2 (h 146 1)) 146 1 0) 146 5 0) 146 8 0) 146 9 (-1)) 146 34 (1 - ((zm_wr (zm_wr (zm_wr (zm_wr (zm_wr h 146 2 (h 146 1)) 146 1 0) 146 5 0) 146 8 0) 146 9 (-1)) 146 13))) 146 34) 0) 146 34) 0) 146 34) 0) 146 34) 50) 159 ((zm_wr (zm_wr (zm_wr (zm_wr (zm_wr (zm_wr (zm_wr (zm_wr (zm_wr (zm_wr h 146 2 (h 146 1)) 146 1 0) 146 5 0) 146 8 0) 146 9 (-1)) 146 34 (1 - ((zm_wr (zm_wr (zm_wr (zm_wr (zm_wr h 146 2 (h 146 1)) 146 1 0) 146 5 0) 146 8 0) 146 9 (-1)) 146 13))) 148 ((zm_wr (zm_wr (zm_wr (zm_wr (zm_wr (zm_wr h 146 2 (h 146 1)) 146 1 0) 146 5 0) 146 8 0) 146 9 (-1)) 146 34 (1 - ((zm_wr (zm_wr (zm_wr (zm_wr (zm_wr h 146 2 (h 146 1)) 146 1 0) 146 5 0) 146 8 0) 146 9 (-1)) 146 13))) 146 34) 0) 151 ((zm_wr (zm_wr (zm_wr (zm_wr (zm_wr (zm_wr (zm_wr h 146 2 (h 146 1)) 146 1 0) 146 5 0) 146 8 0) 146 9 (-1)) 146 34 (1 - ((zm_wr (zm_wr (zm_wr (zm_wr (zm_wr h 146 2 (h 146 1)) 146 1 0) 146 5 0) 146 8 0) 146 9 (-1)) 146 13))) 148 ((zm_wr (zm_wr (zm_wr (zm_wr (zm_wr (zm_wr h 146 2 (h 146 1)) 146 1 0) 146 5 0) 146 8 0) 146 9 (-1)) 146 34 (1 - ((zm_wr (zm_wr (zm_wr (zm_wr (zm_wr h 146 2 (h 146 1)) 146 1 0) 146 5 0) 146 8 0) 146 9 (-1)) 146 13))) 146 34) 0) 146 34) 0) 153 ((zm_wr (zm_wr (zm_wr (zm_wr (zm_wr (zm_wr (zm_wr (zm_wr h 146 2 (h 146 1)) 146 1 0) 146 5 0) 146 8 0) 146 9 (-1)) 146 34 (1 - ((zm_wr (zm_wr (zm_wr (zm_wr (zm_wr h 146 2 (h 146 1)) 146 1 0) 146 5 0) 146 8 0) 146 9 (-1)) 146 13))) 148 ((zm_wr (zm_wr (zm_wr (zm_wr (zm_wr (zm_wr h 146 2 (h 146 1)) 146 1 0) 146 5 0) 146 8 0) 146 9 (-1)) 146 34 (1 - ((zm_wr (zm_wr (zm_wr (zm_wr (zm_wr h 146 2 (h 146 1)) 146 1 0) 146 5 0) 146 8 0) 146 9 (-1)) 146 13))) 146 34) 0) 151 ((zm_wr (zm_wr (zm_wr (zm_wr (zm_wr (zm_wr (zm_wr h 146 2 (h 146 1)) 146 1 0) 146 5 0) 146 8 0) 146 9 (-1)) 146 34 (1 - ((zm_wr (zm_wr (zm_wr (zm_wr (zm_wr h 146 2 (h 146 1)) 146 1 0) 146 5 0) 146 8 0) 146 9 (-1)) 146 13))) 148 ((zm_wr (zm_wr (zm_wr (zm_wr (zm_wr (zm_wr h 146 2 (h 146 1)) 146 1 0) 146 5 0) 146 8 0) 146 9 (-1)) 146 34 (1 - ((zm_wr (zm_wr (zm_wr (zm_wr (zm_wr h 146 2 (h 146 1)) 146 1 0) 146 5 0) 146 8 0) 146 9 (-1)) 146 13))) 146 34) 0) 146 34) 0) 146 34) 0) 158 ((zm_wr (zm_wr (zm_wr (zm_wr (zm_wr (zm_wr (zm_wr (zm_wr (zm_wr h 146 2 (h 146 1)) 146 1 0) 146 5 0) 146 8 0) 146 9 (-1)) 146 34 (1 - ((zm_wr (zm_wr (zm_wr (zm_wr (zm_wr h 146 2 (h 146 1)) 146 1 0) 146 5 0) 146 8 0) 146 9 (-1)) 146 13))) 148 ((zm_wr (zm_wr (zm_wr (zm_wr (zm_wr (zm_wr h 146 2 (h 146 1)) 146 1 0) 146 5 0) 146 8 0) 146 9 (-1)) 146 34 (1 - ((zm_wr (zm_wr (zm_wr (zm_wr (zm_wr h 146 2 (h 146 1)) 146 1 0) 146 5 0) 146 8 0) 146 9 (-1)) 146 13))) 146 34) 0) 151 ((zm_wr (zm_wr (zm_wr (zm_wr (zm_wr (zm_wr (zm_wr h 146 2 (h 146 1)) 146 1 0) 146 5 0) 146 8 0) 146 9 (-1)) 146 34 (1 - ((zm_wr (zm_wr (zm_wr (zm_wr (zm_wr h 146 2 (h 146 1)) 146 1 0) 146 5 0) 146 8 0) 146 9 (-1)) 146 13))) 148 ((zm_wr (zm_wr (zm_wr (zm_wr (zm_wr (zm_wr h 146 2 (h 146 1)) 146 1 0) 146 5 0) 146 8 0) 146 9 (-1)) 146 34 (1 - ((zm_wr (zm_wr (zm_wr (zm_wr (zm_wr h 146 2 (h 146 1)) 146 1 0) 146 5 0) 146 8 0) 146 9 (-1)) 146 13))) 146 34) 0) 146 34) 0) 153 ((zm_wr (zm_wr (zm_wr (zm_wr (zm_wr (zm_wr (zm_wr (zm_wr h 146 2 (h 146 1)) 146 1 0) 146 5 0) 146 8 0) 146 9 (-1)) 146 34 (1 - ((zm_wr (zm_wr (zm_wr (zm_wr (zm_wr h 146 2 (h 146 1)) 146 1 0) 146 5 0) 146 8 0) 146 9 (-1)) 146 13))) 148 ((zm_wr (zm_wr (zm_wr (zm_wr (zm_wr (zm_wr h 146 2 (h 146 1)) 146 1 0) 146 5 0) 146 8 0) 146 9 (-1)) 146 34 (1 - ((zm_wr (zm_wr (zm_wr (zm_wr (zm_wr h 146 2 (h 146 1)) 146 1 0) 146 5 0) 146 8 0) 146 9 (-1)) 146 13))) 146 34) 0) 151 ((zm_wr (zm_wr (zm_wr (zm_wr (zm_wr (zm_wr (zm_wr h 146 2 (h 146 1)) 146 1 0) 146 5 0) 146 8 0) 146 9 (-1)) 146 34 (1 - ((zm_wr (zm_wr (zm_wr (zm_wr (zm_wr h 146 2 (h 146 1)) 146 1 0) 146 5 0) 146 8 0) 146 9 (-1)) 146 13))) 148 ((zm_wr (zm_wr (zm_wr (zm_wr (zm_wr (zm_wr h 146 2 (h 146 1)) 146 1 0) 146 5 0) 146 8 0) 146 9 (-1)) 146 34 (1 - ((zm_wr (zm_wr (zm_wr (zm_wr (zm_wr h 146 2 (h 146 1)) 146 1 0) 146 5 0) 146 8 0) 146 9 (-1)) 146 13))) 146 34) 0) 146 34) 0) 146 34) 0) 146 34) 50) 146 34) (-1)) 146 34) < ((2 : Nat) : Int)) (zk_V (zc 159 [zm_A 146] (zm_wr (zm_wr (zm_wr (zm_wr (zm_wr (zm_wr (zm_wr (zm_wr (zm_wr (zm_wr (zm_wr (zm_wr (zm_wr h 146 2 (h 146 1)) 146 1 0) 146 5 0) 146 8 0) 146 9 (-1)) 146 34 (1 - ((zm_wr (zm_wr (zm_wr (zm_wr (zm_wr h 146 2 (h 146 1)) 146 1 0) 146 5 0) 146 8 0) 146 9 (-1)) 146 13))) 148 ((zm_wr (zm_wr (zm_wr (zm_wr (zm_wr (zm_wr h 146 2 (h 146 1)) 146 1 0) 146 5 0) 146 8 0) 146 9 (-1)) 146 34 (1 - ((zm_wr (zm_wr (zm_wr (zm_wr (zm_wr h 146 2 (h 146 1)) 146 1 0) 146 5 0) 146 8 0) 146 9 (-1)) 146 13))) 146 34) 0) 151 ((zm_wr (zm_wr (zm_wr (zm_wr (zm_wr (zm_wr (zm_wr h 146 2 (h 146 1)) 146 1 0) 146 5 0) 146 8 0) 146 9 (-1)) 146 34 (1 - ((zm_wr (zm_wr (zm_wr (zm_wr (zm_wr h 146 2 (h 146 1)) 146 1 0) 146 5 0) 146 8 0) 146 9 (-1)) 146 13))) 148 ((zm_wr (zm_wr (zm_wr (zm_wr (zm_wr (zm_wr h 146 2 (h 146 1)) 146 1 0) 146 5 0) 146 8 0) 146 9 (-1)) 146 34 (1 - ((zm_wr (zm_wr (zm_wr (zm_wr (zm_wr h 146 2 (h 146 1)) 146 1 0) 146 5 0) 146 8 0) 146 9 (-1)) 146 13))) 146 34) 0) 146 34) 0) 153 ((zm_wr (zm_wr (zm_wr (zm_wr (zm_wr (zm_wr (zm_wr (zm_wr h 146 2 (h 146 1)) 146 1 0) 146 5 0) 146 8 0) 146 9 (-1)) 146 34 (1 - ((zm_wr (zm_wr (zm_wr (zm_wr (zm_wr h 146 2 (h 146 1)) 146 1 0) 146 5 0) 146 8 0) 146 9 (-1)) 146 13))) 148 ((zm_wr (zm_wr (zm_wr (zm_wr (zm_wr (zm_wr h 146 2 (h 146 1)) 146 1 0) 146 5 0) 146 8 0) 146 9 (-1)) 146 34 (1 - ((zm_wr (zm_wr (zm_wr (zm_wr (zm_wr h 146 2 (h 146 1)) 146 1 0) 146 5 0) 146 8 0) 146 9 (-1)) 146 13))) 146 34) 0) 151 ((zm_wr (zm_wr (zm_wr (zm_wr (zm_wr (zm_wr (zm_wr h 146 2 (h 146 1)) 146 1 0) 146 5 0) 146 8 0) 146 9 (-1)) 146 34 (1 - ((zm_wr (zm_wr (zm_wr (zm_wr (zm_wr h 146 2 (h 146 1)) 146 1 0) 146 5 0) 146 8 0) 146 9 (-1)) 146 13))) 148 ((zm_wr (zm_wr (zm_wr (zm_wr (zm_wr (zm_wr h 146 2 (h 146 1)) 146 1 0) 146 5 0) 146 8 0) 146 9 (-1)) 146 34 (1 - ((zm_wr (zm_wr (zm_wr (zm_wr (zm_wr h 146 2 (h 146 1)) 146 1 0) 146 5 0) 146 8 0) 146 9 (-1)) 146 13))) 146 34) 0) 146 34) 0) 146 34) 0) 158 ((zm_wr (zm_wr (zm_wr (zm_wr (zm_wr (zm_wr (zm_wr (zm_wr (zm_wr h 146 2 (h 146 1)) 146 1 0) 146 5 0) 146 8 0) 146 9 (-1)) 146 34 (1 - ((zm_wr (zm_wr (zm_wr (zm_wr (zm_wr h 146 2 (h 146 1)) 146 1 0) 146 5 0) 146 8 0) 146 9 (-1)) 146 13))) 148 ((zm_wr (zm_wr (zm_wr (zm_wr (zm_wr (zm_wr h 146 2 (h 146 1)) 146 1 0) 146 5 0) 146 8 0) 146 9 (-1)) 146 34 (1 - ((zm_wr (zm_wr (zm_wr (zm_wr (zm_wr h 146 2 (h 146 1)) 146 1 0) 146 5 0) 146 8 0) 146 9 (-1)) 146 13))) 146 34) 0) 151 ((zm_wr (zm_wr (zm_wr (zm_wr (zm_wr (zm_wr (zm_wr h 146 2 (h 146 1)) 146 1 0) 146 5 0) 146 8 0) 146 9 (-1)) 146 34 (1 - ((zm_wr (zm_wr (zm_wr (zm_wr (zm_wr h 146 2 (h 146 1)) 146 1 0) 146 5 0) 146 8 0) 146 9 (-1)) 146 13))) 148 ((zm_wr (zm_wr (zm_wr (zm_wr (zm_wr (zm_wr h 146 2 (h 146 1)) 146 1 0) 146 5 0) 146 8 0) 146 9 (-1)) 146 34 (1 - ((zm_wr (zm_wr (zm_wr (zm_wr (zm_wr h 146 2 (h 146 1)) 146 1 0) 146 5 0) 146 8 0) 146 9 (-1)) 146 13))) 146 34) 0) 146 34) 0) 153 ((zm_wr (zm_wr (zm_wr (zm_wr (zm_wr (zm_wr (zm_wr (zm_wr h 146 2 (h 146 1)) 146 1 0) 146 5 0) 146 8 0) 146 9 (-1)) 146 34 (1 - ((zm_wr (zm_wr (zm_wr (zm_wr (zm_wr h 146 2 (h 146 1)) 146 1 0) 146 5 0) 146 8 0) 146 9 (-1)) 146 13))) 148 ((zm_wr (zm_wr (zm_wr (zm_wr (zm_wr (zm_wr h 146 2 (h 146 1)) 146 1 0) 146 5 0) 146 8 0) 146 9 (-1)) 146 34 (1 - ((zm_wr (zm_wr (zm_wr (zm_wr (zm_wr h 146 2 (h 146 1)) 146 1 0) 146 5 0) 146 8 0) 146 9 (-1)) 146 13))) 146 34) 0) 151 ((zm_wr (zm_wr (zm_wr (zm_wr (zm_wr (zm_wr (zm_wr h 146 2 (h 146 1)) 146 1 0) 146 5 0) 146 8 0) 146 9 (-1)) 146 34 (1 - ((zm_wr (zm_wr (zm_wr (zm_wr (zm_wr h 146 2 (h 146 1)) 146 1 0) 146 5 0) 146 8 0) 146 9 (-1)) 146 13))) 148 ((zm_wr (zm_wr (zm_wr (zm_wr (zm_wr (zm_wr h 146 2 (h 146 1)) 146 1 0) 146 5 0) 146 8 0) 146 9 (-1)) 146 34 (1 - ((zm_wr (zm_wr (zm_wr (zm_wr (zm_wr h 146 2 (h 146 1)) 146 1 0) 146 5 0) 146 8 0) 146 9 (-1)) 146 13))) 146 34) 0) 146 34) 0) 146 34) 0) 146 34) 50) 159 ((zm_wr (zm_wr (zm_wr (zm_wr (zm_wr (zm_wr (zm_wr (zm_wr (zm_wr (zm_wr h 146 2 (h 146 1)) 146 1 0) 146 5 0) 146 8 0) 146 9 (-1)) 146 34 (1 - ((zm_wr (zm_wr (zm_wr (zm_wr (zm_wr h 146 2 (h 146 1)) 146 1 0) 146 5 0) 146 8 0) 146 9 (-1)) 146 13))) 148 ((zm_wr (zm_wr (zm_wr (zm_wr (zm_wr (zm_wr h 146 2 (h 146 1)) 146 1 0) 146 5 0) 146 8 0) 146 9 (-1)) 146 34 (1 - ((zm_wr (zm_wr (zm_wr (zm_wr (zm_wr h 146 2 (h 146 1)) 146 1 0) 146 5 0) 146 8 0) 146 9 (-1)) 146 13))) 146 34) 0) 151 ((zm_wr (zm_wr (zm_wr (zm_wr (zm_wr (zm_wr (zm_wr h 146 2 (h 146 1)) 146 1 0) 146 5 0) 146 8 0) 146 9 (-1)) 146 34 (1 - ((zm_wr (zm_wr (zm_wr (zm_wr (zm_wr h 146 2 (h 146 1)) 146 1 0) 146 5 0) 146 8 0) 146 9 (-1)) 146 13))) 148 ((zm_wr (zm_wr (zm_wr (zm_wr (zm_wr (zm_wr h 146 2 (h 146 1)) 146 1 0) 146 5 0) 146 8 0) 146 9 (-1)) 146 34 (1 - ((zm_wr (zm_wr (zm_wr (zm_wr (zm_wr h 146 2 (h 146 1)) 146 1 0) 146 5 0) 146 8 0) 146 9 (-1)) 146 13))) 146 34) 0) 146 34) 0) 153 ((zm_wr (zm_wr (zm_wr (zm_wr (zm_wr (zm_wr (zm_wr (zm_wr h 146 2 (h 146 1)) 146 1 0) 146 5 0) 146 8 0) 146 9 (-1)) 146 34 (1 - ((zm_wr (zm_wr (zm_wr (zm_wr (zm_wr h 146 2 (h 146 1)) 146 1 0) 146 5 0) 146 8 0) 146 9 (-1)) 146 13))) 148 ((zm_wr (zm_wr (zm_wr (zm_wr (zm_wr (zm_wr h 146 2 (h 146 1)) 146 1 0) 146 5 0) 146 8 0) 146 9 (-1)) 146 34 (1 - ((zm_wr (zm_wr (zm_wr (zm_wr (zm_wr h 146 2 (h 146 1)) 146 1 0) 146 5 0) 146 8 0) 146 9 (-1)) 146 13))) 146 34) 0) 151 ((zm_wr (zm_wr (zm_wr (zm_wr (zm_wr (zm_wr (zm_wr h 146 2 (h 146 1)) 146 1 0) 146 5 0) 146 8 0) 146 9 (-1)) 146 34 (1 - ((zm_wr (zm_wr (zm_wr (zm_wr (zm_wr h 146 2 (h 146 1)) 146 1 0) 146 5 0) 146 8 0) 146 9 (-1)) 146 13))) 148 ((zm_wr (zm_wr (zm_wr (zm_wr (zm_wr (zm_wr h 146 2 (h 146 1)) 146 1 0) 146 5 0) 146 8 0) 146 9 (-1)) 146 34 (1 - ((zm_wr (zm_wr (zm_wr (zm_wr (zm_wr h 146 2 (h 146 1)) 146 1 0) 146 5 0) 146 8 0) 146 9 (-1)) 146 13))) 146 34) 0) 146 34) 0) 146 34) 0) 158 ((zm_wr (zm_wr (zm_wr (zm_wr (zm_wr (zm_wr (zm_wr (zm_wr (zm_wr h 146 2 (h 146 1)) 146 1 0) 146 5 0) 146 8 0) 146 9 (-1)) 146 34 (1 - ((zm_wr (zm_wr (zm_wr (zm_wr (zm_wr h 146 2 (h 146 1)) 146 1 0) 146 5 0) 146 8 0) 146 9 (-1)) 146 13))) 148 ((zm_wr (zm_wr (zm_wr (zm_wr (zm_wr (zm_wr h 146 2 (h 146 1)) 146 1 0) 146 5 0) 146 8 0) 146 9 (-1)) 146 34 (1 - ((zm_wr (zm_wr (zm_wr (zm_wr (zm_wr h 146 2 (h 146 1)) 146 1 0) 146 5 0) 146 8 0) 146 9 (-1)) 146 13))) 146 34) 0) 151 ((zm_wr (zm_wr (zm_wr (zm_wr (zm_wr (zm_wr (zm_wr h 146 2 (h 146 1)) 146 1 0) 146 5 0) 146 8 0) 146 9 (-1)) 146 34 (1 - ((zm_wr (zm_wr (zm_wr (zm_wr (zm_wr h 146 2 (h 146 1)) 146 1 0) 146 5 0) 146 8 0) 146 9 (-1)) 146 13))) 148 ((zm_wr (zm_wr (zm_wr (zm_wr (zm_wr (zm_wr h 146 2 (h 146 1)) 146 1 0) 146 5 0) 146 8 0) 146 9 (-1)) 146 34 (1 - ((zm_wr (zm_wr (zm_wr (zm_wr (zm_wr h 146 2 (h 146 1)) 146 1 0) 146 5 0) 146 8 0) 146 9 (-1)) 146 13))) 146 34) 0) 146 34) 0) 153 ((zm_wr (zm_wr (zm_wr (zm_wr (zm_wr (zm_wr (zm_wr (zm_wr h 146 2 (h 146 1)) 146 1 0) 146 5 0) 146 8 0) 146 9 (-1)) 146 34 (1 - ((zm_wr (zm_wr (zm_wr (zm_wr (zm_wr h 146 2 (h 146 1)) 146 1 0) 146 5 0) 146 8 0) 146 9 (-1)) 146 13))) 148 ((zm_wr (zm_wr (zm_wr (zm_wr (zm_wr (zm_wr h 146 2 (h 146 1)) 146 1 0) 146 5 0) 146 8 0) 146 9 (-1)) 146 34 (1 - ((zm_wr (zm_wr (zm_wr (zm_wr (zm_wr h 146 2 (h 146 1)) 146 1 0) 146 5 0) 146 8 0) 146 9 (-1)) 146 13))) 146 34) 0) 151 ((zm_wr (zm_wr (zm_wr (zm_wr (zm_wr (zm_wr (zm_wr h 146 2 (h 146 1)) 146 1 0) 146 5 0) 146 8 0) 146 9 (-1)) 146 34 (1 - ((zm_wr (zm_wr (zm_wr (zm_wr (zm_wr h 146 2 (h 146 1)) 146 1 0) 146 5 0) 146 8 0) 146 9 (-1)) 146 13))) 148 ((zm_wr (zm_wr (zm_wr (zm_wr (zm_wr (zm_wr h 146 2 (h 146 1)) 146 1 0) 146 5 0) 146 8 0) 146 9 (-1)) 146 34 (1 - ((zm_wr (zm_wr (zm_wr (zm_wr (zm_wr h 146 2 (h 146 1)) 146 1 0) 146 5 0) 146 8 0) 146 9 (-1)) 146 13))) 146 34) 0) 146 34) 0) 146 34) 0) 146 34) 50) 146 34) (-1)) 161 ((zm_wr (zm_wr (zm_wr (zm_wr (zm_wr (zm_wr (zm_wr (zm_wr (zm_wr (zm_wr (zm_wr h 146 2 (h 146 1)) 146 1 0) 146 5 0) 146 8 0) 146 9 (-1)) 146 34 (1 - ((zm_wr (zm_wr (zm_wr (zm_wr (zm_wr h 146 2 (h 146 1)) 146 1 0) 146 5 0) 146 8 0) 146 9 (-1)) 146 13))) 148 ((zm_wr (zm_wr (zm_wr (zm_wr (zm_wr (zm_wr h 146 2 (h 146 1)) 146 1 0) 146 5 0) 146 8 0) 146 9 (-1)) 146 34 (1 - ((zm_wr (zm_wr (zm_wr (zm_wr (zm_wr h 146 2 (h 146 1)) 146 1 0) 146 5 0) 146 8 0) 146 9 (-1)) 146 13))) 146 34) 0) 151 ((zm_wr (zm_wr (zm_wr (zm_wr (zm_wr (zm_wr (zm_wr h 146 2 (h 146 1)) 146 1 0) 146 5 0) 146 8 0) 146 9 (-1)) 146 34 (1 - ((zm_wr (zm_wr (zm_wr (zm_wr (zm_wr h 146 2 (h 146 1)) 146 1 0) 146 5 0) 146 8 0) 146 9 (-1)) 146 13))) 148 ((zm_wr (zm_wr (zm_wr (zm_wr (zm_wr (zm_wr h 146 2 (h 146 1)) 146 1 0) 146 5 0) 146 8 0) 146 9 (-1)) 146 34 (1 - ((zm_wr (zm_wr (zm_wr (zm_wr (zm_wr h 146 2 (h 146 1)) 146 1 0) 146 5 0) 146 8 0) 146 9 (-1)) 146 13))) 146 34) 0) 146 34) 0) 153 ((zm_wr (zm_wr (zm_wr (zm_wr (zm_wr (zm_wr (zm_wr (zm_wr h 146 2 (h 146 1)) 146 1 0) 146 5 0) 146 8 0) 146 9 (-1)) 146 34 (1 - ((zm_wr (zm_wr (zm_wr (zm_wr (zm_wr h 146 2 (h 146 1)) 146 1 0) 146 5 0) 146 8 0) 146 9 (-1)) 146 13))) 148 ((zm_wr (zm_wr (zm_wr (zm_wr (zm_wr (zm_wr h 146 2 (h 146 1)) 146 1 0) 146 5 0) 146 8 0) 146 9 (-1)) 146 34 (1 - ((zm_wr (zm_wr (zm_wr (zm_wr (zm_wr h 146 2 (h 146 1)) 146 1 0) 146 5 0) 146 8 0) 146 9 (-1)) 146 13))) 146 34) 0) 151 ((zm_wr (zm_wr (zm_wr (zm_wr (zm_wr (zm_wr (zm_wr h 146 2 (h 146 1)) 146 1 0) 146 5 0) 146 8 0) 146 9 (-1)) 146 34 (1 - ((zm_wr (zm_wr (zm_wr (zm_wr (zm_wr h 146 2 (h 146 1)) 146 1 0) 146 5 0) 146 8 0) 146 9 (-1)) 146 13))) 148 ((zm_wr (zm_wr (zm_wr (zm_wr (zm_wr (zm_wr h 146 2 (h 146 1)) 146 1 0) 146 5 0) 146 8 0) 146 9 (-1)) 146 34 (1 - ((zm_wr (zm_wr (zm_wr (zm_wr (zm_wr h 146 2 (h 146 1)) 146 1 0) 146 5 0) 146 8 0) 146 9 (-1)) 146 13))) 146 34) 0) 146 34) 0) 146 34) 0) 158 ((zm_wr (zm_wr (zm_wr (zm_wr (zm_wr (zm_wr (zm_wr (zm_wr (zm_wr h 146 2 (h 146 1)) 146 1 0) 146 5 0) 146 8 0) 146 9 (-1)) 146 34 (1 - ((zm_wr (zm_wr (zm_wr (zm_wr (zm_wr h 146 2 (h 146 1)) 146 1 0) 146 5 0) 146 8 0) 146 9 (-1)) 146 13))) 148 ((zm_wr (zm_wr (zm_wr (zm_wr (zm_wr (zm_wr h 146 2 (h 146 1)) 146 1 0) 146 5 0) 146 8 0) 146 9 (-1)) 146 34 (1 - ((zm_wr (zm_wr (zm_wr (zm_wr (zm_wr h 146 2 (h 146 1)) 146 1 0) 146 5 0) 146 8 0) 146 9 (-1)) 146 13))) 146 34) 0) 151 ((zm_wr (zm_wr (zm_wr (zm_wr (zm_wr (zm_wr (zm_wr h 146 2 (h 146 1)) 146 1 0) 146 5 0) 146 8 0) 146 9 (-1)) 146 34 (1 - ((zm_wr (zm_wr (zm_wr (zm_wr (zm_wr h 146 2 (h 146 1)) 146 1 0) 146 5 0) 146 8 0) 146 9 (-1)) 146 13))) 148 ((zm_wr (zm_wr (zm_wr (zm_wr (zm_wr (zm_wr h 146 2 (h 146 1)) 146 1 0) 146 5 0) 146 8 0) 146 9 (-1)) 146 34 (1 - ((zm_wr (zm_wr (zm_wr (zm_wr (zm_wr h 146 2 (h 146 1)) 146 1 0) 146 5 0) 146 8 0) 146 9 (-1)) 146 13))) 146 34) 0) 146 34) 0) 153 ((zm_wr (zm_wr (zm_wr (zm_wr (zm_wr (zm_wr (zm_wr (zm_wr h 146 2 (h 146 1)) 146 1 0) 146 5 0) 146 8 0) 146 9 (-1)) 146 34 (1 - ((zm_wr (zm_wr (zm_wr (zm_wr (zm_wr h 146 2 (h 146 1)) 146 1 0) 146 5 0) 146 8 0) 146 9 (-1)) 146 13))) 148 ((zm_wr (zm_wr (zm_wr (zm_wr (zm_wr (zm_wr h 146 2 (h 146 1)) 146 1 0) 146 5 0) 146 8 0) 146 9 (-1)) 146 34 (1 - ((zm_wr (zm_wr (zm_wr (zm_wr (zm_wr h 146 2 (h 146 1)) 146 1 0) 146 5 0) 146 8 0) 146 9 (-1)) 146 13))) 146 34) 0) 151 ((zm_wr (zm_wr (zm_wr (zm_wr (zm_wr (zm_wr (zm_wr h 146 2 (h 146 1)) 146 1 0) 146 5 0) 146 8 0) 146 9 (-1)) 146 34 (1 - ((zm_wr (zm_wr (zm_wr (zm_wr (zm_wr h 146 2 (h 146 1)) 146 1 0) 146 5 0) 146 8 0) 146 9 (-1)) 146 13))) 148 ((zm_wr (zm_wr (zm_wr (zm_wr (zm_wr (zm_wr h 146 2 (h 146 1)) 146 1 0) 146 5 0) 146 8 0) 146 9 (-1)) 146 34 (1 - ((zm_wr (zm_wr (zm_wr (zm_wr (zm_wr h 146 2 (h 146 1)) 146 1 0) 146 5 0) 146 8 0) 146 9 (-1)) 146 13))) 146 34) 0) 146 34) 0) 146 34) 0) 146 34) 50) 159 ((zm_wr (zm_wr (zm_wr (zm_wr (zm_wr (zm_wr (zm_wr (zm_wr (zm_wr (zm_wr h 146 2 (h 146 1)) 146 1 0) 146 5 0) 146 8 0) 146 9 (-1)) 146 34 (1 - ((zm_wr (zm_wr (zm_wr (zm_wr (zm_wr h 146 2 (h 146 1)) 146 1 0) 146 5 0) 146 8 0) 146 9 (-1)) 146 13))) 148 ((zm_wr (zm_wr (zm_wr (zm_wr (zm_wr (zm_wr h 146 2 (h 146 1)) 146 1 0) 146 5 0) 146 8 0) 146 9 (-1)) 146 34 (1 - ((zm_wr (zm_wr (zm_wr (zm_wr (zm_wr h 146 2 (h 146 1)) 146 1 0) 146 5 0) 146 8 0) 146 9 (-1)) 146 13))) 146 34) 0) 151 ((zm_wr (zm_wr (zm_wr (zm_wr (zm_wr (zm_wr (zm_wr h 146 2 (h 146 1)) 146 1 0) 146 5 0) 146 8 0) 146 9 (-1)) 146 34 (1 - ((zm_wr (zm_wr (zm_wr (zm_wr (zm_wr h 146 2 (h 146 1)) 146 1 0) 146 5 0) 146 8 0) 146 9 (-1)) 146 13))) 148 ((zm_wr (zm_wr (zm_wr (zm_wr (zm_wr (zm_wr h 146 2 (h 146 1)) 146 1 0) 146 5 0) 146 8 0) 146 9 (-1)) 146 34 (1 - ((zm_wr (zm_wr (zm_wr (zm_wr (zm_wr h 146 2 (h 146 1)) 146 1 0) 146 5 0) 146 8 0) 146 9 (-1)) 146 13))) 146 34) 0) 146 34) 0) 153 ((zm_wr (zm_wr (zm_wr (zm_wr (zm_wr (zm_wr (zm_wr (zm_wr h 146 2 (h 146 1)) 146 1 0) 146 5 0) 146 8 0) 146 9 (-1)) 146 34 (1 - ((zm_wr (zm_wr (zm_wr (zm_wr (zm_wr h 146 2 (h 146 1)) 146 1 0) 146 5 0) 146 8 0) 146 9 (-1)) 146 13))) 148 ((zm_wr (zm_wr (zm_wr (zm_wr (zm_wr (zm_wr h 146 2 (h 146 1)) 146 1 0) 146 5 0) 146 8 0) 146 9 (-1)) 146 34 (1 - ((zm_wr (zm_wr (zm_wr (zm_wr (zm_wr h 146 2 (h 146 1)) 146 1 0) 146 5 0) 146 8 0) 146 9 (-1)) 146 13))) 146 34) 0) 151 ((zm_wr (zm_wr (zm_wr (zm_wr (zm_wr (zm_wr (zm_wr h 146 2 (h 146 1)) 146 1 0) 146 5 0) 146 8 0) 146 9 (-1)) 146 34 (1 - ((zm_wr (zm_wr (zm_wr (zm_wr (zm_wr h 146 2 (h 146 1)) 146 1 0) 146 5 0) 146 8 0) 146 9 (-1)) 146 13))) 148 ((zm_wr (zm_wr (zm_wr (zm_wr (zm_wr (zm_wr h 146 2 (h 146 1)) 146 1 0) 146 5 0) 146 8 0) 146 9 (-1)) 146 34 (1 - ((zm_wr (zm_wr (zm_wr (zm_wr (zm_wr h 146 2 (h 146 1)) 146 1 0) 146 5 0) 146 8 0) 146 9 (-1)) 146 13))) 146 34) 0) 146 34) 0) 146 34) 0) 158 ((zm_wr (zm_wr (zm_wr (zm_wr (zm_wr (zm_wr (zm_wr (zm_wr (zm_wr h 146 2 (h 146 1)) 146 1 0) 146 5 0) 146 8 0) 146 9 (-1)) 146 34 (1 - ((zm_wr (zm_wr (zm_wr (zm_wr (zm_wr h 146 2 (h 146 1)) 146 1 0) 146 5 0) 146 8 0) 146 9 (-1)) 146 13))) 148 ((zm_wr (zm_wr (zm_wr (zm_wr (zm_wr (zm_wr h 146 2 (h 146 1)) 146 1 0) 146 5 0) 146 8 0) 146 9 (-1)) 146 34 (1 - ((zm_wr (zm_wr (zm_wr (zm_wr (zm_wr h 146 2 (h 146 1)) 146 1 0) 146 5 0) 146 8 0) 146 9 (-1)) 146 13))) 146 34) 0) 151 ((zm_wr (zm_wr (zm_wr (zm_wr (zm_wr (zm_wr (zm_wr h 146 2 (h 146 1)) 146 1 0) 146 5 0) 146 8 0) 146 9 (-1)) 146 34 (1 - ((zm_wr (zm_wr (zm_wr (zm_wr (zm_wr h 146 2 (h 146 1)) 146 1 0) 146 5 0) 146 8 0) 146 9 (-1)) 146 13))) 148 ((zm_wr (zm_wr (zm_wr (zm_wr (zm_wr (zm_wr h 146 2 (h 146 1)) 146 1 0) 146 5 0) 146 8 0) 146 9 (-1)) 146 34 (1 - ((zm_wr (zm_wr (zm_wr (zm_wr (zm_wr h 146 2 (h 146 1)) 146 1 0) 146 5 0) 146 8 0) 146 9 (-1)) 146 13))) 146 34) 0) 146 34) 0) 153 ((zm_wr (zm_wr (zm_wr (zm_wr (zm_wr (zm_wr (zm_wr (zm_wr h 146 2 (h 146 1)) 146 1 0) 146 5 0) 146 8 0) 146 9 (-1)) 146 34 (1 - ((zm_wr (zm_wr (zm_wr (zm_wr (zm_wr h 146 2 (h 146 1)) 146 1 0) 146 5 0) 146 8 0) 146 9 (-1)) 146 13))) 148 ((zm_wr (zm_wr (zm_wr (zm_wr (zm_wr (zm_wr h 146 2 (h 146 1)) 146 1 0) 146 5 0) 146 8 0) 146 9 (-1)) 146 34 (1 - ((zm_wr (zm_wr (zm_wr (zm_wr (zm_wr h 146 2 (h 146 1)) 146 1 0) 146 5 0) 146 8 0) 146 9 (-1)) 146 13))) 146 34) 0) 151 ((zm_wr (zm_wr (zm_wr (zm_wr (zm_wr (zm_wr (zm_wr h 146 2 (h 146 1)) 146 1 0) 146 5 0) 146 8 0) 146 9 (-1)) 146 34 (1 - ((zm_wr (zm_wr (zm_wr (zm_wr (zm_wr h 146 2 (h 146 1)) 146 1 0) 146 5 0) 146 8 0) 146 9 (-1)) 146 13))) 148 ((zm_wr (zm_wr (zm_wr (zm_wr (zm_wr (zm_wr h 146 2 (h 146 1)) 146 1 0) 146 5 0) 146 8 0) 146 9 (-1)) 146 34 (1 - ((zm_wr (zm_wr (zm_wr (zm_wr (zm_wr h 146 2 (h 146 1)) 146 1 0) 146 5 0) 146 8 0) 146 9 (-1)) 146 13))) 146 34) 0) 146 34) 0) 146 34) 0) 146 34) 50) 146 34) (-1)) 146 34) (-1)) 146 33 0)) (fun h1 => zr none 8 158 110 [zm_A 146, zm_I 0] [] h1))))))))) (zc 158 [zm_A 146] h) := by
  rw [zc_eq (loc := [zm_A 146, zm_U]) (rk_158 _) rfl]
  refine zl_tr (r_aload_n d_158_0 rfl) ?_
  refine zl_tr (r_aload_n d_158_1 rfl) ?_
  refine zl_tr (r_getI (kk := 1) d_158_2 ow_158 f_12_13 la_146 (by decide) rfl) ?_
  refine zl_tr (r_putI (kk := 2) d_158_5 ow_158 f_12_17 la_146 (by decide) rfl) ?_
  refine zl_tr (r_aload_n d_158_8 rfl) ?_
  refine zl_tr (r_iconst d_158_9 (by decide)) ?_
  refine zl_tr (r_putI (kk := 1) d_158_10 ow_158 f_12_13 la_146 (by decide) rfl) ?_
  refine zl_tr (r_aload_n d_158_13 rfl) ?_
  refine zl_tr (r_iconst d_158_14 (by decide)) ?_
  refine zl_tr (r_putI (kk := 5) d_158_15 ow_158 f_12_26 la_146 (by decide) rfl) ?_
  refine zl_tr (r_aload_n d_158_18 rfl) ?_
  refine zl_tr (r_iconst d_158_19 (by decide)) ?_
  refine zl_tr (r_putI (kk := 8) d_158_20 ow_158 f_12_36 la_146 (by decide) rfl) ?_
  refine zl_tr (r_aload_n d_158_23 rfl) ?_
  refine zl_tr (r_iconst d_158_24 (by decide)) ?_
  refine zl_tr (r_putI (kk := 9) d_158_25 ow_158 f_12_39 la_146 (by decide) rfl) ?_
  refine zl_tr (r_aload_n d_158_28 rfl) ?_
  refine zl_tr (r_iconst d_158_29 (by decide)) ?_
  refine zl_tr (r_aload_n d_158_30 rfl) ?_
  refine zl_tr (r_getI (kk := 13) d_158_31 ow_158 f_12_51 la_146 (by decide) rfl) ?_
  refine zl_tr (r_isub d_158_34) (zl_ck ?_)
  refine zl_tr (r_putI (kk := 34) d_158_35 ow_158 f_12_115 la_146 (by decide) rfl) ?_
  refine zl_tr (r_aload_n d_158_38 rfl) ?_
  refine zl_tr (r_getR d_158_39 ow_158 f_12_54 la_146 (by decide) fr_146_14) ?_
  refine zl_tr (r_aload_n d_158_42 rfl) ?_
  refine zl_tr (r_getI (kk := 34) d_158_43 ow_158 f_12_115 la_146 (by decide) rfl) ?_
  refine zl_tr (r_iconst d_158_46 (by decide)) ?_
  refine zl_tr (r_iastore d_158_47 la_148) (zl_ck ?_)
  refine zl_tr (r_aload_n d_158_48 rfl) ?_
  refine zl_tr (r_getR d_158_49 ow_158 f_12_63 la_146 (by decide) fr_146_17) ?_
  refine zl_tr (r_aload_n d_158_52 rfl) ?_
  refine zl_tr (r_getI (kk := 34) d_158_53 ow_158 f_12_115 la_146 (by decide) rfl) ?_
  refine zl_tr (r_iconst d_158_56 (by decide)) ?_
  refine zl_tr (r_iastore d_158_57 la_151) (zl_ck ?_)
  refine zl_tr (r_aload_n d_158_58 rfl) ?_
  refine zl_tr (r_getR d_158_59 ow_158 f_12_69 la_146 (by decide) fr_146_19) ?_
  refine zl_tr (r_aload_n d_158_62 rfl) ?_
  refine zl_tr (r_getI (kk := 34) d_158_63 ow_158 f_12_115 la_146 (by decide) rfl) ?_
  refine zl_tr (r_iconst d_158_66 (by decide)) ?_
  refine zl_tr (r_iastore d_158_67 la_153) (zl_ck ?_)
  refine zl_tr (r_aload_n d_158_68 rfl) ?_
  refine zl_tr (r_getR d_158_69 ow_158 f_12_84 la_146 (by decide) fr_146_24) ?_
  refine zl_tr (r_aload_n d_158_72 rfl) ?_
  refine zl_tr (r_getI (kk := 34) d_158_73 ow_158 f_12_115 la_146 (by decide) rfl) ?_
  refine zl_tr (r_bipush d_158_76 (by decide)) ?_
  refine zl_tr (r_iastore d_158_78 la_158) (zl_ck ?_)
  refine zl_tr (r_aload_n d_158_79 rfl) ?_
  refine zl_tr (r_getR d_158_80 ow_158 f_12_87 la_146 (by decide) fr_146_25) ?_
  refine zl_tr (r_aload_n d_158_83 rfl) ?_
  refine zl_tr (r_getI (kk := 34) d_158_84 ow_158 f_12_115 la_146 (by decide) rfl) ?_
  refine zl_tr (r_iconst d_158_87 (by decide)) ?_
  refine zl_tr (r_iastore d_158_88 la_159) (zl_ck ?_)
  refine zl_tr (r_aload_n d_158_89 rfl) ?_
  refine zl_tr (r_getR d_158_90 ow_158 f_12_93 la_146 (by decide) fr_146_27) ?_
  refine zl_tr (r_aload_n d_158_93 rfl) ?_
  refine zl_tr (r_getI (kk := 34) d_158_94 ow_158 f_12_115 la_146 (by decide) rfl) ?_
  refine zl_tr (r_iconst d_158_97 (by decide)) ?_
  refine zl_tr (r_iastore d_158_98 la_161) (zl_ck ?_)
  refine zl_tr (r_aload_n d_158_99 rfl) ?_
  refine zl_tr (r_iconst d_158_100 (by decide)) ?_
  refine zl_tr (r_putI (kk := 33) d_158_101 ow_158 f_12_112 la_146 (by decide) rfl) ?_
  refine zl_tr (r_iconst d_158_104 (by decide)) ?_
  refine zl_tr (r_istore_n (loc' := [zm_A 146, zm_I 0]) d_158_105 (Nat.le_of_ble_eq_true rfl) rfl) ?_
  refine zl_tr (r_aload_n d_158_106 rfl) ?_
  refine zl_tr (r_VV [zm_A 146] d_158_107 ow_158 cal_12_274 na_159 rfl rfl (Nat.le_of_ble_eq_true rfl) (by rw [rk_159]; decide) (zr_rcv la_146 ow_159) (zr_im mx_159 rfl (Nat.le_of_ble_eq_true rfl)) rt_159) (zl_V (fun h1 => ?_))
  exact zl_rf
-- BranTubModel.fete, from 110
set_option maxRecDepth 20000 in
theorem e_158_110 {h : zm_H} {x1 : Int} : zl (if (h 146 8) = 0 then (if (h 146 3) = 0 then (zr none 8 158 139 [zm_A 146, zm_I x1] [] h) else (zk_V (zc 162 [zm_A 146] h) (fun h1 => zm_ck (zm_i32 (x1 + 1)) (zk_V (zc 195 [zm_A 146, zm_I (x1 + 1)] h1) (fun h2 => zr none 8 158 110 [zm_A 146, zm_I (x1 + 1)] [] h2))))) else (zr none 8 158 139 [zm_A 146, zm_I x1] [] h)) (zr none 8 158 110 [zm_A 146, zm_I x1] [] h) := by
  refine zl_tr (r_aload_n d_158_110 rfl) ?_
  refine zl_tr (r_getI (kk := 8) d_158_111 ow_158 f_12_36 la_146 (by decide) rfl) ?_
  refine zl_tr (r_if_ne (tgt := 139) d_158_114 (by decide)) (zl_if ?_ ?_)
  · skip
    refine zl_tr (r_aload_n d_158_117 rfl) ?_
    refine zl_tr (r_getI (kk := 3) d_158_118 ow_158 f_12_20 la_146 (by decide) rfl) ?_
    refine zl_tr (r_if_eq (tgt := 139) d_158_121 (by decide)) (zl_if ?_ ?_)
    · skip
      exact zl_rf
    · skip
      refine zl_tr (r_aload_n d_158_124 rfl) ?_
      refine zl_tr (r_VV [zm_A 146] d_158_125 ow_158 cal_12_425 na_162 rfl rfl (Nat.le_of_ble_eq_true rfl) (by rw [rk_162]; decide) (zr_rcv la_146 ow_162) (zr_im mx_162 rfl (Nat.le_of_ble_eq_true rfl)) rt_162) (zl_V (fun h1 => ?_))
      refine zl_tr (r_iinc (loc' := [zm_A 146, zm_I (x1 + 1)]) d_158_128 rfl (Nat.le_of_ble_eq_true rfl) rfl) (zl_ck ?_)
      refine zl_tr (r_aload_n d_158_131 rfl) ?_
      refine zl_tr (r_iload_n d_158_132 rfl) ?_
      refine zl_tr (r_VV [zm_A 146, zm_I (x1 + 1)] d_158_133 ow_158 cal_12_428 na_195 rfl rfl (Nat.le_of_ble_eq_true rfl) (by rw [rk_195]; decide) (zr_rcv la_146 ow_195) (zr_im mx_195 rfl (Nat.le_of_ble_eq_true rfl)) rt_195) (zl_V (fun h2 => ?_))
      refine zl_tr (r_goto (tgt := 110) d_158_136 (by decide)) ?_
      exact zl_rf
  · skip
    exact zl_rf
-- BranTubModel.fete, from 139
set_option maxRecDepth 20000 in
theorem e_158_139 {h : zm_H} {x1 : Int} : zl (if ((zm_wr (zm_wr h 146 10 (h 146 8)) 146 11 ((zm_wr h 146 10 (h 146 8)) 146 9)) 146 8) ≤ 0 then (zk_V (zc 197 [zm_A 146] (zm_wr (zm_wr (zm_wr h 146 10 (h 146 8)) 146 11 ((zm_wr h 146 10 (h 146 8)) 146 9)) 146 13 ((zm_wr (zm_wr h 146 10 (h 146 8)) 146 11 ((zm_wr h 146 10 (h 146 8)) 146 9)) 146 34))) (fun h1 => some (zm_I x1, h1))) else (zk_I (zc 155 [zm_A 146, zm_I 1] (zm_wr (zm_wr h 146 10 (h 146 8)) 146 11 ((zm_wr h 146 10 (h 146 8)) 146 9))) (fun v2 h3 => some (zm_I v2, h3)))) (zr none 8 158 139 [zm_A 146, zm_I x1] [] h) := by
  refine zl_tr (r_aload_n d_158_139 rfl) ?_
  refine zl_tr (r_aload_n d_158_140 rfl) ?_
  refine zl_tr (r_getI (kk := 8) d_158_141 ow_158 f_12_36 la_146 (by decide) rfl) ?_
  refine zl_tr (r_putI (kk := 10) d_158_144 ow_158 f_12_42 la_146 (by decide) rfl) ?_
  refine zl_tr (r_aload_n d_158_147 rfl) ?_
  refine zl_tr (r_aload_n d_158_148 rfl) ?_
  refine zl_tr (r_getI (kk := 9) d_158_149 ow_158 f_12_39 la_146 (by decide) rfl) ?_
  refine zl_tr (r_putI (kk := 11) d_158_152 ow_158 f_12_45 la_146 (by decide) rfl) ?_
  refine zl_tr (r_aload_n d_158_155 rfl) ?_
  refine zl_tr (r_getI (kk := 8) d_158_156 ow_158 f_12_36 la_146 (by decide) rfl) ?_
  refine zl_tr (r_if_le (tgt := 168) d_158_159 (by decide)) (zl_if ?_ ?_)
  · skip
    refine zl_tr (r_aload_n d_158_168 rfl) ?_
    refine zl_tr (r_aload_n d_158_169 rfl) ?_
    refine zl_tr (r_getI (kk := 34) d_158_170 ow_158 f_12_115 la_146 (by decide) rfl) ?_
    refine zl_tr (r_putI (kk := 13) d_158_173 ow_158 f_12_51 la_146 (by decide) rfl) ?_
    refine zl_tr (r_aload_n d_158_176 rfl) ?_
    refine zl_tr (r_VV [zm_A 146] d_158_177 ow_158 cal_12_431 na_197 rfl rfl (Nat.le_of_ble_eq_true rfl) (by rw [rk_197]; decide) (zr_rcv la_146 ow_197) (zr_im mx_197 rfl (Nat.le_of_ble_eq_true rfl)) rt_197) (zl_V (fun h1 => ?_))
    refine zl_tr (r_iload_n d_158_180 rfl) ?_
    exact r_iret d_158_181 rt_158
  · skip
    refine zl_tr (r_aload_n d_158_162 rfl) ?_
    refine zl_tr (r_iconst d_158_163 (by decide)) ?_
    refine zl_tr (r_VI [zm_A 146, zm_I 1] d_158_164 ow_158 cal_12_249 na_155 rfl rfl (Nat.le_of_ble_eq_true rfl) (by rw [rk_155]; decide) (zr_rcv la_146 ow_155) (zr_im mx_155 rfl (Nat.le_of_ble_eq_true rfl)) (by rw [rt_155]; decide)) (zl_I (fun v2 h3 => ?_))
    exact r_iret d_158_167 rt_158
