/-! FETE of both sides -/
set_option maxRecDepth 20000 in
theorem e_5s {h : zm_H} {sp : Nat} (hsp : zf_F sp) {t : Nat} (ht : zf_F t) : zl (zm_ck (h 4 2 = (sp : Int)) (zk_I (zc 74 [zm_A 29, zm_A sp] h) (fun v1 h2 => if v1 = 0 then (zk_I (zc 2 [zm_A 4, zm_I 1] (zm_wr h2 5 1 0)) (fun v3 h4 => some (zm_I v3, h4))) else (zm_ck ((zm_wr h2 5 1 0) 4 1 = (t : Int)) (zm_ck ((zm_wr h2 5 1 0) 4 2 = (sp : Int)) (zm_ck ((zm_wr (zm_wr (zm_wr h2 5 1 0) 4 1 (sp : Int)) 4 2 (t : Int)) 4 1 = (sp : Int)) (zk_V (zc 143 [zm_A 32, zm_A sp] (zm_wr (zm_wr (zm_wr h2 5 1 0) 4 1 (sp : Int)) 4 2 (t : Int))) (fun h5 => zk_V (zc 67 [zm_A 44] h5) (fun h6 => zm_ck (zm_bit 0) (zm_ck ((zm_wr h6 4 17 0) 4 1 = (sp : Int)) (some (zm_I ((zm_wr h6 4 17 0) sp 0), (zm_wr h6 4 17 0))))))))))))) (zc 5 [zm_A 4] h) := by
  rw [zc_eq (loc := [zm_A 4, zm_U, zm_U]) (rk_5 _) rfl]
  refine zl_tr (r_aload_n d_5_0 rfl) ?_
  refine zl_tr (r_getR d_5_1 ow_5 f_0_31 la_4 (by decide) fr_4_3) ?_
  refine zl_tr (r_aload_n d_5_4 rfl) ?_
  refine zl_tr (r_getN (b := sp) (kk := 2) d_5_5 ow_5 f_0_23 la_4 (by decide) (zf_3 hsp) rfl) (zl_ck ?_)
  refine zl_tr (r_VI [zm_A 29, zm_A sp] d_5_8 ow_5 cal_0_123 na_74 rfl rfl (Nat.le_of_ble_eq_true rfl) (by rw [rk_74]; decide) (zr_rcv la_29 ow_74) (zr_im mx_74 rfl (Nat.le_of_ble_eq_true rfl)) (by rw [rt_74]; decide)) (zl_I (fun v1 h2 => ?_))
  refine zl_tr (r_istore_n (loc' := [zm_A 4, zm_I v1, zm_U]) d_5_11 (Nat.le_of_ble_eq_true rfl) rfl) ?_
  refine zl_tr (r_aload_n d_5_12 rfl) ?_
  refine zl_tr (r_getR d_5_13 ow_5 f_0_10 la_4 (by decide) fr_4_0) ?_
  refine zl_tr (r_iconst d_5_16 (by decide)) ?_
  refine zl_tr (r_putI (kk := 1) d_5_17 ow_5 f_0_108 la_5 (by decide) rfl) ?_
  refine zl_tr (r_iload_n d_5_20 rfl) ?_
  refine zl_tr (r_if_ne (tgt := 30) d_5_21 (by decide)) (zl_if ?_ ?_)
  · skip
    refine zl_tr (r_aload_n d_5_24 rfl) ?_
    refine zl_tr (r_iconst d_5_25 (by decide)) ?_
    refine zl_tr (r_VI [zm_A 4, zm_I 1] d_5_26 ow_5 cal_0_111 na_2 rfl rfl (Nat.le_of_ble_eq_true rfl) (by rw [rk_2]; decide) (zr_rcv la_4 ow_2) (zr_im mx_2 rfl (Nat.le_of_ble_eq_true rfl)) (by rw [rt_2]; decide)) (zl_I (fun v3 h4 => ?_))
    exact r_iret d_5_29 rt_5
  · skip
    refine zl_tr (r_aload_n d_5_30 rfl) ?_
    refine zl_tr (r_getN (b := t) (kk := 1) d_5_31 ow_5 f_0_19 la_4 (by decide) (zf_3 ht) rfl) (zl_ck ?_)
    refine zl_tr (r_astore_n (loc' := [zm_A 4, zm_I v1, zm_A t]) d_5_34 (Nat.le_of_ble_eq_true rfl) rfl) ?_
    refine zl_tr (r_aload_n d_5_35 rfl) ?_
    refine zl_tr (r_aload_n d_5_36 rfl) ?_
    refine zl_tr (r_getN (b := sp) (kk := 2) d_5_37 ow_5 f_0_23 la_4 (by decide) (zf_3 hsp) rfl) (zl_ck ?_)
    refine zl_tr (r_putN (kk := 1) d_5_40 ow_5 f_0_19 la_4 (by decide) (zf_b hsp) rfl) ?_
    refine zl_tr (r_aload_n d_5_43 rfl) ?_
    refine zl_tr (r_aload_n d_5_44 rfl) ?_
    refine zl_tr (r_putN (kk := 2) d_5_45 ow_5 f_0_23 la_4 (by decide) (zf_b ht) rfl) ?_
    refine zl_tr (r_aload_n d_5_48 rfl) ?_
    refine zl_tr (r_getR d_5_49 ow_5 f_0_38 la_4 (by decide) fr_4_4) ?_
    refine zl_tr (r_aload_n d_5_52 rfl) ?_
    refine zl_tr (r_getN (b := sp) (kk := 1) d_5_53 ow_5 f_0_19 la_4 (by decide) (zf_3 hsp) rfl) (zl_ck ?_)
    refine zl_tr (r_VV [zm_A 32, zm_A sp] d_5_56 ow_5 cal_0_104 na_143 rfl rfl (Nat.le_of_ble_eq_true rfl) (by rw [rk_143]; decide) (zr_rcv la_32 ow_143) (zr_im mx_143 rfl (Nat.le_of_ble_eq_true rfl)) rt_143) (zl_V (fun h5 => ?_))
    refine zl_tr (r_aload_n d_5_59 rfl) ?_
    refine zl_tr (r_getR d_5_60 ow_5 f_0_51 la_4 (by decide) fr_4_7) ?_
    refine zl_tr (r_VV [zm_A 44] d_5_63 ow_5 cal_0_127 na_67 rfl rfl (Nat.le_of_ble_eq_true rfl) (by rw [rk_67]; decide) (zr_rcv la_44 ow_67) (zr_im mx_67 rfl (Nat.le_of_ble_eq_true rfl)) rt_67) (zl_V (fun h6 => ?_))
    refine zl_tr (r_aload_n d_5_66 rfl) ?_
    refine zl_tr (r_iconst d_5_67 (by decide)) ?_
    refine zl_tr (r_putZ (kk := 17) d_5_68 ow_5 f_0_130 la_4 (by decide) rfl) (zl_ck ?_)
    refine zl_tr (r_aload_n d_5_71 rfl) ?_
    refine zl_tr (r_getN (b := sp) (kk := 1) d_5_72 ow_5 f_0_19 la_4 (by decide) (zf_3 hsp) rfl) (zl_ck ?_)
    refine zl_tr (r_getI (kk := 0) d_5_75 ow_5 f_0_134 (zf_o hsp) (by decide) rfl) ?_
    exact r_iret d_5_78 rt_5
/-- the reference makes ready: what lies in bank b then -/
theorem s_158_0 {h : zm_H} {b : Nat} (hb : b < 2) (h13 : h 146 13 = 1 - (b : Int)) : ∃ g : zm_H, zq_F (fun a i => (a = 146 ∧ (i = 1 ∨ i = 2 ∨ i = 5 ∨ i = 8 ∨ i = 9 ∨ i = 33 ∨ i = 34)) ∨ ((a = 148 ∨ a = 151 ∨ a = 153 ∨ a = 158 ∨ a = 159 ∨ a = 161) ∧ i = b)) h g ∧ (g 146 2 = h 146 1 ∧ g 146 1 = 0 ∧ g 146 5 = 0 ∧ g 146 8 = 0 ∧ g 146 9 = -1 ∧ g 146 33 = 0 ∧ g 146 34 = b) ∧ (g 148 b = 0 ∧ g 151 b = 0 ∧ g 153 b = 0 ∧ g 158 b = 50 ∧ g 159 b = -1 ∧ g 161 b = -1) ∧ ∀ Q : zm_V → zm_H → Prop, zt (zk_V (zc 159 [zm_A 146] g) (fun h1 => zr none 8 158 110 [zm_A 146, zm_I 0] [] h1)) Q → zt (zc 158 [zm_A 146] h) Q := by
  obtain ⟨g1, hg1⟩ : ∃ g1, g1 = zm_wr h 146 2 (h 146 1) := ⟨_, rfl⟩
  obtain ⟨g2, hg2⟩ : ∃ g2, g2 = zm_wr g1 146 1 0 := ⟨_, rfl⟩
  obtain ⟨g3, hg3⟩ : ∃ g3, g3 = zm_wr g2 146 5 0 := ⟨_, rfl⟩
  obtain ⟨g4, hg4⟩ : ∃ g4, g4 = zm_wr g3 146 8 0 := ⟨_, rfl⟩
  obtain ⟨g5, hg5⟩ : ∃ g5, g5 = zm_wr g4 146 9 (-1) := ⟨_, rfl⟩
  obtain ⟨g6, hg6⟩ : ∃ g6, g6 = zm_wr g5 146 34 b := ⟨_, rfl⟩
  obtain ⟨g7, hg7⟩ : ∃ g7, g7 = zm_wr g6 148 b 0 := ⟨_, rfl⟩
  obtain ⟨g8, hg8⟩ : ∃ g8, g8 = zm_wr g7 151 b 0 := ⟨_, rfl⟩
  obtain ⟨g9, hg9⟩ : ∃ g9, g9 = zm_wr g8 153 b 0 := ⟨_, rfl⟩
  obtain ⟨g10, hg10⟩ : ∃ g10, g10 = zm_wr g9 158 b 50 := ⟨_, rfl⟩
  obtain ⟨g11, hg11⟩ : ∃ g11, g11 = zm_wr g10 159 b (-1) := ⟨_, rfl⟩
  obtain ⟨g12, hg12⟩ : ∃ g12, g12 = zm_wr g11 161 b (-1) := ⟨_, rfl⟩
  obtain ⟨g13, hg13⟩ : ∃ g13, g13 = zm_wr g12 146 33 0 := ⟨_, rfl⟩
  have e13 : g5 146 13 = 1 - (b : Int) := by rw [hg5, zq_wr_i (by decide), hg4, zq_wr_i (by decide), hg3, zq_wr_i (by decide), hg2, zq_wr_i (by decide), hg1, zq_wr_i (by decide)]; exact h13
  have e34_6 : g6 146 34 = b := by rw [hg6, zq_wr_e]
  have e34_7 : g7 146 34 = b := by rw [hg7, zq_wr_n (by decide)]; exact e34_6
  have e34_8 : g8 146 34 = b := by rw [hg8, zq_wr_n (by decide)]; exact e34_7
  have e34_9 : g9 146 34 = b := by rw [hg9, zq_wr_n (by decide)]; exact e34_8
  have e34_10 : g10 146 34 = b := by rw [hg10, zq_wr_n (by decide)]; exact e34_9
  have e34_11 : g11 146 34 = b := by rw [hg11, zq_wr_n (by decide)]; exact e34_10
  have e34_12 : g12 146 34 = b := by rw [hg12, zq_wr_n (by decide)]; exact e34_11
  have e34_13 : g13 146 34 = b := by rw [hg13, zq_wr_i (by decide)]; exact e34_12
  refine ⟨g13, ?_, ⟨?_, ?_, ?_, ?_, ?_, ?_, ?_⟩, ⟨?_, ?_, ?_, ?_, ?_, ?_⟩, fun Q q => ?_⟩
  · rw [hg13, hg12, hg11, hg10, hg9, hg8, hg7, hg6, hg5, hg4, hg3, hg2, hg1]
    exact zq_F_tr (zq_F_wr (by omega)) (zq_F_tr (zq_F_wr (by omega)) (zq_F_tr (zq_F_wr (by omega)) (zq_F_tr (zq_F_wr (by omega)) (zq_F_tr (zq_F_wr (by omega)) (zq_F_tr (zq_F_wr (by omega)) (zq_F_tr (zq_F_wr (by omega)) (zq_F_tr (zq_F_wr (by omega)) (zq_F_tr (zq_F_wr (by omega)) (zq_F_tr (zq_F_wr (by omega)) (zq_F_tr (zq_F_wr (by omega)) (zq_F_tr (zq_F_wr (by omega)) (zq_F_wr (by omega)))))))))))))
  · rw [hg13, zq_wr_i (by decide), hg12, zq_wr_n (by decide), hg11, zq_wr_n (by decide), hg10, zq_wr_n (by decide), hg9, zq_wr_n (by decide), hg8, zq_wr_n (by decide), hg7, zq_wr_n (by decide), hg6, zq_wr_i (by decide), hg5, zq_wr_i (by decide), hg4, zq_wr_i (by decide), hg3, zq_wr_i (by decide), hg2, zq_wr_i (by decide), hg1, zq_wr_e]
  · rw [hg13, zq_wr_i (by decide), hg12, zq_wr_n (by decide), hg11, zq_wr_n (by decide), hg10, zq_wr_n (by decide), hg9, zq_wr_n (by decide), hg8, zq_wr_n (by decide), hg7, zq_wr_n (by decide), hg6, zq_wr_i (by decide), hg5, zq_wr_i (by decide), hg4, zq_wr_i (by decide), hg3, zq_wr_i (by decide), hg2, zq_wr_e]
  · rw [hg13, zq_wr_i (by decide), hg12, zq_wr_n (by decide), hg11, zq_wr_n (by decide), hg10, zq_wr_n (by decide), hg9, zq_wr_n (by decide), hg8, zq_wr_n (by decide), hg7, zq_wr_n (by decide), hg6, zq_wr_i (by decide), hg5, zq_wr_i (by decide), hg4, zq_wr_i (by decide), hg3, zq_wr_e]
  · rw [hg13, zq_wr_i (by decide), hg12, zq_wr_n (by decide), hg11, zq_wr_n (by decide), hg10, zq_wr_n (by decide), hg9, zq_wr_n (by decide), hg8, zq_wr_n (by decide), hg7, zq_wr_n (by decide), hg6, zq_wr_i (by decide), hg5, zq_wr_i (by decide), hg4, zq_wr_e]
  · rw [hg13, zq_wr_i (by decide), hg12, zq_wr_n (by decide), hg11, zq_wr_n (by decide), hg10, zq_wr_n (by decide), hg9, zq_wr_n (by decide), hg8, zq_wr_n (by decide), hg7, zq_wr_n (by decide), hg6, zq_wr_i (by decide), hg5, zq_wr_e]
  · rw [hg13, zq_wr_e]
  · rw [hg13, zq_wr_i (by decide), hg12, zq_wr_n (by decide), hg11, zq_wr_n (by decide), hg10, zq_wr_n (by decide), hg9, zq_wr_n (by decide), hg8, zq_wr_n (by decide), hg7, zq_wr_n (by decide), hg6, zq_wr_e]
  · rw [hg13, zq_wr_n (by decide), hg12, zq_wr_n (by decide), hg11, zq_wr_n (by decide), hg10, zq_wr_n (by decide), hg9, zq_wr_n (by decide), hg8, zq_wr_n (by decide), hg7, zq_wr_e]
  · rw [hg13, zq_wr_n (by decide), hg12, zq_wr_n (by decide), hg11, zq_wr_n (by decide), hg10, zq_wr_n (by decide), hg9, zq_wr_n (by decide), hg8, zq_wr_e]
  · rw [hg13, zq_wr_n (by decide), hg12, zq_wr_n (by decide), hg11, zq_wr_n (by decide), hg10, zq_wr_n (by decide), hg9, zq_wr_e]
  · rw [hg13, zq_wr_n (by decide), hg12, zq_wr_n (by decide), hg11, zq_wr_n (by decide), hg10, zq_wr_e]
  · rw [hg13, zq_wr_n (by decide), hg12, zq_wr_n (by decide), hg11, zq_wr_e]
  · rw [hg13, zq_wr_n (by decide), hg12, zq_wr_e]
  · refine zt_l e_158 ?_
    rw [← hg1]
    rw [← hg2]
    rw [← hg3]
    rw [← hg4]
    rw [← hg5]
    rw [e13, show 1 - (1 - (b : Int)) = b by omega]
    rw [← hg6]
    rw [e34_6]
    rw [← hg7]
    rw [e34_7]
    rw [← hg8]
    rw [e34_8]
    rw [← hg9]
    rw [e34_9]
    rw [← hg10]
    rw [e34_10]
    rw [← hg11]
    rw [e34_11]
    rw [← hg12]
    rw [← hg13]
    exact zt_c (by omega) (zt_c (by omega) (zt_c (by omega) (zt_c (by omega) (zt_c (by omega) (zt_c (by omega) (zt_c (by omega) q))))))
