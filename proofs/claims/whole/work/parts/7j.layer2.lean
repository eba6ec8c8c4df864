/-! STATEMENTS: a layer, told by the reference -/
section
variable {h g : zm_H} {T : Nat → Int} {n p b pf K L C cf ct qf qt : Nat} {gl : Bool} {wo sz re fe ru : Nat → Int} {lk : Nat → Nat → Int} {nk nc : Nat → List Nat} {F F0 : Nat → Int} {pu : Int} {l : List Int} {q : Nat × Bool} {o : zw_S}
theorem zw_RD.kp (hD : zw_RD h b K L C wo sz re fe ru lk nk nc F pu l cf ct qf qt) (e : ∀ a, 148 ≤ a → a ≤ 166 → g a = h a) (e33 : g 146 33 = h 146 33) : zw_RD g b K L C wo sz re fe ru lk nk nc F pu l cf ct qf qt := by
  unfold zw_RD at hD ⊢
  rw [e 148 (by decide) (by decide), e 149 (by decide) (by decide), e 150 (by decide) (by decide), e 151 (by decide) (by decide), e 152 (by decide) (by decide), e 153 (by decide) (by decide), e 154 (by decide) (by decide), e 155 (by decide) (by decide), e 156 (by decide) (by decide), e 157 (by decide) (by decide), e 158 (by decide) (by decide), e 159 (by decide) (by decide), e 160 (by decide) (by decide), e 161 (by decide) (by decide), e 162 (by decide) (by decide), e 163 (by decide) (by decide), e 164 (by decide) (by decide), e33]
  refine ⟨hD.1, hD.2.1, hD.2.2.1, hD.2.2.2.1, ⟨?_, ?_⟩, hD.2.2.2.2.2⟩
  · rw [e 165 (by decide) (by decide)]; exact hD.2.2.2.2.1.1
  · rw [e 166 (by decide) (by decide)]; exact hD.2.2.2.2.1.2
theorem zw_RD.wd (hD : zw_RD h b K L C wo sz re fe ru lk nk nc F pu l cf ct qf qt) (f : zq_F zf_Wd h g) : zw_RD g b K L C wo sz re fe ru lk nk nc F pu l cf ct qf qt := hD.kp (fun a h1 h2 => zf_Wd_a f (by omega)) (f 146 33 (by unfold zf_Wd; omega))
theorem zw_RD_152 (hD : zw_RD h b K L C wo sz re fe ru lk nk nc F pu l cf ct qf qt) {j v : Int} (hj : 40 * (b : Int) + 8 * L ≤ j) (e : ∀ i, i < 8 * L → F0 i = F i) : zw_RD (zm_wr h 152 j v) b K L C wo sz re fe ru lk nk nc F0 pu l cf ct qf qt := by
  have w : ∀ a : Nat, a ≠ 152 → zm_wr h 152 j v a = h a := fun a ha => by funext x; exact zq_wr_n ha
  obtain ⟨d1, d2, d3, d4, d5, d6, d7⟩ := hD
  refine ⟨?_, ?_, ?_, ?_, ⟨?_, ?_⟩, ?_, ?_⟩
  · rw [w 148 (by decide), w 151 (by decide), w 153 (by decide)]; exact d1
  · rw [w 149 (by decide), w 150 (by decide)]; exact d2
  · rw [w 154 (by decide), w 155 (by decide), w 156 (by decide)]; exact d3
  · rw [w 157 (by decide)]; exact d4
  · rw [w 165 (by decide)]; exact d5.1
  · rw [w 166 (by decide)]; exact d5.2
  · intro i hi x hx
    rw [zq_wr_i (by omega), e i hi]; exact d6 i hi x hx
  · rw [w 158 (by decide), w 146 (by decide), w 163 (by decide), w 164 (by decide), w 159 (by decide), w 160 (by decide), w 161 (by decide), w 162 (by decide)]; exact d7
theorem zw_RD_L (hD : zw_RD h b K L C wo sz re fe ru lk nk nc F pu l cf ct qf qt) (hr : ∀ k : Nat, k < 8 → ∀ j : Int, j = 40 * b + 8 * L + k → h 152 j = F (8 * L + k)) : zw_RD (zm_wr h 151 b ((L : Int) + 1)) b K (L + 1) C wo sz re fe ru lk nk nc F pu l cf ct qf qt := by
  have w : ∀ a : Nat, a ≠ 151 → zm_wr h 151 b ((L : Int) + 1) a = h a := fun a ha => by funext x; exact zq_wr_n ha
  obtain ⟨⟨d1, d1', d1''⟩, d2, d3, d4, d5, d6, d7⟩ := hD
  refine ⟨⟨?_, ?_, ?_⟩, ?_, ?_, ?_, ⟨?_, ?_⟩, ?_, ?_⟩
  · rw [w 148 (by decide)]; exact d1
  · rw [zq_wr_e]; omega
  · rw [w 153 (by decide)]; exact d1''
  · rw [w 149 (by decide), w 150 (by decide)]; exact d2
  · rw [w 154 (by decide), w 155 (by decide), w 156 (by decide)]; exact d3
  · rw [w 157 (by decide)]; exact d4
  · rw [w 165 (by decide)]; exact d5.1
  · rw [w 166 (by decide)]; exact d5.2
  · intro i hi x hx
    rw [w 152 (by decide)]
    by_cases q : i < 8 * L
    · exact d6 i q x hx
    · have := hr (i - 8 * L) (by omega) x (by omega)
      rw [show 8 * L + (i - 8 * L) = i by omega] at this
      exact this
  · rw [w 158 (by decide), w 146 (by decide), w 163 (by decide), w 164 (by decide), w 159 (by decide), w 160 (by decide), w 161 (by decide), w 162 (by decide)]; exact d7
/-- the reference's outcome with parcels -/
def zw_rT (h : zm_H) (T : Nat → Int) (n b : Nat) (o : zw_T) (D : (Nat → Int) → zm_H → Prop) (g : zm_H) : Prop := zq_F (zf_Pr b) h g ∧ ((∃ k a : Nat, o = .inl (k, a) ∧ zw_lv g T n b (.inl (k, a))) ∨ (∃ p' g' F', o = .inr (p', g', F') ∧ zw_lv g T n b (.inr (p', g')) ∧ D F' g) ∨ ∃ p' g', o = .inl (1, zy_bd T n p' g') ∧ zw_lv g T n b (.inr (p', g')) ∧ ¬ zy_sg T n p' g' 59 = true)
/-- a fault is told: the rest of the loop -/
theorem s_176_145d {x1 : Int} {w2 w3 w4 : zm_V} {k a : Nat} (hv : zw_lv h T n b (.inl (k, a))) : zu (zr none 4 176 145 [zm_A 146, zm_I x1, w2, w3, w4] [] h) (fun g => zq_F zf_Wd h g ∧ zw_lv g T n b (.inl (k, a))) := by
  have d := hv.dead
  refine zt_l e_176_145 (zt_V (s_163d (by omega)) ?_)
  rintro g rfl
  exact zt_f (by omega) (zt_l e_176_71 (zt_t rfl (zt_f (by omega) (zu_e ⟨zq_F_rf, hv⟩))))
theorem s_176_119d {x1 x3 : Int} {w2 w4 : zm_V} {k a : Nat} (hv : zw_lv h T n b (.inl (k, a))) : zu (zr none 4 176 119 [zm_A 146, zm_I x1, w2, zm_I x3, w4] [] h) (fun g => zq_F zf_Wd h g ∧ zw_lv g T n b (.inl (k, a))) := by
  refine zt_l e_176_119 (zt_I (s_174 hv 1 30) ?_)
  rintro z g ⟨r, _⟩
  have r' : zw_P h T n b (.inl (k, a)) g := r
  have d := r'.2.dead
  exact zt_f (by omega) (zu_m (s_176_145d r'.2) (fun g2 s => ⟨zq_F_tr r'.1 s.1, s.2⟩))
theorem s_176_108d {x1 x3 : Int} {w2 w4 : zm_V} {k a : Nat} (hv : zw_lv h T n b (.inl (k, a))) : zu (zr none 4 176 108 [zm_A 146, zm_I x1, w2, zm_I x3, w4] [] h) (fun g => zq_F zf_Wd h g ∧ zw_lv g T n b (.inl (k, a))) := by
  have d := hv.dead
  exact zt_l e_176_108 (zt_f (by omega) (s_176_119d hv))
theorem zw_kk_nn {x : Int} (hx : x = zw_fd K nk (zy_ls T n p)) (h1 : ¬ zw_fd K nk (zy_ls T n p) = -1) : x = zw_kk T n K nk p := by rw [hx]; exact (zw_kk_fd h1).1
/-- the loop over the layer's kinds -/
theorem s_176_71w (hb : b < 2) (hB : zv_B K L C wo sz re fe ru lk) (hN : zv_Nn K C nk nc) (hL5 : L < 5) {x1 : Int} (hx1 : x1 = 40 * (b : Int) + 8 * L) : ∀ (f p : Nat) (gl : Bool) (F : Nat → Int) (h : zm_H) (w3 w4 : zm_V), 9 ≤ (f : Int) + zw_ct L F → zw_lv h T n b (.inr (p, gl)) → zw_RD h b K L C wo sz re fe ru lk nk nc F pu l cf ct qf qt → (∀ k : Nat, k < 8 → ∀ j : Int, j = 40 * b + 8 * L + k → h 152 j = F (8 * L + k)) → zu (zr none 4 176 71 [zm_A 146, zm_I x1, zm_I 1, w3, w4] [] h) (zw_rT h T n b (zw_ly T n K L nk f p gl F) (fun F' g => zw_RD g b K (L + 1) C wo sz re fe ru lk nk nc F' pu l cf ct qf qt)) := by
  have hK8 := hB.1
  intro f
  induction f with
  | zero => intro p gl F h w3 w4 hc; have := zw_ct_le L F; omega
  | succ f ih =>
    intro p gl F h w3 w4 hc hv hD hr
    have fin : ∀ (k a : Nat) (o : zw_T) (D : (Nat → Int) → zm_H → Prop) (h0 g : zm_H), o = .inl (k, a) → zq_F (zf_Pr b) h0 h → zq_F (zf_Pr b) h g → zw_lv g T n b (.inl (k, a)) → zw_rT h0 T n b o D g := fun k a o D h0 g e f0 f1 v => ⟨zq_F_tr f0 f1, Or.inl ⟨k, a, e, v⟩⟩
    show zu _ (zw_rT h T n b (zw_tt (zw_pc T n K L nk F p gl) _) _)
    unfold zw_pc
    refine zt_l e_176_71 (zt_f (by decide) (zt_I (s_177 hv (zw_Nm_K hD hB hN (fun a _ => rfl))) ?_))
    rintro z g1 ⟨r1, r2, r3⟩
    have r1' : zw_P h T n b (zw_lk T n K nk p gl) g1 := r1
    have r2' : ∀ p' g', zw_lk T n K nk p gl = .inr (p', g') → z = zw_fd K nk (zy_ls T n p') := r2
    unfold zw_lk at r1' r2'
    by_cases q : zw_nam T n p gl
    · rw [if_pos q] at r1' r2' ⊢
      by_cases q1 : zw_fd K nk (zy_ls T n p) = -1
      · rw [if_pos q1] at r1' r2' ⊢
        have d := r1'.2.dead
        refine zt_f (by omega) (zu_m (s_176_108d r1'.2) (fun g s => fin _ _ _ _ _ _ rfl zq_F_rf (zf_Wd_Pr (zq_F_tr r1'.1 s.1)) s.2))
      · rw [if_neg q1] at r1' r2' ⊢
        have hz := zw_kk_nn (r2' p gl rfl) q1
        obtain ⟨e1, e2⟩ := zw_kk_fd q1
        generalize hkk : zw_kk T n K nk p = kk at e1 e2 hz ⊢
        have LL := r1'.2.live
        have k152 : ∀ j : Int, g1 152 j = h 152 j := fun j => by rw [zf_Wd_a r1'.1 (by decide)]
        have ej : x1 + z = 40 * (b : Int) + 8 * L + kk := by omega
        rw [ej, k152, hr kk (by omega) _ rfl]
        refine zt_t LL.1 (zt_c (by omega) (zt_c (by omega) ?_))
        by_cases q2 : 0 < F (8 * L + kk)
        · rw [if_pos q2, LL.2.2.1]
          refine zt_f (by omega) (zt_V (s_164y 3 _ LL.1) ?_)
          rintro g2 rfl
          have X : zw_P g1 T n b (.inl (3, zy_at T n p)) (zm_wr (zm_wr g1 146 8 3) 146 9 (zy_at T n p)) := zw_P_f r1'.2 (by decide)
          exact zu_m (s_176_108d X.2) (fun g s => fin _ _ _ _ _ _ rfl zq_F_rf (zf_Wd_Pr (zq_F_tr r1'.1 (zq_F_tr X.1 s.1))) s.2)
        · rw [if_neg q2]
          refine zt_t (by omega) (zt_l e_176_108 (zt_t LL.1 (zt_V (s_159w r1'.2 (by have := q.1; omega)) ?_)))
          intro g2 s2
          refine zt_l e_176_119 (zt_I (s_174 s2.2 1 30) ?_)
          rintro z3 g3 ⟨s3, v3⟩
          have s3' : zw_P g2 T n b (zw_num T n 1 30 (zy_en T n p) (zy_ng T n p gl)) g3 := s3
          have v3' := v3 _ _ rfl
          unfold zw_num at s3' v3'
          have FW : zq_F zf_Wd h g3 := zq_F_tr r1'.1 (zq_F_tr s2.1 s3'.1)
          by_cases t2 : zy_ty T n (zy_en T n p) (zy_ng T n p gl) = 2
          · rw [if_pos t2] at s3' v3' ⊢
            by_cases q3 : 1 ≤ zy_nu T n (zy_en T n p) ∧ zy_nu T n (zy_en T n p) ≤ 30
            · rw [if_pos q3] at s3' v3' ⊢
              have L3 := s3'.2.live
              have ez := v3' _ rfl
              have ec := zw_ct_s (L := L) (k := kk) (F := F) (v := zy_nu T n (zy_en T n p)) (by omega) q2 (by omega)
              have D3 := hD.wd FW
              have ej3 : x1 + z = 40 * (b : Int) + 8 * L + kk := ej
              rw [ej3]
              refine zt_t L3.1 (zt_c (by omega) (zt_c (by omega) ?_))
              have hg4 : ∃ g4, g4 = zm_wr g3 152 (40 * (b : Int) + 8 * L + kk) z3 := ⟨_, rfl⟩
              obtain ⟨g4, hg4⟩ := hg4
              rw [← hg4]
              have D4 : zw_RD g4 b K L C wo sz re fe ru lk nk nc (zp_set F (8 * L + kk) (zy_nu T n (zy_en T n p))) pu l cf ct qf qt := by
                rw [hg4]
                refine zw_RD_152 D3 (by omega) (fun i hi => ?_)
                unfold zp_set
                rw [if_neg (by omega)]
              have R4 : ∀ k : Nat, k < 8 → ∀ j : Int, j = 40 * b + 8 * L + k → g4 152 j = zp_set F (8 * L + kk) (zy_nu T n (zy_en T n p)) (8 * L + k) := by
                intro k hk j hj
                rw [hg4]
                unfold zp_set
                by_cases e : k = kk
                · subst e; rw [hj, zq_wr_e, if_pos rfl]; exact ez
                · rw [zq_wr_i (by omega), if_neg (by omega), zf_Wd_a FW (by decide)]; exact hr k hk j hj
              have V4 : zw_lv g4 T n b (.inr (zy_en T n (zy_en T n p), zy_ng T n (zy_en T n p) (zy_ng T n p gl))) := by rw [hg4]; exact s3'.2.wd (by decide)
              have F4 : zq_F (zf_Pr b) h g4 := by rw [hg4]; exact zq_F_tr (zf_Wd_Pr FW) (zq_F_wr (by unfold zf_Pr; omega))
              generalize zp_set F (8 * L + kk) (zy_nu T n (zy_en T n p)) = F2 at D4 R4 ec ⊢
              generalize zy_en T n (zy_en T n p) = p2 at V4 ⊢
              generalize zy_ng T n (zy_en T n p) (zy_ng T n p gl) = gl2 at V4 ⊢
              show zu _ (zw_rT h T n b (if zy_sg T n p2 gl2 59 = true then .inr (p2, gl2, F2) else zw_ly T n K L nk f p2 gl2 F2) _)
              have f1 : ∃ f', f = f' + 1 := by
                cases f with
                | zero => have := zw_ct_le L F2; omega
                | succ f' => exact ⟨f', rfl⟩
              have L4 := V4.live
              have noname : ¬ zw_nam T n p2 gl2 → zw_ly T n K L nk f p2 gl2 F2 = .inl (1, zy_bd T n p2 gl2) := by
                intro hn
                obtain ⟨f', rfl⟩ := f1
                show zw_tt (zw_pc T n K L nk F2 p2 gl2) _ = _
                unfold zw_pc
                rw [if_neg hn]; rfl
              have stop : zy_ty T n p2 gl2 ≠ 4 → ¬ zw_nam T n p2 gl2 → ∀ w3' w4' : zm_V, zu (zr none 4 176 71 [zm_A 146, zm_I x1, zm_I 0, w3', w4'] [] g4) (zw_rT h T n b (if zy_sg T n p2 gl2 59 = true then .inr (p2, gl2, F2) else zw_ly T n K L nk f p2 gl2 F2) (fun F' g => zw_RD g b K (L + 1) C wo sz re fe ru lk nk nc F' pu l cf ct qf qt)) := by
                intro t4 hn w3' w4'
                refine zt_l e_176_71 (zt_t rfl (zt_t L4.1 ?_))
                rw [V4.2.1, D4.1.2.1]
                refine zt_c (by omega) (zt_c (by omega) (zt_c (by omega) (zu_e ⟨zq_F_tr F4 (zq_F_wr (by unfold zf_Pr; omega)), ?_⟩)))
                by_cases q5 : zy_sg T n p2 gl2 59 = true
                · rw [if_pos q5]
                  exact Or.inr (Or.inl ⟨_, _, _, rfl, V4.wd (by decide), zw_RD_L D4 R4⟩)
                · rw [if_neg q5, noname hn]
                  exact Or.inr (Or.inr ⟨_, _, rfl, V4.wd (by decide), q5⟩)
              refine zt_l e_176_145 ?_
              by_cases t4 : zy_ty T n p2 gl2 = 4
              · refine zt_V (s_163x L4.2.2 t4 L4.1) ?_
                rintro g5 rfl
                have X : zw_P g4 T n b (.inl (1, zy_bd T n p2 gl2)) (zm_wr (zm_wr g4 146 8 1) 146 9 (zy_bd T n p2 gl2)) := zw_P_f V4 (by decide)
                have e8 : (zm_wr (zm_wr g4 146 8 1) 146 9 (zy_bd T n p2 gl2)) 146 8 = 1 := by rw [zq_wr_i (by decide), zq_wr_e]
                refine zt_f (by rw [e8]; decide) (zt_l e_176_71 (zt_t rfl (zt_f (by rw [e8]; decide) (zu_e ⟨zq_F_tr F4 (zf_Wd_Pr X.1), ?_⟩))))
                rw [if_neg (fun e => by have := (zy_sg_ty e).1; omega), noname (fun e => by have := e.1; omega)]
                exact Or.inl ⟨_, _, rfl, X.2⟩
              · refine zt_V (s_163 L4.2.2 t4) ?_
                rintro g5 rfl
                refine zt_t L4.1 ?_
                rw [(L4.2.2.2.2.1 t4).2.1]
                by_cases t1 : zy_ty T n p2 gl2 = 1
                · have nmls := zy_ls_nm t1
                  rw [L4.2.2.2.2.2.1 t1]
                  refine zt_t (by omega) (zt_I (s_169 nmls rfl) ?_)
                  rintro z6 g6 ⟨rfl, rfl⟩
                  by_cases q6 : zy_fi (zy_ls T n p2) 25 0 = -1
                  · rw [if_pos q6]
                    have ns : ¬ zy_sg T n p2 gl2 59 = true := fun e => by have := (zy_sg_ty e).1; omega
                    rw [if_neg ns]
                    exact zt_t rfl (zu_m (ih p2 gl2 F2 g6 _ _ (by omega) V4 D4 R4) (fun g s => ⟨zq_F_tr F4 s.1, s.2⟩))
                  · rw [if_neg q6]
                    exact zt_f (by decide) (stop t4 (fun e => q6 (by have := e.2; unfold zy_ow at this; rw [if_pos t1] at this; exact this)) _ _)
                · exact zt_f (by omega) (stop t4 (fun e => t1 e.1) _ _)
            · rw [if_neg q3] at s3' v3' ⊢
              have d := s3'.2.dead
              exact zt_f (by omega) (zu_m (s_176_145d s3'.2) (fun g s => fin _ _ _ _ _ _ rfl zq_F_rf (zf_Wd_Pr (zq_F_tr FW s.1)) s.2))
          · rw [if_neg t2] at s3' v3' ⊢
            have d := s3'.2.dead
            exact zt_f (by omega) (zu_m (s_176_145d s3'.2) (fun g s => fin _ _ _ _ _ _ rfl zq_F_rf (zf_Wd_Pr (zq_F_tr FW s.1)) s.2))
    · rw [if_neg q] at r1' r2' ⊢
      have d := r1'.2.dead
      refine zt_f (by omega) (zu_m (s_176_108d r1'.2) (fun g s => fin _ _ _ _ _ _ rfl zq_F_rf (zf_Wd_Pr (zq_F_tr r1'.1 s.1)) s.2))
/-- a layer, told by the reference -/
theorem s_176w (hv : zw_lv h T n b (.inr (p, gl))) (hw : zy_ty T n p gl = 1) (hD : zw_RD h b K L C wo sz re fe ru lk nk nc F pu l cf ct qf qt) (hB : zv_B K L C wo sz re fe ru lk) (hN : zv_Nn K C nk nc) (hF0 : ∀ k, k < 8 → L < 5 → F (8 * L + k) = 0) : zu (zc 176 [zm_A 146] h) (zw_rT h T n b (if L = 5 then .inl (6, zy_at T n p) else zw_ly T n K L nk 9 (zy_en T n p) (zy_ng T n p gl) F) (fun F' g => zw_RD g b K (L + 1) C wo sz re fe ru lk nk nc F' pu l cf ct qf qt)) := by
  have hb := hv.2.2.1
  have h34 := hv.2.1
  have hL5' := hB.2.1
  refine zt_l e_176 ?_
  rw [h34, hD.1.2.1]
  refine zt_c (by omega) (zt_p (fun q => ?_) (fun q => ?_))
  · rw [if_pos (show L = 5 by omega)]
    refine zt_I (s_167 (x := 1) hv (by omega)) ?_
    rintro z g (⟨r, _⟩ | ⟨_, rfl, r⟩)
    · exact absurd r (by decide)
    · exact zt_t rfl (zu_e ⟨zf_Wd_Pr r.1, Or.inl ⟨_, _, rfl, r.2⟩⟩)
  · have L4 : L < 5 := by omega
    rw [if_neg (show ¬ L = 5 by omega)]
    refine zt_I (s_167 (x := 0) hv (by omega)) ?_
    rintro z g1 (⟨_, rfl, r1⟩ | ⟨r, _⟩)
    · refine zt_f (by decide) ?_
      have e34 : g1 146 34 = b := (zf_Wd_34 r1.1).trans h34
      have D1 := hD.wd r1.1
      rw [e34, D1.1.2.1]
      have ex : 8 * (5 * (b : Int) + L) = 40 * (b : Int) + 8 * L := by omega
      rw [ex]
      refine zt_c (by omega) (zt_c (by omega) (zt_c (by omega) (zt_c (by omega) ?_)))
      have key : ∀ (m i : Nat) (g2 : zm_H), i + m = 8 → zq_F (zf_Pr b) h g2 → zw_lv g2 T n b (zw_go T n p gl) → zw_RD g2 b K L C wo sz re fe ru lk nk nc F pu l cf ct qf qt → (∀ k : Nat, k < i → ∀ j : Int, j = 40 * b + 8 * L + k → g2 152 j = 0) → zu (zr none 4 176 48 [zm_A 146, zm_I (40 * (b : Int) + 8 * L), zm_I i, zm_U, zm_U] [] g2) (zw_rT h T n b (zw_ly T n K L nk 9 (zy_en T n p) (zy_ng T n p gl) F) (fun F' g => zw_RD g b K (L + 1) C wo sz re fe ru lk nk nc F' pu l cf ct qf qt)) := by
        intro m
        induction m with
        | zero =>
          intro i g2 hi f2 v2 D2 z2
          have i8 : i = 8 := by omega
          refine zt_l e_176_48 (zt_f (by omega) ?_)
          refine zu_m (s_176_71w hb hB hN L4 rfl 9 _ _ F g2 _ _ ?_ v2 D2 (fun k hk j hj => ?_)) (fun g s => ⟨zq_F_tr f2 s.1, s.2⟩)
          · have := zw_ct_le L F; omega
          · rw [hF0 k hk L4]; exact z2 k (by omega) j hj
        | succ m ih =>
          intro i g2 hi f2 v2 D2 z2
          refine zt_l e_176_48 (zt_t (by omega) (zt_c (by omega) (zt_c (by omega) (zt_c (by omega) ?_))))
          rw [show (i : Int) + 1 = ((i + 1 : Nat) : Int) by omega]
          refine ih (i + 1) _ (by omega) (zq_F_tr f2 (zq_F_wr (by unfold zf_Pr; omega))) (v2.wd (by decide)) (zw_RD_152 D2 (by omega) (fun i _ => rfl)) (fun k hk j hj => ?_)
          by_cases e : k = i
          · subst e; rw [hj, zq_wr_e]
          · rw [zq_wr_i (by omega)]; exact z2 k (by omega) j hj
      exact key 8 0 g1 (by decide) (zf_Wd_Pr r1.1) r1.2 D1 (fun k hk => by omega)
    · exact absurd rfl r
end
