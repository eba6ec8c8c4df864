/-! STATEMENTS: costs and puts, both sides -/
def zw_oX : zy_O → zw_S
  | .inl e => .inl e
  | .inr (p, g, _) => .inr (p, g)
def zw_ol : zy_O → List Int
  | .inl _ => []
  | .inr (_, _, l) => l
abbrev zw_oc (T : Nat → Int) (n p : Nat) (g : Bool) (l : List Int) : zy_O := zy_X T n (zw_F n) 5 0 p g l
abbrev zw_op (T : Nat → Int) (n p : Nat) (g : Bool) (l : List Int) : zy_O := zy_X T n (zw_F n) 0 0 p g l
section
variable {h g : zm_H} {T : Nat → Int} {n p b pf K L C cf ct qf qt : Nat} {gl : Bool} {wo sz re fe ru : Nat → Int} {lk : Nat → Nat → Int} {nk nc : Nat → List Nat} {F F0 : Nat → Int} {pu : Int} {l : List Int} {q : Nat × Bool} {o : zw_S}
theorem zw_K.zyK (hK : zw_K h pf T n p gl) (hD : zw_CD h pf K L C wo sz re fe ru lk nk nc F pu l cf ct qf qt) : zy_K h pf T n p gl l := ⟨hK.1, hK.2.1.1, hK.2.2.2, hD.2.2.2.2.1.1, hD.2.2.2.2.1.2⟩
theorem zf_Eo_Pc {o : zy_O} (f : zq_F (zf_Eo pf o) h g) : zq_F (zf_Pc pf) h g := zq_F_wk f (fun a i q => by
  rcases q with q | ⟨_, q⟩
  · unfold zf_Ex at q; unfold zf_Pc; omega
  · unfold zf_Pc; omega)
/-- what a sum leaves of the rest -/
theorem zw_CD_ex (hpf : zf_F pf) (hD : zw_CD h pf K L C wo sz re fe ru lk nk nc F pu l cf ct qf qt) (f : zq_F (zf_Ex pf) h g) {l' : List Int} (e15 : g pf 15 = l'.length) (ec : ∀ i : Nat, i < l'.length → g (pf + 10) i = l'.getD i 0) : zw_CD g pf K L C wo sz re fe ru lk nk nc F pu l' cf ct qf qt := by
  have pf18 := zf_F_ne hpf
  obtain ⟨⟨f1, f2, f3, f4, f5, f6, f7⟩, ⟨n1, n2⟩, d3, d4, d5, d6, d7⟩ := hD
  have e : ∀ a : Nat, pf < a → a < pf + 10 → g a = h a := fun a h1 h2 => by funext x; exact f a x (by unfold zf_Ex; omega)
  have e0 : ∀ i : Int, i ≠ 15 → g pf i = h pf i := fun i hi => f pf i (by unfold zf_Ex; omega)
  refine ⟨⟨f1, ?_, ?_, ?_, ?_, ?_, ?_⟩, ⟨?_, ?_⟩, ?_, ?_, ⟨e15, ec⟩, ?_, ?_⟩
  · rw [e0 1 (by decide)]; exact f2
  · rw [e0 2 (by decide)]; exact f3
  · rw [e0 3 (by decide)]; exact f4
  · rw [e (pf + 2) (by omega) (by omega), e (pf + 3) (by omega) (by omega)]; exact f5
  · rw [e (pf + 6) (by omega) (by omega), e (pf + 7) (by omega) (by omega), e (pf + 8) (by omega) (by omega)]; exact f6
  · rw [e (pf + 9) (by omega) (by omega)]; exact f7
  · rw [e (pf + 1) (by omega) (by omega)]; exact n1
  · rw [e (pf + 5) (by omega) (by omega)]; exact n2
  · rw [e (pf + 4) (by omega) (by omega)]; exact d3
  · rw [e0 4 (by decide)]; exact d4
  · rw [e0 16 (by decide), e0 17 (by decide), e0 18 (by decide), e0 19 (by decide)]; exact d6
  · rw [e (pf + 9) (by omega) (by omega)]; exact d7
theorem zw_CD_ft (hD : zw_CD h pf K L C wo sz re fe ru lk nk nc F pu l cf ct qf qt) {i1 i2 v1 v2 : Int} {cf' ct' qf' qt' : Nat} (h1 : 16 ≤ i1 ∧ 16 ≤ i2) (e : (zm_wr (zm_wr h pf i1 v1) pf i2 v2) pf 16 = cf' ∧ (zm_wr (zm_wr h pf i1 v1) pf i2 v2) pf 17 = ct' ∧ (zm_wr (zm_wr h pf i1 v1) pf i2 v2) pf 18 = qf' ∧ (zm_wr (zm_wr h pf i1 v1) pf i2 v2) pf 19 = qt') : zw_CD (zm_wr (zm_wr h pf i1 v1) pf i2 v2) pf K L C wo sz re fe ru lk nk nc F pu l cf' ct' qf' qt' := by
  obtain ⟨⟨f1, f2, f3, f4, f5, f6, f7⟩, ⟨n1, n2⟩, d3, d4, d5, d6, d7⟩ := hD
  have w : ∀ a : Nat, a ≠ pf → (zm_wr (zm_wr h pf i1 v1) pf i2 v2) a = h a := fun a ha => by funext x; rw [zq_wr_n ha, zq_wr_n ha]
  have w0 : ∀ i : Int, i < 16 → (zm_wr (zm_wr h pf i1 v1) pf i2 v2) pf i = h pf i := fun i hi => by rw [zq_wr_i (by omega), zq_wr_i (by omega)]
  refine ⟨⟨f1, ?_, ?_, ?_, ?_, ?_, ?_⟩, ⟨?_, ?_⟩, ?_, ?_, ?_, e, ?_⟩
  · rw [w0 1 (by decide)]; exact f2
  · rw [w0 2 (by decide)]; exact f3
  · rw [w0 3 (by decide)]; exact f4
  · rw [w (pf + 2) (by omega), w (pf + 3) (by omega)]; exact f5
  · rw [w (pf + 6) (by omega), w (pf + 7) (by omega), w (pf + 8) (by omega)]; exact f6
  · rw [w (pf + 9) (by omega)]; exact f7
  · rw [w (pf + 1) (by omega)]; exact n1
  · rw [w (pf + 5) (by omega)]; exact n2
  · rw [w (pf + 4) (by omega)]; exact d3
  · rw [w0 4 (by decide)]; exact d4
  · rw [w0 15 (by decide), w (pf + 10) (by omega)]; exact d5
  · rw [w (pf + 9) (by omega)]; exact d7
/-- behind a sum the class notes where it lies -/
theorem zw_cnote (hpf : zf_F pf) (hD : zw_CD h pf K L C wo sz re fe ru lk nk nc F pu l cf ct qf qt) {o : zy_O} {z : Int} (hK0 : zw_K h pf T n p gl) (hz : zy_Q pf T n h o z g) (hle : ∀ p' g' l', o = .inr (p', g', l') → p' ≤ n) {i1 i2 v1 v2 : Int} (h1 : 16 ≤ i1 ∧ 16 ≤ i2) {cf' ct' qf' qt' : Nat} (he : z = 1 → (zm_wr (zm_wr g pf i1 v1) pf i2 v2) pf 16 = cf' ∧ (zm_wr (zm_wr g pf i1 v1) pf i2 v2) pf 17 = ct' ∧ (zm_wr (zm_wr g pf i1 v1) pf i2 v2) pf 18 = qf' ∧ (zm_wr (zm_wr g pf i1 v1) pf i2 v2) pf 19 = qt') : zw_cO h pf T n (zw_oX o) (fun g => zw_CD g pf K L C wo sz re fe ru lk nk nc F pu (zw_ol o) cf' ct' qf' qt') z (zm_wr (zm_wr g pf i1 v1) pf i2 v2) := by
  have pf18 := zf_F_ne hpf
  obtain ⟨f, r⟩ := hz
  have f2 : zq_F (zf_Pc pf) h (zm_wr (zm_wr g pf i1 v1) pf i2 v2) := zq_F_tr (zf_Eo_Pc f) (zq_F_tr (zq_F_wr (by unfold zf_Pc; omega)) (zq_F_wr (by unfold zf_Pc; omega)))
  have w29 : ∀ i : Int, (zm_wr (zm_wr g pf i1 v1) pf i2 v2) 29 i = g 29 i := fun i => by rw [zq_wr_n (by omega), zq_wr_n (by omega)]
  rcases r with ⟨k, a, e, r1, r2, r3⟩ | ⟨p', g', l', e, r1, k1, k2, k3, k4, k5⟩
  · refine ⟨f2, Or.inl ⟨k, a, ?_, r1, ?_, ?_⟩⟩
    · rw [e]; rfl
    · rw [w29]; exact r2
    · rw [w29]; exact r3
  · refine ⟨f2, Or.inr ⟨p', g', ?_, r1, ?_, ?_⟩⟩
    · rw [e]; rfl
    · have f' := zf_Eo_r f e
      have K0 : zw_K g pf T n p' g' := ⟨k1, ⟨k2, by rw [f' 29 2 (by unfold zf_Ex; omega)]; exact hK0.2.1.2.1, by rw [f' 29 3 (by unfold zf_Ex; omega)]; exact hK0.2.1.2.2⟩, hle p' g' l' e, k3⟩
      exact (K0.wpf hpf (Nat.le_refl _) (by omega)).wpf hpf (Nat.le_refl _) (by omega)
    · rw [e]
      exact zw_CD_ft (zw_CD_ex hpf hD (zf_Eo_r f e) k4 k5) h1 (he r1)
theorem zw_le {lv : Nat} {p' : Nat} {g' : Bool} {l' : List Int} (hlv : lv = 5 ∨ lv = 0) (hp : p ≤ n) (e : zy_X T n (zw_F n) lv 0 p gl l = .inr (p', g', l')) : p' ≤ n ∧ l'.length + p ≤ l.length + p' ∧ p < p' := by
  have pr := zy_X_pr (zw_F n) lv 0 p gl l p' g' l' (by omega) e hp (fun q => by omega)
  unfold zy_pr at pr
  omega
/-- what the reference's bank has when codes were added -/
theorem zw_RD_pz (hD : zw_RD h b K L C wo sz re fe ru lk nk nc F pu l cf ct qf qt) (f : zq_F (zf_Pz b) h g) {l' : List Int} (hL : g 146 33 = l'.length ∧ ∀ i : Nat, i < l'.length → ∀ j : Int, j = 1600 * b + i → zp_cr (l'.getD i 0) (g 163 j) (g 164 j)) : zw_RD g b K L C wo sz re fe ru lk nk nc F pu l' cf ct qf qt := by
  have e : ∀ a, 148 ≤ a → a ≤ 166 → a ≠ 163 → a ≠ 164 → g a = h a := fun a h1 h2 h3 h4 => by funext x; exact f a x (by unfold zf_Pz; omega)
  unfold zw_RD at hD ⊢
  rw [e 148 (by decide) (by decide) (by decide) (by decide), e 149 (by decide) (by decide) (by decide) (by decide), e 150 (by decide) (by decide) (by decide) (by decide), e 151 (by decide) (by decide) (by decide) (by decide), e 152 (by decide) (by decide) (by decide) (by decide), e 153 (by decide) (by decide) (by decide) (by decide), e 154 (by decide) (by decide) (by decide) (by decide), e 155 (by decide) (by decide) (by decide) (by decide), e 156 (by decide) (by decide) (by decide) (by decide), e 157 (by decide) (by decide) (by decide) (by decide), e 158 (by decide) (by decide) (by decide) (by decide), e 159 (by decide) (by decide) (by decide) (by decide), e 160 (by decide) (by decide) (by decide) (by decide), e 161 (by decide) (by decide) (by decide) (by decide), e 162 (by decide) (by decide) (by decide) (by decide)]
  refine ⟨hD.1, hD.2.1, hD.2.2.1, hD.2.2.2.1, ⟨?_, ?_⟩, hD.2.2.2.2.2.1, hD.2.2.2.2.2.2.1, hL, hD.2.2.2.2.2.2.2.2⟩
  · rw [e 165 (by decide) (by decide) (by decide) (by decide)]; exact hD.2.2.2.2.1.1
  · rw [e 166 (by decide) (by decide) (by decide) (by decide)]; exact hD.2.2.2.2.1.2
theorem zw_RD_at (hD : zw_RD h b K L C wo sz re fe ru lk nk nc F pu l cf ct qf qt) {a : Nat} {v : Int} {cf' ct' qf' qt' : Nat} (ha : 159 ≤ a ∧ a ≤ 162) (e : (ct' = 0 → (zm_wr h a b v) 159 b = -1) ∧ (ct' ≠ 0 → (zm_wr h a b v) 159 b = cf' ∧ (zm_wr h a b v) 160 b = ct') ∧ (qt' = 0 → (zm_wr h a b v) 161 b = -1) ∧ (qt' ≠ 0 → (zm_wr h a b v) 161 b = qf' ∧ (zm_wr h a b v) 162 b = qt')) : zw_RD (zm_wr h a b v) b K L C wo sz re fe ru lk nk nc F pu l cf' ct' qf' qt' := by
  have w : ∀ x : Nat, x ≠ a → zm_wr h a b v x = h x := fun x hx => by funext y; exact zq_wr_n hx
  obtain ⟨d1, d2, d3, d4, d5, d6, d7, d8, d9⟩ := hD
  refine ⟨?_, ?_, ?_, ?_, ⟨?_, ?_⟩, ?_, ?_, ?_, e⟩
  · rw [w 148 (by omega), w 151 (by omega), w 153 (by omega)]; exact d1
  · rw [w 149 (by omega), w 150 (by omega)]; exact d2
  · rw [w 154 (by omega), w 155 (by omega), w 156 (by omega)]; exact d3
  · rw [w 157 (by omega)]; exact d4
  · rw [w 165 (by omega)]; exact d5.1
  · rw [w 166 (by omega)]; exact d5.2
  · rw [w 152 (by omega)]; exact d6
  · rw [w 158 (by omega)]; exact d7
  · rw [w 146 (by omega), w 163 (by omega), w 164 (by omega)]; exact d8
theorem zf_Pz_Pr (f : zq_F (zf_Pz b) h g) : zq_F (zf_Pr b) h g := zq_F_wk f (fun a i q => by unfold zf_Pz at q; unfold zf_Pr; omega)
/-- the reference's reads, from bank b -/
theorem zw_reads {x : Int} {lv : Nat} (hx : (x = 0 ∧ lv = 5) ∨ (x = 1 ∧ lv = 0)) (hv : zw_lv h T n b (.inr (p, gl))) (hl : l.length < p) (hc : h 146 33 = l.length ∧ ∀ i : Nat, i < l.length → ∀ j : Int, j = 1600 * b + i → zp_cr (l.getD i 0) (h 163 j) (h 164 j)) : zu (zc 182 [zm_A 146, zm_I x] h) (fun g => zq_F (zf_Pz b) h g ∧ g 146 34 = b ∧ ((∃ k a : Nat, zw_oX (zy_X T n (zw_F n) lv 0 p gl l) = .inl (k, a) ∧ zw_lv g T n b (.inl (k, a))) ∨ ∃ p' g' l', zy_X T n (zw_F n) lv 0 p gl l = .inr (p', g', l') ∧ ((zy_ty T n p' g' = 4 ∧ zw_lv g T n b (.inl (1, zy_bd T n p' g'))) ∨ (zw_lv g T n b (.inr (p', g')) ∧ g 146 33 = l'.length ∧ ∀ i : Nat, i < l'.length → ∀ j : Int, j = 1600 * b + i → zp_cr (l'.getD i 0) (g 163 j) (g 164 j))))) := by
  have V := hv.live
  have hL : zy_L h T n p gl b l := ⟨hv.1, V.2.2, V.1, hv.2.2.1, hv.2.1, hc.1, hc.2⟩
  refine zu_m (s_182 hx hL V.2.1 hl) (fun g r => ?_)
  obtain ⟨f, r⟩ := r
  have e34 : g 146 34 = b := by rw [f 146 34 (by unfold zf_Pz; omega)]; exact hv.2.1
  have eT : zy_RT g T n := ⟨hv.1.1, hv.1.2.1, by rw [f 146 2 (by unfold zf_Pz; omega)]; exact hv.1.2.2.1, fun i hi => by rw [f 147 i (by unfold zf_Pz; omega)]; exact hv.1.2.2.2 i hi⟩
  refine ⟨f, e34, ?_⟩
  rcases r with ⟨k, a, e, hk, e8, e9⟩ | ⟨p', g', l', e, hp', r⟩
  · exact Or.inl ⟨k, a, by rw [e]; rfl, zw_lv_i eT e34 hv.2.2.1 hk e8 e9⟩
  · refine Or.inr ⟨p', g', l', e, ?_⟩
    rcases r with ⟨t4, e8, e9⟩ | ⟨t4, Lg⟩
    · exact Or.inl ⟨t4, zw_lv_i eT e34 hv.2.2.1 (by decide) e8 e9⟩
    · exact Or.inr ⟨zw_lv_r eT e34 hv.2.2.1 Lg.1.2.2.1 hp' Lg.1.2.1 (Lg.2.trans (hv.2.2.2.2.2 _ _ rfl)), Lg.1.2.2.2.2.2⟩
theorem zw_pos {lv : Nat} {p' : Nat} {g' : Bool} {l' : List Int} (hlv : lv = 5 ∨ lv = 0) (e : zy_X T n (zw_F n) lv 0 p gl l = .inr (p', g', l')) : l.length < l'.length ∧ ∃ w, l' = l ++ w ∧ ∀ en, zw_G 0 en w lv := by
  obtain ⟨w, e1, e2⟩ := zw_X (zw_F n) lv 0 p gl l p' g' l' (by omega) (by decide) e
  refine ⟨?_, w, e1, e2⟩
  rw [e1, List.length_append]
  cases w with
  | cons c r => rw [List.length_cons]; omega
  | nil =>
    exfalso
    rcases hlv with rfl | rfl
    · obtain ⟨v, q⟩ := e2 (fun _ => 0) [] (Nat.zero_le _)
      cases q
    · obtain ⟨v, q, _⟩ := e2 (fun _ => 0) [] (Nat.zero_le _)
      cases q
/-- costs, told by the reference -/
theorem s_181w (hv : zw_lv h T n b (.inr (p, gl))) (hw : zy_ty T n p gl = 1) (hl : l.length ≤ p) (hD : zw_RD h b K L C wo sz re fe ru lk nk nc F pu l cf ct qf qt) : zu (zc 181 [zm_A 146] h) (zw_rO h T n b (if 0 < ct then .inl (6, zy_at T n p) else zw_oX (zw_oc T n (zy_en T n p) (zy_ng T n p gl) l)) (fun g => zw_RD g b K L C wo sz re fe ru lk nk nc F pu (zw_ol (zw_oc T n (zy_en T n p) (zy_ng T n p gl) l)) l.length (zw_ol (zw_oc T n (zy_en T n p) (zy_ng T n p gl) l)).length qf qt)) := by
  have hb := hv.2.2.1
  have h34 := hv.2.1
  have on := zy_en_gt (T := T) (g := gl) hv.live.2.1 (by omega)
  refine zt_l e_181 ?_
  rw [h34]
  refine zt_c (by omega) (zt_p (fun q => ?_) (fun q => ?_))
  · have ct0 : ct = 0 := Classical.byContradiction (fun e => by have := (hD.2.2.2.2.2.2.2.2.2.1 e).1; omega)
    rw [if_neg (show ¬ 0 < ct by omega)]
    refine zt_I (s_167 (x := 0) hv (by omega)) ?_
    rintro z g1 (⟨_, rfl, r1⟩ | ⟨r, _⟩)
    · have D1 := hD.wd r1.1
      have e34 : g1 146 34 = b := r1.2.2.1
      rw [e34, D1.2.2.2.2.2.2.2.1.1]
      refine zt_f (by decide) (zt_c (by omega) ?_)
      have V2 : zw_lv (zm_wr g1 159 b l.length) T n b (.inr (zy_en T n p, zy_ng T n p gl)) := r1.2.wd (by decide)
      refine zt_V (zw_reads (x := 0) (lv := 5) (l := l) (Or.inl ⟨rfl, rfl⟩) V2 (by omega) ?_) ?_
      · rw [zq_wr_n (by decide)]
        refine ⟨D1.2.2.2.2.2.2.2.1.1, fun i hi j hj => ?_⟩
        rw [zq_wr_n (by decide), zq_wr_n (by decide)]
        exact D1.2.2.2.2.2.2.2.1.2 i hi j hj
      · rintro g3 ⟨f3, e3, r3⟩
        rw [e3]
        have FF : ∀ v : Int, zq_F (zf_Pr b) h (zm_wr g3 160 b v) := fun v => zq_F_tr (zf_Wd_Pr r1.1) (zq_F_tr (zq_F_wr (by unfold zf_Pr; omega)) (zq_F_tr (zf_Pz_Pr f3) (zq_F_wr (by unfold zf_Pr; omega))))
        refine zt_c (by omega) (zu_e ⟨FF _, ?_⟩)
        rcases r3 with ⟨k, a, e, v3⟩ | ⟨p', g', l', e, r3⟩
        · exact Or.inl ⟨k, a, e, by rw [e]; exact v3.wd (by decide)⟩
        · have eo : zw_oX (zw_oc T n (zy_en T n p) (zy_ng T n p gl) l) = .inr (p', g') := by rw [show zw_oc T n (zy_en T n p) (zy_ng T n p gl) l = .inr (p', g', l') from e]; rfl
          have el : zw_ol (zw_oc T n (zy_en T n p) (zy_ng T n p gl) l) = l' := by rw [show zw_oc T n (zy_en T n p) (zy_ng T n p gl) l = .inr (p', g', l') from e]; rfl
          rw [eo, el]
          refine Or.inr (Or.inl ⟨p', g', rfl, ?_⟩)
          rcases r3 with ⟨t4, v3⟩ | ⟨v3, c3⟩
          · exact Or.inl ⟨t4, v3.wd (by decide)⟩
          · refine Or.inr ⟨v3.wd (by decide), ?_⟩
            have ps := (zw_pos (lv := 5) (Or.inl rfl) e).1
            have k159 : ∀ x : Int, x = b → g3 159 x = l.length := fun x hx => by rw [f3 159 x (by unfold zf_Pz; omega), hx, zq_wr_e]
            have k16 : ∀ a : Nat, a = 161 ∨ a = 162 → ∀ x : Int, g3 a x = g1 a x := fun a ha x => by rw [f3 a x (by unfold zf_Pz; omega), zq_wr_n (by omega)]
            obtain ⟨d1, d2, d3, d4, d5, d6, d7, d8, d9, d10, d11, d12⟩ := D1
            have w : ∀ x : Nat, x ≠ 159 → zm_wr g1 159 b l.length x = g1 x := fun x hx => by funext y; exact zq_wr_n hx
            have kk : ∀ a, 148 ≤ a → a ≤ 166 → a ≠ 163 → a ≠ 164 → a ≠ 159 → a ≠ 160 → zm_wr g3 160 b (g3 146 33) a = g1 a := fun a h1 h2 h3 h4 h5 h6 => by
              funext x
              rw [zq_wr_n h6, f3 a x (by unfold zf_Pz; omega), zq_wr_n h5]
            refine ⟨?_, ?_, ?_, ?_, ⟨?_, ?_⟩, ?_, ?_, ?_, ?_, ?_, ?_, ?_⟩
            · rw [kk 148 (by decide) (by decide) (by decide) (by decide) (by decide) (by decide), kk 151 (by decide) (by decide) (by decide) (by decide) (by decide) (by decide), kk 153 (by decide) (by decide) (by decide) (by decide) (by decide) (by decide)]; exact d1
            · rw [kk 149 (by decide) (by decide) (by decide) (by decide) (by decide) (by decide), kk 150 (by decide) (by decide) (by decide) (by decide) (by decide) (by decide)]; exact d2
            · rw [kk 154 (by decide) (by decide) (by decide) (by decide) (by decide) (by decide), kk 155 (by decide) (by decide) (by decide) (by decide) (by decide) (by decide), kk 156 (by decide) (by decide) (by decide) (by decide) (by decide) (by decide)]; exact d3
            · rw [kk 157 (by decide) (by decide) (by decide) (by decide) (by decide) (by decide)]; exact d4
            · rw [kk 165 (by decide) (by decide) (by decide) (by decide) (by decide) (by decide)]; exact d5.1
            · rw [kk 166 (by decide) (by decide) (by decide) (by decide) (by decide) (by decide)]; exact d5.2
            · rw [kk 152 (by decide) (by decide) (by decide) (by decide) (by decide) (by decide)]; exact d6
            · rw [kk 158 (by decide) (by decide) (by decide) (by decide) (by decide) (by decide)]; exact d7
            · rw [zq_wr_n (by decide)]
              refine ⟨c3.1, fun i hi j hj => ?_⟩
              rw [zq_wr_n (by decide), zq_wr_n (by decide)]; exact c3.2 i hi j hj
            · intro q0; omega
            · intro _
              rw [zq_wr_n (by decide), zq_wr_e]
              exact ⟨k159 _ rfl, c3.1⟩
            · rw [kk 161 (by decide) (by decide) (by decide) (by decide) (by decide) (by decide)]; exact d11
            · rw [kk 161 (by decide) (by decide) (by decide) (by decide) (by decide) (by decide), kk 162 (by decide) (by decide) (by decide) (by decide) (by decide) (by decide)]; exact d12
    · exact absurd rfl r
  · have ct1 : 0 < ct := Nat.pos_of_ne_zero (fun e => q (hD.2.2.2.2.2.2.2.2.1 e))
    rw [if_pos ct1]
    refine zt_I (s_167 (x := 1) hv (by omega)) ?_
    rintro z g (⟨r, _⟩ | ⟨_, rfl, r⟩)
    · exact absurd r (by decide)
    · exact zt_t rfl (zu_e ⟨zf_Wd_Pr r.1, Or.inl ⟨_, _, rfl, r.2⟩⟩)
/-- puts, told by the reference -/
theorem s_193w (hv : zw_lv h T n b (.inr (p, gl))) (hw : zy_ty T n p gl = 1) (hl : l.length ≤ p) (hD : zw_RD h b K L C wo sz re fe ru lk nk nc F pu l cf ct qf qt) : zu (zc 193 [zm_A 146] h) (zw_rO h T n b (if 0 < qt then .inl (6, zy_at T n p) else zw_oX (zw_op T n (zy_en T n p) (zy_ng T n p gl) l)) (fun g => zw_RD g b K L C wo sz re fe ru lk nk nc F pu (zw_ol (zw_op T n (zy_en T n p) (zy_ng T n p gl) l)) cf ct l.length (zw_ol (zw_op T n (zy_en T n p) (zy_ng T n p gl) l)).length)) := by
  have hb := hv.2.2.1
  have h34 := hv.2.1
  have on := zy_en_gt (T := T) (g := gl) hv.live.2.1 (by omega)
  refine zt_l e_193 ?_
  rw [h34]
  refine zt_c (by omega) (zt_p (fun q => ?_) (fun q => ?_))
  · have qt0 : qt = 0 := Classical.byContradiction (fun e => by have := (hD.2.2.2.2.2.2.2.2.2.2.2 e).1; omega)
    rw [if_neg (show ¬ 0 < qt by omega)]
    refine zt_I (s_167 (x := 0) hv (by omega)) ?_
    rintro z g1 (⟨_, rfl, r1⟩ | ⟨r, _⟩)
    · have D1 := hD.wd r1.1
      have e34 : g1 146 34 = b := r1.2.2.1
      rw [e34, D1.2.2.2.2.2.2.2.1.1]
      refine zt_f (by decide) (zt_c (by omega) ?_)
      have V2 : zw_lv (zm_wr g1 161 b l.length) T n b (.inr (zy_en T n p, zy_ng T n p gl)) := r1.2.wd (by decide)
      refine zt_V (zw_reads (x := 1) (lv := 0) (l := l) (Or.inr ⟨rfl, rfl⟩) V2 (by omega) ?_) ?_
      · rw [zq_wr_n (by decide)]
        refine ⟨D1.2.2.2.2.2.2.2.1.1, fun i hi j hj => ?_⟩
        rw [zq_wr_n (by decide), zq_wr_n (by decide)]
        exact D1.2.2.2.2.2.2.2.1.2 i hi j hj
      · rintro g3 ⟨f3, e3, r3⟩
        rw [e3]
        have FF : ∀ v : Int, zq_F (zf_Pr b) h (zm_wr g3 162 b v) := fun v => zq_F_tr (zf_Wd_Pr r1.1) (zq_F_tr (zq_F_wr (by unfold zf_Pr; omega)) (zq_F_tr (zf_Pz_Pr f3) (zq_F_wr (by unfold zf_Pr; omega))))
        refine zt_c (by omega) (zu_e ⟨FF _, ?_⟩)
        rcases r3 with ⟨k, a, e, v3⟩ | ⟨p', g', l', e, r3⟩
        · exact Or.inl ⟨k, a, e, by rw [e]; exact v3.wd (by decide)⟩
        · have eo : zw_oX (zw_op T n (zy_en T n p) (zy_ng T n p gl) l) = .inr (p', g') := by rw [show zw_op T n (zy_en T n p) (zy_ng T n p gl) l = .inr (p', g', l') from e]; rfl
          have el : zw_ol (zw_op T n (zy_en T n p) (zy_ng T n p gl) l) = l' := by rw [show zw_op T n (zy_en T n p) (zy_ng T n p gl) l = .inr (p', g', l') from e]; rfl
          rw [eo, el]
          refine Or.inr (Or.inl ⟨p', g', rfl, ?_⟩)
          rcases r3 with ⟨t4, v3⟩ | ⟨v3, c3⟩
          · exact Or.inl ⟨t4, v3.wd (by decide)⟩
          · refine Or.inr ⟨v3.wd (by decide), ?_⟩
            have ps := (zw_pos (lv := 0) (Or.inr rfl) e).1
            have k161 : ∀ x : Int, x = b → g3 161 x = l.length := fun x hx => by rw [f3 161 x (by unfold zf_Pz; omega), hx, zq_wr_e]
            obtain ⟨d1, d2, d3, d4, d5, d6, d7, d8, d9, d10, d11, d12⟩ := D1
            have kk : ∀ a, 148 ≤ a → a ≤ 166 → a ≠ 163 → a ≠ 164 → a ≠ 161 → a ≠ 162 → zm_wr g3 162 b (g3 146 33) a = g1 a := fun a h1 h2 h3 h4 h5 h6 => by
              funext x
              rw [zq_wr_n h6, f3 a x (by unfold zf_Pz; omega), zq_wr_n h5]
            refine ⟨?_, ?_, ?_, ?_, ⟨?_, ?_⟩, ?_, ?_, ?_, ?_, ?_, ?_, ?_⟩
            · rw [kk 148 (by decide) (by decide) (by decide) (by decide) (by decide) (by decide), kk 151 (by decide) (by decide) (by decide) (by decide) (by decide) (by decide), kk 153 (by decide) (by decide) (by decide) (by decide) (by decide) (by decide)]; exact d1
            · rw [kk 149 (by decide) (by decide) (by decide) (by decide) (by decide) (by decide), kk 150 (by decide) (by decide) (by decide) (by decide) (by decide) (by decide)]; exact d2
            · rw [kk 154 (by decide) (by decide) (by decide) (by decide) (by decide) (by decide), kk 155 (by decide) (by decide) (by decide) (by decide) (by decide) (by decide), kk 156 (by decide) (by decide) (by decide) (by decide) (by decide) (by decide)]; exact d3
            · rw [kk 157 (by decide) (by decide) (by decide) (by decide) (by decide) (by decide)]; exact d4
            · rw [kk 165 (by decide) (by decide) (by decide) (by decide) (by decide) (by decide)]; exact d5.1
            · rw [kk 166 (by decide) (by decide) (by decide) (by decide) (by decide) (by decide)]; exact d5.2
            · rw [kk 152 (by decide) (by decide) (by decide) (by decide) (by decide) (by decide)]; exact d6
            · rw [kk 158 (by decide) (by decide) (by decide) (by decide) (by decide) (by decide)]; exact d7
            · rw [zq_wr_n (by decide)]
              refine ⟨c3.1, fun i hi j hj => ?_⟩
              rw [zq_wr_n (by decide), zq_wr_n (by decide)]; exact c3.2 i hi j hj
            · rw [kk 159 (by decide) (by decide) (by decide) (by decide) (by decide) (by decide)]; exact d9
            · rw [kk 159 (by decide) (by decide) (by decide) (by decide) (by decide) (by decide), kk 160 (by decide) (by decide) (by decide) (by decide) (by decide) (by decide)]; exact d10
            · intro q0; omega
            · intro _
              rw [zq_wr_n (by decide), zq_wr_e]
              exact ⟨k161 _ rfl, c3.1⟩
    · exact absurd rfl r
  · have qt1 : 0 < qt := Nat.pos_of_ne_zero (fun e => q (hD.2.2.2.2.2.2.2.2.2.2.1 e))
    rw [if_pos qt1]
    refine zt_I (s_167 (x := 1) hv (by omega)) ?_
    rintro z g (⟨r, _⟩ | ⟨_, rfl, r⟩)
    · exact absurd r (by decide)
    · exact zt_t rfl (zu_e ⟨zf_Wd_Pr r.1, Or.inl ⟨_, _, rfl, r.2⟩⟩)
end
