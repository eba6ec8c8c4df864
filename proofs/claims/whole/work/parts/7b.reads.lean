/-! SUMS AND TESTS: read as a whole, both sides -/
abbrev zw_F (n : Nat) : Nat := 8 * n + 20
/-- what the reference's reads leaves -/
def zw_Rd (h : zm_H) (T : Nat → Int) (n b : Nat) (o : zy_O) (g : zm_H) : Prop := (∃ k a : Nat, o = .inl (k, a) ∧ k ≠ 0 ∧ g 146 8 = k ∧ g 146 9 = a) ∨ ∃ p' g' l', o = .inr (p', g', l') ∧ p' ≤ n ∧ ((zy_ty T n p' g' = 4 ∧ g 146 8 = 1 ∧ g 146 9 = zy_bd T n p' g') ∨ (zy_ty T n p' g' ≠ 4 ∧ zy_L g T n p' g' b l' ∧ g 146 9 = h 146 9))
section
variable {h h0 : zm_H} {T : Nat → Int} {n p b : Nat} {gl : Bool} {l : List Int}
theorem zw_rend {w : zm_V} {r : Int} {e : Nat} {Q : zm_H → Prop} (hw : zm_cat w ≠ 2) (hE : zy_E h0 h T n p gl b l 0 0 [] 0 r e) (he : e ≤ 5) (hx : h 167 ((0 : Nat) : Int) < 2) (ham : ¬ h 168 ((0 : Nat) : Int) < 2 ∨ zy_am T n p gl = 0) (hk : zy_tk h 0 → h 168 ((0 : Nat) : Int) ≠ 0 ∧ zy_ow T n p gl ≠ 19 ∧ zy_ow T n p gl ≠ 20) (hq : ∀ g, zq_F (zf_Pz b) h g → ((zy_ty T n p gl = 4 ∧ g 146 8 = 1 ∧ g 146 9 = zy_bd T n p gl) ∨ (zy_ty T n p gl ≠ 4 ∧ zy_L g T n p gl b l ∧ g 146 9 = h 146 9)) → Q g) : zu (zr none 5 182 43 [zm_A 146, w, zm_I 1] [] h) Q := by
  obtain ⟨f, a1, a2, a3, a4, a5, lr, new, b1, b2, b3, b4, b5⟩ := hE
  rw [List.append_nil] at b3
  rw [show ([] : List Int).length = 0 from rfl] at a2 a4
  have hll : l.length = lr.length + new.length := by rw [b1, List.length_append, List.length_map]
  have hG := b3.Go a1 (by omega) (by omega) (by omega) b4
  by_cases t4 : zy_ty T n p gl = 4
  · refine s_182_1 hw a5 (s_190x hG.1 t4) ?_
    rintro z g ⟨rfl, rfl⟩
    exact ⟨fun _ => hq _ (zf_Pz_89 _ _) (Or.inl ⟨t4, by rw [zq_wr_i (by decide), zq_wr_e], zq_wr_e⟩), fun q => absurd rfl q, fun q => absurd rfl q⟩
  · refine s_182_1 hw a5 (s_190t hG t4 ham hk (fun y => s_422_0 (w3 := zm_I y) (w4 := zm_U) hG hx (by omega))) ?_
    rintro z g ⟨rfl, f2, L2⟩
    rw [← b1] at L2
    exact ⟨fun _ => hq _ (zq_F_wk f2 (fun a i q => by unfold zf_Jo at q; unfold zf_Pz; omega)) (Or.inr ⟨t4, L2, f2 146 9 (by unfold zf_Jo; omega)⟩), fun q => absurd rfl q, fun q => absurd rfl q⟩
theorem s_182 {x : Int} {lv : Nat} (hx : (x = 0 ∧ lv = 5) ∨ (x = 1 ∧ lv = 0)) (hL : zy_L h T n p gl b l) (hp : p ≤ n) (hl : l.length < p) : zu (zc 182 [zm_A 146, zm_I x] h) (fun g => zq_F (zf_Pz b) h g ∧ zw_Rd h T n b (zy_X T n (zw_F n) lv 0 p gl l) g) := by
  have hg1 : ∃ g1, g1 = zm_wr (zm_wr (zm_wr (zm_wr h 146 40 0) 146 41 0) 146 43 0) 146 44 0 := ⟨_, rfl⟩
  obtain ⟨g1, hg1⟩ := hg1
  have k40 : g1 146 40 = ((0 : Nat) : Int) := by rw [hg1, zq_wr_i (by decide), zq_wr_i (by decide), zq_wr_i (by decide), zq_wr_e]; rfl
  have k43 : g1 146 43 = ((0 : Nat) : Int) := by rw [hg1, zq_wr_i (by decide), zq_wr_e]; rfl
  have k41 : g1 146 41 = ((0 : Nat) : Int) := by rw [hg1, zq_wr_i (by decide), zq_wr_i (by decide), zq_wr_e]; rfl
  have k44 : g1 146 44 = 0 := by rw [hg1, zq_wr_e]
  have f1 : zq_F (zf_Pz b) h g1 := by
    rw [hg1]
    exact zq_F_tr (zq_F_wr (by unfold zf_Pz; omega)) (zq_F_tr (zq_F_wr (by unfold zf_Pz; omega)) (zq_F_tr (zq_F_wr (by unfold zf_Pz; omega)) (zq_F_wr (by unfold zf_Pz; omega))))
  have L1 : zy_L g1 T n p gl b l := hL.kp (fun i hi => by rw [hg1, zq_wr_i (by omega), zq_wr_i (by omega), zq_wr_i (by omega), zq_wr_i (by omega)]) (fun a ha => by funext j; rw [hg1, zq_wr_n (by omega), zq_wr_n (by omega), zq_wr_n (by omega), zq_wr_n (by omega)])
  have main : ∀ kd : Int, (kd = 0 ∧ lv = 5) ∨ (kd = 1 ∧ lv = 0) → zm_cat (zm_I x) ≠ 2 → zu (zk_V (zc 183 [zm_A 146, zm_I kd] g1) (fun h1 => zr none 5 182 43 [zm_A 146, zm_I x, zm_I 1] [] h1)) (fun g => zq_F (zf_Pz b) h g ∧ zw_Rd h T n b (zy_X T n (zw_F n) lv 0 p gl l) g) := by
    intro kd hkd hw
    refine zt_V (s_183 (k := 0) (M := ((0 : Nat) : Int)) kd k40 (by decide) k43) ?_
    rintro g2 ⟨f2, r67, r68, r69, r71, r40⟩
    have k146 : ∀ i : Int, i ≠ 40 → g2 146 i = g1 146 i := fun i hi => f2 146 i (by unfold zf_Pu; omega)
    have L2 : zy_L g2 T n p gl b l := L1.kp (fun i hi => k146 i (by omega)) (fun a ha => by funext j; exact f2 a j (by unfold zf_Pu; omega))
    have f12 : zq_F (zf_Pz b) h g2 := zq_F_tr f1 (zq_F_wk f2 (fun a i q => by unfold zf_Pu at q; unfold zf_Pz; omega))
    have hO : zy_Op g2 T n p gl b l 0 0 [] 0 3 := ⟨⟨L2, r40, r71, ⟨(k146 43 (by decide)).trans k43, fun i hi => by cases hi⟩, (k146 41 (by decide)).trans k41, fun s hs => by cases hs⟩, (k146 44 (by decide)).trans k44, hp, by decide, by decide, by show l.length + 0 < p; omega, by decide⟩
    have k9 : ∀ x : zm_H, zq_F (zf_Lv b 0 0) g2 x → x 146 9 = h 146 9 := fun x f => by
      rw [f 146 9 (by unfold zf_Lv; omega), k146 9 (by decide), hg1, zq_wr_i (by decide), zq_wr_i (by decide), zq_wr_i (by decide), zq_wr_i (by decide)]
    rcases hkd with ⟨rfl, rfl⟩ | ⟨rfl, rfl⟩
    · have A := (zy_refer T n b (zm_I x) hw (zw_F n)).2.2.2.2.2.1
      have D := A 0 p gl l g2 0 0 [] (by unfold zw_F; omega) hO ⟨by rw [r68]; decide, fun q => by unfold zy_fs at q; omega⟩ (fun s hs => by cases hs)
      refine D _ (fun kf a e hk g f e8 e9 => ⟨zq_F_tr f12 f, Or.inl ⟨kf, a, e, hk, e8, e9⟩⟩) (fun p' g' l' e h2 R => ?_)
      have k7 : h2 167 ((0 : Nat) : Int) = 0 := R.1.k7.trans r67
      refine zw_rend hw R.1 (by decide) (by rw [k7]; decide) (Or.inr R.2.2.2) (fun q => by rcases q with q | q <;> rw [k7] at q <;> exact absurd q (by decide)) (fun g f q => ⟨zq_F_tr f12 (zq_F_tr (zf_Pz_Lv R.1.1) f), Or.inr ⟨p', g', l', e, R.1.2.1, q.elim Or.inl (fun r => Or.inr ⟨r.1, r.2.1, r.2.2.trans (k9 h2 R.1.1)⟩)⟩⟩)
    · have A := (zy_refer T n b (zm_I x) hw (zw_F n)).1
      have D := A 0 p gl l g2 0 0 [] (by unfold zw_F; omega) (hO.wk (by decide)) (Or.inl r67) r68 (by rw [r69]; decide) (fun s hs => by cases hs)
      refine D _ (fun kf a e hk g f e8 e9 => ⟨zq_F_tr f12 f, Or.inl ⟨kf, a, e, hk, e8, e9⟩⟩) (fun p' g' l' e h2 R => ?_)
      have k7 : h2 167 ((0 : Nat) : Int) = 1 := R.1.k7.trans r67
      refine zw_rend hw R.1 (by decide) (by rw [k7]; decide) ?_ (fun _ => ⟨?_, R.2.2⟩) (fun g f q => ⟨zq_F_tr f12 (zq_F_tr (zf_Pz_Lv R.1.1) f), Or.inr ⟨p', g', l', e, R.1.2.1, q.elim Or.inl (fun r => Or.inr ⟨r.1, r.2.1, r.2.2.trans (k9 h2 R.1.1)⟩)⟩⟩)
      · rcases R.2.1 with q | q
        · exact Or.inl (by rw [q]; decide)
        · exact Or.inr q.2
      · rcases R.2.1 with q | q
        · rw [q]; decide
        · rw [q.1]; decide
  refine zt_l e_182 (zt_t (by rw [hL.2.2.1]; decide) (zt_c (Or.inl rfl) ?_))
  rw [← hg1]
  refine zt_p (fun q => main 0 (by omega) (zm_cat_I _)) (fun q => main 1 (by omega) (zm_cat_I _))
end
