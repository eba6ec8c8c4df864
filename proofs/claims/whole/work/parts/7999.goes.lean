/-! SUMS AND TESTS: the reference goes on -/
/-- what a level in frame k with base B writes -/
def zf_Lv (b k B : Nat) (a : Nat) (i : Int) : Prop := (a = 146 ∧ ((3 ≤ i ∧ i ≤ 7) ∨ i = 12 ∨ i = 33 ∨ (40 ≤ i ∧ i ≤ 44))) ∨ ((a = 163 ∨ a = 164) ∧ 1600 * (b : Int) ≤ i ∧ i < 1600 * (b : Int) + 1600) ∨ ((a = 168 ∨ a = 169) ∧ (k : Int) ≤ i) ∨ ((a = 167 ∨ a = 170 ∨ a = 171) ∧ (k : Int) < i) ∨ (a = 172 ∧ (B : Int) ≤ i)
def zy_Lf (T : Nat → Int) (n p : Nat) (gl : Bool) (b : Nat) (l : List Int) (k B : Nat) (ts : List Int) (s ph bg : Int) (h g : zm_H) : Prop := zq_F (zf_Lv b k B) h g ∧ zy_L g T n (zy_en T n p) (zy_ng T n p gl) b l ∧ zy_ts g B (s :: ts) ∧ g 146 41 = h 146 41 ∧ g 146 40 = h 146 40 ∧ g 146 44 = 0 ∧ g 168 k = ph ∧ g 169 k = bg
section
variable {h : zm_H} {T : Nat → Int} {n p b : Nat} {gl : Bool} {l : List Int}
theorem zy_hold {B : Nat} {ts : List Int} (s : Int) (hts : zy_ts h B ts) : zy_ts (zm_wr (zm_wr h 172 ((B + ts.length : Nat) : Int) s) 146 43 (((B + ts.length : Nat) : Int) + 1)) B (s :: ts) := by
  refine ⟨?_, ?_⟩
  · rw [zq_wr_e, List.length_cons]; omega
  · intro i hi j hj
    rw [List.length_cons] at hi hj
    rw [zq_wr_n (by decide)]
    cases i with
    | zero =>
      have e : j = ((B + ts.length : Nat) : Int) := by omega
      rw [e, zq_wr_e]; rfl
    | succ i =>
      rw [zq_wr_i (by omega)]
      exact hts.2 i (by omega) j (by omega)
theorem zy_hold2 {B : Nat} {ts : List Int} {g : zm_H} (hts : zy_ts h B ts) (e1 : g 146 43 = h 146 43) (e2 : g 172 = h 172) : zy_ts g B ts := ⟨by rw [e1]; exact hts.1, fun i hi j hj => by rw [e2]; exact hts.2 i hi j hj⟩
/-- behind what is held back now: on -/
theorem s_190_l {k B : Nat} {ts : List Int} {s ph bg : Int} {g : zm_H} (hL : zy_L h T n p gl b l) (hp : p ≤ n) (ht : zy_ty T n p gl ≠ 4 ∧ zy_ty T n p gl ≠ 0) (hts : zy_ts h B ts) (hg : g = zm_wr (zm_wr h 172 ((B + ts.length : Nat) : Int) s) 146 43 (((B + ts.length : Nat) : Int) + 1)) {g1 : zm_H} (hf : zq_F (fun a i => (a = 168 ∨ a = 169) ∧ i = k) g g1) (hph : g1 168 k = ph) (hbg : g1 169 k = bg) : zi (zk_V (zc 159 [zm_A 146] g1) (fun h15 => zm_ck (zm_bit 0) (zm_ck (zm_bit 1) (some (zm_I 1, (zm_wr h15 146 44 0)))))) (fun z g2 => z = 1 ∧ zy_Lf T n p gl b l k B ts s ph bg h g2) := by
  subst hg
  have f1 : zq_F (fun a i => (a = 146 ∧ i = 43) ∨ ((a = 168 ∨ a = 169) ∧ i = k) ∨ (a = 172 ∧ i = ((B + ts.length : Nat) : Int))) h g1 := zq_F_tr (zq_F_wr (Or.inr (Or.inr ⟨rfl, rfl⟩))) (zq_F_tr (zq_F_wr (Or.inl ⟨rfl, rfl⟩)) (zq_F_wk hf (fun a i q => Or.inr (Or.inl q))))
  have L1 : zy_L g1 T n p gl b l := hL.kp (fun i hi => f1 146 i (by omega)) (fun a ha => by funext j; exact f1 a j (by omega))
  refine zt_V (s_159L L1 hp ht) ?_
  rintro g2 ⟨f2, L2⟩
  refine zt_c (Or.inl rfl) (zt_c (Or.inr rfl) (zi_e ⟨rfl, ?_, ?_, ?_, ?_, ?_, zq_wr_e, ?_, ?_⟩))
  · refine zq_F_tr (zq_F_wk f1 (fun a i q => ?_)) (zq_F_tr (zq_F_wk f2 (fun a i q => ?_)) (zq_F_wr ?_))
    · unfold zf_Lv; omega
    · unfold zf_Sr at q; unfold zf_Lv; omega
    · unfold zf_Lv; omega
  · exact L2.kp (fun i hi => zq_wr_i (by omega)) (fun a ha => by funext j; exact zq_wr_n (by omega))
  · refine zy_hold2 (zy_hold s hts) ?_ ?_
    · rw [zq_wr_i (by decide), f2 146 43 (by unfold zf_Sr; omega), hf 146 43 (by omega)]
    · funext j
      rw [zq_wr_n (by decide), f2 172 j (by unfold zf_Sr; omega), hf 172 j (by omega)]
  · rw [zq_wr_i (by decide), f2 146 41 (by unfold zf_Sr; omega), f1 146 41 (by omega)]
  · rw [zq_wr_i (by decide), f2 146 40 (by unfold zf_Sr; omega), f1 146 40 (by omega)]
  · rw [zq_wr_n (by decide), f2 168 k (by unfold zf_Sr; omega)]; exact hph
  · rw [zq_wr_n (by decide), f2 169 k (by unfold zf_Sr; omega)]; exact hbg
/-- the sign of a sum or product held back -/
def zy_am (T : Nat → Int) (n p : Nat) (g : Bool) : Int := if zy_ad T n p g = 0 then zy_mu T n p g else zy_ad T n p g
theorem s_190_87c {k B : Nat} {ts : List Int} (hL : zy_L h T n p gl b l) (hp : p ≤ n) (hs : zy_am T n p gl ≠ 0) (hts : zy_ts h B ts) (h5 : B + ts.length < 500) : zi (zk_I (zc 187 [zm_A 146, zm_I 43] h) (fun v6 h7 => if v6 = 0 then (zk_I (zc 187 [zm_A 146, zm_I 45] h7) (fun v8 h9 => if v8 = 0 then (zk_I (zc 187 [zm_A 146, zm_I 42] h9) (fun v10 h11 => if v10 = 0 then (zk_I (zc 187 [zm_A 146, zm_I 47] h11) (fun v12 h13 => if v12 = 0 then (zk_V (zc 186 [zm_A 146, zm_I 14] h13) (fun h14 => zk_V (zc 159 [zm_A 146] h14) (fun h15 => zm_ck (zm_bit 0) (zm_ck (zm_bit 1) (some (zm_I 1, (zm_wr h15 146 44 0))))))) else (zk_V (zc 186 [zm_A 146, zm_I 13] h13) (fun h16 => zk_V (zc 159 [zm_A 146] h16) (fun h17 => zm_ck (zm_bit 0) (zm_ck (zm_bit 1) (some (zm_I 1, (zm_wr h17 146 44 0))))))))) else (zk_V (zc 186 [zm_A 146, zm_I 12] h11) (fun h18 => zk_V (zc 159 [zm_A 146] h18) (fun h19 => zm_ck (zm_bit 0) (zm_ck (zm_bit 1) (some (zm_I 1, (zm_wr h19 146 44 0))))))))) else (zk_V (zc 186 [zm_A 146, zm_I 11] h9) (fun h20 => zk_V (zc 159 [zm_A 146] h20) (fun h21 => zm_ck (zm_bit 0) (zm_ck (zm_bit 1) (some (zm_I 1, (zm_wr h21 146 44 0))))))))) else (zk_V (zc 186 [zm_A 146, zm_I 10] h7) (fun h22 => zk_V (zc 159 [zm_A 146] h22) (fun h23 => zm_ck (zm_bit 0) (zm_ck (zm_bit 1) (some (zm_I 1, (zm_wr h23 146 44 0))))))))) (fun z g => z = 1 ∧ zy_Lf T n p gl b l k B ts (-zy_am T n p gl - 1) (h 168 k) (h 169 k) h g) := by
  have ht : zy_ty T n p gl = 3 := by
    unfold zy_am at hs
    split at hs
    · exact zy_mu_ty hs
    · next q => exact zy_ad_ty q
  have leaf : ∀ s : Int, zy_am T n p gl = -s - 1 → zi (zk_V (zc 186 [zm_A 146, zm_I s] h) (fun h14 => zk_V (zc 159 [zm_A 146] h14) (fun h15 => zm_ck (zm_bit 0) (zm_ck (zm_bit 1) (some (zm_I 1, (zm_wr h15 146 44 0))))))) (fun z g => z = 1 ∧ zy_Lf T n p gl b l k B ts (-zy_am T n p gl - 1) (h 168 k) (h 169 k) h g) := by
    intro s e
    rw [e, show -(-s - 1) - 1 = s by omega]
    refine zt_V (s_186 (m := B + ts.length) s hts.1 (by omega)) ?_
    intro g hg
    exact s_190_l hL hp (by omega) hts hg zq_F_rf (by rw [hg, zq_wr_n (by decide), zq_wr_n (by decide)]) (by rw [hg, zq_wr_n (by decide), zq_wr_n (by decide)])
  have ht4 : zy_ty T n p gl ≠ 4 := by omega
  refine zt_I (s_187s hL.2.1 ht4 43) ?_
  rintro z g ⟨rfl, rfl⟩
  by_cases w1 : zy_sg T n p gl 43 = true
  · rw [if_pos w1]
    refine zt_f (by decide) (leaf 10 ?_)
    unfold zy_am zy_ad; rw [if_pos w1, if_neg (by decide)]; rfl
  rw [if_neg w1]
  refine zt_t rfl (zt_I (s_187s hL.2.1 ht4 45) ?_)
  rintro z g ⟨rfl, rfl⟩
  by_cases w2 : zy_sg T n p gl 45 = true
  · rw [if_pos w2]
    refine zt_f (by decide) (leaf 11 ?_)
    unfold zy_am zy_ad; rw [if_neg w1, if_pos w2, if_neg (by decide)]; rfl
  rw [if_neg w2]
  have e0 : zy_ad T n p gl = 0 := by unfold zy_ad; rw [if_neg w1, if_neg w2]
  have e1 : zy_am T n p gl = zy_mu T n p gl := by unfold zy_am; rw [if_pos e0]
  refine zt_t rfl (zt_I (s_187s hL.2.1 ht4 42) ?_)
  rintro z g ⟨rfl, rfl⟩
  by_cases w3 : zy_sg T n p gl 42 = true
  · rw [if_pos w3]
    refine zt_f (by decide) (leaf 12 ?_)
    rw [e1]; unfold zy_mu; rw [if_pos w3]; rfl
  rw [if_neg w3]
  refine zt_t rfl (zt_I (s_187s hL.2.1 ht4 47) ?_)
  rintro z g ⟨rfl, rfl⟩
  by_cases w4 : zy_sg T n p gl 47 = true
  · rw [if_pos w4]
    refine zt_f (by decide) (leaf 13 ?_)
    rw [e1]; unfold zy_mu; rw [if_neg w3, if_pos w4]; rfl
  rw [if_neg w4]
  refine zt_t rfl (leaf 14 ?_)
  rw [e1] at hs ⊢
  unfold zy_mu at hs ⊢
  rw [if_neg w3, if_neg w4] at hs ⊢
  by_cases w5 : zy_sg T n p gl 37 = true
  · rw [if_pos w5]; rfl
  · rw [if_neg w5] at hs; exact absurd rfl hs
end
