/-! SUMS AND TESTS: the reference goes on: signs and words held back -/
def zy_Lg (T : Nat → Int) (n p : Nat) (gl : Bool) (b : Nat) (l : List Int) (k B : Nat) (ts : List Int) (s ph bg : Int) (o : Nat) (h g : zm_H) : Prop := zq_F (zf_Lv b k B) h g ∧ zy_L g T n (zy_en T n p) (zy_ng T n p gl) b l ∧ zy_ts g B (s :: ts) ∧ g 146 41 = o ∧ g 146 40 = h 146 40 ∧ g 146 44 = 0 ∧ g 168 k = ph ∧ g 169 k = bg
/-- where a level stands -/
def zy_Go (h : zm_H) (T : Nat → Int) (n p : Nat) (gl : Bool) (b : Nat) (l : List Int) (k B : Nat) (ts : List Int) (o : Nat) : Prop := zy_L h T n p gl b l ∧ h 146 40 = ((k + 1 : Nat) : Int) ∧ h 171 k = B ∧ zy_ts h B ts ∧ h 146 41 = o ∧ k < 20 ∧ (∀ s, s ∈ ts → 10 ≤ s ∧ s ≤ 22) ∧ l.length + ts.length ≤ 1600 ∧ B + ts.length < 500 ∧ o ≤ 7
section
variable {h : zm_H} {T : Nat → Int} {n p b : Nat} {gl : Bool} {l : List Int} {k B o : Nat} {ts : List Int}
theorem zy_rest_le {m : Int} : ∀ (ts : List Int), (zy_rest m ts).length ≤ ts.length := by
  intro ts
  induction ts with
  | nil => exact Nat.le_refl _
  | cons s r ih =>
    unfold zy_rest
    split
    · rw [List.length_cons]; omega
    · exact Nat.le_refl _
/-- joined -/
theorem zy_Go.jo (hG : zy_Go h T n p gl b l k B ts o) (m : Int) (hm : zy_nots m ts ≤ o) : zu (zc 191 [zm_A 146, zm_I m] h) (fun g => zq_F (zf_Jo b) h g ∧ zy_L g T n p gl b (l ++ zy_popd m ts) ∧ zy_ts g B (zy_rest m ts) ∧ g 146 41 = ((o - zy_nots m ts : Nat) : Int)) := (s_191 ts l o h hG.1 hG.2.1 hG.2.2.2.2.2.1 hG.2.2.1 hG.2.2.2.1 (by have := hG.2.2.2.2.2.2.2.2.1; omega) hG.2.2.2.2.2.2.1 hG.2.2.2.2.2.2.2.1 hG.2.2.2.2.1 hm (by have := hG.2.2.2.2.2.2.2.2.2; omega)).1
theorem zy_Lg_of {m s ph bg : Int} {g1 g2 : zm_H} {p1 : Nat} {gl1 : Bool} (fJ : zq_F (zf_Jo b) h g1) (e41 : g1 146 41 = ((o - zy_nots m ts : Nat) : Int)) (r : zy_Lf T n p gl b (l ++ zy_popd m ts) k B (zy_rest m ts) s ph bg g1 g2) : zy_Lg T n p gl b (l ++ zy_popd m ts) k B (zy_rest m ts) s ph bg (o - zy_nots m ts) h g2 := by
  obtain ⟨r1, r2, r3, r4, r5, r6, r7, r8⟩ := r
  exact ⟨zq_F_tr (zq_F_wk fJ (fun a i q => by unfold zf_Jo at q; unfold zf_Lv; omega)) r1, r2, r3, r4.trans e41, r5.trans (fJ 146 40 (by unfold zf_Jo; omega)), r6, r7, r8⟩
theorem s_190_87 {w1 w2 w3 w4 : zm_V} (hG : zy_Go h T n p gl b l k B ts o) (hp : p ≤ n) (hs : zy_am T n p gl ≠ 0) (ho : zy_nots (if zy_ad T n p gl = 0 then 6 else 5) ts ≤ o) : zi (zr none 3 190 87 [zm_A 146, w1, w2, w3, w4] [] h) (fun z g => z = 1 ∧ zy_Lg T n p gl b (l ++ zy_popd (if zy_ad T n p gl = 0 then 6 else 5) ts) k B (zy_rest (if zy_ad T n p gl = 0 then 6 else 5) ts) (-zy_am T n p gl - 1) (h 168 k) (h 169 k) (o - zy_nots (if zy_ad T n p gl = 0 then 6 else 5) ts) h g) := by
  have ht : zy_ty T n p gl = 3 := by
    unfold zy_am at hs
    split at hs
    · exact zy_mu_ty hs
    · next q => exact zy_ad_ty q
  have ht4 : zy_ty T n p gl ≠ 4 := by omega
  have hL := hG.1
  have lf : ∀ (m : Int) (g : zm_H), (zq_F (zf_Jo b) h g ∧ zy_L g T n p gl b (l ++ zy_popd m ts) ∧ zy_ts g B (zy_rest m ts) ∧ g 146 41 = ((o - zy_nots m ts : Nat) : Int)) → ∀ x : Option (zm_V × zm_H), zi x (fun z g2 => z = 1 ∧ zy_Lf T n p gl b (l ++ zy_popd m ts) k B (zy_rest m ts) (-zy_am T n p gl - 1) (g 168 k) (g 169 k) g g2) → zi x (fun z g2 => z = 1 ∧ zy_Lg T n p gl b (l ++ zy_popd m ts) k B (zy_rest m ts) (-zy_am T n p gl - 1) (h 168 k) (h 169 k) (o - zy_nots m ts) h g2) := by
    intro m g hg x hx
    refine zi_m hx (fun z g2 r => ⟨r.1, ?_⟩)
    have := zy_Lg_of (p1 := 0) (gl1 := false) hg.1 hg.2.2.2 r.2
    rw [hg.1 168 k (by unfold zf_Jo; omega), hg.1 169 k (by unfold zf_Jo; omega)] at this
    exact this
  have hB := hG.2.2.2.2.2.2.2.2.1
  refine zt_l e_190_87 (zt_I (s_187s hL.2.1 ht4 43) ?_)
  rintro z g ⟨rfl, rfl⟩
  by_cases w1 : zy_sg T n p gl 43 = true
  · rw [if_pos w1]
    have ea : ¬ zy_ad T n p gl = 0 := by unfold zy_ad; rw [if_pos w1]; decide
    rw [if_neg ea] at ho ⊢
    refine zt_f (by decide) (zt_V (hG.jo 5 ho) ?_)
    intro g1 r
    exact lf 5 g1 r _ (s_190_87c r.2.1 hp hs r.2.2.1 (by have := zy_rest_le (m := 5) ts; omega))
  rw [if_neg w1]
  refine zt_t rfl (zt_I (s_187s hL.2.1 ht4 45) ?_)
  rintro z g ⟨rfl, rfl⟩
  by_cases w2 : zy_sg T n p gl 45 = true
  · rw [if_pos w2]
    have ea : ¬ zy_ad T n p gl = 0 := by unfold zy_ad; rw [if_neg w1, if_pos w2]; decide
    rw [if_neg ea] at ho ⊢
    refine zt_f (by decide) (zt_V (hG.jo 5 ho) ?_)
    intro g1 r
    exact lf 5 g1 r _ (s_190_87c r.2.1 hp hs r.2.2.1 (by have := zy_rest_le (m := 5) ts; omega))
  rw [if_neg w2]
  have ea : zy_ad T n p gl = 0 := by unfold zy_ad; rw [if_neg w1, if_neg w2]
  rw [if_pos ea] at ho ⊢
  refine zt_t rfl (zt_V (hG.jo 6 ho) ?_)
  intro g1 r
  exact lf 6 g1 r _ (s_190_87c r.2.1 hp hs r.2.2.1 (by have := zy_rest_le (m := 6) ts; omega))
abbrev zy_tk (h : zm_H) (k : Nat) : Prop := h 167 k = 1 ∨ h 167 k = 5
/-- broken -/
theorem s_190x (hL : zy_L h T n p gl b l) (ht : zy_ty T n p gl = 4) : zi (zc 190 [zm_A 146] h) (fun z g => z = 0 ∧ g = zm_wr (zm_wr h 146 8 1) 146 9 (zy_bd T n p gl)) := by
  refine zt_l e_190 (zt_V (s_163x hL.2.1 ht hL.2.2.1) ?_)
  rintro g rfl
  exact zt_f (by rw [zq_wr_i (by decide), zq_wr_e]; decide) (zt_c (Or.inl rfl) (zi_e ⟨rfl, rfl⟩))
theorem s_190h {R : Int → zm_H → Prop} (hG : zy_Go h T n p gl b l k B ts o) (ht : zy_ty T n p gl ≠ 4)
    (c1 : h 168 k < 2 → zy_am T n p gl ≠ 0 → ∀ x : Int, zi (zr none 3 190 87 [zm_A 146, zm_I k, zm_I (h 167 k), zm_I x, zm_U] [] h) R)
    (c2 : ¬ (h 168 k < 2 ∧ zy_am T n p gl ≠ 0) → ∀ x : Int, x = (if zy_tk h k then 1 else 0) → zi (zr none 3 190 188 [zm_A 146, zm_I k, zm_I (h 167 k), zm_I x, zm_U] [] h) R) : zi (zc 190 [zm_A 146] h) R := by
  have hL := hG.1
  have f8 := hL.2.2.1
  have h40 := hG.2.1
  have hk := hG.2.2.2.2.2.1
  have ek : h 146 40 - 1 = (k : Int) := by omega
  refine zt_l e_190 (zt_V (s_163 hL.2.1 ht) ?_)
  rintro g rfl
  rw [ek]
  refine zt_t (by omega) (zt_c (by omega) (zt_c (by omega) (zt_I (s_185 _) ?_)))
  rintro z g2 ⟨rfl, rfl⟩
  refine zt_c (by omega) (zt_p (fun q => ?_) (fun q => c2 (fun r => q r.1) _ rfl))
  have am : ∀ c : Int, zy_sg T n p gl c = true → (c = 43 ∨ c = 45 ∨ c = 42 ∨ c = 47 ∨ c = 37) → zy_am T n p gl ≠ 0 := by
    intro c hc e
    have hc' := zy_sg_ty hc
    have n43 : ∀ d : Int, d ≠ c → ¬ zy_sg T n p gl d = true := fun d hd r => hd ((zy_sg_ty r).2.symm.trans hc'.2)
    unfold zy_am zy_ad zy_mu
    rcases e with rfl | rfl | rfl | rfl | rfl
    · rw [if_pos hc, if_neg (by decide)]; decide
    · rw [if_neg (n43 43 (by decide)), if_pos hc, if_neg (by decide)]; decide
    · rw [if_neg (n43 43 (by decide)), if_neg (n43 45 (by decide)), if_pos rfl, if_pos hc]; decide
    · rw [if_neg (n43 43 (by decide)), if_neg (n43 45 (by decide)), if_pos rfl, if_neg (n43 42 (by decide)), if_pos hc]; decide
    · rw [if_neg (n43 43 (by decide)), if_neg (n43 45 (by decide)), if_pos rfl, if_neg (n43 42 (by decide)), if_neg (n43 47 (by decide)), if_pos hc]; decide
  refine zt_I (s_187s hL.2.1 ht 43) ?_
  rintro z g ⟨rfl, rfl⟩
  by_cases w1 : zy_sg T n p gl 43 = true
  · rw [if_pos w1]; exact zt_f (by decide) (c1 q (am _ w1 (by omega)) _)
  rw [if_neg w1]
  refine zt_t rfl (zt_I (s_187s hL.2.1 ht 45) ?_)
  rintro z g ⟨rfl, rfl⟩
  by_cases w2 : zy_sg T n p gl 45 = true
  · rw [if_pos w2]; exact zt_f (by decide) (c1 q (am _ w2 (by omega)) _)
  rw [if_neg w2]
  refine zt_t rfl (zt_I (s_187s hL.2.1 ht 42) ?_)
  rintro z g ⟨rfl, rfl⟩
  by_cases w3 : zy_sg T n p gl 42 = true
  · rw [if_pos w3]; exact zt_f (by decide) (c1 q (am _ w3 (by omega)) _)
  rw [if_neg w3]
  refine zt_t rfl (zt_I (s_187s hL.2.1 ht 47) ?_)
  rintro z g ⟨rfl, rfl⟩
  by_cases w4 : zy_sg T n p gl 47 = true
  · rw [if_pos w4]; exact zt_f (by decide) (c1 q (am _ w4 (by omega)) _)
  rw [if_neg w4]
  refine zt_t rfl (zt_I (s_187s hL.2.1 ht 37) ?_)
  rintro z g ⟨rfl, rfl⟩
  by_cases w5 : zy_sg T n p gl 37 = true
  · rw [if_pos w5]; exact zt_f (by decide) (c1 q (am _ w5 (by omega)) _)
  rw [if_neg w5]
  refine zt_t rfl (c2 (fun r => r.2 ?_) _ rfl)
  unfold zy_am zy_ad zy_mu
  rw [if_neg w1, if_neg w2, if_pos rfl, if_neg w3, if_neg w4, if_neg w5]
/-- + - * / % -/
theorem s_190m (hG : zy_Go h T n p gl b l k B ts o) (hp : p ≤ n) (hph : h 168 k < 2) (hs : zy_am T n p gl ≠ 0) (ho : zy_nots (if zy_ad T n p gl = 0 then 6 else 5) ts ≤ o) : zi (zc 190 [zm_A 146] h) (fun z g => z = 1 ∧ zy_Lg T n p gl b (l ++ zy_popd (if zy_ad T n p gl = 0 then 6 else 5) ts) k B (zy_rest (if zy_ad T n p gl = 0 then 6 else 5) ts) (-zy_am T n p gl - 1) (h 168 k) (h 169 k) (o - zy_nots (if zy_ad T n p gl = 0 then 6 else 5) ts) h g) := by
  have ht : zy_ty T n p gl = 3 := by
    have hs := hs
    unfold zy_am at hs
    split at hs
    · exact zy_mu_ty hs
    · next q => exact zy_ad_ty q
  exact s_190h hG (by omega) (fun _ _ x => s_190_87 hG hp hs ho) (fun q => absurd ⟨hph, hs⟩ q)
/-- < > = -/
theorem s_190c (hG : zy_Go h T n p gl b l k B ts o) (hp : p ≤ n) (hph : h 168 k = 0) (hk : zy_tk h k) (hs : zy_cm T n p gl ≠ 0) (ho : zy_nots 5 ts ≤ o) : zi (zc 190 [zm_A 146] h) (fun z g => z = 1 ∧ zy_Lg T n p gl b (l ++ zy_popd 5 ts) k B (zy_rest 5 ts) (-zy_cm T n p gl - 1) 1 (h 169 k) (o - zy_nots 5 ts) h g) := by
  have ht := zy_cm_ty hs
  have ht4 : zy_ty T n p gl ≠ 4 := by omega
  have hL := hG.1
  have kk := hG.2.2.2.2.2.1
  have hB := hG.2.2.2.2.2.2.2.2.1
  have hc : T (zy_at T n p) = 60 ∨ T (zy_at T n p) = 62 ∨ T (zy_at T n p) = 61 := by
    unfold zy_cm at hs
    split at hs
    · next q => exact Or.inl (zy_sg_ty q).2
    · split at hs
      · next q => exact Or.inr (Or.inl (zy_sg_ty q).2)
      · split at hs
        · next q => exact Or.inr (Or.inr (zy_sg_ty q).2)
        · exact absurd rfl hs
  have no : ∀ d : Int, d ≠ 60 → d ≠ 61 → d ≠ 62 → ¬ zy_sg T n p gl d = true := fun d h1 h2 h3 r => by have := (zy_sg_ty r).2; omega
  have am0 : zy_am T n p gl = 0 := by
    unfold zy_am zy_ad zy_mu
    rw [if_neg (no 43 (by decide) (by decide) (by decide)), if_neg (no 45 (by decide) (by decide) (by decide)), if_pos rfl, if_neg (no 42 (by decide) (by decide) (by decide)), if_neg (no 47 (by decide) (by decide) (by decide)), if_neg (no 37 (by decide) (by decide) (by decide))]
  have run : ∀ x : Int, zi (zr none 3 190 228 [zm_A 146, zm_I k, zm_I (h 167 k), zm_I x, zm_U] [] h) (fun z g => z = 1 ∧ zy_Lg T n p gl b (l ++ zy_popd 5 ts) k B (zy_rest 5 ts) (-zy_cm T n p gl - 1) 1 (h 169 k) (o - zy_nots 5 ts) h g) := by
    intro x
    refine zt_l e_190_228 (zt_V (hG.jo 5 ho) ?_)
    rintro g1 ⟨fJ, L1, ts1, e41⟩
    have leaf : ∀ s : Int, zy_cm T n p gl = -s - 1 → zi (zk_V (zc 186 [zm_A 146, zm_I s] g1) (fun h6 => zm_ck (0 ≤ (k : Int) ∧ (k : Int) < ((20 : Nat) : Int)) (zk_V (zc 159 [zm_A 146] (zm_wr h6 168 k 1)) (fun h7 => zm_ck (zm_bit 0) (zm_ck (zm_bit 1) (some (zm_I 1, (zm_wr h7 146 44 0)))))))) (fun z g => z = 1 ∧ zy_Lg T n p gl b (l ++ zy_popd 5 ts) k B (zy_rest 5 ts) (-zy_cm T n p gl - 1) 1 (h 169 k) (o - zy_nots 5 ts) h g) := by
      intro s e
      rw [e, show -(-s - 1) - 1 = s by omega]
      refine zt_V (s_186 (m := B + (zy_rest 5 ts).length) s ts1.1 (by have := zy_rest_le (m := 5) ts; omega)) ?_
      intro g2 hg2
      refine zt_c (by omega) (zi_m (s_190_l (ph := 1) (bg := h 169 k) L1 hp (by omega) ts1 hg2 (zq_F_wr ⟨Or.inl rfl, rfl⟩) zq_wr_e ?_) (fun z g r => ⟨r.1, zy_Lg_of (p1 := 0) (gl1 := false) fJ e41 r.2⟩))
      rw [zq_wr_n (by decide), hg2, zq_wr_n (by decide), zq_wr_n (by decide), fJ 169 k (by unfold zf_Jo; omega)]
    refine zt_I (s_187s L1.2.1 ht4 60) ?_
    rintro z g ⟨rfl, rfl⟩
    by_cases w1 : zy_sg T n p gl 60 = true
    · rw [if_pos w1]
      refine zt_f (by decide) (leaf 17 ?_)
      unfold zy_cm; rw [if_pos w1]; rfl
    rw [if_neg w1]
    refine zt_t rfl (zt_I (s_187s L1.2.1 ht4 62) ?_)
    rintro z g ⟨rfl, rfl⟩
    by_cases w2 : zy_sg T n p gl 62 = true
    · rw [if_pos w2]
      refine zt_f (by decide) (leaf 18 ?_)
      unfold zy_cm; rw [if_neg w1, if_pos w2]; rfl
    rw [if_neg w2]
    refine zt_t rfl (leaf 19 ?_)
    unfold zy_cm at hs ⊢
    rw [if_neg w1, if_neg w2] at hs ⊢
    by_cases w3 : zy_sg T n p gl 61 = true
    · rw [if_pos w3]; rfl
    · rw [if_neg w3] at hs; exact absurd rfl hs
  refine s_190h hG ht4 (fun _ q => absurd am0 q) (fun _ x hx => ?_)
  rw [if_pos hk] at hx
  subst hx
  refine zt_l e_190_188 (zt_f (by decide) (zt_c (by omega) (zt_t hph (zt_I (s_187s hL.2.1 ht4 60) ?_))))
  rintro z g ⟨rfl, rfl⟩
  by_cases w1 : zy_sg T n p gl 60 = true
  · rw [if_pos w1]; exact zt_f (by decide) (run 1)
  rw [if_neg w1]
  refine zt_t rfl (zt_I (s_187s hL.2.1 ht4 62) ?_)
  rintro z g ⟨rfl, rfl⟩
  by_cases w2 : zy_sg T n p gl 62 = true
  · rw [if_pos w2]; exact zt_f (by decide) (run 1)
  rw [if_neg w2]
  refine zt_t rfl (zt_I (s_187s hL.2.1 ht4 61) ?_)
  rintro z g ⟨rfl, rfl⟩
  by_cases w3 : zy_sg T n p gl 61 = true
  · rw [if_pos w3]; exact zt_f (by decide) (run 1)
  · exfalso
    apply hs
    unfold zy_cm
    rw [if_neg w1, if_neg w2, if_neg w3]
end
