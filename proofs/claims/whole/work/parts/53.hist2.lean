/-! HISTORY of the reference -/
def zv_N (h : zm_H) (v n : Nat) (lc lk lh lo : Nat → Int) : Prop := zv_E h v (min 60 n) (zp_kp lc n) (zp_kp lk n) (zp_kp lh n) (zp_kp lo n)
def zv_M (h : zm_H) (U uf : Nat) (sl : Nat → Nat) (sP sQ sH : Nat → Nat → Int) (sh sd lc lk lh lo : Nat → Int) : Prop :=
  h 146 57 = U ∧ h 146 56 = uf ∧ U ≤ 20 ∧ uf < 20 ∧ zv_N h 0 (sl U) lc lk lh lo ∧
  (∀ i v : Nat, i < U → v = 2 + (uf + i) % 20 → zv_W h v (sP i) (sQ i) (sH i) ∧ h 174 v = sh i ∧ h 175 v = sd i ∧ zv_N h v (sl i) lc lk lh lo)
def zf_Mi (a : Nat) (i : Int) : Prop := (a = 146 ∧ (i = 56 ∨ i = 57)) ∨ ((a = 174 ∨ a = 175 ∨ a = 179) ∧ 2 ≤ i) ∨ (a = 176 ∧ 80 ≤ i) ∨ (a = 177 ∧ 16 ≤ i) ∨ (a = 178 ∧ 128 ≤ i) ∨ (180 ≤ a ∧ a ≤ 183 ∧ 120 ≤ i)
section
variable {h : zm_H} {U uf d : Nat} {sl : Nat → Nat} {sP sQ sH : Nat → Nat → Int} {sh sd lc lk lh lo : Nat → Int} {P Pu Hd : Nat → Int} {hr dp : Int}
theorem zv_W.kv {g : zm_H} {v : Nat} (hW : zv_W h v P Pu Hd) (h1 : ∀ i : Int, 40 * (v : Int) ≤ i → i < 40 * (v : Int) + 40 → g 176 i = h 176 i) (h2 : ∀ i : Int, 8 * (v : Int) ≤ i → i < 8 * (v : Int) + 8 → g 177 i = h 177 i) (h3 : ∀ i : Int, 64 * (v : Int) ≤ i → i < 64 * (v : Int) + 64 → g 178 i = h 178 i) : zv_W g v P Pu Hd := by
  obtain ⟨hv, W1, W2, W3⟩ := hW
  exact ⟨hv, fun i hi j hj => by rw [h1 j (by omega) (by omega)]; exact W1 i hi j hj, fun i hi j hj => by rw [h2 j (by omega) (by omega)]; exact W2 i hi j hj, fun i hi j hj => by rw [h3 j (by omega) (by omega)]; exact W3 i hi j hj⟩
theorem zv_E.kv {g : zm_H} {v m : Nat} {kc kk kh ko : Nat → Int} (hE : zv_E h v m kc kk kh ko) (h0 : g 179 v = h 179 v) (h1 : ∀ (a : Nat) (i : Int), 180 ≤ a → a ≤ 183 → 60 * (v : Int) ≤ i → i < 60 * (v : Int) + 60 → g a i = h a i) : zv_E g v m kc kk kh ko := by
  obtain ⟨E1, E2, E3⟩ := hE
  refine ⟨by rw [h0]; exact E1, E2, fun i hi j hj => ?_⟩
  rw [h1 180 j (by omega) (by omega) (by omega) (by omega), h1 181 j (by omega) (by omega) (by omega) (by omega), h1 182 j (by omega) (by omega) (by omega) (by omega), h1 183 j (by omega) (by omega) (by omega) (by omega)]
  exact E3 i hi j hj
theorem zv_W.ve {g : zm_H} {v w : Nat} (hW : zv_W h v P Pu Hd) (hg : zq_F (zf_Ve w) h g) (hne : v ≠ w) : zv_W g v P Pu Hd :=
  hW.kv (fun i h1 h2 => hg 176 i (by unfold zf_Ve; omega)) (fun i h1 h2 => hg 177 i (by unfold zf_Ve; omega)) (fun i h1 h2 => hg 178 i (by unfold zf_Ve; omega))
theorem zv_E.ve {g : zm_H} {v w m : Nat} {kc kk kh ko : Nat → Int} (hE : zv_E h v m kc kk kh ko) (hg : zq_F (zf_Ve w) h g) (hne : v ≠ w) : zv_E g v m kc kk kh ko :=
  hE.kv (hg 179 v (by unfold zf_Ve; omega)) (fun a i h1 h2 h3 h4 => hg a i (by unfold zf_Ve; omega))
theorem s_201 {k : Nat} (hu : h 146 56 = uf) (hu2 : uf < 20) (hk : k ≤ 20) {x : Int} (hx : x = k) : zi (zc 201 [zm_A 146, zm_I x] h) (fun z g => z = ((2 + (uf + k) % 20 : Nat) : Int) ∧ g = h) := by
  subst hx
  refine zt_l e_201 ?_
  rw [hu]
  have em : ((uf : Int) + k).tmod 20 = (((uf + k) % 20 : Nat) : Int) := by rw [zq_tmod (by omega)]; omega
  have ed : ((uf : Int) + k).tdiv 20 = ((uf : Int) + k) / 20 := zq_tdiv (by omega)
  rw [em, ed]
  exact zt_c (by omega) (zt_c (by omega) (zt_c (by omega) (zi_e ⟨by omega, rfl⟩)))
theorem s_247x (hM : zv_M h U uf sl sP sQ sH sh sd lc lk lh lo) (hW : zv_W h 0 P Pu Hd) (h0 : h 174 0 = hr) (h1 : h 175 0 = dp) : zu (zc 247 [zm_A 146] h) (fun g => zq_F zf_Mi h g ∧ zv_M g (U + 1 - zp_sft U) ((uf + zp_sft U) % 20) (zp_sl1 U sl) (zp_sx U sP P) (zp_sx U sQ Pu) (zp_sx U sH Hd) (zp_sx U sh hr) (zp_sx U sd dp) lc lk lh lo) := by
  obtain ⟨M1, M2, M3, M4, M5, M6⟩ := hM
  have hsf : zp_sft U = 0 ∧ U < 20 ∨ zp_sft U = 1 ∧ U = 20 := by unfold zp_sft; split <;> omega
  -- behind the cut: k is the slot, g0 the heap there
  have main : ∀ (uf2 k w : Nat) (g0 : zm_H), uf2 < 20 → k + zp_sft U = U → w = 2 + (uf2 + k) % 20 → (∀ i v : Nat, i + zp_sft U < U → v = 2 + (uf2 + i) % 20 → v = 2 + (uf + (i + zp_sft U)) % 20) → zq_F (fun a i => a = 146 ∧ (i = 56 ∨ i = 57)) h g0 → g0 146 56 = uf2 → g0 146 57 = k →
      zu (zk_V (zc 202 [zm_A 146, zm_I ((w : Nat) : Int), zm_I 0] g0) (fun h3 => zm_ck (zm_i32 ((h3 146 57) + 1)) (some (zm_U, (zm_wr h3 146 57 ((h3 146 57) + 1)))))) (fun g => zq_F zf_Mi h g ∧ zv_M g (U + 1 - zp_sft U) uf2 (zp_sl1 U sl) (zp_sx U sP P) (zp_sx U sQ Pu) (zp_sx U sH Hd) (zp_sx U sh hr) (zp_sx U sd dp) lc lk lh lo) := by
    intro uf2 k w g0 hu2 hk hw hold hg0 g56 g57
    have k0 : ∀ a : Nat, a ≠ 146 → g0 a = h a := fun a ha => by funext i; exact hg0 a i (fun q => ha q.1)
    have W0 : zv_W g0 0 P Pu Hd := hW.kp (fun a h1 h2 => k0 a (by omega))
    have E0 : zv_N g0 0 (sl U) lc lk lh lo := M5.kv (by rw [k0 179 (by omega)]) (fun a i h1 h2 _ _ => by rw [k0 a (by omega)])
    refine zt_V (s_202 (w := w) (v := 0) (by omega) W0 E0 (by omega) rfl rfl) ?_
    rintro g ⟨f1, W1, E1, c1, c2⟩
    have g57' : g 146 57 = k := by rw [f1 146 57 (by unfold zf_Ve; omega)]; exact g57
    rw [g57']
    have kw : ∀ a : Nat, a ≠ 146 → zm_wr g 146 57 ((k : Int) + 1) a = g a := fun a ha => by funext i; exact zq_wr_n ha
    refine zt_c (by omega) (zu_e ⟨?_, ?_, ?_, by omega, hu2, ?_, fun i v hi hv => ?_⟩)
    · refine zq_F_tr (zq_F_tr (zq_F_wk hg0 (fun a i q => Or.inl q)) (zq_F_wk f1 (fun a i q => ?_))) (zq_F_wr (Or.inl ⟨rfl, Or.inr rfl⟩))
      unfold zf_Ve at q; unfold zf_Mi; omega
    · rw [zq_wr_e]; omega
    · rw [zq_wr_i (by decide), f1 146 56 (by unfold zf_Ve; omega)]; exact g56
    · have e : zp_sl1 U sl (U + 1 - zp_sft U) = sl U := by
        unfold zp_sl1
        rw [if_neg (by omega)]
      rw [e]
      exact (E0.ve f1 (by omega)).kv (by rw [kw 179 (by omega)]) (fun a i h1 h2 _ _ => by rw [kw a (by omega)])
    · by_cases hl : i + zp_sft U < U
      · have hv2 := hold i v hl hv
        obtain ⟨r1, r2, r3, r4⟩ := M6 (i + zp_sft U) v hl hv2
        have hvw : v ≠ w := by omega
        unfold zp_sx zp_sl1
        rw [if_pos hl, if_pos hl, if_pos hl, if_pos hl, if_pos hl, if_pos (by omega)]
        have r1' : zv_W g0 v (sP (i + zp_sft U)) (sQ (i + zp_sft U)) (sH (i + zp_sft U)) := r1.kp (fun a h1 h2 => k0 a (by omega))
        have r4' : zv_N g0 v (sl (i + zp_sft U)) lc lk lh lo := r4.kv (by rw [k0 179 (by omega)]) (fun a i h1 h2 _ _ => by rw [k0 a (by omega)])
        refine ⟨(r1'.ve f1 hvw).kp (fun a h1 h2 => kw a (by omega)), ?_, ?_, (r4'.ve f1 hvw).kv (by rw [kw 179 (by omega)]) (fun a i h1 h2 _ _ => by rw [kw a (by omega)])⟩
        · rw [kw 174 (by omega), f1 174 v (by unfold zf_Ve; omega), k0 174 (by omega)]; exact r2
        · rw [kw 175 (by omega), f1 175 v (by unfold zf_Ve; omega), k0 175 (by omega)]; exact r3
      · have hik : i = k := by omega
        subst hik
        have hvw : v = w := by omega
        subst hvw
        unfold zp_sx zp_sl1
        rw [if_neg hl, if_neg hl, if_neg hl, if_neg hl, if_neg hl, if_pos (by omega), hk]
        refine ⟨W1.kp (fun a h1 h2 => kw a (by omega)), ?_, ?_, E1.kv (by rw [kw 179 (by omega)]) (fun a i h1 h2 _ _ => by rw [kw a (by omega)])⟩
        · rw [kw 174 (by omega), c1, k0 174 (by omega)]; exact h0
        · rw [kw 175 (by omega), c2, k0 175 (by omega)]; exact h1
  by_cases h20 : U = 20
  · have e1 : zp_sft U = 1 := by omega
    have eu : (uf + zp_sft U) % 20 = (uf + 1) % 20 := by rw [e1]
    rw [eu]
    refine zt_l e_247 (zt_t (by rw [M1]; omega) ?_)
    rw [M2]
    have em : ((uf : Int) + 1).tmod 20 = (((uf + 1) % 20 : Nat) : Int) := by rw [zq_tmod (by omega)]; omega
    have ed : ((uf : Int) + 1).tdiv 20 = ((uf : Int) + 1) / 20 := zq_tdiv (by omega)
    rw [em, ed]
    have w1 : zm_wr h 146 56 (((uf + 1) % 20 : Nat) : Int) 146 57 = 20 := by rw [zq_wr_i (by decide), M1]; omega
    rw [w1]
    have w2 : zm_wr (zm_wr h 146 56 (((uf + 1) % 20 : Nat) : Int)) 146 57 (20 - 1) 146 57 = 19 := by rw [zq_wr_e]; rfl
    rw [w2]
    refine zt_c (by omega) (zt_c (by omega) (zt_c (by omega) (zt_I (s_201 (uf := (uf + 1) % 20) (k := 19) (by rw [zq_wr_i (by decide), zq_wr_e]) (by omega) (by omega) rfl) ?_)))
    rintro z g ⟨rfl, rfl⟩
    refine main ((uf + 1) % 20) 19 _ _ (by omega) (by omega) rfl (fun i v hi hv => ?_) (zq_F_tr (zq_F_wr ⟨rfl, Or.inl rfl⟩) (zq_F_wr ⟨rfl, Or.inr rfl⟩)) (by rw [zq_wr_i (by decide), zq_wr_e]) (by rw [zq_wr_e]; rfl)
    rw [e1]; omega
  · have e0 : zp_sft U = 0 := by omega
    have eu : (uf + zp_sft U) % 20 = uf := by omega
    rw [eu]
    refine zt_l e_247 (zt_f (by rw [M1]; omega) ?_)
    rw [M1]
    refine zt_I (s_201 (uf := uf) (k := U) M2 M4 M3 rfl) ?_
    rintro z g ⟨rfl, rfl⟩
    refine main uf U _ _ M4 (by omega) rfl (fun i v hi hv => ?_) zq_F_rf M2 M1
    rw [e0]; exact hv
theorem s_247 (hM : zv_M h U uf sl sP sQ sH sh sd lc lk lh lo) (hW : zv_W h 0 P Pu Hd) (h0 : h 174 0 = hr) (h1 : h 175 0 = dp) : ∃ uf2, zu (zc 247 [zm_A 146] h) (fun g => zq_F zf_Mi h g ∧ zv_M g (U + 1 - zp_sft U) uf2 (zp_sl1 U sl) (zp_sx U sP P) (zp_sx U sQ Pu) (zp_sx U sH Hd) (zp_sx U sh hr) (zp_sx U sd dp) lc lk lh lo) := ⟨_, s_247x hM hW h0 h1⟩
def zf_Mr (a : Nat) (i : Int) : Prop := (a = 146 ∧ i = 57) ∨ zf_Ve 0 a i
/-- undo, where there is one -/
theorem s_200y (hM : zv_M h U uf sl sP sQ sH sh sd lc lk lh lo) (hU : 0 < U) : zi (zc 200 [zm_A 146] h) (fun z g => z = 1 ∧ zq_F zf_Mr h g ∧ zv_M g (U - 1) uf sl sP sQ sH sh sd lc lk lh lo ∧ zv_W g 0 (sP (U - 1)) (sQ (U - 1)) (sH (U - 1)) ∧ g 174 0 = sh (U - 1) ∧ g 175 0 = sd (U - 1)) := by
  obtain ⟨M1, M2, M3, M4, M5, M6⟩ := hM
  refine zt_l e_200 (zt_f (by rw [M1]; omega) ?_)
  rw [M1]
  have w1 : zm_wr h 146 57 ((U : Int) - 1) 146 57 = ((U - 1 : Nat) : Int) := by rw [zq_wr_e]; omega
  rw [w1]
  have k0 : ∀ a : Nat, a ≠ 146 → zm_wr h 146 57 ((U : Int) - 1) a = h a := fun a ha => by funext i; exact zq_wr_n ha
  refine zt_c (by omega) (zt_I (s_201 (uf := uf) (k := U - 1) (by rw [zq_wr_i (by decide)]; exact M2) M4 (by omega) rfl) ?_)
  rintro z g0 ⟨rfl, rfl⟩
  obtain ⟨r1, r2, r3, r4⟩ := M6 (U - 1) (2 + (uf + (U - 1)) % 20) (by omega) rfl
  have W0 : zv_W (zm_wr h 146 57 ((U : Int) - 1)) (2 + (uf + (U - 1)) % 20) (sP (U - 1)) (sQ (U - 1)) (sH (U - 1)) := r1.kp (fun a h1 h2 => k0 a (by omega))
  have E0 : zv_N (zm_wr h 146 57 ((U : Int) - 1)) (2 + (uf + (U - 1)) % 20) (sl (U - 1)) lc lk lh lo := r4.kv (by rw [k0 179 (by omega)]) (fun a i h1 h2 _ _ => by rw [k0 a (by omega)])
  refine zt_V (s_202 (w := 0) (by omega) W0 E0 (by omega) rfl rfl) ?_
  rintro g ⟨f1, W1, E1, c1, c2⟩
  refine zt_c (Or.inr rfl) (zi_e ⟨rfl, zq_F_tr (zq_F_wr (Or.inl ⟨rfl, rfl⟩)) (zq_F_wk f1 (fun a i q => Or.inr q)), ⟨?_, ?_, by omega, M4, E1, fun i v hi hv => ?_⟩, W1, ?_, ?_⟩)
  · rw [f1 146 57 (by unfold zf_Ve; omega), zq_wr_e]; omega
  · rw [f1 146 56 (by unfold zf_Ve; omega), zq_wr_i (by decide)]; exact M2
  · obtain ⟨p1, p2, p3, p4⟩ := M6 i v (by omega) hv
    have p1' : zv_W (zm_wr h 146 57 ((U : Int) - 1)) v (sP i) (sQ i) (sH i) := p1.kp (fun a h1 h2 => k0 a (by omega))
    have p4' : zv_N (zm_wr h 146 57 ((U : Int) - 1)) v (sl i) lc lk lh lo := p4.kv (by rw [k0 179 (by omega)]) (fun a i h1 h2 _ _ => by rw [k0 a (by omega)])
    refine ⟨p1'.ve f1 (by omega), ?_, ?_, p4'.ve f1 (by omega)⟩
    · rw [f1 174 v (by unfold zf_Ve; omega), k0 174 (by omega)]; exact p2
    · rw [f1 175 v (by unfold zf_Ve; omega), k0 175 (by omega)]; exact p3
  · exact c1.trans (by rw [k0 174 (by omega)]; exact r2)
  · exact c2.trans (by rw [k0 175 (by omega)]; exact r3)
/-- what is kept, with one more dip -/
theorem s_252 {n : Nat} (hN : zv_N h 0 n lc lk lh lo) (h0 : h 174 0 = hr) {c k co : Int} : zu (zc 252 [zm_A 146, zm_I c, zm_I k, zm_I co] h) (fun g => zq_F (fun a i => (a = 179 ∧ i = 0) ∨ (180 ≤ a ∧ a ≤ 183 ∧ 0 ≤ i ∧ i < 60)) h g ∧ zv_N g 0 (n + 1) (zp_set lc n c) (zp_set lk n k) (zp_set lh n hr) (zp_set lo n co)) := by
  obtain ⟨N1, N2, N3⟩ := hN
  -- the last write: m are there
  have last : ∀ (g : zm_H) (m : Nat) (w : zm_V), m < 60 → m ≤ n → (m = n ∨ m = 59) → zq_F (fun a i => (a = 179 ∧ i = 0) ∨ (180 ≤ a ∧ a ≤ 183 ∧ 0 ≤ i ∧ i < 60)) h g → g 179 0 = m → (∀ q : Nat, q < m → ∀ j : Int, j = q → g 180 j = lc (n - m + q) ∧ g 181 j = lk (n - m + q) ∧ g 182 j = lh (n - m + q) ∧ g 183 j = lo (n - m + q)) →
      zu (zr none 1 252 101 [zm_A 146, zm_I c, zm_I k, zm_I co, w] [] g) (fun g => zq_F (fun a i => (a = 179 ∧ i = 0) ∨ (180 ≤ a ∧ a ≤ 183 ∧ 0 ≤ i ∧ i < 60)) h g ∧ zv_N g 0 (n + 1) (zp_set lc n c) (zp_set lk n k) (zp_set lh n hr) (zp_set lo n co)) := by
    intro g m w hm hmn hmn2 hg g179 gq
    refine zt_l e_252_101 ?_
    rw [g179]
    have w1 : zm_wr (zm_wr g 180 (m : Int) c) 181 (m : Int) k 174 0 = hr := by rw [zq_wr_n (by decide), zq_wr_n (by decide), hg 174 0 (by omega)]; exact h0
    rw [w1]
    have w2 : zm_wr (zm_wr (zm_wr (zm_wr g 180 (m : Int) c) 181 (m : Int) k) 182 (m : Int) hr) 183 (m : Int) co 179 0 = (m : Int) := by rw [zq_wr_n (by decide), zq_wr_n (by decide), zq_wr_n (by decide), zq_wr_n (by decide)]; exact g179
    rw [w2]
    iterate 9 refine zt_c (by omega) ?_
    refine zu_e ⟨zq_F_tr hg (zq_F_tr (zq_F_wr (by omega)) (zq_F_tr (zq_F_wr (by omega)) (zq_F_tr (zq_F_wr (by omega)) (zq_F_tr (zq_F_wr (by omega)) (zq_F_wr (by omega)))))), ?_, by omega, fun q hq j hj => ?_⟩
    · show zm_wr _ 179 0 _ 179 0 = _
      rw [zq_wr_e]; omega
    · have hj' : j = (q : Int) := by omega
      subst hj'
      have hmin : min 60 (n + 1) = m + 1 := by omega
      rw [hmin] at hq
      unfold zp_kp zp_set
      have hidx : n + 1 - min 60 (n + 1) + q = n - m + q := by omega
      rw [hidx]
      by_cases hqm : q = m
      · subst hqm
        have hn : n - q + q = n := by omega
        rw [hn, if_pos rfl, if_pos rfl, if_pos rfl, if_pos rfl]
        refine ⟨?_, ?_, ?_, ?_⟩
        · rw [zq_wr_n (by decide), zq_wr_n (by decide), zq_wr_n (by decide), zq_wr_n (by decide), zq_wr_e]
        · rw [zq_wr_n (by decide), zq_wr_n (by decide), zq_wr_n (by decide), zq_wr_e]
        · rw [zq_wr_n (by decide), zq_wr_n (by decide), zq_wr_e]
        · rw [zq_wr_n (by decide), zq_wr_e]
      · have hn : n - m + q ≠ n := by omega
        rw [if_neg hn, if_neg hn, if_neg hn, if_neg hn]
        obtain ⟨t1, t2, t3, t4⟩ := gq q (by omega) _ rfl
        refine ⟨?_, ?_, ?_, ?_⟩
        · rw [zq_wr_n (by decide), zq_wr_n (by decide), zq_wr_n (by decide), zq_wr_n (by decide), zq_wr_i (by omega)]; exact t1
        · rw [zq_wr_n (by decide), zq_wr_n (by decide), zq_wr_n (by decide), zq_wr_i (by omega), zq_wr_n (by decide)]; exact t2
        · rw [zq_wr_n (by decide), zq_wr_n (by decide), zq_wr_i (by omega), zq_wr_n (by decide), zq_wr_n (by decide)]; exact t3
        · rw [zq_wr_n (by decide), zq_wr_i (by omega), zq_wr_n (by decide), zq_wr_n (by decide), zq_wr_n (by decide)]; exact t4
  have hN3 : ∀ (q : Nat), q < min 60 n → ∀ j : Int, j = q → h 180 j = lc (n - min 60 n + q) ∧ h 181 j = lk (n - min 60 n + q) ∧ h 182 j = lh (n - min 60 n + q) ∧ h 183 j = lo (n - min 60 n + q) := fun q hq j hj => N3 q hq j (by omega)
  have N1' : h 179 0 = ((min 60 n : Nat) : Int) := N1
  refine zt_l e_252 (zt_c (by decide) ?_)
  rw [N1']
  by_cases h60 : 60 ≤ n
  · have hmin : min 60 n = 60 := by omega
    rw [hmin] at N1' hN3 ⊢
    refine zt_t rfl ?_
    have shift : ∀ (m i : Nat) (g : zm_H), i + m = 59 → zq_F (fun a i => (a = 179 ∧ i = 0) ∨ (180 ≤ a ∧ a ≤ 183 ∧ 0 ≤ i ∧ i < 60)) h g → g 179 0 = 60 → (∀ q : Nat, q < i → ∀ j : Int, j = q → g 180 j = lc (n - 59 + q) ∧ g 181 j = lk (n - 59 + q) ∧ g 182 j = lh (n - 59 + q) ∧ g 183 j = lo (n - 59 + q)) → (∀ q : Nat, i ≤ q → q < 60 → ∀ j : Int, j = q → g 180 j = lc (n - 60 + q) ∧ g 181 j = lk (n - 60 + q) ∧ g 182 j = lh (n - 60 + q) ∧ g 183 j = lo (n - 60 + q)) →
        zu (zr none 1 252 14 [zm_A 146, zm_I c, zm_I k, zm_I co, zm_I i] [] g) (fun g => zq_F (fun a i => (a = 179 ∧ i = 0) ∨ (180 ≤ a ∧ a ≤ 183 ∧ 0 ≤ i ∧ i < 60)) h g ∧ zv_N g 0 (n + 1) (zp_set lc n c) (zp_set lk n k) (zp_set lh n hr) (zp_set lo n co)) := by
      intro m
      induction m with
      | zero =>
        intro i g hi hg g179 g1 g2
        refine zt_l e_252_14 (zt_f (by omega) ?_)
        rw [g179]
        refine zt_c (by decide) (zt_c (by decide) (zt_c (by decide) (last _ 59 _ (by omega) (by omega) (Or.inr rfl) (zq_F_tr hg (zq_F_wr (by omega))) (by rw [zq_wr_e]; rfl) (fun q hq j hj => ?_))))
        rw [zq_wr_n (by decide), zq_wr_n (by decide), zq_wr_n (by decide), zq_wr_n (by decide)]
        exact g1 q (by omega) j hj
      | succ m ih =>
        intro i g hi hg g179 g1 g2
        obtain ⟨t1, t2, t3, t4⟩ := g2 (i + 1) (by omega) (by omega) ((i : Int) + 1) (by omega)
        refine zt_l e_252_14 (zt_t (by omega) ?_)
        have r1 : ∀ x : Int, zm_wr g 180 (i : Int) x 181 ((i : Int) + 1) = lk (n - 60 + (i + 1)) := fun x => by rw [zq_wr_n (by decide)]; exact t2
        have r2 : ∀ x y : Int, zm_wr (zm_wr g 180 (i : Int) x) 181 (i : Int) y 182 ((i : Int) + 1) = lh (n - 60 + (i + 1)) := fun x y => by rw [zq_wr_n (by decide), zq_wr_n (by decide)]; exact t3
        have r3 : ∀ x y z : Int, zm_wr (zm_wr (zm_wr g 180 (i : Int) x) 181 (i : Int) y) 182 (i : Int) z 183 ((i : Int) + 1) = lo (n - 60 + (i + 1)) := fun x y z => by rw [zq_wr_n (by decide), zq_wr_n (by decide), zq_wr_n (by decide)]; exact t4
        rw [r3, r2, r1, t1]
        iterate 13 refine zt_c (by omega) ?_
        refine ih (i + 1) _ (by omega) (zq_F_tr hg (zq_F_tr (zq_F_wr (by omega)) (zq_F_tr (zq_F_wr (by omega)) (zq_F_tr (zq_F_wr (by omega)) (zq_F_wr (by omega)))))) ?_ (fun q hq j hj => ?_) (fun q hq1 hq2 j hj => ?_)
        · rw [zq_wr_n (by decide), zq_wr_n (by decide), zq_wr_n (by decide), zq_wr_n (by decide)]; exact g179
        · subst hj
          by_cases hqi : q = i
          · subst hqi
            have hn : n - 60 + (q + 1) = n - 59 + q := by omega
            rw [hn]
            refine ⟨?_, ?_, ?_, ?_⟩
            · rw [zq_wr_n (by decide), zq_wr_n (by decide), zq_wr_n (by decide), zq_wr_e]
            · rw [zq_wr_n (by decide), zq_wr_n (by decide), zq_wr_e]
            · rw [zq_wr_n (by decide), zq_wr_e]
            · rw [zq_wr_e]
          · obtain ⟨u1, u2, u3, u4⟩ := g1 q (by omega) _ rfl
            refine ⟨?_, ?_, ?_, ?_⟩
            · rw [zq_wr_n (by decide), zq_wr_n (by decide), zq_wr_n (by decide), zq_wr_i (by omega)]; exact u1
            · rw [zq_wr_n (by decide), zq_wr_n (by decide), zq_wr_i (by omega), zq_wr_n (by decide)]; exact u2
            · rw [zq_wr_n (by decide), zq_wr_i (by omega), zq_wr_n (by decide), zq_wr_n (by decide)]; exact u3
            · rw [zq_wr_i (by omega), zq_wr_n (by decide), zq_wr_n (by decide), zq_wr_n (by decide)]; exact u4
        · subst hj
          obtain ⟨u1, u2, u3, u4⟩ := g2 q (by omega) hq2 _ rfl
          refine ⟨?_, ?_, ?_, ?_⟩
          · rw [zq_wr_n (by decide), zq_wr_n (by decide), zq_wr_n (by decide), zq_wr_i (by omega)]; exact u1
          · rw [zq_wr_n (by decide), zq_wr_n (by decide), zq_wr_i (by omega), zq_wr_n (by decide)]; exact u2
          · rw [zq_wr_n (by decide), zq_wr_i (by omega), zq_wr_n (by decide), zq_wr_n (by decide)]; exact u3
          · rw [zq_wr_i (by omega), zq_wr_n (by decide), zq_wr_n (by decide), zq_wr_n (by decide)]; exact u4
    exact shift 59 0 h (by omega) zq_F_rf N1' (fun q hq => by omega) (fun q _ hq j hj => hN3 q hq j hj)
  · have hmin : min 60 n = n := by omega
    rw [hmin] at N1' hN3 ⊢
    exact zt_f (by omega) (last h n _ (by omega) (by omega) (Or.inl rfl) zq_F_rf N1' hN3)
theorem s_259 {n : Nat} (hN : zv_N h 0 n lc lk lh lo) (x y : Int) : zi (zc 259 [zm_A 146, zm_I x, zm_I y] h) (fun z g => z = zp_kept n lc lk lh lo x y ∧ g = h) := by
  obtain ⟨N1, N2, N3⟩ := hN
  have N1' : h 179 0 = ((min 60 n : Nat) : Int) := N1
  refine zt_l e_259 (zt_c (by decide) ?_)
  rw [N1']
  refine zt_c (by omega) (zt_I (s_175 x 0 _) ?_)
  rintro z g ⟨rfl, rfl⟩
  by_cases hx : 0 ≤ x ∧ x ≤ ((min 60 n : Nat) : Int) - 1
  · rw [if_pos hx]
    refine zt_f (by decide) (zt_I (s_175 y 0 3) ?_)
    rintro z g ⟨rfl, rfl⟩
    obtain ⟨k, rfl⟩ := Int.eq_ofNat_of_zero_le hx.1
    obtain ⟨t1, t2, t3, t4⟩ := N3 k (by omega) k (by omega)
    have ek : zp_kept n lc lk lh lo k y = (if y = 0 then zp_kp lc n k else if y = 1 then zp_kp lk n k else if y = 2 then zp_kp lh n k else if y = 3 then zp_kp lo n k else -1) := by
      unfold zp_kept
      rw [if_pos ⟨hx.1, by omega⟩]; rfl
    rw [ek]
    by_cases hy : 0 ≤ y ∧ y ≤ 3
    · rw [if_pos hy]
      refine zt_f (by decide) (zt_p (fun c => ?_) (fun c => ?_))
      · exact zt_c (by omega) (zi_e ⟨by rw [if_pos c]; exact t1, rfl⟩)
      refine zt_p (fun c1 => ?_) (fun c1 => ?_)
      · exact zt_c (by omega) (zi_e ⟨by rw [if_neg c, if_pos c1]; exact t2, rfl⟩)
      refine zt_p (fun c2 => ?_) (fun c2 => ?_)
      · exact zt_c (by omega) (zi_e ⟨by rw [if_neg c, if_neg c1, if_pos c2]; exact t3, rfl⟩)
      exact zt_c (by omega) (zi_e ⟨by rw [if_neg c, if_neg c1, if_neg c2, if_pos (by omega)]; exact t4, rfl⟩)
    · rw [if_neg hy]
      exact zt_t rfl (zi_e ⟨by rw [if_neg (by omega), if_neg (by omega), if_neg (by omega), if_neg (by omega)], rfl⟩)
  · rw [if_neg hx]
    exact zt_t rfl (zi_e ⟨by unfold zp_kept; rw [if_neg (by omega)], rfl⟩)
end
