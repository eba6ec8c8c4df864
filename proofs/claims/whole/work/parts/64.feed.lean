/-! FEED of both sides -/
def zp_by (x : Int) (s : Nat) : Int := x / ((2 ^ s : Nat) : Int) % 256
def zp_ad (tb : Nat → Int) (n : Nat) (x : Int) : Nat → Int := fun i => if i < n then tb i else zp_by x (24 - 8 * (i - n))
theorem zb_cb {x : Int} {s : Nat} (hs : s = 0 ∨ s = 8 ∨ s = 16 ∨ s = 24) : zb_iand (zb_iushr x s) 255 = zp_by x s := by
  rw [zb_255]
  obtain ⟨z, hz, h⟩ := zb_ushr x (s := s) (by omega)
  rw [hz]
  unfold zp_by
  rcases hs with rfl | rfl | rfl | rfl
  · have e : ((2 ^ 0 : Nat) : Int) = 1 := rfl
    rw [e] at h ⊢; omega
  · have e : ((2 ^ 8 : Nat) : Int) = 256 := rfl
    rw [e] at h ⊢; omega
  · have e : ((2 ^ 16 : Nat) : Int) = 65536 := rfl
    rw [e] at h ⊢; omega
  · have e : ((2 ^ 24 : Nat) : Int) = 16777216 := rfl
    rw [e] at h ⊢; omega
theorem zb_rb {x : Int} {s : Nat} (hx : zm_i32 x) (hs : s < 32) : zb_iand (zb_ishr x s) 255 = zp_by x s := by
  rw [zb_255, zb_shr hx hs]; rfl
theorem zp_by_b (x : Int) (s : Nat) : 0 ≤ zp_by x s ∧ zp_by x s ≤ 255 := by unfold zp_by; omega
theorem zp_ad_b {tb : Nat → Int} (h : ∀ i, 0 ≤ tb i ∧ tb i ≤ 255) (n : Nat) (x : Int) : ∀ i, 0 ≤ zp_ad tb n x i ∧ zp_ad tb n x i ≤ 255 := fun i => by
  unfold zp_ad
  split
  · exact h i
  · exact zp_by_b _ _
section
variable {h : zm_H} {n : Nat} {tb : Nat → Int}
theorem s_141 {x : Int} (hT : zv_Ta h n tb) (hn : n + 4 ≤ 1600) : zu (zc 141 [zm_A 5, zm_I x] h) (fun g => zq_F (fun a i => a = 6 ∨ (a = 5 ∧ i = 1)) h g ∧ zv_Ta g (n + 4) (zp_ad tb n x)) := by
  have key : ∀ (m k : Nat) (g : zm_H) (x2 : Int), k + m = 4 → x2 = 24 - 8 * (k : Int) → zq_F (fun a i => a = 6 ∨ (a = 5 ∧ i = 1)) h g → zv_Ta g (n + k) (zp_ad tb n x) → zu (zr none 1 141 3 [zm_A 5, zm_I x, zm_I x2] [] g) (fun g => zq_F (fun a i => a = 6 ∨ (a = 5 ∧ i = 1)) h g ∧ zv_Ta g (n + 4) (zp_ad tb n x)) := by
    intro m
    induction m with
    | zero =>
      intro k g x2 hk hx2 hg hTg
      obtain rfl : k = 4 := by omega
      exact zt_l e_141_3 (zt_t (by omega) (zu_e ⟨hg, hTg⟩))
    | succ m ih =>
      intro k g x2 hk hx2 hg hTg
      obtain ⟨t1, t2, t3⟩ := hTg
      have ex : x2 = ((24 - 8 * k : Nat) : Int) := by omega
      refine zt_l e_141_3 ?_
      rw [t1, ex, zb_cb (by omega)]
      refine zt_f (by omega) (zt_t (by omega) (zt_c (by omega) (zt_c (by omega) (zt_c (by omega) ?_))))
      refine ih (k + 1) _ _ (by omega) (by omega) (zq_F_tr hg (zq_F_tr (zq_F_wr (Or.inr ⟨rfl, rfl⟩)) (zq_F_wr (Or.inl rfl)))) ⟨?_, by omega, fun i hi => ?_⟩
      · rw [zq_wr_n (by decide), zq_wr_e]; omega
      · by_cases hin : i = n + k
        · subst hin
          rw [zq_wr_e]
          unfold zp_ad
          rw [if_neg (by omega), show n + k - n = k by omega]
        · rw [zq_wr_i (by omega), zq_wr_n (by decide)]; exact t3 i (by omega)
  refine zt_l e_141 (key 4 0 h 24 (by omega) (by omega) zq_F_rf ⟨hT.1, by omega, fun i hi => ?_⟩)
  unfold zp_ad
  rw [if_pos (by omega)]; exact hT.2.2 i (by omega)
theorem s_156 {x : Int} (hx : zm_i32 x) (hT : zv_Tb h n tb) (hn : n + 4 ≤ 1600) : zu (zc 156 [zm_A 146, zm_I x] h) (fun g => zq_F (fun a i => a = 147 ∨ (a = 146 ∧ i = 1)) h g ∧ zv_Tb g (n + 4) (zp_ad tb n x)) := by
  have key : ∀ (m k : Nat) (g : zm_H) (x2 : Int), k + m = 4 → x2 = 24 - 8 * (k : Int) → zq_F (fun a i => a = 147 ∨ (a = 146 ∧ i = 1)) h g → zv_Tb g (n + k) (zp_ad tb n x) → zu (zr none 1 156 3 [zm_A 146, zm_I x, zm_I x2] [] g) (fun g => zq_F (fun a i => a = 147 ∨ (a = 146 ∧ i = 1)) h g ∧ zv_Tb g (n + 4) (zp_ad tb n x)) := by
    intro m
    induction m with
    | zero =>
      intro k g x2 hk hx2 hg hTg
      obtain rfl : k = 4 := by omega
      exact zt_l e_156_3 (zt_t (by omega) (zu_e ⟨hg, hTg⟩))
    | succ m ih =>
      intro k g x2 hk hx2 hg hTg
      obtain ⟨t1, t2, t3⟩ := hTg
      have ex : x2 = ((24 - 8 * k : Nat) : Int) := by omega
      refine zt_l e_156_3 ?_
      rw [t1, ex, zb_rb hx (by omega)]
      have e1 : ∀ v, zm_wr g 147 ((n + k : Nat) : Int) v 146 1 = ((n + k : Nat) : Int) := fun v => by rw [zq_wr_n (by decide)]; exact t1
      rw [e1]
      refine zt_f (by omega) (zt_c (by omega) (zt_c (by omega) (zt_c (by omega) ?_)))
      refine ih (k + 1) _ _ (by omega) (by omega) (zq_F_tr hg (zq_F_tr (zq_F_wr (Or.inl rfl)) (zq_F_wr (Or.inr ⟨rfl, rfl⟩)))) ⟨?_, by omega, fun i hi => ?_⟩
      · rw [zq_wr_e]; omega
      · rw [zq_wr_n (by decide)]
        by_cases hin : i = n + k
        · subst hin
          rw [zq_wr_e]
          unfold zp_ad
          rw [if_neg (by omega), show n + k - n = k by omega]
        · rw [zq_wr_i (by omega)]; exact t3 i (by omega)
  refine zt_l e_156 (key 4 0 h 24 (by omega) (by omega) zq_F_rf ⟨hT.1, by omega, fun i hi => ?_⟩)
  unfold zp_ad
  rw [if_pos (by omega)]; exact hT.2.2 i (by omega)
def zp_fed (tb : Nat → Int) (n : Nat) (a b c d e : Int) : Nat → Int := zp_ad (zp_ad (zp_ad (zp_ad (zp_ad tb n a) (n + 4) b) (n + 8) c) (n + 12) d) (n + 16) e
theorem s_1y {a b c d e : Int} (hT : zv_Ta h n tb) (hn : n + 20 ≤ 1600) : zi (zc 1 [zm_A 4, zm_I a, zm_I b, zm_I c, zm_I d, zm_I e] h) (fun z g => z = ((n + 20 : Nat) : Int) ∧ zq_F (fun a i => a = 6 ∨ (a = 5 ∧ i = 1)) h g ∧ zv_Ta g (n + 20) (zp_fed tb n a b c d e)) := by
  refine zt_l e_1 ?_
  rw [hT.1]
  refine zt_c (by omega) (zt_t (by omega) (zt_V (s_141 hT (by omega)) ?_))
  rintro g1 ⟨f1, T1⟩
  refine zt_V (s_141 T1 (by omega)) ?_
  rintro g2 ⟨f2, T2⟩
  refine zt_V (s_141 T2 (by omega)) ?_
  rintro g3 ⟨f3, T3⟩
  refine zt_V (s_141 T3 (by omega)) ?_
  rintro g4 ⟨f4, T4⟩
  refine zt_V (s_141 T4 (by omega)) ?_
  rintro g5 ⟨f5, T5⟩
  exact zi_e ⟨T5.1, zq_F_tr f1 (zq_F_tr f2 (zq_F_tr f3 (zq_F_tr f4 f5))), T5⟩
theorem s_1n {a b c d e m : Int} (hT : zv_Ta h n tb) (hq : ¬ n + 20 ≤ 1600) (hn : h 145 0 = m) (hb : 0 ≤ m ∧ m ≤ 1000000) : zi (zc 1 [zm_A 4, zm_I a, zm_I b, zm_I c, zm_I d, zm_I e] h) (fun z g => z = -1 ∧ g = zm_wr h 145 0 (m + 1)) := by
  have := hT.2.1
  refine zt_l e_1 ?_
  rw [hT.1]
  exact zt_c (by omega) (zt_f (by omega) (zt_cn (w := 0) (by decide) hn hb))
theorem s_154y {a b c d e : Int} (ha : zm_i32 a) (hb : zm_i32 b) (hc : zm_i32 c) (hd : zm_i32 d) (he : zm_i32 e) (hT : zv_Tb h n tb) (hn : n + 20 ≤ 1600) : zi (zc 154 [zm_A 146, zm_I a, zm_I b, zm_I c, zm_I d, zm_I e] h) (fun z g => z = ((n + 20 : Nat) : Int) ∧ zq_F (fun a i => a = 147 ∨ (a = 146 ∧ i = 1)) h g ∧ zv_Tb g (n + 20) (zp_fed tb n a b c d e)) := by
  refine zt_l e_154 ?_
  rw [hT.1]
  refine zt_c (by omega) (zt_t (by omega) (zt_V (s_156 ha hT (by omega)) ?_))
  rintro g1 ⟨f1, T1⟩
  refine zt_V (s_156 hb T1 (by omega)) ?_
  rintro g2 ⟨f2, T2⟩
  refine zt_V (s_156 hc T2 (by omega)) ?_
  rintro g3 ⟨f3, T3⟩
  refine zt_V (s_156 hd T3 (by omega)) ?_
  rintro g4 ⟨f4, T4⟩
  refine zt_V (s_156 he T4 (by omega)) ?_
  rintro g5 ⟨f5, T5⟩
  exact zi_e ⟨T5.1, zq_F_tr f1 (zq_F_tr f2 (zq_F_tr f3 (zq_F_tr f4 f5))), T5⟩
theorem s_154n {a b c d e m : Int} (hT : zv_Tb h n tb) (hq : ¬ n + 20 ≤ 1600) (hn : h 173 0 = m) (hb : 0 ≤ m ∧ m ≤ 1000000) : zi (zc 154 [zm_A 146, zm_I a, zm_I b, zm_I c, zm_I d, zm_I e] h) (fun z g => z = -1 ∧ g = zm_wr h 173 0 (m + 1)) := by
  have := hT.2.1
  refine zt_l e_154 ?_
  rw [hT.1]
  exact zt_c (by omega) (zt_f (by omega) (zt_rn (w := 0) (by decide) hn hb))
end
/-! IMAGE of both sides: what is written, byte by byte -/
def zp_ad1 (im : Nat → Int) (n : Nat) (v : Int) : Nat → Int := zp_set im n (v % 256)
def zp_ad2 (im : Nat → Int) (n : Nat) (v : Int) : Nat → Int := zp_ad1 (zp_ad1 im n (v / 256)) (n + 1) v
def zp_adn (f : Nat → Int) : Nat → (Nat → Int) → Nat → (Nat → Int)
  | 0, im, _ => im
  | k + 1, im, n => zp_ad1 (zp_adn f k im n) (n + k) (f k)
def zp_ad2n (f : Nat → Int) : Nat → (Nat → Int) → Nat → (Nat → Int)
  | 0, im, _ => im
  | k + 1, im, n => zp_ad2 (zp_ad2n f k im n) (n + 2 * k) (f k)
/-- the layers' parcels; the children's purses and what they have -/
def zp_iml (K : Nat) (P : Nat → Int) : Nat → (Nat → Int) → Nat → (Nat → Int)
  | 0, im, _ => im
  | l + 1, im, n => zp_adn (fun k => P (8 * l + k)) K (zp_iml K P l im n) (n + l * K)
def zp_imc (K : Nat) (Pu Hd : Nat → Int) : Nat → (Nat → Int) → Nat → (Nat → Int)
  | 0, im, _ => im
  | c + 1, im, n => zp_ad2n (fun k => Hd (8 * c + k)) K (zp_ad2 (zp_imc K Pu Hd c im n) (n + c * (2 + 2 * K)) (Pu c)) (n + c * (2 + 2 * K) + 2)
def zp_chk (im : Nat → Int) : Nat → Int
  | 0 => 109
  | n + 1 => (5 * zp_chk im n + im n) % 251
def zp_im0 (K L C : Nat) (P Pu Hd : Nat → Int) (hr dp : Int) : Nat → Int := zp_imc K Pu Hd C (zp_iml K P L (zp_ad2 (zp_ad1 (fun _ => 0) 0 hr) 1 dp) 3) (3 + L * K)
def zp_imn (K L C : Nat) : Nat := 3 + L * K + C * (2 + 2 * K)
def zp_img (K L C : Nat) (P Pu Hd : Nat → Int) (hr dp : Int) : Nat → Int := zp_ad1 (zp_im0 K L C P Pu Hd hr dp) (zp_imn K L C) (zp_chk (zp_im0 K L C P Pu Hd hr dp) (zp_imn K L C))
theorem zp_chk_b (im : Nat → Int) (n : Nat) : 0 ≤ zp_chk im n ∧ zp_chk im n ≤ 250 := by
  cases n with
  | zero => exact ⟨(by decide : (0 : Int) ≤ 109), (by decide : (109 : Int) ≤ 250)⟩
  | succ n => unfold zp_chk; omega
theorem zp_chk_c {f g : Nat → Int} : ∀ n, (∀ i, i < n → f i = g i) → zp_chk f n = zp_chk g n := by
  intro n
  induction n with
  | zero => intro _; rfl
  | succ n ih => intro h; simp only [zp_chk]; rw [ih (fun i hi => h i (by omega)), h n (by omega)]
theorem zp_imn_b {K L C : Nat} (hK : K ≤ 8) (hL : L ≤ 5) (hC : C ≤ 8) : L * K ≤ 40 ∧ C * (2 + 2 * K) ≤ 144 ∧ (∀ l, l ≤ L → l * K ≤ L * K) ∧ (∀ c, c ≤ C → c * (2 + 2 * K) ≤ C * (2 + 2 * K)) ∧ (∀ l, l < L → l * K + K ≤ L * K) ∧ (∀ c, c < C → c * (2 + 2 * K) + (2 + 2 * K) ≤ C * (2 + 2 * K)) := by
  refine ⟨Nat.le_trans (Nat.mul_le_mul hL hK) (by decide), Nat.le_trans (Nat.mul_le_mul hC (show 2 + 2 * K ≤ 18 by omega)) (by decide), fun l hl => Nat.mul_le_mul_right _ hl, fun c hc => Nat.mul_le_mul_right _ hc, fun l hl => ?_, fun c hc => ?_⟩
  · have := Nat.mul_le_mul_right K (show l + 1 ≤ L from hl)
    rwa [Nat.succ_mul] at this
  · have := Nat.mul_le_mul_right (2 + 2 * K) (show c + 1 ≤ C from hc)
    rwa [Nat.succ_mul] at this
/-- the picture of an image's first n bytes -/
def zv_O (h : zm_H) (n : Nat) (im : Nat → Int) : Prop := h 139 1 = n ∧ ∀ i : Nat, i < n → h 140 i = im i
def zv_Q (h : zm_H) (n : Nat) (im : Nat → Int) : Prop := h 146 77 = n ∧ ∀ i : Nat, i < n → h 193 i = im i
def zf_O (a : Nat) (i : Int) : Prop := (a = 139 ∧ i = 1) ∨ a = 140
def zf_Q (a : Nat) (i : Int) : Prop := (a = 146 ∧ i = 77) ∨ a = 193
section
variable {h : zm_H} {n : Nat} {im : Nat → Int}
theorem s_105 {v : Int} (hO : zv_O h n im) (hn : n < 188) : zu (zc 105 [zm_A 139, zm_I v] h) (fun g => zq_F zf_O h g ∧ zv_O g (n + 1) (zp_ad1 im n v)) := by
  refine zt_l e_105 ?_
  rw [hO.1, zb_255]
  refine zt_t (by omega) (zt_c (by omega) (zt_c (by omega) (zu_e ⟨zq_F_tr (zq_F_wr (Or.inl ⟨rfl, rfl⟩)) (zq_F_wr (Or.inr rfl)), ?_, fun i hi => ?_⟩)))
  · rw [zq_wr_n (by decide), zq_wr_e]; omega
  · unfold zp_ad1 zp_set
    by_cases hin : i = n
    · subst hin; rw [zq_wr_e, if_pos rfl]
    · rw [zq_wr_i (by omega), zq_wr_n (by decide), if_neg hin]; exact hO.2 i (by omega)
theorem s_106 {v : Int} (hv : zm_i32 v) (hO : zv_O h n im) (hn : n + 1 < 188) : zu (zc 106 [zm_A 139, zm_I v] h) (fun g => zq_F zf_O h g ∧ zv_O g (n + 2) (zp_ad2 im n v)) := by
  refine zt_l e_106 ?_
  have e : zb_ishr v 8 = v / 256 := zb_shr (s := 8) hv (by decide)
  rw [e]
  refine zt_V (s_105 hO (by omega)) ?_
  rintro g1 ⟨f1, O1⟩
  refine zt_V (s_105 O1 (by omega)) ?_
  rintro g2 ⟨f2, O2⟩
  exact zu_e ⟨zq_F_tr f1 f2, O2⟩
theorem s_269 {v : Int} (hO : zv_Q h n im) (hn : n < 188) : zu (zc 269 [zm_A 146, zm_I v] h) (fun g => zq_F zf_Q h g ∧ zv_Q g (n + 1) (zp_ad1 im n v)) := by
  refine zt_l e_269 ?_
  rw [hO.1, zb_255]
  have e1 : ∀ w, zm_wr h 193 (n : Int) w 146 77 = n := fun w => by rw [zq_wr_n (by decide)]; exact hO.1
  rw [e1]
  refine zt_c (by omega) (zt_c (by omega) (zu_e ⟨zq_F_tr (zq_F_wr (Or.inr rfl)) (zq_F_wr (Or.inl ⟨rfl, rfl⟩)), ?_, fun i hi => ?_⟩))
  · rw [zq_wr_e]; omega
  · rw [zq_wr_n (by decide)]
    unfold zp_ad1 zp_set
    by_cases hin : i = n
    · subst hin; rw [zq_wr_e, if_pos rfl]
    · rw [zq_wr_i (by omega), if_neg hin]; exact hO.2 i (by omega)
theorem s_270 {v : Int} (hv : zm_i32 v) (hO : zv_Q h n im) (hn : n + 1 < 188) : zu (zc 270 [zm_A 146, zm_I v] h) (fun g => zq_F zf_Q h g ∧ zv_Q g (n + 2) (zp_ad2 im n v)) := by
  refine zt_l e_270 ?_
  have e : zb_ishr v 8 = v / 256 := zb_shr (s := 8) hv (by decide)
  rw [e]
  refine zt_V (s_269 hO (by omega)) ?_
  rintro g1 ⟨f1, O1⟩
  refine zt_V (s_269 O1 (by omega)) ?_
  rintro g2 ⟨f2, O2⟩
  exact zu_e ⟨zq_F_tr f1 f2, O2⟩
end
