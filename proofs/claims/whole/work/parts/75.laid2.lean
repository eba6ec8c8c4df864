/-! LAID: the class -/
/-- best order, first of the best -/
def zp_bst (f : List Nat → Int) (L : Nat) : Int × List Nat := (zp_pl L).foldl (zp_stp f) (-1, [])
def zp_laid (f : Nat → List Nat → Int) (L : Nat) (P : Nat → Int) (y : Int) (c : Nat) : Int := if y ≠ -1 ∧ ¬ (0 ≤ y ∧ y < L) then -1 else if zp_left P = 0 then -1 else if y = -1 then (zp_bst (f c) L).1 else (zp_lo (zp_bst (f c) L).2 y.toNat : Nat)
theorem zp_stp_1 {f : List Nat → Int} {s : Int × List Nat} {l : List Nat} (h : s.1 < f l) : zp_stp f s l = (f l, l) := if_pos h
theorem zp_stp_0 {f : List Nat → Int} {s : Int × List Nat} {l : List Nat} (h : f l ≤ s.1) : zp_stp f s l = s := if_neg (by omega)
theorem zp_stp_ge {f : List Nat → Int} {s : Int × List Nat} {l : List Nat} : s.1 ≤ (zp_stp f s l).1 ∧ f l ≤ (zp_stp f s l).1 := by
  unfold zp_stp
  split
  · next h => exact ⟨by show s.1 ≤ f l; omega, Int.le_refl _⟩
  · omega
theorem zp_bst_0 {f : List Nat → Int} {L : Nat} (hf : ∀ l, zp_okl L l = true → 0 ≤ f l) (h1 : 1 ≤ L) (h5 : L ≤ 5) : 0 ≤ (zp_bst f L).1 := by
  unfold zp_bst
  have h := zp_pl_ok h1 h5
  have hm : ∀ (r : List (List Nat)) (s : Int × List Nat), s.1 ≤ (r.foldl (zp_stp f) s).1 := by
    intro r
    induction r with
    | nil => intro s; exact Int.le_refl _
    | cons l r ih =>
      intro s
      have := ih (zp_stp f s l)
      have := (zp_stp_ge (f := f) (s := s) (l := l)).1
      rw [List.foldl_cons]; omega
  cases hp : zp_pl L with
  | nil => rw [hp] at h; cases h
  | cons l r =>
    rw [List.foldl_cons]
    have h2 := hm r (zp_stp f (-1, []) l)
    have h3 := (zp_stp_ge (f := f) (s := ((-1 : Int), ([] : List Nat))) (l := l)).2
    have h4 := hf l (zp_pl_all h1 h5 (by rw [hp]; exact List.mem_cons_self))
    omega
section
variable {h : zm_H} {t b K L C : Nat} {wo sz re fe ru : Nat → Int} {lk : Nat → Nat → Int} {P Pu Qu Hd : Nat → Int} {hr dp : Int}
theorem zp_meo_0 (hB : zv_B K L C wo sz re fe ru lk) (hP : zv_P K L P) (hl : zp_left P ≠ 0) {c : Nat} (hc : c < C) {q : List Nat} (hq : zp_okl L q = true) : 0 ≤ zp_meo K L sz re fe ru lk P c q := by
  have bc := zp_cn_b (re := re) hB hP (zp_okl_b hq).1 c
  have bt := zp_tot_b bc
  have bT := zp_T_b hB hc
  have hw : ∀ j, j < 8 → 0 ≤ zp_wv K lk c j ∧ zp_wv K lk c j ≤ 99 := fun j hj => by
    unfold zp_wv
    split
    · exact hB.2.2.2.2.2 c j hc (by assumption)
    · omega
  have bw := zp_wo_b (ke := zp_ke K sz ru lk c) (Nat.le_refl 8) bc hw bT.2.2
  have bm := zp_pw_b bt.1 bt.2 (zp_T fe c)
  have bm2 := zp_pw_m bT.2.2
  have hpos := zp_cn_pos hB hP hl hq hc
  have hp := zp_pw_pos (b := zq_S 8 (zp_cn L re P (zp_lo q) c)) (by omega) (zp_T fe c)
  have b3 := zp_th_b bw.1 (show 0 < zp_pw (zq_S 8 (zp_cn L re P (zp_lo q) c)) (zp_T fe c) by omega) bw.2 (by omega)
  show 0 ≤ zp_th (zp_wo _ _ _ _) _
  have e : zp_th (zp_wo (zp_ke K sz ru lk c) (zp_cn L re P (zp_lo q) c) (zp_wv K lk c) (zp_T fe c)) (zp_pw (zq_S 8 (zp_cn L re P (zp_lo q) c)) (zp_T fe c)) = zp_wo (zp_ke K sz ru lk c) (zp_cn L re P (zp_lo q) c) (zp_wv K lk c) (zp_T fe c) / zp_pw (zq_S 8 (zp_cn L re P (zp_lo q) c)) (zp_T fe c) * 1000 + zp_wo (zp_ke K sz ru lk c) (zp_cn L re P (zp_lo q) c) (zp_wv K lk c) (zp_T fe c) % zp_pw (zq_S 8 (zp_cn L re P (zp_lo q) c)) (zp_T fe c) * 1000 / zp_pw (zq_S 8 (zp_cn L re P (zp_lo q) c)) (zp_T fe c) := rfl
  rw [e]
  have b4 : 0 ≤ zp_wo (zp_ke K sz ru lk c) (zp_cn L re P (zp_lo q) c) (zp_wv K lk c) (zp_T fe c) / zp_pw (zq_S 8 (zp_cn L re P (zp_lo q) c)) (zp_T fe c) := b3.1
  have b5 : 0 ≤ zp_wo (zp_ke K sz ru lk c) (zp_cn L re P (zp_lo q) c) (zp_wv K lk c) (zp_T fe c) % zp_pw (zq_S 8 (zp_cn L re P (zp_lo q) c)) (zp_T fe c) * 1000 / zp_pw (zq_S 8 (zp_cn L re P (zp_lo q) c)) (zp_T fe c) := b3.2.2.2.2.1
  omega
theorem s_56 {c : Nat} (hC : zv_C h t K L C wo sz re fe ru lk P Pu Hd hr dp) (hB : zv_B K L C wo sz re fe ru lk) (hX : zv_X K L C P Pu Hd hr dp) (hc : c < C) (hl : zp_left P ≠ 0) (hL : 1 ≤ L) : zu (zc 56 [zm_A 132, zm_A t, zm_A 32, zm_A 128, zm_I c] h) (fun g => zq_F zf_Cs h g ∧ g 132 2 = (zp_bst (zp_meo K L sz re fe ru lk P c) L).1 ∧ ∀ p : Nat, p < 5 → g 134 p = zp_lo (zp_bst (zp_meo K L sz re fe ru lk P c) L).2 p) := by
  have hL5 := hB.2.1
  have ht := hC.2.1.1
  have htb := zf_F_ne ht
  have hTT := hC.2.2.1
  have hf : ∀ l, zp_okl L l = true → 0 ≤ zp_meo K L sz re fe ru lk P c l := fun l q => zp_meo_0 hB hX.1 hl hc q
  have hbs := zp_bst_0 hf hL hL5
  have one : ∀ (F : Int × List Nat → Int × List Nat) (l : List Nat) (i : Nat), i < 120 → zp_okl L l = true → (∀ (s : Int × List Nat) (g : zm_H) (w6 w7 : zm_V), zq_F zf_Cs h g → g 132 2 = s.1 → (s.1 ≠ -1 → ∀ p : Nat, p < 5 → g 134 p = zp_lo s.2 p) → (∀ p : Nat, p < 5 → g 133 p = zp_lo l p) → -1 ≤ s.1 → zu (zk_I (zc 57 [zm_A 132, zm_I (g t 2)] g) (fun v8 h9 => if v8 = 0 then (some (zm_U, h9)) else (zm_ck (zm_i32 ((i : Int) + 1)) (zr none 4 56 32 [zm_A 132, zm_A t, zm_A 32, zm_A 128, zm_I c, zm_I ((i : Int) + 1), w6, w7] [] h9)))) (fun g => zq_F zf_Cs h g ∧ g 132 2 = (F s).1 ∧ ((F s).1 ≠ -1 → ∀ p : Nat, p < 5 → g 134 p = zp_lo (F s).2 p))) → ∀ (s : Int × List Nat) (g : zm_H) (w6 w7 : zm_V), zq_F zf_Cs h g → g 132 2 = s.1 → (s.1 ≠ -1 → ∀ p : Nat, p < 5 → g 134 p = zp_lo s.2 p) → (∀ p : Nat, p < 5 → g 133 p = zp_lo l p) → -1 ≤ s.1 → zu (zr none 4 56 32 [zm_A 132, zm_A t, zm_A 32, zm_A 128, zm_I c, zm_I i, w6, w7] [] g) (fun g => zq_F zf_Cs h g ∧ g 132 2 = (F (zp_stp (zp_meo K L sz re fe ru lk P c) s l)).1 ∧ ((F (zp_stp (zp_meo K L sz re fe ru lk P c) s l)).1 ≠ -1 → ∀ p : Nat, p < 5 → g 134 p = zp_lo (F (zp_stp (zp_meo K L sz re fe ru lk P c) s l)).2 p)) := by
    intro F l i hi hok adv s g w6 w7 fg h1 h2 h3 hs1
    have hCg := hC.kp fg
    have ho := (zp_okl_b hok).1
    have hf0 := hf l hok
    refine zt_l (e_56_32 zf_T_32 ht) (zt_t (by omega) (zt_V (s_113_133 ho hB hCg.2.1 hCg.2.2.1 hX.1.1 h3 hc) ?_))
    rintro g2 ⟨f2, r2⟩
    obtain ⟨-, -, r6, r3, r4⟩ := r2
    have bc := zp_cn_b (re := re) hB hX.1 ho c
    have bt := zp_tot_b bc
    have bT := zp_T_b hB hc
    have hw : ∀ j, j < 8 → 0 ≤ zp_wv K lk c j ∧ zp_wv K lk c j ≤ 99 := fun j hj => by
      unfold zp_wv
      split
      · exact hB.2.2.2.2.2 c j hc (by assumption)
      · omega
    have bw := zp_wo_b (ke := zp_ke K sz ru lk c) (Nat.le_refl 8) bc hw bT.2.2
    have bm := zp_pw_b bt.1 bt.2 (zp_T fe c)
    have bm2 := zp_pw_m bT.2.2
    have hpos := zp_cn_pos hB hX.1 hl hok hc
    have hp := zp_pw_pos (b := zq_S 8 (zp_cn L re P (zp_lo l) c)) (by omega) (zp_T fe c)
    rw [← bT.1] at r6
    refine zt_L (s_117 bT.2 r6 (cn := zp_cn L re P (zp_lo l) c) (ke := zp_ke K sz ru lk c) (wv := zp_wv K lk c) (fun j hj => (r4 j hj).1) (fun j hj => (r4 j hj).2.2) (fun j hj => (r4 j hj).2.1) bc hw) ?_
    rintro z g ⟨rfl, rfl⟩
    refine zt_L (s_116 bT.2 r6 (cn := zp_cn L re P (zp_lo l) c) r3 bc) ?_
    rintro z g ⟨rfl, rfl⟩
    refine zt_I (s_21 bw.1 (by omega) bw.2 (by omega)) ?_
    rintro z g ⟨hz, rfl⟩
    have hz' : z = zp_meo K L sz re fe ru lk P c l := hz
    subst hz'
    have kk : ∀ (a : Nat) (j : Int), 132 ≤ a → g a j = _ := fun a j ha => f2 a j (by unfold zf_Rs; omega)
    have fg2 := zq_F_tr fg (zf_Rs_Cs f2)
    rw [kk 132 2 (by decide), h1]
    have h1' := (kk 132 2 (by decide)).trans h1
    have h2' : s.1 ≠ -1 → ∀ p : Nat, p < 5 → g 134 p = zp_lo s.2 p := fun q p hp => (kk 134 p (by decide)).trans (h2 q p hp)
    have h3' : ∀ p : Nat, p < 5 → g 133 p = zp_lo l p := fun p hp => (kk 133 p (by decide)).trans (h3 p hp)
    refine zt_p (fun q => ?_) (fun q => ?_)
    · rw [zp_stp_0 q]
      exact adv s g _ _ fg2 h1' h2' h3' hs1
    · rw [zp_stp_1 (by omega : s.1 < zp_meo K L sz re fe ru lk P c l)]
      have copy : ∀ (m p : Nat) (k : zm_H), p + m = 5 → zq_F zf_Cs h k → k 132 2 = zp_meo K L sz re fe ru lk P c l → (∀ j : Nat, j < p → k 134 j = zp_lo l j) → (∀ j : Nat, j < 5 → k 133 j = zp_lo l j) → zu (zr none 4 56 82 [zm_A 132, zm_A t, zm_A 32, zm_A 128, zm_I c, zm_I i, zm_I (zp_meo K L sz re fe ru lk P c l), zm_I p] [] k) (fun g => zq_F zf_Cs h g ∧ g 132 2 = (F (zp_meo K L sz re fe ru lk P c l, l)).1 ∧ ((F (zp_meo K L sz re fe ru lk P c l, l)).1 ≠ -1 → ∀ p : Nat, p < 5 → g 134 p = zp_lo (F (zp_meo K L sz re fe ru lk P c l, l)).2 p)) := by
        intro m
        induction m with
        | zero =>
          intro p k hp fk k1 k2 k3
          refine zt_l (e_56_82 zf_T_32 ht (zm_cat_I _)) (zt_f (by omega) ?_)
          exact adv (zp_meo K L sz re fe ru lk P c l, l) k _ _ fk k1 (fun _ j hj => k2 j (by omega)) k3 (show -1 ≤ zp_meo K L sz re fe ru lk P c l by omega)
        | succ m ihm =>
          intro p k hp fk k1 k2 k3
          refine zt_l (e_56_82 zf_T_32 ht (zm_cat_I _)) ?_
          rw [show (p : Int) + 1 = ((p + 1 : Nat) : Int) by omega]
          refine zt_t (by omega) (zt_c (by omega) (zt_c (by omega) (zt_c (by omega) (ihm (p + 1) _ (by omega) (zq_F_tr fk (zq_F_wr (by unfold zf_Cs; omega))) (by rw [zq_wr_n (by decide)]; exact k1) (fun j hj => ?_) (fun j hj => by rw [zq_wr_n (by decide)]; exact k3 j hj)))))
          by_cases hjp : j = p
          · subst hjp; rw [zq_wr_e]; exact k3 j (by omega)
          · rw [zq_wr_i (by omega)]; exact k2 j (by omega)
      exact copy 5 0 _ (by omega) (zq_F_tr fg2 (zq_F_wr (by unfold zf_Cs; omega))) zq_wr_e (fun j hj => absurd hj (Nat.not_lt_zero _)) (fun j hj => by rw [zq_wr_n (by decide)]; exact h3' j hj)
  -- one order after another
  have key : ∀ (r : List (List Nat)) (l : List Nat) (i : Nat) (s : Int × List Nat) (g : zm_H) (w6 w7 : zm_V), i + r.length < 120 → zp_chn L r l = true → zq_F zf_Cs h g → g 132 2 = s.1 → (s.1 ≠ -1 → ∀ p : Nat, p < 5 → g 134 p = zp_lo s.2 p) → (∀ p : Nat, p < 5 → g 133 p = zp_lo l p) → -1 ≤ s.1 → zu (zr none 4 56 32 [zm_A 132, zm_A t, zm_A 32, zm_A 128, zm_I c, zm_I i, w6, w7] [] g) (fun g => zq_F zf_Cs h g ∧ g 132 2 = ((l :: r).foldl (zp_stp (zp_meo K L sz re fe ru lk P c)) s).1 ∧ (((l :: r).foldl (zp_stp (zp_meo K L sz re fe ru lk P c)) s).1 ≠ -1 → ∀ p : Nat, p < 5 → g 134 p = zp_lo ((l :: r).foldl (zp_stp (zp_meo K L sz re fe ru lk P c)) s).2 p)) := by
    intro r
    induction r with
    | nil =>
      intro l i s g w6 w7 hi hch fg h1 h2 h3 hs1
      unfold zp_chn at hch
      rw [Bool.and_eq_true] at hch
      refine one (fun s => s) l i (by have : ([] : List (List Nat)).length = 0 := rfl; omega) hch.1 (fun s g w6 w7 fg h1 h2 h3 hs1 => ?_) s g w6 w7 fg h1 h2 h3 hs1
      rw [(hC.kp fg).2.1.2.2.1]
      refine zt_I (s_57 ⟨hL, hL5⟩ h3) ?_
      rintro z k ⟨fk, q⟩
      have fk' : zq_F zf_Cs g k := zq_F_wk fk (fun a i q => by unfold zf_Cs; omega)
      rcases q with ⟨rfl, hn⟩ | ⟨rfl, o2, hn, -⟩
      · exact zt_t rfl (zu_e ⟨zq_F_tr fg fk', by rw [fk 132 2 (by omega)]; exact h1, fun q p hp => by rw [fk 134 p (by omega)]; exact h2 q p hp⟩)
      · rw [hn] at hch; cases hch.2
    | cons l' r ih =>
      intro l i s g w6 w7 hi hch fg h1 h2 h3 hs1
      unfold zp_chn at hch
      rw [Bool.and_eq_true, Bool.and_eq_true] at hch
      have hlen : (l' :: r).length = r.length + 1 := rfl
      refine one (fun s => (l' :: r).foldl (zp_stp (zp_meo K L sz re fe ru lk P c)) s) l i (by omega) hch.1 (fun s g w6 w7 fg h1 h2 h3 hs1 => ?_) s g w6 w7 fg h1 h2 h3 hs1
      rw [(hC.kp fg).2.1.2.2.1]
      refine zt_I (s_57 ⟨hL, hL5⟩ h3) ?_
      rintro z k ⟨fk, q⟩
      have fk' : zq_F zf_Cs g k := zq_F_wk fk (fun a i q => by unfold zf_Cs; omega)
      have hsm := hch.2.1
      rcases q with ⟨rfl, hn⟩ | ⟨rfl, o2, hn, ho2⟩
      · rw [hn] at hsm
        have := List.all_eq_true.mp hsm 0 (by decide)
        cases this
      · rw [hn] at hsm
        refine zt_f (by decide) (zt_c (by omega) ?_)
        rw [show (i : Int) + 1 = ((i + 1 : Nat) : Int) by omega]
        refine ih l' (i + 1) s k _ _ (by omega) hch.2.2 (zq_F_tr fg fk') (by rw [fk 132 2 (by omega)]; exact h1) (fun q p hp => by rw [fk 134 p (by omega)]; exact h2 q p hp) (fun p hp => ?_) hs1
        rw [ho2 p hp]
        have := List.all_eq_true.mp hsm p (List.mem_range.mpr hp)
        have h5 : (o2 p == zp_lo l' p) = true := this
        rw [eq_of_beq h5]
  have hpl := zp_pl_ok hL hL5
  have idl : ∀ (m p : Nat) (g : zm_H) (w6 w7 : zm_V), p + m = 5 → zq_F zf_Cs h g → g 132 2 = -1 → (∀ j : Nat, j < p → g 133 j = j) → zu (zr none 4 56 8 [zm_A 132, zm_A t, zm_A 32, zm_A 128, zm_I c, zm_I p, w6, w7] [] g) (fun g => zq_F zf_Cs h g ∧ g 132 2 = (zp_bst (zp_meo K L sz re fe ru lk P c) L).1 ∧ ∀ p : Nat, p < 5 → g 134 p = zp_lo (zp_bst (zp_meo K L sz re fe ru lk P c) L).2 p) := by
    intro m
    induction m with
    | zero =>
      intro p g w6 w7 hp fg h1 h3
      refine zt_l (e_56_8 zf_T_32 ht) (zt_f (by omega) ?_)
      unfold zp_bst at hbs ⊢
      cases hpp : zp_pl L with
      | nil => rw [hpp] at hpl; cases hpl
      | cons l r =>
        rw [hpp] at hpl hbs
        unfold zp_plok at hpl
        rw [Bool.and_eq_true, Bool.and_eq_true] at hpl
        have hlr : l = List.range L := eq_of_beq hpl.1
        have hlen : r.length < 120 := of_decide_eq_true hpl.2.1
        refine zu_m (key r l 0 (-1, []) g _ _ (by omega) hpl.2.2 fg h1 (fun q => absurd rfl q) (fun j hj => ?_) (Int.le_refl _)) (fun k q => ⟨q.1, q.2.1, q.2.2 (by omega)⟩)
        rw [h3 j (by omega), hlr]
        have : zp_lo (List.range L) j = j := by
          unfold zp_lo
          by_cases hjl : j < L
          · simp [hjl]
          · simp [hjl]
        rw [this]
    | succ m ih =>
      intro p g w6 w7 hp fg h1 h3
      refine zt_l (e_56_8 zf_T_32 ht) ?_
      rw [show (p : Int) + 1 = ((p + 1 : Nat) : Int) by omega]
      refine zt_t (by omega) (zt_c (by omega) (zt_c (by omega) (ih (p + 1) _ _ _ (by omega) (zq_F_tr fg (zq_F_wr (by unfold zf_Cs; omega))) (by rw [zq_wr_n (by decide)]; exact h1) (fun j hj => ?_))))
      by_cases hjp : j = p
      · subst hjp; exact zq_wr_e
      · rw [zq_wr_i (by omega)]; exact h3 j (by omega)
  exact zt_l (e_56 zf_T_32 ht) (idl 5 0 _ _ _ (by omega) (zq_F_wr (by unfold zf_Cs; omega)) zq_wr_e (fun j hj => absurd hj (Nat.not_lt_zero _)))
theorem s_29 (hC : zv_C h t K L C wo sz re fe ru lk P Pu Hd hr dp) (hB : zv_B K L C wo sz re fe ru lk) (hX : zv_X K L C P Pu Hd hr dp) (x y : Int) : zi (zc 29 [zm_A 4, zm_I x, zm_I y] h) (fun z g => z = zp_q1 C x (zp_laid (zp_meo K L sz re fe ru lk P) L P y) ∧ zq_F zf_Cs h g) := by
  have hL5 := hB.2.1
  have ht := hC.2.1.1
  refine zt_l e_29 (zt_I (s_12 hC x) ?_)
  rintro z g ⟨rfl, rfl⟩
  by_cases hx : 0 ≤ x ∧ x < C
  · rw [if_pos hx]
    obtain ⟨c, rfl⟩ := Int.eq_ofNat_of_zero_le hx.1
    have hc : c < C := by omega
    rw [zp_q1_y hc]
    have on : (y = -1 ∨ (0 ≤ y ∧ y < L)) → zi (zr none 5 29 23 [zm_A 4, zm_I c, zm_I y] [] g) (fun z k => z = zp_laid (zp_meo K L sz re fe ru lk P) L P y c ∧ zq_F zf_Cs g k) := by
      intro hy
      unfold zp_laid
      rw [if_neg (show ¬ (y ≠ -1 ∧ ¬ (0 ≤ y ∧ y < L)) by omega)]
      refine zt_l (e_29_23 ht) (zt_I (s_144 hC.2.2.1 hX.1.1) ?_)
      rintro z g ⟨rfl, rfl⟩
      refine zt_p (fun q => zi_e ⟨by rw [if_pos q], zq_F_rf⟩) (fun q => ?_)
      rw [if_neg q]
      have hL : 1 ≤ L := by
        refine Classical.byContradiction (fun hn => q ?_)
        rw [← zp_left_L hX.1 hL5, show L = 0 by omega]; rfl
      refine zt_c hC.1 (zt_V (s_56 hC hB hX hc q hL) ?_)
      rintro g2 ⟨f2, h132, h134⟩
      refine zt_p (fun q2 => zi_e ⟨by rw [if_pos q2]; exact h132, f2⟩) (fun q2 => ?_)
      rw [if_neg q2]
      obtain ⟨p, rfl⟩ := Int.eq_ofNat_of_zero_le (show 0 ≤ y by omega)
      exact zt_c (by omega) (zi_e ⟨h134 p (by omega), f2⟩)
    refine zt_f (by decide) (zt_p (fun q => on (Or.inl q)) (fun q => ?_))
    refine zt_I (s_15 hC y) ?_
    rintro z g ⟨rfl, rfl⟩
    by_cases hy : 0 ≤ y ∧ y < L
    · rw [if_pos hy]; exact zt_f (by decide) (on (Or.inr hy))
    · rw [if_neg hy]
      exact zt_t rfl (zi_e ⟨by unfold zp_laid; rw [if_pos ⟨q, hy⟩], zq_F_rf⟩)
  · rw [if_neg hx]
    exact zt_t rfl (zi_e ⟨(zp_q1_n hx).symm, zq_F_rf⟩)
end
