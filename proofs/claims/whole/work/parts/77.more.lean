/-! what was still wanting: the reference's dip refused; purses that agree on the children that there are -/
section
variable {h : zm_H} {t b K L C N cf ct pf pt U nx uf d e : Nat} {wo sz re fe ru cd : Nat → Int} {lk : Nat → Nat → Int} {P Pu Qu Hd : Nat → Int} {hr dp x : Int} {sl : Nat → Nat} {sP sU sQ sH : Nat → Nat → Int} {sh sd lc lkk lh lo : Nat → Int}
theorem s_246n (hD : zv_D h b K L C wo sz re fe ru lk P Qu Hd hr dp) (hB : zv_B K L C wo sz re fe ru lk) (hX : zv_X K L C P Qu Hd hr dp) (hJ : zv_J h b N cd cf ct pf pt) (hY : zv_Y N cd cf ct pf pt) {y co m : Int} (hco : co = zp_cost cd cf ct (zp_en hr (zp_left P) dp 0 0 0)) (hn : h 173 2 = m) (hb : 0 ≤ m ∧ m ≤ 1000000) (hq : ¬ zp_cdip L C re P Qu co y) : zi (zc 246 [zm_A 146, zm_I y] h) (fun z g => z = -1 ∧ ∃ g0, zq_F zf_Ds h g0 ∧ g = zm_wr g0 173 2 (m + 1)) := by
  have hC8 := hB.2.2.1
  refine zt_l e_246 (zt_I (s_231x hD hB hX.1 y) ?_)
  rintro z g ⟨f1, q⟩
  have hn1 : g 173 2 = m := by rw [f1 173 2 (by unfold zf_Ds; omega)]; exact hn
  rcases q with ⟨rfl, hx⟩ | ⟨c, rfl, hc, rfl, h68, h186⟩
  · exact zt_t rfl (zi_m (zt_rn (w := 2) (by decide) hn1 hb) (fun z g' q => ⟨q.1, g, f1, q.2⟩))
  · by_cases hT : zq_S 8 (zp_cn L re P zp_id c) ≤ 0
    · rw [if_pos hT]
      exact zt_t rfl (zi_m (zt_rn (w := 2) (by decide) hn1 hb) (fun z g' q => ⟨q.1, g, f1, q.2⟩))
    · rw [if_neg hT]
      have hDg := hD.kp f1
      have hJg : zv_J g b N cd cf ct pf pt := hJ.kp (fun a h1 h2 => by funext i; exact f1 a i (by unfold zf_Ds; omega))
      refine zt_f (by decide) (zt_c (by omega) (zt_I (s_207 hDg hB hX hJg hY) ?_))
      rintro z g2 ⟨rfl, f2⟩
      rw [← hco]
      have e177 : g 177 (c : Int) = Qu c := hDg.2.1.2.2.1 c (by omega) c (by omega)
      have e177b : g2 177 (c : Int) = Qu c := by rw [f2 177 c (by unfold zf_Ds; omega)]; exact e177
      have hlt : Qu c < co := by
        refine Classical.byContradiction (fun r => hq ⟨⟨by omega, by omega⟩, ?_, ?_⟩)
        · show 0 < zq_S 8 (zp_cn L re P zp_id c); omega
        · show co ≤ Qu c; omega
      first
        | rw [e177]
        | rw [e177b]
      exact zt_t hlt (zi_m (zt_rn (w := 2) (by decide) (by rw [f2 173 _ (by unfold zf_Ds; omega)]; exact hn1) hb) (fun z g' q => ⟨q.1, g2, zq_F_tr f1 f2, q.2⟩))
theorem zp_com_q {fl : Nat → Int} {c : Nat} {p : Int} (hq : Qu c = Pu c) : zp_com fl Qu c p = zp_com fl Pu c p := by unfold zp_com; rw [hq]
theorem zp_comes_q {fl : Nat → Int} {x p : Int} (hq : ∀ c, c < C → Qu c = Pu c) : zp_comes C fl Qu x p = zp_comes C fl Pu x p := by
  unfold zp_comes
  by_cases hx : (0 ≤ x ∧ x < C) ∧ 0 ≤ p ∧ p ≤ 99
  · rw [if_pos hx, if_pos hx]; exact zp_com_q (hq _ (by omega))
  · rw [if_neg hx, if_neg hx]
theorem zp_tk_q {fl : Nat → Int} {p : Int} (hq : ∀ c, c < C → Qu c = Pu c) : zp_tk fl Qu C p = zp_tk fl Pu C p := by
  unfold zp_tk
  rw [zq_S_congr (fun i hi => zp_com_q (hq i hi))]
theorem zp_price_q {fl : Nat → Int} {x : Int} (hq : ∀ c, c < C → Qu c = Pu c) : zp_price fl Qu C x = zp_price fl Pu C x := by
  have hbp : ∀ n, zp_bp fl Qu C n = zp_bp fl Pu C n := by
    intro n
    induction n with
    | zero => rfl
    | succ n ih => unfold zp_bp; rw [ih, zp_tk_q hq]
  unfold zp_price
  rw [hbp]
theorem zp_child_q {y : Int} {c : Nat} (hq : Qu c = Pu c) : zp_child K L re fe ru lk P Qu Hd y c = zp_child K L re fe ru lk P Pu Hd y c := by unfold zp_child; rw [hq]
theorem zp_q1_q {v w : Nat → Int} {x : Int} (hq : ∀ c, c < C → v c = w c) : zp_q1 C x v = zp_q1 C x w := by
  unfold zp_q1
  by_cases hx : 0 ≤ x ∧ x < C
  · rw [if_pos hx, if_pos hx]; exact hq _ (by omega)
  · rw [if_neg hx, if_neg hx]
theorem zp_cdip_q {co y : Int} (hq : ∀ c, c < C → Qu c = Pu c) : zp_cdip L C re P Qu co y ↔ zp_cdip L C re P Pu co y := by
  unfold zp_cdip
  constructor
  · rintro ⟨h1, h2, h3⟩; exact ⟨h1, h2, by rw [← hq _ (by omega)]; exact h3⟩
  · rintro ⟨h1, h2, h3⟩; exact ⟨h1, h2, by rw [hq _ (by omega)]; exact h3⟩
end
