/-! ON of the class, whole -/
section
variable {h : zm_H} {t b K L C N cf ct pf pt U nx uf d e n : Nat} {wo sz re fe ru cd tb F0 : Nat → Int} {lk : Nat → Nat → Int} {P Pu Qu Hd R : Nat → Int} {hr dp x pu : Int} {sl : Nat → Nat} {sP sU sQ sH : Nat → Nat → Int} {sh sd lc lkk lh lo : Nat → Int}
theorem zp_imn_c (K L C : Nat) : (3 + (L : Int) * (K : Int)) + (C : Int) * (2 + 2 * (K : Int)) = ((zp_imn K L C : Nat) : Int) := by
  have e1 : (L : Int) * (K : Int) = ((L * K : Nat) : Int) := by rw [Int.natCast_mul]
  have e2 : (C : Int) * (2 + 2 * (K : Int)) = ((C * (2 + 2 * K) : Nat) : Int) := by
    rw [Int.natCast_mul, show ((2 + 2 * K : Nat) : Int) = 2 + 2 * (K : Int) by omega]
  rw [e1, e2]; unfold zp_imn; omega
theorem s_108 (hT : zv_Ta h n tb) (hb : ∀ i, 0 ≤ tb i ∧ tb i ≤ 255) (hF : zv_F h t K L C wo sz re fe ru lk) (hB : zv_B K L C wo sz re fe ru lk) (h4 : h t 4 = pu) (hF0 : ∀ i : Nat, i < 40 → h (t + 4) i = F0 i) (hz : ∀ i, i < 40 → (L ≤ i / 8 ∨ K ≤ i % 8) → F0 i = 0) : zi (zc 108 [zm_A 5, zm_A t, zm_A 36] h) (fun z g => zq_F zf_on h g ∧ ((z = 1 ∧ zp_con K L C n tb ∧ zv_T g 36 (zp_onP K L tb) (zp_onU K L C tb (fun _ => 0)) (zp_onH K L C tb) ∧ g 36 0 = tb 0 ∧ g 36 1 = zp_two tb 1) ∨ (z = 0 ∧ ¬ zp_con K L C n tb))) := by
  have hK8 := hB.1
  have hL5 := hB.2.1
  have hC8 := hB.2.2.1
  have ht := hF.1
  have htb := zf_F_ne ht
  have hn16 := hT.2.1
  obtain ⟨n1, n2, n3, n4, n5, n6⟩ := zp_imn_b hK8 hL5 hC8
  have hlast : zp_imn K L C ≤ 187 := by unfold zp_imn; omega
  have ge3 : 3 ≤ zp_imn K L C := by unfold zp_imn; omega
  have e1 : (L : Int) * (K : Int) = ((L * K : Nat) : Int) := by rw [Int.natCast_mul]
  have e2 : (C : Int) * (2 + 2 * (K : Int)) = ((C * (2 + 2 * K) : Nat) : Int) := by
    rw [Int.natCast_mul, show ((2 + 2 * K : Nat) : Int) = 2 + 2 * (K : Int) by omega]
  refine zt_l (e_108 zf_T_36 ht) ?_
  rw [hF.2.2.1, hF.2.1, hF.2.2.2.1, zp_imn_c, hT.1]
  refine zt_c (by omega) (zt_c (by omega) (zt_c (by omega) (zt_c (by omega) (zt_c (by omega) (zt_c (by omega) (zt_c (by omega) ?_))))))
  refine zt_p (fun c1 => ?_) (fun c1 => zt_c (Or.inl rfl) (zi_e ⟨zq_F_rf, Or.inr ⟨rfl, fun r => c1 (by have := r.1; omega)⟩⟩))
  have hn : n = zp_imn K L C + 1 := by omega
  refine zt_c (by omega) (zt_I (s_107 (n := zp_imn K L C) (na := 1600) la_6 (by omega) (by omega) (fun i hi => hT.2.2 i (by omega)) (fun i _ => hb i) rfl) ?_)
  rintro z g ⟨rfl, rfl⟩
  rw [hT.2.2 (zp_imn K L C) (by omega)]
  refine zt_p (fun c2 => ?_) (fun c2 => zt_c (Or.inl rfl) (zi_e ⟨zq_F_rf, Or.inr ⟨rfl, fun r => c2 r.2.1⟩⟩))
  refine zt_V (s_143 zf_T_36 ht hF.2.2.2.1 h4 hF0) ?_
  rintro g1 ⟨f1, T1, -, -⟩
  have f1' : zq_F zf_on g g1 := zq_F_wk f1 (fun a i q => by unfold zf_To at q; unfold zf_on; omega)
  have kT : ∀ g2, zq_F zf_on g g2 → zv_Ta g2 n tb := fun g2 fg => ⟨by rw [fg 5 1 (by unfold zf_on; omega)]; exact hT.1, hT.2.1, fun i hi => by rw [fg 6 i (by unfold zf_on; omega)]; exact hT.2.2 i hi⟩
  have kF : ∀ g2, zq_F zf_on g g2 → zv_F g2 t K L C wo sz re fe ru lk := fun g2 fg => hF.kp (fun a ha => by funext i; exact fg a i (by unfold zf_on; omega))
  have e60 : g1 6 0 = tb 0 := by rw [f1 6 0 (by unfold zf_To; omega)]; exact hT.2.2 0 (by omega)
  rw [e60]
  have f2 : zq_F zf_on g (zm_wr g1 36 0 (tb 0)) := zq_F_tr f1' (zq_F_wr (by unfold zf_on; omega))
  refine zt_c (by decide) (zt_I (s_109 (j := 1) (kT _ f2) hb (by omega)) ?_)
  rintro z g3 ⟨rfl, hg3⟩
  subst hg3
  have hT3 : zv_T (zm_wr (zm_wr g1 36 0 (tb 0)) 36 1 (zp_two tb 1)) 36 F0 (fun c => if c < C then pu else 0) (fun _ => 0) := (T1.wr (by decide)).wr (by decide)
  have f3 : zq_F zf_on g (zm_wr (zm_wr g1 36 0 (tb 0)) 36 1 (zp_two tb 1)) := zq_F_tr f2 (zq_F_wr (by unfold zf_on; omega))
  have x0 : zm_wr (zm_wr g1 36 0 (tb 0)) 36 1 (zp_two tb 1) 36 0 = tb 0 := by rw [zq_wr_i (by decide), zq_wr_e]
  have x1 : zm_wr (zm_wr g1 36 0 (tb 0)) 36 1 (zp_two tb 1) 36 1 = zp_two tb 1 := zq_wr_e
  rw [x0, x1]
  generalize zm_wr (zm_wr g1 36 0 (tb 0)) 36 1 (zp_two tb 1) = g3 at hT3 f3 x0 x1
  refine zt_p (fun c3 => zt_c (Or.inl rfl) (zi_e ⟨f3, Or.inr ⟨rfl, fun r => by have := r.2.2.1; omega⟩⟩)) (fun c3 => ?_)
  refine zt_p (fun c4 => ?_) (fun c4 => zt_c (Or.inl rfl) (zi_e ⟨f3, Or.inr ⟨rfl, fun r => c4 r.2.2.2.1⟩⟩))
  refine zt_I (s_110 (kT _ f3) hb (kF _ f3) hB (by omega) (fun i hi hq => by
    have := hT3.2.1 i hi
    rw [show (36 + 1 : Nat) = 37 from rfl] at this
    rw [this]; exact hz i hi hq)) ?_
  rintro z g4 ⟨f4, q4⟩
  have f4' : zq_F zf_on g g4 := zq_F_tr f3 (zq_F_wk f4 (fun a i q => by unfold zf_on; omega))
  rcases q4 with ⟨rfl, p1, p2⟩ | ⟨rfl, p1⟩
  · refine zt_f (by decide) (zt_I (s_111 (Qu := fun _ => 0) (kT _ f4') hb (kF _ f4') hB (by omega) (fun c h1 h2 => ?_) (fun i hi hq => ?_)) ?_)
    · have := hT3.2.2.1 c h2
      rw [show (36 + 2 : Nat) = 38 from rfl] at this
      rw [f4 38 c (by omega), this]
      exact if_neg (by omega)
    · have := hT3.2.2.2 i hi
      rw [show (36 + 3 : Nat) = 39 from rfl] at this
      rw [f4 39 i (by omega)]; exact this
    · rintro z g5 ⟨f5, q5⟩
      have f5' : zq_F zf_on g g5 := zq_F_tr f4' (zq_F_wk f5 (fun a i q => by unfold zf_on; omega))
      rcases q5 with ⟨rfl, p3, p4, p5⟩ | ⟨rfl, p3⟩
      · refine zt_f (by decide) (zt_c (Or.inr rfl) (zi_e ⟨f5', Or.inl ⟨rfl, ⟨hn, c2, by omega, c4, p1, p3⟩, ⟨zf_T_36, fun i hi => ?_, p4, p5⟩, ?_, ?_⟩⟩))
        · show g5 37 i = _
          rw [f5 37 i (by omega)]; exact p2 i hi
        · rw [f5 36 0 (by omega), f4 36 0 (by omega)]; exact x0
        · rw [f5 36 1 (by omega), f4 36 1 (by omega)]; exact x1
      · exact zt_t rfl (zt_c (Or.inl rfl) (zi_e ⟨f5', Or.inr ⟨rfl, fun r => p3 r.2.2.2.2.2⟩⟩))
  · exact zt_t rfl (zt_c (Or.inl rfl) (zi_e ⟨f4', Or.inr ⟨rfl, fun r => p1 r.2.2.2.2.1⟩⟩))
def zf_53 (a : Nat) (i : Int) : Prop := (a = 5 ∧ i = 1) ∨ (32 ≤ a ∧ a ≤ 39) ∨ (a = 44 ∧ 3 ≤ i ∧ i ≤ 5)
theorem s_53 {m : Int} (k1 : zv_K1 h t K L C N cf ct pf pt U nx wo sz re fe ru cd lk P Pu Hd hr dp x sl sP sU sH sh sd lc lkk lh lo) (hT : zv_Ta h n tb) (hb : ∀ i, 0 ≤ tb i ∧ tb i ≤ 255) (hB : zv_B K L C wo sz re fe ru lk) (h4 : h t 4 = pu) (hF0 : ∀ i : Nat, i < 40 → h (t + 4) i = F0 i) (hz : ∀ i, i < 40 → (L ≤ i / 8 ∨ K ≤ i % 8) → F0 i = 0) (hn : h 145 5 = m) (hm : 0 ≤ m ∧ m ≤ 1000000) : zi (zc 53 [zm_A 4] h) (fun z g => (z = 1 ∧ zp_con K L C n tb ∧ zq_F zf_53 h g ∧ g 5 1 = 0 ∧ zv_K1 g t K L C N cf ct pf pt 0 0 wo sz re fe ru cd lk (zp_onP K L tb) (zp_onU K L C tb (fun _ => 0)) (zp_onH K L C tb) (tb 0) (zp_two tb 1) x (fun _ => 0) sP sU sH sh sd lc lkk lh lo) ∨ (z = 0 ∧ ¬ zp_con K L C n tb ∧ ∃ g0, zq_F zf_on h g0 ∧ g = zm_wr (zm_wr g0 5 1 0) 145 5 (m + 1))) := by
  obtain ⟨⟨c1, c2, c3, c4, c5⟩, hI, hx, hL⟩ := k1
  have ht := c2.1
  refine zt_l (e_53 ht) (zt_c c1 (zt_I (s_108 hT hb c2 hB h4 hF0 hz) ?_))
  rintro z g ⟨f1, q⟩
  rcases q with ⟨rfl, hc, T1, g0, g1⟩ | ⟨rfl, hc⟩
  · refine zt_f (by decide) (zt_V (s_152 zf_T_32 (T1.wr (a := 5) (i := 1) (v := 0) (by decide)) (by decide)) ?_)
    rintro g2 ⟨f2, T2, a0, a1⟩
    rw [zq_wr_n (by decide)] at a0 a1
    refine zt_V (s_67 (sP := sP) (sU := sU) (sH := sH) (sh := sh) (sd := sd) (lc := lc) (lk := lkk) (lh := lh) (lo := lo)) ?_
    rintro g3 ⟨f3, L3⟩
    have fall : zq_F zf_53 h g3 := by
      refine zq_F_tr (zq_F_wk f1 (fun a i q => ?_)) (zq_F_tr (zq_F_wr ?_) (zq_F_tr (zq_F_wk f2 (fun a i q => ?_)) (zq_F_wk f3 (fun a i q => ?_))))
      · unfold zf_on at q; unfold zf_53; omega
      · unfold zf_53; omega
      · unfold zf_To at q; unfold zf_53; omega
      · unfold zf_53; omega
    have k3 : ∀ a : Nat, a ≠ 44 → g3 a = g2 a := fun a ha => by funext i; exact f3 a i (by omega)
    refine zt_c (Or.inr rfl) (zi_e (Or.inl ⟨rfl, hc, fall, ?_, ⟨?_, c2.k7 (fun a q1 q2 => by funext i; exact fall a i (by unfold zf_53; omega)), T2.kq (k3 _ (by omega)) (k3 _ (by omega)) (k3 _ (by omega)), ?_, ?_⟩, hI.k7 ht (fun a q1 q2 => by funext i; exact fall a i (by unfold zf_53; omega)), ?_, L3⟩))
    · rw [k3 5 (by decide), f2 5 1 (by unfold zf_To; omega), zq_wr_e]
    · rw [fall 4 1 (by unfold zf_53; omega)]; exact c1
    · rw [k3 32 (by decide), a0]; exact g0
    · rw [k3 32 (by decide), a1]; exact g1
    · rw [fall 4 16 (by unfold zf_53; omega)]; exact hx
  · refine zt_t rfl (zi_m (zt_cf (w := 5) (by decide) (by rw [zq_wr_n (by decide), f1 145 _ (by unfold zf_on; omega)]; exact hn) hm) (fun z g' q => Or.inr ⟨q.1, hc, g, f1, q.2⟩))
end
