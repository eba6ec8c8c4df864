/-! A TEXT AS A WHOLE: statement by statement, both sides told together -/
section
variable {h g h1 h2 : zm_H} {T : Nat → Int} {n p p' b pf K L C cf ct qf qt : Nat} {gl g' : Bool} {wo sz re fe ru : Nat → Int} {lk : Nat → Nat → Int} {nk nc : Nat → List Nat} {F F0 : Nat → Int} {pu : Int} {l : List Int} {q : Nat × Bool} {o : zw_S}
theorem zy_ty0 : zy_ty T n p gl = 0 ↔ n ≤ zy_at T n p := by
  unfold zy_ty
  constructor
  · intro h
    split at h
    · assumption
    · split at h
      · split at h <;> cases h
      · split at h
        · split at h <;> cases h
        · cases h
  · intro h
    rw [if_pos h]
theorem zw_PD.mo (hP : zw_PD K L C wo sz re fe ru lk nk nc F pu l cf ct qf qt p) (hp : p ≤ p') : zw_PD K L C wo sz re fe ru lk nk nc F pu l cf ct qf qt p' := by
  obtain ⟨B, nn, f1, f2, pb, l1, r⟩ := hP
  exact ⟨B, nn, f1, f2, pb, by omega, r⟩
/-- all that the class's parser writes, its count of statements too -/
def zf_Pd (pf : Nat) (a : Nat) (i : Int) : Prop := (a = 30 ∧ 2 ≤ i ∧ i ≤ 7) ∨ (a = 29 ∧ 2 ≤ i ∧ i ≤ 3) ∨ (pf ≤ a ∧ a ≤ pf + 10)
theorem zf_Pc_Pd (f : zq_F (zf_Pc pf) h g) : zq_F (zf_Pd pf) h g := zq_F_wk f (fun a i q => by unfold zf_Pc at q; unfold zf_Pd; omega)
/-- how a text ends: with a fault, or told -/
def zw_end (h1 h2 : zm_H) (pf b : Nat) (T : Nat → Int) (n : Nat) (X : Option (zm_V × zm_H)) (Y : (Int → zm_H → Prop) → Prop) : Prop :=
  (∃ k a : Nat, zi X (fun z g => z = 0 ∧ zq_F (zf_Pd pf) h1 g ∧ g 29 2 = k ∧ g 29 3 = a) ∧ ∀ Q : Int → zm_H → Prop, (∀ (x : Int) g, zq_F (zf_Pr b) h2 g → zw_lv g T n b (.inl (k, a)) → zi (zr none 8 158 139 [zm_A 146, zm_I x] [] g) Q) → Y Q) ∨
  ∃ (N K L C : Nat) (wo sz re fe ru : Nat → Int) (lk : Nat → Nat → Int) (nk nc : Nat → List Nat) (F : Nat → Int) (pu : Int) (l : List Int) (cf ct qf qt : Nat), N ≤ 80 ∧ zw_PD K L C wo sz re fe ru lk nk nc F pu l cf ct qf qt n ∧
    zi X (fun z g => z = 1 ∧ zq_F (zf_Pd pf) h1 g ∧ g pf 0 = N ∧ (g 29 2 = 0 ∧ g 29 3 = -1) ∧ zw_CD g pf K L C wo sz re fe ru lk nk nc F pu l cf ct qf qt) ∧ ∀ Q : Int → zm_H → Prop, (∀ g, zq_F (zf_Pr b) h2 g → g 146 8 = 0 → g 146 9 = -1 → g 146 34 = b → zw_RD g b K L C wo sz re fe ru lk nk nc F pu l cf ct qf qt → zi (zr none 8 158 139 [zm_A 146, zm_I N] [] g) Q) → Y Q
theorem zf_Pd_29 (hpf : zf_F pf) (f : zq_F (zf_Pd pf) h g) : g 29 1 = h 29 1 := f 29 1 (by have := zf_F_ne hpf; unfold zf_Pd; omega)
theorem zw_loop (hpf : zf_F pf) {w1 : zm_V} (hw1 : zm_cat w1 ≠ 2) : ∀ (m p : Nat) (gl : Bool) (N : Nat) (h1 h2 : zm_H) (K L C : Nat) (wo sz re fe ru : Nat → Int) (lk : Nat → Nat → Int) (nk nc : Nat → List Nat) (F : Nat → Int) (pu : Int) (l : List Int) (cf ct qf qt : Nat),
    n - p < m → zw_K h1 pf T n p gl → h1 pf 0 = N → N ≤ 80 → zw_PD K L C wo sz re fe ru lk nk nc F pu l cf ct qf qt p → zw_CD h1 pf K L C wo sz re fe ru lk nk nc F pu l cf ct qf qt →
    ((zw_lv h2 T n b (.inr (p, gl)) ∧ zw_RD h2 b K L C wo sz re fe ru lk nk nc F pu l cf ct qf qt ∧ (N < 80 ∨ n ≤ zy_at T n p) ∧ (h2 146 3 = 0 → n ≤ zy_at T n p)) ∨ (N = 80 ∧ zy_at T n p < n ∧ zw_lv h2 T n b (.inl (6, zy_at T n p)))) →
    zw_end h1 h2 pf b T n (zr none 93 74 31 [zm_A 29, w1, zm_I N] [] h1) (fun Q => zi (zr none 8 158 110 [zm_A 146, zm_I N] [] h2) Q) := by
  intro m
  induction m with
  | zero => intro p gl N h1 h2 K L C wo sz re fe ru lk nk nc F pu l cf ct qf qt hm; omega
  | succ m ih =>
    intro p gl N h1 h2 K L C wo sz re fe ru lk nk nc F pu l cf ct qf qt hm hK hN hN80 hP hC hR
    have ct3 : h1 30 3 = zy_ty T n p gl := hK.2.2.2.1
    rcases hR with ⟨hv, hR, hN2, h3⟩ | ⟨hN2, ha, hv⟩
    rotate_left
    · -- the eighty-first
      left
      have t0 : ¬ zy_ty T n p gl = 0 := fun e => by have := zy_ty0.mp e; omega
      refine ⟨6, zy_at T n p, ?_, fun Q hq => ?_⟩
      · refine zt_l (e_74_31 hpf hw1) (zt_f (by omega) (zt_f (by omega) (zt_I (s_75_80 hpf hK (by omega)) ?_)))
        rintro z g ⟨rfl, hg⟩
        have r := zw_flt (zq_F_rf (S := zf_Pc pf) (h := h1)) hg
        exact zt_t rfl (zt_c (Or.inl rfl) (zi_e ⟨rfl, zf_Pc_Pd r.1, r.2⟩))
      · have d := hv.dead
        exact zt_l e_158_110 (zt_f (by omega) (hq _ _ zq_F_rf hv))
    have LL := hv.live
    by_cases t0 : zy_ty T n p gl = 0
    · -- the end
      right
      refine ⟨N, K, L, C, wo, sz, re, fe, ru, lk, nk, nc, F, pu, l, cf, ct, qf, qt, hN80, hP.mo LL.2.1, ?_, fun Q hq => ?_⟩
      · exact zt_l (e_74_31 hpf hw1) (zt_f (by omega) (zt_t (by omega) (zt_c (Or.inr rfl) (zi_e ⟨rfl, zq_F_rf, hN, hK.2.1.2, hC⟩))))
      · refine zt_l e_158_110 (zt_t LL.1 ?_)
        rw [(LL.2.2.2.2.1 (by omega)).2.1]
        exact zt_t (by omega) (hq _ zq_F_rf LL.1 (hv.2.2.2.2.2 _ _ rfl) hv.2.1 hR)
    · have hat : zy_at T n p < n := by
        refine Classical.byContradiction (fun e => t0 (zy_ty0.mpr (by omega)))
      have hN79 : N < 80 := by omega
      have q80 : ¬ (80 : Int) < N := by omega
      have q30 : ¬ h1 30 3 = 0 := by omega
      obtain ⟨o, K', L', C', wo', sz', re', fe', ru', lk', nk', nc', F', pu', l', cf', ct', qf', qt', hP', hc, hr⟩ := zw_stmt hpf hK hv hP hC hR (by omega) t0
      -- the runs themselves
      obtain ⟨v1, g1, x1, z1, rfl, fc, rc⟩ := hc
      obtain ⟨v2, g2, x2, rfl, fr, rr⟩ := hr
      have c195 := s_195w (N := N + 1) (o := o) (o' := zw_th o (zw_sgn T n 59)) (h := g2) (b := b) rfl (by
        rcases rr with r | ⟨p', g', e, r⟩ | r
        · exact Or.inl r
        · refine Or.inr (Or.inl ⟨p', g', e, ?_⟩)
          rcases r with r | r
          · exact Or.inl r
          · exact Or.inr r.1
        · exact Or.inr (Or.inr r))
      obtain ⟨v3, g3, x3, rfl, P3, S3⟩ := c195
      have n3 : h2 146 3 ≠ 0 := fun e => by have := h3 e; omega
      have e1 : (N : Int) + 1 = ((N + 1 : Nat) : Int) := by omega
      have f13 : zq_F (zf_Pr b) h2 g3 := zq_F_tr fr (zf_Wd_Pr P3.1)
      have clas : ∀ {Q : Int → zm_H → Prop}, (z1 = 0 → zi (some (zm_I 0, g1)) Q) → (z1 = 1 → zi (zm_ck (g1 29 1 = pf) (zm_ck (zm_i32 (g1 pf 0 + 1)) (zr none 93 74 31 [zm_A 29, w1, zm_I ((N + 1 : Nat) : Int)] [] (zm_wr g1 pf 0 (g1 pf 0 + 1))))) Q) → (z1 = 0 ∨ z1 = 1) → zi (zr none 93 74 31 [zm_A 29, w1, zm_I N] [] h1) Q := by
        intro Q q0 q1 q
        refine zt_l (e_74_31 hpf hw1) (zt_f q80 (zt_f q30 ?_))
        rw [x1]
        show zt (if z1 = 0 then _ else _) _
        rcases q with q | q
        · exact zt_t q (zt_c (Or.inl rfl) (q0 q))
        · refine zt_f (by omega) ?_
          rw [e1]
          obtain ⟨w, k, e, r⟩ := q1 q
          obtain ⟨c1, e⟩ := zm_ck_some e
          obtain ⟨c2, e⟩ := zm_ck_some e
          exact zt_c c1 (zt_c c2 (zt_c (by omega) ⟨w, k, e, r⟩))
      have refe : ∀ {Q : Int → zm_H → Prop}, zi (zr none 8 158 110 [zm_A 146, zm_I ((N + 1 : Nat) : Int)] [] g3) Q → zi (zr none 8 158 110 [zm_A 146, zm_I N] [] h2) Q := by
        intro Q q
        refine zt_l e_158_110 (zt_t LL.1 (zt_f n3 ?_))
        rw [e1]
        refine zt_V (show zu (zc 162 [zm_A 146] h2) (fun g => g = g2) from ⟨_, g2, x2, rfl, rfl⟩) ?_
        intro k hk
        rw [hk]
        refine zt_c (by omega) (zt_V (show zu (zc 195 [zm_A 146, zm_I ((N + 1 : Nat) : Int)] g2) (fun g => g = g3) from ⟨_, g3, x3, rfl, rfl⟩) ?_)
        intro k hk
        rw [hk]
        exact q
      cases ho : zw_th o (zw_sgn T n 59) with
      | inl e =>
        obtain ⟨k, a⟩ := e
        left
        refine ⟨k, a, ?_, fun Q hq => refe ?_⟩
        · rcases rc with ⟨k', a', e, rfl, e2, e3⟩ | ⟨p', g', e, _⟩
          · rw [ho] at e
            cases e
            exact clas (fun _ => zi_e ⟨rfl, zf_Pc_Pd fc, e2, e3⟩) (fun e => absurd e (by decide)) (Or.inl rfl)
          · rw [ho] at e; cases e
        · rw [ho] at P3
          have v : zw_lv g3 T n b (.inl (k, a)) := P3.2
          have d := v.dead
          exact zt_l e_158_110 (zt_f (by omega) (hq _ _ f13 v))
      | inr q =>
        obtain ⟨p2, g2'⟩ := q
        obtain ⟨p1, g1', E1, E2⟩ := zw_th_r ho
        obtain ⟨P1, lt1, le1⟩ := hP' p1 g1' E1
        have sg1 : zy_sg T n p1 g1' 59 = true ∧ (p2, g2') = (zy_en T n p1, zy_ng T n p1 g1') := by
          unfold zw_sgn at E2
          split at E2
          · next r => cases E2; exact ⟨r, rfl⟩
          · cases E2
        have on := zy_en_gt (T := T) (g := g1') le1 (by have := (zy_sg_ty sg1.1).1; omega)
        have ep2 : p2 = zy_en T n p1 := congrArg Prod.fst sg1.2
        have P2 := P1.mo (show p1 ≤ p2 by omega)
        rcases rc with ⟨k', a', e, _⟩ | ⟨p', g', e, rfl, kk, dd⟩
        · rw [ho] at e; cases e
        rw [ho] at e
        cases e
        have g0 : g1 pf 0 = N := by
          rw [fc pf 0 (by have := zf_F_ne hpf; unfold zf_Pc; omega)]; exact hN
        have kk2 : zw_K (zm_wr g1 pf 0 (g1 pf 0 + 1)) pf T n p2 g2' := kk.wpf hpf (Nat.le_refl _) (by omega)
        have dd2 : zw_CD (zm_wr g1 pf 0 (g1 pf 0 + 1)) pf K' L' C' wo' sz' re' fe' ru' lk' nk' nc' F' pu' l' cf' ct' qf' qt' := by
          obtain ⟨⟨f1, f2, f3, f4, f5, f6, f7⟩, ⟨n1, n2⟩, d3, d4, d5, d6, d7⟩ := dd
          have e : ∀ a : Nat, a ≠ pf → zm_wr g1 pf 0 (g1 pf 0 + 1) a = g1 a := fun a ha => by funext x; exact zq_wr_n ha
          have e0 : ∀ i : Int, i ≠ 0 → zm_wr g1 pf 0 (g1 pf 0 + 1) pf i = g1 pf i := fun i hi => zq_wr_i hi
          refine ⟨⟨f1, ?_, ?_, ?_, ?_, ?_, ?_⟩, ⟨?_, ?_⟩, ?_, ?_, ?_, ?_, ?_⟩
          · rw [e0 1 (by decide)]; exact f2
          · rw [e0 2 (by decide)]; exact f3
          · rw [e0 3 (by decide)]; exact f4
          · rw [e (pf + 2) (by omega), e (pf + 3) (by omega)]; exact f5
          · rw [e (pf + 6) (by omega), e (pf + 7) (by omega), e (pf + 8) (by omega)]; exact f6
          · rw [e (pf + 9) (by omega)]; exact f7
          · rw [e (pf + 1) (by omega)]; exact n1
          · rw [e (pf + 5) (by omega)]; exact n2
          · rw [e (pf + 4) (by omega)]; exact d3
          · rw [e0 4 (by decide)]; exact d4
          · rw [e0 15 (by decide), e (pf + 10) (by omega)]; exact d5
          · rw [e0 16 (by decide), e0 17 (by decide), e0 18 (by decide), e0 19 (by decide)]; exact d6
          · rw [e (pf + 9) (by omega)]; exact d7
        have fc2 : zq_F (zf_Pd pf) h1 (zm_wr g1 pf 0 (g1 pf 0 + 1)) := zq_F_tr (zf_Pc_Pd fc) (zq_F_wr (by unfold zf_Pd; omega))
        have next : (zw_lv g3 T n b (.inr (p2, g2')) ∧ zw_RD g3 b K' L' C' wo' sz' re' fe' ru' lk' nk' nc' F' pu' l' cf' ct' qf' qt' ∧ (N + 1 < 80 ∨ n ≤ zy_at T n p2) ∧ (g3 146 3 = 0 → n ≤ zy_at T n p2)) ∨ (N + 1 = 80 ∧ zy_at T n p2 < n ∧ zw_lv g3 T n b (.inl (6, zy_at T n p2))) := by
          rw [ho] at P3 S3
          by_cases hx : N + 1 = 80 ∧ zy_at T n p2 < n
          · right
            have e : zw_fin T n (N + 1) (.inr (p2, g2')) = .inl (6, zy_at T n p2) := if_pos hx
            rw [e] at P3
            exact ⟨hx.1, hx.2, P3.2⟩
          · left
            have e : zw_fin T n (N + 1) (.inr (p2, g2')) = .inr (p2, g2') := if_neg hx
            rw [e] at P3 S3
            refine ⟨P3.2, ?_, by omega, S3 p2 g2' rfl⟩
            rcases rr with ⟨k, a, e, _⟩ | ⟨p', g', e, r⟩ | ⟨p', g', e, _⟩
            · rw [E1] at e; cases e
            · rw [E1] at e
              cases e
              rcases r with ⟨t4, _⟩ | ⟨_, d⟩
              · have := (zy_sg_ty sg1.1).1; omega
              · exact d.wd P3.1
            · rw [E1] at e; cases e
        have IH := ih p2 g2' (N + 1) _ g3 K' L' C' wo' sz' re' fe' ru' lk' nk' nc' F' pu' l' cf' ct' qf' qt' (by omega) kk2 (by rw [zq_wr_e, g0]; omega) (by omega) P2 dd2 next
        have ck : ∀ {Q : Int → zm_H → Prop}, zi (zr none 93 74 31 [zm_A 29, w1, zm_I ((N + 1 : Nat) : Int)] [] (zm_wr g1 pf 0 (g1 pf 0 + 1))) Q → zi (zr none 93 74 31 [zm_A 29, w1, zm_I N] [] h1) Q := fun q => clas (fun e => absurd e (by decide)) (fun _ => zt_c kk.1 (zt_c (by rw [g0]; omega) q)) (Or.inr rfl)
        rcases IH with ⟨k, a, X, Y⟩ | ⟨N', K2, L2, C2, wo2, sz2, re2, fe2, ru2, lk2, nk2, nc2, F2, pu2, l2, cf2, ct2, qf2, qt2, hN', PD2, X, Y⟩
        · left
          exact ⟨k, a, ck (zi_m X (fun z g r => ⟨r.1, zq_F_tr fc2 r.2.1, r.2.2⟩)), fun Q hq => refe (Y Q (fun x g f v => hq x g (zq_F_tr f13 f) v))⟩
        · right
          exact ⟨N', K2, L2, C2, wo2, sz2, re2, fe2, ru2, lk2, nk2, nc2, F2, pu2, l2, cf2, ct2, qf2, qt2, hN', PD2, ck (zi_m X (fun z g r => ⟨r.1, zq_F_tr fc2 r.2.1, r.2.2⟩)), fun Q hq => refe (Y Q (fun g f e8 e9 e34 d => hq g (zq_F_tr f13 f) e8 e9 e34 d))⟩
end
