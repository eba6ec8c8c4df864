/-! SUMS AND TESTS: the reference's joins -/
def zy_rest (m : Int) : List Int → List Int
  | [] => []
  | s :: r => if m ≤ zy_rk s then zy_rest m r else s :: r
def zy_popd (m : Int) : List Int → List Int
  | [] => []
  | s :: r => if m ≤ zy_rk s then zy_cc s :: zy_popd m r else []
def zy_nots (m : Int) : List Int → Nat
  | [] => 0
  | s :: r => if m ≤ zy_rk s then (if s = 22 then 1 else 0) + zy_nots m r else 0
/-- what is held back above B, the last one first -/
def zy_ts (h : zm_H) (B : Nat) (ts : List Int) : Prop := h 146 43 = ((B + ts.length : Nat) : Int) ∧ ∀ i : Nat, i < ts.length → ∀ j : Int, j = (B : Int) + ts.length - 1 - i → h 172 j = ts.getD i 0
def zf_Jo (b : Nat) (a : Nat) (i : Int) : Prop := (a = 146 ∧ (i = 33 ∨ i = 41 ∨ i = 43)) ∨ ((a = 163 ∨ a = 164) ∧ 1600 * (b : Int) ≤ i ∧ i < 1600 * (b : Int) + 1600)
section
variable {T : Nat → Int} {n p b : Nat} {gl : Bool}
theorem s_191 {k B : Nat} {m : Int} : ∀ (ts l : List Int) (o : Nat) (h : zm_H), zy_L h T n p gl b l → h 146 40 = ((k + 1 : Nat) : Int) → k < 20 → h 171 k = B → zy_ts h B ts → B + ts.length ≤ 500 → (∀ s, s ∈ ts → 10 ≤ s ∧ s ≤ 22) → l.length + ts.length ≤ 1600 → h 146 41 = o → zy_nots m ts ≤ o → o ≤ 100 →
    zu (zc 191 [zm_A 146, zm_I m] h) (fun g => zq_F (zf_Jo b) h g ∧ zy_L g T n p gl b (l ++ zy_popd m ts) ∧ zy_ts g B (zy_rest m ts) ∧ g 146 41 = ((o - zy_nots m ts : Nat) : Int)) ∧ zu (zr none 2 191 0 [zm_A 146, zm_I m] [] h) (fun g => zq_F (zf_Jo b) h g ∧ zy_L g T n p gl b (l ++ zy_popd m ts) ∧ zy_ts g B (zy_rest m ts) ∧ g 146 41 = ((o - zy_nots m ts : Nat) : Int)) := by
  intro ts
  induction ts with
  | nil =>
    intro l o h hL h40 hk hB hT h5 hs hl h41 ho ho2
    refine ⟨zt_l e_191 ?_, zt_l e_191_0 ?_⟩ <;>
    · have e40 : h 146 40 - 1 = (k : Int) := by omega
      have e43 : h 146 43 = B := by have := hT.1; simp at this; exact this
      rw [e40, hB, e43]
      refine zt_c (by omega) (zt_c (by omega) (zt_t (by omega) (zu_e ⟨zq_F_rf, ?_, hT, ?_⟩)))
      · show zy_L h T n p gl b (l ++ [])
        rw [List.append_nil]; exact hL
      · exact h41
  | cons s r ih =>
    intro l o h hL h40 hk hB hT h5 hs hl h41 ho ho2
    have hlen : (s :: r).length = r.length + 1 := rfl
    have hs0 := hs s List.mem_cons_self
    refine ⟨zt_l e_191 ?_, zt_l e_191_0 ?_⟩ <;>
    · have e40 : h 146 40 - 1 = (k : Int) := by omega
      have e43 : h 146 43 = ((B + r.length + 1 : Nat) : Int) := by have := hT.1; omega
      have e43' : ((B + r.length + 1 : Nat) : Int) - 1 = ((B + r.length : Nat) : Int) := by omega
      have etop : h 172 ((B + r.length : Nat) : Int) = s := hT.2 0 (by omega) _ (by omega)
      have ew : zm_wr h 146 43 ((B + r.length : Nat) : Int) 146 43 = ((B + r.length : Nat) : Int) := zq_wr_e
      have ew2 : zm_wr h 146 43 ((B + r.length : Nat) : Int) 172 ((B + r.length : Nat) : Int) = s := by rw [zq_wr_n (by decide)]; exact etop
      rw [e40, hB, e43, e43', etop]
      refine zt_c (by omega) (zt_c (by omega) (zt_f (by omega) (zt_c (by omega) (zt_c (by omega) (zt_I (s_192 s hs0) ?_)))))
      rintro z g ⟨rfl, rfl⟩
      refine zt_p (fun q => zu_e ⟨zq_F_rf, ?_, ?_, ?_⟩) (fun q => ?_)
      · have : zy_popd m (s :: r) = [] := if_neg (by omega)
        rw [this, List.append_nil]; exact hL
      · have : zy_rest m (s :: r) = s :: r := if_neg (by omega)
        rw [this]; exact hT
      · have : zy_nots m (s :: r) = 0 := if_neg (by omega)
        rw [this]; exact h41
      · have q' : m ≤ zy_rk s := by omega
        have ep : zy_popd m (s :: r) = zy_cc s :: zy_popd m r := if_pos q'
        have er : zy_rest m (s :: r) = zy_rest m r := if_pos q'
        have en : zy_nots m (s :: r) = (if s = 22 then 1 else 0) + zy_nots m r := if_pos q'
        rw [ep, er, en]
        rw [en] at ho
        rw [e43, e43', ew, ew2]
        have hLw : zy_L (zm_wr g 146 43 ((B + r.length : Nat) : Int)) T n p gl b l := hL.kp (fun i hi => zq_wr_i (by omega)) (fun a ha => by funext j; exact zq_wr_n (by omega))
        refine zt_c (by omega) (zt_c (by omega) (zt_V (s_189 hLw (by omega) (zy_cc_cr hs0)) ?_))
        rintro g2 ⟨f2, L2⟩
        have g43 : g2 146 43 = ((B + r.length : Nat) : Int) := by rw [f2 146 43 (by unfold zf_Cd; omega)]; exact ew
        have g172 : ∀ j : Int, g2 172 j = g 172 j := fun j => by rw [f2 172 j (by unfold zf_Cd; omega), zq_wr_n (by decide)]
        have g41 : g2 146 41 = o := by rw [f2 146 41 (by unfold zf_Cd; omega), zq_wr_i (by decide)]; exact h41
        have fw : zq_F (zf_Jo b) g g2 := zq_F_tr (zq_F_wr (Or.inl ⟨rfl, by omega⟩)) (zq_F_wk f2 (fun a i q => by unfold zf_Cd at q; unfold zf_Jo; omega))
        have ts2 : ∀ g3 : zm_H, g3 146 43 = g2 146 43 → g3 172 = g2 172 → zy_ts g3 B r := fun g3 e1 e2 => ⟨by rw [e1]; exact g43, fun i hi j hj => by
          rw [e2, g172]
          exact hT.2 (i + 1) (by omega) j (by omega)⟩
        rw [g43, g172, etop]
        have la : (l ++ [zy_cc s]).length = l.length + 1 := by rw [List.length_append]; rfl
        have assoc : l ++ zy_cc s :: zy_popd m r = (l ++ [zy_cc s]) ++ zy_popd m r := by rw [List.append_assoc]; rfl
        rw [assoc]
        refine zt_c (by omega) (zt_p (fun q22 => ?_) (fun q22 => ?_))
        · rw [if_pos q22] at ho ⊢
          rw [g41]
          have L3 : zy_L (zm_wr g2 146 41 ((o : Int) - 1)) T n p gl b (l ++ [zy_cc s]) := L2.kp (fun i hi => zq_wr_i (by omega)) (fun a ha => by funext j; exact zq_wr_n (by omega))
          have f3 : zq_F (zf_Jo b) g2 (zm_wr g2 146 41 ((o : Int) - 1)) := zq_F_wr (Or.inl ⟨rfl, by omega⟩)
          refine zt_c (by omega) (zu_m (ih (l ++ [zy_cc s]) (o - 1) _ L3 ?_ hk ?_ (ts2 _ (zq_wr_i (by decide)) (by funext j; exact zq_wr_n (by decide))) (by omega) (fun x hx => hs x (List.mem_cons_of_mem s hx)) (by omega) (by rw [zq_wr_e]; omega) (by omega) (by omega)).2 (fun g4 r4 => ⟨zq_F_tr fw (zq_F_tr f3 r4.1), r4.2.1, r4.2.2.1, by rw [r4.2.2.2]; omega⟩))
          · rw [zq_wr_i (by decide), f2 146 40 (by unfold zf_Cd; omega), zq_wr_i (by decide)]; exact h40
          · rw [zq_wr_n (by decide), f2 171 k (by unfold zf_Cd; omega), zq_wr_n (by decide)]; exact hB
        · rw [if_neg q22] at ho ⊢
          refine zu_m (ih (l ++ [zy_cc s]) o g2 L2 ?_ hk ?_ (ts2 _ rfl rfl) (by omega) (fun x hx => hs x (List.mem_cons_of_mem s hx)) (by omega) g41 (by omega) ho2).2 (fun g4 r4 => ⟨zq_F_tr fw r4.1, r4.2.1, r4.2.2.1, by rw [r4.2.2.2]; omega⟩)
          · rw [f2 146 40 (by unfold zf_Cd; omega), zq_wr_i (by decide)]; exact h40
          · rw [f2 171 k (by unfold zf_Cd; omega), zq_wr_n (by decide)]; exact hB
end
