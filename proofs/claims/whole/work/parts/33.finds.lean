/-! THE REFERENCE'S READERS AND ITS FINDS -/
section
variable {h : zm_H} {t b K L C : Nat} {wo sz re fe ru : Nat → Int} {lk : Nat → Nat → Int} {P Pu Hd : Nat → Int}
theorem zv_G.kp {g : zm_H} (hG : zv_G h b K L C wo sz re fe ru lk) (h13 : g 146 13 = h 146 13) (hg : ∀ a : Nat, 147 ≤ a → a < 158 → g a = h a) : zv_G g b K L C wo sz re fe ru lk := by
  obtain ⟨hb, e0, e1, e2, e3, h1, h2, h3⟩ := hG
  refine ⟨hb, by rw [h13]; exact e0, by rw [hg 148 (by omega) (by omega)]; exact e1, by rw [hg 151 (by omega) (by omega)]; exact e2, by rw [hg 153 (by omega) (by omega)]; exact e3, ?_, ?_, ?_⟩
  · rw [hg 149 (by omega) (by omega), hg 150 (by omega) (by omega)]; exact h1
  · rw [hg 154 (by omega) (by omega), hg 155 (by omega) (by omega), hg 156 (by omega) (by omega)]; exact h2
  · rw [hg 157 (by omega) (by omega)]; exact h3
theorem zv_W.kp {g : zm_H} {v : Nat} (hW : zv_W h v P Pu Hd) (hg : ∀ a : Nat, 176 ≤ a → a < 179 → g a = h a) : zv_W g v P Pu Hd := by
  obtain ⟨hv, h1, h2, h3⟩ := hW
  exact ⟨hv, by rw [hg 176 (by omega) (by omega)]; exact h1, by rw [hg 177 (by omega) (by omega)]; exact h2, by rw [hg 178 (by omega) (by omega)]; exact h3⟩
theorem s_206 {v l k : Nat} (hW : zv_W h v P Pu Hd) (hl : l < 5) (hk : k < 8) : zi (zc 206 [zm_A 146, zm_I v, zm_I l, zm_I k] h) (fun z g => z = P (8 * l + k) ∧ g = h) := by
  obtain ⟨hv, h1, h2, h3⟩ := hW
  exact zt_l e_206 (zt_c (by omega) (zt_c (by omega) (zt_c (by omega) (zt_c (by omega) (zt_c (by omega) (zi_e ⟨h1 _ (by omega) _ (by omega), rfl⟩))))))
theorem s_215 {v c k : Nat} (hW : zv_W h v P Pu Hd) (hc : c < 8) (hk : k < 8) : zi (zc 215 [zm_A 146, zm_I v, zm_I c, zm_I k] h) (fun z g => z = Hd (8 * c + k) ∧ g = h) := by
  obtain ⟨hv, h1, h2, h3⟩ := hW
  exact zt_l e_215 (zt_c (by omega) (zt_c (by omega) (zt_c (by omega) (zt_c (by omega) (zt_c (by omega) (zi_e ⟨h3 _ (by omega) _ (by omega), rfl⟩))))))
theorem s_224 (hG : zv_G h b K L C wo sz re fe ru lk) (hB : zv_B K L C wo sz re fe ru lk) {c k : Nat} (hc : c < C) (hk : k < K) : zi (zc 224 [zm_A 146, zm_I c, zm_I k] h) (fun z g => z = lk c k ∧ g = h) := by
  obtain ⟨hb, e0, e1, e2, e3, h1, h2, h3⟩ := hG
  obtain ⟨b1, b2, b3, -⟩ := hB
  refine zt_l e_224 ?_
  rw [e0]
  exact zt_c (by omega) (zt_c (by omega) (zt_c (by omega) (zt_c (by omega) (zt_c (by omega) (zi_e ⟨h3 c k hc hk _ (by omega), rfl⟩)))))
theorem s_219 (hG : zv_G h b K L C wo sz re fe ru lk) (hB : zv_B K L C wo sz re fe ru lk) {k : Nat} (hk : k < K) : zi (zc 219 [zm_A 146, zm_I k] h) (fun z g => z = sz k ∧ g = h) := by
  obtain ⟨hb, e0, e1, e2, e3, h1, h2, h3⟩ := hG
  obtain ⟨b1, b2, b3, -⟩ := hB
  refine zt_l e_219 ?_
  rw [e0]
  exact zt_c (by omega) (zt_c (by omega) (zt_c (by omega) (zi_e ⟨(h1 k hk _ (by omega)).2, rfl⟩)))
/-- a layer's parcels: kinds that there are are enough -/
theorem zp_sl_K {l : Nat} (hP : zv_P K L P) (hl : l < 5) (hK : K ≤ 8) : zq_S K (fun k => P (8 * l + k)) = zp_sl P l := by
  unfold zp_sl
  exact (zq_S_ext hK (fun i h1 h2 => hP.2 _ (by omega) (Or.inr (by omega)))).symm
theorem s_205 {v l : Nat} (hG : zv_G h b K L C wo sz re fe ru lk) (hB : zv_B K L C wo sz re fe ru lk) (hW : zv_W h v P Pu Hd) (hP : zv_P K L P) (hl : l < 5) : zi (zc 205 [zm_A 146, zm_I v, zm_I l] h) (fun z g => z = zp_sl P l ∧ g = h) := by
  have hK8 : K ≤ 8 := hB.1
  have hb := hG.1
  have key : ∀ (n i : Nat), i + n = K → zi (zr none 2 205 5 [zm_A 146, zm_I v, zm_I l, zm_I (zq_S i (fun k => P (8 * l + k))), zm_I i] [] h) (fun z g => z = zp_sl P l ∧ g = h) := by
    intro n
    induction n with
    | zero =>
      intro i hi
      refine zt_l e_205_5 ?_
      rw [hG.2.1, hG.2.2.1]
      refine zt_c (by omega) (zt_f (by omega) (zi_e ⟨?_, rfl⟩))
      rw [← zp_sl_K hP hl hK8, show i = K by omega]
    | succ n ih =>
      intro i hi
      have bs := zq_S_le (n := i) (f := fun k => P (8 * l + k)) (m := 99) (fun j hj => hP.1 _ (by omega))
      have bp := hP.1 (8 * l + i) (by omega)
      have hi8 : (i : Int) ≤ 8 := by omega
      refine zt_l e_205_5 ?_
      rw [hG.2.1, hG.2.2.1]
      refine zt_c (by omega) (zt_t (by omega) (zt_I (s_206 hW hl (by omega)) ?_))
      rintro z g ⟨rfl, rfl⟩
      exact zt_c (by omega) (zt_c (by omega) (ih (i + 1) (by omega)))
  exact zt_l e_205 (key K 0 (by omega))
theorem s_227 {v : Nat} {ord : Nat → Nat} (ho : ∀ p, p < 5 → ord p < 5) (hQ : ∀ p : Nat, p < L → h 185 p = ord p) (hG : zv_G h b K L C wo sz re fe ru lk) (hB : zv_B K L C wo sz re fe ru lk) (hW : zv_W h v P Pu Hd) (hP : zv_P K L P) : zi (zc 227 [zm_A 146, zm_I v] h) (fun z g => z = zp_up L P ord ∧ g = h) := by
  have hL5 : L ≤ 5 := hB.2.1
  have hb := hG.1
  have key : ∀ (n p : Nat), p + n = L → zi (zr none 3 227 2 [zm_A 146, zm_I v, zm_I p] [] h) (fun z g => z = zp_upf L P ord n p ∧ g = h) := by
    intro n
    induction n with
    | zero =>
      intro p hp
      refine zt_l e_227_2 ?_
      rw [hG.2.1, hG.2.2.2.1]
      exact zt_c (by omega) (zt_f (by omega) (zi_e ⟨rfl, rfl⟩))
    | succ n ih =>
      intro p hp
      refine zt_l e_227_2 ?_
      rw [hG.2.1, hG.2.2.2.1]
      refine zt_c (by omega) (zt_t (by omega) (zt_c (by omega) ?_))
      rw [hQ p (by omega)]
      refine zt_I (s_205 hG hB hW hP (ho p (by omega))) ?_
      rintro z g ⟨rfl, rfl⟩
      refine zt_p (fun hz => zt_c (by omega) ?_) (fun hz => zi_e ⟨?_, rfl⟩)
      · conv => rhs; unfold zp_upf
        rw [if_pos ⟨by omega, hz⟩]
        exact ih (p + 1) (by omega)
      · unfold zp_upf
        rw [if_neg (fun q => hz q.2)]
  exact zt_l e_227 (key L 0 (by omega))
theorem s_228 {v c : Nat} {ord : Nat → Nat} (ho : ∀ p, p < 5 → ord p < 5) (hQ : ∀ p : Nat, p < L → h 185 p = ord p) (hG : zv_G h b K L C wo sz re fe ru lk) (hB : zv_B K L C wo sz re fe ru lk) (hW : zv_W h v P Pu Hd) (hP : zv_P K L P) (hc : c < C) : zi (zc 228 [zm_A 146, zm_I v, zm_I c] h) (fun z g => z = zp_to L P ord re c ∧ g = h) := by
  have hL5 : L ≤ 5 := hB.2.1
  have hC8 : C ≤ 8 := hB.2.2.1
  have hb := hG.1
  have hre := hB.2.2.2.2.1 c hc
  have hup := zp_up_le L P ord
  refine zt_l e_228 (zt_I (s_227 ho hQ hG hB hW hP) ?_)
  rintro z g ⟨rfl, rfl⟩
  rw [hG.2.1]
  have hr := (hG.2.2.2.2.2.2.1 c hc (8 * (b : Int) + c) rfl).1
  refine zt_c (by omega) (zt_c (by omega) (zt_c (by omega) ?_))
  rw [hr]
  refine zt_c (by omega) (zt_c (by omega) ?_)
  rw [hG.2.2.2.1]
  refine zt_p (fun hq => zi_e ⟨?_, rfl⟩) (fun hq => zt_c (by omega) (zi_e ⟨?_, rfl⟩))
  · unfold zp_to; omega
  · unfold zp_to; omega
end
