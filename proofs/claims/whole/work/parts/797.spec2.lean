/-! SUMS AND TESTS: level by level; how far they go -/
section
variable {T : Nat → Int} {n f d p : Nat} {g : Bool} {l : List Int}
theorem zy_X0 : zy_X T n (f + 1) 0 d p g l = zy_th (zy_X T n f 2 d p g l) (zy_X T n f 1 d) := rfl
theorem zy_X1 : zy_X T n (f + 1) 1 d p g l = if zy_ow T n p g = 19 then zy_th (zy_X T n f 2 d (zy_en T n p) (zy_ng T n p g) l) (fun p g l => zy_X T n f 1 d p g (l ++ [-23])) else .inr (p, g, l) := rfl
theorem zy_X2 : zy_X T n (f + 1) 2 d p g l = zy_th (zy_X T n f 4 d p g l) (zy_X T n f 3 d) := rfl
theorem zy_X3 : zy_X T n (f + 1) 3 d p g l = if zy_ow T n p g = 20 then zy_th (zy_X T n f 4 d (zy_en T n p) (zy_ng T n p g) l) (fun p g l => zy_X T n f 3 d p g (l ++ [-22])) else .inr (p, g, l) := rfl
theorem zy_X4 : zy_X T n (f + 1) 4 d p g l = if zy_ow T n p g = 21 then (if 7 ≤ d then .inl (5, zy_at T n p) else zy_th (zy_X T n f 4 (d + 1) (zy_en T n p) (zy_ng T n p g) l) (fun p g l => .inr (p, g, l ++ [-21]))) else if zy_sg T n p g 91 = true then (if 7 ≤ d then .inl (5, zy_at T n p) else zy_th (zy_X T n f 0 (d + 1) (zy_en T n p) (zy_ng T n p g) l) (fun p g l => if zy_sg T n p g 93 = true then .inr (zy_en T n p, zy_ng T n p g, l) else .inl (1, zy_bd T n p g))) else if zy_ow T n p g = 22 then .inr (zy_en T n p, zy_ng T n p g, l ++ [1]) else zy_th (zy_X T n f 5 d p g l) (fun p g l => if zy_cm T n p g = 0 then .inl (1, zy_bd T n p g) else zy_th (zy_X T n f 5 d (zy_en T n p) (zy_ng T n p g) l) (fun p2 g2 l2 => .inr (p2, g2, l2 ++ [zy_cm T n p g]))) := rfl
theorem zy_X5 : zy_X T n (f + 1) 5 d p g l = zy_th (zy_X T n f 7 d p g l) (zy_X T n f 6 d) := rfl
theorem zy_X6 : zy_X T n (f + 1) 6 d p g l = if zy_ad T n p g = 0 then .inr (p, g, l) else zy_th (zy_X T n f 7 d (zy_en T n p) (zy_ng T n p g) l) (fun p2 g2 l2 => zy_X T n f 6 d p2 g2 (l2 ++ [zy_ad T n p g])) := rfl
theorem zy_X7 : zy_X T n (f + 1) 7 d p g l = zy_th (zy_X T n f 9 d p g l) (zy_X T n f 8 d) := rfl
theorem zy_X8 : zy_X T n (f + 1) 8 d p g l = if zy_mu T n p g = 0 then .inr (p, g, l) else zy_th (zy_X T n f 9 d (zy_en T n p) (zy_ng T n p g) l) (fun p2 g2 l2 => zy_X T n f 8 d p2 g2 (l2 ++ [zy_mu T n p g])) := rfl
theorem zy_X9 : zy_X T n (f + 1) 9 d p g l = if zy_sg T n p g 40 = true then (if 7 ≤ d then .inl (5, zy_at T n p) else zy_th (zy_X T n f 5 (d + 1) (zy_en T n p) (zy_ng T n p g) l) (fun p g l => if zy_sg T n p g 41 = true then .inr (zy_en T n p, zy_ng T n p g, l) else .inl (1, zy_bd T n p g))) else if zy_ow T n p g = 23 then zy_X T n f 10 d p g l else if zy_ow T n p g = 24 then zy_X T n f 11 d p g l else if zy_ty T n p g = 2 then .inr (zy_en T n p, zy_ng T n p g, l ++ [zy_nu T n p]) else if zy_se (zy_ow T n p g) = 0 then .inl (1, zy_bd T n p g) else .inr (zy_en T n p, zy_ng T n p g, l ++ [zy_se (zy_ow T n p g)]) := rfl
theorem zy_X10 : zy_X T n (f + 1) 10 d p g l = if zy_sg T n (zy_en T n p) (zy_ng T n p g) 40 = true then (if 7 ≤ d then .inl (5, zy_at T n (zy_en T n p)) else zy_th (zy_X T n f 5 (d + 1) (zy_en T n (zy_en T n p)) (zy_ng T n (zy_en T n p) (zy_ng T n p g)) l) (fun p g l => if zy_sg T n p g 44 = true then zy_th (zy_X T n f 5 (d + 1) (zy_en T n p) (zy_ng T n p g) l) (fun p g l => if zy_sg T n p g 41 = true then .inr (zy_en T n p, zy_ng T n p g, l ++ [-16]) else .inl (1, zy_bd T n p g)) else .inl (1, zy_bd T n p g))) else .inl (1, zy_bd T n (zy_en T n p) (zy_ng T n p g)) := rfl
theorem zy_X11 : zy_X T n (f + 1) 11 d p g l = if zy_sg T n (zy_en T n p) (zy_ng T n p g) 40 = true then (if 7 ≤ d then .inl (5, zy_at T n (zy_en T n p)) else zy_th (zy_X T n f 5 (d + 1) (zy_en T n (zy_en T n p)) (zy_ng T n (zy_en T n p) (zy_ng T n p g)) l) (fun p g l => if zy_sg T n p g 44 = true then zy_th (zy_X T n f 5 (d + 1) (zy_en T n p) (zy_ng T n p g) l) (fun p g l => if zy_sg T n p g 41 = true then .inr (zy_en T n p, zy_ng T n p g, l ++ [-17]) else .inl (1, zy_bd T n p g)) else .inl (1, zy_bd T n p g))) else .inl (1, zy_bd T n (zy_en T n p) (zy_ng T n p g)) := rfl
end
theorem zy_pr_tr {n p p1 p2 lv lv1 lv2 : Nat} {l l1 l2 : List Int} (h1 : zy_pr n p l lv1 p1 l1) (h2 : zy_pr n p1 l1 lv2 p2 l2) (h : (lv = 1 ∨ lv = 3 ∨ lv = 6 ∨ lv = 8) ∨ ¬ (lv1 = 1 ∨ lv1 = 3 ∨ lv1 = 6 ∨ lv1 = 8)) : zy_pr n p l lv p2 l2 := by
  unfold zy_pr at h1 h2 ⊢
  omega
theorem zy_X_pr {T : Nat → Int} {n : Nat} : ∀ (f lv d p : Nat) (g : Bool) (l : List Int) (p2 : Nat) (g2 : Bool) (l2 : List Int), lv < 12 → zy_X T n f lv d p g l = .inr (p2, g2, l2) → p ≤ n → (10 ≤ lv → zy_ty T n p g = 1) → zy_pr n p l lv p2 l2 := by
  intro f
  induction f with
  | zero => intro lv d p g l p2 g2 l2 _ h; cases h
  | succ f ih =>
    intro lv d p g l p2 g2 l2 hlv h hp h10
    -- one word on
    have on : ∀ (p : Nat) (g : Bool), p ≤ n → (zy_ty T n p g = 1 ∨ zy_ty T n p g = 2 ∨ zy_ty T n p g = 3) → p < zy_en T n p ∧ zy_en T n p ≤ n := fun p g hp ht => zy_en_gt (g := g) hp (by omega)
    have len1 : ∀ (l : List Int) (x : Int), (l ++ [x]).length = l.length + 1 := fun l x => by rw [List.length_append]; rfl
    have hc : lv = 0 ∨ lv = 1 ∨ lv = 2 ∨ lv = 3 ∨ lv = 4 ∨ lv = 5 ∨ lv = 6 ∨ lv = 7 ∨ lv = 8 ∨ lv = 9 ∨ lv = 10 ∨ lv = 11 := by omega
    rcases hc with rfl | rfl | rfl | rfl | rfl | rfl | rfl | rfl | rfl | rfl | rfl | rfl
    · rw [zy_X0] at h
      obtain ⟨p1, g1, l1, e1, e2⟩ := zy_th_r h
      have r1 := ih 2 d p g l p1 g1 l1 (by decide) e1 hp (fun q => by omega)
      have r2 := ih 1 d p1 g1 l1 p2 g2 l2 (by decide) e2 r1.1 (fun q => by omega)
      unfold zy_pr at r1 r2 ⊢; omega
    · rw [zy_X1] at h
      split at h
      · next q =>
        have o := on p g hp (Or.inl (zy_ow_ty (by rw [q]; decide)))
        obtain ⟨p1, g1, l1, e1, e2⟩ := zy_th_r h
        have r1 := ih 2 d _ _ l p1 g1 l1 (by decide) e1 o.2 (fun q => by omega)
        have r2 := ih 1 d p1 g1 _ p2 g2 l2 (by decide) e2 r1.1 (fun q => by omega)
        have e := len1 l1 (-23)
        unfold zy_pr at r1 r2 ⊢; omega
      · cases h; unfold zy_pr; omega
    · rw [zy_X2] at h
      obtain ⟨p1, g1, l1, e1, e2⟩ := zy_th_r h
      have r1 := ih 4 d p g l p1 g1 l1 (by decide) e1 hp (fun q => by omega)
      have r2 := ih 3 d p1 g1 l1 p2 g2 l2 (by decide) e2 r1.1 (fun q => by omega)
      unfold zy_pr at r1 r2 ⊢; omega
    · rw [zy_X3] at h
      split at h
      · next q =>
        have o := on p g hp (Or.inl (zy_ow_ty (by rw [q]; decide)))
        obtain ⟨p1, g1, l1, e1, e2⟩ := zy_th_r h
        have r1 := ih 4 d _ _ l p1 g1 l1 (by decide) e1 o.2 (fun q => by omega)
        have r2 := ih 3 d p1 g1 _ p2 g2 l2 (by decide) e2 r1.1 (fun q => by omega)
        have e := len1 l1 (-22)
        unfold zy_pr at r1 r2 ⊢; omega
      · cases h; unfold zy_pr; omega
    · rw [zy_X4] at h
      split at h
      · next q =>
        have o := on p g hp (Or.inl (zy_ow_ty (by rw [q]; decide)))
        split at h
        · cases h
        · obtain ⟨p1, g1, l1, e1, e2⟩ := zy_th_r h
          have r1 := ih 4 _ _ _ l p1 g1 l1 (by decide) e1 o.2 (fun q => by omega)
          cases e2
          have e := len1 l1 (-21)
          unfold zy_pr at r1 ⊢; omega
      split at h
      · next q =>
        have o := on p g hp (Or.inr (Or.inr (zy_sg_ty q).1))
        split at h
        · cases h
        · obtain ⟨p1, g1, l1, e1, e2⟩ := zy_th_r h
          have r1 := ih 0 _ _ _ l p1 g1 l1 (by decide) e1 o.2 (fun q => by omega)
          split at e2
          · next q2 =>
            have o2 := on p1 g1 r1.1 (Or.inr (Or.inr (zy_sg_ty q2).1))
            cases e2
            unfold zy_pr at r1 ⊢; omega
          · cases e2
      split at h
      · next q =>
        have o := on p g hp (Or.inl (zy_ow_ty (by rw [q]; decide)))
        cases h
        have e := len1 l 1
        unfold zy_pr; omega
      · obtain ⟨p1, g1, l1, e1, e2⟩ := zy_th_r h
        have r1 := ih 5 d p g l p1 g1 l1 (by decide) e1 hp (fun q => by omega)
        split at e2
        · cases e2
        · next q =>
          have o := on p1 g1 r1.1 (Or.inr (Or.inr (zy_cm_ty q)))
          obtain ⟨p3, g3, l3, e3, e4⟩ := zy_th_r e2
          have r3 := ih 5 d _ _ l1 p3 g3 l3 (by decide) e3 o.2 (fun q => by omega)
          cases e4
          have e := len1 l3 (zy_cm T n p1 g1)
          unfold zy_pr at r1 r3 ⊢; omega
    · rw [zy_X5] at h
      obtain ⟨p1, g1, l1, e1, e2⟩ := zy_th_r h
      have r1 := ih 7 d p g l p1 g1 l1 (by decide) e1 hp (fun q => by omega)
      have r2 := ih 6 d p1 g1 l1 p2 g2 l2 (by decide) e2 r1.1 (fun q => by omega)
      unfold zy_pr at r1 r2 ⊢; omega
    · rw [zy_X6] at h
      split at h
      · cases h; unfold zy_pr; omega
      · next q =>
        have o := on p g hp (Or.inr (Or.inr (zy_ad_ty q)))
        obtain ⟨p1, g1, l1, e1, e2⟩ := zy_th_r h
        have r1 := ih 7 d _ _ l p1 g1 l1 (by decide) e1 o.2 (fun q => by omega)
        have r2 := ih 6 d p1 g1 _ p2 g2 l2 (by decide) e2 r1.1 (fun q => by omega)
        have e := len1 l1 (zy_ad T n p g)
        unfold zy_pr at r1 r2 ⊢; omega
    · rw [zy_X7] at h
      obtain ⟨p1, g1, l1, e1, e2⟩ := zy_th_r h
      have r1 := ih 9 d p g l p1 g1 l1 (by decide) e1 hp (fun q => by omega)
      have r2 := ih 8 d p1 g1 l1 p2 g2 l2 (by decide) e2 r1.1 (fun q => by omega)
      unfold zy_pr at r1 r2 ⊢; omega
    · rw [zy_X8] at h
      split at h
      · cases h; unfold zy_pr; omega
      · next q =>
        have o := on p g hp (Or.inr (Or.inr (zy_mu_ty q)))
        obtain ⟨p1, g1, l1, e1, e2⟩ := zy_th_r h
        have r1 := ih 9 d _ _ l p1 g1 l1 (by decide) e1 o.2 (fun q => by omega)
        have r2 := ih 8 d p1 g1 _ p2 g2 l2 (by decide) e2 r1.1 (fun q => by omega)
        have e := len1 l1 (zy_mu T n p g)
        unfold zy_pr at r1 r2 ⊢; omega
    · rw [zy_X9] at h
      split at h
      · next q =>
        have o := on p g hp (Or.inr (Or.inr (zy_sg_ty q).1))
        split at h
        · cases h
        · obtain ⟨p1, g1, l1, e1, e2⟩ := zy_th_r h
          have r1 := ih 5 _ _ _ l p1 g1 l1 (by decide) e1 o.2 (fun q => by omega)
          split at e2
          · next q2 =>
            have o2 := on p1 g1 r1.1 (Or.inr (Or.inr (zy_sg_ty q2).1))
            cases e2
            unfold zy_pr at r1 ⊢; omega
          · cases e2
      split at h
      · next q =>
        have r1 := ih 10 d p g l p2 g2 l2 (by decide) h hp (fun _ => zy_ow_ty (by rw [q]; decide))
        unfold zy_pr at r1 ⊢; omega
      split at h
      · next q =>
        have r1 := ih 11 d p g l p2 g2 l2 (by decide) h hp (fun _ => zy_ow_ty (by rw [q]; decide))
        unfold zy_pr at r1 ⊢; omega
      split at h
      · next q =>
        have o := on p g hp (Or.inr (Or.inl q))
        cases h
        have e := len1 l (zy_nu T n p)
        unfold zy_pr; omega
      split at h
      · cases h
      · next q =>
        have o := on p g hp (Or.inl (zy_ow_ty (fun e => q (by rw [e]; rfl))))
        cases h
        have e := len1 l (zy_se (zy_ow T n p g))
        unfold zy_pr; omega
    · rw [zy_X10] at h
      have o := on p g hp (Or.inl (h10 (by decide)))
      split at h
      · next q =>
        have o1 := on _ _ o.2 (Or.inr (Or.inr (zy_sg_ty q).1))
        split at h
        · cases h
        · obtain ⟨p1, g1, l1, e1, e2⟩ := zy_th_r h
          have r1 := ih 5 _ _ _ l p1 g1 l1 (by decide) e1 o1.2 (fun q => by omega)
          split at e2
          · next q2 =>
            have o2 := on p1 g1 r1.1 (Or.inr (Or.inr (zy_sg_ty q2).1))
            obtain ⟨p3, g3, l3, e3, e4⟩ := zy_th_r e2
            have r3 := ih 5 _ _ _ l1 p3 g3 l3 (by decide) e3 o2.2 (fun q => by omega)
            split at e4
            · next q4 =>
              have o4 := on p3 g3 r3.1 (Or.inr (Or.inr (zy_sg_ty q4).1))
              cases e4
              have e := len1 l3 (-16)
              unfold zy_pr at r1 r3 ⊢; omega
            · cases e4
          · cases e2
      · cases h
    · rw [zy_X11] at h
      have o := on p g hp (Or.inl (h10 (by decide)))
      split at h
      · next q =>
        have o1 := on _ _ o.2 (Or.inr (Or.inr (zy_sg_ty q).1))
        split at h
        · cases h
        · obtain ⟨p1, g1, l1, e1, e2⟩ := zy_th_r h
          have r1 := ih 5 _ _ _ l p1 g1 l1 (by decide) e1 o1.2 (fun q => by omega)
          split at e2
          · next q2 =>
            have o2 := on p1 g1 r1.1 (Or.inr (Or.inr (zy_sg_ty q2).1))
            obtain ⟨p3, g3, l3, e3, e4⟩ := zy_th_r e2
            have r3 := ih 5 _ _ _ l1 p3 g3 l3 (by decide) e3 o2.2 (fun q => by omega)
            split at e4
            · next q4 =>
              have o4 := on p3 g3 r3.1 (Or.inr (Or.inr (zy_sg_ty q4).1))
              cases e4
              have e := len1 l3 (-17)
              unfold zy_pr at r1 r3 ⊢; omega
            · cases e4
          · cases e2
      · cases h
