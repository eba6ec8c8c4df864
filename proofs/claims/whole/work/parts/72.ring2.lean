/-! RINGS: the class -/
def zp_ofo (K : Nat) (lk : Nat → Nat → Int) (Hd : Nat → Int) (c : Nat) : Option Nat := zp_of (lk c) (fun k => Hd (8 * c + k)) K 0 none
def zp_ofk (K : Nat) (lk : Nat → Nat → Int) (Hd : Nat → Int) (c : Nat) : Nat := (zp_ofo K lk Hd c).getD 0
def zp_rs0 (K C : Nat) (lk : Nat → Nat → Int) (Hd : Nat → Int) : zp_RS := (fun c => decide (c < C) && (zp_ofo K lk Hd c).isSome, fun _ => 0, fun _ => 1)
def zp_fin (K C : Nat) (lk : Nat → Nat → Int) (Hd : Nat → Int) : zp_RS := zp_rr C lk (zp_ofk K lk Hd) (zp_rs0 K C lk Hd) C
def zp_ring (K C : Nat) (lk : Nat → Nat → Int) (Hd : Nat → Int) (w : Int) (c : Nat) : Int := if zp_hb Hd c = 0 then -1 else if w = 0 then (zp_fin K C lk Hd).2.1 c else if w = 1 then zp_oi (zp_ofo K lk Hd c) else if w = 2 then (zp_fin K C lk Hd).2.2 c else -1
theorem zp_of_b {w hd : Nat → Int} {K : Nat} : ∀ (m k : Nat) (b : Option Nat), k + m = K → (∀ j, b = some j → j < K ∧ hd j ≠ 0) → ∀ j, zp_of w hd m k b = some j → j < K ∧ hd j ≠ 0 := by
  intro m
  induction m with
  | zero => intro k b hk hb j h; exact hb j h
  | succ m ih =>
    intro k b hk hb j h
    unfold zp_of at h
    refine ih (k + 1) _ (by omega) (fun i hi => ?_) j h
    split at hi
    · exact hb i hi
    · next q =>
      split at hi
      · cases hi; exact ⟨by omega, q⟩
      · next i2 =>
        split at hi
        · cases hi; exact ⟨by omega, q⟩
        · exact hb i hi
theorem zp_of_n {w hd : Nat → Int} : ∀ (m k : Nat) (b : Option Nat), zp_of w hd m k b = none ↔ b = none ∧ ∀ j, k ≤ j → j < k + m → hd j = 0 := by
  intro m
  induction m with
  | zero => intro k b; unfold zp_of; exact ⟨fun h => ⟨h, fun j h1 h2 => by omega⟩, fun h => h.1⟩
  | succ m ih =>
    intro k b
    unfold zp_of
    rw [ih]
    by_cases q : hd k = 0
    · rw [if_pos q]
      refine ⟨fun h => ⟨h.1, fun j h1 h2 => ?_⟩, fun h => ⟨h.1, fun j h1 h2 => h.2 j (by omega) (by omega)⟩⟩
      by_cases hj : j = k
      · rw [hj]; exact q
      · exact h.2 j (by omega) (by omega)
    · rw [if_neg q]
      refine ⟨fun h => ?_, fun h => absurd (h.2 k (Nat.le_refl _) (by omega)) q⟩
      exfalso
      have h1 := h.1
      cases b with
      | none => cases h1
      | some j =>
        dsimp only at h1
        split at h1 <;> cases h1
section
variable {h : zm_H} {t b K L C : Nat} {wo sz re fe ru : Nat → Int} {lk : Nat → Nat → Int} {P Pu Qu Hd : Nat → Int} {hr dp : Int}
theorem zp_ofk_b {c : Nat} (hc : (zp_ofo K lk Hd c).isSome = true) : zp_ofo K lk Hd c = some (zp_ofk K lk Hd c) ∧ zp_ofk K lk Hd c < K := by
  cases ho : zp_ofo K lk Hd c with
  | none => rw [ho] at hc; cases hc
  | some j =>
    have h1 : zp_ofk K lk Hd c = j := by unfold zp_ofk; rw [ho]; rfl
    have ho2 : zp_of (lk c) (fun k => Hd (8 * c + k)) K 0 none = some j := ho
    have h2 := zp_of_b (K := K) K 0 none (by omega) (fun j h => by cases h) j ho2
    rw [h1]
    exact ⟨rfl, h2.1⟩
theorem zp_ofo_hb (hH : zv_H K C Hd) (hK : K ≤ 8) {c : Nat} (hc : c < 8) : zp_hb Hd c = 0 ↔ zp_ofo K lk Hd c = none := by
  unfold zp_ofo
  rw [zp_of_n]
  constructor
  · intro h0
    refine ⟨rfl, fun j _ hj => ?_⟩
    exact zq_S_eq0 (n := 8) (f := fun k => Hd (8 * c + k)) (fun i hi => (hH.1 _ (by omega)).1) h0 j (by omega)
  · rintro ⟨-, h0⟩
    refine zq_S_zero (fun k hk => ?_)
    by_cases hkK : k < K
    · exact h0 k (by omega) (by omega)
    · exact hH.2 _ (by omega) (Or.inr (by omega))
theorem s_128 {o c : Nat} (hF : zv_F h t K L C wo sz re fe ru lk) (hB : zv_B K L C wo sz re fe ru lk) (hT : zv_T h o P Pu Hd) (hc : c < C) : zi (zc 128 [zm_A t, zm_A o, zm_I c] h) (fun z g => z = zp_oi (zp_ofo K lk Hd c) ∧ g = h) := by
  have hK8 := hB.1
  have hC8 := hB.2.2.1
  have ht := hF.1
  have key : ∀ (m k : Nat) (bo : Option Nat), k + m = K → (∀ j, bo = some j → j < K) → zi (zr none 2 128 5 [zm_A t, zm_A o, zm_I c, zm_I (zp_oi bo), zm_I k] [] h) (fun z g => z = zp_oi (zp_of (lk c) (fun k => Hd (8 * c + k)) m k bo) ∧ g = h) := by
    intro m
    induction m with
    | zero =>
      intro k bo hk hb
      refine zt_l (e_128_5 hT.1 ht) ?_
      rw [hF.2.1]
      exact zt_f (by omega) (zi_e ⟨rfl, rfl⟩)
    | succ m ih =>
      intro k bo hk hb
      have ei : (c : Int) * 8 + k = ((8 * c + k : Nat) : Int) := by omega
      have e35 : h (o + 3) ((8 * c + k : Nat) : Int) = Hd (8 * c + k) := hT.2.2.2 _ (by omega)
      refine zt_l (e_128_5 hT.1 ht) ?_
      rw [hF.2.1, ei, e35, show (k : Int) + 1 = ((k + 1 : Nat) : Int) by omega]
      unfold zp_of
      refine zt_t (by omega) (zt_c (by omega) (zt_c (by omega) (zt_c (by omega) (zt_p (fun q => zt_c (by omega) ?_) (fun q => ?_)))))
      · rw [if_pos q]
        exact ih (k + 1) bo (by omega) hb
      · rw [if_neg q]
        cases bo with
        | none =>
          refine zt_t rfl (zt_c (by omega) ?_)
          exact ih (k + 1) (some k) (by omega) (fun j hj => by cases hj; omega)
        | some j =>
          have hj := hb j rfl
          refine zt_f (show ¬ (j : Int) = -1 by omega) (zt_I (s_64 hF hB hc (by omega : k < K)) ?_)
          rintro z g ⟨rfl, rfl⟩
          refine zt_I (s_64 hF hB hc hj) ?_
          rintro z g ⟨rfl, rfl⟩
          dsimp only
          refine zt_p (fun q2 => zt_c (by omega) ?_) (fun q2 => zt_c (by omega) ?_)
          · rw [if_pos q2]
            exact ih (k + 1) (some k) (by omega) (fun j hj => by cases hj; omega)
          · rw [if_neg q2]
            exact ih (k + 1) (some j) (by omega) hb
  exact zt_l (e_128 hT.1 ht) (key K 0 none (by omega) (fun j hj => by cases hj))
theorem s_129 {c : Nat} {lf : Nat → Bool} {ofo : Nat → Option Nat} {of : Nat → Nat} (hF : zv_F h t K L C wo sz re fe ru lk) (hB : zv_B K L C wo sz re fe ru lk) (hl : lf c = true) (hlC : ∀ a, lf a = true → a < C ∧ ofo a = some (of a) ∧ of a < K) (h136 : ∀ a : Nat, a < C → h 136 a = zp_oi (ofo a)) (h138 : ∀ a : Nat, a < C → (h 138 a = 0 ↔ lf a = true)) : zi (zc 129 [zm_A 135, zm_A t, zm_I c] h) (fun z g => z = zp_pp C lk of lf c ∧ g = h) := by
  have hC8 := hB.2.2.1
  have ht := hF.1
  have hcC := (hlC c hl).1
  have key : ∀ (m i bb : Nat), i + m = C → lf bb = true → zi (zr none 2 129 5 [zm_A 135, zm_A t, zm_I c, zm_I bb, zm_I i] [] h) (fun z g => z = zp_ch (fun o => lk c (of o)) lf m i bb ∧ g = h) := by
    intro m
    induction m with
    | zero =>
      intro i bb hi hb
      refine zt_l (e_129_5 ht) ?_
      rw [hF.2.2.2.1]
      exact zt_f (by omega) (zi_e ⟨rfl, rfl⟩)
    | succ m ih =>
      intro i bb hi hb
      obtain ⟨b1, b2, b3⟩ := hlC bb hb
      refine zt_l (e_129_5 ht) ?_
      rw [hF.2.2.2.1, show (i : Int) + 1 = ((i + 1 : Nat) : Int) by omega]
      unfold zp_ch
      refine zt_t (by omega) (zt_c (by omega) (zt_p (fun q => ?_) (fun q => zt_c (by omega) ?_)))
      · have hli := (h138 i (by omega)).mp q
        obtain ⟨i1, i2, i3⟩ := hlC i hli
        have e1 : h 136 (i : Int) = ((of i : Nat) : Int) := by rw [h136 i (by omega), i2]; rfl
        have e2 : h 136 (bb : Int) = ((of bb : Nat) : Int) := by rw [h136 bb b1, b2]; rfl
        rw [e1]
        refine zt_c (by omega) (zt_I (s_64 hF hB hcC i3) ?_)
        rintro z g ⟨rfl, rfl⟩
        rw [e2]
        refine zt_c (by omega) (zt_I (s_64 hF hB hcC b3) ?_)
        rintro z g ⟨rfl, rfl⟩
        refine zt_p (fun q2 => zt_c (by omega) ?_) (fun q2 => zt_c (by omega) ?_)
        · rw [if_neg (fun r => by have := r.2; omega)]
          exact ih (i + 1) bb (by omega) hb
        · rw [if_pos ⟨hli, by omega⟩]
          exact ih (i + 1) i (by omega) hli
      · have hli : ¬ lf i = true := fun r => q ((h138 i (by omega)).mpr r)
        rw [if_neg (fun r => hli r.1)]
        exact ih (i + 1) bb (by omega) hb
  exact zt_l (e_129 ht) (key C 0 c (by omega) hl)
theorem s_130 {c : Nat} {lf : Nat → Bool} {p : Nat → Nat} (hC8 : C ≤ 8) (hl : lf c = true) (hlC : ∀ a, lf a = true → a < C) (hp : ∀ a, lf a = true → lf (p a) = true) (h137 : ∀ a : Nat, lf a = true → h 137 a = p a) {y : Int} (hy : y = C) : zi (zc 130 [zm_A 135, zm_I c, zm_I y] h) (fun z g => z = (if zp_gr p c C (p c) = true then 1 else 0) ∧ g = h) := by
  subst hy
  have key : ∀ (m i a : Nat), i + m = C → lf a = true → zi (zr none 1 130 10 [zm_A 135, zm_I c, zm_I C, zm_I a, zm_I i] [] h) (fun z g => z = (if zp_gr p c m a = true then 1 else 0) ∧ g = h) := by
    intro m
    induction m with
    | zero =>
      intro i a hi ha
      refine zt_l e_130_10 (zt_f (by omega) (zt_p (fun q => zt_c (Or.inr rfl) (zi_e ⟨?_, rfl⟩)) (fun q => zt_c (Or.inl rfl) (zi_e ⟨?_, rfl⟩))))
      · unfold zp_gr; rw [if_pos (by simp; omega)]
      · unfold zp_gr; rw [if_neg (by simp; omega)]
    | succ m ih =>
      intro i a hi ha
      have haC := hlC a ha
      refine zt_l e_130_10 (zt_t (by omega) (zt_p (fun q => zt_t q (zt_c (Or.inr rfl) (zi_e ⟨?_, rfl⟩))) (fun q => zt_c (by omega) (zt_c (by omega) ?_))))
      · unfold zp_gr; rw [if_pos (show a = c by omega)]; rfl
      · rw [h137 a ha, show (i : Int) + 1 = ((i + 1 : Nat) : Int) by omega]
        unfold zp_gr
        rw [if_neg (show ¬ a = c by omega)]
        exact ih (i + 1) (p a) (by omega) (hp a ha)
  have hcC := hlC c hl
  refine zt_l e_130 (zt_c (by omega) ?_)
  rw [h137 c hl]
  exact key C 0 (p c) (by omega) (hp c hl)
def zf_Rg (a : Nat) (_ : Int) : Prop := 136 ≤ a ∧ a ≤ 138
/-- the class's rings in the state S: who is left has round 0, who isn't his own -/
def zv_Rc (h : zm_H) (C : Nat) (ofo : Nat → Option Nat) (S : zp_RS) : Prop :=
  (∀ a : Nat, a < C → h 136 a = zp_oi (ofo a)) ∧ ∀ a : Nat, a < C → (ofo a = none → h 138 a = -1) ∧ ((ofo a).isSome = true → (S.1 a = true → h 138 a = 0) ∧ (S.1 a = false → h 138 a = S.2.2 a ∧ 1 ≤ S.2.2 a ∧ h 137 a = S.2.1 a))
theorem s_127 (hF : zv_F h t K L C wo sz re fe ru lk) (hB : zv_B K L C wo sz re fe ru lk) (hT : zv_T h 32 P Pu Hd) : zu (zc 127 [zm_A 135, zm_A t, zm_A 32] h) (fun g => zq_F zf_Rg h g ∧ zv_Rc g C (zp_ofo K lk Hd) (zp_fin K C lk Hd)) := by
  have hK8 := hB.1
  have hC8 := hB.2.2.1
  have ht := hF.1
  have htb := zf_F_ne ht
  have kF : ∀ g, zq_F zf_Rg h g → zv_F g t K L C wo sz re fe ru lk := fun g fg => hF.kp (fun a ha => by funext i; exact fg a i (by unfold zf_Rg; omega))
  have kT : ∀ g, zq_F zf_Rg h g → zv_T g 32 P Pu Hd := fun g fg => hT.kp (fun a ha => by funext i; exact fg a i (by unfold zf_Rg; omega))
  have hs0 : ∀ a, (zp_rs0 K C lk Hd).1 a = true → a < C := fun a q => by
    have : (decide (a < C) && (zp_ofo K lk Hd a).isSome) = true := q
    rw [Bool.and_eq_true, decide_eq_true_iff] at this
    exact this.1
  have hsub : ∀ n a, (zp_rr C lk (zp_ofk K lk Hd) (zp_rs0 K C lk Hd) n).1 a = true → a < C ∧ (zp_ofo K lk Hd a).isSome = true := fun n a q => by
    have := zp_rr_sub (lk := lk) (of := zp_ofk K lk Hd) hs0 n a q
    have h2 : (decide (a < C) && (zp_ofo K lk Hd a).isSome) = true := this.2
    rw [Bool.and_eq_true] at h2
    exact ⟨this.1, h2.2⟩
  -- the rounds
  have rounds : ∀ (m n : Nat) (g : zm_H) (w4 : zm_V), n + m = C → zq_F zf_Rg h g → zv_Rc g C (zp_ofo K lk Hd) (zp_rr C lk (zp_ofk K lk Hd) (zp_rs0 K C lk Hd) n) → zu (zr none 3 127 51 [zm_A 135, zm_A t, zm_A 32, zm_I ((n + 1 : Nat) : Int), w4] [] g) (fun g => zq_F zf_Rg h g ∧ zv_Rc g C (zp_ofo K lk Hd) (zp_fin K C lk Hd)) := by
    intro m
    induction m with
    | zero =>
      intro n g w4 hn fg R
      obtain rfl : n = C := by omega
      refine zt_l (e_127_51 ht) ?_
      rw [(kF g fg).2.2.2.1]
      exact zt_t (by omega) (zu_e ⟨fg, R⟩)
    | succ m ih =>
      intro n g w4 hn fg R
      have hsn := hsub n
      have hrr : zp_rr C lk (zp_ofk K lk Hd) (zp_rs0 K C lk Hd) (n + 1) = zp_rd C lk (zp_ofk K lk Hd) ((n + 1 : Nat) : Int) (zp_rr C lk (zp_ofk K lk Hd) (zp_rs0 K C lk Hd) n) := rfl
      have ih' := ih (n + 1)
      rw [hrr] at ih'
      generalize zp_rr C lk (zp_ofk K lk Hd) (zp_rs0 K C lk Hd) n = S at R hsn ih'
      have hlC : ∀ a, S.1 a = true → a < C ∧ zp_ofo K lk Hd a = some (zp_ofk K lk Hd a) ∧ zp_ofk K lk Hd a < K := fun a q => ⟨(hsn a q).1, zp_ofk_b (hsn a q).2⟩
      refine zt_l (e_127_51 ht) ?_
      rw [(kF g fg).2.2.2.1]
      refine zt_f (by omega) ?_
      -- who leaves
      have leave : ∀ (m2 i : Nat) (g : zm_H), i + m2 = C → zq_F zf_Rg h g → (∀ a : Nat, a < C → g 136 a = zp_oi (zp_ofo K lk Hd a)) → (∀ a : Nat, S.1 a = true → g 137 a = zp_pp C lk (zp_ofk K lk Hd) S.1 a) → (∀ a : Nat, a < C → (zp_ofo K lk Hd a = none → g 138 a = -1) ∧ ((zp_ofo K lk Hd a).isSome = true → (S.1 a = true → g 138 a = (if a < i ∧ zp_lv C lk (zp_ofk K lk Hd) S.1 a = true then ((n + 1 : Nat) : Int) else 0)) ∧ (S.1 a = false → g 138 a = S.2.2 a ∧ 1 ≤ S.2.2 a ∧ g 137 a = S.2.1 a))) → zu (zr none 3 127 104 [zm_A 135, zm_A t, zm_A 32, zm_I ((n + 1 : Nat) : Int), zm_I i] [] g) (fun g => zq_F zf_Rg h g ∧ zv_Rc g C (zp_ofo K lk Hd) (zp_fin K C lk Hd)) := by
        intro m2
        induction m2 with
        | zero =>
          intro i g hi fg h1 h2 h3
          obtain rfl : i = C := by omega
          refine zt_l (e_127_104 ht (w2 := zm_A 32) (fun e => absurd (show (1 : Nat) = 2 from e) (by decide))) ?_
          rw [(kF g fg).2.2.2.1]
          refine zt_f (by omega) (zt_c (by omega) ?_)
          rw [show ((n + 1 : Nat) : Int) + 1 = ((n + 1 + 1 : Nat) : Int) by omega]
          refine ih' g _ (by omega) fg ⟨h1, fun a ha => ⟨(h3 a ha).1, fun hso => ?_⟩⟩
          obtain ⟨q1, q2⟩ := (h3 a ha).2 hso
          refine ⟨fun hl' => ?_, fun hl' => ?_⟩
          · have hl2 : (S.1 a && !zp_lv i lk (zp_ofk K lk Hd) S.1 a) = true := hl'
            rw [Bool.and_eq_true, Bool.not_eq_true'] at hl2
            rw [q1 hl2.1, if_neg (fun r => by rw [hl2.2] at r; exact absurd r.2 (by decide))]
          · have hl2 : (S.1 a && !zp_lv i lk (zp_ofk K lk Hd) S.1 a) = false := hl'
            show g 138 a = (if zp_lv i lk (zp_ofk K lk Hd) S.1 a = true then ((n + 1 : Nat) : Int) else S.2.2 a) ∧ 1 ≤ (if zp_lv i lk (zp_ofk K lk Hd) S.1 a = true then ((n + 1 : Nat) : Int) else S.2.2 a) ∧ g 137 a = (((if S.1 a = true then zp_pp i lk (zp_ofk K lk Hd) S.1 a else S.2.1 a) : Nat) : Int)
            cases hSa : S.1 a with
            | true =>
              rw [hSa, Bool.true_and, Bool.not_eq_false'] at hl2
              rw [hl2, if_pos rfl, if_pos rfl, q1 hSa, if_pos ⟨ha, hl2⟩]
              exact ⟨rfl, by omega, h2 a hSa⟩
            | false =>
              have hlv : zp_lv i lk (zp_ofk K lk Hd) S.1 a = false := by unfold zp_lv; rw [hSa]; rfl
              rw [hlv]
              obtain ⟨r1, r2, r3⟩ := q2 hSa
              exact ⟨r1, r2, r3⟩
        | succ m2 ih2 =>
          intro i g hi fg h1 h2 h3
          have hiC : i < C := by omega
          refine zt_l (e_127_104 ht (w2 := zm_A 32) (fun e => absurd (show (1 : Nat) = 2 from e) (by decide))) ?_
          rw [(kF g fg).2.2.2.1, show (i : Int) + 1 = ((i + 1 : Nat) : Int) by omega]
          -- what holds when the i-th stays as he is
          have stay : (S.1 i = true → zp_lv C lk (zp_ofk K lk Hd) S.1 i = false) → ∀ a : Nat, a < C → (zp_ofo K lk Hd a = none → g 138 a = -1) ∧ ((zp_ofo K lk Hd a).isSome = true → (S.1 a = true → g 138 a = (if a < i + 1 ∧ zp_lv C lk (zp_ofk K lk Hd) S.1 a = true then ((n + 1 : Nat) : Int) else 0)) ∧ (S.1 a = false → g 138 a = S.2.2 a ∧ 1 ≤ S.2.2 a ∧ g 137 a = S.2.1 a)) := fun hno a ha => by
            refine ⟨(h3 a ha).1, fun hso => ⟨fun hSa => ?_, ((h3 a ha).2 hso).2⟩⟩
            rw [((h3 a ha).2 hso).1 hSa]
            by_cases hai : a = i
            · subst hai
              rw [hno hSa, if_neg (fun r => absurd r.2 (by decide)), if_neg (fun r => absurd r.2 (by decide))]
            · by_cases hlt : a < i
              · by_cases hlv : zp_lv C lk (zp_ofk K lk Hd) S.1 a = true
                · rw [if_pos ⟨hlt, hlv⟩, if_pos ⟨by omega, hlv⟩]
                · rw [if_neg (fun r => hlv r.2), if_neg (fun r => hlv r.2)]
              · rw [if_neg (fun r => hlt r.1), if_neg (fun r => by have := r.1; omega)]
          refine zt_t (by omega) (zt_c (by omega) (zt_p (fun q => ?_) (fun q => zt_c (by omega) ?_)))
          · -- he is left
            have hSi : S.1 i = true := by
              cases hso : zp_ofo K lk Hd i with
              | none => have := (h3 i hiC).1 hso; omega
              | some j =>
                cases hSi : S.1 i with
                | true => rfl
                | false =>
                  have := ((h3 i hiC).2 (by rw [hso]; rfl)).2 hSi
                  omega
            refine zt_I (s_130 hC8 hSi (fun a q => (hlC a q).1) (fun a q => zp_pp_in q) h2 rfl) ?_
            rintro z g2 ⟨rfl, rfl⟩
            have hlvi : zp_lv C lk (zp_ofk K lk Hd) S.1 i = zp_gr (zp_pp C lk (zp_ofk K lk Hd) S.1) i C (zp_pp C lk (zp_ofk K lk Hd) S.1 i) := by unfold zp_lv; rw [hSi, Bool.true_and]
            rw [← hlvi]
            cases hlv : zp_lv C lk (zp_ofk K lk Hd) S.1 i with
            | false =>
              refine zt_t rfl (zt_c (by omega) ?_)
              exact ih2 (i + 1) g2 (by omega) fg h1 h2 (stay (fun _ => hlv))
            | true =>
              refine zt_f (show ¬ (1 : Int) = 0 by decide) (zt_c (by omega) (zt_c (by omega) ?_))
              refine ih2 (i + 1) _ (by omega) (zq_F_tr fg (zq_F_wr (by unfold zf_Rg; omega))) (fun a ha => by rw [zq_wr_n (by decide)]; exact h1 a ha) (fun a ha => by rw [zq_wr_n (by decide)]; exact h2 a ha) (fun a ha => ?_)
              by_cases hai : a = i
              · subst hai
                refine ⟨fun hso => ?_, fun hso => ⟨fun hSa => ?_, fun hSa => ?_⟩⟩
                · have := (hlC a hSi).2.1; rw [hso] at this; cases this
                · rw [zq_wr_e, if_pos ⟨by omega, hlv⟩]
                · rw [hSi] at hSa; cases hSa
              · rw [zq_wr_i (by omega), zq_wr_n (by decide)]
                refine ⟨(h3 a ha).1, fun hso => ⟨fun hSa => ?_, ((h3 a ha).2 hso).2⟩⟩
                rw [((h3 a ha).2 hso).1 hSa]
                by_cases hlt : a < i
                · by_cases hlv2 : zp_lv C lk (zp_ofk K lk Hd) S.1 a = true
                  · rw [if_pos ⟨hlt, hlv2⟩, if_pos ⟨by omega, hlv2⟩]
                  · rw [if_neg (fun r => hlv2 r.2), if_neg (fun r => hlv2 r.2)]
                · rw [if_neg (fun r => hlt r.1), if_neg (fun r => by have := r.1; omega)]
          · refine ih2 (i + 1) g (by omega) fg h1 h2 (stay (fun hSi => ?_))
            have hso := (hsn i hSi).2
            have h0 := ((h3 i hiC).2 hso).1 hSi
            rw [if_neg (fun r => by have := r.1; omega)] at h0
            exact absurd h0 q
      -- whom each points at
      have points : ∀ (m2 i : Nat) (g : zm_H) (w4 : zm_V), i + m2 = C → zq_F zf_Rg h g → (∀ a : Nat, a < C → g 136 a = zp_oi (zp_ofo K lk Hd a)) → (∀ a : Nat, a < i → S.1 a = true → g 137 a = zp_pp C lk (zp_ofk K lk Hd) S.1 a) → (∀ a : Nat, a < C → (zp_ofo K lk Hd a = none → g 138 a = -1) ∧ ((zp_ofo K lk Hd a).isSome = true → (S.1 a = true → g 138 a = 0) ∧ (S.1 a = false → g 138 a = S.2.2 a ∧ 1 ≤ S.2.2 a ∧ g 137 a = S.2.1 a))) → zu (zr none 3 127 62 [zm_A 135, zm_A t, zm_A 32, zm_I ((n + 1 : Nat) : Int), zm_I i] [] g) (fun g => zq_F zf_Rg h g ∧ zv_Rc g C (zp_ofo K lk Hd) (zp_fin K C lk Hd)) := by
        intro m2
        induction m2 with
        | zero =>
          intro i g w4 hi fg h1 h2 h3
          refine zt_l (e_127_62 ht) ?_
          rw [(kF g fg).2.2.2.1]
          refine zt_f (by omega) (leave C 0 g (by omega) fg h1 (fun a ha => h2 a (by have := (hlC a ha).1; omega) ha) (fun a ha => ⟨(h3 a ha).1, fun hso => ⟨fun hSa => ?_, ((h3 a ha).2 hso).2⟩⟩))
          rw [((h3 a ha).2 hso).1 hSa, if_neg (fun r => by have := r.1; omega)]
        | succ m2 ih2 =>
          intro i g w4 hi fg h1 h2 h3
          have hiC : i < C := by omega
          have h138 : ∀ a : Nat, a < C → (g 138 a = 0 ↔ S.1 a = true) := fun a ha => by
            constructor
            · intro q
              cases hso : zp_ofo K lk Hd a with
              | none => have := (h3 a ha).1 hso; omega
              | some j =>
                cases hSi : S.1 a with
                | true => rfl
                | false =>
                  have := ((h3 a ha).2 (by rw [hso]; rfl)).2 hSi
                  omega
            · intro q; exact ((h3 a ha).2 (hsn a q).2).1 q
          refine zt_l (e_127_62 ht) ?_
          rw [(kF g fg).2.2.2.1, show (i : Int) + 1 = ((i + 1 : Nat) : Int) by omega]
          refine zt_t (by omega) (zt_c (by omega) (zt_p (fun q => ?_) (fun q => zt_c (by omega) ?_)))
          · have hSi := (h138 i hiC).mp q
            refine zt_I (s_129 (kF g fg) hB hSi hlC h1 h138) ?_
            rintro z g2 ⟨rfl, rfl⟩
            refine zt_c (by omega) (zt_c (by omega) (ih2 (i + 1) _ zm_U (by omega) (zq_F_tr fg (zq_F_wr (by unfold zf_Rg; omega))) (fun a ha => by rw [zq_wr_n (by decide)]; exact h1 a ha) (fun a ha hSa => ?_) (fun a ha => ?_)))
            · by_cases hai : a = i
              · subst hai; exact zq_wr_e
              · rw [zq_wr_i (by omega)]; exact h2 a (by omega) hSa
            · rw [zq_wr_n (by decide)]
              refine ⟨(h3 a ha).1, fun hso => ⟨((h3 a ha).2 hso).1, fun hSa => ?_⟩⟩
              have hai : a ≠ i := fun e => by rw [e, hSi] at hSa; cases hSa
              rw [zq_wr_i (by omega)]
              exact ((h3 a ha).2 hso).2 hSa
          · refine ih2 (i + 1) g zm_U (by omega) fg h1 (fun a ha hSa => ?_) h3
            by_cases hai : a = i
            · exact absurd ((h138 i hiC).mpr (hai ▸ hSa)) q
            · exact h2 a (by omega) hSa
      exact points C 0 g zm_U (by omega) fg R.1 (fun a ha => by omega) R.2
  -- the offers
  have offers : ∀ (m c : Nat) (g : zm_H) (w4 : zm_V), c + m = C → zq_F zf_Rg h g → (∀ a : Nat, a < c → g 136 a = zp_oi (zp_ofo K lk Hd a) ∧ (zp_ofo K lk Hd a = none → g 138 a = -1) ∧ ((zp_ofo K lk Hd a).isSome = true → g 138 a = 0)) → zu (zr none 3 127 2 [zm_A 135, zm_A t, zm_A 32, zm_I c, w4] [] g) (fun g => zq_F zf_Rg h g ∧ zv_Rc g C (zp_ofo K lk Hd) (zp_fin K C lk Hd)) := by
    intro m
    induction m with
    | zero =>
      intro c g w4 hc fg hv
      obtain rfl : c = C := by omega
      refine zt_l (e_127_2 zf_T_32 ht) ?_
      rw [(kF g fg).2.2.2.1]
      refine zt_f (by omega) (rounds c 0 g _ (by omega) fg ⟨fun a ha => (hv a ha).1, fun a ha => ⟨(hv a ha).2.1, fun hso => ⟨fun _ => (hv a ha).2.2 hso, fun hl => ?_⟩⟩⟩)
      have : (decide (a < c) && (zp_ofo K lk Hd a).isSome) = false := hl
      rw [hso, decide_eq_true ha] at this
      cases this
    | succ m ih =>
      intro c g w4 hc fg hv
      refine zt_l (e_127_2 zf_T_32 ht) ?_
      rw [(kF g fg).2.2.2.1, show (c : Int) + 1 = ((c + 1 : Nat) : Int) by omega]
      refine zt_t (by omega) (zt_I (s_128 (kF g fg) hB (kT g fg) (by omega)) ?_)
      rintro z g2 ⟨rfl, rfl⟩
      have ew : zm_wr g2 136 (c : Int) (zp_oi (zp_ofo K lk Hd c)) 136 (c : Int) = zp_oi (zp_ofo K lk Hd c) := zq_wr_e
      rw [ew]
      have nxt : ∀ v : Int, (zp_ofo K lk Hd c = none → v = -1) → ((zp_ofo K lk Hd c).isSome = true → v = 0) → zu (zr none 3 127 2 [zm_A 135, zm_A t, zm_A 32, zm_I ((c + 1 : Nat) : Int), w4] [] (zm_wr (zm_wr g2 136 (c : Int) (zp_oi (zp_ofo K lk Hd c))) 138 (c : Int) v)) (fun g => zq_F zf_Rg h g ∧ zv_Rc g C (zp_ofo K lk Hd) (zp_fin K C lk Hd)) := by
        intro v hv1 hv2
        refine ih (c + 1) _ _ (by omega) (zq_F_tr fg (zq_F_tr (zq_F_wr (by unfold zf_Rg; omega)) (zq_F_wr (by unfold zf_Rg; omega)))) (fun a ha => ?_)
        by_cases hac : a = c
        · subst hac
          rw [zq_wr_e, zq_wr_n (by decide), zq_wr_e]
          exact ⟨rfl, hv1, hv2⟩
        · have k136 : ∀ v' : Int, zm_wr (zm_wr g2 136 (c : Int) (zp_oi (zp_ofo K lk Hd c))) 138 (c : Int) v' 136 (a : Int) = g2 136 (a : Int) := fun v' => by
            rw [zq_wr_n (show (136 : Nat) ≠ 138 by decide), zq_wr_i (show (a : Int) ≠ c by omega)]
          have k138 : ∀ v' : Int, zm_wr (zm_wr g2 136 (c : Int) (zp_oi (zp_ofo K lk Hd c))) 138 (c : Int) v' 138 (a : Int) = g2 138 (a : Int) := fun v' => by
            rw [zq_wr_i (show (a : Int) ≠ c by omega), zq_wr_n (show (138 : Nat) ≠ 136 by decide)]
          rw [k136, k138]
          exact hv a (by omega)
      cases hso : zp_ofo K lk Hd c with
      | none =>
        rw [hso] at nxt
        exact zt_c (by omega) (zt_c (by omega) (zt_t rfl (zt_c (by omega) (zt_c (by omega) (nxt (-1) (fun _ => rfl) (fun q => by cases q))))))
      | some j =>
        rw [hso] at nxt
        exact zt_c (by omega) (zt_c (by omega) (zt_f (show ¬ (j : Int) = -1 by omega) (zt_c (by omega) (zt_c (by omega) (nxt 0 (fun q => by cases q) (fun _ => rfl))))))
  exact zt_l (e_127 zf_T_32 ht) (offers C 0 h _ (by omega) zq_F_rf (fun a ha => by omega))
theorem s_50 (hC : zv_C h t K L C wo sz re fe ru lk P Pu Hd hr dp) (hB : zv_B K L C wo sz re fe ru lk) (hX : zv_X K L C P Pu Hd hr dp) (y w : Int) : zi (zc 50 [zm_A 4, zm_I y, zm_I w] h) (fun z g => z = zp_q1 C y (zp_ring K C lk Hd w) ∧ zq_F zf_Cs h g) := by
  have hK8 := hB.1
  have hC8 := hB.2.2.1
  refine zt_l (e_50 hC.2.1.1) (zt_I (s_12 hC y) ?_)
  rintro z g ⟨rfl, rfl⟩
  by_cases hy : 0 ≤ y ∧ y < C
  · rw [if_pos hy]
    obtain ⟨c, rfl⟩ := Int.eq_ofNat_of_zero_le hy.1
    have hc : c < C := by omega
    rw [zp_q1_y hc]
    unfold zp_ring
    refine zt_f (by decide) (zt_I (s_151 hC.2.2.1 hX.2.1.1 (by omega)) ?_)
    rintro z g ⟨rfl, rfl⟩
    refine zt_p (fun q => zi_e ⟨by rw [if_pos q], zq_F_rf⟩) (fun q => ?_)
    rw [if_neg q]
    have hso : (zp_ofo K lk Hd c).isSome = true := by
      cases ho : zp_ofo K lk Hd c with
      | none => exact absurd ((zp_ofo_hb hX.2.1 hK8 (by omega)).mpr ho) q
      | some j => rfl
    refine zt_c hC.1 (zt_V (s_127 hC.2.1 hB hC.2.2.1) ?_)
    rintro g2 ⟨f2, R⟩
    have f3 : zq_F zf_Cs g g2 := zq_F_wk f2 (fun a i q => by unfold zf_Rg at q; unfold zf_Cs; omega)
    have hend : (zp_fin K C lk Hd).1 c = false := zp_rr_end (fun a q => by
      have : (decide (a < C) && (zp_ofo K lk Hd a).isSome) = true := q
      rw [Bool.and_eq_true, decide_eq_true_iff] at this
      exact this.1) c
    obtain ⟨r1, r2, r3⟩ := ((R.2 c hc).2 hso).2 hend
    refine zt_p (fun c0 => ?_) (fun c0 => ?_)
    · rw [if_pos c0]; exact zt_c (by omega) (zi_e ⟨r3, f3⟩)
    rw [if_neg c0]
    refine zt_p (fun c1 => ?_) (fun c1 => ?_)
    · rw [if_pos c1]; exact zt_c (by omega) (zi_e ⟨R.1 c hc, f3⟩)
    rw [if_neg c1]
    refine zt_p (fun c2 => ?_) (fun c2 => ?_)
    · rw [if_pos c2]; exact zt_c (by omega) (zi_e ⟨r1, f3⟩)
    rw [if_neg c2]
    exact zi_e ⟨rfl, f3⟩
  · rw [if_neg hy]
    exact zt_t rfl (zi_e ⟨(zp_q1_n hy).symm, zq_F_rf⟩)
end
