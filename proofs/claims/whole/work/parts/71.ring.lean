/-! RINGS: what both sides reckon -/
def zp_of (w hd : Nat → Int) : Nat → Nat → Option Nat → Option Nat
  | 0, _, b => b
  | m + 1, k, b => zp_of w hd m (k + 1) (if hd k = 0 then b else match b with | none => some k | some j => if w k < w j then some k else some j)
def zp_oi : Option Nat → Int
  | none => -1
  | some k => (k : Int)
def zp_ch (w : Nat → Int) (lf : Nat → Bool) : Nat → Nat → Nat → Nat
  | 0, _, b => b
  | m + 1, i, b => zp_ch w lf m (i + 1) (if lf i = true ∧ w b < w i then i else b)
def zp_gr (p : Nat → Nat) (c : Nat) : Nat → Nat → Bool
  | 0, a => decide (a = c)
  | m + 1, a => if a = c then true else zp_gr p c m (p a)
/-- a state: who is left, whom each points at, in which round each left -/
abbrev zp_RS : Type := (Nat → Bool) × (Nat → Nat) × (Nat → Int)
def zp_pp (C : Nat) (lk : Nat → Nat → Int) (of : Nat → Nat) (lf : Nat → Bool) (c : Nat) : Nat := zp_ch (fun o => lk c (of o)) lf C 0 c
def zp_lv (C : Nat) (lk : Nat → Nat → Int) (of : Nat → Nat) (lf : Nat → Bool) (c : Nat) : Bool := lf c && zp_gr (zp_pp C lk of lf) c C (zp_pp C lk of lf c)
def zp_rd (C : Nat) (lk : Nat → Nat → Int) (of : Nat → Nat) (r : Int) (s : zp_RS) : zp_RS :=
  (fun c => s.1 c && !zp_lv C lk of s.1 c, fun c => if s.1 c = true then zp_pp C lk of s.1 c else s.2.1 c, fun c => if zp_lv C lk of s.1 c = true then r else s.2.2 c)
def zp_rr (C : Nat) (lk : Nat → Nat → Int) (of : Nat → Nat) (s : zp_RS) : Nat → zp_RS
  | 0 => s
  | n + 1 => zp_rd C lk of ((n + 1 : Nat) : Int) (zp_rr C lk of s n)
theorem zp_pig : ∀ (n : Nat) (f : Nat → Nat), (∀ i, i ≤ n → f i < n) → ∃ i j, i < j ∧ j ≤ n ∧ f i = f j := by
  intro n
  induction n with
  | zero => intro f h; exact absurd (h 0 (Nat.le_refl _)) (Nat.not_lt_zero _)
  | succ n ih =>
    intro f h
    by_cases hs : ∃ i, i ≤ n ∧ f i = f (n + 1)
    · obtain ⟨i, hi, he⟩ := hs
      exact ⟨i, n + 1, by omega, Nat.le_refl _, he⟩
    · have hne : ∀ i, i ≤ n → f i ≠ f (n + 1) := fun i hi he => hs ⟨i, hi, he⟩
      have hl := h (n + 1) (Nat.le_refl _)
      obtain ⟨i, j, hij, hj, he⟩ := ih (fun i => if f i = n then f (n + 1) else f i) (fun i hi => by
        have h1 := h i (by omega)
        have h2 := hne i hi
        show (if f i = n then f (n + 1) else f i) < n
        split <;> omega)
      have e2 : (if f i = n then f (n + 1) else f i) = (if f j = n then f (n + 1) else f j) := he
      have h1 := hne i (by omega)
      have h2 := hne j hj
      refine ⟨i, j, hij, by omega, ?_⟩
      split at e2 <;> split at e2 <;> omega
def zp_it (p : Nat → Nat) : Nat → Nat → Nat
  | 0, a => a
  | n + 1, a => zp_it p n (p a)
theorem zp_it_s (p : Nat → Nat) : ∀ (n a : Nat), zp_it p (n + 1) a = p (zp_it p n a) := by
  intro n
  induction n with
  | zero => intro a; rfl
  | succ n ih => intro a; exact ih (p a)
theorem zp_it_a (p : Nat → Nat) (m : Nat) : ∀ (n a : Nat), zp_it p (m + n) a = zp_it p m (zp_it p n a) := by
  intro n
  induction n with
  | zero => intro a; rfl
  | succ n ih => intro a; exact ih (p a)
theorem zp_gr_iff (p : Nat → Nat) (c : Nat) : ∀ (m a : Nat), zp_gr p c m a = true ↔ ∃ j, j ≤ m ∧ zp_it p j a = c := by
  intro m
  induction m with
  | zero =>
    intro a
    unfold zp_gr
    rw [decide_eq_true_iff]
    constructor
    · intro h; exact ⟨0, Nat.le_refl _, h⟩
    · rintro ⟨j, hj, he⟩
      obtain rfl : j = 0 := by omega
      exact he
  | succ m ih =>
    intro a
    unfold zp_gr
    by_cases h : a = c
    · rw [if_pos h]; exact ⟨fun _ => ⟨0, by omega, h⟩, fun _ => rfl⟩
    · rw [if_neg h, ih]
      constructor
      · rintro ⟨j, hj, he⟩; exact ⟨j + 1, by omega, he⟩
      · rintro ⟨j, hj, he⟩
        cases j with
        | zero => exact absurd he h
        | succ j => exact ⟨j, by omega, he⟩
/-- the least period -/
theorem zp_per {p : Nat → Nat} {C c : Nat} {lf : Nat → Bool} (hC : ∀ a, lf a = true → a < C) (hp : ∀ a, lf a = true → lf (p a) = true) (hc : lf c = true) {m : Nat} (h : zp_it p (m + 1) c = c) : ∃ j, j < C ∧ zp_it p (j + 1) c = c := by
  have hin : ∀ i, lf (zp_it p i c) = true := by
    intro i
    induction i with
    | zero => exact hc
    | succ i ih => rw [zp_it_s]; exact hp _ ih
  induction m using Nat.strongRecOn with
  | ind m ih =>
    by_cases hm : m < C
    · exact ⟨m, hm, h⟩
    · obtain ⟨i, j, hij, hj, he⟩ := zp_pig C (fun i => zp_it p i c) (fun i _ => hC _ (hin i))
      have he' : zp_it p i c = zp_it p j c := he
      have h1 : zp_it p (m + 1 - j + i) c = c := by
        rw [zp_it_a, he', ← zp_it_a, show m + 1 - j + j = m + 1 by omega, h]
      by_cases h0 : m + 1 - j + i = 0
      · omega
      · have := ih (m + 1 - j + i - 1) (by omega) (by rw [show m + 1 - j + i - 1 + 1 = m + 1 - j + i by omega]; exact h1)
        exact this
/-- a ring is seen within C steps, or never -/
theorem zp_gr_eq {p : Nat → Nat} {C c m : Nat} {lf : Nat → Bool} (hC : ∀ a, lf a = true → a < C) (hp : ∀ a, lf a = true → lf (p a) = true) (hc : lf c = true) (hm : C ≤ m) : zp_gr p c m (p c) = zp_gr p c C (p c) := by
  have h1 : zp_gr p c m (p c) = true ↔ zp_gr p c C (p c) = true := by
    rw [zp_gr_iff, zp_gr_iff]
    constructor
    · rintro ⟨j, hj, he⟩
      obtain ⟨i, hi, hi2⟩ := zp_per hC hp hc (m := j) he
      exact ⟨i, by omega, hi2⟩
    · rintro ⟨j, hj, he⟩; exact ⟨j, by omega, he⟩
  cases h2 : zp_gr p c m (p c) <;> cases h3 : zp_gr p c C (p c)
  · rfl
  · rw [h2, h3] at h1; exact absurd (h1.mpr rfl) (by decide)
  · rw [h2, h3] at h1; exact absurd (h1.mp rfl) (by decide)
  · rfl
theorem zp_ch_in {w : Nat → Int} {lf : Nat → Bool} : ∀ (m i b : Nat), lf b = true → lf (zp_ch w lf m i b) = true := by
  intro m
  induction m with
  | zero => intro i b h; exact h
  | succ m ih =>
    intro i b h
    unfold zp_ch
    refine ih _ _ ?_
    split
    · next q => exact q.1
    · exact h
theorem zp_pp_in {C : Nat} {lk : Nat → Nat → Int} {of : Nat → Nat} {lf : Nat → Bool} {c : Nat} (h : lf c = true) : lf (zp_pp C lk of lf c) = true := zp_ch_in _ _ _ h
/-- somebody goes round -/
theorem zp_some {C : Nat} {lk : Nat → Nat → Int} {of : Nat → Nat} {lf : Nat → Bool} (hC : ∀ a, lf a = true → a < C) {c : Nat} (hc : lf c = true) : ∃ a, lf a = true ∧ zp_lv C lk of lf a = true := by
  have hin : ∀ i, lf (zp_it (zp_pp C lk of lf) i c) = true := by
    intro i
    induction i with
    | zero => exact hc
    | succ i ih => rw [zp_it_s]; exact zp_pp_in ih
  obtain ⟨i, j, hij, hj, he⟩ := zp_pig C (fun i => zp_it (zp_pp C lk of lf) i c) (fun i _ => hC _ (hin i))
  have he' : zp_it (zp_pp C lk of lf) i c = zp_it (zp_pp C lk of lf) j c := he
  refine ⟨zp_it (zp_pp C lk of lf) i c, hin i, ?_⟩
  unfold zp_lv
  rw [hin i, Bool.true_and, zp_gr_iff]
  refine ⟨j - i - 1, by omega, ?_⟩
  have : zp_it (zp_pp C lk of lf) (j - i - 1 + 1) (zp_it (zp_pp C lk of lf) i c) = zp_it (zp_pp C lk of lf) i c := by
    rw [← zp_it_a, show j - i - 1 + 1 + i = j by omega]; exact he'.symm
  exact this
def zp_nl (lf : Nat → Bool) : Nat → Nat
  | 0 => 0
  | n + 1 => zp_nl lf n + (if lf n = true then 1 else 0)
theorem zp_nl_le {f g : Nat → Bool} (h : ∀ a, f a = true → g a = true) : ∀ n, zp_nl f n ≤ zp_nl g n := by
  intro n
  induction n with
  | zero => exact Nat.le_refl _
  | succ n ih =>
    simp only [zp_nl]
    by_cases h1 : f n = true
    · rw [if_pos h1, if_pos (h n h1)]; omega
    · rw [if_neg h1]; split <;> omega
theorem zp_nl_lt {f g : Nat → Bool} (h : ∀ a, f a = true → g a = true) {a : Nat} (h1 : g a = true) (h2 : f a = false) : ∀ n, a < n → zp_nl f n < zp_nl g n := by
  intro n
  induction n with
  | zero => intro q; omega
  | succ n ih =>
    intro q
    simp only [zp_nl]
    by_cases hn : a = n
    · subst hn
      have := zp_nl_le h a
      rw [if_pos h1, if_neg (by rw [h2]; decide)]; omega
    · have := ih (by omega)
      by_cases h3 : f n = true
      · rw [if_pos h3, if_pos (h n h3)]; omega
      · rw [if_neg h3]; split <;> omega
theorem zp_nl_n (lf : Nat → Bool) : ∀ n, zp_nl lf n ≤ n := by
  intro n
  induction n with
  | zero => exact Nat.le_refl _
  | succ n ih => simp only [zp_nl]; split <;> omega
theorem zp_nl_0 {lf : Nat → Bool} : ∀ n, zp_nl lf n = 0 → ∀ a, a < n → lf a = false := by
  intro n
  induction n with
  | zero => intro _ a h; omega
  | succ n ih =>
    intro h a ha
    simp only [zp_nl] at h
    by_cases han : a = n
    · subst han
      cases hl : lf a with
      | false => rfl
      | true => rw [hl] at h; simp at h
    · exact ih (by omega) a (by omega)
section
variable {C : Nat} {lk : Nat → Nat → Int} {of : Nat → Nat} {s : zp_RS}
theorem zp_rr_sub (hs : ∀ a, s.1 a = true → a < C) : ∀ n a, (zp_rr C lk of s n).1 a = true → a < C ∧ s.1 a = true := by
  intro n
  induction n with
  | zero => intro a h; exact ⟨hs a h, h⟩
  | succ n ih =>
    intro a h
    have : ((zp_rr C lk of s n).1 a && !zp_lv C lk of (zp_rr C lk of s n).1 a) = true := h
    rw [Bool.and_eq_true] at this
    exact ih a this.1
theorem zp_rr_nl (hs : ∀ a, s.1 a = true → a < C) : ∀ n, zp_nl (zp_rr C lk of s n).1 C ≤ C - n := by
  intro n
  induction n with
  | zero => exact zp_nl_n _ _
  | succ n ih =>
    have hsub := zp_rr_sub (lk := lk) (of := of) hs n
    generalize hS : zp_rr C lk of s n = S at ih hsub
    show zp_nl (zp_rd C lk of ((n + 1 : Nat) : Int) (zp_rr C lk of s n)).1 C ≤ _
    rw [hS]
    have hle : ∀ a, (zp_rd C lk of ((n + 1 : Nat) : Int) S).1 a = true → S.1 a = true := fun a h => by
      have : (S.1 a && !zp_lv C lk of S.1 a) = true := h
      rw [Bool.and_eq_true] at this
      exact this.1
    by_cases hz : zp_nl S.1 C = 0
    · have := zp_nl_le hle C; omega
    · -- somebody is left
      have hex : ∃ a, a < C ∧ S.1 a = true := by
        refine Classical.byContradiction (fun q => hz ?_)
        have hall : ∀ m, m ≤ C → zp_nl S.1 m = 0 := by
          intro m
          induction m with
          | zero => intro _; rfl
          | succ m ih2 =>
            intro hm
            simp only [zp_nl]
            rw [ih2 (by omega), if_neg (fun r => q ⟨m, by omega, r⟩)]
        exact hall C (Nat.le_refl _)
      obtain ⟨a, ha, hSa⟩ := hex
      obtain ⟨x, hx, hlv⟩ := zp_some (C := C) (lk := lk) (of := of) (fun a h => (hsub a h).1) hSa
      have := zp_nl_lt hle hx (show (S.1 x && !zp_lv C lk of S.1 x) = false by rw [hlv]; simp) C (hsub x hx).1
      omega
theorem zp_rr_end (hs : ∀ a, s.1 a = true → a < C) (a : Nat) : (zp_rr C lk of s C).1 a = false := by
  cases h : (zp_rr C lk of s C).1 a with
  | false => rfl
  | true =>
    have h1 := (zp_rr_sub (lk := lk) (of := of) hs C a h).1
    have h2 := zp_rr_nl (lk := lk) (of := of) hs C
    have := zp_nl_0 (lf := (zp_rr C lk of s C).1) C (by omega) a h1
    rw [this] at h; cases h
/-- once nobody is left nothing changes -/
theorem zp_rr_stop {n : Nat} (h : ∀ a, (zp_rr C lk of s n).1 a = false) : ∀ m, (zp_rr C lk of s (n + m)) = zp_rr C lk of s n := by
  intro m
  induction m with
  | zero => rfl
  | succ m ih =>
    show zp_rd C lk of ((n + m + 1 : Nat) : Int) (zp_rr C lk of s (n + m)) = _
    rw [ih]
    generalize zp_rr C lk of s n = S at h
    unfold zp_rd
    have hl : ∀ a, zp_lv C lk of S.1 a = false := fun a => by unfold zp_lv; rw [h a]; rfl
    refine Prod.ext ?_ (Prod.ext ?_ ?_)
    · funext c; show (S.1 c && _) = S.1 c; rw [h c]; rfl
    · funext c; show (if S.1 c = true then _ else S.2.1 c) = S.2.1 c; rw [h c]; rfl
    · funext c; show (if zp_lv C lk of S.1 c = true then _ else S.2.2 c) = S.2.2 c; rw [hl c]; rfl
end
