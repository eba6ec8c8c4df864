/-! THE TWO MODELS WHEN THEY ARE MADE: a machine whose heap is a list of numbers, so that the kernel can run it; its run is a run of the plain machine -/
noncomputable def zj_lk (D : List Nat) (k : Nat) : Int := List.rec (motive := fun _ => Int) 0 (fun e _ ih => Bool.rec (motive := fun _ => Int) ih (Int.subNatNat (Nat.mod e 8589934592) 4294967296) (Nat.beq (Nat.div e 8589934592) k)) D
theorem zj_lk_cons (e : Nat) (D : List Nat) (k : Nat) : zj_lk (e :: D) k = if e / 8589934592 = k then Int.subNatNat (e % 8589934592) 4294967296 else zj_lk D k := by
  show Bool.rec (motive := fun _ => Int) (zj_lk D k) (Int.subNatNat (e % 8589934592) 4294967296) (Nat.beq (e / 8589934592) k) = _
  cases hb : Nat.beq (e / 8589934592) k with
  | true => rw [if_pos (Nat.eq_of_beq_eq_true hb)]
  | false => rw [if_neg (Nat.ne_of_beq_eq_false hb)]
noncomputable def zj_h (D : List Nat) : zm_H := fun a i => match i with
  | .ofNat n => Bool.rec (motive := fun _ => Int) 0 (zj_lk D (Nat.add (Nat.mul a 4096) n)) (Nat.ble (Nat.succ n) 4096)
  | .negSucc _ => 0
theorem zj_h_at {D : List Nat} {a n : Nat} (hn : n < 4096) : zj_h D a (n : Int) = zj_lk D (a * 4096 + n) := by
  show Bool.rec (motive := fun _ => Int) 0 (zj_lk D (a * 4096 + n)) (Nat.ble (Nat.succ n) 4096) = _
  rw [Nat.ble_eq_true_of_le hn]
theorem zj_h_out {D : List Nat} {a n : Nat} (hn : ¬ n < 4096) : zj_h D a (n : Int) = 0 := by
  show Bool.rec (motive := fun _ => Int) 0 (zj_lk D (a * 4096 + n)) (Nat.ble (Nat.succ n) 4096) = _
  cases hb : Nat.ble (Nat.succ n) 4096 with
  | true => exact absurd (Nat.le_of_ble_eq_true hb) hn
  | false => rfl
def zj_en (a n : Nat) (z : Int) : Nat := (a * 4096 + n) * 8589934592 + (z + 4294967296).toNat
noncomputable def zj_wr (D : List Nat) (a n : Nat) (z : Int) : List Nat := if zj_lk D (a * 4096 + n) = z then D else zj_en a n z :: D
theorem zj_wr_at {D : List Nat} {a n b m : Nat} {z : Int} (hn : n < 4096) (hm : m < 4096) (hz : -4294967296 ≤ z ∧ z < 4294967296) : zj_lk (zj_wr D a n z) (b * 4096 + m) = if b = a ∧ (m : Int) = (n : Int) then z else zj_lk D (b * 4096 + m) := by
  unfold zj_wr
  by_cases e : zj_lk D (a * 4096 + n) = z
  · rw [if_pos e]
    by_cases q : b = a ∧ (m : Int) = (n : Int)
    · rw [if_pos q]
      obtain ⟨rfl, q⟩ := q
      have : m = n := by omega
      subst this
      exact e
    · rw [if_neg q]
  · rw [if_neg e, zj_lk_cons]
    have e1 : zj_en a n z / 8589934592 = a * 4096 + n := by unfold zj_en; omega
    have e2 : Int.subNatNat (zj_en a n z % 8589934592) 4294967296 = z := by rw [Int.subNatNat_eq_coe]; unfold zj_en; omega
    rw [e1, e2]
    by_cases q : b = a ∧ (m : Int) = (n : Int)
    · rw [if_pos q, if_pos (by obtain ⟨rfl, q⟩ := q; omega)]
    · rw [if_neg q, if_neg (fun w => q ⟨by omega, by omega⟩)]
theorem zj_wr_ok {D : List Nat} {a n : Nat} {z : Int} (hn : n < 4096) (hz : -4294967296 ≤ z ∧ z < 4294967296) : zj_h (zj_wr D a n z) = zm_wr (zj_h D) a n z := by
  funext b i
  cases i with
  | negSucc j =>
    have w : ¬ (b = a ∧ Int.negSucc j = (n : Int)) := fun q => by have := q.2; have := Int.negSucc_lt_zero j; omega
    show (0 : Int) = if b = a ∧ Int.negSucc j = (n : Int) then z else 0
    rw [if_neg w]
  | ofNat m =>
    show zj_h (zj_wr D a n z) b (m : Int) = if b = a ∧ (m : Int) = (n : Int) then z else zj_h D b (m : Int)
    by_cases hm : m < 4096
    · rw [zj_h_at hm, zj_h_at hm, zj_wr_at hn hm hz]
    · rw [zj_h_out hm, zj_h_out hm, if_neg (fun q => hm (by have := q.2; omega))]
noncomputable def zj_fresh (D : List Nat) (a : Nat) : Bool := List.rec (motive := fun _ => Bool) true (fun e _ ih => Bool.rec (motive := fun _ => Bool) ih false (Nat.beq (Nat.div e 35184372088832) a)) D
theorem zj_fresh_lk {a n : Nat} (hn : n < 4096) : ∀ {D : List Nat}, zj_fresh D a = true → zj_lk D (a * 4096 + n) = 0 := by
  intro D
  induction D with
  | nil => intro _; rfl
  | cons e D ih =>
    intro h
    have h1 : Bool.rec (motive := fun _ => Bool) (zj_fresh D a) false (Nat.beq (e / 35184372088832) a) = true := h
    cases hb : Nat.beq (e / 35184372088832) a with
    | true => rw [hb] at h1; cases h1
    | false =>
      rw [hb] at h1
      have := Nat.ne_of_beq_eq_false hb
      rw [zj_lk_cons, if_neg (by omega)]
      exact ih h1
theorem zj_fresh_ok {D : List Nat} {a : Nat} (h : zj_fresh D a = true) : zj_h D = zm_zr (zj_h D) a := by
  funext b i
  show _ = if b = a then 0 else zj_h D b i
  by_cases q : b = a
  · rw [if_pos q, q]
    cases i with
    | negSucc j => rfl
    | ofNat m =>
      show zj_h D a (m : Int) = 0
      by_cases hm : m < 4096
      · rw [zj_h_at hm, zj_fresh_lk hm h]
      · rw [zj_h_out hm]
  · rw [if_neg q]
/-! what a step writes -/
noncomputable def zj_pw (D : List Nat) (a : Nat) (i z : Int) : Option (List Nat) := zm_ck (0 ≤ i ∧ i < 4096 ∧ -4294967296 ≤ z ∧ z < 4294967296) (some (zj_wr D a i.toNat z))
theorem zj_pw_ok {D D' : List Nat} {a : Nat} {i z : Int} (h : zj_pw D a i z = some D') : zm_wr (zj_h D) a i z = zj_h D' := by
  obtain ⟨⟨h1, h2, h3, h4⟩, h5⟩ := zm_ck_some h
  cases h5
  rw [zj_wr_ok (by omega) ⟨h3, h4⟩, Int.toNat_of_nonneg h1]
noncomputable def zj_D (y : Nat) (i : Instr) (stk : List zm_V) (nx : Nat) (D : List Nat) : Option (List Nat) := match i with
  | .putfield ix => match stk with
    | v :: .inr (.inr (.inl o)) :: _ => match zm_fld (zm_own y) ix with
      | some (c, k, _) => match v with
        | .inl z => zj_pw D o (k : Int) z
        | .inr (.inl z) => zj_pw D o (k : Int) z
        | .inr (.inr (.inl a)) => if zm_ft c k = 3 then zj_pw D o (k : Int) 1 else zj_pw D o (k : Int) (a : Int)
        | _ => none
      | none => none
    | _ => none
  | .iastore => match stk with
    | .inl z :: .inl i :: .inr (.inr (.inl a)) :: _ => zj_pw D a i z
    | _ => none
  | .lastore => match stk with
    | .inr (.inl z) :: .inl i :: .inr (.inr (.inl a)) :: _ => zj_pw D a i z
    | _ => none
  | .bastore => match stk with
    | .inl z :: .inl i :: .inr (.inr (.inl a)) :: _ => zj_pw D a i z
    | _ => none
  | .aastore => match stk with
    | .inr (.inr (.inl _)) :: .inl i :: .inr (.inr (.inl a)) :: _ => zj_pw D a i 1
    | _ => none
  | .new _ => Bool.rec (motive := fun _ => Option (List Nat)) none (some D) (zj_fresh D nx)
  | .newarray _ => Bool.rec (motive := fun _ => Option (List Nat)) none (some D) (zj_fresh D nx)
  | .anewarray _ => Bool.rec (motive := fun _ => Option (List Nat)) none (some D) (zj_fresh D nx)
  | _ => some D
def zj_kind (i : Instr) : Nat := match i with
  | .putfield _ => 1
  | .iastore => 1
  | .lastore => 1
  | .bastore => 1
  | .aastore => 1
  | .new _ => 1
  | .newarray _ => 1
  | .anewarray _ => 1
  | _ => 0
def zj_K (h : zm_H) (o : Option zm_N) : Prop := ∀ (pc : Nat) (loc stk : List zm_V) (nx : Nat) (g : zm_H), o = some (.inl (pc, loc, stk, nx, g)) → g = h
theorem zj_K_go {h : zm_H} {pc nx : Nat} {loc stk : List zm_V} : zj_K h (zm_go pc loc stk nx h) := fun _ _ _ _ _ e => by cases e; rfl
theorem zj_K_none {h : zm_H} : zj_K h none := fun _ _ _ _ _ e => by cases e
theorem zj_K_end {h : zm_H} {x : zm_V ⊕ (Nat × List zm_V × List zm_V)} : zj_K h (some (.inr x)) := fun _ _ _ _ _ e => by cases e
theorem zj_K_ck {h : zm_H} {p : Prop} [Decidable p] {o : Option zm_N} (k : zj_K h o) : zj_K h (zm_ck p o) := fun _ _ _ _ _ e => k _ _ _ _ _ (zm_ck_some e).2
theorem zj_K_bind {h : zm_H} {α : Type} {o : Option α} {f : α → Option zm_N} (k : ∀ v, zj_K h (f v)) : zj_K h (o.bind f) := fun _ _ _ _ _ e => by
  obtain ⟨v, -, e⟩ := Option.bind_eq_some_iff.mp e
  exact k v _ _ _ _ _ e
theorem zj_K_jmp {h : zm_H} {pc nx : Nat} {off : Int} {loc stk : List zm_V} : zj_K h (zm_jmp pc off loc stk nx h) := zj_K_ck zj_K_go
theorem zj_K_call {h : zm_H} {rk q nx : Nat} {vir : Bool} {stk : List zm_V} : zj_K h (zm_call rk vir q stk nx) := zj_K_ck zj_K_end
set_option maxHeartbeats 4000000 in
theorem zj_keep {X : Option (Nat × (Int → Int))} {md : Bool} {rk y pc nx : Nat} {loc stk : List zm_V} {h : zm_H} {i : Instr} (hsup : zm_sup i = true) (hk : zj_kind i = 0) : zj_K h (zm_si X md rk y pc loc stk nx h i) := by
  cases i
  all_goals first
    | exact absurd hsup Bool.false_ne_true
    | exact absurd (show (1 : Nat) = 0 from hk) (by decide)
    | (simp only [zm_si]
       repeat' (first | with_reducible exact zj_K_go | with_reducible exact zj_K_none | with_reducible exact zj_K_call | with_reducible exact zj_K_jmp | with_reducible exact zj_K_end | with_reducible refine zj_K_ck ?_ | with_reducible refine zj_K_bind (fun v => ?_) | split))
theorem zj_D0 {y nx : Nat} {i : Instr} {stk : List zm_V} {D : List Nat} (hk : zj_kind i = 0) : zj_D y i stk nx D = some D := by
  cases i
  all_goals first
    | rfl
    | exact absurd (show (1 : Nat) = 0 from hk) (by decide)
theorem zj_si {rk y pc nx pc' nx' : Nat} {loc stk loc' stk' : List zm_V} {D D' : List Nat} {h' : zm_H} {i : Instr} (hsup : zm_sup i = true) (hs : zm_si none false rk y pc loc stk nx (zj_h D) i = some (.inl (pc', loc', stk', nx', h'))) (hD : zj_D y i stk nx D = some D') : h' = zj_h D' := by
  by_cases hk : zj_kind i = 0
  · rw [zj_D0 hk] at hD
    cases hD
    exact zj_keep hsup hk _ _ _ _ _ hs
  · have fr : ∀ {a : Nat}, Bool.rec (motive := fun _ => Option (List Nat)) none (some D) (zj_fresh D a) = some D' → zm_zr (zj_h D) a = zj_h D' := by
      intro a w
      cases hb : zj_fresh D a with
      | true => rw [hb] at w; cases w; exact (zj_fresh_ok hb).symm
      | false => rw [hb] at w; cases w
    cases i
    case putfield ix =>
      simp only [zm_si, zm_go] at hs
      split at hs
      · next v o r =>
        split at hs
        · next cc k0 p0 hf =>
          obtain ⟨-, hs⟩ := zm_ck_some hs
          obtain ⟨g, hv, hs⟩ := Option.bind_eq_some_iff.mp hs
          cases hs
          simp only [zj_D, hf] at hD
          unfold zm_wrf at hv
          split at hv
          · cases hv; exact zj_pw_ok hD
          · obtain ⟨-, hv⟩ := zm_ck_some hv
            cases hv; exact zj_pw_ok hD
          · cases hv; exact zj_pw_ok hD
          · next a ht _ =>
            obtain ⟨-, hv⟩ := zm_ck_some hv
            cases hv
            have hD2 : (if zm_ft cc k0 = 3 then zj_pw D o (k0 : Int) 1 else zj_pw D o (k0 : Int) (a : Int)) = some D' := hD
            rw [if_pos ht] at hD2
            exact zj_pw_ok hD2
          · next a ht _ =>
            obtain ⟨-, hv⟩ := zm_ck_some hv
            cases hv
            have hD2 : (if zm_ft cc k0 = 3 then zj_pw D o (k0 : Int) 1 else zj_pw D o (k0 : Int) (a : Int)) = some D' := hD
            have hn : ¬ zm_ft cc k0 = 3 := by rw [ht]; decide
            rw [if_neg hn] at hD2
            exact zj_pw_ok hD2
          · cases hv
        · cases hs
      · cases hs
    case iastore =>
      simp only [zm_si, zm_go] at hs
      split at hs
      · obtain ⟨-, hs⟩ := zm_ck_some hs
        cases hs
        exact zj_pw_ok hD
      · cases hs
    case lastore =>
      simp only [zm_si, zm_go] at hs
      split at hs
      · obtain ⟨-, hs⟩ := zm_ck_some hs
        cases hs
        exact zj_pw_ok hD
      · cases hs
    case bastore =>
      simp only [zm_si, zm_go] at hs
      split at hs
      · obtain ⟨-, hs⟩ := zm_ck_some hs
        cases hs
        exact zj_pw_ok hD
      · cases hs
    case aastore =>
      simp only [zm_si, zm_go] at hs
      split at hs
      · obtain ⟨-, hs⟩ := zm_ck_some hs
        cases hs
        exact zj_pw_ok hD
      · cases hs
    case new ix =>
      simp only [zm_si, zm_go] at hs
      split at hs
      · obtain ⟨-, hs⟩ := zm_ck_some hs
        cases hs
        exact fr hD
      · cases hs
    case newarray t =>
      simp only [zm_si, zm_go] at hs
      split at hs
      · split at hs
        · obtain ⟨-, hs⟩ := zm_ck_some hs
          cases hs
          exact fr hD
        · cases hs
      · cases hs
    case anewarray ix =>
      simp only [zm_si, zm_go] at hs
      split at hs
      · split at hs
        · obtain ⟨-, hs⟩ := zm_ck_some hs
          cases hs
          exact fr hD
        · cases hs
      · cases hs
    all_goals exact absurd rfl hk
/-! the machine: frames that wait, numbers of the heap -/
abbrev zj_F : Type := Nat × Nat × Nat × List zm_V × List zm_V
/-- running: the frame in front, the frames that wait, the next id, the heap; or at the end: the answer -/
abbrev zj_S : Type := (zj_F × List zj_F × Nat × List Nat) ⊕ (zm_V × Nat × List Nat)
noncomputable def zj_run (F : zj_F) (S : Nat × zm_H) : Option (zm_V × Nat × zm_H) := zm_run none false F.1 F.2.1 F.2.2.1 F.2.2.2.1 F.2.2.2.2 S
noncomputable def zj_wait : List zj_F → zm_V × Nat × zm_H → Option (zm_V × Nat × zm_H)
  | [], r => some r
  | F :: K, r => (zj_run (F.1, F.2.1, F.2.2.1, F.2.2.2.1, zm_push r.1 F.2.2.2.2) r.2).bind (zj_wait K)
noncomputable def zj_den (s : zj_S) : Option (zm_V × Nat × zm_H) := match s with
  | .inl (F, K, nx, D) => (zj_run F (nx, zj_h D)).bind (zj_wait K)
  | .inr (v, nx, D) => some (v, nx, zj_h D)
noncomputable def zj_one (s : zj_S) : Option zj_S := match s with
  | .inl ((rk, y, pc, loc, stk), K, nx, D) => match zi_in y pc with
    | some (i, len) => zm_ck ((zm_len i = none ∨ zm_len i = some len) ∧ zm_sup i = true) (match zm_fl i (zm_si none false rk y pc loc stk nx (zj_h D) i) with
      | some (.inl (pc', loc', stk', nx', _)) => zm_ck (nx ≤ nx') (match zj_D y i stk nx D with
        | some D' => some (.inl ((rk, y, pc', loc', stk'), K, nx', D'))
        | none => none)
      | some (.inr (.inl v)) => match K with
        | [] => some (.inr (v, nx, D))
        | (rk', y', pc', loc', stk') :: K' => some (.inl ((rk', y', pc', loc', zm_push v stk'), K', nx, D))
      | some (.inr (.inr (q, as, r))) => zm_ck ((zm_ini q as).length = zm_mx q) (some (.inl ((zm_rk q as, q, 0, zm_ini q as, []), (rk, y, pc + 3, loc, r) :: K, nx, D)))
      | none => none)
    | none => none
  | .inr _ => none
theorem zj_fl {i : Instr} {x : Option zm_N} {a : zm_N} (h : zm_fl i x = some a) : x = some a := by
  unfold zm_fl at h
  split at h
  · obtain ⟨-, h⟩ := zm_ck_some h; cases h; rfl
  · obtain ⟨-, h⟩ := zm_ck_some h; cases h; rfl
  · cases h; rfl
  · cases h
theorem zj_one_ok {s t : zj_S} (h : zj_one s = some t) : zj_den s = zj_den t := by
  unfold zj_one at h
  split at h
  · next rk y pc loc stk K nx D =>
    split at h
    · next i len hi =>
      obtain ⟨hg, h⟩ := zm_ck_some h
      have st : ∀ {a : zm_N}, zm_fl i (zm_si none false rk y pc loc stk nx (zj_h D) i) = some a → zm_step none false rk y pc loc stk nx (zj_h D) = some a := by
        intro a e
        unfold zm_step
        rw [zi_in_ok hi]
        dsimp only
        rw [zm_ck_t hg]
        exact e
      split at h
      · next pc' loc' stk' nx' h' e =>
        obtain ⟨hn, h⟩ := zm_ck_some h
        split at h
        · next D' hD =>
          cases h
          have e2 := zj_si hg.2 (zj_fl e) hD
          subst e2
          show (zm_run none false rk y pc loc stk (nx, zj_h D)).bind (zj_wait K) = (zm_run none false rk y pc' loc' stk' (nx', zj_h D')).bind (zj_wait K)
          rw [zm_run_go (st e) ⟨hn, fun w => by cases w⟩]
        · cases h
      · next v e =>
        have e2 : zm_run none false rk y pc loc stk (nx, zj_h D) = some (v, nx, zj_h D) := zm_run_ret (st e)
        cases K with
        | nil =>
          cases h
          show (zm_run none false rk y pc loc stk (nx, zj_h D)).bind (zj_wait []) = some (v, nx, zj_h D)
          rw [e2]; rfl
        | cons F K' =>
          obtain ⟨rk', y', pc', loc', stk'⟩ := F
          cases h
          show (zm_run none false rk y pc loc stk (nx, zj_h D)).bind (zj_wait ((rk', y', pc', loc', stk') :: K')) = _
          rw [e2]; rfl
      · next q as r e =>
        obtain ⟨hl, h⟩ := zm_ck_some h
        cases h
        show (zm_run none false rk y pc loc stk (nx, zj_h D)).bind (zj_wait K) = (zm_run none false (zm_rk q as) q 0 (zm_ini q as) [] (nx, zj_h D)).bind (zj_wait ((rk, y, pc + 3, loc, r) :: K))
        rw [zm_run_call (st e) hl]
        cases zm_run none false (zm_rk q as) q 0 (zm_ini q as) [] (nx, zj_h D) with
        | none => rfl
        | some u => rfl
      · cases h
    · cases h
  · cases h
noncomputable def zj_go (n : Nat) (s : zj_S) : Option zj_S := Nat.rec (motive := fun _ => zj_S → Option zj_S) (fun s => some s) (fun _ ih s => match zj_one s with
  | some t => ih t
  | none => none) n s
theorem zj_go_ok : ∀ (n : Nat) {s t : zj_S}, zj_go n s = some t → zj_den s = zj_den t := by
  intro n
  induction n with
  | zero => intro s t h; cases h; rfl
  | succ n ih =>
    intro s t h
    have h1 : (match zj_one s with
      | some t => zj_go n t
      | none => none) = some t := h
    cases hs : zj_one s with
    | none => rw [hs] at h1; cases h1
    | some u => rw [hs] at h1; rw [zj_one_ok hs]; exact ih h1
