/-! SOUNDNESS, part 1: how the plain machine's cells lie in the heap -/
def zs_mv (ρ : Nat → Nat) (v : zm_V) : Option Value := match v with
  | .inl z => some (.int (Int32.ofInt z))
  | .inr (.inl z) => some (.long (Int64.ofInt z))
  | .inr (.inr (.inl a)) => some (.ref (ρ a))
  | .inr (.inr (.inr _)) => none
def zs_w (nx : Nat) (v : zm_V) : Prop := match v with
  | .inl z => zm_i32 z
  | .inr (.inl z) => zm_i64 z
  | .inr (.inr (.inl a)) => 0 < a ∧ a < nx
  | .inr (.inr (.inr _)) => True
def zs_fv (ρ : Nat → Nat) (md : Bool) (h : zm_H) (c a k : Nat) : Value := match zm_ft c k with
  | 0 => .int (Int32.ofInt (h a k))
  | 1 => .int (Int32.ofInt (h a k))
  | 2 => .long (Int64.ofInt (h a k))
  | 3 => if md = true ∨ h a k ≠ 0 then .ref (ρ (zm_fr a k)) else .null
  | _ => if 0 < h a k then .ref (ρ (h a k).toNat) else .null
def zs_cell (kA : Nat → ClassId) (ρ : Nat → Nat) (md : Bool) (h : zm_H) (a : Nat) : va_E := match zm_lay a with
  | .inl c => .inr (c, (List.range (zm_fn c)).map (zs_fv ρ md h c a))
  | .inr (1, n) => .inl (kA 1, n, .inr (.inl fun j => Int64.ofInt (h a j)))
  | .inr (3, n) => .inl (kA 3, n, .inr (.inr (.inr (.inr fun j => if j < n ∧ (md = true ∨ h a j ≠ 0) then some (ρ (zm_fr a j)) else none))))
  | .inr (t, n) => .inl (kA t, n, .inl fun j => Int32.ofInt (h a j))
def zs_fw (md : Bool) (nx : Nat) (h : zm_H) (c a k : Nat) : Prop := match zm_ft c k with
  | 0 => zm_i32 (h a k)
  | 1 => zm_bit (h a k)
  | 2 => zm_i64 (h a k)
  | 3 => (md = true ∨ h a k ≠ 0) → 3 < zm_fr a k ∧ zm_fr a k < nx
  | _ => h a k = 0 ∨ (3 < h a k ∧ h a k < nx)
def zs_aw (md : Bool) (nx : Nat) (h : zm_H) (t a j : Nat) : Prop := match t with
  | 0 => zm_i32 (h a j)
  | 1 => zm_i64 (h a j)
  | 2 => zm_bit (h a j)
  | 3 => (md = true ∨ h a j ≠ 0) → 3 < zm_fr a j ∧ zm_fr a j < nx
  | _ => True
def zs_cw (md : Bool) (nx : Nat) (h : zm_H) (a : Nat) : Prop := match zm_lay a with
  | .inl c => ∀ k, k < zm_fn c → zs_fw md nx h c a k
  | .inr (t, n) => ∀ j, j < n → zs_aw md nx h t a j
def zs_hw (md : Bool) (nx : Nat) (h : zm_H) : Prop := ∀ a, 3 < a → a < nx → zs_cw md nx h a
def zs_ws (kA : Nat → ClassId) (ρ : Nat → Nat) (md : Bool) (nx : Nat) (h : zm_H) : va_W := (List.range (nx - 4)).map fun i => (ρ (i + 4), zs_cell kA ρ md h (i + 4))
def zs_lo (ρ : Nat → Nat) (loc : List zm_V) (nL : Nat) (ls : Array Slot) : Prop := loc.length = nL ∧ ∃ lv, lv_has ls nL lv ∧ ∀ (k : Nat) (v : zm_V) (w : Value), loc[k]? = some v → zs_mv ρ v = some w → (k, w) ∈ lv
/-- slots of the cells made so far -/
def zs_sz (a : Nat) : Nat := match zm_lay a with
  | .inl c => zm_fn c
  | .inr (_, n) => n
def zs_sl : Nat → Nat
  | 0 => 0
  | n + 1 => zs_sl n + zs_sz n
def zs_tys (kA : Nat → ClassId) : List (ClassId × FieldType) := [(kA 0, .int), (kA 1, .long), (kA 2, .boolean), (kA 3, .object "BranTub$Tub")]
theorem zs_cell_congr {kA : Nat → ClassId} {ρ : Nat → Nat} {md : Bool} {h h1 : zm_H} {a : Nat} (e : h1 a = h a) : zs_cell kA ρ md h1 a = zs_cell kA ρ md h a := by
  unfold zs_cell
  simp only [e]
  have : ∀ c, zs_fv ρ md h1 c a = zs_fv ρ md h c a := fun c => by funext k; unfold zs_fv; simp only [e]
  simp only [this]
theorem zs_cw_congr {md : Bool} {nx : Nat} {h h1 : zm_H} {a : Nat} (e : h1 a = h a) : zs_cw md nx h1 a = zs_cw md nx h a := by
  unfold zs_cw zs_fw zs_aw
  simp only [e]
theorem zs_ws_at {kA : Nat → ClassId} {ρ : Nat → Nat} {md : Bool} {nx : Nat} {h : zm_H} {a : Nat} (h1 : 3 < a) (h2 : a < nx) : (zs_ws kA ρ md nx h)[a - 4]? = some (ρ a, zs_cell kA ρ md h a) := by
  unfold zs_ws
  have e : a - 4 + 4 = a := by omega
  rw [List.getElem?_map, List.getElem?_range (by omega)]
  simp only [Option.map_some, e]
theorem zs_ws_len {kA : Nat → ClassId} {ρ : Nat → Nat} {md : Bool} {nx : Nat} {h : zm_H} : (zs_ws kA ρ md nx h).length = nx - 4 := by simp [zs_ws]
theorem zs_ws_set {kA : Nat → ClassId} {ρ : Nat → Nat} {md : Bool} {nx : Nat} {h h1 : zm_H} {a : Nat} {E : va_E} (h2 : 3 < a) (hne : ∀ b, b ≠ a → h1 b = h b) (hE : E = zs_cell kA ρ md h1 a) : (zs_ws kA ρ md nx h).set (a - 4) (ρ a, E) = zs_ws kA ρ md nx h1 := by
  apply List.ext_getElem?
  intro i
  rw [List.getElem?_set]
  by_cases hi : a - 4 = i
  · subst hi
    by_cases hl : a < nx
    · rw [if_pos rfl, if_pos (by rw [zs_ws_len]; omega), zs_ws_at h2 hl, hE]
    · rw [if_pos rfl, if_neg (by rw [zs_ws_len]; omega)]
      rw [List.getElem?_eq_none (by rw [zs_ws_len]; omega)]
  · rw [if_neg hi]
    unfold zs_ws
    rw [List.getElem?_map, List.getElem?_map]
    cases hr : (List.range (nx - 4))[i]? with
    | none => rfl
    | some j =>
      have hj : j = i := by
        obtain ⟨hlt, he⟩ := List.getElem?_eq_some_iff.mp hr
        simpa using he.symm
      subst hj
      simp only [Option.map_some]
      rw [zs_cell_congr (hne (j + 4) (by omega))]
theorem zs_wr_ne {h : zm_H} {a b : Nat} {i v : Int} (hb : b ≠ a) : zm_wr h a i v b = h b := by
  funext j; simp [zm_wr, hb]
theorem zs_zr_ne {h : zm_H} {a b : Nat} (hb : b ≠ a) : zm_zr h a b = h b := by
  funext j; simp [zm_zr, hb]
theorem zs_lt {x y : Int} (hx : zm_i32 x) (hy : zm_i32 y) : Int32.ofInt x < Int32.ofInt y ↔ x < y := Int32.ofInt_lt_iff_lt (by rw [show Int32.minValue.toInt = -2147483648 from rfl]; exact hx.1) (by rw [show Int32.maxValue.toInt = 2147483647 from rfl]; exact hx.2) (by rw [show Int32.minValue.toInt = -2147483648 from rfl]; exact hy.1) (by rw [show Int32.maxValue.toInt = 2147483647 from rfl]; exact hy.2)
theorem zs_le {x y : Int} (hx : zm_i32 x) (hy : zm_i32 y) : Int32.ofInt x ≤ Int32.ofInt y ↔ x ≤ y := Int32.ofInt_le_iff_le (by rw [show Int32.minValue.toInt = -2147483648 from rfl]; exact hx.1) (by rw [show Int32.maxValue.toInt = 2147483647 from rfl]; exact hx.2) (by rw [show Int32.minValue.toInt = -2147483648 from rfl]; exact hy.1) (by rw [show Int32.maxValue.toInt = 2147483647 from rfl]; exact hy.2)
theorem zs_ti {x : Int} (hx : zm_i32 x) : (Int32.ofInt x).toInt = x := Int32.toInt_ofInt_of_le (by omega) (by omega)
theorem zs_tl {x : Int} (hx : zm_i64 x) : (Int64.ofInt x).toInt = x := Int64.toInt_ofInt_of_le (by omega) (by omega)
theorem zs_eq {x y : Int} (hx : zm_i32 x) (hy : zm_i32 y) : Int32.ofInt x = Int32.ofInt y ↔ x = y := by
  constructor
  · intro e
    have := congrArg Int32.toInt e
    rwa [zs_ti hx, zs_ti hy] at this
  · rintro rfl; rfl
theorem zs_clamp {x : Int} (hx : zm_i32 x) : (Int32.ofInt x).toNatClampNeg = x.toNat := by
  rw [← Int32.toNat_toInt, zs_ti hx]
theorem zs_in {i : Int} {n : Nat} (hi : zm_i32 i) (h0 : 0 ≤ i) (h1 : i < n) : vp_in (Int32.ofInt i) n := by
  unfold vp_in
  rw [zs_clamp hi]
  have h2 : ¬ Int32.ofInt i < 0 := by
    rw [show (0 : Int32) = Int32.ofInt 0 from rfl, zs_lt hi (by omega)]
    omega
  rintro (h | h)
  · exact h2 h
  · omega
theorem zs_mono : ∀ {a b : Nat}, a ≤ b → zs_sl a ≤ zs_sl b := by
  intro a b h
  induction h with
  | refl => exact Nat.le_refl _
  | step _ ih => exact Nat.le_trans ih (by rw [zs_sl]; exact Nat.le_add_right _ _)
theorem zs_mv_congr {ρ ρ1 : Nat → Nat} {nx : Nat} (h : ∀ a, a < nx → ρ1 a = ρ a) {v : zm_V} (hv : zs_w nx v) : zs_mv ρ1 v = zs_mv ρ v := by
  rcases v with z | z | a | u
  · rfl
  · rfl
  · show some (Value.ref (ρ1 a)) = some (Value.ref (ρ a)); rw [h a hv.2]
  · rfl
theorem zs_w_mono {nx nx1 : Nat} (h : nx ≤ nx1) {v : zm_V} (hv : zs_w nx v) : zs_w nx1 v := by
  rcases v with z | z | a | u
  · exact hv
  · exact hv
  · exact ⟨hv.1, Nat.lt_of_lt_of_le hv.2 h⟩
  · trivial
