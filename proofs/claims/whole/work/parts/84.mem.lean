/-! SOUNDNESS, part 4: fields and arrays -/
def zs_tb : List Cond := lw_tbl.filter goodWord
theorem zs_tab_mem {j : Nat} {w : Cond} (h : w ∈ zs_tab j) : w ∈ lw_tbl := by
  unfold zs_tab at h
  unfold lw_tbl tables_1
  simp only [List.mem_append]
  split at h
  · exact Or.inl h
  · exact Or.inr (Or.inl h)
  · exact Or.inr (Or.inr (Or.inl h))
  · exact Or.inr (Or.inr (Or.inr (Or.inl h)))
  · exact Or.inr (Or.inr (Or.inr (Or.inr (Or.inl h))))
  · exact Or.inr (Or.inr (Or.inr (Or.inr (Or.inr (Or.inl h)))))
  · exact Or.inr (Or.inr (Or.inr (Or.inr (Or.inr (Or.inr (Or.inl h))))))
  · exact Or.inr (Or.inr (Or.inr (Or.inr (Or.inr (Or.inr (Or.inr (Or.inl h)))))))
  · exact Or.inr (Or.inr (Or.inr (Or.inr (Or.inr (Or.inr (Or.inr (Or.inr (h))))))))
  · cases h
theorem zs_wd_mem {p : Nat} {w : Cond} (h : zs_wd p = some w) (hg : goodWord w = true) : w ∈ zs_tb := List.mem_filter.mpr ⟨zs_tab_mem (List.mem_of_getElem? h), hg⟩
theorem zs_lookup {α : Type} {l : List (Nat × α)} {i : Nat} {x : α} (h : l.lookup i = some x) : (i, x) ∈ l := by
  induction l with
  | nil => cases h
  | cons q l ih =>
    obtain ⟨j, v⟩ := q
    rw [List.lookup_cons] at h
    split at h
    · next e =>
      cases h
      rw [beq_iff_eq.mp e]
      exact List.mem_cons_self
    · exact List.mem_cons_of_mem _ (ih h)
theorem zs_zip {α : Type} {L : List (List α)} {c : Nat} {x : α} (h : x ∈ L.getD c []) : (L.getD c [], c) ∈ L.zipIdx := by
  rw [List.getD_eq_getElem?_getD] at h ⊢
  cases hc : L[c]? with
  | none => rw [hc] at h; cases h
  | some l =>
    rw [Option.getD_some]
    exact List.mem_zipIdx_iff_getElem?.mpr hc
theorem zs_fld_ok {own ix c k p : Nat} (h : zm_fld own ix = some (c, k, p)) : Cond.fieldLink (zm_cn own) ix (zm_cn c) (zm_T c k).2.1 (zm_T c k).2.2.1 ∈ zs_tb ∧ c < 13 ∧ k < zm_fn c := by
  have h1 := zs_lookup h
  have h2 := List.all_eq_true.mp zs_fld_all _ (zs_zip h1)
  have h3 := of_decide_eq_true (List.all_eq_true.mp h2 _ h1)
  exact ⟨zs_wd_mem h3.1 rfl, h3.2⟩
theorem zs_cl_at {c : Nat} (h : c < 13) : zm_cl[c]? = some (zm_cn c, zm_T c, zm_fn c) := by
  have h1 := of_decide_eq_true (List.all_eq_true.mp zs_cl_all c (List.mem_range.mpr h))
  have h2 : zm_cl[c]? = some (zm_C c) := by
    unfold zm_C
    rw [List.getD_eq_getElem?_getD]
    rw [List.getElem?_eq_getElem (show c < zm_cl.length from h)]
    rfl
  rw [h2]
  congr 1
  exact Prod.ext h1.1 (Prod.ext rfl h1.2)
theorem zs_u {c : Nat} (h : c < 13) : ∀ w ∈ u_ws (zm_cn c) (zm_T c) (zm_fn c), w ∈ zs_tb := by
  intro w hw
  have h1 := of_decide_eq_true (List.all_eq_true.mp zs_wp_all c (List.mem_range.mpr h))
  have h2 : some w ∈ (u_ws (zm_cn c) (zm_T c) (zm_fn c)).map some := List.mem_map.mpr ⟨w, hw, rfl⟩
  rw [← h1] at h2
  obtain ⟨p, -, hp⟩ := List.mem_map.mp h2
  refine zs_wd_mem hp ?_
  unfold u_ws u_lay at hw
  obtain ⟨k, -, rfl⟩ := List.mem_map.mp hw
  split <;> rfl
theorem zs_nm {c : Nat} (h : c < 13) : ∀ a, a < zm_fn c → ∀ b, b < zm_fn c → a ≠ b → (zm_T c a).2.1 ≠ (zm_T c b).2.1 := by
  intro a ha b hb hab e
  have h1 := of_decide_eq_true (List.all_eq_true.mp zs_nm_all c (List.mem_range.mpr h))
  have h2 := List.getElem?_inj (i := a) (j := b) (by simpa using ha) h1 |>.mp
  exact hab (h2 (by rw [List.getElem?_map, List.getElem?_map, List.getElem?_range ha, List.getElem?_range hb]; simp only [Option.map_some, e]))
theorem zs_fc {c k : Nat} (h : c < 13) (hk : k < zm_fn c) : zs_fchk c k = true := List.all_eq_true.mp (List.all_eq_true.mp zs_fchk_all c (List.mem_range.mpr h)) k (List.mem_range.mpr hk)
theorem zs_fin {c k : Nat} (h : c < 13) (hk : k < zm_fn c) : (zm_T c k).2.2.2 = decide (zm_ft c k = 3) ∧ (zm_T c k).1 = zm_cn c := by
  have := zs_fc h hk
  unfold zs_fchk at this
  simp only [Bool.and_eq_true, decide_eq_true_eq] at this
  exact ⟨this.1, this.2.1⟩
theorem zs_ty {c k : Nat} (h : c < 13) (hk : k < zm_fn c) : ∃ ty, parseFieldDescriptor (zm_T c k).2.2.1 = some ty ∧ (match zm_ft c k with | 0 => ty = .int | 1 => ty = .boolean | 2 => ty = .long | 3 => ((∃ t, ty = .array t) ∨ ∃ n, ty = .object n) | 4 => ((∃ t, ty = .array t) ∨ ∃ n, ty = .object n) | _ => False) := by
  have h0 := zs_fc h hk
  unfold zs_fchk at h0
  simp only [Bool.and_eq_true] at h0
  have h1 := h0.2.2
  split at h1
  · exact ⟨_, of_decide_eq_true h1, by simp [*]⟩
  · exact ⟨_, of_decide_eq_true h1, by simp [*]⟩
  · exact ⟨_, of_decide_eq_true h1, by simp [*]⟩
  · split at h1
    · exact ⟨_, by assumption, by simp [*]⟩
    · exact ⟨_, by assumption, by simp [*]⟩
    · cases h1
  · split at h1
    · exact ⟨_, by assumption, by simp [*]⟩
    · cases h1
  · cases h1
def zs_ty0 (c k : Nat) : FieldType := (parseFieldDescriptor (zm_T c k).2.2.1).getD .int
theorem zs_ty0_ok {c : Nat} (h : c < 13) : ∀ k, k < zm_fn c → parseFieldDescriptor (zm_T c k).2.2.1 = some (zs_ty0 c k) := by
  intro k hk
  obtain ⟨ty, h1, -⟩ := zs_ty h hk
  unfold zs_ty0
  rw [h1]; rfl
theorem zs_obj {kA : Nat → ClassId} {ρ : Nat → Nat} {md : Bool} {h : zm_H} {o c : Nat} (hl : zm_lay o = .inl c) : zs_cell kA ρ md h o = .inr (c, (List.range (zm_fn c)).map (zs_fv ρ md h c o)) := by
  unfold zs_cell; rw [hl]
theorem zs_cwo {md : Bool} {nx : Nat} {h : zm_H} {o c : Nat} (hl : zm_lay o = .inl c) : zs_cw md nx h o = ∀ k, k < zm_fn c → zs_fw md nx h c o k := by
  unfold zs_cw; rw [hl]
theorem zs_cwa {md : Bool} {nx : Nat} {h : zm_H} {o t n : Nat} (hl : zm_lay o = .inr (t, n)) : zs_cw md nx h o = ∀ j, j < n → zs_aw md nx h t o j := by
  unfold zs_cw; rw [hl]
theorem zs_rdf {ρ : Nat → Nat} {md : Bool} {nx : Nat} {h : zm_H} {c k o : Nat} {v : zm_V} (hv : zm_rdf md c k o h = some v) (hw : zs_fw md nx h c o k) : zs_mv ρ v = some (zs_fv ρ md h c o k) ∧ zs_w nx v := by
  unfold zm_rdf at hv
  unfold zs_fw at hw
  unfold zs_fv
  split at hv
  · cases hv; simp only [*] at hw ⊢; exact ⟨rfl, hw⟩
  · cases hv; simp only [*] at hw ⊢; exact ⟨rfl, by rcases hw with q | q <;> (show zm_i32 _; rw [q]; omega)⟩
  · cases hv; simp only [*] at hw ⊢; exact ⟨rfl, hw⟩
  · obtain ⟨hc, hv⟩ := zm_ck_some hv
    cases hv; simp only [*] at hw ⊢
    have hw := hw trivial
    exact ⟨rfl, by show 0 < _; omega, hw.2⟩
  · obtain ⟨hc, hv⟩ := zm_ck_some hv
    cases hv; simp only [*] at hw ⊢
    rw [if_pos (by omega)]
    exact ⟨rfl, by show 0 < _; omega, by show _ < _; omega⟩
  · cases hv
theorem zs_fset {ρ : Nat → Nat} {md : Bool} {h : zm_H} {c o k : Nat} {z : Int} {w : Value} (hk : zs_fv ρ md (zm_wr h o k z) c o k = w) : ((List.range (zm_fn c)).map (zs_fv ρ md h c o)).set k w = (List.range (zm_fn c)).map (zs_fv ρ md (zm_wr h o k z) c o) := by
  apply List.ext_getElem?
  intro j
  rw [List.getElem?_set]
  by_cases hj : k = j
  · subst hj
    rw [if_pos rfl]
    by_cases hl : k < zm_fn c
    · rw [if_pos (by simpa using hl), List.getElem?_map, List.getElem?_range hl]
      simp only [Option.map_some, hk]
    · rw [if_neg (by simpa using hl), List.getElem?_eq_none (by simpa using hl)]
  · rw [if_neg hj, List.getElem?_map, List.getElem?_map]
    have e : zm_wr h o k z o (j : Int) = h o j := by
      have : ¬ ((j : Int) = k) := by omega
      simp [zm_wr, this]
    cases hr : (List.range (zm_fn c))[j]? with
    | none => rfl
    | some i =>
      have hi : i = j := by
        obtain ⟨hlt, he⟩ := List.getElem?_eq_some_iff.mp hr
        simpa using he.symm
      subst hi
      simp only [Option.map_some]
      congr 1
      unfold zs_fv
      simp only [e]
theorem zs_wr_at {h : zm_H} {a : Nat} {i v : Int} : zm_wr h a i v a i = v := by simp [zm_wr]
/-- a heap after one field was written -/
theorem zs_hwf {md : Bool} {nx : Nat} {h : zm_H} {c o k : Nat} {z : Int} (hh : zs_hw md nx h) (hl : zm_lay o = .inl c) (hz : zs_fw md nx (zm_wr h o k z) c o k) : zs_hw md nx (zm_wr h o k z) := by
  intro a h3 hx
  by_cases ha : a = o
  · subst ha
    rw [zs_cwo hl]
    intro j hj
    by_cases hjk : j = k
    · subst hjk; exact hz
    · have e : zm_wr h a k z a (j : Int) = h a j := by
        have : ¬ ((j : Int) = k) := by omega
        simp [zm_wr, this]
      have := (zs_cwo hl ▸ hh a h3 hx) j hj
      unfold zs_fw at this ⊢
      simp only [e]
      exact this
  · rw [zs_cw_congr (zs_wr_ne ha)]
    exact hh a h3 hx
theorem zs_hwa {md : Bool} {nx : Nat} {h : zm_H} {t n o : Nat} {i z : Int} (hh : zs_hw md nx h) (hl : zm_lay o = .inr (t, n)) (hi : 0 ≤ i) (hz : zs_aw md nx (zm_wr h o i z) t o i.toNat) : zs_hw md nx (zm_wr h o i z) := by
  intro a h3 hx
  by_cases ha : a = o
  · subst ha
    rw [zs_cwa hl]
    intro j hj
    by_cases hjk : j = i.toNat
    · subst hjk; exact hz
    · have e : zm_wr h a i z a (j : Int) = h a j := by
        have : ¬ ((j : Int) = i) := by omega
        simp [zm_wr, this]
      have := (zs_cwa hl ▸ hh a h3 hx) j hj
      unfold zs_aw at this ⊢
      simp only [e]
      exact this
  · rw [zs_cw_congr (zs_wr_ne ha)]
    exact hh a h3 hx
theorem zs_wrf {ρ : Nat → Nat} {md : Bool} {nx y : Nat} {h g : zm_H} {c k o : Nat} {v : zm_V} {ty : FieldType} (hv : zm_wrf md y c k o v nx h = some g) (hw : zs_w nx v)
    (ht : match zm_ft c k with | 0 => ty = .int | 1 => ty = .boolean | 2 => ty = .long | 3 => ((∃ t, ty = .array t) ∨ ∃ n, ty = .object n) | 4 => ((∃ t, ty = .array t) ∨ ∃ n, ty = .object n) | _ => False) :
    ∃ z w, g = zm_wr h o k z ∧ zs_mv ρ v = some w ∧ zs_fv ρ md g c o k = w ∧ zs_fw md nx g c o k ∧ narrow ty w = w ∧ fits ty w = true ∧ (zm_ft c k = 3 → zm_ret y = 4 ∧ c = zm_own y) := by
  unfold zm_wrf at hv
  split at hv
  · next z e =>
    simp only [e] at ht
    subst ht
    cases hv
    refine ⟨z, _, rfl, rfl, ?_, ?_, rfl, rfl, fun q => by rw [e] at q; cases q⟩
    · unfold zs_fv; simp only [e, zs_wr_at]
    · unfold zs_fw; simp only [e, zs_wr_at]; exact hw
  · next z e =>
    simp only [e] at ht
    subst ht
    obtain ⟨hc, hv⟩ := zm_ck_some hv
    cases hv
    refine ⟨z, _, rfl, rfl, ?_, ?_, ?_, ?_, fun q => by rw [e] at q; cases q⟩
    · unfold zs_fv; simp only [e, zs_wr_at]
    · unfold zs_fw; simp only [e, zs_wr_at]; exact hc
    · rcases hc with rfl | rfl <;> rfl
    · rcases hc with rfl | rfl <;> rfl
  · next z e =>
    simp only [e] at ht
    subst ht
    cases hv
    refine ⟨z, _, rfl, rfl, ?_, ?_, rfl, rfl, fun q => by rw [e] at q; cases q⟩
    · unfold zs_fv; simp only [e, zs_wr_at]
    · unfold zs_fw; simp only [e, zs_wr_at]; exact hw
  · next a e =>
    simp only [e] at ht
    obtain ⟨⟨h1, h2, h3, h4, h5⟩, hv⟩ := zm_ck_some hv
    cases hv
    refine ⟨1, .ref (ρ a), rfl, rfl, ?_, ?_, ?_, ?_, fun _ => ⟨h3, h4⟩⟩
    · unfold zs_fv; simp only [e, zs_wr_at]; rw [if_pos (Or.inr (by decide)), h2]
    · unfold zs_fw; simp only [e, zs_wr_at]; intro _; rw [← h2]; exact h5
    · rcases ht with ⟨t, rfl⟩ | ⟨n, rfl⟩ <;> rfl
    · rcases ht with ⟨t, rfl⟩ | ⟨n, rfl⟩ <;> rfl
  · next a e =>
    simp only [e] at ht
    obtain ⟨h5, hv⟩ := zm_ck_some hv
    cases hv
    refine ⟨a, .ref (ρ a), rfl, rfl, ?_, ?_, ?_, ?_, fun q => by rw [e] at q; cases q⟩
    · unfold zs_fv; simp only [e, zs_wr_at]; rw [if_pos (by omega), Int.toNat_natCast]
    · unfold zs_fw; simp only [e, zs_wr_at]; omega
    · rcases ht with ⟨t, rfl⟩ | ⟨n, rfl⟩ <;> rfl
    · rcases ht with ⟨t, rfl⟩ | ⟨n, rfl⟩ <;> rfl
  · cases hv
theorem zs_okb {t a nx : Nat} {i : Int} (h : zm_okb t a i nx = true) : ∃ n, zm_lay a = .inr (t, n) ∧ 3 < a ∧ a < nx ∧ 0 ≤ i ∧ i < n := by
  unfold zm_okb at h
  split at h
  · next u n e =>
    have := of_decide_eq_true h
    exact ⟨n, by rw [e, this.1], this.2⟩
  · cases h
theorem zs_ca0 {kA : Nat → ClassId} {ρ : Nat → Nat} {md : Bool} {h : zm_H} {a n : Nat} (hl : zm_lay a = .inr (0, n)) : zs_cell kA ρ md h a = .inl (kA 0, n, .inl fun j => Int32.ofInt (h a j)) := by
  simp only [zs_cell, hl]
theorem zs_ca1 {kA : Nat → ClassId} {ρ : Nat → Nat} {md : Bool} {h : zm_H} {a n : Nat} (hl : zm_lay a = .inr (1, n)) : zs_cell kA ρ md h a = .inl (kA 1, n, .inr (.inl fun j => Int64.ofInt (h a j))) := by
  simp only [zs_cell, hl]
theorem zs_ca2 {kA : Nat → ClassId} {ρ : Nat → Nat} {md : Bool} {h : zm_H} {a n : Nat} (hl : zm_lay a = .inr (2, n)) : zs_cell kA ρ md h a = .inl (kA 2, n, .inl fun j => Int32.ofInt (h a j)) := by
  simp only [zs_cell, hl]
theorem zs_ca3 {kA : Nat → ClassId} {ρ : Nat → Nat} {md : Bool} {h : zm_H} {a n : Nat} (hl : zm_lay a = .inr (3, n)) : zs_cell kA ρ md h a = .inl (kA 3, n, .inr (.inr (.inr (.inr fun j => if j < n ∧ (md = true ∨ h a j ≠ 0) then some (ρ (zm_fr a j)) else none)))) := by
  simp only [zs_cell, hl]
theorem zs_i32s {z : Int} (h0 : 0 ≤ z) {n : Nat} (h1 : z < n) (hi : zm_i32 z) : vp_in (Int32.ofInt z) n ∧ (Int32.ofInt z).toNatClampNeg = z.toNat ∧ ((z.toNat : Nat) : Int) = z := ⟨zs_in hi h0 h1, zs_clamp hi, by omega⟩
theorem zs_ra {U : State} {c1 c2 : ClassId} {ty : FieldType} (h1 : va_RA U c1 ty) (h2 : va_RA U c2 ty) : c1 = c2 := by
  cases ty with
  | object C =>
    obtain ⟨kA, comp, a1, a2, a3, a4⟩ := h1
    obtain ⟨kB, comp2, b1, b2, b3, b4⟩ := h2
    rw [a4] at b4
    exact Option.some.inj b4
  | _ =>
    have a : U.vm.findClass _ = some c1 := h1
    have b : U.vm.findClass _ = some c2 := h2
    rw [a] at b
    exact Option.some.inj b
/-- a new cell behind the others -/
theorem zs_snoc {kA : Nat → ClassId} {ρ : Nat → Nat} {md : Bool} {nx q : Nat} {h : zm_H} (h4 : 4 ≤ nx) (hh : zs_hw md nx h) : zs_ws kA (fun b => if b = nx then q else ρ b) md (nx + 1) (zm_zr h nx) = zs_ws kA ρ md nx h ++ [(q, zs_cell kA (fun b => if b = nx then q else ρ b) md (zm_zr h nx) nx)] := by
  have e1 : nx + 1 - 4 = nx - 4 + 1 := by omega
  unfold zs_ws
  rw [e1, List.range_succ, List.map_append]
  congr 1
  · apply List.map_congr_left
    intro i hi
    have hlt := List.mem_range.mp hi
    have hne : i + 4 ≠ nx := by omega
    show (if i + 4 = nx then q else ρ (i + 4), _) = _
    rw [if_neg hne]
    congr 1
    rw [zs_cell_congr (zs_zr_ne hne)]
    have hc := hh (i + 4) (by omega) (by omega)
    unfold zs_cell
    unfold zs_cw at hc
    split
    · next c hl =>
      rw [hl] at hc
      congr 2
      apply List.map_congr_left
      intro k hk
      have := hc k (List.mem_range.mp hk)
      unfold zs_fw at this
      unfold zs_fv
      split <;> simp only [*] at this
      · rfl
      · rfl
      · rfl
      · by_cases hs : md = true ∨ h (i + 4) k ≠ 0
        · rw [if_pos hs, if_pos hs]
          have h5 := this hs
          show Value.ref (if zm_fr (i + 4) k = nx then q else ρ (zm_fr (i + 4) k)) = _
          rw [if_neg (by omega)]
        · rw [if_neg hs, if_neg hs]
      · by_cases hs : 0 < h (i + 4) k
        · rw [if_pos hs, if_pos hs]
          show Value.ref (if (h (i + 4) k).toNat = nx then q else ρ (h (i + 4) k).toNat) = _
          rw [if_neg (by omega)]
        · rw [if_neg hs, if_neg hs]
    · rfl
    · next n hl =>
      rw [hl] at hc
      congr 7
      funext j
      by_cases hj : j < n ∧ (md = true ∨ h (i + 4) j ≠ 0)
      · rw [if_pos hj, if_pos hj]
        have h5 := hc j hj.1 hj.2
        show some (if zm_fr (i + 4) j = nx then q else ρ (zm_fr (i + 4) j)) = _
        rw [if_neg (by omega)]
      · rw [if_neg hj, if_neg hj]
    · rfl
  · simp only [List.map_cons, List.map_nil, Nat.sub_add_cancel h4, if_true]
section
variable {p : Program} {l : Launch} {e : Env} {R : Room} {s : State} {m : MethodId} {args : Array Value} {below : List Frame} {meth : Method} {c : Code} {Q : State → Prop}
variable {X : Option (Nat × (Int → Int))} {md : Bool} {rk y pc : Nat} {loc stk : List zm_V} {nx : Nat} {h : zm_H} {pc' : Nat} {loc' stk' : List zm_V} {nx1 : Nat} {h1 : zm_H}
variable {D : va_G} {kA : Nat → ClassId} {A : Nat → Prop} {ρ : Nat → Nat} {H : Heap} {locs : List Loc} {ls : Array Slot} {st : List Value} {nx0 nL : Nat}
end
