/-! SOUNDNESS, part 13: the two modes agree once all is laid; steps and calls of the law ahead of its loop -/
theorem zo_cell {kA : Nat → ClassId} {ρ : Nat → Nat} {h : zm_H} {a : Nat} (h1 : match zm_lay a with
  | .inl c => ∀ k, k < zm_fn c → zm_ft c k = 3 → h a (k : Nat) ≠ 0
  | .inr (t, n) => t = 3 → ∀ k, k < n → h a (k : Nat) ≠ 0) : zs_cell kA ρ true h a = zs_cell kA ρ false h a := by
  unfold zs_cell
  cases hl : zm_lay a with
  | inl c =>
    rw [hl] at h1
    have h1 : ∀ k, k < zm_fn c → zm_ft c k = 3 → h a (k : Nat) ≠ 0 := h1
    refine congrArg (fun z => (Sum.inr (c, z) : va_E)) (List.map_congr_left fun k hk => ?_)
    have hk := List.mem_range.mp hk
    have h2 := h1 k hk
    unfold zs_fv
    generalize zm_ft c k = z at h2 ⊢
    match z, h2 with
    | 0, _ => rfl
    | 1, _ => rfl
    | 2, _ => rfl
    | 3, h2 =>
      show (if true = true ∨ h a k ≠ 0 then Value.ref (ρ (zm_fr a k)) else Value.null) = (if false = true ∨ h a k ≠ 0 then Value.ref (ρ (zm_fr a k)) else Value.null)
      rw [if_pos (Or.inl rfl), if_pos (Or.inr (h2 rfl))]
    | z + 4, _ => rfl
  | inr tn =>
    obtain ⟨t, n⟩ := tn
    rw [hl] at h1
    have h1 : t = 3 → ∀ k, k < n → h a (k : Nat) ≠ 0 := h1
    match t, h1 with
    | 0, _ => rfl
    | 1, _ => rfl
    | 2, _ => rfl
    | 3, h1 =>
      refine congrArg (fun z => (Sum.inl (kA 3, n, .inr (.inr (.inr (.inr z)))) : va_E)) (funext fun j => ?_)
      by_cases hj : j < n
      · rw [if_pos ⟨hj, Or.inl rfl⟩, if_pos ⟨hj, Or.inr (h1 rfl j hj)⟩]
      · rw [if_neg (fun q => hj q.1), if_neg (fun q => hj q.1)]
    | t + 4, _ => rfl
theorem zo_ws {kA : Nat → ClassId} {ρ : Nat → Nat} {h : zm_H} (hl : zj_laid h) : zs_ws kA ρ false 194 h = zs_ws kA ρ true 194 h := by
  unfold zs_ws
  refine List.map_congr_left fun i hi => ?_
  have hi := List.mem_range.mp hi
  rw [zo_cell (hl (i + 4) (by omega))]
theorem zo_hw {h : zm_H} (hl : zj_laid h) (hh : zs_hw false 194 h) : zs_hw true 194 h := by
  intro a ha hx
  have h1 := hl a hx
  have h2 := hh a ha hx
  unfold zs_cw at h2 ⊢
  cases hlay : zm_lay a with
  | inl c =>
    rw [hlay] at h1 h2
    have h1 : ∀ k, k < zm_fn c → zm_ft c k = 3 → h a (k : Nat) ≠ 0 := h1
    have h2 : ∀ k, k < zm_fn c → zs_fw false 194 h c a k := h2
    show ∀ k, k < zm_fn c → zs_fw true 194 h c a k
    intro k hk
    have h3 := h2 k hk
    have h4 := h1 k hk
    unfold zs_fw at h3 ⊢
    generalize zm_ft c k = z at h3 h4 ⊢
    match z, h3, h4 with
    | 0, h3, _ => exact h3
    | 1, h3, _ => exact h3
    | 2, h3, _ => exact h3
    | 3, h3, h4 => exact fun _ => h3 (Or.inr (h4 rfl))
    | z + 4, h3, _ => exact h3
  | inr tn =>
    obtain ⟨t, n⟩ := tn
    rw [hlay] at h1 h2
    have h1 : t = 3 → ∀ k, k < n → h a (k : Nat) ≠ 0 := h1
    have h2 : ∀ j, j < n → zs_aw false 194 h t a j := h2
    show ∀ j, j < n → zs_aw true 194 h t a j
    intro j hj
    have h3 := h2 j hj
    unfold zs_aw at h3 ⊢
    match t, h1, h3 with
    | 0, _, h3 => exact h3
    | 1, _, h3 => exact h3
    | 2, _, h3 => exact h3
    | 3, h1, h3 => exact fun _ => h3 (Or.inr (h1 rfl j hj))
    | t + 4, _, h3 => exact h3
theorem zo_sl : zs_sl 194 ≤ 7302250 := by decide +kernel
theorem zo_d0 : decode (zm_code 275) 0 = .ok (.new 7, 3) := by decide +kernel
theorem zo_d3 : decode (zm_code 275) 3 = .ok (.dup, 1) := by decide +kernel
theorem zo_d4 : decode (zm_code 275) 4 = .ok (.invokespecial 9, 3) := by decide +kernel
theorem zo_d7 : decode (zm_code 275) 7 = .ok (.astore_n 1, 1) := by decide +kernel
theorem zo_d8 : decode (zm_code 275) 8 = .ok (.new 10, 3) := by decide +kernel
theorem zo_d11 : decode (zm_code 275) 11 = .ok (.dup, 1) := by decide +kernel
theorem zo_d12 : decode (zm_code 275) 12 = .ok (.invokespecial 12, 3) := by decide +kernel
theorem zo_d15 : decode (zm_code 275) 15 = .ok (.astore_n 2, 1) := by decide +kernel
theorem zo_d16 : decode (zm_code 275) 16 = .ok (.iconst 0, 1) := by decide +kernel
theorem zo_d17 : decode (zm_code 275) 17 = .ok (.istore_n 3, 1) := by decide +kernel
theorem zo_new7 : zm_new 13 7 = some (0, 1019, 1020, 1001) := rfl
theorem zo_new10 : zm_new 13 10 = some (12, 5121, 5122, 1017) := rfl
theorem zo_cal9 : zm_cal 13 9 = some (2, 0, 1021, 1022, 1001, 0) := rfl
theorem zo_cal12 : zm_cal 13 12 = some (2, 153, 5123, 5124, 1017, 0) := rfl
abbrev zo_l0 : List zm_V := [zm_A 3, zm_U, zm_U, zm_U]
abbrev zo_l1 : List zm_V := [zm_A 3, zm_A 4, zm_U, zm_U]
abbrev zo_l2 : List zm_V := [zm_A 3, zm_A 4, zm_A 146, zm_U]
abbrev zo_l3 : List zm_V := [zm_A 3, zm_A 4, zm_A 146, zm_I 0]
section
variable {h : zm_H}
theorem zo_s0 : zm_si none false 95 275 0 zo_l0 [] 4 h (.new 7) = some (.inl (3, zo_l0, [zm_A 4], 5, zm_zr h 4)) := by
  simp only [zm_si, ow_275, zo_new7, zm_go]
  exact zm_ck_t (by decide +kernel)
theorem zo_s3 : zm_si none false 95 275 3 zo_l0 [zm_A 4] 5 h .dup = some (.inl (4, zo_l0, [zm_A 4, zm_A 4], 5, h)) := by
  simp only [zm_si, zm_go]
  exact zm_ck_t (by decide +kernel)
theorem zo_s4 : zm_si none false 95 275 4 zo_l0 [zm_A 4, zm_A 4] 5 h (.invokespecial 9) = some (.inr (.inr (0, [zm_A 4], [zm_A 4]))) := by
  simp only [zm_si, ow_275, zo_cal9, zm_call]
  exact zm_ck_t (by decide +kernel)
theorem zo_s7 : zm_si none false 95 275 7 zo_l0 [zm_A 4] 146 h (.astore_n 1) = some (.inl (8, zo_l1, [], 146, h)) := by
  simp only [zm_si, zm_go]
  exact zm_ck_t (by decide +kernel)
theorem zo_s8 : zm_si none false 95 275 8 zo_l1 [] 146 h (.new 10) = some (.inl (11, zo_l1, [zm_A 146], 147, zm_zr h 146)) := by
  simp only [zm_si, ow_275, zo_new10, zm_go]
  exact zm_ck_t (by decide +kernel)
theorem zo_s11 : zm_si none false 95 275 11 zo_l1 [zm_A 146] 147 h .dup = some (.inl (12, zo_l1, [zm_A 146, zm_A 146], 147, h)) := by
  simp only [zm_si, zm_go]
  exact zm_ck_t (by decide +kernel)
theorem zo_s12 : zm_si none false 95 275 12 zo_l1 [zm_A 146, zm_A 146] 147 h (.invokespecial 12) = some (.inr (.inr (153, [zm_A 146], [zm_A 146]))) := by
  simp only [zm_si, ow_275, zo_cal12, zm_call]
  exact zm_ck_t (by decide +kernel)
theorem zo_s15 : zm_si none false 95 275 15 zo_l1 [zm_A 146] 194 h (.astore_n 2) = some (.inl (16, zo_l2, [], 194, h)) := by
  simp only [zm_si, zm_go]
  exact zm_ck_t (by decide +kernel)
theorem zo_s16 : zm_si none false 95 275 16 zo_l2 [] 194 h (.iconst 0) = some (.inl (17, zo_l2, [zm_I 0], 194, h)) := by
  simp only [zm_si, zm_go]
  exact zm_ck_t (by decide +kernel)
theorem zo_s17 : zm_si none false 95 275 17 zo_l2 [zm_I 0] 194 h (.istore_n 3) = some (.inl (18, zo_l3, [], 194, h)) := by
  simp only [zm_si, zm_go]
  exact zm_ck_t (by decide +kernel)
end
section
variable {p : Program} {l : Launch} {e : Env} {s : State} {m : MethodId} {below : List Frame} {meth : Method} {c : Code} {b : Nat} {D : va_G} {kA : Nat → ClassId} {ρ0 : Nat → Nat} {Q : State → Prop}
variable {i : Instr} {len pc pc' : Nat} {loc stk loc' stk' : List zm_V} {nx nx1 : Nat} {h h1 : zm_H} {ρ : Nat → Nat} {H : Heap} {locs : List Loc} {ls : Array Slot} {st : List Value}
theorem zo_step (hx : p.tables.exec = Jvm.exec) (hb : c.code = zm_code 275) (hml : c.maxLocals = 4) (hown : s.vm.findClass (zm_cn (zm_own 275)) = some m.cls) (htb : ∀ w ∈ zs_tb, w.before #[Value.ref b] s = true) (hK : va_K D zm_cl (zs_tys kA) s) (hRO : zs_RO ρ0 (fun q => s.heap.size ≤ q) s)
    (hd : decode (zm_code 275) pc = .ok (i, len)) (hlen : zm_len i = none ∨ zm_len i = some len) (hsup : zm_sup i = true) (hs : zm_si none false 95 275 pc loc stk nx h i = some (.inl (pc', loc', stk', nx1, h1))) (h4 : 4 ≤ nx) (hn : nx ≤ nx1) (hn2 : nx1 ≤ 194) (hρ : ∀ a, a < 4 → ρ a = ρ0 a) (r : zs_R D kA (fun q => s.heap.size ≤ q) s.heap 4 ρ false loc stk nx h H locs ls st)
    (k : ∀ (ρ1 : Nat → Nat) (H1 : Heap) (locs1 : List Loc) (ls1 : Array Slot) (st1 : List Value), (∀ a, a < 4 → ρ1 a = ρ0 a) → zs_R D kA (fun q => s.heap.size ≤ q) s.heap 4 ρ1 false loc' stk' nx1 h1 H1 locs1 ls1 st1 → W p l e room_1 s m #[Value.ref b] below meth c H1 locs1 (nx1 - 4) (zs_sl nx1 - zs_sl 4) Q (F0 m pc' ls1 st1)) :
    W p l e room_1 s m #[Value.ref b] below meth c H locs (nx - 4) (zs_sl nx - zs_sl 4) Q (F0 m pc ls st) :=
  zs_sim hx hb hml (by show 95 + 4 ≤ 2048; omega) (by show 40 * 95 + 160 ≤ 84000; omega) hown htb hK (fun h9 => absurd h9 (by rw [rt_275]; decide)) (fun _ h9 => h9) h4 (by show nx1 - 4 ≤ 600000; omega) (by show _ ≤ 7302250; have a1 := zs_mono hn2; have a2 := zo_sl; omega) hn (zs_RO_ag hRO (hρ 1 (by decide)) (hρ 2 (by decide))) (fun n xs e9 => by cases e9) hd hlen hsup hs r (fun ρ1 H1 locs1 ls1 st1 hag r1 => k ρ1 H1 locs1 ls1 st1 (fun a ha => (hag a (by omega)).trans (hρ a ha)) r1)
theorem zo_call {f q : Nat} {as r9 : List zm_V} {v : zm_V} (hx : p.tables.exec = Jvm.exec) (hb : c.code = zm_code 275) (hml : c.maxLocals = 4) (hown : s.vm.findClass (zm_cn (zm_own 275)) = some m.cls) (htb : ∀ w ∈ zs_tb, w.before #[Value.ref b] s = true) (hK : va_K D zm_cl (zs_tys kA) s) (hRO : zs_RO ρ0 (fun q => s.heap.size ≤ q) s)
    (hd : decode (zm_code 275) pc = .ok (i, len)) (hlen : zm_len i = none ∨ zm_len i = some len) (hk : zm_kd i = 2) (hs : zm_si none false 95 275 pc loc stk nx h i = some (.inr (.inr (q, as, r9)))) (hini : (zm_ini q as).length = zm_mx q) (hex : zm_ex none false f (zm_rk q as) q 0 (zm_ini q as) [] (nx, h) = some (v, nx1, h1)) (h4 : 4 ≤ nx) (hn : nx ≤ nx1) (hn2 : nx1 ≤ 194) (hρ : ∀ a, a < 4 → ρ a = ρ0 a) (r : zs_R D kA (fun q => s.heap.size ≤ q) s.heap 4 ρ false loc stk nx h H locs ls st)
    (k : ∀ (ρ1 : Nat → Nat) (H1 : Heap) (locs1 : List Loc) (ls1 : Array Slot) (st1 : List Value), (∀ a, a < 4 → ρ1 a = ρ0 a) → zs_R D kA (fun q => s.heap.size ≤ q) s.heap 4 ρ1 false loc (zm_push v r9) nx1 h1 H1 locs1 ls1 st1 → W p l e room_1 s m #[Value.ref b] below meth c H1 locs1 (nx1 - 4) (zs_sl nx1 - zs_sl 4) Q (F0 m (pc + 3) ls1 st1)) :
    W p l e room_1 s m #[Value.ref b] below meth c H locs (nx - 4) (zs_sl nx - zs_sl 4) Q (F0 m pc ls st) :=
  zs_do_call (zs_M_all l f) hx hb hml (by show 95 + 4 ≤ 2048; omega) (by show 40 * 95 + 160 ≤ 84000; omega) hown htb hK (fun _ h9 => h9) h4 (by show nx1 - 4 ≤ 600000; omega) (by show _ ≤ 7302250; have a1 := zs_mono hn2; have a2 := zo_sl; omega) hn (zs_RO_ag hRO (hρ 1 (by decide)) (hρ 2 (by decide))) hd hlen hk hs hini hex r (fun ρ1 H1 locs1 ls1 st1 hag r1 => k ρ1 H1 locs1 ls1 st1 (fun a ha => (hag a (by omega)).trans (hρ a ha)) r1)
end
