/-! SOUNDNESS, part 3: the instructions that write no cell (printed by wip/gen/gen_sim.py) -/
def zs_K (p : Program) (l : Launch) (e : Env) (R : Room) (s : State) (m : MethodId) (args : Array Value) (below : List Frame) (meth : Method) (c : Code) (Q : State → Prop) (D : va_G) (kA : Nat → ClassId) (A : Nat → Prop) (nL : Nat) (ρ : Nat → Nat) (md : Bool) (nx0 : Nat) (pc : Nat) (loc stk : List zm_V) (nx nx1 : Nat) (h : zm_H) : Prop :=
  ∀ (ρ1 : Nat → Nat) (H1 : Heap) (locs1 : List Loc) (ls1 : Array Slot) (st1 : List Value), (∀ a, a < nx → ρ1 a = ρ a) → zs_R D kA A s.heap nL ρ1 md loc stk nx1 h H1 locs1 ls1 st1 → W p l e R s m args below meth c H1 locs1 (nx1 - nx0) (zs_sl nx1 - zs_sl nx0) Q (F0 m pc ls1 st1)
section
variable {p : Program} {l : Launch} {e : Env} {R : Room} {s : State} {m : MethodId} {args : Array Value} {below : List Frame} {meth : Method} {c : Code} {Q : State → Prop}
variable {X : Option (Nat × (Int → Int))} {md : Bool} {rk y pc : Nat} {loc stk : List zm_V} {nx : Nat} {h : zm_H} {pc' : Nat} {loc' stk' : List zm_V} {nx1 : Nat} {h1 : zm_H}
variable {D : va_G} {kA : Nat → ClassId} {A : Nat → Prop} {ρ : Nat → Nat} {H : Heap} {locs : List Loc} {ls : Array Slot} {st : List Value} {nx0 nL : Nat}
theorem zs_i_iload {n : Nat} (hx : p.tables.exec = Jvm.exec) (hb : c.code = zm_code y) (hd : decode (zm_code y) pc = .ok (.iload n, 2)) (hs : zm_si X md rk y pc loc stk nx h (.iload n) = some (.inl (pc', loc', stk', nx1, h1))) (r : zs_R D kA A s.heap nL ρ md loc stk nx h H locs ls st) (k : zs_K p l e R s m args below meth c Q D kA A nL ρ md nx0 pc' loc' stk' nx nx1 h1) : W p l e R s m args below meth c H locs (nx - nx0) (zs_sl nx - zs_sl nx0) Q (F0 m pc ls st) := by
  obtain ⟨hP, hD, hS, hL, hst, hw, hwl, hh, h4⟩ := r
  simp only [zm_si, zm_go] at hs
  split at hs
  · next z hz =>
    cases hs
    exact lv_iload hx hb hd (zs_lo_at hL hz rfl) (k ρ H locs ls _ (fun _ _ => rfl) ⟨hP, hD, hS, hL, zs_psh rfl hst, zs_w2 (hwl _ (List.mem_of_getElem? hz)) hw, hwl, hh, h4⟩)
  · cases hs
theorem zs_i_iload_n {n : Fin 4} (hx : p.tables.exec = Jvm.exec) (hb : c.code = zm_code y) (hd : decode (zm_code y) pc = .ok (.iload_n n, 1)) (hs : zm_si X md rk y pc loc stk nx h (.iload_n n) = some (.inl (pc', loc', stk', nx1, h1))) (r : zs_R D kA A s.heap nL ρ md loc stk nx h H locs ls st) (k : zs_K p l e R s m args below meth c Q D kA A nL ρ md nx0 pc' loc' stk' nx nx1 h1) : W p l e R s m args below meth c H locs (nx - nx0) (zs_sl nx - zs_sl nx0) Q (F0 m pc ls st) := by
  obtain ⟨hP, hD, hS, hL, hst, hw, hwl, hh, h4⟩ := r
  simp only [zm_si, zm_go] at hs
  split at hs
  · next z hz =>
    cases hs
    exact lv_iload_n hx hb hd rfl (zs_lo_at hL hz rfl) (k ρ H locs ls _ (fun _ _ => rfl) ⟨hP, hD, hS, hL, zs_psh rfl hst, zs_w2 (hwl _ (List.mem_of_getElem? hz)) hw, hwl, hh, h4⟩)
  · cases hs
theorem zs_i_lload {n : Nat} (hx : p.tables.exec = Jvm.exec) (hb : c.code = zm_code y) (hd : decode (zm_code y) pc = .ok (.lload n, 2)) (hs : zm_si X md rk y pc loc stk nx h (.lload n) = some (.inl (pc', loc', stk', nx1, h1))) (r : zs_R D kA A s.heap nL ρ md loc stk nx h H locs ls st) (k : zs_K p l e R s m args below meth c Q D kA A nL ρ md nx0 pc' loc' stk' nx nx1 h1) : W p l e R s m args below meth c H locs (nx - nx0) (zs_sl nx - zs_sl nx0) Q (F0 m pc ls st) := by
  obtain ⟨hP, hD, hS, hL, hst, hw, hwl, hh, h4⟩ := r
  simp only [zm_si, zm_go] at hs
  split at hs
  · next z hz =>
    cases hs
    exact lv_lload hx hb hd (zs_lo_at hL hz rfl) (k ρ H locs ls _ (fun _ _ => rfl) ⟨hP, hD, hS, hL, zs_psh rfl hst, zs_w2 (hwl _ (List.mem_of_getElem? hz)) hw, hwl, hh, h4⟩)
  · cases hs
theorem zs_i_lload_n {n : Fin 4} (hx : p.tables.exec = Jvm.exec) (hb : c.code = zm_code y) (hd : decode (zm_code y) pc = .ok (.lload_n n, 1)) (hs : zm_si X md rk y pc loc stk nx h (.lload_n n) = some (.inl (pc', loc', stk', nx1, h1))) (r : zs_R D kA A s.heap nL ρ md loc stk nx h H locs ls st) (k : zs_K p l e R s m args below meth c Q D kA A nL ρ md nx0 pc' loc' stk' nx nx1 h1) : W p l e R s m args below meth c H locs (nx - nx0) (zs_sl nx - zs_sl nx0) Q (F0 m pc ls st) := by
  obtain ⟨hP, hD, hS, hL, hst, hw, hwl, hh, h4⟩ := r
  simp only [zm_si, zm_go] at hs
  split at hs
  · next z hz =>
    cases hs
    exact lv_lload_n hx hb hd rfl (zs_lo_at hL hz rfl) (k ρ H locs ls _ (fun _ _ => rfl) ⟨hP, hD, hS, hL, zs_psh rfl hst, zs_w2 (hwl _ (List.mem_of_getElem? hz)) hw, hwl, hh, h4⟩)
  · cases hs
theorem zs_i_aload {n : Nat} (hx : p.tables.exec = Jvm.exec) (hb : c.code = zm_code y) (hd : decode (zm_code y) pc = .ok (.aload n, 2)) (hs : zm_si X md rk y pc loc stk nx h (.aload n) = some (.inl (pc', loc', stk', nx1, h1))) (r : zs_R D kA A s.heap nL ρ md loc stk nx h H locs ls st) (k : zs_K p l e R s m args below meth c Q D kA A nL ρ md nx0 pc' loc' stk' nx nx1 h1) : W p l e R s m args below meth c H locs (nx - nx0) (zs_sl nx - zs_sl nx0) Q (F0 m pc ls st) := by
  obtain ⟨hP, hD, hS, hL, hst, hw, hwl, hh, h4⟩ := r
  simp only [zm_si, zm_go] at hs
  split at hs
  · next z hz =>
    cases hs
    exact lv_aload hx hb hd (zs_lo_at hL hz rfl) (k ρ H locs ls _ (fun _ _ => rfl) ⟨hP, hD, hS, hL, zs_psh rfl hst, zs_w2 (hwl _ (List.mem_of_getElem? hz)) hw, hwl, hh, h4⟩)
  · cases hs
theorem zs_i_aload_n {n : Fin 4} (hx : p.tables.exec = Jvm.exec) (hb : c.code = zm_code y) (hd : decode (zm_code y) pc = .ok (.aload_n n, 1)) (hs : zm_si X md rk y pc loc stk nx h (.aload_n n) = some (.inl (pc', loc', stk', nx1, h1))) (r : zs_R D kA A s.heap nL ρ md loc stk nx h H locs ls st) (k : zs_K p l e R s m args below meth c Q D kA A nL ρ md nx0 pc' loc' stk' nx nx1 h1) : W p l e R s m args below meth c H locs (nx - nx0) (zs_sl nx - zs_sl nx0) Q (F0 m pc ls st) := by
  obtain ⟨hP, hD, hS, hL, hst, hw, hwl, hh, h4⟩ := r
  simp only [zm_si, zm_go] at hs
  split at hs
  · next z hz =>
    cases hs
    exact lv_aload_n hx hb hd rfl (zs_lo_at hL hz rfl) (k ρ H locs ls _ (fun _ _ => rfl) ⟨hP, hD, hS, hL, zs_psh rfl hst, zs_w2 (hwl _ (List.mem_of_getElem? hz)) hw, hwl, hh, h4⟩)
  · cases hs
theorem zs_i_istore {n : Nat} (hx : p.tables.exec = Jvm.exec) (hb : c.code = zm_code y) (hd : decode (zm_code y) pc = .ok (.istore n, 2)) (hs : zm_si X md rk y pc loc stk nx h (.istore n) = some (.inl (pc', loc', stk', nx1, h1))) (r : zs_R D kA A s.heap nL ρ md loc stk nx h H locs ls st) (k : zs_K p l e R s m args below meth c Q D kA A nL ρ md nx0 pc' loc' stk' nx nx1 h1) : W p l e R s m args below meth c H locs (nx - nx0) (zs_sl nx - zs_sl nx0) Q (F0 m pc ls st) := by
  obtain ⟨hP, hD, hS, hL, hst, hw, hwl, hh, h4⟩ := r
  simp only [zm_si, zm_go] at hs
  split at hs
  · next z r =>
    obtain ⟨hn, hs⟩ := zm_ck_some hs
    cases hs
    obtain ⟨st2, rfl, hst2⟩ := zs_top hst rfl
    obtain ⟨hl, lv, hlv, hm⟩ := hL
    refine lv_istore hx hb hd hlv (by omega) rfl (fun ls1 hls => ?_)
    exact k ρ H locs ls1 _ (fun _ _ => rfl) ⟨hP, hD, hS, zs_lo_1 (by omega) hl rfl hm hls, hst2, (zs_w1 hw).2, zs_st_w hwl (zs_w1 hw).1, hh, h4⟩
  · cases hs
theorem zs_i_istore_n {n : Fin 4} (hx : p.tables.exec = Jvm.exec) (hb : c.code = zm_code y) (hd : decode (zm_code y) pc = .ok (.istore_n n, 1)) (hs : zm_si X md rk y pc loc stk nx h (.istore_n n) = some (.inl (pc', loc', stk', nx1, h1))) (r : zs_R D kA A s.heap nL ρ md loc stk nx h H locs ls st) (k : zs_K p l e R s m args below meth c Q D kA A nL ρ md nx0 pc' loc' stk' nx nx1 h1) : W p l e R s m args below meth c H locs (nx - nx0) (zs_sl nx - zs_sl nx0) Q (F0 m pc ls st) := by
  obtain ⟨hP, hD, hS, hL, hst, hw, hwl, hh, h4⟩ := r
  simp only [zm_si, zm_go] at hs
  split at hs
  · next z r =>
    obtain ⟨hn, hs⟩ := zm_ck_some hs
    cases hs
    obtain ⟨st2, rfl, hst2⟩ := zs_top hst rfl
    obtain ⟨hl, lv, hlv, hm⟩ := hL
    refine lv_istore_n hx hb hd rfl hlv (by omega) rfl (fun ls1 hls => ?_)
    exact k ρ H locs ls1 _ (fun _ _ => rfl) ⟨hP, hD, hS, zs_lo_1 (by omega) hl rfl hm hls, hst2, (zs_w1 hw).2, zs_st_w hwl (zs_w1 hw).1, hh, h4⟩
  · cases hs
theorem zs_i_lstore {n : Nat} (hx : p.tables.exec = Jvm.exec) (hb : c.code = zm_code y) (hd : decode (zm_code y) pc = .ok (.lstore n, 2)) (hs : zm_si X md rk y pc loc stk nx h (.lstore n) = some (.inl (pc', loc', stk', nx1, h1))) (r : zs_R D kA A s.heap nL ρ md loc stk nx h H locs ls st) (k : zs_K p l e R s m args below meth c Q D kA A nL ρ md nx0 pc' loc' stk' nx nx1 h1) : W p l e R s m args below meth c H locs (nx - nx0) (zs_sl nx - zs_sl nx0) Q (F0 m pc ls st) := by
  obtain ⟨hP, hD, hS, hL, hst, hw, hwl, hh, h4⟩ := r
  simp only [zm_si, zm_go] at hs
  split at hs
  · next z r =>
    obtain ⟨hn, hs⟩ := zm_ck_some hs
    cases hs
    obtain ⟨st2, rfl, hst2⟩ := zs_top hst rfl
    obtain ⟨hl, lv, hlv, hm⟩ := hL
    refine lv_lstore hx hb hd hlv (by omega) rfl (fun ls1 hls => ?_)
    exact k ρ H locs ls1 _ (fun _ _ => rfl) ⟨hP, hD, hS, zs_lo_2 (by omega) hl rfl hm hls, hst2, (zs_w1 hw).2, zs_st2_w hwl (zs_w1 hw).1, hh, h4⟩
  · cases hs
theorem zs_i_lstore_n {n : Fin 4} (hx : p.tables.exec = Jvm.exec) (hb : c.code = zm_code y) (hd : decode (zm_code y) pc = .ok (.lstore_n n, 1)) (hs : zm_si X md rk y pc loc stk nx h (.lstore_n n) = some (.inl (pc', loc', stk', nx1, h1))) (r : zs_R D kA A s.heap nL ρ md loc stk nx h H locs ls st) (k : zs_K p l e R s m args below meth c Q D kA A nL ρ md nx0 pc' loc' stk' nx nx1 h1) : W p l e R s m args below meth c H locs (nx - nx0) (zs_sl nx - zs_sl nx0) Q (F0 m pc ls st) := by
  obtain ⟨hP, hD, hS, hL, hst, hw, hwl, hh, h4⟩ := r
  simp only [zm_si, zm_go] at hs
  split at hs
  · next z r =>
    obtain ⟨hn, hs⟩ := zm_ck_some hs
    cases hs
    obtain ⟨st2, rfl, hst2⟩ := zs_top hst rfl
    obtain ⟨hl, lv, hlv, hm⟩ := hL
    refine lv_lstore_n hx hb hd rfl hlv (by omega) rfl (fun ls1 hls => ?_)
    exact k ρ H locs ls1 _ (fun _ _ => rfl) ⟨hP, hD, hS, zs_lo_2 (by omega) hl rfl hm hls, hst2, (zs_w1 hw).2, zs_st2_w hwl (zs_w1 hw).1, hh, h4⟩
  · cases hs
theorem zs_i_astore {n : Nat} (hx : p.tables.exec = Jvm.exec) (hb : c.code = zm_code y) (hd : decode (zm_code y) pc = .ok (.astore n, 2)) (hs : zm_si X md rk y pc loc stk nx h (.astore n) = some (.inl (pc', loc', stk', nx1, h1))) (r : zs_R D kA A s.heap nL ρ md loc stk nx h H locs ls st) (k : zs_K p l e R s m args below meth c Q D kA A nL ρ md nx0 pc' loc' stk' nx nx1 h1) : W p l e R s m args below meth c H locs (nx - nx0) (zs_sl nx - zs_sl nx0) Q (F0 m pc ls st) := by
  obtain ⟨hP, hD, hS, hL, hst, hw, hwl, hh, h4⟩ := r
  simp only [zm_si, zm_go] at hs
  split at hs
  · next z r =>
    obtain ⟨hn, hs⟩ := zm_ck_some hs
    cases hs
    obtain ⟨st2, rfl, hst2⟩ := zs_top hst rfl
    obtain ⟨hl, lv, hlv, hm⟩ := hL
    refine lv_astore hx hb hd hlv (by omega) rfl (fun ls1 hls => ?_)
    exact k ρ H locs ls1 _ (fun _ _ => rfl) ⟨hP, hD, hS, zs_lo_1 (by omega) hl rfl hm hls, hst2, (zs_w1 hw).2, zs_st_w hwl (zs_w1 hw).1, hh, h4⟩
  · cases hs
theorem zs_i_astore_n {n : Fin 4} (hx : p.tables.exec = Jvm.exec) (hb : c.code = zm_code y) (hd : decode (zm_code y) pc = .ok (.astore_n n, 1)) (hs : zm_si X md rk y pc loc stk nx h (.astore_n n) = some (.inl (pc', loc', stk', nx1, h1))) (r : zs_R D kA A s.heap nL ρ md loc stk nx h H locs ls st) (k : zs_K p l e R s m args below meth c Q D kA A nL ρ md nx0 pc' loc' stk' nx nx1 h1) : W p l e R s m args below meth c H locs (nx - nx0) (zs_sl nx - zs_sl nx0) Q (F0 m pc ls st) := by
  obtain ⟨hP, hD, hS, hL, hst, hw, hwl, hh, h4⟩ := r
  simp only [zm_si, zm_go] at hs
  split at hs
  · next z r =>
    obtain ⟨hn, hs⟩ := zm_ck_some hs
    cases hs
    obtain ⟨st2, rfl, hst2⟩ := zs_top hst rfl
    obtain ⟨hl, lv, hlv, hm⟩ := hL
    refine lv_astore_n hx hb hd rfl hlv (by omega) rfl (fun ls1 hls => ?_)
    exact k ρ H locs ls1 _ (fun _ _ => rfl) ⟨hP, hD, hS, zs_lo_1 (by omega) hl rfl hm hls, hst2, (zs_w1 hw).2, zs_st_w hwl (zs_w1 hw).1, hh, h4⟩
  · cases hs
theorem zs_i_iinc {n : Nat} {z : Int} (hx : p.tables.exec = Jvm.exec) (hb : c.code = zm_code y) (hd : decode (zm_code y) pc = .ok (.iinc n z, 3)) (hs : zm_si X md rk y pc loc stk nx h (.iinc n z) = some (.inl (pc', loc', stk', nx1, h1))) (r : zs_R D kA A s.heap nL ρ md loc stk nx h H locs ls st) (k : zs_K p l e R s m args below meth c Q D kA A nL ρ md nx0 pc' loc' stk' nx nx1 h1) : W p l e R s m args below meth c H locs (nx - nx0) (zs_sl nx - zs_sl nx0) Q (F0 m pc ls st) := by
  obtain ⟨hP, hD, hS, hL, hst, hw, hwl, hh, h4⟩ := r
  simp only [zm_si, zm_go] at hs
  split at hs
  · next x hz =>
    obtain ⟨hn, hs⟩ := zm_ck_some hs
    cases hs
    obtain ⟨hl, lv, hlv, hm⟩ := hL
    obtain ⟨j, hj⟩ := List.getElem?_of_mem (hm n _ _ hz rfl)
    refine lv_iinc (v := Int32.ofInt (x + z)) hx hb hd hlv hj (by rw [Int32.ofInt_add]) (by omega) rfl (fun ls1 hls => ?_)
    exact k ρ H locs ls1 _ (fun _ _ => rfl) ⟨hP, hD, hS, zs_lo_1 (by omega) hl rfl hm hls, hst, hw, zs_st_w hwl hn.1, hh, h4⟩
  · cases hs
theorem zs_i_iconst {z : Int} (hx : p.tables.exec = Jvm.exec) (hb : c.code = zm_code y) (hd : decode (zm_code y) pc = .ok (.iconst z, 1)) (hs : zm_si X md rk y pc loc stk nx h (.iconst z) = some (.inl (pc', loc', stk', nx1, h1))) (r : zs_R D kA A s.heap nL ρ md loc stk nx h H locs ls st) (k : zs_K p l e R s m args below meth c Q D kA A nL ρ md nx0 pc' loc' stk' nx nx1 h1) : W p l e R s m args below meth c H locs (nx - nx0) (zs_sl nx - zs_sl nx0) Q (F0 m pc ls st) := by
  obtain ⟨hP, hD, hS, hL, hst, hw, hwl, hh, h4⟩ := r
  simp only [zm_si, zm_go] at hs
  obtain ⟨hn, hs⟩ := zm_ck_some hs
  cases hs
  exact lv_iconst (v := Int32.ofInt z) hx hb hd rfl (k ρ H locs ls _ (fun _ _ => rfl) ⟨hP, hD, hS, hL, zs_psh rfl hst, zs_w2 (hn) hw, hwl, hh, h4⟩)
theorem zs_i_bipush {z : Int} (hx : p.tables.exec = Jvm.exec) (hb : c.code = zm_code y) (hd : decode (zm_code y) pc = .ok (.bipush z, 2)) (hs : zm_si X md rk y pc loc stk nx h (.bipush z) = some (.inl (pc', loc', stk', nx1, h1))) (r : zs_R D kA A s.heap nL ρ md loc stk nx h H locs ls st) (k : zs_K p l e R s m args below meth c Q D kA A nL ρ md nx0 pc' loc' stk' nx nx1 h1) : W p l e R s m args below meth c H locs (nx - nx0) (zs_sl nx - zs_sl nx0) Q (F0 m pc ls st) := by
  obtain ⟨hP, hD, hS, hL, hst, hw, hwl, hh, h4⟩ := r
  simp only [zm_si, zm_go] at hs
  obtain ⟨hn, hs⟩ := zm_ck_some hs
  cases hs
  exact lv_bipush (v := Int32.ofInt z) hx hb hd (by rw [Int8.toInt32_ofInt (by rw [show Int8.minValue.toInt = -128 from rfl]; exact hn.1) (by rw [show Int8.maxValue.toInt = 127 from rfl]; omega)]) (k ρ H locs ls _ (fun _ _ => rfl) ⟨hP, hD, hS, hL, zs_psh rfl hst, zs_w2 ((by omega : zm_i32 z)) hw, hwl, hh, h4⟩)
theorem zs_i_sipush {z : Int} (hx : p.tables.exec = Jvm.exec) (hb : c.code = zm_code y) (hd : decode (zm_code y) pc = .ok (.sipush z, 3)) (hs : zm_si X md rk y pc loc stk nx h (.sipush z) = some (.inl (pc', loc', stk', nx1, h1))) (r : zs_R D kA A s.heap nL ρ md loc stk nx h H locs ls st) (k : zs_K p l e R s m args below meth c Q D kA A nL ρ md nx0 pc' loc' stk' nx nx1 h1) : W p l e R s m args below meth c H locs (nx - nx0) (zs_sl nx - zs_sl nx0) Q (F0 m pc ls st) := by
  obtain ⟨hP, hD, hS, hL, hst, hw, hwl, hh, h4⟩ := r
  simp only [zm_si, zm_go] at hs
  obtain ⟨hn, hs⟩ := zm_ck_some hs
  cases hs
  exact lv_sipush (v := Int32.ofInt z) hx hb hd (by rw [Int16.toInt32_ofInt (by rw [show Int16.minValue.toInt = -32768 from rfl]; exact hn.1) (by rw [show Int16.maxValue.toInt = 32767 from rfl]; omega)]) (k ρ H locs ls _ (fun _ _ => rfl) ⟨hP, hD, hS, hL, zs_psh rfl hst, zs_w2 ((by omega : zm_i32 z)) hw, hwl, hh, h4⟩)
theorem zs_i_lconst {z : Fin 2} (hx : p.tables.exec = Jvm.exec) (hb : c.code = zm_code y) (hd : decode (zm_code y) pc = .ok (.lconst z, 1)) (hs : zm_si X md rk y pc loc stk nx h (.lconst z) = some (.inl (pc', loc', stk', nx1, h1))) (r : zs_R D kA A s.heap nL ρ md loc stk nx h H locs ls st) (k : zs_K p l e R s m args below meth c Q D kA A nL ρ md nx0 pc' loc' stk' nx nx1 h1) : W p l e R s m args below meth c H locs (nx - nx0) (zs_sl nx - zs_sl nx0) Q (F0 m pc ls st) := by
  obtain ⟨hP, hD, hS, hL, hst, hw, hwl, hh, h4⟩ := r
  simp only [zm_si, zm_go] at hs
  cases hs
  exact lv_lconst (v := Int64.ofInt ((z : Nat) : Int)) hx hb hd (by rw [Int64.ofInt_eq_ofNat]) (k ρ H locs ls _ (fun _ _ => rfl) ⟨hP, hD, hS, hL, zs_psh rfl hst, zs_w2 (by have := z.2; exact (by omega : zm_i64 ((z : Nat) : Int))) hw, hwl, hh, h4⟩)
theorem zs_i_dup (hx : p.tables.exec = Jvm.exec) (hb : c.code = zm_code y) (hd : decode (zm_code y) pc = .ok (.dup, 1)) (hs : zm_si X md rk y pc loc stk nx h (.dup) = some (.inl (pc', loc', stk', nx1, h1))) (r : zs_R D kA A s.heap nL ρ md loc stk nx h H locs ls st) (k : zs_K p l e R s m args below meth c Q D kA A nL ρ md nx0 pc' loc' stk' nx nx1 h1) : W p l e R s m args below meth c H locs (nx - nx0) (zs_sl nx - zs_sl nx0) Q (F0 m pc ls st) := by
  obtain ⟨hP, hD, hS, hL, hst, hw, hwl, hh, h4⟩ := r
  simp only [zm_si, zm_go] at hs
  split at hs
  · next v r =>
    obtain ⟨hn, hs⟩ := zm_ck_some hs
    cases hs
    obtain ⟨w, hv, hc⟩ := zs_catw (ρ := ρ) hn
    obtain ⟨st2, rfl, hst2⟩ := zs_top hst hv
    exact lv_dup hx hb hd hc (k ρ H locs ls _ (fun _ _ => rfl) ⟨hP, hD, hS, hL, zs_psh hv (zs_psh hv hst2), zs_w2 (zs_w1 hw).1 hw, hwl, hh, h4⟩)
  · cases hs
theorem zs_i_dup_x1 (hx : p.tables.exec = Jvm.exec) (hb : c.code = zm_code y) (hd : decode (zm_code y) pc = .ok (.dup_x1, 1)) (hs : zm_si X md rk y pc loc stk nx h (.dup_x1) = some (.inl (pc', loc', stk', nx1, h1))) (r : zs_R D kA A s.heap nL ρ md loc stk nx h H locs ls st) (k : zs_K p l e R s m args below meth c Q D kA A nL ρ md nx0 pc' loc' stk' nx nx1 h1) : W p l e R s m args below meth c H locs (nx - nx0) (zs_sl nx - zs_sl nx0) Q (F0 m pc ls st) := by
  obtain ⟨hP, hD, hS, hL, hst, hw, hwl, hh, h4⟩ := r
  simp only [zm_si, zm_go] at hs
  split at hs
  · next v u r =>
    obtain ⟨hn, hs⟩ := zm_ck_some hs
    cases hs
    obtain ⟨w, hv, hc⟩ := zs_catw (ρ := ρ) hn.1
    obtain ⟨w2, hv2, hc2⟩ := zs_catw (ρ := ρ) hn.2
    obtain ⟨st2, rfl, hst2⟩ := zs_top hst hv
    obtain ⟨st3, rfl, hst3⟩ := zs_top hst2 hv2
    exact lv_dup_x1 hx hb hd hc hc2 (k ρ H locs ls _ (fun _ _ => rfl) ⟨hP, hD, hS, hL, zs_psh hv (zs_psh hv2 (zs_psh hv hst3)), zs_w2 (zs_w1 hw).1 (zs_w2 (zs_w1 (zs_w1 hw).2).1 (zs_w2 (zs_w1 hw).1 (zs_w1 (zs_w1 hw).2).2)), hwl, hh, h4⟩)
  · cases hs
theorem zs_i_dup2 (hx : p.tables.exec = Jvm.exec) (hb : c.code = zm_code y) (hd : decode (zm_code y) pc = .ok (.dup2, 1)) (hs : zm_si X md rk y pc loc stk nx h (.dup2) = some (.inl (pc', loc', stk', nx1, h1))) (r : zs_R D kA A s.heap nL ρ md loc stk nx h H locs ls st) (k : zs_K p l e R s m args below meth c Q D kA A nL ρ md nx0 pc' loc' stk' nx nx1 h1) : W p l e R s m args below meth c H locs (nx - nx0) (zs_sl nx - zs_sl nx0) Q (F0 m pc ls st) := by
  obtain ⟨hP, hD, hS, hL, hst, hw, hwl, hh, h4⟩ := r
  simp only [zm_si, zm_go] at hs
  split at hs
  · next v r =>
    split at hs
    · next hn =>
      cases hs
      rcases v with z | z | z | z
      · simp [zm_cat] at hn
      · obtain ⟨st2, rfl, hst2⟩ := zs_top hst rfl
        exact lv_dup2_2 hx hb hd rfl (k ρ H locs ls _ (fun _ _ => rfl) ⟨hP, hD, hS, hL, zs_psh rfl (zs_psh rfl hst2), zs_w2 (zs_w1 hw).1 hw, hwl, hh, h4⟩)
      · simp [zm_cat] at hn
      · simp [zm_cat] at hn
    · split at hs
      · next u r2 hn2 =>
        obtain ⟨hn, hs⟩ := zm_ck_some hs
        cases hs
        obtain ⟨w, hv, hc⟩ := zs_catw (ρ := ρ) hn.1
        obtain ⟨w2, hv2, hc2⟩ := zs_catw (ρ := ρ) hn.2
        obtain ⟨st2, rfl, hst2⟩ := zs_top hst hv
        obtain ⟨st3, rfl, hst3⟩ := zs_top hst2 hv2
        exact lv_dup2_11 hx hb hd hc hc2 (k ρ H locs ls _ (fun _ _ => rfl) ⟨hP, hD, hS, hL, zs_psh hv (zs_psh hv2 (zs_psh hv (zs_psh hv2 hst3))), zs_w2 (zs_w1 hw).1 (zs_w2 (zs_w1 (zs_w1 hw).2).1 hw), hwl, hh, h4⟩)
      · cases hs
  · cases hs
theorem zs_i_pop (hx : p.tables.exec = Jvm.exec) (hb : c.code = zm_code y) (hd : decode (zm_code y) pc = .ok (.pop, 1)) (hs : zm_si X md rk y pc loc stk nx h (.pop) = some (.inl (pc', loc', stk', nx1, h1))) (r : zs_R D kA A s.heap nL ρ md loc stk nx h H locs ls st) (k : zs_K p l e R s m args below meth c Q D kA A nL ρ md nx0 pc' loc' stk' nx nx1 h1) : W p l e R s m args below meth c H locs (nx - nx0) (zs_sl nx - zs_sl nx0) Q (F0 m pc ls st) := by
  obtain ⟨hP, hD, hS, hL, hst, hw, hwl, hh, h4⟩ := r
  simp only [zm_si, zm_go] at hs
  split at hs
  · next v r =>
    obtain ⟨hn, hs⟩ := zm_ck_some hs
    cases hs
    obtain ⟨w, hv, hc⟩ := zs_catw (ρ := ρ) hn
    obtain ⟨st2, rfl, hst2⟩ := zs_top hst hv
    exact lv_pop hx hb hd hc (k ρ H locs ls _ (fun _ _ => rfl) ⟨hP, hD, hS, hL, hst2, (zs_w1 hw).2, hwl, hh, h4⟩)
  · cases hs
theorem zs_i_ineg (hx : p.tables.exec = Jvm.exec) (hb : c.code = zm_code y) (hd : decode (zm_code y) pc = .ok (.ineg, 1)) (hs : zm_si X md rk y pc loc stk nx h (.ineg) = some (.inl (pc', loc', stk', nx1, h1))) (r : zs_R D kA A s.heap nL ρ md loc stk nx h H locs ls st) (k : zs_K p l e R s m args below meth c Q D kA A nL ρ md nx0 pc' loc' stk' nx nx1 h1) : W p l e R s m args below meth c H locs (nx - nx0) (zs_sl nx - zs_sl nx0) Q (F0 m pc ls st) := by
  obtain ⟨hP, hD, hS, hL, hst, hw, hwl, hh, h4⟩ := r
  simp only [zm_si, zm_go] at hs
  split at hs
  · next z r =>
    obtain ⟨hn, hs⟩ := zm_ck_some hs
    cases hs
    obtain ⟨st2, rfl, hst2⟩ := zs_top hst rfl
    have hz := (zs_w1 hw).1
    exact lv_ineg hx hb hd (k ρ H locs ls _ (fun _ _ => rfl) ⟨hP, hD, hS, hL, zs_psh (by simp only [zs_mv, Int32.ofInt_neg]) hst2, zs_w2 (hn) (zs_w1 hw).2, hwl, hh, h4⟩)
  · cases hs
theorem zs_i_i2l (hx : p.tables.exec = Jvm.exec) (hb : c.code = zm_code y) (hd : decode (zm_code y) pc = .ok (.i2l, 1)) (hs : zm_si X md rk y pc loc stk nx h (.i2l) = some (.inl (pc', loc', stk', nx1, h1))) (r : zs_R D kA A s.heap nL ρ md loc stk nx h H locs ls st) (k : zs_K p l e R s m args below meth c Q D kA A nL ρ md nx0 pc' loc' stk' nx nx1 h1) : W p l e R s m args below meth c H locs (nx - nx0) (zs_sl nx - zs_sl nx0) Q (F0 m pc ls st) := by
  obtain ⟨hP, hD, hS, hL, hst, hw, hwl, hh, h4⟩ := r
  simp only [zm_si, zm_go] at hs
  split at hs
  · next z r =>
    cases hs
    obtain ⟨st2, rfl, hst2⟩ := zs_top hst rfl
    have hz := (zs_w1 hw).1
    exact lv_i2l (v := Int64.ofInt z) hx hb hd (by rw [Int32.toInt64_ofInt (by rw [show Int32.minValue.toInt = -2147483648 from rfl]; exact hz.1) (by rw [show Int32.maxValue.toInt = 2147483647 from rfl]; exact hz.2)]) (k ρ H locs ls _ (fun _ _ => rfl) ⟨hP, hD, hS, hL, zs_psh rfl hst2, zs_w2 ((by have h1 := hz.1; have h2 := hz.2; exact ⟨by omega, by omega⟩ : zm_i64 z)) (zs_w1 hw).2, hwl, hh, h4⟩)
  · cases hs
theorem zs_i_l2i (hx : p.tables.exec = Jvm.exec) (hb : c.code = zm_code y) (hd : decode (zm_code y) pc = .ok (.l2i, 1)) (hs : zm_si X md rk y pc loc stk nx h (.l2i) = some (.inl (pc', loc', stk', nx1, h1))) (r : zs_R D kA A s.heap nL ρ md loc stk nx h H locs ls st) (k : zs_K p l e R s m args below meth c Q D kA A nL ρ md nx0 pc' loc' stk' nx nx1 h1) : W p l e R s m args below meth c H locs (nx - nx0) (zs_sl nx - zs_sl nx0) Q (F0 m pc ls st) := by
  obtain ⟨hP, hD, hS, hL, hst, hw, hwl, hh, h4⟩ := r
  simp only [zm_si, zm_go] at hs
  split at hs
  · next z r =>
    obtain ⟨hn, hs⟩ := zm_ck_some hs
    cases hs
    obtain ⟨st2, rfl, hst2⟩ := zs_top hst rfl
    have hz := (zs_w1 hw).1
    exact lv_l2i (v := Int32.ofInt z) hx hb hd (by rw [Int64.toInt32_ofInt]) (k ρ H locs ls _ (fun _ _ => rfl) ⟨hP, hD, hS, hL, zs_psh rfl hst2, zs_w2 (hn) (zs_w1 hw).2, hwl, hh, h4⟩)
  · cases hs
theorem zs_i_iadd (hx : p.tables.exec = Jvm.exec) (hb : c.code = zm_code y) (hd : decode (zm_code y) pc = .ok (.iadd, 1)) (hs : zm_si X md rk y pc loc stk nx h (.iadd) = some (.inl (pc', loc', stk', nx1, h1))) (r : zs_R D kA A s.heap nL ρ md loc stk nx h H locs ls st) (k : zs_K p l e R s m args below meth c Q D kA A nL ρ md nx0 pc' loc' stk' nx nx1 h1) : W p l e R s m args below meth c H locs (nx - nx0) (zs_sl nx - zs_sl nx0) Q (F0 m pc ls st) := by
  obtain ⟨hP, hD, hS, hL, hst, hw, hwl, hh, h4⟩ := r
  simp only [zm_si, zm_f2, zm_g2, zm_s2, zm_go] at hs
  split at hs
  · next z x r =>
    obtain ⟨v, hv, hs⟩ := Option.bind_eq_some_iff.mp hs
    obtain ⟨hn, hv⟩ := zm_ck_some hv
    cases hv
    cases hs
    have hwz := (zs_w1 hw).1
    have hwx := (zs_w1 (zs_w1 hw).2).1
    have hwr := (zs_w1 (zs_w1 hw).2).2
    obtain ⟨st2, rfl, hst2⟩ := zs_top hst rfl
    obtain ⟨st3, rfl, hst3⟩ := zs_top hst2 rfl
    exact lv_iadd hx hb hd (k ρ H locs ls _ (fun _ _ => rfl) ⟨hP, hD, hS, hL, zs_psh (by simp only [zs_mv, Int32.ofInt_add]) hst3, zs_w2 (hn) hwr, hwl, hh, h4⟩)
  · cases hs
  · cases hs
  · cases hs
theorem zs_i_isub (hx : p.tables.exec = Jvm.exec) (hb : c.code = zm_code y) (hd : decode (zm_code y) pc = .ok (.isub, 1)) (hs : zm_si X md rk y pc loc stk nx h (.isub) = some (.inl (pc', loc', stk', nx1, h1))) (r : zs_R D kA A s.heap nL ρ md loc stk nx h H locs ls st) (k : zs_K p l e R s m args below meth c Q D kA A nL ρ md nx0 pc' loc' stk' nx nx1 h1) : W p l e R s m args below meth c H locs (nx - nx0) (zs_sl nx - zs_sl nx0) Q (F0 m pc ls st) := by
  obtain ⟨hP, hD, hS, hL, hst, hw, hwl, hh, h4⟩ := r
  simp only [zm_si, zm_f2, zm_g2, zm_s2, zm_go] at hs
  split at hs
  · next z x r =>
    obtain ⟨v, hv, hs⟩ := Option.bind_eq_some_iff.mp hs
    obtain ⟨hn, hv⟩ := zm_ck_some hv
    cases hv
    cases hs
    have hwz := (zs_w1 hw).1
    have hwx := (zs_w1 (zs_w1 hw).2).1
    have hwr := (zs_w1 (zs_w1 hw).2).2
    obtain ⟨st2, rfl, hst2⟩ := zs_top hst rfl
    obtain ⟨st3, rfl, hst3⟩ := zs_top hst2 rfl
    exact lv_isub hx hb hd (k ρ H locs ls _ (fun _ _ => rfl) ⟨hP, hD, hS, hL, zs_psh (by simp only [zs_mv, Int32.ofInt_sub]) hst3, zs_w2 (hn) hwr, hwl, hh, h4⟩)
  · cases hs
  · cases hs
  · cases hs
theorem zs_i_imul (hx : p.tables.exec = Jvm.exec) (hb : c.code = zm_code y) (hd : decode (zm_code y) pc = .ok (.imul, 1)) (hs : zm_si X md rk y pc loc stk nx h (.imul) = some (.inl (pc', loc', stk', nx1, h1))) (r : zs_R D kA A s.heap nL ρ md loc stk nx h H locs ls st) (k : zs_K p l e R s m args below meth c Q D kA A nL ρ md nx0 pc' loc' stk' nx nx1 h1) : W p l e R s m args below meth c H locs (nx - nx0) (zs_sl nx - zs_sl nx0) Q (F0 m pc ls st) := by
  obtain ⟨hP, hD, hS, hL, hst, hw, hwl, hh, h4⟩ := r
  simp only [zm_si, zm_f2, zm_g2, zm_s2, zm_go] at hs
  split at hs
  · next z x r =>
    obtain ⟨v, hv, hs⟩ := Option.bind_eq_some_iff.mp hs
    obtain ⟨hn, hv⟩ := zm_ck_some hv
    cases hv
    cases hs
    have hwz := (zs_w1 hw).1
    have hwx := (zs_w1 (zs_w1 hw).2).1
    have hwr := (zs_w1 (zs_w1 hw).2).2
    obtain ⟨st2, rfl, hst2⟩ := zs_top hst rfl
    obtain ⟨st3, rfl, hst3⟩ := zs_top hst2 rfl
    exact lv_imul hx hb hd (k ρ H locs ls _ (fun _ _ => rfl) ⟨hP, hD, hS, hL, zs_psh (by simp only [zs_mv, Int32.ofInt_mul]) hst3, zs_w2 (hn) hwr, hwl, hh, h4⟩)
  · cases hs
  · cases hs
  · cases hs
theorem zs_i_idiv (hx : p.tables.exec = Jvm.exec) (hb : c.code = zm_code y) (hd : decode (zm_code y) pc = .ok (.idiv, 1)) (hs : zm_si X md rk y pc loc stk nx h (.idiv) = some (.inl (pc', loc', stk', nx1, h1))) (r : zs_R D kA A s.heap nL ρ md loc stk nx h H locs ls st) (k : zs_K p l e R s m args below meth c Q D kA A nL ρ md nx0 pc' loc' stk' nx nx1 h1) : W p l e R s m args below meth c H locs (nx - nx0) (zs_sl nx - zs_sl nx0) Q (F0 m pc ls st) := by
  obtain ⟨hP, hD, hS, hL, hst, hw, hwl, hh, h4⟩ := r
  simp only [zm_si, zm_f2, zm_g2, zm_s2, zm_go] at hs
  split at hs
  · next z x r =>
    obtain ⟨v, hv, hs⟩ := Option.bind_eq_some_iff.mp hs
    obtain ⟨hn, hv⟩ := zm_ck_some hv
    cases hv
    cases hs
    have hwz := (zs_w1 hw).1
    have hwx := (zs_w1 (zs_w1 hw).2).1
    have hwr := (zs_w1 (zs_w1 hw).2).2
    obtain ⟨st2, rfl, hst2⟩ := zs_top hst rfl
    obtain ⟨st3, rfl, hst3⟩ := zs_top hst2 rfl
    exact lv_idiv hx hb hd (fun q => hn.1 ((zs_eq hwz (by omega)).mp q)) (k ρ H locs ls _ (fun _ _ => rfl) ⟨hP, hD, hS, hL, zs_psh (by simp only [zs_mv]; rw [Int32.ofInt_tdiv (by rw [show Int32.minValue.toInt = -2147483648 from rfl]; exact hwx.1) (by rw [show Int32.maxValue.toInt = 2147483647 from rfl]; exact hwx.2) (by rw [show Int32.minValue.toInt = -2147483648 from rfl]; exact hwz.1) (by rw [show Int32.maxValue.toInt = 2147483647 from rfl]; exact hwz.2)]) hst3, zs_w2 (hn.2) hwr, hwl, hh, h4⟩)
  · cases hs
  · cases hs
  · cases hs
theorem zs_i_irem (hx : p.tables.exec = Jvm.exec) (hb : c.code = zm_code y) (hd : decode (zm_code y) pc = .ok (.irem, 1)) (hs : zm_si X md rk y pc loc stk nx h (.irem) = some (.inl (pc', loc', stk', nx1, h1))) (r : zs_R D kA A s.heap nL ρ md loc stk nx h H locs ls st) (k : zs_K p l e R s m args below meth c Q D kA A nL ρ md nx0 pc' loc' stk' nx nx1 h1) : W p l e R s m args below meth c H locs (nx - nx0) (zs_sl nx - zs_sl nx0) Q (F0 m pc ls st) := by
  obtain ⟨hP, hD, hS, hL, hst, hw, hwl, hh, h4⟩ := r
  simp only [zm_si, zm_f2, zm_g2, zm_s2, zm_go] at hs
  split at hs
  · next z x r =>
    obtain ⟨v, hv, hs⟩ := Option.bind_eq_some_iff.mp hs
    obtain ⟨hn, hv⟩ := zm_ck_some hv
    cases hv
    cases hs
    have hwz := (zs_w1 hw).1
    have hwx := (zs_w1 (zs_w1 hw).2).1
    have hwr := (zs_w1 (zs_w1 hw).2).2
    obtain ⟨st2, rfl, hst2⟩ := zs_top hst rfl
    obtain ⟨st3, rfl, hst3⟩ := zs_top hst2 rfl
    exact lv_irem hx hb hd (fun q => hn.1 ((zs_eq hwz (by omega)).mp q)) (k ρ H locs ls _ (fun _ _ => rfl) ⟨hP, hD, hS, hL, zs_psh (by simp only [zs_mv]; rw [Int.tmod_def, Int32.ofInt_sub, Int32.ofInt_mul, Int32.ofInt_tdiv (by rw [show Int32.minValue.toInt = -2147483648 from rfl]; exact hwx.1) (by rw [show Int32.maxValue.toInt = 2147483647 from rfl]; exact hwx.2) (by rw [show Int32.minValue.toInt = -2147483648 from rfl]; exact hwz.1) (by rw [show Int32.maxValue.toInt = 2147483647 from rfl]; exact hwz.2), Int32.mul_comm]) hst3, zs_w2 (hn.2.2) hwr, hwl, hh, h4⟩)
  · cases hs
  · cases hs
  · cases hs
theorem zs_i_iand (hx : p.tables.exec = Jvm.exec) (hb : c.code = zm_code y) (hd : decode (zm_code y) pc = .ok (.iand, 1)) (hs : zm_si X md rk y pc loc stk nx h (.iand) = some (.inl (pc', loc', stk', nx1, h1))) (r : zs_R D kA A s.heap nL ρ md loc stk nx h H locs ls st) (k : zs_K p l e R s m args below meth c Q D kA A nL ρ md nx0 pc' loc' stk' nx nx1 h1) : W p l e R s m args below meth c H locs (nx - nx0) (zs_sl nx - zs_sl nx0) Q (F0 m pc ls st) := by
  obtain ⟨hP, hD, hS, hL, hst, hw, hwl, hh, h4⟩ := r
  simp only [zm_si, zm_f2, zm_g2, zm_s2, zm_go] at hs
  split at hs
  · next z x r =>
    obtain ⟨v, hv, hs⟩ := Option.bind_eq_some_iff.mp hs
    cases hv
    cases hs
    have hwz := (zs_w1 hw).1
    have hwx := (zs_w1 (zs_w1 hw).2).1
    have hwr := (zs_w1 (zs_w1 hw).2).2
    obtain ⟨st2, rfl, hst2⟩ := zs_top hst rfl
    obtain ⟨st3, rfl, hst3⟩ := zs_top hst2 rfl
    exact lv_iand hx hb hd (k ρ H locs ls _ (fun _ _ => rfl) ⟨hP, hD, hS, hL, zs_psh (by simp only [zs_mv, Int32.ofInt_toInt]) hst3, zs_w2 (zs_i32r _) hwr, hwl, hh, h4⟩)
  · cases hs
  · cases hs
  · cases hs
theorem zs_i_ior (hx : p.tables.exec = Jvm.exec) (hb : c.code = zm_code y) (hd : decode (zm_code y) pc = .ok (.ior, 1)) (hs : zm_si X md rk y pc loc stk nx h (.ior) = some (.inl (pc', loc', stk', nx1, h1))) (r : zs_R D kA A s.heap nL ρ md loc stk nx h H locs ls st) (k : zs_K p l e R s m args below meth c Q D kA A nL ρ md nx0 pc' loc' stk' nx nx1 h1) : W p l e R s m args below meth c H locs (nx - nx0) (zs_sl nx - zs_sl nx0) Q (F0 m pc ls st) := by
  obtain ⟨hP, hD, hS, hL, hst, hw, hwl, hh, h4⟩ := r
  simp only [zm_si, zm_f2, zm_g2, zm_s2, zm_go] at hs
  split at hs
  · next z x r =>
    obtain ⟨v, hv, hs⟩ := Option.bind_eq_some_iff.mp hs
    cases hv
    cases hs
    have hwz := (zs_w1 hw).1
    have hwx := (zs_w1 (zs_w1 hw).2).1
    have hwr := (zs_w1 (zs_w1 hw).2).2
    obtain ⟨st2, rfl, hst2⟩ := zs_top hst rfl
    obtain ⟨st3, rfl, hst3⟩ := zs_top hst2 rfl
    exact lv_ior hx hb hd (k ρ H locs ls _ (fun _ _ => rfl) ⟨hP, hD, hS, hL, zs_psh (by simp only [zs_mv, Int32.ofInt_toInt]) hst3, zs_w2 (zs_i32r _) hwr, hwl, hh, h4⟩)
  · cases hs
  · cases hs
  · cases hs
theorem zs_i_ixor (hx : p.tables.exec = Jvm.exec) (hb : c.code = zm_code y) (hd : decode (zm_code y) pc = .ok (.ixor, 1)) (hs : zm_si X md rk y pc loc stk nx h (.ixor) = some (.inl (pc', loc', stk', nx1, h1))) (r : zs_R D kA A s.heap nL ρ md loc stk nx h H locs ls st) (k : zs_K p l e R s m args below meth c Q D kA A nL ρ md nx0 pc' loc' stk' nx nx1 h1) : W p l e R s m args below meth c H locs (nx - nx0) (zs_sl nx - zs_sl nx0) Q (F0 m pc ls st) := by
  obtain ⟨hP, hD, hS, hL, hst, hw, hwl, hh, h4⟩ := r
  simp only [zm_si, zm_f2, zm_g2, zm_s2, zm_go] at hs
  split at hs
  · next z x r =>
    obtain ⟨v, hv, hs⟩ := Option.bind_eq_some_iff.mp hs
    cases hv
    cases hs
    have hwz := (zs_w1 hw).1
    have hwx := (zs_w1 (zs_w1 hw).2).1
    have hwr := (zs_w1 (zs_w1 hw).2).2
    obtain ⟨st2, rfl, hst2⟩ := zs_top hst rfl
    obtain ⟨st3, rfl, hst3⟩ := zs_top hst2 rfl
    exact lv_ixor hx hb hd (k ρ H locs ls _ (fun _ _ => rfl) ⟨hP, hD, hS, hL, zs_psh (by simp only [zs_mv, Int32.ofInt_toInt]) hst3, zs_w2 (zs_i32r _) hwr, hwl, hh, h4⟩)
  · cases hs
  · cases hs
  · cases hs
theorem zs_i_ishl (hx : p.tables.exec = Jvm.exec) (hb : c.code = zm_code y) (hd : decode (zm_code y) pc = .ok (.ishl, 1)) (hs : zm_si X md rk y pc loc stk nx h (.ishl) = some (.inl (pc', loc', stk', nx1, h1))) (r : zs_R D kA A s.heap nL ρ md loc stk nx h H locs ls st) (k : zs_K p l e R s m args below meth c Q D kA A nL ρ md nx0 pc' loc' stk' nx nx1 h1) : W p l e R s m args below meth c H locs (nx - nx0) (zs_sl nx - zs_sl nx0) Q (F0 m pc ls st) := by
  obtain ⟨hP, hD, hS, hL, hst, hw, hwl, hh, h4⟩ := r
  simp only [zm_si, zm_f2, zm_g2, zm_s2, zm_go] at hs
  split at hs
  · next z x r =>
    obtain ⟨v, hv, hs⟩ := Option.bind_eq_some_iff.mp hs
    cases hv
    cases hs
    have hwz := (zs_w1 hw).1
    have hwx := (zs_w1 (zs_w1 hw).2).1
    have hwr := (zs_w1 (zs_w1 hw).2).2
    obtain ⟨st2, rfl, hst2⟩ := zs_top hst rfl
    obtain ⟨st3, rfl, hst3⟩ := zs_top hst2 rfl
    exact lv_ishl hx hb hd (k ρ H locs ls _ (fun _ _ => rfl) ⟨hP, hD, hS, hL, zs_psh (by simp only [zs_mv, Int32.ofInt_toInt]) hst3, zs_w2 (zs_i32r _) hwr, hwl, hh, h4⟩)
  · cases hs
  · cases hs
  · cases hs
theorem zs_i_ishr (hx : p.tables.exec = Jvm.exec) (hb : c.code = zm_code y) (hd : decode (zm_code y) pc = .ok (.ishr, 1)) (hs : zm_si X md rk y pc loc stk nx h (.ishr) = some (.inl (pc', loc', stk', nx1, h1))) (r : zs_R D kA A s.heap nL ρ md loc stk nx h H locs ls st) (k : zs_K p l e R s m args below meth c Q D kA A nL ρ md nx0 pc' loc' stk' nx nx1 h1) : W p l e R s m args below meth c H locs (nx - nx0) (zs_sl nx - zs_sl nx0) Q (F0 m pc ls st) := by
  obtain ⟨hP, hD, hS, hL, hst, hw, hwl, hh, h4⟩ := r
  simp only [zm_si, zm_f2, zm_g2, zm_s2, zm_go] at hs
  split at hs
  · next z x r =>
    obtain ⟨v, hv, hs⟩ := Option.bind_eq_some_iff.mp hs
    cases hv
    cases hs
    have hwz := (zs_w1 hw).1
    have hwx := (zs_w1 (zs_w1 hw).2).1
    have hwr := (zs_w1 (zs_w1 hw).2).2
    obtain ⟨st2, rfl, hst2⟩ := zs_top hst rfl
    obtain ⟨st3, rfl, hst3⟩ := zs_top hst2 rfl
    exact lv_ishr hx hb hd (k ρ H locs ls _ (fun _ _ => rfl) ⟨hP, hD, hS, hL, zs_psh (by simp only [zs_mv, Int32.ofInt_toInt]) hst3, zs_w2 (zs_i32r _) hwr, hwl, hh, h4⟩)
  · cases hs
  · cases hs
  · cases hs
theorem zs_i_iushr (hx : p.tables.exec = Jvm.exec) (hb : c.code = zm_code y) (hd : decode (zm_code y) pc = .ok (.iushr, 1)) (hs : zm_si X md rk y pc loc stk nx h (.iushr) = some (.inl (pc', loc', stk', nx1, h1))) (r : zs_R D kA A s.heap nL ρ md loc stk nx h H locs ls st) (k : zs_K p l e R s m args below meth c Q D kA A nL ρ md nx0 pc' loc' stk' nx nx1 h1) : W p l e R s m args below meth c H locs (nx - nx0) (zs_sl nx - zs_sl nx0) Q (F0 m pc ls st) := by
  obtain ⟨hP, hD, hS, hL, hst, hw, hwl, hh, h4⟩ := r
  simp only [zm_si, zm_f2, zm_g2, zm_s2, zm_go] at hs
  split at hs
  · next z x r =>
    obtain ⟨v, hv, hs⟩ := Option.bind_eq_some_iff.mp hs
    cases hv
    cases hs
    have hwz := (zs_w1 hw).1
    have hwx := (zs_w1 (zs_w1 hw).2).1
    have hwr := (zs_w1 (zs_w1 hw).2).2
    obtain ⟨st2, rfl, hst2⟩ := zs_top hst rfl
    obtain ⟨st3, rfl, hst3⟩ := zs_top hst2 rfl
    exact lv_iushr hx hb hd rfl (k ρ H locs ls _ (fun _ _ => rfl) ⟨hP, hD, hS, hL, zs_psh (by simp only [zs_mv, Int32.ofInt_toInt]) hst3, zs_w2 (zs_i32r _) hwr, hwl, hh, h4⟩)
  · cases hs
  · cases hs
  · cases hs
theorem zs_i_ladd (hx : p.tables.exec = Jvm.exec) (hb : c.code = zm_code y) (hd : decode (zm_code y) pc = .ok (.ladd, 1)) (hs : zm_si X md rk y pc loc stk nx h (.ladd) = some (.inl (pc', loc', stk', nx1, h1))) (r : zs_R D kA A s.heap nL ρ md loc stk nx h H locs ls st) (k : zs_K p l e R s m args below meth c Q D kA A nL ρ md nx0 pc' loc' stk' nx nx1 h1) : W p l e R s m args below meth c H locs (nx - nx0) (zs_sl nx - zs_sl nx0) Q (F0 m pc ls st) := by
  obtain ⟨hP, hD, hS, hL, hst, hw, hwl, hh, h4⟩ := r
  simp only [zm_si, zm_f2, zm_g2, zm_s2, zm_go] at hs
  split at hs
  · cases hs
  · next z x r =>
    obtain ⟨v, hv, hs⟩ := Option.bind_eq_some_iff.mp hs
    obtain ⟨hn, hv⟩ := zm_ck_some hv
    cases hv
    cases hs
    have hwz := (zs_w1 hw).1
    have hwx := (zs_w1 (zs_w1 hw).2).1
    have hwr := (zs_w1 (zs_w1 hw).2).2
    obtain ⟨st2, rfl, hst2⟩ := zs_top hst rfl
    obtain ⟨st3, rfl, hst3⟩ := zs_top hst2 rfl
    exact lv_ladd hx hb hd (k ρ H locs ls _ (fun _ _ => rfl) ⟨hP, hD, hS, hL, zs_psh (by simp only [zs_mv, Int64.ofInt_add]) hst3, zs_w2 (hn) hwr, hwl, hh, h4⟩)
  · cases hs
  · cases hs
theorem zs_i_lsub (hx : p.tables.exec = Jvm.exec) (hb : c.code = zm_code y) (hd : decode (zm_code y) pc = .ok (.lsub, 1)) (hs : zm_si X md rk y pc loc stk nx h (.lsub) = some (.inl (pc', loc', stk', nx1, h1))) (r : zs_R D kA A s.heap nL ρ md loc stk nx h H locs ls st) (k : zs_K p l e R s m args below meth c Q D kA A nL ρ md nx0 pc' loc' stk' nx nx1 h1) : W p l e R s m args below meth c H locs (nx - nx0) (zs_sl nx - zs_sl nx0) Q (F0 m pc ls st) := by
  obtain ⟨hP, hD, hS, hL, hst, hw, hwl, hh, h4⟩ := r
  simp only [zm_si, zm_f2, zm_g2, zm_s2, zm_go] at hs
  split at hs
  · cases hs
  · next z x r =>
    obtain ⟨v, hv, hs⟩ := Option.bind_eq_some_iff.mp hs
    obtain ⟨hn, hv⟩ := zm_ck_some hv
    cases hv
    cases hs
    have hwz := (zs_w1 hw).1
    have hwx := (zs_w1 (zs_w1 hw).2).1
    have hwr := (zs_w1 (zs_w1 hw).2).2
    obtain ⟨st2, rfl, hst2⟩ := zs_top hst rfl
    obtain ⟨st3, rfl, hst3⟩ := zs_top hst2 rfl
    exact lv_lsub hx hb hd (k ρ H locs ls _ (fun _ _ => rfl) ⟨hP, hD, hS, hL, zs_psh (by simp only [zs_mv, Int64.ofInt_sub]) hst3, zs_w2 (hn) hwr, hwl, hh, h4⟩)
  · cases hs
  · cases hs
theorem zs_i_lmul (hx : p.tables.exec = Jvm.exec) (hb : c.code = zm_code y) (hd : decode (zm_code y) pc = .ok (.lmul, 1)) (hs : zm_si X md rk y pc loc stk nx h (.lmul) = some (.inl (pc', loc', stk', nx1, h1))) (r : zs_R D kA A s.heap nL ρ md loc stk nx h H locs ls st) (k : zs_K p l e R s m args below meth c Q D kA A nL ρ md nx0 pc' loc' stk' nx nx1 h1) : W p l e R s m args below meth c H locs (nx - nx0) (zs_sl nx - zs_sl nx0) Q (F0 m pc ls st) := by
  obtain ⟨hP, hD, hS, hL, hst, hw, hwl, hh, h4⟩ := r
  simp only [zm_si, zm_f2, zm_g2, zm_s2, zm_go] at hs
  split at hs
  · cases hs
  · next z x r =>
    obtain ⟨v, hv, hs⟩ := Option.bind_eq_some_iff.mp hs
    obtain ⟨hn, hv⟩ := zm_ck_some hv
    cases hv
    cases hs
    have hwz := (zs_w1 hw).1
    have hwx := (zs_w1 (zs_w1 hw).2).1
    have hwr := (zs_w1 (zs_w1 hw).2).2
    obtain ⟨st2, rfl, hst2⟩ := zs_top hst rfl
    obtain ⟨st3, rfl, hst3⟩ := zs_top hst2 rfl
    exact lv_lmul hx hb hd (k ρ H locs ls _ (fun _ _ => rfl) ⟨hP, hD, hS, hL, zs_psh (by simp only [zs_mv, Int64.ofInt_mul]) hst3, zs_w2 (hn) hwr, hwl, hh, h4⟩)
  · cases hs
  · cases hs
theorem zs_i_ldiv (hx : p.tables.exec = Jvm.exec) (hb : c.code = zm_code y) (hd : decode (zm_code y) pc = .ok (.ldiv, 1)) (hs : zm_si X md rk y pc loc stk nx h (.ldiv) = some (.inl (pc', loc', stk', nx1, h1))) (r : zs_R D kA A s.heap nL ρ md loc stk nx h H locs ls st) (k : zs_K p l e R s m args below meth c Q D kA A nL ρ md nx0 pc' loc' stk' nx nx1 h1) : W p l e R s m args below meth c H locs (nx - nx0) (zs_sl nx - zs_sl nx0) Q (F0 m pc ls st) := by
  obtain ⟨hP, hD, hS, hL, hst, hw, hwl, hh, h4⟩ := r
  simp only [zm_si, zm_f2, zm_g2, zm_s2, zm_go] at hs
  split at hs
  · cases hs
  · next z x r =>
    obtain ⟨v, hv, hs⟩ := Option.bind_eq_some_iff.mp hs
    obtain ⟨hn, hv⟩ := zm_ck_some hv
    cases hv
    cases hs
    have hwz := (zs_w1 hw).1
    have hwx := (zs_w1 (zs_w1 hw).2).1
    have hwr := (zs_w1 (zs_w1 hw).2).2
    obtain ⟨st2, rfl, hst2⟩ := zs_top hst rfl
    obtain ⟨st3, rfl, hst3⟩ := zs_top hst2 rfl
    exact lv_ldiv hx hb hd (fun q => hn.1 (by have := congrArg Int64.toInt q; rw [zs_tl hwz] at this; exact this)) (k ρ H locs ls _ (fun _ _ => rfl) ⟨hP, hD, hS, hL, zs_psh (by simp only [zs_mv]; rw [Int64.ofInt_tdiv (by rw [show Int64.minValue.toInt = -9223372036854775808 from rfl]; exact hwx.1) (by rw [show Int64.maxValue.toInt = 9223372036854775807 from rfl]; exact hwx.2) (by rw [show Int64.minValue.toInt = -9223372036854775808 from rfl]; exact hwz.1) (by rw [show Int64.maxValue.toInt = 9223372036854775807 from rfl]; exact hwz.2)]) hst3, zs_w2 (hn.2) hwr, hwl, hh, h4⟩)
  · cases hs
  · cases hs
theorem zs_i_lrem (hx : p.tables.exec = Jvm.exec) (hb : c.code = zm_code y) (hd : decode (zm_code y) pc = .ok (.lrem, 1)) (hs : zm_si X md rk y pc loc stk nx h (.lrem) = some (.inl (pc', loc', stk', nx1, h1))) (r : zs_R D kA A s.heap nL ρ md loc stk nx h H locs ls st) (k : zs_K p l e R s m args below meth c Q D kA A nL ρ md nx0 pc' loc' stk' nx nx1 h1) : W p l e R s m args below meth c H locs (nx - nx0) (zs_sl nx - zs_sl nx0) Q (F0 m pc ls st) := by
  obtain ⟨hP, hD, hS, hL, hst, hw, hwl, hh, h4⟩ := r
  simp only [zm_si, zm_f2, zm_g2, zm_s2, zm_go] at hs
  split at hs
  · cases hs
  · next z x r =>
    obtain ⟨v, hv, hs⟩ := Option.bind_eq_some_iff.mp hs
    obtain ⟨hn, hv⟩ := zm_ck_some hv
    cases hv
    cases hs
    have hwz := (zs_w1 hw).1
    have hwx := (zs_w1 (zs_w1 hw).2).1
    have hwr := (zs_w1 (zs_w1 hw).2).2
    obtain ⟨st2, rfl, hst2⟩ := zs_top hst rfl
    obtain ⟨st3, rfl, hst3⟩ := zs_top hst2 rfl
    exact lv_lrem hx hb hd (fun q => hn.1 (by have := congrArg Int64.toInt q; rw [zs_tl hwz] at this; exact this)) (k ρ H locs ls _ (fun _ _ => rfl) ⟨hP, hD, hS, hL, zs_psh (by simp only [zs_mv]; rw [Int.tmod_def, Int64.ofInt_sub, Int64.ofInt_mul, Int64.ofInt_tdiv (by rw [show Int64.minValue.toInt = -9223372036854775808 from rfl]; exact hwx.1) (by rw [show Int64.maxValue.toInt = 9223372036854775807 from rfl]; exact hwx.2) (by rw [show Int64.minValue.toInt = -9223372036854775808 from rfl]; exact hwz.1) (by rw [show Int64.maxValue.toInt = 9223372036854775807 from rfl]; exact hwz.2), Int64.mul_comm]) hst3, zs_w2 (hn.2.2) hwr, hwl, hh, h4⟩)
  · cases hs
  · cases hs
theorem zs_i_land (hx : p.tables.exec = Jvm.exec) (hb : c.code = zm_code y) (hd : decode (zm_code y) pc = .ok (.land, 1)) (hs : zm_si X md rk y pc loc stk nx h (.land) = some (.inl (pc', loc', stk', nx1, h1))) (r : zs_R D kA A s.heap nL ρ md loc stk nx h H locs ls st) (k : zs_K p l e R s m args below meth c Q D kA A nL ρ md nx0 pc' loc' stk' nx nx1 h1) : W p l e R s m args below meth c H locs (nx - nx0) (zs_sl nx - zs_sl nx0) Q (F0 m pc ls st) := by
  obtain ⟨hP, hD, hS, hL, hst, hw, hwl, hh, h4⟩ := r
  simp only [zm_si, zm_f2, zm_g2, zm_s2, zm_go] at hs
  split at hs
  · cases hs
  · next z x r =>
    obtain ⟨v, hv, hs⟩ := Option.bind_eq_some_iff.mp hs
    cases hv
    cases hs
    have hwz := (zs_w1 hw).1
    have hwx := (zs_w1 (zs_w1 hw).2).1
    have hwr := (zs_w1 (zs_w1 hw).2).2
    obtain ⟨st2, rfl, hst2⟩ := zs_top hst rfl
    obtain ⟨st3, rfl, hst3⟩ := zs_top hst2 rfl
    exact lv_land hx hb hd (k ρ H locs ls _ (fun _ _ => rfl) ⟨hP, hD, hS, hL, zs_psh (by simp only [zs_mv, Int64.ofInt_toInt]) hst3, zs_w2 (zs_i64r _) hwr, hwl, hh, h4⟩)
  · cases hs
  · cases hs
theorem zs_i_lor (hx : p.tables.exec = Jvm.exec) (hb : c.code = zm_code y) (hd : decode (zm_code y) pc = .ok (.lor, 1)) (hs : zm_si X md rk y pc loc stk nx h (.lor) = some (.inl (pc', loc', stk', nx1, h1))) (r : zs_R D kA A s.heap nL ρ md loc stk nx h H locs ls st) (k : zs_K p l e R s m args below meth c Q D kA A nL ρ md nx0 pc' loc' stk' nx nx1 h1) : W p l e R s m args below meth c H locs (nx - nx0) (zs_sl nx - zs_sl nx0) Q (F0 m pc ls st) := by
  obtain ⟨hP, hD, hS, hL, hst, hw, hwl, hh, h4⟩ := r
  simp only [zm_si, zm_f2, zm_g2, zm_s2, zm_go] at hs
  split at hs
  · cases hs
  · next z x r =>
    obtain ⟨v, hv, hs⟩ := Option.bind_eq_some_iff.mp hs
    cases hv
    cases hs
    have hwz := (zs_w1 hw).1
    have hwx := (zs_w1 (zs_w1 hw).2).1
    have hwr := (zs_w1 (zs_w1 hw).2).2
    obtain ⟨st2, rfl, hst2⟩ := zs_top hst rfl
    obtain ⟨st3, rfl, hst3⟩ := zs_top hst2 rfl
    exact lv_lor hx hb hd (k ρ H locs ls _ (fun _ _ => rfl) ⟨hP, hD, hS, hL, zs_psh (by simp only [zs_mv, Int64.ofInt_toInt]) hst3, zs_w2 (zs_i64r _) hwr, hwl, hh, h4⟩)
  · cases hs
  · cases hs
theorem zs_i_lshl (hx : p.tables.exec = Jvm.exec) (hb : c.code = zm_code y) (hd : decode (zm_code y) pc = .ok (.lshl, 1)) (hs : zm_si X md rk y pc loc stk nx h (.lshl) = some (.inl (pc', loc', stk', nx1, h1))) (r : zs_R D kA A s.heap nL ρ md loc stk nx h H locs ls st) (k : zs_K p l e R s m args below meth c Q D kA A nL ρ md nx0 pc' loc' stk' nx nx1 h1) : W p l e R s m args below meth c H locs (nx - nx0) (zs_sl nx - zs_sl nx0) Q (F0 m pc ls st) := by
  obtain ⟨hP, hD, hS, hL, hst, hw, hwl, hh, h4⟩ := r
  simp only [zm_si, zm_f2, zm_g2, zm_s2, zm_go] at hs
  split at hs
  · cases hs
  · cases hs
  · next z x r =>
    obtain ⟨v, hv, hs⟩ := Option.bind_eq_some_iff.mp hs
    cases hv
    cases hs
    have hwz := (zs_w1 hw).1
    have hwx := (zs_w1 (zs_w1 hw).2).1
    have hwr := (zs_w1 (zs_w1 hw).2).2
    obtain ⟨st2, rfl, hst2⟩ := zs_top hst rfl
    obtain ⟨st3, rfl, hst3⟩ := zs_top hst2 rfl
    exact lv_lshl hx hb hd rfl (k ρ H locs ls _ (fun _ _ => rfl) ⟨hP, hD, hS, hL, zs_psh (by simp only [zs_mv, Int64.ofInt_toInt]) hst3, zs_w2 (zs_i64r _) hwr, hwl, hh, h4⟩)
  · cases hs
theorem zs_i_lshr (hx : p.tables.exec = Jvm.exec) (hb : c.code = zm_code y) (hd : decode (zm_code y) pc = .ok (.lshr, 1)) (hs : zm_si X md rk y pc loc stk nx h (.lshr) = some (.inl (pc', loc', stk', nx1, h1))) (r : zs_R D kA A s.heap nL ρ md loc stk nx h H locs ls st) (k : zs_K p l e R s m args below meth c Q D kA A nL ρ md nx0 pc' loc' stk' nx nx1 h1) : W p l e R s m args below meth c H locs (nx - nx0) (zs_sl nx - zs_sl nx0) Q (F0 m pc ls st) := by
  obtain ⟨hP, hD, hS, hL, hst, hw, hwl, hh, h4⟩ := r
  simp only [zm_si, zm_f2, zm_g2, zm_s2, zm_go] at hs
  split at hs
  · cases hs
  · cases hs
  · next z x r =>
    obtain ⟨v, hv, hs⟩ := Option.bind_eq_some_iff.mp hs
    cases hv
    cases hs
    have hwz := (zs_w1 hw).1
    have hwx := (zs_w1 (zs_w1 hw).2).1
    have hwr := (zs_w1 (zs_w1 hw).2).2
    obtain ⟨st2, rfl, hst2⟩ := zs_top hst rfl
    obtain ⟨st3, rfl, hst3⟩ := zs_top hst2 rfl
    exact lv_lshr hx hb hd rfl (k ρ H locs ls _ (fun _ _ => rfl) ⟨hP, hD, hS, hL, zs_psh (by simp only [zs_mv, Int64.ofInt_toInt]) hst3, zs_w2 (zs_i64r _) hwr, hwl, hh, h4⟩)
  · cases hs
theorem zs_i_icmp_eq {off : Int} (hx : p.tables.exec = Jvm.exec) (hb : c.code = zm_code y) (hd : decode (zm_code y) pc = .ok (.if_icmp .eq off, 3)) (hs : zm_si X md rk y pc loc stk nx h (.if_icmp .eq off) = some (.inl (pc', loc', stk', nx1, h1))) (r : zs_R D kA A s.heap nL ρ md loc stk nx h H locs ls st) (k : zs_K p l e R s m args below meth c Q D kA A nL ρ md nx0 pc' loc' stk' nx nx1 h1) : W p l e R s m args below meth c H locs (nx - nx0) (zs_sl nx - zs_sl nx0) Q (F0 m pc ls st) := by
  obtain ⟨hP, hD, hS, hL, hst, hw, hwl, hh, h4⟩ := r
  simp only [zm_si, zm_go, zm_cmp, decide_eq_true_eq] at hs
  split at hs
  · next z x r =>
    obtain ⟨hn, hs⟩ := zm_ck_some hs
    have hwz := (zs_w1 hw).1
    have hwx := (zs_w1 (zs_w1 hw).2).1
    have hwr := (zs_w1 (zs_w1 hw).2).2
    obtain ⟨st2, rfl, hst2⟩ := zs_top hst rfl
    obtain ⟨st3, rfl, hst3⟩ := zs_top hst2 rfl
    refine lv_icmp_eq (tgt := ((pc : Int) + off).toNat) hx hb hd (by omega) (fun q => ?_) (fun q => ?_)
    · rw [if_pos ((zs_eq hwx hwz).mp q)] at hs
      cases hs
      exact k ρ H locs ls _ (fun _ _ => rfl) ⟨hP, hD, hS, hL, hst3, hwr, hwl, hh, h4⟩
    · rw [if_neg (fun q2 => q ((zs_eq hwx hwz).mpr q2))] at hs
      cases hs
      exact k ρ H locs ls _ (fun _ _ => rfl) ⟨hP, hD, hS, hL, hst3, hwr, hwl, hh, h4⟩
  · cases hs
theorem zs_i_if_eq {off : Int} (hx : p.tables.exec = Jvm.exec) (hb : c.code = zm_code y) (hd : decode (zm_code y) pc = .ok (.ifCond .eq off, 3)) (hs : zm_si X md rk y pc loc stk nx h (.ifCond .eq off) = some (.inl (pc', loc', stk', nx1, h1))) (r : zs_R D kA A s.heap nL ρ md loc stk nx h H locs ls st) (k : zs_K p l e R s m args below meth c Q D kA A nL ρ md nx0 pc' loc' stk' nx nx1 h1) : W p l e R s m args below meth c H locs (nx - nx0) (zs_sl nx - zs_sl nx0) Q (F0 m pc ls st) := by
  obtain ⟨hP, hD, hS, hL, hst, hw, hwl, hh, h4⟩ := r
  simp only [zm_si, zm_go, zm_cmp, decide_eq_true_eq] at hs
  split at hs
  · next x r =>
    obtain ⟨hn, hs⟩ := zm_ck_some hs
    have hwx := (zs_w1 hw).1
    have hwr := (zs_w1 hw).2
    obtain ⟨st3, rfl, hst3⟩ := zs_top hst rfl
    have hwz : zm_i32 (0 : Int) := by omega
    refine lv_if_eq (tgt := ((pc : Int) + off).toNat) hx hb hd (by omega) (fun q => ?_) (fun q => ?_)
    · rw [if_pos ((zs_eq hwx hwz).mp q)] at hs
      cases hs
      exact k ρ H locs ls _ (fun _ _ => rfl) ⟨hP, hD, hS, hL, hst3, hwr, hwl, hh, h4⟩
    · rw [if_neg (fun q2 => q ((zs_eq hwx hwz).mpr q2))] at hs
      cases hs
      exact k ρ H locs ls _ (fun _ _ => rfl) ⟨hP, hD, hS, hL, hst3, hwr, hwl, hh, h4⟩
  · cases hs
theorem zs_i_icmp_ne {off : Int} (hx : p.tables.exec = Jvm.exec) (hb : c.code = zm_code y) (hd : decode (zm_code y) pc = .ok (.if_icmp .ne off, 3)) (hs : zm_si X md rk y pc loc stk nx h (.if_icmp .ne off) = some (.inl (pc', loc', stk', nx1, h1))) (r : zs_R D kA A s.heap nL ρ md loc stk nx h H locs ls st) (k : zs_K p l e R s m args below meth c Q D kA A nL ρ md nx0 pc' loc' stk' nx nx1 h1) : W p l e R s m args below meth c H locs (nx - nx0) (zs_sl nx - zs_sl nx0) Q (F0 m pc ls st) := by
  obtain ⟨hP, hD, hS, hL, hst, hw, hwl, hh, h4⟩ := r
  simp only [zm_si, zm_go, zm_cmp, decide_eq_true_eq] at hs
  split at hs
  · next z x r =>
    obtain ⟨hn, hs⟩ := zm_ck_some hs
    have hwz := (zs_w1 hw).1
    have hwx := (zs_w1 (zs_w1 hw).2).1
    have hwr := (zs_w1 (zs_w1 hw).2).2
    obtain ⟨st2, rfl, hst2⟩ := zs_top hst rfl
    obtain ⟨st3, rfl, hst3⟩ := zs_top hst2 rfl
    refine lv_icmp_ne (tgt := ((pc : Int) + off).toNat) hx hb hd (by omega) (fun q => ?_) (fun q => ?_)
    · rw [if_pos ((not_congr (zs_eq hwx hwz)).mp q)] at hs
      cases hs
      exact k ρ H locs ls _ (fun _ _ => rfl) ⟨hP, hD, hS, hL, hst3, hwr, hwl, hh, h4⟩
    · rw [if_neg (fun q2 => q2 ((zs_eq hwx hwz).mp q))] at hs
      cases hs
      exact k ρ H locs ls _ (fun _ _ => rfl) ⟨hP, hD, hS, hL, hst3, hwr, hwl, hh, h4⟩
  · cases hs
theorem zs_i_if_ne {off : Int} (hx : p.tables.exec = Jvm.exec) (hb : c.code = zm_code y) (hd : decode (zm_code y) pc = .ok (.ifCond .ne off, 3)) (hs : zm_si X md rk y pc loc stk nx h (.ifCond .ne off) = some (.inl (pc', loc', stk', nx1, h1))) (r : zs_R D kA A s.heap nL ρ md loc stk nx h H locs ls st) (k : zs_K p l e R s m args below meth c Q D kA A nL ρ md nx0 pc' loc' stk' nx nx1 h1) : W p l e R s m args below meth c H locs (nx - nx0) (zs_sl nx - zs_sl nx0) Q (F0 m pc ls st) := by
  obtain ⟨hP, hD, hS, hL, hst, hw, hwl, hh, h4⟩ := r
  simp only [zm_si, zm_go, zm_cmp, decide_eq_true_eq] at hs
  split at hs
  · next x r =>
    obtain ⟨hn, hs⟩ := zm_ck_some hs
    have hwx := (zs_w1 hw).1
    have hwr := (zs_w1 hw).2
    obtain ⟨st3, rfl, hst3⟩ := zs_top hst rfl
    have hwz : zm_i32 (0 : Int) := by omega
    refine lv_if_ne (tgt := ((pc : Int) + off).toNat) hx hb hd (by omega) (fun q => ?_) (fun q => ?_)
    · rw [if_pos ((not_congr (zs_eq hwx hwz)).mp q)] at hs
      cases hs
      exact k ρ H locs ls _ (fun _ _ => rfl) ⟨hP, hD, hS, hL, hst3, hwr, hwl, hh, h4⟩
    · rw [if_neg (fun q2 => q2 ((zs_eq hwx hwz).mp q))] at hs
      cases hs
      exact k ρ H locs ls _ (fun _ _ => rfl) ⟨hP, hD, hS, hL, hst3, hwr, hwl, hh, h4⟩
  · cases hs
theorem zs_i_icmp_lt {off : Int} (hx : p.tables.exec = Jvm.exec) (hb : c.code = zm_code y) (hd : decode (zm_code y) pc = .ok (.if_icmp .lt off, 3)) (hs : zm_si X md rk y pc loc stk nx h (.if_icmp .lt off) = some (.inl (pc', loc', stk', nx1, h1))) (r : zs_R D kA A s.heap nL ρ md loc stk nx h H locs ls st) (k : zs_K p l e R s m args below meth c Q D kA A nL ρ md nx0 pc' loc' stk' nx nx1 h1) : W p l e R s m args below meth c H locs (nx - nx0) (zs_sl nx - zs_sl nx0) Q (F0 m pc ls st) := by
  obtain ⟨hP, hD, hS, hL, hst, hw, hwl, hh, h4⟩ := r
  simp only [zm_si, zm_go, zm_cmp, decide_eq_true_eq] at hs
  split at hs
  · next z x r =>
    obtain ⟨hn, hs⟩ := zm_ck_some hs
    have hwz := (zs_w1 hw).1
    have hwx := (zs_w1 (zs_w1 hw).2).1
    have hwr := (zs_w1 (zs_w1 hw).2).2
    obtain ⟨st2, rfl, hst2⟩ := zs_top hst rfl
    obtain ⟨st3, rfl, hst3⟩ := zs_top hst2 rfl
    refine lv_icmp_lt (tgt := ((pc : Int) + off).toNat) hx hb hd (by omega) (fun q => ?_) (fun q => ?_)
    · rw [if_pos ((zs_lt hwx hwz).mp q)] at hs
      cases hs
      exact k ρ H locs ls _ (fun _ _ => rfl) ⟨hP, hD, hS, hL, hst3, hwr, hwl, hh, h4⟩
    · rw [if_neg (fun q2 => q ((zs_lt hwx hwz).mpr q2))] at hs
      cases hs
      exact k ρ H locs ls _ (fun _ _ => rfl) ⟨hP, hD, hS, hL, hst3, hwr, hwl, hh, h4⟩
  · cases hs
theorem zs_i_if_lt {off : Int} (hx : p.tables.exec = Jvm.exec) (hb : c.code = zm_code y) (hd : decode (zm_code y) pc = .ok (.ifCond .lt off, 3)) (hs : zm_si X md rk y pc loc stk nx h (.ifCond .lt off) = some (.inl (pc', loc', stk', nx1, h1))) (r : zs_R D kA A s.heap nL ρ md loc stk nx h H locs ls st) (k : zs_K p l e R s m args below meth c Q D kA A nL ρ md nx0 pc' loc' stk' nx nx1 h1) : W p l e R s m args below meth c H locs (nx - nx0) (zs_sl nx - zs_sl nx0) Q (F0 m pc ls st) := by
  obtain ⟨hP, hD, hS, hL, hst, hw, hwl, hh, h4⟩ := r
  simp only [zm_si, zm_go, zm_cmp, decide_eq_true_eq] at hs
  split at hs
  · next x r =>
    obtain ⟨hn, hs⟩ := zm_ck_some hs
    have hwx := (zs_w1 hw).1
    have hwr := (zs_w1 hw).2
    obtain ⟨st3, rfl, hst3⟩ := zs_top hst rfl
    have hwz : zm_i32 (0 : Int) := by omega
    refine lv_if_lt (tgt := ((pc : Int) + off).toNat) hx hb hd (by omega) (fun q => ?_) (fun q => ?_)
    · rw [if_pos ((zs_lt hwx hwz).mp q)] at hs
      cases hs
      exact k ρ H locs ls _ (fun _ _ => rfl) ⟨hP, hD, hS, hL, hst3, hwr, hwl, hh, h4⟩
    · rw [if_neg (fun q2 => q ((zs_lt hwx hwz).mpr q2))] at hs
      cases hs
      exact k ρ H locs ls _ (fun _ _ => rfl) ⟨hP, hD, hS, hL, hst3, hwr, hwl, hh, h4⟩
  · cases hs
theorem zs_i_icmp_ge {off : Int} (hx : p.tables.exec = Jvm.exec) (hb : c.code = zm_code y) (hd : decode (zm_code y) pc = .ok (.if_icmp .ge off, 3)) (hs : zm_si X md rk y pc loc stk nx h (.if_icmp .ge off) = some (.inl (pc', loc', stk', nx1, h1))) (r : zs_R D kA A s.heap nL ρ md loc stk nx h H locs ls st) (k : zs_K p l e R s m args below meth c Q D kA A nL ρ md nx0 pc' loc' stk' nx nx1 h1) : W p l e R s m args below meth c H locs (nx - nx0) (zs_sl nx - zs_sl nx0) Q (F0 m pc ls st) := by
  obtain ⟨hP, hD, hS, hL, hst, hw, hwl, hh, h4⟩ := r
  simp only [zm_si, zm_go, zm_cmp, decide_eq_true_eq] at hs
  split at hs
  · next z x r =>
    obtain ⟨hn, hs⟩ := zm_ck_some hs
    have hwz := (zs_w1 hw).1
    have hwx := (zs_w1 (zs_w1 hw).2).1
    have hwr := (zs_w1 (zs_w1 hw).2).2
    obtain ⟨st2, rfl, hst2⟩ := zs_top hst rfl
    obtain ⟨st3, rfl, hst3⟩ := zs_top hst2 rfl
    refine lv_icmp_ge (tgt := ((pc : Int) + off).toNat) hx hb hd (by omega) (fun q => ?_) (fun q => ?_)
    · rw [if_pos ((zs_le hwz hwx).mp q)] at hs
      cases hs
      exact k ρ H locs ls _ (fun _ _ => rfl) ⟨hP, hD, hS, hL, hst3, hwr, hwl, hh, h4⟩
    · rw [if_neg (fun q2 => q ((zs_le hwz hwx).mpr q2))] at hs
      cases hs
      exact k ρ H locs ls _ (fun _ _ => rfl) ⟨hP, hD, hS, hL, hst3, hwr, hwl, hh, h4⟩
  · cases hs
theorem zs_i_if_ge {off : Int} (hx : p.tables.exec = Jvm.exec) (hb : c.code = zm_code y) (hd : decode (zm_code y) pc = .ok (.ifCond .ge off, 3)) (hs : zm_si X md rk y pc loc stk nx h (.ifCond .ge off) = some (.inl (pc', loc', stk', nx1, h1))) (r : zs_R D kA A s.heap nL ρ md loc stk nx h H locs ls st) (k : zs_K p l e R s m args below meth c Q D kA A nL ρ md nx0 pc' loc' stk' nx nx1 h1) : W p l e R s m args below meth c H locs (nx - nx0) (zs_sl nx - zs_sl nx0) Q (F0 m pc ls st) := by
  obtain ⟨hP, hD, hS, hL, hst, hw, hwl, hh, h4⟩ := r
  simp only [zm_si, zm_go, zm_cmp, decide_eq_true_eq] at hs
  split at hs
  · next x r =>
    obtain ⟨hn, hs⟩ := zm_ck_some hs
    have hwx := (zs_w1 hw).1
    have hwr := (zs_w1 hw).2
    obtain ⟨st3, rfl, hst3⟩ := zs_top hst rfl
    have hwz : zm_i32 (0 : Int) := by omega
    refine lv_if_ge (tgt := ((pc : Int) + off).toNat) hx hb hd (by omega) (fun q => ?_) (fun q => ?_)
    · rw [if_pos ((zs_le hwz hwx).mp q)] at hs
      cases hs
      exact k ρ H locs ls _ (fun _ _ => rfl) ⟨hP, hD, hS, hL, hst3, hwr, hwl, hh, h4⟩
    · rw [if_neg (fun q2 => q ((zs_le hwz hwx).mpr q2))] at hs
      cases hs
      exact k ρ H locs ls _ (fun _ _ => rfl) ⟨hP, hD, hS, hL, hst3, hwr, hwl, hh, h4⟩
  · cases hs
theorem zs_i_icmp_gt {off : Int} (hx : p.tables.exec = Jvm.exec) (hb : c.code = zm_code y) (hd : decode (zm_code y) pc = .ok (.if_icmp .gt off, 3)) (hs : zm_si X md rk y pc loc stk nx h (.if_icmp .gt off) = some (.inl (pc', loc', stk', nx1, h1))) (r : zs_R D kA A s.heap nL ρ md loc stk nx h H locs ls st) (k : zs_K p l e R s m args below meth c Q D kA A nL ρ md nx0 pc' loc' stk' nx nx1 h1) : W p l e R s m args below meth c H locs (nx - nx0) (zs_sl nx - zs_sl nx0) Q (F0 m pc ls st) := by
  obtain ⟨hP, hD, hS, hL, hst, hw, hwl, hh, h4⟩ := r
  simp only [zm_si, zm_go, zm_cmp, decide_eq_true_eq] at hs
  split at hs
  · next z x r =>
    obtain ⟨hn, hs⟩ := zm_ck_some hs
    have hwz := (zs_w1 hw).1
    have hwx := (zs_w1 (zs_w1 hw).2).1
    have hwr := (zs_w1 (zs_w1 hw).2).2
    obtain ⟨st2, rfl, hst2⟩ := zs_top hst rfl
    obtain ⟨st3, rfl, hst3⟩ := zs_top hst2 rfl
    refine lv_icmp_gt (tgt := ((pc : Int) + off).toNat) hx hb hd (by omega) (fun q => ?_) (fun q => ?_)
    · rw [if_pos ((zs_lt hwz hwx).mp q)] at hs
      cases hs
      exact k ρ H locs ls _ (fun _ _ => rfl) ⟨hP, hD, hS, hL, hst3, hwr, hwl, hh, h4⟩
    · rw [if_neg (fun q2 => q ((zs_lt hwz hwx).mpr q2))] at hs
      cases hs
      exact k ρ H locs ls _ (fun _ _ => rfl) ⟨hP, hD, hS, hL, hst3, hwr, hwl, hh, h4⟩
  · cases hs
theorem zs_i_if_gt {off : Int} (hx : p.tables.exec = Jvm.exec) (hb : c.code = zm_code y) (hd : decode (zm_code y) pc = .ok (.ifCond .gt off, 3)) (hs : zm_si X md rk y pc loc stk nx h (.ifCond .gt off) = some (.inl (pc', loc', stk', nx1, h1))) (r : zs_R D kA A s.heap nL ρ md loc stk nx h H locs ls st) (k : zs_K p l e R s m args below meth c Q D kA A nL ρ md nx0 pc' loc' stk' nx nx1 h1) : W p l e R s m args below meth c H locs (nx - nx0) (zs_sl nx - zs_sl nx0) Q (F0 m pc ls st) := by
  obtain ⟨hP, hD, hS, hL, hst, hw, hwl, hh, h4⟩ := r
  simp only [zm_si, zm_go, zm_cmp, decide_eq_true_eq] at hs
  split at hs
  · next x r =>
    obtain ⟨hn, hs⟩ := zm_ck_some hs
    have hwx := (zs_w1 hw).1
    have hwr := (zs_w1 hw).2
    obtain ⟨st3, rfl, hst3⟩ := zs_top hst rfl
    have hwz : zm_i32 (0 : Int) := by omega
    refine lv_if_gt (tgt := ((pc : Int) + off).toNat) hx hb hd (by omega) (fun q => ?_) (fun q => ?_)
    · rw [if_pos ((zs_lt hwz hwx).mp q)] at hs
      cases hs
      exact k ρ H locs ls _ (fun _ _ => rfl) ⟨hP, hD, hS, hL, hst3, hwr, hwl, hh, h4⟩
    · rw [if_neg (fun q2 => q ((zs_lt hwz hwx).mpr q2))] at hs
      cases hs
      exact k ρ H locs ls _ (fun _ _ => rfl) ⟨hP, hD, hS, hL, hst3, hwr, hwl, hh, h4⟩
  · cases hs
theorem zs_i_icmp_le {off : Int} (hx : p.tables.exec = Jvm.exec) (hb : c.code = zm_code y) (hd : decode (zm_code y) pc = .ok (.if_icmp .le off, 3)) (hs : zm_si X md rk y pc loc stk nx h (.if_icmp .le off) = some (.inl (pc', loc', stk', nx1, h1))) (r : zs_R D kA A s.heap nL ρ md loc stk nx h H locs ls st) (k : zs_K p l e R s m args below meth c Q D kA A nL ρ md nx0 pc' loc' stk' nx nx1 h1) : W p l e R s m args below meth c H locs (nx - nx0) (zs_sl nx - zs_sl nx0) Q (F0 m pc ls st) := by
  obtain ⟨hP, hD, hS, hL, hst, hw, hwl, hh, h4⟩ := r
  simp only [zm_si, zm_go, zm_cmp, decide_eq_true_eq] at hs
  split at hs
  · next z x r =>
    obtain ⟨hn, hs⟩ := zm_ck_some hs
    have hwz := (zs_w1 hw).1
    have hwx := (zs_w1 (zs_w1 hw).2).1
    have hwr := (zs_w1 (zs_w1 hw).2).2
    obtain ⟨st2, rfl, hst2⟩ := zs_top hst rfl
    obtain ⟨st3, rfl, hst3⟩ := zs_top hst2 rfl
    refine lv_icmp_le (tgt := ((pc : Int) + off).toNat) hx hb hd (by omega) (fun q => ?_) (fun q => ?_)
    · rw [if_pos ((zs_le hwx hwz).mp q)] at hs
      cases hs
      exact k ρ H locs ls _ (fun _ _ => rfl) ⟨hP, hD, hS, hL, hst3, hwr, hwl, hh, h4⟩
    · rw [if_neg (fun q2 => q ((zs_le hwx hwz).mpr q2))] at hs
      cases hs
      exact k ρ H locs ls _ (fun _ _ => rfl) ⟨hP, hD, hS, hL, hst3, hwr, hwl, hh, h4⟩
  · cases hs
theorem zs_i_if_le {off : Int} (hx : p.tables.exec = Jvm.exec) (hb : c.code = zm_code y) (hd : decode (zm_code y) pc = .ok (.ifCond .le off, 3)) (hs : zm_si X md rk y pc loc stk nx h (.ifCond .le off) = some (.inl (pc', loc', stk', nx1, h1))) (r : zs_R D kA A s.heap nL ρ md loc stk nx h H locs ls st) (k : zs_K p l e R s m args below meth c Q D kA A nL ρ md nx0 pc' loc' stk' nx nx1 h1) : W p l e R s m args below meth c H locs (nx - nx0) (zs_sl nx - zs_sl nx0) Q (F0 m pc ls st) := by
  obtain ⟨hP, hD, hS, hL, hst, hw, hwl, hh, h4⟩ := r
  simp only [zm_si, zm_go, zm_cmp, decide_eq_true_eq] at hs
  split at hs
  · next x r =>
    obtain ⟨hn, hs⟩ := zm_ck_some hs
    have hwx := (zs_w1 hw).1
    have hwr := (zs_w1 hw).2
    obtain ⟨st3, rfl, hst3⟩ := zs_top hst rfl
    have hwz : zm_i32 (0 : Int) := by omega
    refine lv_if_le (tgt := ((pc : Int) + off).toNat) hx hb hd (by omega) (fun q => ?_) (fun q => ?_)
    · rw [if_pos ((zs_le hwx hwz).mp q)] at hs
      cases hs
      exact k ρ H locs ls _ (fun _ _ => rfl) ⟨hP, hD, hS, hL, hst3, hwr, hwl, hh, h4⟩
    · rw [if_neg (fun q2 => q ((zs_le hwx hwz).mpr q2))] at hs
      cases hs
      exact k ρ H locs ls _ (fun _ _ => rfl) ⟨hP, hD, hS, hL, hst3, hwr, hwl, hh, h4⟩
  · cases hs
theorem zs_i_goto {off : Int} (hx : p.tables.exec = Jvm.exec) (hb : c.code = zm_code y) (hd : decode (zm_code y) pc = .ok (.goto off, 3)) (hs : zm_si X md rk y pc loc stk nx h (.goto off) = some (.inl (pc', loc', stk', nx1, h1))) (r : zs_R D kA A s.heap nL ρ md loc stk nx h H locs ls st) (k : zs_K p l e R s m args below meth c Q D kA A nL ρ md nx0 pc' loc' stk' nx nx1 h1) : W p l e R s m args below meth c H locs (nx - nx0) (zs_sl nx - zs_sl nx0) Q (F0 m pc ls st) := by
  obtain ⟨hP, hD, hS, hL, hst, hw, hwl, hh, h4⟩ := r
  simp only [zm_si, zm_jmp, zm_go] at hs
  obtain ⟨hn, hs⟩ := zm_ck_some hs
  cases hs
  exact lv_goto (tgt := ((pc : Int) + off).toNat) hx hb hd (by omega) (k ρ H locs ls _ (fun _ _ => rfl) ⟨hP, hD, hS, hL, hst, hw, hwl, hh, h4⟩)
theorem zs_i_tsw {d lo hi : Int} {offs : Array Int} {len : Nat} (hx : p.tables.exec = Jvm.exec) (hb : c.code = zm_code y) (hd : decode (zm_code y) pc = .ok (.tableswitch d lo hi offs, len)) (hs : zm_si X md rk y pc loc stk nx h (.tableswitch d lo hi offs) = some (.inl (pc', loc', stk', nx1, h1))) (r : zs_R D kA A s.heap nL ρ md loc stk nx h H locs ls st) (k : zs_K p l e R s m args below meth c Q D kA A nL ρ md nx0 pc' loc' stk' nx nx1 h1) : W p l e R s m args below meth c H locs (nx - nx0) (zs_sl nx - zs_sl nx0) Q (F0 m pc ls st) := by
  obtain ⟨hP, hD, hS, hL, hst, hw, hwl, hh, h4⟩ := r
  simp only [zm_si, zm_jmp, zm_go] at hs
  split at hs
  · next x r =>
    have hwx := (zs_w1 hw).1
    have hwr := (zs_w1 hw).2
    obtain ⟨st3, rfl, hst3⟩ := zs_top hst rfl
    split at hs
    · next hc =>
      obtain ⟨hn, hs⟩ := zm_ck_some hs
      cases hs
      exact lv_tableOut (tgt := ((pc : Int) + d).toNat) hx hb hd (by rw [zs_ti hwx]; exact hc) (by omega) (k ρ H locs ls _ (fun _ _ => rfl) ⟨hP, hD, hS, hL, hst3, hwr, hwl, hh, h4⟩)
    · next hc =>
      split at hs
      · next off ho =>
        obtain ⟨hn, hs⟩ := zm_ck_some hs
        cases hs
        exact lv_tableIn (off := off) (tgt := ((pc : Int) + off).toNat) hx hb hd (by rw [zs_ti hwx]; omega) (by rw [zs_ti hwx]; omega) (by rw [zs_ti hwx]; exact ho) (by omega) (k ρ H locs ls _ (fun _ _ => rfl) ⟨hP, hD, hS, hL, hst3, hwr, hwl, hh, h4⟩)
      · cases hs
  · cases hs
theorem zs_i_lsw {d : Int} {ps : Array (Int × Int)} {len : Nat} (hx : p.tables.exec = Jvm.exec) (hb : c.code = zm_code y) (hd : decode (zm_code y) pc = .ok (.lookupswitch d ps, len)) (hs : zm_si X md rk y pc loc stk nx h (.lookupswitch d ps) = some (.inl (pc', loc', stk', nx1, h1))) (r : zs_R D kA A s.heap nL ρ md loc stk nx h H locs ls st) (k : zs_K p l e R s m args below meth c Q D kA A nL ρ md nx0 pc' loc' stk' nx nx1 h1) : W p l e R s m args below meth c H locs (nx - nx0) (zs_sl nx - zs_sl nx0) Q (F0 m pc ls st) := by
  obtain ⟨hP, hD, hS, hL, hst, hw, hwl, hh, h4⟩ := r
  simp only [zm_si, zm_jmp, zm_go] at hs
  split at hs
  · next x r =>
    have hwx := (zs_w1 hw).1
    have hwr := (zs_w1 hw).2
    obtain ⟨st3, rfl, hst3⟩ := zs_top hst rfl
    obtain ⟨hp, hs⟩ := zm_ck_some hs
    obtain ⟨hn, hs⟩ := zm_ck_some hs
    cases hs
    exact lv_lookup (off := Op.lookupswitch.offset ps.toList d x) (tgt := ((pc : Int) + Op.lookupswitch.offset ps.toList d x).toNat) hx hb hd hp (by rw [zs_ti hwx]) (by omega) (k ρ H locs ls _ (fun _ _ => rfl) ⟨hP, hD, hS, hL, hst3, hwr, hwl, hh, h4⟩)
  · cases hs
theorem zs_i_lcmp (hx : p.tables.exec = Jvm.exec) (hb : c.code = zm_code y) (hd : decode (zm_code y) pc = .ok (.lcmp, 1)) (hs : zm_si X md rk y pc loc stk nx h (.lcmp) = some (.inl (pc', loc', stk', nx1, h1))) (r : zs_R D kA A s.heap nL ρ md loc stk nx h H locs ls st) (k : zs_K p l e R s m args below meth c Q D kA A nL ρ md nx0 pc' loc' stk' nx nx1 h1) : W p l e R s m args below meth c H locs (nx - nx0) (zs_sl nx - zs_sl nx0) Q (F0 m pc ls st) := by
  obtain ⟨hP, hD, hS, hL, hst, hw, hwl, hh, h4⟩ := r
  simp only [zm_si, zm_go] at hs
  split at hs
  · next z x r =>
    cases hs
    have hwz := (zs_w1 hw).1
    have hwx := (zs_w1 (zs_w1 hw).2).1
    have hwr := (zs_w1 (zs_w1 hw).2).2
    obtain ⟨st2, rfl, hst2⟩ := zs_top hst rfl
    obtain ⟨st3, rfl, hst3⟩ := zs_top hst2 rfl
    have he : Int32.ofInt (if x < z then -1 else if x = z then 0 else 1) = lg_cmp (Int64.ofInt x) (Int64.ofInt z) := by
      simp only [lg_cmp, gt_iff_lt, Int64.lt_iff_toInt_lt, ← Int64.toInt_inj, zs_tl hwx, zs_tl hwz]
      by_cases q1 : x < z
      · rw [if_pos q1, if_neg (by omega), if_neg (by omega)]; rfl
      · by_cases q2 : x = z
        · rw [if_neg q1, if_pos q2, if_neg (by omega), if_pos q2]; rfl
        · rw [if_neg q1, if_neg q2, if_pos (by omega)]; rfl
    exact W.lcmp hx hb hd (k ρ H locs ls _ (fun _ _ => rfl) ⟨hP, hD, hS, hL, zs_psh (by simp only [zs_mv, he]) hst3, zs_w2 (by show zm_i32 _; split <;> (try split) <;> omega) hwr, hwl, hh, h4⟩)
  · cases hs
end
