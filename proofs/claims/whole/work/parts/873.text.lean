/-! SOUNDNESS, part 7e: String.length and charAt of the text OWN_WORDS, and what they call: nothing is written -/
def zd_P (H0 : Heap) (q w : Nat) (U : State) : Prop := U.heap = H0 ∧ zs_tx q w (fun a => H0.size ≤ a) U H0
def zd_Qi (H0 : Heap) (z : Int32) : Array Value → State → Outcome → State → Prop := va_Qi (fun r (_ : Unit) => r = z) (fun _ t => t.heap = H0) (fun _ => False)
def zd_Qv (H0 : Heap) : Array Value → State → Outcome → State → Prop := va_Qv (fun (_ : Unit) => True) (fun _ t => t.heap = H0) (fun _ => False)
theorem zd_blind {H0 : Heap} {q w : Nat} {As : List Value} : FrameBlind (va_Pc As (zd_P H0 q w)) := by
  intro a U g mk h
  obtain ⟨h0, h1, h2⟩ := h
  exact ⟨h0, h1, zs_tx_moved (u := U) (U := U.calling g mk a) (Vm.Alike.refl U.vm) h2⟩
theorem zd_S {A : Nat → Prop} {H0 H : Heap} {locs : List Loc} (h : va_S (fun _ => False) H0 H locs) : va_S A H0 H locs := ⟨h.1, fun q h1 _ => h.2.1 q h1 (fun z => z), fun l hl => (h.2.2 l hl).elim⟩
/-- what a call of these asks of the state ahead of it -/
theorem zd_pre {A : Nat → Prop} {s U : State} {H : Heap} {locs : List Loc} {q w : Nat} (h : zs_tx q w A s s.heap) (hS : va_S A s.heap H locs) (hA : ∀ a, s.heap.size ≤ a → A a) (hU : U.heap = H) (hW : s.WarmedH U.vm) : zd_P H q w U :=
  ⟨hU, zs_tx_narrow (zs_tx_moved hW.alike (zs_tx_kept h hS.2.1)) (fun a ha => hA a (Nat.le_trans hS.1 ha))⟩
theorem zd_str {A : Nat → Prop} {s : State} {H : Heap} {q w : Nat} (h : zs_tx q w A s H) : va_O "java/lang/String" q A s H ∧ va_OF "java/lang/String" "coder" "B" (.int 0) q A s H ∧ va_OF "java/lang/String" "value" "[B" (.ref w) q A s H ∧ va_T .byte w 129 (fun j => .int (zs_by.getD j 0)) A s H := h.2.2.1 0 (by decide)
theorem zd_rcv {A : Nat → Prop} {s : State} {H : Heap} {locs : List Loc} {q w : Nat} (h : zs_tx q w A s s.heap) (hS : va_S A s.heap H locs) : ∃ cell : Cell, H[q]? = some cell ∧ cell.vm.isStatics = false ∧ s.vm.findClass "java/lang/String" = some cell.cls := vk_recv h.2.2 (i := 0) (by decide) hS
theorem zd_c_coder (l : Launch) (H0 : Heap) (q w : Nat) : Met l zd_y_coder (Cond.code zd_y_coder zd_b_coder 1 (some .byte) :: zs_tb) (zd_rm 0) (va_Pc [.ref q] (zd_P H0 q w)) (zd_Qi H0 0) 0 0 (fun _ => False) := by
  refine zs_ofW (cc := zd_b_coder) (maxL := 1) (ret := some .byte) (by decide +kernel) rfl ?_
  intro p e s m args below meth c s₁ B hml hv
  obtain ⟨rfl, rfl, hT⟩ := hv
  have hx := B.exec
  have hb := B.bytes
  have hr := B.returns
  have hlocks := B.notSynchronized
  have hts0 := atoms_spec (ws := Cond.code zd_y_coder zd_b_coder 1 (some .byte) :: zs_tb) B.pre
  have hts : ∀ wd ∈ zs_tb, wd.before (([.ref q] : List Value).toArray) s = true := fun wd hw => hts0 wd (List.mem_cons_of_mem _ hw)
  have hown : s.vm.findClass "java/lang/String" = some m.cls := findClass_of_methodNamed B.named
  have hS0 : va_S (fun _ => False) s.heap s.heap [] := va_S.rf
  have hS : va_S (fun a => s.heap.size ≤ a) s.heap s.heap [] := va_S.rf
  obtain ⟨hO, hC, hV, hB⟩ := zd_str hT
  have hl := lv_entry ([.ref q]) (n := 1) (Nat.le_of_ble_eq_true rfl)
  rw [lg_entry_eq]
  generalize (lg_sl ([.ref q]) ++ List.replicate (1 - (lg_sl ([.ref q])).length) Slot.unset).toArray = ls at hl ⊢
  have hl : lv_has ls 1 [(0, .ref q)] := hl
  refine va_gets (own := "java/lang/String") (ref := "java/lang/String") (index := 38) hx hb hT.1 hS hown (hts _ zd_w_f38) (fun _ h9 => h9) zd_d_coder_0 ?_
  refine lv_if_eq (tgt := 13) hx hb zd_d_coder_3 rfl (fun h9 => absurd h9 (by decide)) (fun _ => ?_)
  refine lv_aload_n hx hb zd_d_coder_6 rfl (lv_at hl 0 rfl) ?_
  refine vk_getf hx hb (own := "java/lang/String") (ref := "java/lang/String") (index := 15) hC hS hown (hts _ zd_w_f15) (fun _ h9 => h9) zd_d_coder_7 ?_
  refine lv_goto (tgt := 14) hx hb zd_d_coder_10 rfl ?_
  exact W.zret (ty := .byte) hx hb hr (by rfl) (fun t ht hW => ⟨⟨0, (), rfl, rfl, ht⟩, hS0.F ht⟩) hS0.2.2 zd_d_coder_14
theorem zd_c_isl (l : Launch) (H0 : Heap) (q w : Nat) : Met l zd_y_isl (Cond.code zd_y_isl zd_b_isl 1 (some .boolean) :: zs_tb) (zd_rm 0) (va_Pc [.ref q] (zd_P H0 q w)) (zd_Qi H0 1) 0 0 (fun _ => False) := by
  refine zs_ofW (cc := zd_b_isl) (maxL := 1) (ret := some .boolean) (by decide +kernel) rfl ?_
  intro p e s m args below meth c s₁ B hml hv
  obtain ⟨rfl, rfl, hT⟩ := hv
  have hx := B.exec
  have hb := B.bytes
  have hr := B.returns
  have hlocks := B.notSynchronized
  have hts0 := atoms_spec (ws := Cond.code zd_y_isl zd_b_isl 1 (some .boolean) :: zs_tb) B.pre
  have hts : ∀ wd ∈ zs_tb, wd.before (([.ref q] : List Value).toArray) s = true := fun wd hw => hts0 wd (List.mem_cons_of_mem _ hw)
  have hown : s.vm.findClass "java/lang/String" = some m.cls := findClass_of_methodNamed B.named
  have hS0 : va_S (fun _ => False) s.heap s.heap [] := va_S.rf
  have hS : va_S (fun a => s.heap.size ≤ a) s.heap s.heap [] := va_S.rf
  obtain ⟨hO, hC, hV, hB⟩ := zd_str hT
  have hl := lv_entry ([.ref q]) (n := 1) (Nat.le_of_ble_eq_true rfl)
  rw [lg_entry_eq]
  generalize (lg_sl ([.ref q]) ++ List.replicate (1 - (lg_sl ([.ref q])).length) Slot.unset).toArray = ls at hl ⊢
  have hl : lv_has ls 1 [(0, .ref q)] := hl
  refine va_gets (own := "java/lang/String") (ref := "java/lang/String") (index := 38) hx hb hT.1 hS hown (hts _ zd_w_f38) (fun _ h9 => h9) zd_d_isl_0 ?_
  refine lv_if_eq (tgt := 17) hx hb zd_d_isl_3 rfl (fun h9 => absurd h9 (by decide)) (fun _ => ?_)
  refine lv_aload_n hx hb zd_d_isl_6 rfl (lv_at hl 0 rfl) ?_
  refine vk_getf hx hb (own := "java/lang/String") (ref := "java/lang/String") (index := 15) hC hS hown (hts _ zd_w_f15) (fun _ h9 => h9) zd_d_isl_7 ?_
  refine lv_if_ne (tgt := 17) hx hb zd_d_isl_10 rfl (fun h9 => absurd rfl h9) (fun _ => ?_)
  refine lv_iconst hx hb zd_d_isl_13 (v := 1) rfl ?_
  refine lv_goto (tgt := 18) hx hb zd_d_isl_14 rfl ?_
  exact W.zret (ty := .boolean) hx hb hr (by rfl) (fun t ht hW => ⟨⟨1, (), rfl, rfl, ht⟩, hS0.F ht⟩) hS0.2.2 zd_d_isl_18
theorem zd_c_len (l : Launch) (H0 : Heap) (q w : Nat) : Met l zd_y_len (Cond.code zd_y_len zd_b_len 1 (some .int) :: zs_tb) (zd_rm 1) (va_Pc [.ref q] (zd_P H0 q w)) (zd_Qi H0 129) 0 0 (fun _ => False) := by
  refine zs_ofW (cc := zd_b_len) (maxL := 1) (ret := some .int) (by decide +kernel) rfl ?_
  intro p e s m args below meth c s₁ B hml hv
  obtain ⟨rfl, rfl, hT⟩ := hv
  have hx := B.exec
  have hb := B.bytes
  have hr := B.returns
  have hlocks := B.notSynchronized
  have hts0 := atoms_spec (ws := Cond.code zd_y_len zd_b_len 1 (some .int) :: zs_tb) B.pre
  have hts : ∀ wd ∈ zs_tb, wd.before (([.ref q] : List Value).toArray) s = true := fun wd hw => hts0 wd (List.mem_cons_of_mem _ hw)
  have hown : s.vm.findClass "java/lang/String" = some m.cls := findClass_of_methodNamed B.named
  have hS0 : va_S (fun _ => False) s.heap s.heap [] := va_S.rf
  have hS : va_S (fun a => s.heap.size ≤ a) s.heap s.heap [] := va_S.rf
  obtain ⟨hO, hC, hV, hB⟩ := zd_str hT
  have hl := lv_entry ([.ref q]) (n := 1) (Nat.le_of_ble_eq_true rfl)
  rw [lg_entry_eq]
  generalize (lg_sl ([.ref q]) ++ List.replicate (1 - (lg_sl ([.ref q])).length) Slot.unset).toArray = ls at hl ⊢
  have hl : lv_has ls 1 [(0, .ref q)] := hl
  refine lv_aload_n hx hb zd_d_len_0 rfl (lv_at hl 0 rfl) ?_
  refine vk_getf hx hb (own := "java/lang/String") (ref := "java/lang/String") (index := 9) hV hS hown (hts _ zd_w_f9) (fun _ h9 => h9) zd_d_len_1 ?_
  refine va_tlen hx hb hB hS (v := 129) rfl zd_d_len_4 ?_
  refine lv_aload_n hx hb zd_d_len_5 rfl (lv_at hl 0 rfl) ?_
  refine va_calli (va_runV (n := 0) (b := q) (As := []) (rest := [.int 129]) ⟨hx, hb, hml, hown, hts⟩ (zd_c_coder l s.heap q w) (cwV (C := "java/lang/String") (own := "java/lang/String") (index := 335) 0 hts (zs_goodIn (fun x hw => ?_)) rfl rfl rfl ⟨rfl, by decide +kernel, by decide +kernel, by decide +kernel⟩ ⟨Nat.le_of_ble_eq_true rfl, Nat.le_of_ble_eq_true rfl⟩) ⟨zd_blind, zd_rcv hT hS, fun U hU hW => ⟨rfl, zd_pre hT hS (fun _ h => h) hU hW⟩⟩ rfl rfl hl.1 rfl (lv_room (Nat.le_of_ble_eq_true rfl)) zd_d_len_6 ⟨Nat.le_of_ble_eq_true rfl, Nat.le_of_ble_eq_true rfl⟩) hS0 (fun _ _ z => z) (fun _ z => z) (fun r u t H1 locs1 ht _ hp hB1 _ _ hS1 => ?_)
  · rcases List.mem_append.mp hw with hw | hw
    · simp only [List.mem_cons, List.not_mem_nil, or_false] at hw
      rcases hw with rfl | rfl | rfl | rfl
      · exact zd_w_l335
      · exact zd_w_i_coder
      · exact zd_w_x_coder
      · exact zd_w_n_s
    · exact zd_sub zd_w_c_coder x hw
  · subst hp
    have hH : H1 = s.heap := ht.symm.trans hB1
    subst hH
    refine lv_ishr hx hb zd_d_len_9 ?_
    rw [show (129 : Int32) >>> ((0 : Int32) &&& 31) = 129 by decide]
    exact W.iret hx hb hr (fun t2 ht2 hW => ⟨⟨129, (), rfl, rfl, ht2⟩, hS1.F ht2⟩) hS1.2.2 zd_d_len_10
theorem zd_c_pci (l : Launch) (H0 : Heap) (q w : Nat) {I N : Int32} {f : Value} (hf : f.category = 1) (h1 : ¬ I < 0) (h2 : I < N) : Met l zd_y_pci (Cond.code zd_y_pci zd_b_pci 3 (some .int) :: zs_tb) (zd_rm 0) (va_Pc [.int I, .int N, f] (zd_P H0 q w)) (zd_Qi H0 I) 0 0 (fun _ => False) := by
  refine zs_ofW (cc := zd_b_pci) (maxL := 3) (ret := (some .int)) (by decide +kernel) rfl ?_
  intro p e s m args below meth c s₁ B hml hv
  obtain ⟨rfl, rfl, hT⟩ := hv
  have hx := B.exec
  have hb := B.bytes
  have hr := B.returns
  have hlocks := B.notSynchronized
  have hts0 := atoms_spec (ws := Cond.code zd_y_pci zd_b_pci 3 (some .int) :: zs_tb) B.pre
  have hts : ∀ wd ∈ zs_tb, wd.before (([.int I, .int N, f] : List Value).toArray) s = true := fun wd hw => hts0 wd (List.mem_cons_of_mem _ hw)
  have hown : s.vm.findClass "jdk/internal/util/Preconditions" = some m.cls := findClass_of_methodNamed B.named
  have hS0 : va_S (fun _ => False) s.heap s.heap [] := va_S.rf
  have hS : va_S (fun a => s.heap.size ≤ a) s.heap s.heap [] := va_S.rf
  have hl := lv_entry ([.int I, .int N, f]) (n := 3) (by
    have e1 : (Value.int I).category = 1 := rfl
    have e2 : (Value.int N).category = 1 := rfl
    simp [lg_sl, hf, e1, e2])
  rw [lg_entry_eq]
  generalize (lg_sl ([.int I, .int N, f]) ++ List.replicate (3 - (lg_sl ([.int I, .int N, f])).length) Slot.unset).toArray = ls at hl ⊢
  have hl : lv_has ls 3 [(0, .int I), (1, .int N), (2, f)] := hl
  refine lv_iload_n hx hb zd_d_pci_0 rfl (lv_at hl 0 rfl) ?_
  refine lv_if_lt (tgt := 9) hx hb zd_d_pci_1 rfl (fun h9 => absurd h9 h1) (fun _ => ?_)
  refine lv_iload_n hx hb zd_d_pci_4 rfl (lv_at hl 0 rfl) ?_
  refine lv_iload_n hx hb zd_d_pci_5 rfl (lv_at hl 1 rfl) ?_
  refine lv_icmp_lt (tgt := 16) hx hb zd_d_pci_6 rfl (fun _ => ?_) (fun h9 => absurd h2 h9)
  refine lv_iload_n hx hb zd_d_pci_16 rfl (lv_at hl 0 rfl) ?_
  exact W.iret hx hb hr (fun t ht hW => ⟨⟨I, (), rfl, rfl, ht⟩, hS0.F ht⟩) hS0.2.2 zd_d_pci_17
theorem zd_c_chk (l : Launch) (H0 : Heap) (q w : Nat) {I N : Int32} (h1 : ¬ I < 0) (h2 : I < N) : Met l zd_y_chk (Cond.code zd_y_chk zd_b_chk 2 none :: zs_tb) (zd_rm 1) (va_Pc [.int I, .int N] (zd_P H0 q w)) (zd_Qv H0) 0 0 (fun _ => False) := by
  refine zs_ofW (cc := zd_b_chk) (maxL := 2) (ret := none) (by decide +kernel) rfl ?_
  intro p e s m args below meth c s₁ B hml hv
  obtain ⟨rfl, rfl, hT⟩ := hv
  have hx := B.exec
  have hb := B.bytes
  have hr := B.returns
  have hlocks := B.notSynchronized
  have hts0 := atoms_spec (ws := Cond.code zd_y_chk zd_b_chk 2 none :: zs_tb) B.pre
  have hts : ∀ wd ∈ zs_tb, wd.before (([.int I, .int N] : List Value).toArray) s = true := fun wd hw => hts0 wd (List.mem_cons_of_mem _ hw)
  have hown : s.vm.findClass "java/lang/String" = some m.cls := findClass_of_methodNamed B.named
  have hS0 : va_S (fun _ => False) s.heap s.heap [] := va_S.rf
  have hS : va_S (fun a => s.heap.size ≤ a) s.heap s.heap [] := va_S.rf
  have hl := lv_entry ([.int I, .int N]) (n := 2) (Nat.le_of_ble_eq_true rfl)
  rw [lg_entry_eq]
  generalize (lg_sl ([.int I, .int N]) ++ List.replicate (2 - (lg_sl ([.int I, .int N])).length) Slot.unset).toArray = ls at hl ⊢
  have hl : lv_has ls 2 [(0, .int I), (1, .int N)] := hl
  refine lv_iload_n hx hb zd_d_chk_0 rfl (lv_at hl 0 rfl) ?_
  refine lv_iload_n hx hb zd_d_chk_1 rfl (lv_at hl 1 rfl) ?_
  obtain ⟨f, hf, hZ⟩ : ∃ f : Value, f.category = 1 ∧ va_Z "jdk/internal/util/Preconditions" "SIOOBE_FORMATTER" "Ljava/util/function/BiFunction;" f (fun a => s.heap.size ≤ a) s s.heap := by
    rcases hT.2.1 with h9 | ⟨t, h9⟩
    · exact ⟨_, rfl, h9⟩
    · exact ⟨_, rfl, h9⟩
  refine va_gets (own := "java/lang/String") (ref := "jdk/internal/util/Preconditions") (index := 1053) hx hb hZ hS hown (hts _ zd_w_f1053) (fun _ h9 => h9) zd_d_chk_2 ?_
  refine va_calli (va_runS (n := 3) (As := [.int I, .int N, f]) (rest := []) ⟨hx, hb, hml, hown, hts⟩ (zd_c_pci l s.heap q w hf h1 h2) ⟨callB_of (own := "java/lang/String") (index := 1059) 3 hts (zs_goodIn (zd_sub zd_w_c_pci)) rfl rfl rfl (hts _ zd_w_n_p) (hts _ zd_w_l1059) ⟨by decide +kernel, by decide +kernel, by decide +kernel⟩ ⟨Nat.le_of_ble_eq_true rfl, Nat.le_of_ble_eq_true rfl⟩, hts _ zd_w_s_pci⟩ ⟨zd_blind, fun U hU hW => ⟨rfl, zd_pre hT hS (fun _ h => h) hU hW⟩⟩ rfl rfl hl.1 rfl (lv_room (Nat.le_of_ble_eq_true rfl)) zd_d_chk_5 ⟨Nat.le_of_ble_eq_true rfl, Nat.le_of_ble_eq_true rfl⟩) hS0 (fun _ _ z => z) (fun _ z => z) (fun r u t H1 locs1 ht _ hp hB1 _ _ hS1 => ?_)
  have hH : H1 = s.heap := ht.symm.trans hB1
  subst hH
  refine lv_pop hx hb zd_d_chk_8 rfl ?_
  exact W.vret hx hb hr (fun t2 ht2 hW => ⟨⟨(), rfl, trivial, ht2⟩, hS1.F ht2⟩) hS1.2.2 zd_d_chk_9
/-- the text's bytes are its letters -/
theorem zd_bytes : ∀ k : Nat, k < 129 → ((zs_by.getD k 0 &&& 255).toUInt32 % 65536).toInt32 = Int32.ofInt ((zm_text.getD k 0 : Nat) : Int) ∧ (Int32.ofInt ((zm_text.getD k 0 : Nat) : Int)).toUInt32.toUInt16.toUInt32.toInt32 = Int32.ofInt ((zm_text.getD k 0 : Nat) : Int) ∧ zm_text.getD k 0 < 256 := by decide +kernel
theorem zd_tlen : zm_text.length = 129 := by decide +kernel
theorem zd_c_l1c (l : Launch) (H0 : Heap) (q w : Nat) {i : Int} (h1 : 0 ≤ i) (h2 : i < 129) : Met l zd_y_l1c (Cond.code zd_y_l1c zd_b_l1c 2 (some .char) :: zs_tb) (zd_rm 2) (va_Pc [.ref w, .int (Int32.ofInt i)] (zd_P H0 q w)) (zd_Qi H0 (Int32.ofInt ((zm_text.getD i.toNat 0 : Nat) : Int))) 0 0 (fun _ => False) := by
  refine zs_ofW (cc := zd_b_l1c) (maxL := 2) (ret := (some .char)) (by decide +kernel) rfl ?_
  intro p e s m args below meth c s₁ B hml hv
  obtain ⟨rfl, rfl, hT⟩ := hv
  have hx := B.exec
  have hb := B.bytes
  have hr := B.returns
  have hlocks := B.notSynchronized
  have hts0 := atoms_spec (ws := Cond.code zd_y_l1c zd_b_l1c 2 (some .char) :: zs_tb) B.pre
  have hts : ∀ wd ∈ zs_tb, wd.before (([.ref w, .int (Int32.ofInt i)] : List Value).toArray) s = true := fun wd hw => hts0 wd (List.mem_cons_of_mem _ hw)
  have hown : s.vm.findClass "java/lang/StringLatin1" = some m.cls := findClass_of_methodNamed B.named
  have hS0 : va_S (fun _ => False) s.heap s.heap [] := va_S.rf
  have hS : va_S (fun a => s.heap.size ≤ a) s.heap s.heap [] := va_S.rf
  have hl := lv_entry ([.ref w, .int (Int32.ofInt i)]) (n := 2) (Nat.le_of_ble_eq_true rfl)
  rw [lg_entry_eq]
  generalize (lg_sl ([.ref w, .int (Int32.ofInt i)]) ++ List.replicate (2 - (lg_sl ([.ref w, .int (Int32.ofInt i)])).length) Slot.unset).toArray = ls at hl ⊢
  have hl : lv_has ls 2 [(0, .ref w), (1, .int (Int32.ofInt i))] := hl
  obtain ⟨hO, hC, hV, hB⟩ := zd_str hT
  have hi : zm_i32 i := by show _ ∧ _; omega
  have g1 : ¬ Int32.ofInt i < 0 := fun h9 => by
    have := (zs_lt hi (show zm_i32 0 by show _ ∧ _; omega)).mp h9
    omega
  have g2 : Int32.ofInt i < 129 := (zs_lt hi (show zm_i32 129 by show _ ∧ _; omega)).mpr h2
  refine lv_iload_n hx hb zd_d_l1c_0 rfl (lv_at hl 1 rfl) ?_
  refine lv_aload_n hx hb zd_d_l1c_1 rfl (lv_at hl 0 rfl) ?_
  refine va_tlen hx hb hB hS (v := 129) rfl zd_d_l1c_2 ?_
  refine va_callv (va_runS (n := 2) (As := [.int (Int32.ofInt i), .int 129]) (rest := []) ⟨hx, hb, hml, hown, hts⟩ (zd_c_chk l s.heap q w g1 g2) ⟨callB_of (own := "java/lang/StringLatin1") (index := 9) 2 hts (zs_goodIn (zd_sub zd_w_c_chk)) rfl rfl rfl (hts _ zd_w_n_s) (hts _ zd_w_l9) ⟨by decide +kernel, by decide +kernel, by decide +kernel⟩ ⟨Nat.le_of_ble_eq_true rfl, Nat.le_of_ble_eq_true rfl⟩, hts _ zd_w_s_chk⟩ ⟨zd_blind, fun U hU hW => ⟨rfl, zd_pre hT hS (fun _ h => h) hU hW⟩⟩ rfl rfl hl.1 rfl (lv_room (Nat.le_of_ble_eq_true rfl)) zd_d_l1c_3 ⟨Nat.le_of_ble_eq_true rfl, Nat.le_of_ble_eq_true rfl⟩) hS0 (fun _ _ z => z) (fun _ z => z) (fun u t H1 locs1 ht _ hp hB1 _ _ hS1 => ?_)
  have hH : H1 = s.heap := ht.symm.trans hB1
  subst hH
  obtain ⟨hvin, hclamp, hcast⟩ := zs_i32s (n := 129) h1 h2 hi
  obtain ⟨hb1, hb2, hb3⟩ := zd_bytes i.toNat (by omega)
  refine lv_aload_n hx hb zd_d_l1c_6 rfl (lv_at hl 0 rfl) ?_
  refine lv_iload_n hx hb zd_d_l1c_7 rfl (lv_at hl 1 rfl) ?_
  refine va_tb hx hb hB (zd_S hS1) hvin (v := .int (zs_by.getD i.toNat 0)) (by rw [hclamp]) zd_d_l1c_8 ?_
  refine lv_sipush hx hb zd_d_l1c_9 (v := 255) rfl ?_
  refine lv_iand hx hb zd_d_l1c_12 ?_
  refine lv_i2c hx hb zd_d_l1c_13 hb1 ?_
  exact W.zret (ty := .char) hx hb hr (congrArg Value.int hb2) (fun t2 ht2 hW => ⟨⟨_, (), rfl, rfl, ht2⟩, hS1.F ht2⟩) hS1.2.2 zd_d_l1c_14
theorem zd_c_cha (l : Launch) (H0 : Heap) (q w : Nat) {i : Int} (h1 : 0 ≤ i) (h2 : i < 129) : Met l zd_y_cha (Cond.code zd_y_cha zd_b_cha 2 (some .char) :: zs_tb) (zd_rm 3) (va_Pc [.ref q, .int (Int32.ofInt i)] (zd_P H0 q w)) (zd_Qi H0 (Int32.ofInt ((zm_text.getD i.toNat 0 : Nat) : Int))) 0 0 (fun _ => False) := by
  refine zs_ofW (cc := zd_b_cha) (maxL := 2) (ret := (some .char)) (by decide +kernel) rfl ?_
  intro p e s m args below meth c s₁ B hml hv
  obtain ⟨rfl, rfl, hT⟩ := hv
  have hx := B.exec
  have hb := B.bytes
  have hr := B.returns
  have hlocks := B.notSynchronized
  have hts0 := atoms_spec (ws := Cond.code zd_y_cha zd_b_cha 2 (some .char) :: zs_tb) B.pre
  have hts : ∀ wd ∈ zs_tb, wd.before (([.ref q, .int (Int32.ofInt i)] : List Value).toArray) s = true := fun wd hw => hts0 wd (List.mem_cons_of_mem _ hw)
  have hown : s.vm.findClass "java/lang/String" = some m.cls := findClass_of_methodNamed B.named
  have hS0 : va_S (fun _ => False) s.heap s.heap [] := va_S.rf
  have hS : va_S (fun a => s.heap.size ≤ a) s.heap s.heap [] := va_S.rf
  have hl := lv_entry ([.ref q, .int (Int32.ofInt i)]) (n := 2) (Nat.le_of_ble_eq_true rfl)
  rw [lg_entry_eq]
  generalize (lg_sl ([.ref q, .int (Int32.ofInt i)]) ++ List.replicate (2 - (lg_sl ([.ref q, .int (Int32.ofInt i)])).length) Slot.unset).toArray = ls at hl ⊢
  have hl : lv_has ls 2 [(0, .ref q), (1, .int (Int32.ofInt i))] := hl
  obtain ⟨hO, hC, hV, hB⟩ := zd_str hT
  obtain ⟨hb1, hb2, hb3⟩ := zd_bytes i.toNat (by omega)
  refine lv_aload_n hx hb zd_d_cha_0 rfl (lv_at hl 0 rfl) ?_
  refine va_calli (va_runV (n := 0) (b := q) (As := []) (rest := []) ⟨hx, hb, hml, hown, hts⟩ (zd_c_isl l s.heap q w) (cwV (C := "java/lang/String") (own := "java/lang/String") (index := 492) 0 hts (zs_goodIn (fun x hw => ?_)) rfl rfl rfl ⟨rfl, by decide +kernel, by decide +kernel, by decide +kernel⟩ ⟨Nat.le_of_ble_eq_true rfl, Nat.le_of_ble_eq_true rfl⟩) ⟨zd_blind, zd_rcv hT hS, fun U hU hW => ⟨rfl, zd_pre hT hS (fun _ h => h) hU hW⟩⟩ rfl rfl hl.1 rfl (lv_room (Nat.le_of_ble_eq_true rfl)) zd_d_cha_1 ⟨Nat.le_of_ble_eq_true rfl, Nat.le_of_ble_eq_true rfl⟩) hS0 (fun _ _ z => z) (fun _ z => z) (fun r u t H1 locs1 ht _ hp hB1 _ _ hS1 => ?_)
  · rcases List.mem_append.mp hw with hw | hw
    · simp only [List.mem_cons, List.not_mem_nil, or_false] at hw
      rcases hw with rfl | rfl | rfl | rfl
      · exact zd_w_l492
      · exact zd_w_i_isl
      · exact zd_w_x_isl
      · exact zd_w_n_s
    · exact zd_sub zd_w_c_isl x hw
  · subst hp
    have hH : H1 = s.heap := ht.symm.trans hB1
    subst hH
    refine lv_if_eq (tgt := 16) hx hb zd_d_cha_4 rfl (fun h9 => absurd h9 (by decide)) (fun _ => ?_)
    refine lv_aload_n hx hb zd_d_cha_7 rfl (lv_at hl 0 rfl) ?_
    refine vk_getf hx hb (own := "java/lang/String") (ref := "java/lang/String") (index := 9) hV (zd_S hS1) hown (hts _ zd_w_f9) (fun _ h9 => h9) zd_d_cha_8 ?_
    refine lv_iload_n hx hb zd_d_cha_11 rfl (lv_at hl 1 rfl) ?_
    refine va_calli (va_runS (n := 2) (As := [.ref w, .int (Int32.ofInt i)]) (rest := []) ⟨hx, hb, hml, hown, hts⟩ (zd_c_l1c l s.heap q w h1 h2) ⟨callB_of (own := "java/lang/String") (index := 495) 2 hts (zs_goodIn (zd_sub zd_w_c_l1c)) rfl rfl rfl (hts _ zd_w_n_l) (hts _ zd_w_l495) ⟨by decide +kernel, by decide +kernel, by decide +kernel⟩ ⟨Nat.le_of_ble_eq_true rfl, Nat.le_of_ble_eq_true rfl⟩, hts _ zd_w_s_l1c⟩ ⟨zd_blind, fun U hU hW => ⟨rfl, zd_pre hT hS (fun _ h => h) hU hW⟩⟩ rfl rfl hl.1 rfl (lv_room (Nat.le_of_ble_eq_true rfl)) zd_d_cha_12 ⟨Nat.le_of_ble_eq_true rfl, Nat.le_of_ble_eq_true rfl⟩) hS1 (fun _ _ z => z) (fun _ z => z) (fun r u t H1 locs2 ht _ hp hB1 _ _ hS2 => ?_)
    subst hp
    have hH : H1 = s.heap := ht.symm.trans hB1
    subst hH
    exact W.zret (ty := .char) hx hb hr (congrArg Value.int hb2) (fun t2 ht2 hW => ⟨⟨_, (), rfl, rfl, ht2⟩, hS2.F ht2⟩) hS2.2.2 zd_d_cha_15
