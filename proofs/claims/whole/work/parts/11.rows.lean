/-! THE PLAIN MACHINE IN USE, part 2: a row an instruction (printed by wip/gen/gen_r.py) -/
section
variable {X : Option (Nat × (Int → Int))} {rk y pc : Nat} {loc r : List zm_V} {h : zm_H}
theorem r_iload {n : Nat} {z : Int} (hd : decode (zm_code y) pc = .ok (.iload n, 2)) (hl : loc[n]? = some (zm_I z)) : zl (zr X rk y (pc + 2) loc (zm_I z :: r) h) (zr X rk y pc loc r h) := by
  rw [zr_go (zr_step hd (by first | exact Or.inr rfl | exact Or.inl rfl) rfl (by simp only [zm_si, zm_go, zm_fl, hl]; rfl))]; exact zl_rf
theorem r_iload_n {n : Fin 4} {z : Int} (hd : decode (zm_code y) pc = .ok (.iload_n n, 1)) (hl : loc[(n : Nat)]? = some (zm_I z)) : zl (zr X rk y (pc + 1) loc (zm_I z :: r) h) (zr X rk y pc loc r h) := by
  rw [zr_go (zr_step hd (by first | exact Or.inr rfl | exact Or.inl rfl) rfl (by simp only [zm_si, zm_go, zm_fl, hl]; rfl))]; exact zl_rf
theorem r_istore {n : Nat} {z : Int} {loc' : List zm_V} (hd : decode (zm_code y) pc = .ok (.istore n, 2)) (hn : n < loc.length) (hl : zm_st1 loc n (zm_I z) = loc') : zl (zr X rk y (pc + 2) loc' r h) (zr X rk y pc loc (zm_I z :: r) h) := by
  rw [zr_go (zr_step hd (by first | exact Or.inr rfl | exact Or.inl rfl) rfl (by simp only [zm_si, zm_go, zm_fl, hl, zm_ck_t hn]; rfl))]; exact zl_rf
theorem r_istore_n {n : Fin 4} {z : Int} {loc' : List zm_V} (hd : decode (zm_code y) pc = .ok (.istore_n n, 1)) (hn : (n : Nat) < loc.length) (hl : zm_st1 loc (n : Nat) (zm_I z) = loc') : zl (zr X rk y (pc + 1) loc' r h) (zr X rk y pc loc (zm_I z :: r) h) := by
  rw [zr_go (zr_step hd (by first | exact Or.inr rfl | exact Or.inl rfl) rfl (by simp only [zm_si, zm_go, zm_fl, hl, zm_ck_t hn]; rfl))]; exact zl_rf
theorem r_lload {n : Nat} {z : Int} (hd : decode (zm_code y) pc = .ok (.lload n, 2)) (hl : loc[n]? = some (zm_L z)) : zl (zr X rk y (pc + 2) loc (zm_L z :: r) h) (zr X rk y pc loc r h) := by
  rw [zr_go (zr_step hd (by first | exact Or.inr rfl | exact Or.inl rfl) rfl (by simp only [zm_si, zm_go, zm_fl, hl]; rfl))]; exact zl_rf
theorem r_lload_n {n : Fin 4} {z : Int} (hd : decode (zm_code y) pc = .ok (.lload_n n, 1)) (hl : loc[(n : Nat)]? = some (zm_L z)) : zl (zr X rk y (pc + 1) loc (zm_L z :: r) h) (zr X rk y pc loc r h) := by
  rw [zr_go (zr_step hd (by first | exact Or.inr rfl | exact Or.inl rfl) rfl (by simp only [zm_si, zm_go, zm_fl, hl]; rfl))]; exact zl_rf
theorem r_lstore {n : Nat} {z : Int} {loc' : List zm_V} (hd : decode (zm_code y) pc = .ok (.lstore n, 2)) (hn : n + 1 < loc.length) (hl : zm_st2 loc n (zm_L z) = loc') : zl (zr X rk y (pc + 2) loc' r h) (zr X rk y pc loc (zm_L z :: r) h) := by
  rw [zr_go (zr_step hd (by first | exact Or.inr rfl | exact Or.inl rfl) rfl (by simp only [zm_si, zm_go, zm_fl, hl, zm_ck_t hn]; rfl))]; exact zl_rf
theorem r_lstore_n {n : Fin 4} {z : Int} {loc' : List zm_V} (hd : decode (zm_code y) pc = .ok (.lstore_n n, 1)) (hn : (n : Nat) + 1 < loc.length) (hl : zm_st2 loc (n : Nat) (zm_L z) = loc') : zl (zr X rk y (pc + 1) loc' r h) (zr X rk y pc loc (zm_L z :: r) h) := by
  rw [zr_go (zr_step hd (by first | exact Or.inr rfl | exact Or.inl rfl) rfl (by simp only [zm_si, zm_go, zm_fl, hl, zm_ck_t hn]; rfl))]; exact zl_rf
theorem r_aload {n : Nat} {z : Nat} (hd : decode (zm_code y) pc = .ok (.aload n, 2)) (hl : loc[n]? = some (zm_A z)) : zl (zr X rk y (pc + 2) loc (zm_A z :: r) h) (zr X rk y pc loc r h) := by
  rw [zr_go (zr_step hd (by first | exact Or.inr rfl | exact Or.inl rfl) rfl (by simp only [zm_si, zm_go, zm_fl, hl]; rfl))]; exact zl_rf
theorem r_aload_n {n : Fin 4} {z : Nat} (hd : decode (zm_code y) pc = .ok (.aload_n n, 1)) (hl : loc[(n : Nat)]? = some (zm_A z)) : zl (zr X rk y (pc + 1) loc (zm_A z :: r) h) (zr X rk y pc loc r h) := by
  rw [zr_go (zr_step hd (by first | exact Or.inr rfl | exact Or.inl rfl) rfl (by simp only [zm_si, zm_go, zm_fl, hl]; rfl))]; exact zl_rf
theorem r_astore {n : Nat} {z : Nat} {loc' : List zm_V} (hd : decode (zm_code y) pc = .ok (.astore n, 2)) (hn : n < loc.length) (hl : zm_st1 loc n (zm_A z) = loc') : zl (zr X rk y (pc + 2) loc' r h) (zr X rk y pc loc (zm_A z :: r) h) := by
  rw [zr_go (zr_step hd (by first | exact Or.inr rfl | exact Or.inl rfl) rfl (by simp only [zm_si, zm_go, zm_fl, hl, zm_ck_t hn]; rfl))]; exact zl_rf
theorem r_astore_n {n : Fin 4} {z : Nat} {loc' : List zm_V} (hd : decode (zm_code y) pc = .ok (.astore_n n, 1)) (hn : (n : Nat) < loc.length) (hl : zm_st1 loc (n : Nat) (zm_A z) = loc') : zl (zr X rk y (pc + 1) loc' r h) (zr X rk y pc loc (zm_A z :: r) h) := by
  rw [zr_go (zr_step hd (by first | exact Or.inr rfl | exact Or.inl rfl) rfl (by simp only [zm_si, zm_go, zm_fl, hl, zm_ck_t hn]; rfl))]; exact zl_rf
theorem r_iinc {n : Nat} {z k : Int} {loc' : List zm_V} (hd : decode (zm_code y) pc = .ok (.iinc n k, 3)) (hl : loc[n]? = some (zm_I z)) (hn : n < loc.length) (hl2 : zm_st1 loc n (zm_I (z + k)) = loc') : zl (zm_ck (zm_i32 (z + k)) (zr X rk y (pc + 3) loc' r h)) (zr X rk y pc loc r h) := by
  intro r e
  obtain ⟨hp, e⟩ := zm_ck_some e
  rw [zr_go (zr_step hd (by first | exact Or.inr rfl | exact Or.inl rfl) rfl (by simp only [zm_si, zm_go, zm_fl, hl, hl2, zm_ck_t (And.intro hp hn)]; rfl))]; exact e
theorem r_iconst {k : Int} (hd : decode (zm_code y) pc = .ok (.iconst k, 1)) (hk : zm_i32 k) : zl (zr X rk y (pc + 1) loc (zm_I k :: r) h) (zr X rk y pc loc r h) := by
  rw [zr_go (zr_step hd (by first | exact Or.inr rfl | exact Or.inl rfl) rfl (by simp only [zm_si, zm_go, zm_fl, zm_ck_t hk]; rfl))]; exact zl_rf
theorem r_bipush {k : Int} (hd : decode (zm_code y) pc = .ok (.bipush k, 2)) (hk : -128 ≤ k ∧ k < 128) : zl (zr X rk y (pc + 2) loc (zm_I k :: r) h) (zr X rk y pc loc r h) := by
  rw [zr_go (zr_step hd (by first | exact Or.inr rfl | exact Or.inl rfl) rfl (by simp only [zm_si, zm_go, zm_fl, zm_ck_t hk]; rfl))]; exact zl_rf
theorem r_sipush {k : Int} (hd : decode (zm_code y) pc = .ok (.sipush k, 3)) (hk : -32768 ≤ k ∧ k < 32768) : zl (zr X rk y (pc + 3) loc (zm_I k :: r) h) (zr X rk y pc loc r h) := by
  rw [zr_go (zr_step hd (by first | exact Or.inr rfl | exact Or.inl rfl) rfl (by simp only [zm_si, zm_go, zm_fl, zm_ck_t hk]; rfl))]; exact zl_rf
theorem r_lconst {k : Fin 2} {z : Int} (hd : decode (zm_code y) pc = .ok (.lconst k, 1)) (hk : ((k : Nat) : Int) = z) : zl (zr X rk y (pc + 1) loc (zm_L z :: r) h) (zr X rk y pc loc r h) := by
  subst hk
  rw [zr_go (zr_step hd (by first | exact Or.inr rfl | exact Or.inl rfl) rfl (by simp only [zm_si, zm_go, zm_fl]; rfl))]; exact zl_rf
theorem r_ldc2 {ix own p : Nat} {z : Int} (hd : decode (zm_code y) pc = .ok (.ldc2_w ix, 3)) (ho : zm_own y = own) (hf : zm_lng own ix = some (z, p)) : zl (zr X rk y (pc + 3) loc (zm_L z :: r) h) (zr X rk y pc loc r h) := by
  rw [zr_go (zr_step hd (by first | exact Or.inr rfl | exact Or.inl rfl) rfl (by simp only [zm_si, zm_go, zm_fl, ho, hf]; rfl))]; exact zl_rf
theorem r_dup {v : zm_V} (hd : decode (zm_code y) pc = .ok (.dup, 1)) (hv : zm_cat v = 1) : zl (zr X rk y (pc + 1) loc (v :: v :: r) h) (zr X rk y pc loc (v :: r) h) := by
  rw [zr_go (zr_step hd (by first | exact Or.inr rfl | exact Or.inl rfl) rfl (by simp only [zm_si, zm_go, zm_fl, zm_ck_t hv]; rfl))]; exact zl_rf
theorem r_dup_x1 {v w : zm_V} (hd : decode (zm_code y) pc = .ok (.dup_x1, 1)) (hv : zm_cat v = 1 ∧ zm_cat w = 1) : zl (zr X rk y (pc + 1) loc (v :: w :: v :: r) h) (zr X rk y pc loc (v :: w :: r) h) := by
  rw [zr_go (zr_step hd (by first | exact Or.inr rfl | exact Or.inl rfl) rfl (by simp only [zm_si, zm_go, zm_fl, zm_ck_t hv]; rfl))]; exact zl_rf
theorem r_dup2 {v w : zm_V} (hd : decode (zm_code y) pc = .ok (.dup2, 1)) (hv : zm_cat v = 1 ∧ zm_cat w = 1) : zl (zr X rk y (pc + 1) loc (v :: w :: v :: w :: r) h) (zr X rk y pc loc (v :: w :: r) h) := by
  rw [zr_go (zr_step hd (by first | exact Or.inr rfl | exact Or.inl rfl) rfl (by simp only [zm_si, zm_go, zm_fl, hv.1, zm_ck_t hv, if_neg (show ¬ (1 : Nat) = 2 by decide), true_and, hv.2, zm_ck_t (rfl : (1 : Nat) = 1), zm_ck_t (And.intro (rfl : (1 : Nat) = 1) (rfl : (1 : Nat) = 1))]; rfl))]; exact zl_rf
theorem r_dup2L {z : Int} (hd : decode (zm_code y) pc = .ok (.dup2, 1)) : zl (zr X rk y (pc + 1) loc (zm_L z :: zm_L z :: r) h) (zr X rk y pc loc (zm_L z :: r) h) := by
  rw [zr_go (zr_step hd (by first | exact Or.inr rfl | exact Or.inl rfl) rfl (by simp only [zm_si, zm_go, zm_fl, zm_cat, if_true]; rfl))]; exact zl_rf
theorem r_pop {v : zm_V} (hd : decode (zm_code y) pc = .ok (.pop, 1)) (hv : zm_cat v = 1) : zl (zr X rk y (pc + 1) loc r h) (zr X rk y pc loc (v :: r) h) := by
  rw [zr_go (zr_step hd (by first | exact Or.inr rfl | exact Or.inl rfl) rfl (by simp only [zm_si, zm_go, zm_fl, zm_ck_t hv]; rfl))]; exact zl_rf
theorem r_ineg {z : Int} (hd : decode (zm_code y) pc = .ok (.ineg, 1)) : zl (zm_ck (zm_i32 (-z)) (zr X rk y (pc + 1) loc (zm_I (-z) :: r) h)) (zr X rk y pc loc (zm_I z :: r) h) := by
  intro r e
  obtain ⟨hp, e⟩ := zm_ck_some e
  rw [zr_go (zr_step hd (by first | exact Or.inr rfl | exact Or.inl rfl) rfl (by simp only [zm_si, zm_go, zm_fl, zm_ck_t hp]; rfl))]; exact e
theorem r_i2l {z : Int} (hd : decode (zm_code y) pc = .ok (.i2l, 1)) : zl (zr X rk y (pc + 1) loc (zm_L z :: r) h) (zr X rk y pc loc (zm_I z :: r) h) := by
  rw [zr_go (zr_step hd (by first | exact Or.inr rfl | exact Or.inl rfl) rfl (by simp only [zm_si, zm_go, zm_fl]; rfl))]; exact zl_rf
theorem r_l2i {z : Int} (hd : decode (zm_code y) pc = .ok (.l2i, 1)) : zl (zm_ck (zm_i32 z) (zr X rk y (pc + 1) loc (zm_I z :: r) h)) (zr X rk y pc loc (zm_L z :: r) h) := by
  intro r e
  obtain ⟨hp, e⟩ := zm_ck_some e
  rw [zr_go (zr_step hd (by first | exact Or.inr rfl | exact Or.inl rfl) rfl (by simp only [zm_si, zm_go, zm_fl, zm_ck_t hp]; rfl))]; exact e
theorem r_lcmp {z x : Int} (hd : decode (zm_code y) pc = .ok (.lcmp, 1)) : zl (zr X rk y (pc + 1) loc (zm_I (if x < z then -1 else if x = z then 0 else 1) :: r) h) (zr X rk y pc loc (zm_L z :: zm_L x :: r) h) := by
  rw [zr_go (zr_step hd (by first | exact Or.inr rfl | exact Or.inl rfl) rfl (by simp only [zm_si, zm_go, zm_fl]; rfl))]; exact zl_rf
theorem r_iadd {z x : Int} (hd : decode (zm_code y) pc = .ok (.iadd, 1)) : zl (zm_ck (zm_i32 (x + z)) (zr X rk y (pc + 1) loc (zm_I (x + z) :: r) h)) (zr X rk y pc loc (zm_I z :: zm_I x :: r) h) := by
  intro r e
  obtain ⟨hp, e⟩ := zm_ck_some e
  rw [zr_go (zr_step hd (by first | exact Or.inr rfl | exact Or.inl rfl) rfl (by simp only [zm_si, zm_go, zm_fl, zm_f2, zm_ck_t hp, Option.bind_some]; rfl))]; exact e
theorem r_isub {z x : Int} (hd : decode (zm_code y) pc = .ok (.isub, 1)) : zl (zm_ck (zm_i32 (x - z)) (zr X rk y (pc + 1) loc (zm_I (x - z) :: r) h)) (zr X rk y pc loc (zm_I z :: zm_I x :: r) h) := by
  intro r e
  obtain ⟨hp, e⟩ := zm_ck_some e
  rw [zr_go (zr_step hd (by first | exact Or.inr rfl | exact Or.inl rfl) rfl (by simp only [zm_si, zm_go, zm_fl, zm_f2, zm_ck_t hp, Option.bind_some]; rfl))]; exact e
theorem r_imul {z x : Int} (hd : decode (zm_code y) pc = .ok (.imul, 1)) : zl (zm_ck (zm_i32 (x * z)) (zr X rk y (pc + 1) loc (zm_I (x * z) :: r) h)) (zr X rk y pc loc (zm_I z :: zm_I x :: r) h) := by
  intro r e
  obtain ⟨hp, e⟩ := zm_ck_some e
  rw [zr_go (zr_step hd (by first | exact Or.inr rfl | exact Or.inl rfl) rfl (by simp only [zm_si, zm_go, zm_fl, zm_f2, zm_ck_t hp, Option.bind_some]; rfl))]; exact e
theorem r_idiv {z x : Int} (hd : decode (zm_code y) pc = .ok (.idiv, 1)) : zl (zm_ck (z ≠ 0 ∧ zm_i32 (x.tdiv z)) (zr X rk y (pc + 1) loc (zm_I (x.tdiv z) :: r) h)) (zr X rk y pc loc (zm_I z :: zm_I x :: r) h) := by
  intro r e
  obtain ⟨hp, e⟩ := zm_ck_some e
  rw [zr_go (zr_step hd (by first | exact Or.inr rfl | exact Or.inl rfl) rfl (by simp only [zm_si, zm_go, zm_fl, zm_f2, zm_ck_t hp, Option.bind_some]; rfl))]; exact e
theorem r_irem {z x : Int} (hd : decode (zm_code y) pc = .ok (.irem, 1)) : zl (zm_ck (z ≠ 0 ∧ zm_i32 (x.tdiv z) ∧ zm_i32 (x.tmod z)) (zr X rk y (pc + 1) loc (zm_I (x.tmod z) :: r) h)) (zr X rk y pc loc (zm_I z :: zm_I x :: r) h) := by
  intro r e
  obtain ⟨hp, e⟩ := zm_ck_some e
  rw [zr_go (zr_step hd (by first | exact Or.inr rfl | exact Or.inl rfl) rfl (by simp only [zm_si, zm_go, zm_fl, zm_f2, zm_ck_t hp, Option.bind_some]; rfl))]; exact e
def zb_iand (x z : Int) : Int := (Int32.ofInt x &&& Int32.ofInt z).toInt
theorem r_iand {z x : Int} (hd : decode (zm_code y) pc = .ok (.iand, 1)) : zl (zr X rk y (pc + 1) loc (zm_I (zb_iand x z) :: r) h) (zr X rk y pc loc (zm_I z :: zm_I x :: r) h) := by
  rw [zr_go (zr_step hd (by first | exact Or.inr rfl | exact Or.inl rfl) rfl (by simp only [zm_si, zm_go, zm_fl, zm_f2, Option.bind_some, zb_iand]; rfl))]; exact zl_rf
def zb_ior (x z : Int) : Int := (Int32.ofInt x ||| Int32.ofInt z).toInt
theorem r_ior {z x : Int} (hd : decode (zm_code y) pc = .ok (.ior, 1)) : zl (zr X rk y (pc + 1) loc (zm_I (zb_ior x z) :: r) h) (zr X rk y pc loc (zm_I z :: zm_I x :: r) h) := by
  rw [zr_go (zr_step hd (by first | exact Or.inr rfl | exact Or.inl rfl) rfl (by simp only [zm_si, zm_go, zm_fl, zm_f2, Option.bind_some, zb_ior]; rfl))]; exact zl_rf
def zb_ixor (x z : Int) : Int := (Int32.ofInt x ^^^ Int32.ofInt z).toInt
theorem r_ixor {z x : Int} (hd : decode (zm_code y) pc = .ok (.ixor, 1)) : zl (zr X rk y (pc + 1) loc (zm_I (zb_ixor x z) :: r) h) (zr X rk y pc loc (zm_I z :: zm_I x :: r) h) := by
  rw [zr_go (zr_step hd (by first | exact Or.inr rfl | exact Or.inl rfl) rfl (by simp only [zm_si, zm_go, zm_fl, zm_f2, Option.bind_some, zb_ixor]; rfl))]; exact zl_rf
def zb_ishl (x z : Int) : Int := (Int32.ofInt x <<< (Int32.ofInt z &&& 31)).toInt
theorem r_ishl {z x : Int} (hd : decode (zm_code y) pc = .ok (.ishl, 1)) : zl (zr X rk y (pc + 1) loc (zm_I (zb_ishl x z) :: r) h) (zr X rk y pc loc (zm_I z :: zm_I x :: r) h) := by
  rw [zr_go (zr_step hd (by first | exact Or.inr rfl | exact Or.inl rfl) rfl (by simp only [zm_si, zm_go, zm_fl, zm_f2, Option.bind_some, zb_ishl]; rfl))]; exact zl_rf
def zb_ishr (x z : Int) : Int := (Int32.ofInt x >>> (Int32.ofInt z &&& 31)).toInt
theorem r_ishr {z x : Int} (hd : decode (zm_code y) pc = .ok (.ishr, 1)) : zl (zr X rk y (pc + 1) loc (zm_I (zb_ishr x z) :: r) h) (zr X rk y pc loc (zm_I z :: zm_I x :: r) h) := by
  rw [zr_go (zr_step hd (by first | exact Or.inr rfl | exact Or.inl rfl) rfl (by simp only [zm_si, zm_go, zm_fl, zm_f2, Option.bind_some, zb_ishr]; rfl))]; exact zl_rf
def zb_iushr (x z : Int) : Int := ((Int32.ofInt x).toUInt32 >>> ((Int32.ofInt z).toUInt32 &&& Int32.toUInt32 31)).toInt32.toInt
theorem r_iushr {z x : Int} (hd : decode (zm_code y) pc = .ok (.iushr, 1)) : zl (zr X rk y (pc + 1) loc (zm_I (zb_iushr x z) :: r) h) (zr X rk y pc loc (zm_I z :: zm_I x :: r) h) := by
  rw [zr_go (zr_step hd (by first | exact Or.inr rfl | exact Or.inl rfl) rfl (by simp only [zm_si, zm_go, zm_fl, zm_f2, Option.bind_some, zb_iushr]; rfl))]; exact zl_rf
theorem r_ladd {z x : Int} (hd : decode (zm_code y) pc = .ok (.ladd, 1)) : zl (zm_ck (zm_i64 (x + z)) (zr X rk y (pc + 1) loc (zm_L (x + z) :: r) h)) (zr X rk y pc loc (zm_L z :: zm_L x :: r) h) := by
  intro r e
  obtain ⟨hp, e⟩ := zm_ck_some e
  rw [zr_go (zr_step hd (by first | exact Or.inr rfl | exact Or.inl rfl) rfl (by simp only [zm_si, zm_go, zm_fl, zm_g2, zm_ck_t hp, Option.bind_some]; rfl))]; exact e
theorem r_lsub {z x : Int} (hd : decode (zm_code y) pc = .ok (.lsub, 1)) : zl (zm_ck (zm_i64 (x - z)) (zr X rk y (pc + 1) loc (zm_L (x - z) :: r) h)) (zr X rk y pc loc (zm_L z :: zm_L x :: r) h) := by
  intro r e
  obtain ⟨hp, e⟩ := zm_ck_some e
  rw [zr_go (zr_step hd (by first | exact Or.inr rfl | exact Or.inl rfl) rfl (by simp only [zm_si, zm_go, zm_fl, zm_g2, zm_ck_t hp, Option.bind_some]; rfl))]; exact e
theorem r_lmul {z x : Int} (hd : decode (zm_code y) pc = .ok (.lmul, 1)) : zl (zm_ck (zm_i64 (x * z)) (zr X rk y (pc + 1) loc (zm_L (x * z) :: r) h)) (zr X rk y pc loc (zm_L z :: zm_L x :: r) h) := by
  intro r e
  obtain ⟨hp, e⟩ := zm_ck_some e
  rw [zr_go (zr_step hd (by first | exact Or.inr rfl | exact Or.inl rfl) rfl (by simp only [zm_si, zm_go, zm_fl, zm_g2, zm_ck_t hp, Option.bind_some]; rfl))]; exact e
theorem r_ldiv {z x : Int} (hd : decode (zm_code y) pc = .ok (.ldiv, 1)) : zl (zm_ck (z ≠ 0 ∧ zm_i64 (x.tdiv z)) (zr X rk y (pc + 1) loc (zm_L (x.tdiv z) :: r) h)) (zr X rk y pc loc (zm_L z :: zm_L x :: r) h) := by
  intro r e
  obtain ⟨hp, e⟩ := zm_ck_some e
  rw [zr_go (zr_step hd (by first | exact Or.inr rfl | exact Or.inl rfl) rfl (by simp only [zm_si, zm_go, zm_fl, zm_g2, zm_ck_t hp, Option.bind_some]; rfl))]; exact e
theorem r_lrem {z x : Int} (hd : decode (zm_code y) pc = .ok (.lrem, 1)) : zl (zm_ck (z ≠ 0 ∧ zm_i64 (x.tdiv z) ∧ zm_i64 (x.tmod z)) (zr X rk y (pc + 1) loc (zm_L (x.tmod z) :: r) h)) (zr X rk y pc loc (zm_L z :: zm_L x :: r) h) := by
  intro r e
  obtain ⟨hp, e⟩ := zm_ck_some e
  rw [zr_go (zr_step hd (by first | exact Or.inr rfl | exact Or.inl rfl) rfl (by simp only [zm_si, zm_go, zm_fl, zm_g2, zm_ck_t hp, Option.bind_some]; rfl))]; exact e
def zb_land (x z : Int) : Int := (Int64.ofInt x &&& Int64.ofInt z).toInt
theorem r_land {z x : Int} (hd : decode (zm_code y) pc = .ok (.land, 1)) : zl (zr X rk y (pc + 1) loc (zm_L (zb_land x z) :: r) h) (zr X rk y pc loc (zm_L z :: zm_L x :: r) h) := by
  rw [zr_go (zr_step hd (by first | exact Or.inr rfl | exact Or.inl rfl) rfl (by simp only [zm_si, zm_go, zm_fl, zm_g2, Option.bind_some, zb_land]; rfl))]; exact zl_rf
def zb_lor (x z : Int) : Int := (Int64.ofInt x ||| Int64.ofInt z).toInt
theorem r_lor {z x : Int} (hd : decode (zm_code y) pc = .ok (.lor, 1)) : zl (zr X rk y (pc + 1) loc (zm_L (zb_lor x z) :: r) h) (zr X rk y pc loc (zm_L z :: zm_L x :: r) h) := by
  rw [zr_go (zr_step hd (by first | exact Or.inr rfl | exact Or.inl rfl) rfl (by simp only [zm_si, zm_go, zm_fl, zm_g2, Option.bind_some, zb_lor]; rfl))]; exact zl_rf
def zb_lshl (x z : Int) : Int := (Int64.ofInt x <<< ((Int32.ofInt z).toInt64 &&& 63)).toInt
theorem r_lshl {z x : Int} (hd : decode (zm_code y) pc = .ok (.lshl, 1)) : zl (zr X rk y (pc + 1) loc (zm_L (zb_lshl x z) :: r) h) (zr X rk y pc loc (zm_I z :: zm_L x :: r) h) := by
  rw [zr_go (zr_step hd (by first | exact Or.inr rfl | exact Or.inl rfl) rfl (by simp only [zm_si, zm_go, zm_fl, zm_s2, Option.bind_some, zb_lshl]; rfl))]; exact zl_rf
def zb_lshr (x z : Int) : Int := (Int64.ofInt x >>> ((Int32.ofInt z).toInt64 &&& 63)).toInt
theorem r_lshr {z x : Int} (hd : decode (zm_code y) pc = .ok (.lshr, 1)) : zl (zr X rk y (pc + 1) loc (zm_L (zb_lshr x z) :: r) h) (zr X rk y pc loc (zm_I z :: zm_L x :: r) h) := by
  rw [zr_go (zr_step hd (by first | exact Or.inr rfl | exact Or.inl rfl) rfl (by simp only [zm_si, zm_go, zm_fl, zm_s2, Option.bind_some, zb_lshr]; rfl))]; exact zl_rf
theorem r_icmp_eq {z x : Int} {off : Int} {tgt : Nat} (hd : decode (zm_code y) pc = .ok (.if_icmp .eq off, 3)) (ht : (pc : Int) + off = (tgt : Int)) : zl (if x = z then (zr X rk y tgt loc r h) else (zr X rk y (pc + 3) loc r h)) (zr X rk y pc loc (zm_I z :: zm_I x :: r) h) := by
  have h0 : 0 ≤ (pc : Int) + off := by omega
  have h1 : ((pc : Int) + off).toNat = tgt := by omega
  by_cases hc : x = z
  · rw [zr_go (zr_step hd (Or.inr rfl) rfl (by simp only [zm_si, zm_go, zm_fl, zm_cmp, zm_ck_t h0, h1, decide_eq_true hc, if_true]; rfl))]
    rw [if_pos hc]; exact zl_rf
  · rw [zr_go (zr_step hd (Or.inr rfl) rfl (by simp only [zm_si, zm_go, zm_fl, zm_cmp, zm_ck_t h0, decide_eq_false hc, Bool.false_eq_true, if_false]; rfl))]
    rw [if_neg hc]; exact zl_rf
theorem r_if_eq {x : Int} {off : Int} {tgt : Nat} (hd : decode (zm_code y) pc = .ok (.ifCond .eq off, 3)) (ht : (pc : Int) + off = (tgt : Int)) : zl (if x = 0 then (zr X rk y tgt loc r h) else (zr X rk y (pc + 3) loc r h)) (zr X rk y pc loc (zm_I x :: r) h) := by
  have h0 : 0 ≤ (pc : Int) + off := by omega
  have h1 : ((pc : Int) + off).toNat = tgt := by omega
  by_cases hc : x = 0
  · rw [zr_go (zr_step hd (Or.inr rfl) rfl (by simp only [zm_si, zm_go, zm_fl, zm_cmp, zm_ck_t h0, h1, decide_eq_true hc, if_true]; rfl))]
    rw [if_pos hc]; exact zl_rf
  · rw [zr_go (zr_step hd (Or.inr rfl) rfl (by simp only [zm_si, zm_go, zm_fl, zm_cmp, zm_ck_t h0, decide_eq_false hc, Bool.false_eq_true, if_false]; rfl))]
    rw [if_neg hc]; exact zl_rf
theorem r_icmp_ne {z x : Int} {off : Int} {tgt : Nat} (hd : decode (zm_code y) pc = .ok (.if_icmp .ne off, 3)) (ht : (pc : Int) + off = (tgt : Int)) : zl (if x = z then (zr X rk y (pc + 3) loc r h) else (zr X rk y tgt loc r h)) (zr X rk y pc loc (zm_I z :: zm_I x :: r) h) := by
  have h0 : 0 ≤ (pc : Int) + off := by omega
  have h1 : ((pc : Int) + off).toNat = tgt := by omega
  by_cases hc : ¬ x = z
  · rw [zr_go (zr_step hd (Or.inr rfl) rfl (by simp only [zm_si, zm_go, zm_fl, zm_cmp, zm_ck_t h0, h1, decide_eq_true hc, if_true]; rfl))]
    rw [if_neg hc]; exact zl_rf
  · rw [zr_go (zr_step hd (Or.inr rfl) rfl (by simp only [zm_si, zm_go, zm_fl, zm_cmp, zm_ck_t h0, decide_eq_false hc, Bool.false_eq_true, if_false]; rfl))]
    rw [if_pos (Classical.not_not.mp hc)]; exact zl_rf
theorem r_if_ne {x : Int} {off : Int} {tgt : Nat} (hd : decode (zm_code y) pc = .ok (.ifCond .ne off, 3)) (ht : (pc : Int) + off = (tgt : Int)) : zl (if x = 0 then (zr X rk y (pc + 3) loc r h) else (zr X rk y tgt loc r h)) (zr X rk y pc loc (zm_I x :: r) h) := by
  have h0 : 0 ≤ (pc : Int) + off := by omega
  have h1 : ((pc : Int) + off).toNat = tgt := by omega
  by_cases hc : ¬ x = 0
  · rw [zr_go (zr_step hd (Or.inr rfl) rfl (by simp only [zm_si, zm_go, zm_fl, zm_cmp, zm_ck_t h0, h1, decide_eq_true hc, if_true]; rfl))]
    rw [if_neg hc]; exact zl_rf
  · rw [zr_go (zr_step hd (Or.inr rfl) rfl (by simp only [zm_si, zm_go, zm_fl, zm_cmp, zm_ck_t h0, decide_eq_false hc, Bool.false_eq_true, if_false]; rfl))]
    rw [if_pos (Classical.not_not.mp hc)]; exact zl_rf
theorem r_icmp_lt {z x : Int} {off : Int} {tgt : Nat} (hd : decode (zm_code y) pc = .ok (.if_icmp .lt off, 3)) (ht : (pc : Int) + off = (tgt : Int)) : zl (if x < z then (zr X rk y tgt loc r h) else (zr X rk y (pc + 3) loc r h)) (zr X rk y pc loc (zm_I z :: zm_I x :: r) h) := by
  have h0 : 0 ≤ (pc : Int) + off := by omega
  have h1 : ((pc : Int) + off).toNat = tgt := by omega
  by_cases hc : x < z
  · rw [zr_go (zr_step hd (Or.inr rfl) rfl (by simp only [zm_si, zm_go, zm_fl, zm_cmp, zm_ck_t h0, h1, decide_eq_true hc, if_true]; rfl))]
    rw [if_pos hc]; exact zl_rf
  · rw [zr_go (zr_step hd (Or.inr rfl) rfl (by simp only [zm_si, zm_go, zm_fl, zm_cmp, zm_ck_t h0, decide_eq_false hc, Bool.false_eq_true, if_false]; rfl))]
    rw [if_neg hc]; exact zl_rf
theorem r_if_lt {x : Int} {off : Int} {tgt : Nat} (hd : decode (zm_code y) pc = .ok (.ifCond .lt off, 3)) (ht : (pc : Int) + off = (tgt : Int)) : zl (if x < 0 then (zr X rk y tgt loc r h) else (zr X rk y (pc + 3) loc r h)) (zr X rk y pc loc (zm_I x :: r) h) := by
  have h0 : 0 ≤ (pc : Int) + off := by omega
  have h1 : ((pc : Int) + off).toNat = tgt := by omega
  by_cases hc : x < 0
  · rw [zr_go (zr_step hd (Or.inr rfl) rfl (by simp only [zm_si, zm_go, zm_fl, zm_cmp, zm_ck_t h0, h1, decide_eq_true hc, if_true]; rfl))]
    rw [if_pos hc]; exact zl_rf
  · rw [zr_go (zr_step hd (Or.inr rfl) rfl (by simp only [zm_si, zm_go, zm_fl, zm_cmp, zm_ck_t h0, decide_eq_false hc, Bool.false_eq_true, if_false]; rfl))]
    rw [if_neg hc]; exact zl_rf
theorem r_icmp_ge {z x : Int} {off : Int} {tgt : Nat} (hd : decode (zm_code y) pc = .ok (.if_icmp .ge off, 3)) (ht : (pc : Int) + off = (tgt : Int)) : zl (if x < z then (zr X rk y (pc + 3) loc r h) else (zr X rk y tgt loc r h)) (zr X rk y pc loc (zm_I z :: zm_I x :: r) h) := by
  have h0 : 0 ≤ (pc : Int) + off := by omega
  have h1 : ((pc : Int) + off).toNat = tgt := by omega
  by_cases hc : z ≤ x
  · rw [zr_go (zr_step hd (Or.inr rfl) rfl (by simp only [zm_si, zm_go, zm_fl, zm_cmp, zm_ck_t h0, h1, decide_eq_true hc, if_true]; rfl))]
    rw [if_neg (Int.not_lt.mpr hc)]; exact zl_rf
  · rw [zr_go (zr_step hd (Or.inr rfl) rfl (by simp only [zm_si, zm_go, zm_fl, zm_cmp, zm_ck_t h0, decide_eq_false hc, Bool.false_eq_true, if_false]; rfl))]
    rw [if_pos (Int.not_le.mp hc)]; exact zl_rf
theorem r_if_ge {x : Int} {off : Int} {tgt : Nat} (hd : decode (zm_code y) pc = .ok (.ifCond .ge off, 3)) (ht : (pc : Int) + off = (tgt : Int)) : zl (if x < 0 then (zr X rk y (pc + 3) loc r h) else (zr X rk y tgt loc r h)) (zr X rk y pc loc (zm_I x :: r) h) := by
  have h0 : 0 ≤ (pc : Int) + off := by omega
  have h1 : ((pc : Int) + off).toNat = tgt := by omega
  by_cases hc : 0 ≤ x
  · rw [zr_go (zr_step hd (Or.inr rfl) rfl (by simp only [zm_si, zm_go, zm_fl, zm_cmp, zm_ck_t h0, h1, decide_eq_true hc, if_true]; rfl))]
    rw [if_neg (Int.not_lt.mpr hc)]; exact zl_rf
  · rw [zr_go (zr_step hd (Or.inr rfl) rfl (by simp only [zm_si, zm_go, zm_fl, zm_cmp, zm_ck_t h0, decide_eq_false hc, Bool.false_eq_true, if_false]; rfl))]
    rw [if_pos (Int.not_le.mp hc)]; exact zl_rf
theorem r_icmp_gt {z x : Int} {off : Int} {tgt : Nat} (hd : decode (zm_code y) pc = .ok (.if_icmp .gt off, 3)) (ht : (pc : Int) + off = (tgt : Int)) : zl (if z < x then (zr X rk y tgt loc r h) else (zr X rk y (pc + 3) loc r h)) (zr X rk y pc loc (zm_I z :: zm_I x :: r) h) := by
  have h0 : 0 ≤ (pc : Int) + off := by omega
  have h1 : ((pc : Int) + off).toNat = tgt := by omega
  by_cases hc : z < x
  · rw [zr_go (zr_step hd (Or.inr rfl) rfl (by simp only [zm_si, zm_go, zm_fl, zm_cmp, zm_ck_t h0, h1, decide_eq_true hc, if_true]; rfl))]
    rw [if_pos hc]; exact zl_rf
  · rw [zr_go (zr_step hd (Or.inr rfl) rfl (by simp only [zm_si, zm_go, zm_fl, zm_cmp, zm_ck_t h0, decide_eq_false hc, Bool.false_eq_true, if_false]; rfl))]
    rw [if_neg hc]; exact zl_rf
theorem r_if_gt {x : Int} {off : Int} {tgt : Nat} (hd : decode (zm_code y) pc = .ok (.ifCond .gt off, 3)) (ht : (pc : Int) + off = (tgt : Int)) : zl (if 0 < x then (zr X rk y tgt loc r h) else (zr X rk y (pc + 3) loc r h)) (zr X rk y pc loc (zm_I x :: r) h) := by
  have h0 : 0 ≤ (pc : Int) + off := by omega
  have h1 : ((pc : Int) + off).toNat = tgt := by omega
  by_cases hc : 0 < x
  · rw [zr_go (zr_step hd (Or.inr rfl) rfl (by simp only [zm_si, zm_go, zm_fl, zm_cmp, zm_ck_t h0, h1, decide_eq_true hc, if_true]; rfl))]
    rw [if_pos hc]; exact zl_rf
  · rw [zr_go (zr_step hd (Or.inr rfl) rfl (by simp only [zm_si, zm_go, zm_fl, zm_cmp, zm_ck_t h0, decide_eq_false hc, Bool.false_eq_true, if_false]; rfl))]
    rw [if_neg hc]; exact zl_rf
theorem r_icmp_le {z x : Int} {off : Int} {tgt : Nat} (hd : decode (zm_code y) pc = .ok (.if_icmp .le off, 3)) (ht : (pc : Int) + off = (tgt : Int)) : zl (if x ≤ z then (zr X rk y tgt loc r h) else (zr X rk y (pc + 3) loc r h)) (zr X rk y pc loc (zm_I z :: zm_I x :: r) h) := by
  have h0 : 0 ≤ (pc : Int) + off := by omega
  have h1 : ((pc : Int) + off).toNat = tgt := by omega
  by_cases hc : x ≤ z
  · rw [zr_go (zr_step hd (Or.inr rfl) rfl (by simp only [zm_si, zm_go, zm_fl, zm_cmp, zm_ck_t h0, h1, decide_eq_true hc, if_true]; rfl))]
    rw [if_pos hc]; exact zl_rf
  · rw [zr_go (zr_step hd (Or.inr rfl) rfl (by simp only [zm_si, zm_go, zm_fl, zm_cmp, zm_ck_t h0, decide_eq_false hc, Bool.false_eq_true, if_false]; rfl))]
    rw [if_neg hc]; exact zl_rf
theorem r_if_le {x : Int} {off : Int} {tgt : Nat} (hd : decode (zm_code y) pc = .ok (.ifCond .le off, 3)) (ht : (pc : Int) + off = (tgt : Int)) : zl (if x ≤ 0 then (zr X rk y tgt loc r h) else (zr X rk y (pc + 3) loc r h)) (zr X rk y pc loc (zm_I x :: r) h) := by
  have h0 : 0 ≤ (pc : Int) + off := by omega
  have h1 : ((pc : Int) + off).toNat = tgt := by omega
  by_cases hc : x ≤ 0
  · rw [zr_go (zr_step hd (Or.inr rfl) rfl (by simp only [zm_si, zm_go, zm_fl, zm_cmp, zm_ck_t h0, h1, decide_eq_true hc, if_true]; rfl))]
    rw [if_pos hc]; exact zl_rf
  · rw [zr_go (zr_step hd (Or.inr rfl) rfl (by simp only [zm_si, zm_go, zm_fl, zm_cmp, zm_ck_t h0, decide_eq_false hc, Bool.false_eq_true, if_false]; rfl))]
    rw [if_neg hc]; exact zl_rf
theorem r_goto {off : Int} {tgt : Nat} (hd : decode (zm_code y) pc = .ok (.goto off, 3)) (ht : (pc : Int) + off = (tgt : Int)) : zl (zr X rk y tgt loc r h) (zr X rk y pc loc r h) := by
  have h0 : 0 ≤ (pc : Int) + off := by omega
  have h1 : ((pc : Int) + off).toNat = tgt := by omega
  rw [zr_go (zr_step hd (Or.inr rfl) rfl (by simp only [zm_si, zm_go, zm_fl, zm_jmp, zm_ck_t h0, h1]; rfl))]; exact zl_rf
/-- a switch: by its places -/
theorem r_tsw {d lo hi x : Int} {offs : Array Int} {len : Nat} (hd : decode (zm_code y) pc = .ok (.tableswitch d lo hi offs, len)) {tgt : Nat} (ht : (if x < lo ∨ hi < x then (pc : Int) + d else (pc : Int) + offs.getD (x - lo).toNat 0) = tgt) (hs : hi - lo < offs.size) : zl (zr X rk y tgt loc r h) (zr X rk y pc loc (zm_I x :: r) h) := by
  by_cases hc : x < lo ∨ hi < x
  · rw [if_pos hc] at ht
    have h0 : 0 ≤ (pc : Int) + d := by omega
    have h1 : ((pc : Int) + d).toNat = tgt := by omega
    rw [zr_go (zr_step hd (Or.inl rfl) rfl (by simp only [zm_si, zm_go, zm_fl, zm_jmp, if_pos hc, zm_ck_t h0, h1]; rfl))]; exact zl_rf
  · rw [if_neg hc] at ht
    have hl : (x - lo).toNat < offs.size := by omega
    have h2 : offs[(x - lo).toNat]? = some (offs.getD (x - lo).toNat 0) := by simp [Array.getD, hl]
    have h0 : 0 ≤ (pc : Int) + offs.getD (x - lo).toNat 0 := by omega
    have h1 : ((pc : Int) + offs.getD (x - lo).toNat 0).toNat = tgt := by omega
    rw [zr_go (zr_step hd (Or.inl rfl) rfl (by simp only [zm_si, zm_go, zm_fl, zm_jmp, if_neg hc, h2, zm_ck_t h0, h1]; rfl))]; exact zl_rf
theorem r_lsw {d x : Int} {ps : Array (Int × Int)} {len : Nat} (hd : decode (zm_code y) pc = .ok (.lookupswitch d ps, len)) {tgt : Nat} (hp : (ps.toList.zip (ps.toList.drop 1)).all (fun (a, next) => a.1 < next.1) = true) (ht : (pc : Int) + Op.lookupswitch.offset ps.toList d x = tgt) : zl (zr X rk y tgt loc r h) (zr X rk y pc loc (zm_I x :: r) h) := by
  have h0 : 0 ≤ (pc : Int) + Op.lookupswitch.offset ps.toList d x := by omega
  have h1 : ((pc : Int) + Op.lookupswitch.offset ps.toList d x).toNat = tgt := by omega
  rw [zr_go (zr_step hd (Or.inl rfl) rfl (by simp only [zm_si, zm_go, zm_fl, zm_jmp, zm_ck_t hp, zm_ck_t h0, h1]; rfl))]; exact zl_rf
theorem zl_eq {x : Int} (k : Int) {A B : Option (zm_V × zm_H)} {c : Option (zm_V × zm_H)} (h1 : x = k → zl A c) (h2 : x ≠ k → zl B c) : zl (if x = k then A else B) c := by
  by_cases hx : x = k
  · rw [if_pos hx]; exact h1 hx
  · rw [if_neg hx]; exact h2 hx
/-- fields: an object o of class c, slot k -/
theorem r_getI {ix own c k p o : Nat} (hd : decode (zm_code y) pc = .ok (.getfield ix, 3)) (ho : zm_own y = own) (hf : zm_fld own ix = some (c, k, p)) (hc : zm_lay o = .inl c ∧ 3 < o ∧ o < zm_NX) (ht : zm_ft c k = 0 ∨ zm_ft c k = 1) {kk : Int} (hk : (k : Int) = kk) : zl (zr X rk y (pc + 3) loc (zm_I (h o kk) :: r) h) (zr X rk y pc loc (zm_A o :: r) h) := by
  subst hk
  rcases ht with ht | ht
  · rw [zr_go (zr_step hd (Or.inr rfl) rfl (by simp only [zm_si, zm_go, zm_fl, ho, hf, zm_ck_t hc, zm_rdf, ht, Option.bind_some]; rfl))]; exact zl_rf
  · rw [zr_go (zr_step hd (Or.inr rfl) rfl (by simp only [zm_si, zm_go, zm_fl, ho, hf, zm_ck_t hc, zm_rdf, ht, Option.bind_some]; rfl))]; exact zl_rf
theorem r_getL {ix own c k p o : Nat} (hd : decode (zm_code y) pc = .ok (.getfield ix, 3)) (ho : zm_own y = own) (hf : zm_fld own ix = some (c, k, p)) (hc : zm_lay o = .inl c ∧ 3 < o ∧ o < zm_NX) (ht : zm_ft c k = 2) {kk : Int} (hk : (k : Int) = kk) : zl (zr X rk y (pc + 3) loc (zm_L (h o kk) :: r) h) (zr X rk y pc loc (zm_A o :: r) h) := by
  subst hk
  rw [zr_go (zr_step hd (Or.inr rfl) rfl (by simp only [zm_si, zm_go, zm_fl, ho, hf, zm_ck_t hc, zm_rdf, ht, Option.bind_some]; rfl))]; exact zl_rf
theorem r_getR {ix own c k p o b : Nat} (hd : decode (zm_code y) pc = .ok (.getfield ix, 3)) (ho : zm_own y = own) (hf : zm_fld own ix = some (c, k, p)) (hc : zm_lay o = .inl c ∧ 3 < o ∧ o < zm_NX) (ht : zm_ft c k = 3) (hb : zm_fr o k = b) : zl (zr X rk y (pc + 3) loc (zm_A b :: r) h) (zr X rk y pc loc (zm_A o :: r) h) := by
  subst hb
  rw [zr_go (zr_step hd (Or.inr rfl) rfl (by simp only [zm_si, zm_go, zm_fl, ho, hf, zm_ck_t hc, zm_rdf, ht, zm_ck_t (Or.inl rfl), Option.bind_some]; rfl))]; exact zl_rf
/-- a reference that changes: what it is must be said -/
theorem r_getN {ix own c k p o b : Nat} (hd : decode (zm_code y) pc = .ok (.getfield ix, 3)) (ho : zm_own y = own) (hf : zm_fld own ix = some (c, k, p)) (hc : zm_lay o = .inl c ∧ 3 < o ∧ o < zm_NX) (ht : zm_ft c k = 4) (hb : 3 < b) {kk : Int} (hk : (k : Int) = kk) : zl (zm_ck (h o kk = (b : Int)) (zr X rk y (pc + 3) loc (zm_A b :: r) h)) (zr X rk y pc loc (zm_A o :: r) h) := by
  subst hk
  intro r' e
  obtain ⟨hp, e⟩ := zm_ck_some e
  have h3 : (3 : Int) < h o k := by omega
  have h4 : (h o k).toNat = b := by omega
  rw [zr_go (zr_step hd (Or.inr rfl) rfl (by simp only [zm_si, zm_go, zm_fl, ho, hf, zm_ck_t hc, zm_rdf, ht, zm_ck_t h3, h4, Option.bind_some]; rfl))]; exact e
theorem r_putI {ix own c k p o : Nat} {z : Int} (hd : decode (zm_code y) pc = .ok (.putfield ix, 3)) (ho : zm_own y = own) (hf : zm_fld own ix = some (c, k, p)) (hc : zm_lay o = .inl c ∧ 3 < o ∧ o < zm_NX) (ht : zm_ft c k = 0) {kk : Int} (hk : (k : Int) = kk) : zl (zr X rk y (pc + 3) loc r (zm_wr h o kk z)) (zr X rk y pc loc (zm_I z :: zm_A o :: r) h) := by
  subst hk
  rw [zr_go (zr_step hd (Or.inr rfl) rfl (by simp only [zm_si, zm_go, zm_fl, ho, hf, zm_ck_t hc, zm_wrf, ht, Option.bind_some]; rfl))]; exact zl_rf
theorem r_putZ {ix own c k p o : Nat} {z : Int} (hd : decode (zm_code y) pc = .ok (.putfield ix, 3)) (ho : zm_own y = own) (hf : zm_fld own ix = some (c, k, p)) (hc : zm_lay o = .inl c ∧ 3 < o ∧ o < zm_NX) (ht : zm_ft c k = 1) {kk : Int} (hk : (k : Int) = kk) : zl (zm_ck (zm_bit z) (zr X rk y (pc + 3) loc r (zm_wr h o kk z))) (zr X rk y pc loc (zm_I z :: zm_A o :: r) h) := by
  subst hk
  intro r' e
  obtain ⟨hp, e⟩ := zm_ck_some e
  rw [zr_go (zr_step hd (Or.inr rfl) rfl (by simp only [zm_si, zm_go, zm_fl, ho, hf, zm_ck_t hc, zm_wrf, ht, zm_ck_t hp, Option.bind_some]; rfl))]; exact e
theorem r_putL {ix own c k p o : Nat} {z : Int} (hd : decode (zm_code y) pc = .ok (.putfield ix, 3)) (ho : zm_own y = own) (hf : zm_fld own ix = some (c, k, p)) (hc : zm_lay o = .inl c ∧ 3 < o ∧ o < zm_NX) (ht : zm_ft c k = 2) {kk : Int} (hk : (k : Int) = kk) : zl (zr X rk y (pc + 3) loc r (zm_wr h o kk z)) (zr X rk y pc loc (zm_L z :: zm_A o :: r) h) := by
  subst hk
  rw [zr_go (zr_step hd (Or.inr rfl) rfl (by simp only [zm_si, zm_go, zm_fl, ho, hf, zm_ck_t hc, zm_wrf, ht, Option.bind_some]; rfl))]; exact zl_rf
theorem r_putN {ix own c k p o b : Nat} (hd : decode (zm_code y) pc = .ok (.putfield ix, 3)) (ho : zm_own y = own) (hf : zm_fld own ix = some (c, k, p)) (hc : zm_lay o = .inl c ∧ 3 < o ∧ o < zm_NX) (ht : zm_ft c k = 4) (hb : 3 < b ∧ b < zm_NX) {kk : Int} (hk : (k : Int) = kk) : zl (zr X rk y (pc + 3) loc r (zm_wr h o kk b)) (zr X rk y pc loc (zm_A b :: zm_A o :: r) h) := by
  subst hk
  rw [zr_go (zr_step hd (Or.inr rfl) rfl (by simp only [zm_si, zm_go, zm_fl, ho, hf, zm_ck_t hc, zm_wrf, ht, zm_ck_t hb, Option.bind_some]; rfl))]; exact zl_rf
theorem r_getstatic (hd : decode (zm_code y) pc = .ok (.getstatic 330, 3)) (ho : zm_own y = 0) : zl (zr X rk y (pc + 3) loc (zm_A 1 :: r) h) (zr X rk y pc loc r h) := by
  rw [zr_go (zr_step hd (Or.inr rfl) rfl (by simp only [zm_si, zm_go, zm_fl, ho, zm_ck_t (And.intro (rfl : 0 = 0) (rfl : 330 = 330))]; rfl))]; exact zl_rf
/-- arrays: n places -/
theorem r_iaload {a n : Nat} {i : Int} (hd : decode (zm_code y) pc = .ok (.iaload, 1)) (hl : zm_lay a = .inr (0, n) ∧ 3 < a ∧ a < zm_NX) : zl (zm_ck (0 ≤ i ∧ i < n) (zr X rk y (pc + 1) loc (zm_I (h a i) :: r) h)) (zr X rk y pc loc (zm_I i :: zm_A a :: r) h) := by
  intro r' e
  obtain ⟨hp, e⟩ := zm_ck_some e
  have h1 : ¬ a = 1 := by omega
  have h3 : ¬ a = 3 := by omega
  rw [zr_go (zr_step hd (Or.inr rfl) rfl (by simp only [zm_si, zm_go, zm_fl, zm_ald, if_neg h1, if_neg h3, hl.1, zm_ck_t (And.intro hl.2.1 (And.intro hl.2.2 hp)), Option.bind_some]; rfl))]; exact e
theorem r_iaload1 {i : Int} (hd : decode (zm_code y) pc = .ok (.iaload, 1)) : zl (zm_ck (0 ≤ i ∧ i < 5) (zr X rk y (pc + 1) loc (zm_I i :: r) h)) (zr X rk y pc loc (zm_I i :: zm_A 1 :: r) h) := by
  intro r' e
  obtain ⟨hp, e⟩ := zm_ck_some e
  rw [zr_go (zr_step hd (Or.inr rfl) rfl (by simp only [zm_si, zm_go, zm_fl, zm_ald, if_true, zm_ck_t hp, Option.bind_some]; rfl))]; exact e
theorem r_iaload3 {i : Int} {n : Nat} {xs : Int → Int} (hd : decode (zm_code y) pc = .ok (.iaload, 1)) : zl (zm_ck (0 ≤ i ∧ i < n) (zr (some (n, xs)) rk y (pc + 1) loc (zm_I (xs i) :: r) h)) (zr (some (n, xs)) rk y pc loc (zm_I i :: zm_A 3 :: r) h) := by
  intro r' e
  obtain ⟨hp, e⟩ := zm_ck_some e
  rw [zr_go (zr_step hd (Or.inr rfl) rfl (by simp only [zm_si, zm_go, zm_fl, zm_ald, if_neg (show ¬ 3 = 1 by decide), if_true, zm_ck_t hp, Option.bind_some]; rfl))]; exact e
theorem zr_okb {t a n : Nat} {i : Int} (hl : zm_lay a = .inr (t, n) ∧ 3 < a ∧ a < zm_NX) (hp : 0 ≤ i ∧ i < n) : zm_okb t a i zm_NX = true := by
  unfold zm_okb
  rw [hl.1]
  exact decide_eq_true ⟨rfl, hl.2.1, hl.2.2, hp.1, hp.2⟩
theorem r_laload {a n : Nat} {i : Int} (hd : decode (zm_code y) pc = .ok (.laload, 1)) (hl : zm_lay a = .inr (1, n) ∧ 3 < a ∧ a < zm_NX) : zl (zm_ck (0 ≤ i ∧ i < n) (zr X rk y (pc + 1) loc (zm_L (h a i) :: r) h)) (zr X rk y pc loc (zm_I i :: zm_A a :: r) h) := by
  intro r' e
  obtain ⟨hp, e⟩ := zm_ck_some e
  rw [zr_go (zr_step hd (Or.inr rfl) rfl (by simp only [zm_si, zm_go, zm_fl, zm_ck_t (zr_okb hl hp)]; rfl))]; exact e
theorem r_baload {a n : Nat} {i : Int} (hd : decode (zm_code y) pc = .ok (.baload, 1)) (hl : zm_lay a = .inr (2, n) ∧ 3 < a ∧ a < zm_NX) : zl (zm_ck (0 ≤ i ∧ i < n) (zr X rk y (pc + 1) loc (zm_I (h a i) :: r) h)) (zr X rk y pc loc (zm_I i :: zm_A a :: r) h) := by
  intro r' e
  obtain ⟨hp, e⟩ := zm_ck_some e
  rw [zr_go (zr_step hd (Or.inr rfl) rfl (by simp only [zm_si, zm_go, zm_fl, zm_ck_t (zr_okb hl hp)]; rfl))]; exact e
theorem r_aaload {a n b : Nat} {i : Int} (hd : decode (zm_code y) pc = .ok (.aaload, 1)) (hl : zm_lay a = .inr (3, n) ∧ 3 < a ∧ a < zm_NX) : zl (zm_ck ((0 ≤ i ∧ i < n) ∧ zm_fr a i.toNat = b) (zr X rk y (pc + 1) loc (zm_A b :: r) h)) (zr X rk y pc loc (zm_I i :: zm_A a :: r) h) := by
  intro r' e
  obtain ⟨⟨hp, hb⟩, e⟩ := zm_ck_some e
  subst hb
  rw [zr_go (zr_step hd (Or.inr rfl) rfl (by simp only [zm_si, zm_go, zm_fl, zm_ck_t (And.intro (zr_okb hl hp) (Or.inl trivial : True ∨ h a i ≠ 0))]; rfl))]; exact e
theorem r_iastore {a n : Nat} {i z : Int} (hd : decode (zm_code y) pc = .ok (.iastore, 1)) (hl : zm_lay a = .inr (0, n) ∧ 3 < a ∧ a < zm_NX) : zl (zm_ck (0 ≤ i ∧ i < n) (zr X rk y (pc + 1) loc r (zm_wr h a i z))) (zr X rk y pc loc (zm_I z :: zm_I i :: zm_A a :: r) h) := by
  intro r' e
  obtain ⟨hp, e⟩ := zm_ck_some e
  rw [zr_go (zr_step hd (Or.inr rfl) rfl (by simp only [zm_si, zm_go, zm_fl, zm_ck_t (zr_okb hl hp)]; rfl))]; exact e
theorem r_lastore {a n : Nat} {i z : Int} (hd : decode (zm_code y) pc = .ok (.lastore, 1)) (hl : zm_lay a = .inr (1, n) ∧ 3 < a ∧ a < zm_NX) : zl (zm_ck (0 ≤ i ∧ i < n) (zr X rk y (pc + 1) loc r (zm_wr h a i z))) (zr X rk y pc loc (zm_L z :: zm_I i :: zm_A a :: r) h) := by
  intro r' e
  obtain ⟨hp, e⟩ := zm_ck_some e
  rw [zr_go (zr_step hd (Or.inr rfl) rfl (by simp only [zm_si, zm_go, zm_fl, zm_ck_t (zr_okb hl hp)]; rfl))]; exact e
theorem r_bastore {a n : Nat} {i z : Int} (hd : decode (zm_code y) pc = .ok (.bastore, 1)) (hl : zm_lay a = .inr (2, n) ∧ 3 < a ∧ a < zm_NX) : zl (zm_ck ((0 ≤ i ∧ i < n) ∧ zm_bit z) (zr X rk y (pc + 1) loc r (zm_wr h a i z))) (zr X rk y pc loc (zm_I z :: zm_I i :: zm_A a :: r) h) := by
  intro r' e
  obtain ⟨⟨hp, hz⟩, e⟩ := zm_ck_some e
  rw [zr_go (zr_step hd (Or.inr rfl) rfl (by simp only [zm_si, zm_go, zm_fl, zm_ck_t (And.intro (zr_okb hl hp) hz)]; rfl))]; exact e
theorem r_alen {a t n : Nat} (hd : decode (zm_code y) pc = .ok (.arraylength, 1)) (hl : zm_lay a = .inr (t, n) ∧ 3 < a ∧ a < zm_NX) (ht : t ≤ 3) {nn : Int} (hn : (n : Int) = nn) : zl (zr X rk y (pc + 1) loc (zm_I nn :: r) h) (zr X rk y pc loc (zm_A a :: r) h) := by
  subst hn
  have h3 : ¬ a = 3 := by omega
  rw [zr_go (zr_step hd (Or.inr rfl) rfl (by simp only [zm_si, zm_go, zm_fl, if_neg h3, hl.1, zm_ck_t (And.intro ht hl.2)]; rfl))]; exact zl_rf
theorem r_alen3 {n : Nat} {xs : Int → Int} (hd : decode (zm_code y) pc = .ok (.arraylength, 1)) : zl (zr (some (n, xs)) rk y (pc + 1) loc (zm_I n :: r) h) (zr (some (n, xs)) rk y pc loc (zm_A 3 :: r) h) := by
  rw [zr_go (zr_step hd (Or.inr rfl) rfl (by simp only [zm_si, zm_go, zm_fl, if_true]; rfl))]; exact zl_rf
theorem r_iret {z : Int} (hd : decode (zm_code y) pc = .ok (.ireturn, 1)) (ht : zm_ret y = 0) : zl (some (zm_I z, h)) (zr X rk y pc loc [zm_I z] h) := by
  rw [zr_ret (zr_step hd (Or.inr rfl) rfl (by simp only [zm_si, zm_fl, zm_ck_t (Or.inl ht : zm_ret y = 0 ∨ zm_ret y = 1 ∧ zm_bit z), zm_kd, zm_ck_t (rfl : 1 = 1)]; rfl))]; exact zl_rf
theorem r_zret {z : Int} (hd : decode (zm_code y) pc = .ok (.ireturn, 1)) (ht : zm_ret y = 1) : zl (zm_ck (zm_bit z) (some (zm_I z, h))) (zr X rk y pc loc [zm_I z] h) := by
  intro r' e
  obtain ⟨hp, e⟩ := zm_ck_some e
  rw [zr_ret (zr_step hd (Or.inr rfl) rfl (by simp only [zm_si, zm_fl, zm_ck_t (Or.inr (And.intro ht hp) : zm_ret y = 0 ∨ zm_ret y = 1 ∧ zm_bit z), zm_kd, zm_ck_t (rfl : 1 = 1)]; rfl))]; exact e
theorem r_lret {z : Int} (hd : decode (zm_code y) pc = .ok (.lreturn, 1)) (ht : zm_ret y = 2) : zl (some (zm_L z, h)) (zr X rk y pc loc [zm_L z] h) := by
  rw [zr_ret (zr_step hd (Or.inr rfl) rfl (by simp only [zm_si, zm_fl, zm_ck_t ht, zm_kd, zm_ck_t (rfl : 1 = 1)]; rfl))]; exact zl_rf
theorem r_vret (hd : decode (zm_code y) pc = .ok (.return_, 1)) (ht : zm_ret y = 3) : zl (some (zm_U, h)) (zr X rk y pc loc [] h) := by
  rw [zr_ret (zr_step hd (Or.inr rfl) rfl (by simp only [zm_si, zm_fl, zm_ck_t (Or.inl ht : zm_ret y = 3 ∨ zm_ret y = 4), zm_kd, zm_ck_t (rfl : 1 = 1)]; rfl))]; exact zl_rf
/-- calls -/
theorem r_call {i : Instr} {q : Nat} {as stk : List zm_V} (hd : decode (zm_code y) pc = .ok (i, 3)) (hl : zm_len i = some 3) (hk : zm_kd i = 2) (hs : zm_si X true rk y pc loc stk zm_NX h i = some (.inr (.inr (q, as, r)))) (hm : (zm_ini q as).length = zm_mx q) : zr X rk y pc loc stk h = (zc q as h).bind fun u => zr X rk y (pc + 3) loc (zm_push u.1 r) u.2 := by
  refine zr_call (zr_step hd (Or.inr hl) ?_ ?_) hm
  · cases i <;> first | rfl | exact absurd (show (0 : Nat) = 2 from hk) (by decide)
  · rw [hs]
    simp only [zm_fl]
    exact zm_ck_t hk
theorem zr_cl {vir : Bool} {q n : Nat} {as stk : List zm_V} (hna : zm_na q = n) (hst : stk = as.reverse ++ r) (hlen : as.length = n) (hc : zm_cats r ≤ 8) (hrk : zm_rk q as < rk) (hv : vir = true → zm_rcv q as zm_NX = true) : zm_call rk vir q stk zm_NX = some (.inr (.inr (q, as, r))) := by
  unfold zm_call
  have h1 : (stk.take (zm_na q)).reverse = as := by rw [hna, hst, List.take_left' (by simp [hlen]), List.reverse_reverse]
  have h2 : stk.drop (zm_na q) = r := by rw [hna, hst, List.drop_left' (by simp [hlen])]
  rw [h1, h2, zm_ck_t ⟨by rw [hna, hst]; simp; omega, hc, hrk, hv⟩]
theorem zr_siV {own ix q n : Nat} {u : Nat × Nat × Nat × Nat} {as stk : List zm_V} (ho : zm_own y = own) (hq : zm_cal own ix = some (0, q, u)) (hna : zm_na q = n) (hst : stk = as.reverse ++ r) (hlen : as.length = n) (hc : zm_cats r ≤ 8) (hrk : zm_rk q as < rk) (hv : zm_rcv q as zm_NX = true) : zm_si X true rk y pc loc stk zm_NX h (.invokevirtual ix) = some (.inr (.inr (q, as, r))) := by
  simp only [zm_si, ho, hq, zr_cl hna hst hlen hc hrk (fun _ => hv)]
theorem zr_siS {own ix q n kd : Nat} {u : Nat × Nat × Nat × Nat} {as stk : List zm_V} (ho : zm_own y = own) (hq : zm_cal own ix = some (kd, q, u)) (hkd : kd = 1 ∨ kd = 3) (hna : zm_na q = n) (hst : stk = as.reverse ++ r) (hlen : as.length = n) (hc : zm_cats r ≤ 8) (hrk : zm_rk q as < rk) : zm_si X true rk y pc loc stk zm_NX h (.invokestatic ix) = some (.inr (.inr (q, as, r))) := by
  rcases hkd with rfl | rfl <;> simp only [zm_si, ho, hq, zr_cl (vir := false) hna hst hlen hc hrk (fun q => absurd q (by decide))]
theorem zr_kI {q : Nat} {as : List zm_V} (hr : zm_ret q ≤ 1) : (zc q as h).bind (fun u => zr X rk y (pc + 3) loc (zm_push u.1 r) u.2) = zk_I (zc q as h) fun z g => zr X rk y (pc + 3) loc (zm_I z :: r) g := by
  cases hc : zc q as h with
  | none => rfl
  | some b =>
    obtain ⟨v, g⟩ := b
    rcases zc_ty hc with ⟨⟨z, rfl⟩, -⟩ | ⟨⟨z, rfl⟩, h2⟩ | ⟨rfl, h2⟩
    · rfl
    · omega
    · omega
theorem zr_kL {q : Nat} {as : List zm_V} (hr : zm_ret q = 2) : (zc q as h).bind (fun u => zr X rk y (pc + 3) loc (zm_push u.1 r) u.2) = zk_L (zc q as h) fun z g => zr X rk y (pc + 3) loc (zm_L z :: r) g := by
  cases hc : zc q as h with
  | none => rfl
  | some b =>
    obtain ⟨v, g⟩ := b
    rcases zc_ty hc with ⟨⟨z, rfl⟩, h2⟩ | ⟨⟨z, rfl⟩, h2⟩ | ⟨rfl, h2⟩
    · omega
    · rfl
    · omega
theorem zr_kV {q : Nat} {as : List zm_V} (hr : zm_ret q = 3) : (zc q as h).bind (fun u => zr X rk y (pc + 3) loc (zm_push u.1 r) u.2) = zk_V (zc q as h) fun g => zr X rk y (pc + 3) loc r g := by
  cases hc : zc q as h with
  | none => rfl
  | some b =>
    obtain ⟨v, g⟩ := b
    rcases zc_ty hc with ⟨⟨z, rfl⟩, h2⟩ | ⟨⟨z, rfl⟩, h2⟩ | ⟨rfl, h2⟩
    · omega
    · omega
    · rfl
theorem r_VI {own ix q n : Nat} {u : Nat × Nat × Nat × Nat} (as : List zm_V) {stk : List zm_V} (hd : decode (zm_code y) pc = .ok (.invokevirtual ix, 3)) (ho : zm_own y = own) (hq : zm_cal own ix = some (0, q, u)) (hna : zm_na q = n) (hst : stk = as.reverse ++ r) (hlen : as.length = n) (hc : zm_cats r ≤ 8) (hrk : zm_rk q as < rk) (hv : zm_rcv q as zm_NX = true) (hm : (zm_ini q as).length = zm_mx q) (hr : zm_ret q ≤ 1) : zl (zk_I (zc q as h) fun z g => zr X rk y (pc + 3) loc (zm_I z :: r) g) (zr X rk y pc loc stk h) := by
  rw [r_call hd rfl rfl (zr_siV ho hq hna hst hlen hc hrk hv) hm, zr_kI hr]; exact zl_rf
theorem r_SI {own ix q n kd : Nat} {u : Nat × Nat × Nat × Nat} (as : List zm_V) {stk : List zm_V} (hd : decode (zm_code y) pc = .ok (.invokestatic ix, 3)) (ho : zm_own y = own) (hq : zm_cal own ix = some (kd, q, u)) (hkd : kd = 1 ∨ kd = 3) (hna : zm_na q = n) (hst : stk = as.reverse ++ r) (hlen : as.length = n) (hc : zm_cats r ≤ 8) (hrk : zm_rk q as < rk) (hm : (zm_ini q as).length = zm_mx q) (hr : zm_ret q ≤ 1) : zl (zk_I (zc q as h) fun z g => zr X rk y (pc + 3) loc (zm_I z :: r) g) (zr X rk y pc loc stk h) := by
  rw [r_call hd rfl rfl (zr_siS ho hq hkd hna hst hlen hc hrk) hm, zr_kI hr]; exact zl_rf
theorem r_VL {own ix q n : Nat} {u : Nat × Nat × Nat × Nat} (as : List zm_V) {stk : List zm_V} (hd : decode (zm_code y) pc = .ok (.invokevirtual ix, 3)) (ho : zm_own y = own) (hq : zm_cal own ix = some (0, q, u)) (hna : zm_na q = n) (hst : stk = as.reverse ++ r) (hlen : as.length = n) (hc : zm_cats r ≤ 8) (hrk : zm_rk q as < rk) (hv : zm_rcv q as zm_NX = true) (hm : (zm_ini q as).length = zm_mx q) (hr : zm_ret q = 2) : zl (zk_L (zc q as h) fun z g => zr X rk y (pc + 3) loc (zm_L z :: r) g) (zr X rk y pc loc stk h) := by
  rw [r_call hd rfl rfl (zr_siV ho hq hna hst hlen hc hrk hv) hm, zr_kL hr]; exact zl_rf
theorem r_SL {own ix q n kd : Nat} {u : Nat × Nat × Nat × Nat} (as : List zm_V) {stk : List zm_V} (hd : decode (zm_code y) pc = .ok (.invokestatic ix, 3)) (ho : zm_own y = own) (hq : zm_cal own ix = some (kd, q, u)) (hkd : kd = 1 ∨ kd = 3) (hna : zm_na q = n) (hst : stk = as.reverse ++ r) (hlen : as.length = n) (hc : zm_cats r ≤ 8) (hrk : zm_rk q as < rk) (hm : (zm_ini q as).length = zm_mx q) (hr : zm_ret q = 2) : zl (zk_L (zc q as h) fun z g => zr X rk y (pc + 3) loc (zm_L z :: r) g) (zr X rk y pc loc stk h) := by
  rw [r_call hd rfl rfl (zr_siS ho hq hkd hna hst hlen hc hrk) hm, zr_kL hr]; exact zl_rf
theorem r_VV {own ix q n : Nat} {u : Nat × Nat × Nat × Nat} (as : List zm_V) {stk : List zm_V} (hd : decode (zm_code y) pc = .ok (.invokevirtual ix, 3)) (ho : zm_own y = own) (hq : zm_cal own ix = some (0, q, u)) (hna : zm_na q = n) (hst : stk = as.reverse ++ r) (hlen : as.length = n) (hc : zm_cats r ≤ 8) (hrk : zm_rk q as < rk) (hv : zm_rcv q as zm_NX = true) (hm : (zm_ini q as).length = zm_mx q) (hr : zm_ret q = 3) : zl (zk_V (zc q as h) fun g => zr X rk y (pc + 3) loc r g) (zr X rk y pc loc stk h) := by
  rw [r_call hd rfl rfl (zr_siV ho hq hna hst hlen hc hrk hv) hm, zr_kV hr]; exact zl_rf
theorem r_SV {own ix q n kd : Nat} {u : Nat × Nat × Nat × Nat} (as : List zm_V) {stk : List zm_V} (hd : decode (zm_code y) pc = .ok (.invokestatic ix, 3)) (ho : zm_own y = own) (hq : zm_cal own ix = some (kd, q, u)) (hkd : kd = 1 ∨ kd = 3) (hna : zm_na q = n) (hst : stk = as.reverse ++ r) (hlen : as.length = n) (hc : zm_cats r ≤ 8) (hrk : zm_rk q as < rk) (hm : (zm_ini q as).length = zm_mx q) (hr : zm_ret q = 3) : zl (zk_V (zc q as h) fun g => zr X rk y (pc + 3) loc r g) (zr X rk y pc loc stk h) := by
  rw [r_call hd rfl rfl (zr_siS ho hq hkd hna hst hlen hc hrk) hm, zr_kV hr]; exact zl_rf
theorem r_mmin {own ix q : Nat} {u : Nat × Nat × Nat × Nat} {z x : Int} (hd : decode (zm_code y) pc = .ok (.invokestatic ix, 3)) (ho : zm_own y = own) (hq : zm_cal own ix = some (8, q, u)) (hc : zm_cats r ≤ 8) (hrk : 1 ≤ rk) : zl (zr X rk y (pc + 3) loc (zm_I (min x z) :: r) h) (zr X rk y pc loc (zm_I z :: zm_I x :: r) h) := by
  rw [zr_go (zr_step hd (Or.inr rfl) rfl (by simp only [zm_si, zm_go, zm_fl, ho, hq, zm_ck_t (And.intro hc hrk)]; rfl))]; exact zl_rf
theorem r_mmax {own ix q : Nat} {u : Nat × Nat × Nat × Nat} {z x : Int} (hd : decode (zm_code y) pc = .ok (.invokestatic ix, 3)) (ho : zm_own y = own) (hq : zm_cal own ix = some (9, q, u)) (hc : zm_cats r ≤ 8) (hrk : 1 ≤ rk) : zl (zr X rk y (pc + 3) loc (zm_I (max x z) :: r) h) (zr X rk y pc loc (zm_I z :: zm_I x :: r) h) := by
  rw [zr_go (zr_step hd (Or.inr rfl) rfl (by simp only [zm_si, zm_go, zm_fl, ho, hq, zm_ck_t (And.intro hc hrk)]; rfl))]; exact zl_rf
theorem r_mminl {own ix q : Nat} {u : Nat × Nat × Nat × Nat} {z x : Int} (hd : decode (zm_code y) pc = .ok (.invokestatic ix, 3)) (ho : zm_own y = own) (hq : zm_cal own ix = some (10, q, u)) (hc : zm_cats r ≤ 8) (hrk : 1 ≤ rk) : zl (zr X rk y (pc + 3) loc (zm_L (min x z) :: r) h) (zr X rk y pc loc (zm_L z :: zm_L x :: r) h) := by
  rw [zr_go (zr_step hd (Or.inr rfl) rfl (by simp only [zm_si, zm_go, zm_fl, ho, hq, zm_ck_t (And.intro hc hrk)]; rfl))]; exact zl_rf
theorem r_mmaxl {own ix q : Nat} {u : Nat × Nat × Nat × Nat} {z x : Int} (hd : decode (zm_code y) pc = .ok (.invokestatic ix, 3)) (ho : zm_own y = own) (hq : zm_cal own ix = some (11, q, u)) (hc : zm_cats r ≤ 8) (hrk : 1 ≤ rk) : zl (zr X rk y (pc + 3) loc (zm_L (max x z) :: r) h) (zr X rk y pc loc (zm_L z :: zm_L x :: r) h) := by
  rw [zr_go (zr_step hd (Or.inr rfl) rfl (by simp only [zm_si, zm_go, zm_fl, ho, hq, zm_ck_t (And.intro hc hrk)]; rfl))]; exact zl_rf
theorem r_fdiv {own ix q : Nat} {u : Nat × Nat × Nat × Nat} {z x : Int} (hd : decode (zm_code y) pc = .ok (.invokestatic ix, 3)) (ho : zm_own y = own) (hq : zm_cal own ix = some (12, q, u)) (hc : zm_cats r ≤ 8) (hrk : 1 ≤ rk) : zl (zm_ck (z ≠ 0 ∧ -1000000000 ≤ x ∧ x ≤ 1000000000) (zr X rk y (pc + 3) loc (zm_I (x.fdiv z) :: r) h)) (zr X rk y pc loc (zm_I z :: zm_I x :: r) h) := by
  intro r' e
  obtain ⟨hp, e⟩ := zm_ck_some e
  rw [zr_go (zr_step hd (Or.inr rfl) rfl (by simp only [zm_si, zm_go, zm_fl, ho, hq, zm_ck_t (And.intro hc (And.intro hrk hp))]; rfl))]; exact e
theorem r_fmod {own ix q : Nat} {u : Nat × Nat × Nat × Nat} {z x : Int} (hd : decode (zm_code y) pc = .ok (.invokestatic ix, 3)) (ho : zm_own y = own) (hq : zm_cal own ix = some (13, q, u)) (hc : zm_cats r ≤ 8) (hrk : 1 ≤ rk) : zl (zm_ck (z ≠ 0 ∧ -1000000000 ≤ x ∧ x ≤ 1000000000) (zr X rk y (pc + 3) loc (zm_I (x.fmod z) :: r) h)) (zr X rk y pc loc (zm_I z :: zm_I x :: r) h) := by
  intro r' e
  obtain ⟨hp, e⟩ := zm_ck_some e
  rw [zr_go (zr_step hd (Or.inr rfl) rfl (by simp only [zm_si, zm_go, zm_fl, ho, hq, zm_ck_t (And.intro hc (And.intro hrk hp))]; rfl))]; exact e
end
