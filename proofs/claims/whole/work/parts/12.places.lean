/-! THE PLAIN MACHINE IN USE, part 3: facts of places, methods, links, instructions (printed by wip/gen/gen_mirror.py) -/
theorem zl_ckh {p : Prop} [Decidable p] {a b : Option (zm_V × zm_H)} (h : p → zl a b) : zl (zm_ck p a) b := fun r e => h (zm_ck_some e).1 r (zm_ck_some e).2
theorem zc_eq {q n : Nat} {as loc : List zm_V} {h : zm_H} (hr : zm_rk q as = n) (hi : zm_ini q as = loc) : zc q as h = zr none n q 0 loc [] h := by
  unfold zc; rw [hr, hi]
theorem zr_rcv {b c q : Nat} {as : List zm_V} (h : zm_lay b = .inl c ∧ 3 < b ∧ b < zm_NX) (ho : zm_own q = c) : zm_rcv q (zm_A b :: as) zm_NX = true := by
  subst ho
  exact decide_eq_true h
theorem zr_im {q m k : Nat} {as : List zm_V} (hm : zm_mx q = m) (h2 : (zm_two as).length = k) (hk : k ≤ m) : (zm_ini q as).length = zm_mx q := by
  unfold zm_ini
  simp only [List.length_append, List.length_replicate, h2, hm]
  omega
def zf_F (t : Nat) : Prop := t = 7 ∨ t = 18
def zf_T (o : Nat) : Prop := o ∈ [32, 36, 40, 48, 52, 56, 60, 64, 68, 72, 76, 80, 84, 88, 92, 96, 100, 104, 108, 112, 116, 120, 124]
theorem zf_o {t : Nat} (h : zf_F t) : zm_lay t = .inl 2 ∧ 3 < t ∧ t < zm_NX := by rcases h with rfl | rfl <;> exact ⟨rfl, by decide, by decide⟩
theorem zf_3 {t : Nat} (h : zf_F t) : 3 < t := (zf_o h).2.1
theorem zf_b {t : Nat} (h : zf_F t) : 3 < t ∧ t < zm_NX := (zf_o h).2
def zt_all (f : Nat → Bool) : Bool := [32, 36, 40, 48, 52, 56, 60, 64, 68, 72, 76, 80, 84, 88, 92, 96, 100, 104, 108, 112, 116, 120, 124].all f
theorem zt_of {f : Nat → Bool} (h : zt_all f = true) {o : Nat} (ho : zf_T o) : f o = true := List.all_eq_true.mp h o ho
theorem zt_o {o : Nat} (h : zf_T o) : zm_lay o = .inl 11 ∧ 3 < o ∧ o < zm_NX := of_decide_eq_true (zt_of (f := fun o => decide (zm_lay o = .inl 11 ∧ 3 < o ∧ o < zm_NX)) (by decide +kernel) h)
theorem zf_r5 {t : Nat} (h : zf_F t) : zm_fr t 5 = t + 1 := by rcases h with rfl | rfl <;> rfl
theorem zf_a1 {t : Nat} (h : zf_F t) : zm_lay (t + 1) = .inr (0, 8) ∧ 3 < t + 1 ∧ t + 1 < zm_NX := by rcases h with rfl | rfl <;> exact ⟨rfl, by decide, by decide⟩
theorem zf_r6 {t : Nat} (h : zf_F t) : zm_fr t 6 = t + 2 := by rcases h with rfl | rfl <;> rfl
theorem zf_a2 {t : Nat} (h : zf_F t) : zm_lay (t + 2) = .inr (0, 8) ∧ 3 < t + 2 ∧ t + 2 < zm_NX := by rcases h with rfl | rfl <;> exact ⟨rfl, by decide, by decide⟩
theorem zf_r7 {t : Nat} (h : zf_F t) : zm_fr t 7 = t + 3 := by rcases h with rfl | rfl <;> rfl
theorem zf_a3 {t : Nat} (h : zf_F t) : zm_lay (t + 3) = .inr (0, 8) ∧ 3 < t + 3 ∧ t + 3 < zm_NX := by rcases h with rfl | rfl <;> exact ⟨rfl, by decide, by decide⟩
theorem zf_r8 {t : Nat} (h : zf_F t) : zm_fr t 8 = t + 4 := by rcases h with rfl | rfl <;> rfl
theorem zf_a4 {t : Nat} (h : zf_F t) : zm_lay (t + 4) = .inr (0, 40) ∧ 3 < t + 4 ∧ t + 4 < zm_NX := by rcases h with rfl | rfl <;> exact ⟨rfl, by decide, by decide⟩
theorem zf_r9 {t : Nat} (h : zf_F t) : zm_fr t 9 = t + 5 := by rcases h with rfl | rfl <;> rfl
theorem zf_a5 {t : Nat} (h : zf_F t) : zm_lay (t + 5) = .inr (0, 8) ∧ 3 < t + 5 ∧ t + 5 < zm_NX := by rcases h with rfl | rfl <;> exact ⟨rfl, by decide, by decide⟩
theorem zf_r10 {t : Nat} (h : zf_F t) : zm_fr t 10 = t + 6 := by rcases h with rfl | rfl <;> rfl
theorem zf_a6 {t : Nat} (h : zf_F t) : zm_lay (t + 6) = .inr (0, 8) ∧ 3 < t + 6 ∧ t + 6 < zm_NX := by rcases h with rfl | rfl <;> exact ⟨rfl, by decide, by decide⟩
theorem zf_r11 {t : Nat} (h : zf_F t) : zm_fr t 11 = t + 7 := by rcases h with rfl | rfl <;> rfl
theorem zf_a7 {t : Nat} (h : zf_F t) : zm_lay (t + 7) = .inr (0, 8) ∧ 3 < t + 7 ∧ t + 7 < zm_NX := by rcases h with rfl | rfl <;> exact ⟨rfl, by decide, by decide⟩
theorem zf_r12 {t : Nat} (h : zf_F t) : zm_fr t 12 = t + 8 := by rcases h with rfl | rfl <;> rfl
theorem zf_a8 {t : Nat} (h : zf_F t) : zm_lay (t + 8) = .inr (0, 8) ∧ 3 < t + 8 ∧ t + 8 < zm_NX := by rcases h with rfl | rfl <;> exact ⟨rfl, by decide, by decide⟩
theorem zf_r13 {t : Nat} (h : zf_F t) : zm_fr t 13 = t + 9 := by rcases h with rfl | rfl <;> rfl
theorem zf_a9 {t : Nat} (h : zf_F t) : zm_lay (t + 9) = .inr (0, 64) ∧ 3 < t + 9 ∧ t + 9 < zm_NX := by rcases h with rfl | rfl <;> exact ⟨rfl, by decide, by decide⟩
theorem zf_r14 {t : Nat} (h : zf_F t) : zm_fr t 14 = t + 10 := by rcases h with rfl | rfl <;> rfl
theorem zf_a10 {t : Nat} (h : zf_F t) : zm_lay (t + 10) = .inr (0, 1600) ∧ 3 < t + 10 ∧ t + 10 < zm_NX := by rcases h with rfl | rfl <;> exact ⟨rfl, by decide, by decide⟩
theorem zt_r2 {o : Nat} (h : zf_T o) : zm_fr o 2 = o + 1 := of_decide_eq_true (zt_of (f := fun o => decide (zm_fr o 2 = o + 1)) (by decide +kernel) h)
theorem zt_a1 {o : Nat} (h : zf_T o) : zm_lay (o + 1) = .inr (0, 40) ∧ 3 < o + 1 ∧ o + 1 < zm_NX := of_decide_eq_true (zt_of (f := fun o => decide (zm_lay (o + 1) = .inr (0, 40) ∧ 3 < o + 1 ∧ o + 1 < zm_NX)) (by decide +kernel) h)
theorem zt_r3 {o : Nat} (h : zf_T o) : zm_fr o 3 = o + 2 := of_decide_eq_true (zt_of (f := fun o => decide (zm_fr o 3 = o + 2)) (by decide +kernel) h)
theorem zt_a2 {o : Nat} (h : zf_T o) : zm_lay (o + 2) = .inr (0, 8) ∧ 3 < o + 2 ∧ o + 2 < zm_NX := of_decide_eq_true (zt_of (f := fun o => decide (zm_lay (o + 2) = .inr (0, 8) ∧ 3 < o + 2 ∧ o + 2 < zm_NX)) (by decide +kernel) h)
theorem zt_r4 {o : Nat} (h : zf_T o) : zm_fr o 4 = o + 3 := of_decide_eq_true (zt_of (f := fun o => decide (zm_fr o 4 = o + 3)) (by decide +kernel) h)
theorem zt_a3 {o : Nat} (h : zf_T o) : zm_lay (o + 3) = .inr (0, 64) ∧ 3 < o + 3 ∧ o + 3 < zm_NX := of_decide_eq_true (zt_of (f := fun o => decide (zm_lay (o + 3) = .inr (0, 64) ∧ 3 < o + 3 ∧ o + 3 < zm_NX)) (by decide +kernel) h)
theorem zl_lsw {ps : List (Int × Int)} {d x : Int} (h : ∀ q ∈ ps, q.1 ≠ x) : Op.lookupswitch.offset ps d x = d := by
  sorry
theorem la_4 : zm_lay 4 = .inl 0 ∧ 3 < 4 ∧ 4 < zm_NX := ⟨rfl, by decide, by decide⟩
theorem la_5 : zm_lay 5 = .inl 10 ∧ 3 < 5 ∧ 5 < zm_NX := ⟨rfl, by decide, by decide⟩
theorem la_6 : zm_lay 6 = .inr (0, 1600) ∧ 3 < 6 ∧ 6 < zm_NX := ⟨rfl, by decide, by decide⟩
theorem la_29 : zm_lay 29 = .inl 4 ∧ 3 < 29 ∧ 29 < zm_NX := ⟨rfl, by decide, by decide⟩
theorem la_30 : zm_lay 30 = .inl 9 ∧ 3 < 30 ∧ 30 < zm_NX := ⟨rfl, by decide, by decide⟩
theorem la_31 : zm_lay 31 = .inr (0, 25) ∧ 3 < 31 ∧ 31 < zm_NX := ⟨rfl, by decide, by decide⟩
theorem la_32 : zm_lay 32 = .inl 11 ∧ 3 < 32 ∧ 32 < zm_NX := ⟨rfl, by decide, by decide⟩
theorem la_33 : zm_lay 33 = .inr (0, 40) ∧ 3 < 33 ∧ 33 < zm_NX := ⟨rfl, by decide, by decide⟩
theorem la_34 : zm_lay 34 = .inr (0, 8) ∧ 3 < 34 ∧ 34 < zm_NX := ⟨rfl, by decide, by decide⟩
theorem la_35 : zm_lay 35 = .inr (0, 64) ∧ 3 < 35 ∧ 35 < zm_NX := ⟨rfl, by decide, by decide⟩
theorem la_40 : zm_lay 40 = .inl 11 ∧ 3 < 40 ∧ 40 < zm_NX := ⟨rfl, by decide, by decide⟩
theorem la_41 : zm_lay 41 = .inr (0, 40) ∧ 3 < 41 ∧ 41 < zm_NX := ⟨rfl, by decide, by decide⟩
theorem la_44 : zm_lay 44 = .inl 3 ∧ 3 < 44 ∧ 44 < zm_NX := ⟨rfl, by decide, by decide⟩
theorem la_45 : zm_lay 45 = .inr (3, 20) ∧ 3 < 45 ∧ 45 < zm_NX := ⟨rfl, by decide, by decide⟩
theorem la_46 : zm_lay 46 = .inr (0, 20) ∧ 3 < 46 ∧ 46 < zm_NX := ⟨rfl, by decide, by decide⟩
theorem la_47 : zm_lay 47 = .inr (0, 3260) ∧ 3 < 47 ∧ 47 < zm_NX := ⟨rfl, by decide, by decide⟩
theorem la_128 : zm_lay 128 = .inl 6 ∧ 3 < 128 ∧ 128 < zm_NX := ⟨rfl, by decide, by decide⟩
theorem la_129 : zm_lay 129 = .inr (0, 8) ∧ 3 < 129 ∧ 129 < zm_NX := ⟨rfl, by decide, by decide⟩
theorem la_130 : zm_lay 130 = .inr (0, 8) ∧ 3 < 130 ∧ 130 < zm_NX := ⟨rfl, by decide, by decide⟩
theorem la_131 : zm_lay 131 = .inr (0, 8) ∧ 3 < 131 ∧ 131 < zm_NX := ⟨rfl, by decide, by decide⟩
theorem la_132 : zm_lay 132 = .inl 1 ∧ 3 < 132 ∧ 132 < zm_NX := ⟨rfl, by decide, by decide⟩
theorem la_133 : zm_lay 133 = .inr (0, 5) ∧ 3 < 133 ∧ 133 < zm_NX := ⟨rfl, by decide, by decide⟩
theorem la_134 : zm_lay 134 = .inr (0, 5) ∧ 3 < 134 ∧ 134 < zm_NX := ⟨rfl, by decide, by decide⟩
theorem la_135 : zm_lay 135 = .inl 8 ∧ 3 < 135 ∧ 135 < zm_NX := ⟨rfl, by decide, by decide⟩
theorem la_136 : zm_lay 136 = .inr (0, 8) ∧ 3 < 136 ∧ 136 < zm_NX := ⟨rfl, by decide, by decide⟩
theorem la_137 : zm_lay 137 = .inr (0, 8) ∧ 3 < 137 ∧ 137 < zm_NX := ⟨rfl, by decide, by decide⟩
theorem la_138 : zm_lay 138 = .inr (0, 8) ∧ 3 < 138 ∧ 138 < zm_NX := ⟨rfl, by decide, by decide⟩
theorem la_139 : zm_lay 139 = .inl 5 ∧ 3 < 139 ∧ 139 < zm_NX := ⟨rfl, by decide, by decide⟩
theorem la_140 : zm_lay 140 = .inr (0, 188) ∧ 3 < 140 ∧ 140 < zm_NX := ⟨rfl, by decide, by decide⟩
theorem la_141 : zm_lay 141 = .inl 7 ∧ 3 < 141 ∧ 141 < zm_NX := ⟨rfl, by decide, by decide⟩
theorem la_142 : zm_lay 142 = .inr (0, 64) ∧ 3 < 142 ∧ 142 < zm_NX := ⟨rfl, by decide, by decide⟩
theorem la_143 : zm_lay 143 = .inr (0, 6) ∧ 3 < 143 ∧ 143 < zm_NX := ⟨rfl, by decide, by decide⟩
theorem la_144 : zm_lay 144 = .inr (0, 8) ∧ 3 < 144 ∧ 144 < zm_NX := ⟨rfl, by decide, by decide⟩
theorem la_145 : zm_lay 145 = .inr (0, 6) ∧ 3 < 145 ∧ 145 < zm_NX := ⟨rfl, by decide, by decide⟩
theorem la_146 : zm_lay 146 = .inl 12 ∧ 3 < 146 ∧ 146 < zm_NX := ⟨rfl, by decide, by decide⟩
theorem la_147 : zm_lay 147 = .inr (0, 1800) ∧ 3 < 147 ∧ 147 < zm_NX := ⟨rfl, by decide, by decide⟩
theorem la_148 : zm_lay 148 = .inr (0, 2) ∧ 3 < 148 ∧ 148 < zm_NX := ⟨rfl, by decide, by decide⟩
theorem la_149 : zm_lay 149 = .inr (0, 16) ∧ 3 < 149 ∧ 149 < zm_NX := ⟨rfl, by decide, by decide⟩
theorem la_150 : zm_lay 150 = .inr (0, 16) ∧ 3 < 150 ∧ 150 < zm_NX := ⟨rfl, by decide, by decide⟩
theorem la_151 : zm_lay 151 = .inr (0, 2) ∧ 3 < 151 ∧ 151 < zm_NX := ⟨rfl, by decide, by decide⟩
theorem la_152 : zm_lay 152 = .inr (0, 80) ∧ 3 < 152 ∧ 152 < zm_NX := ⟨rfl, by decide, by decide⟩
theorem la_153 : zm_lay 153 = .inr (0, 2) ∧ 3 < 153 ∧ 153 < zm_NX := ⟨rfl, by decide, by decide⟩
theorem la_154 : zm_lay 154 = .inr (0, 16) ∧ 3 < 154 ∧ 154 < zm_NX := ⟨rfl, by decide, by decide⟩
theorem la_155 : zm_lay 155 = .inr (0, 16) ∧ 3 < 155 ∧ 155 < zm_NX := ⟨rfl, by decide, by decide⟩
theorem la_156 : zm_lay 156 = .inr (0, 16) ∧ 3 < 156 ∧ 156 < zm_NX := ⟨rfl, by decide, by decide⟩
theorem la_157 : zm_lay 157 = .inr (0, 128) ∧ 3 < 157 ∧ 157 < zm_NX := ⟨rfl, by decide, by decide⟩
theorem la_158 : zm_lay 158 = .inr (0, 2) ∧ 3 < 158 ∧ 158 < zm_NX := ⟨rfl, by decide, by decide⟩
theorem la_159 : zm_lay 159 = .inr (0, 2) ∧ 3 < 159 ∧ 159 < zm_NX := ⟨rfl, by decide, by decide⟩
theorem la_160 : zm_lay 160 = .inr (0, 2) ∧ 3 < 160 ∧ 160 < zm_NX := ⟨rfl, by decide, by decide⟩
theorem la_161 : zm_lay 161 = .inr (0, 2) ∧ 3 < 161 ∧ 161 < zm_NX := ⟨rfl, by decide, by decide⟩
theorem la_162 : zm_lay 162 = .inr (0, 2) ∧ 3 < 162 ∧ 162 < zm_NX := ⟨rfl, by decide, by decide⟩
theorem la_163 : zm_lay 163 = .inr (0, 3200) ∧ 3 < 163 ∧ 163 < zm_NX := ⟨rfl, by decide, by decide⟩
theorem la_164 : zm_lay 164 = .inr (0, 3200) ∧ 3 < 164 ∧ 164 < zm_NX := ⟨rfl, by decide, by decide⟩
theorem la_165 : zm_lay 165 = .inr (1, 16) ∧ 3 < 165 ∧ 165 < zm_NX := ⟨rfl, by decide, by decide⟩
theorem la_166 : zm_lay 166 = .inr (1, 16) ∧ 3 < 166 ∧ 166 < zm_NX := ⟨rfl, by decide, by decide⟩
theorem la_167 : zm_lay 167 = .inr (0, 20) ∧ 3 < 167 ∧ 167 < zm_NX := ⟨rfl, by decide, by decide⟩
theorem la_168 : zm_lay 168 = .inr (0, 20) ∧ 3 < 168 ∧ 168 < zm_NX := ⟨rfl, by decide, by decide⟩
theorem la_169 : zm_lay 169 = .inr (2, 20) ∧ 3 < 169 ∧ 169 < zm_NX := ⟨rfl, by decide, by decide⟩
theorem la_170 : zm_lay 170 = .inr (0, 20) ∧ 3 < 170 ∧ 170 < zm_NX := ⟨rfl, by decide, by decide⟩
theorem la_171 : zm_lay 171 = .inr (0, 20) ∧ 3 < 171 ∧ 171 < zm_NX := ⟨rfl, by decide, by decide⟩
theorem la_172 : zm_lay 172 = .inr (0, 500) ∧ 3 < 172 ∧ 172 < zm_NX := ⟨rfl, by decide, by decide⟩
theorem la_173 : zm_lay 173 = .inr (0, 6) ∧ 3 < 173 ∧ 173 < zm_NX := ⟨rfl, by decide, by decide⟩
theorem la_174 : zm_lay 174 = .inr (0, 22) ∧ 3 < 174 ∧ 174 < zm_NX := ⟨rfl, by decide, by decide⟩
theorem la_175 : zm_lay 175 = .inr (0, 22) ∧ 3 < 175 ∧ 175 < zm_NX := ⟨rfl, by decide, by decide⟩
theorem la_176 : zm_lay 176 = .inr (0, 880) ∧ 3 < 176 ∧ 176 < zm_NX := ⟨rfl, by decide, by decide⟩
theorem la_177 : zm_lay 177 = .inr (0, 176) ∧ 3 < 177 ∧ 177 < zm_NX := ⟨rfl, by decide, by decide⟩
theorem la_178 : zm_lay 178 = .inr (0, 1408) ∧ 3 < 178 ∧ 178 < zm_NX := ⟨rfl, by decide, by decide⟩
theorem la_179 : zm_lay 179 = .inr (0, 22) ∧ 3 < 179 ∧ 179 < zm_NX := ⟨rfl, by decide, by decide⟩
theorem la_180 : zm_lay 180 = .inr (0, 1320) ∧ 3 < 180 ∧ 180 < zm_NX := ⟨rfl, by decide, by decide⟩
theorem la_181 : zm_lay 181 = .inr (0, 1320) ∧ 3 < 181 ∧ 181 < zm_NX := ⟨rfl, by decide, by decide⟩
theorem la_182 : zm_lay 182 = .inr (0, 1320) ∧ 3 < 182 ∧ 182 < zm_NX := ⟨rfl, by decide, by decide⟩
theorem la_183 : zm_lay 183 = .inr (0, 1320) ∧ 3 < 183 ∧ 183 < zm_NX := ⟨rfl, by decide, by decide⟩
theorem la_184 : zm_lay 184 = .inr (1, 500) ∧ 3 < 184 ∧ 184 < zm_NX := ⟨rfl, by decide, by decide⟩
theorem la_185 : zm_lay 185 = .inr (0, 5) ∧ 3 < 185 ∧ 185 < zm_NX := ⟨rfl, by decide, by decide⟩
theorem la_186 : zm_lay 186 = .inr (0, 8) ∧ 3 < 186 ∧ 186 < zm_NX := ⟨rfl, by decide, by decide⟩
theorem la_187 : zm_lay 187 = .inr (0, 5) ∧ 3 < 187 ∧ 187 < zm_NX := ⟨rfl, by decide, by decide⟩
theorem la_188 : zm_lay 188 = .inr (0, 40) ∧ 3 < 188 ∧ 188 < zm_NX := ⟨rfl, by decide, by decide⟩
theorem la_189 : zm_lay 189 = .inr (0, 8) ∧ 3 < 189 ∧ 189 < zm_NX := ⟨rfl, by decide, by decide⟩
theorem la_190 : zm_lay 190 = .inr (0, 8) ∧ 3 < 190 ∧ 190 < zm_NX := ⟨rfl, by decide, by decide⟩
theorem la_191 : zm_lay 191 = .inr (0, 8) ∧ 3 < 191 ∧ 191 < zm_NX := ⟨rfl, by decide, by decide⟩
theorem la_192 : zm_lay 192 = .inr (0, 8) ∧ 3 < 192 ∧ 192 < zm_NX := ⟨rfl, by decide, by decide⟩
theorem la_193 : zm_lay 193 = .inr (0, 200) ∧ 3 < 193 ∧ 193 < zm_NX := ⟨rfl, by decide, by decide⟩
theorem fr_4_0 : zm_fr 4 0 = 5 := rfl
theorem fr_4_3 : zm_fr 4 3 = 29 := rfl
theorem fr_4_4 : zm_fr 4 4 = 32 := rfl
theorem fr_4_5 : zm_fr 4 5 = 36 := rfl
theorem fr_4_6 : zm_fr 4 6 = 40 := rfl
theorem fr_4_7 : zm_fr 4 7 = 44 := rfl
theorem fr_4_8 : zm_fr 4 8 = 128 := rfl
theorem fr_4_9 : zm_fr 4 9 = 132 := rfl
theorem fr_4_10 : zm_fr 4 10 = 135 := rfl
theorem fr_4_11 : zm_fr 4 11 = 139 := rfl
theorem fr_4_12 : zm_fr 4 12 = 141 := rfl
theorem fr_4_13 : zm_fr 4 13 = 143 := rfl
theorem fr_4_14 : zm_fr 4 14 = 144 := rfl
theorem fr_4_15 : zm_fr 4 15 = 145 := rfl
theorem fr_5_0 : zm_fr 5 0 = 6 := rfl
theorem fr_29_0 : zm_fr 29 0 = 30 := rfl
theorem fr_30_0 : zm_fr 30 0 = 31 := rfl
theorem fr_30_1 : zm_fr 30 1 = 5 := rfl
theorem fr_32_2 : zm_fr 32 2 = 33 := rfl
theorem fr_32_3 : zm_fr 32 3 = 34 := rfl
theorem fr_32_4 : zm_fr 32 4 = 35 := rfl
theorem fr_40_2 : zm_fr 40 2 = 41 := rfl
theorem fr_44_0 : zm_fr 44 0 = 45 := rfl
theorem fr_44_1 : zm_fr 44 1 = 46 := rfl
theorem fr_44_2 : zm_fr 44 2 = 47 := rfl
theorem fr_128_0 : zm_fr 128 0 = 129 := rfl
theorem fr_128_1 : zm_fr 128 1 = 130 := rfl
theorem fr_128_2 : zm_fr 128 2 = 131 := rfl
theorem fr_132_0 : zm_fr 132 0 = 133 := rfl
theorem fr_132_1 : zm_fr 132 1 = 134 := rfl
theorem fr_135_0 : zm_fr 135 0 = 136 := rfl
theorem fr_135_1 : zm_fr 135 1 = 137 := rfl
theorem fr_135_2 : zm_fr 135 2 = 138 := rfl
theorem fr_139_0 : zm_fr 139 0 = 140 := rfl
theorem fr_141_0 : zm_fr 141 0 = 142 := rfl
theorem fr_146_0 : zm_fr 146 0 = 147 := rfl
theorem fr_146_14 : zm_fr 146 14 = 148 := rfl
theorem fr_146_15 : zm_fr 146 15 = 149 := rfl
theorem fr_146_16 : zm_fr 146 16 = 150 := rfl
theorem fr_146_17 : zm_fr 146 17 = 151 := rfl
theorem fr_146_18 : zm_fr 146 18 = 152 := rfl
theorem fr_146_19 : zm_fr 146 19 = 153 := rfl
theorem fr_146_20 : zm_fr 146 20 = 154 := rfl
theorem fr_146_21 : zm_fr 146 21 = 155 := rfl
theorem fr_146_22 : zm_fr 146 22 = 156 := rfl
theorem fr_146_23 : zm_fr 146 23 = 157 := rfl
theorem fr_146_24 : zm_fr 146 24 = 158 := rfl
theorem fr_146_25 : zm_fr 146 25 = 159 := rfl
theorem fr_146_26 : zm_fr 146 26 = 160 := rfl
theorem fr_146_27 : zm_fr 146 27 = 161 := rfl
theorem fr_146_28 : zm_fr 146 28 = 162 := rfl
theorem fr_146_29 : zm_fr 146 29 = 163 := rfl
theorem fr_146_30 : zm_fr 146 30 = 164 := rfl
theorem fr_146_31 : zm_fr 146 31 = 165 := rfl
theorem fr_146_32 : zm_fr 146 32 = 166 := rfl
theorem fr_146_35 : zm_fr 146 35 = 167 := rfl
theorem fr_146_36 : zm_fr 146 36 = 168 := rfl
theorem fr_146_37 : zm_fr 146 37 = 169 := rfl
theorem fr_146_38 : zm_fr 146 38 = 170 := rfl
theorem fr_146_39 : zm_fr 146 39 = 171 := rfl
theorem fr_146_42 : zm_fr 146 42 = 172 := rfl
theorem fr_146_45 : zm_fr 146 45 = 173 := rfl
theorem fr_146_46 : zm_fr 146 46 = 174 := rfl
theorem fr_146_47 : zm_fr 146 47 = 175 := rfl
theorem fr_146_48 : zm_fr 146 48 = 176 := rfl
theorem fr_146_49 : zm_fr 146 49 = 177 := rfl
theorem fr_146_50 : zm_fr 146 50 = 178 := rfl
theorem fr_146_51 : zm_fr 146 51 = 179 := rfl
theorem fr_146_52 : zm_fr 146 52 = 180 := rfl
theorem fr_146_53 : zm_fr 146 53 = 181 := rfl
theorem fr_146_54 : zm_fr 146 54 = 182 := rfl
theorem fr_146_55 : zm_fr 146 55 = 183 := rfl
theorem fr_146_59 : zm_fr 146 59 = 184 := rfl
theorem fr_146_66 : zm_fr 146 66 = 185 := rfl
theorem fr_146_67 : zm_fr 146 67 = 186 := rfl
theorem fr_146_69 : zm_fr 146 69 = 187 := rfl
theorem fr_146_71 : zm_fr 146 71 = 188 := rfl
theorem fr_146_72 : zm_fr 146 72 = 189 := rfl
theorem fr_146_73 : zm_fr 146 73 = 190 := rfl
theorem fr_146_74 : zm_fr 146 74 = 191 := rfl
theorem fr_146_75 : zm_fr 146 75 = 192 := rfl
theorem fr_146_76 : zm_fr 146 76 = 193 := rfl
theorem f_0_10 : zm_fld 0 10 = some (0, 0, 2199) := rfl
theorem f_0_19 : zm_fld 0 19 = some (0, 1, 2200) := rfl
theorem f_0_23 : zm_fld 0 23 = some (0, 2, 2201) := rfl
theorem f_0_31 : zm_fld 0 31 = some (0, 3, 2202) := rfl
theorem f_0_38 : zm_fld 0 38 = some (0, 4, 2203) := rfl
theorem f_0_42 : zm_fld 0 42 = some (0, 5, 2204) := rfl
theorem f_0_45 : zm_fld 0 45 = some (0, 6, 2205) := rfl
theorem f_0_51 : zm_fld 0 51 = some (0, 7, 2206) := rfl
theorem f_0_58 : zm_fld 0 58 = some (0, 8, 2207) := rfl
theorem f_0_65 : zm_fld 0 65 = some (0, 9, 2208) := rfl
theorem f_0_72 : zm_fld 0 72 = some (0, 10, 2209) := rfl
theorem f_0_79 : zm_fld 0 79 = some (0, 11, 2210) := rfl
theorem f_0_86 : zm_fld 0 86 = some (0, 12, 2211) := rfl
theorem f_0_90 : zm_fld 0 90 = some (0, 13, 2212) := rfl
theorem f_0_94 : zm_fld 0 94 = some (0, 14, 2213) := rfl
theorem f_0_97 : zm_fld 0 97 = some (0, 15, 2214) := rfl
theorem f_0_100 : zm_fld 0 100 = some (0, 16, 2215) := rfl
theorem f_0_108 : zm_fld 0 108 = some (10, 1, 1037) := rfl
theorem f_0_130 : zm_fld 0 130 = some (0, 17, 2216) := rfl
theorem f_0_134 : zm_fld 0 134 = some (2, 0, 1059) := rfl
theorem f_0_137 : zm_fld 0 137 = some (4, 2, 2021) := rfl
theorem f_0_140 : zm_fld 0 140 = some (4, 3, 2023) := rfl
theorem f_0_143 : zm_fld 0 143 = some (2, 1, 1064) := rfl
theorem f_0_146 : zm_fld 0 146 = some (2, 2, 1070) := rfl
theorem f_0_149 : zm_fld 0 149 = some (2, 3, 1076) := rfl
theorem f_0_152 : zm_fld 0 152 = some (11, 0, 2041) := rfl
theorem f_0_159 : zm_fld 0 159 = some (11, 1, 2044) := rfl
theorem f_0_173 : zm_fld 0 173 = some (3, 5, 2082) := rfl
theorem f_0_179 : zm_fld 0 179 = some (2, 5, 1082) := rfl
theorem f_0_185 : zm_fld 0 185 = some (2, 9, 1094) := rfl
theorem f_0_188 : zm_fld 0 188 = some (2, 6, 1085) := rfl
theorem f_0_191 : zm_fld 0 191 = some (2, 7, 1088) := rfl
theorem f_0_206 : zm_fld 0 206 = some (11, 2, 2048) := rfl
theorem f_0_209 : zm_fld 0 209 = some (2, 10, 1098) := rfl
theorem f_0_211 : zm_fld 0 211 = some (2, 11, 1102) := rfl
theorem f_0_214 : zm_fld 0 214 = some (2, 12, 1105) := rfl
theorem f_0_217 : zm_fld 0 217 = some (11, 3, 2051) := rfl
theorem f_0_229 : zm_fld 0 229 = some (6, 3, 2109) := rfl
theorem f_0_236 : zm_fld 0 236 = some (11, 4, 2055) := rfl
theorem f_0_239 : zm_fld 0 239 = some (6, 0, 2103) := rfl
theorem f_0_267 : zm_fld 0 267 = some (1, 2, 2140) := rfl
theorem f_0_270 : zm_fld 0 270 = some (1, 1, 2138) := rfl
theorem f_0_302 : zm_fld 0 302 = some (10, 0, 1036) := rfl
theorem f_0_313 : zm_fld 0 313 = some (8, 1, 2157) := rfl
theorem f_0_316 : zm_fld 0 316 = some (8, 0, 2155) := rfl
theorem f_0_319 : zm_fld 0 319 = some (8, 2, 2159) := rfl
theorem f_0_325 : zm_fld 0 325 = some (5, 1, 2176) := rfl
theorem f_0_326 : zm_fld 0 326 = some (5, 0, 2174) := rfl
theorem f_0_350 : zm_fld 0 350 = some (2, 14, 1110) := rfl
theorem f_0_353 : zm_fld 0 353 = some (2, 16, 1115) := rfl
theorem f_0_356 : zm_fld 0 356 = some (2, 17, 1118) := rfl
theorem f_0_369 : zm_fld 0 369 = some (6, 2, 2107) := rfl
theorem f_0_392 : zm_fld 0 392 = some (6, 1, 2105) := rfl
theorem f_0_398 : zm_fld 0 398 = some (2, 18, 1121) := rfl
theorem f_0_401 : zm_fld 0 401 = some (2, 19, 1124) := rfl
theorem f_0_404 : zm_fld 0 404 = some (6, 4, 2111) := rfl
theorem f_0_407 : zm_fld 0 407 = some (6, 5, 2113) := rfl
theorem f_1_9 : zm_fld 1 9 = some (1, 0, 2136) := rfl
theorem f_1_15 : zm_fld 1 15 = some (1, 1, 2137) := rfl
theorem f_1_18 : zm_fld 1 18 = some (1, 2, 2139) := rfl
theorem f_1_39 : zm_fld 1 39 = some (2, 2, 1069) := rfl
theorem f_2_9 : zm_fld 2 9 = some (2, 5, 1081) := rfl
theorem f_2_15 : zm_fld 2 15 = some (2, 6, 1084) := rfl
theorem f_2_18 : zm_fld 2 18 = some (2, 7, 1087) := rfl
theorem f_2_21 : zm_fld 2 21 = some (2, 8, 1090) := rfl
theorem f_2_24 : zm_fld 2 24 = some (2, 9, 1093) := rfl
theorem f_2_33 : zm_fld 2 33 = some (2, 12, 1104) := rfl
theorem f_2_36 : zm_fld 2 36 = some (2, 13, 1107) := rfl
theorem f_2_39 : zm_fld 2 39 = some (2, 14, 1109) := rfl
theorem f_2_45 : zm_fld 2 45 = some (2, 0, 1057) := rfl
theorem f_2_49 : zm_fld 2 49 = some (2, 1, 1060) := rfl
theorem f_2_52 : zm_fld 2 52 = some (2, 2, 1066) := rfl
theorem f_2_55 : zm_fld 2 55 = some (2, 3, 1073) := rfl
theorem f_2_58 : zm_fld 2 58 = some (2, 4, 1078) := rfl
theorem f_2_61 : zm_fld 2 61 = some (2, 15, 1111) := rfl
theorem f_2_64 : zm_fld 2 64 = some (2, 16, 1113) := rfl
theorem f_2_67 : zm_fld 2 67 = some (2, 17, 1116) := rfl
theorem f_2_70 : zm_fld 2 70 = some (2, 18, 1119) := rfl
theorem f_2_73 : zm_fld 2 73 = some (2, 19, 1122) := rfl
theorem f_3_11 : zm_fld 3 11 = some (3, 0, 2076) := rfl
theorem f_3_17 : zm_fld 3 17 = some (3, 1, 2077) := rfl
theorem f_3_21 : zm_fld 3 21 = some (3, 2, 2078) := rfl
theorem f_3_25 : zm_fld 3 25 = some (3, 3, 2079) := rfl
theorem f_3_29 : zm_fld 3 29 = some (3, 4, 2080) := rfl
theorem f_3_32 : zm_fld 3 32 = some (3, 5, 2081) := rfl
theorem f_4_9 : zm_fld 4 9 = some (4, 3, 2022) := rfl
theorem f_4_20 : zm_fld 4 20 = some (4, 0, 2018) := rfl
theorem f_4_24 : zm_fld 4 24 = some (4, 1, 2019) := rfl
theorem f_4_33 : zm_fld 4 33 = some (4, 2, 2020) := rfl
theorem f_4_39 : zm_fld 4 39 = some (9, 3, 1231) := rfl
theorem f_4_46 : zm_fld 4 46 = some (2, 0, 1058) := rfl
theorem f_4_49 : zm_fld 4 49 = some (9, 7, 1239) := rfl
theorem f_4_56 : zm_fld 4 56 = some (9, 6, 1237) := rfl
theorem f_4_59 : zm_fld 4 59 = some (9, 5, 1235) := rfl
theorem f_4_75 : zm_fld 4 75 = some (2, 15, 1112) := rfl
theorem f_4_96 : zm_fld 4 96 = some (2, 16, 1114) := rfl
theorem f_4_99 : zm_fld 4 99 = some (2, 17, 1117) := rfl
theorem f_4_105 : zm_fld 4 105 = some (2, 18, 1120) := rfl
theorem f_4_108 : zm_fld 4 108 = some (2, 19, 1123) := rfl
theorem f_4_114 : zm_fld 4 114 = some (2, 1, 1065) := rfl
theorem f_4_117 : zm_fld 4 117 = some (2, 2, 1071) := rfl
theorem f_4_120 : zm_fld 4 120 = some (2, 3, 1077) := rfl
theorem f_4_134 : zm_fld 4 134 = some (2, 5, 1083) := rfl
theorem f_4_138 : zm_fld 4 138 = some (2, 6, 1086) := rfl
theorem f_4_141 : zm_fld 4 141 = some (2, 7, 1089) := rfl
theorem f_4_153 : zm_fld 4 153 = some (9, 4, 1233) := rfl
theorem f_4_160 : zm_fld 4 160 = some (2, 8, 1092) := rfl
theorem f_4_163 : zm_fld 4 163 = some (2, 9, 1095) := rfl
theorem f_4_166 : zm_fld 4 166 = some (2, 10, 1099) := rfl
theorem f_4_169 : zm_fld 4 169 = some (2, 11, 1103) := rfl
theorem f_4_172 : zm_fld 4 172 = some (2, 12, 1106) := rfl
theorem f_4_178 : zm_fld 4 178 = some (2, 13, 1108) := rfl
theorem f_4_181 : zm_fld 4 181 = some (2, 4, 1080) := rfl
theorem f_5_11 : zm_fld 5 11 = some (5, 0, 2173) := rfl
theorem f_5_15 : zm_fld 5 15 = some (5, 1, 2175) := rfl
theorem f_5_19 : zm_fld 5 19 = some (11, 0, 2040) := rfl
theorem f_5_28 : zm_fld 5 28 = some (11, 1, 2043) := rfl
theorem f_5_34 : zm_fld 5 34 = some (2, 2, 1068) := rfl
theorem f_5_39 : zm_fld 5 39 = some (2, 1, 1061) := rfl
theorem f_5_42 : zm_fld 5 42 = some (11, 2, 2046) := rfl
theorem f_5_45 : zm_fld 5 45 = some (2, 3, 1075) := rfl
theorem f_5_48 : zm_fld 5 48 = some (11, 3, 2050) := rfl
theorem f_5_51 : zm_fld 5 51 = some (11, 4, 2053) := rfl
theorem f_5_58 : zm_fld 5 58 = some (10, 1, 1040) := rfl
theorem f_5_61 : zm_fld 5 61 = some (10, 0, 1035) := rfl
theorem f_6_9 : zm_fld 6 9 = some (6, 0, 2102) := rfl
theorem f_6_15 : zm_fld 6 15 = some (6, 1, 2104) := rfl
theorem f_6_18 : zm_fld 6 18 = some (6, 2, 2106) := rfl
theorem f_6_21 : zm_fld 6 21 = some (2, 11, 1101) := rfl
theorem f_6_26 : zm_fld 6 26 = some (6, 6, 2114) := rfl
theorem f_6_30 : zm_fld 6 30 = some (6, 4, 2110) := rfl
theorem f_6_33 : zm_fld 6 33 = some (2, 2, 1067) := rfl
theorem f_6_42 : zm_fld 6 42 = some (2, 10, 1097) := rfl
theorem f_6_51 : zm_fld 6 51 = some (6, 5, 2112) := rfl
theorem f_6_54 : zm_fld 6 54 = some (6, 3, 2108) := rfl
theorem f_6_57 : zm_fld 6 57 = some (11, 2, 2047) := rfl
theorem f_6_60 : zm_fld 6 60 = some (2, 1, 1062) := rfl
theorem f_7_11 : zm_fld 7 11 = some (7, 0, 2188) := rfl
theorem f_7_15 : zm_fld 7 15 = some (7, 1, 2189) := rfl
theorem f_8_9 : zm_fld 8 9 = some (8, 0, 2154) := rfl
theorem f_8_15 : zm_fld 8 15 = some (8, 1, 2156) := rfl
theorem f_8_18 : zm_fld 8 18 = some (8, 2, 2158) := rfl
theorem f_8_21 : zm_fld 8 21 = some (2, 3, 1072) := rfl
theorem f_8_39 : zm_fld 8 39 = some (2, 1, 1063) := rfl
theorem f_8_42 : zm_fld 8 42 = some (11, 4, 2054) := rfl
theorem f_9_9 : zm_fld 9 9 = some (9, 0, 1227) := rfl
theorem f_9_15 : zm_fld 9 15 = some (9, 1, 1228) := rfl
theorem f_9_31 : zm_fld 9 31 = some (9, 2, 1229) := rfl
theorem f_9_35 : zm_fld 9 35 = some (9, 3, 1230) := rfl
theorem f_9_41 : zm_fld 9 41 = some (10, 1, 1039) := rfl
theorem f_9_45 : zm_fld 9 45 = some (10, 0, 1034) := rfl
theorem f_9_48 : zm_fld 9 48 = some (9, 6, 1236) := rfl
theorem f_9_51 : zm_fld 9 51 = some (9, 7, 1238) := rfl
theorem f_9_54 : zm_fld 9 54 = some (9, 4, 1232) := rfl
theorem f_9_71 : zm_fld 9 71 = some (9, 5, 1234) := rfl
theorem f_10_9 : zm_fld 10 9 = some (10, 0, 1033) := rfl
theorem f_10_15 : zm_fld 10 15 = some (10, 1, 1038) := rfl
theorem f_11_9 : zm_fld 11 9 = some (11, 2, 2045) := rfl
theorem f_11_15 : zm_fld 11 15 = some (11, 3, 2049) := rfl
theorem f_11_18 : zm_fld 11 18 = some (11, 4, 2052) := rfl
theorem f_11_21 : zm_fld 11 21 = some (11, 0, 2039) := rfl
theorem f_11_25 : zm_fld 11 25 = some (11, 1, 2042) := rfl
theorem f_11_28 : zm_fld 11 28 = some (2, 8, 1091) := rfl
theorem f_11_31 : zm_fld 11 31 = some (2, 3, 1074) := rfl
theorem f_11_34 : zm_fld 11 34 = some (2, 4, 1079) := rfl
theorem f_12_7 : zm_fld 12 7 = some (12, 0, 5127) := rfl
theorem f_12_13 : zm_fld 12 13 = some (12, 1, 5128) := rfl
theorem f_12_17 : zm_fld 12 17 = some (12, 2, 5129) := rfl
theorem f_12_20 : zm_fld 12 20 = some (12, 3, 5130) := rfl
theorem f_12_23 : zm_fld 12 23 = some (12, 4, 5131) := rfl
theorem f_12_26 : zm_fld 12 26 = some (12, 5, 5132) := rfl
theorem f_12_29 : zm_fld 12 29 = some (12, 6, 5133) := rfl
theorem f_12_32 : zm_fld 12 32 = some (12, 7, 5134) := rfl
theorem f_12_36 : zm_fld 12 36 = some (12, 8, 5135) := rfl
theorem f_12_39 : zm_fld 12 39 = some (12, 9, 5136) := rfl
theorem f_12_42 : zm_fld 12 42 = some (12, 10, 5137) := rfl
theorem f_12_45 : zm_fld 12 45 = some (12, 11, 5138) := rfl
theorem f_12_48 : zm_fld 12 48 = some (12, 12, 5139) := rfl
theorem f_12_51 : zm_fld 12 51 = some (12, 13, 5140) := rfl
theorem f_12_54 : zm_fld 12 54 = some (12, 14, 5141) := rfl
theorem f_12_57 : zm_fld 12 57 = some (12, 15, 5142) := rfl
theorem f_12_60 : zm_fld 12 60 = some (12, 16, 5143) := rfl
theorem f_12_63 : zm_fld 12 63 = some (12, 17, 5144) := rfl
theorem f_12_66 : zm_fld 12 66 = some (12, 18, 5145) := rfl
theorem f_12_69 : zm_fld 12 69 = some (12, 19, 5146) := rfl
theorem f_12_72 : zm_fld 12 72 = some (12, 20, 5147) := rfl
theorem f_12_75 : zm_fld 12 75 = some (12, 21, 5148) := rfl
theorem f_12_78 : zm_fld 12 78 = some (12, 22, 5149) := rfl
theorem f_12_81 : zm_fld 12 81 = some (12, 23, 5150) := rfl
theorem f_12_84 : zm_fld 12 84 = some (12, 24, 5151) := rfl
theorem f_12_87 : zm_fld 12 87 = some (12, 25, 5152) := rfl
theorem f_12_90 : zm_fld 12 90 = some (12, 26, 5153) := rfl
theorem f_12_93 : zm_fld 12 93 = some (12, 27, 5154) := rfl
theorem f_12_96 : zm_fld 12 96 = some (12, 28, 5155) := rfl
theorem f_12_99 : zm_fld 12 99 = some (12, 29, 5156) := rfl
theorem f_12_102 : zm_fld 12 102 = some (12, 30, 5157) := rfl
theorem f_12_105 : zm_fld 12 105 = some (12, 31, 5158) := rfl
theorem f_12_109 : zm_fld 12 109 = some (12, 32, 5159) := rfl
theorem f_12_112 : zm_fld 12 112 = some (12, 33, 5160) := rfl
theorem f_12_115 : zm_fld 12 115 = some (12, 34, 5161) := rfl
theorem f_12_118 : zm_fld 12 118 = some (12, 35, 5162) := rfl
theorem f_12_121 : zm_fld 12 121 = some (12, 36, 5163) := rfl
theorem f_12_124 : zm_fld 12 124 = some (12, 37, 5164) := rfl
theorem f_12_128 : zm_fld 12 128 = some (12, 38, 5165) := rfl
theorem f_12_131 : zm_fld 12 131 = some (12, 39, 5166) := rfl
theorem f_12_134 : zm_fld 12 134 = some (12, 40, 5167) := rfl
theorem f_12_137 : zm_fld 12 137 = some (12, 41, 5168) := rfl
theorem f_12_140 : zm_fld 12 140 = some (12, 42, 5169) := rfl
theorem f_12_143 : zm_fld 12 143 = some (12, 43, 5170) := rfl
theorem f_12_146 : zm_fld 12 146 = some (12, 44, 5171) := rfl
theorem f_12_150 : zm_fld 12 150 = some (12, 45, 5172) := rfl
theorem f_12_153 : zm_fld 12 153 = some (12, 46, 5173) := rfl
theorem f_12_156 : zm_fld 12 156 = some (12, 47, 5174) := rfl
theorem f_12_159 : zm_fld 12 159 = some (12, 48, 5175) := rfl
theorem f_12_162 : zm_fld 12 162 = some (12, 49, 5176) := rfl
theorem f_12_165 : zm_fld 12 165 = some (12, 50, 5177) := rfl
theorem f_12_168 : zm_fld 12 168 = some (12, 51, 5178) := rfl
theorem f_12_171 : zm_fld 12 171 = some (12, 52, 5179) := rfl
theorem f_12_174 : zm_fld 12 174 = some (12, 53, 5180) := rfl
theorem f_12_177 : zm_fld 12 177 = some (12, 54, 5181) := rfl
theorem f_12_180 : zm_fld 12 180 = some (12, 55, 5182) := rfl
theorem f_12_183 : zm_fld 12 183 = some (12, 56, 5183) := rfl
theorem f_12_186 : zm_fld 12 186 = some (12, 57, 5184) := rfl
theorem f_12_189 : zm_fld 12 189 = some (12, 58, 5185) := rfl
theorem f_12_192 : zm_fld 12 192 = some (12, 59, 5186) := rfl
theorem f_12_195 : zm_fld 12 195 = some (12, 60, 5187) := rfl
theorem f_12_198 : zm_fld 12 198 = some (12, 61, 5188) := rfl
theorem f_12_201 : zm_fld 12 201 = some (12, 62, 5189) := rfl
theorem f_12_204 : zm_fld 12 204 = some (12, 63, 5190) := rfl
theorem f_12_207 : zm_fld 12 207 = some (12, 64, 5191) := rfl
theorem f_12_210 : zm_fld 12 210 = some (12, 65, 5192) := rfl
theorem f_12_213 : zm_fld 12 213 = some (12, 66, 5193) := rfl
theorem f_12_216 : zm_fld 12 216 = some (12, 67, 5194) := rfl
theorem f_12_219 : zm_fld 12 219 = some (12, 68, 5195) := rfl
theorem f_12_222 : zm_fld 12 222 = some (12, 69, 5196) := rfl
theorem f_12_225 : zm_fld 12 225 = some (12, 70, 5197) := rfl
theorem f_12_228 : zm_fld 12 228 = some (12, 71, 5198) := rfl
theorem f_12_231 : zm_fld 12 231 = some (12, 72, 5199) := rfl
theorem f_12_234 : zm_fld 12 234 = some (12, 73, 5200) := rfl
theorem f_12_237 : zm_fld 12 237 = some (12, 74, 5201) := rfl
theorem f_12_240 : zm_fld 12 240 = some (12, 75, 5202) := rfl
theorem f_12_243 : zm_fld 12 243 = some (12, 76, 5203) := rfl
theorem f_12_246 : zm_fld 12 246 = some (12, 77, 5204) := rfl
theorem cal_0_104 : zm_cal 0 104 = some (0, 143, 2195, 2196, 1010, 2197) := rfl
theorem cal_0_111 : zm_cal 0 111 = some (0, 2, 3018, 3020, 1001, 0) := rfl
theorem cal_0_115 : zm_cal 0 115 = some (0, 141, 3022, 3023, 1002, 3024) := rfl
theorem cal_0_119 : zm_cal 0 119 = some (0, 4, 3030, 3032, 1001, 1) := rfl
theorem cal_0_123 : zm_cal 0 123 = some (0, 74, 3038, 3039, 1004, 3040) := rfl
theorem cal_0_127 : zm_cal 0 127 = some (0, 67, 3198, 3199, 1011, 3200) := rfl
theorem cal_0_155 : zm_cal 0 155 = some (0, 144, 3210, 3211, 1010, 3212) := rfl
theorem cal_0_162 : zm_cal 0 162 = some (0, 8, 3217, 3219, 1001, 32) := rfl
theorem cal_0_165 : zm_cal 0 165 = some (0, 146, 4025, 4026, 1010, 4027) := rfl
theorem cal_0_168 : zm_cal 0 168 = some (0, 147, 4029, 4030, 1010, 4031) := rfl
theorem cal_0_171 : zm_cal 0 171 = some (0, 68, 4033, 4034, 1011, 4035) := rfl
theorem cal_0_176 : zm_cal 0 176 = some (0, 11, 4042, 4044, 1001, 36) := rfl
theorem cal_0_182 : zm_cal 0 182 = some (0, 12, 4046, 4048, 1001, 37) := rfl
theorem cal_0_194 : zm_cal 0 194 = some (0, 148, 4054, 4055, 1010, 4056) := rfl
theorem cal_0_197 : zm_cal 0 197 = some (0, 149, 4058, 4059, 1010, 4060) := rfl
theorem cal_0_200 : zm_cal 0 200 = some (0, 15, 4066, 4068, 1001, 38) := rfl
theorem cal_0_203 : zm_cal 0 203 = some (0, 150, 4070, 4071, 1010, 4072) := rfl
theorem cal_0_220 : zm_cal 0 220 = some (0, 151, 4078, 4079, 1010, 4080) := rfl
theorem cal_0_223 : zm_cal 0 223 = some (0, 17, 4082, 4084, 1001, 39) := rfl
theorem cal_0_226 : zm_cal 0 226 = some (0, 18, 4090, 4092, 1001, 40) := rfl
theorem cal_0_232 : zm_cal 0 232 = some (0, 64, 4086, 4087, 1003, 4088) := rfl
theorem cal_0_242 : zm_cal 0 242 = some (1, 21, 4116, 4117, 1001, 0) := rfl
theorem cal_0_246 : zm_cal 0 246 = some (0, 114, 4124, 4125, 1012, 4126) := rfl
theorem cal_0_250 : zm_cal 0 250 = some (0, 116, 4131, 4132, 1012, 4133) := rfl
theorem cal_0_254 : zm_cal 0 254 = some (0, 117, 4139, 4140, 1012, 4141) := rfl
theorem cal_0_257 : zm_cal 0 257 = some (0, 25, 4148, 4150, 1001, 41) := rfl
theorem cal_0_260 : zm_cal 0 260 = some (0, 28, 4160, 4162, 1001, 43) := rfl
theorem cal_0_263 : zm_cal 0 263 = some (0, 56, 4168, 4169, 1013, 4170) := rfl
theorem cal_0_273 : zm_cal 0 273 = some (0, 31, 4188, 4190, 1001, 46) := rfl
theorem cal_0_276 : zm_cal 0 276 = some (0, 69, 4192, 4193, 1011, 4194) := rfl
theorem cal_0_280 : zm_cal 0 280 = some (0, 32, 4200, 4202, 1001, 47) := rfl
theorem cal_0_283 : zm_cal 0 283 = some (0, 39, 5003, 5005, 1001, 51) := rfl
theorem cal_0_287 : zm_cal 0 287 = some (0, 42, 5015, 5017, 1001, 52) := rfl
theorem cal_0_290 : zm_cal 0 290 = some (0, 71, 5023, 5024, 1011, 5025) := rfl
theorem cal_0_293 : zm_cal 0 293 = some (0, 72, 5035, 5036, 1011, 5037) := rfl
theorem cal_0_296 : zm_cal 0 296 = some (0, 47, 5044, 5046, 1001, 53) := rfl
theorem cal_0_299 : zm_cal 0 299 = some (0, 152, 5048, 4197, 1010, 4198) := rfl
theorem cal_0_305 : zm_cal 0 305 = some (0, 48, 5049, 5051, 1001, 54) := rfl
theorem cal_0_309 : zm_cal 0 309 = some (0, 127, 5061, 5062, 1014, 5063) := rfl
theorem cal_0_322 : zm_cal 0 322 = some (0, 104, 5081, 5082, 1015, 5083) := rfl
theorem cal_0_327 : zm_cal 0 327 = some (1, 108, 5104, 5105, 1015, 0) := rfl
theorem cal_0_333 : zm_cal 0 333 = some (0, 113, 4096, 4097, 1012, 4098) := rfl
theorem cal_0_339 : zm_cal 0 339 = some (0, 26, 4152, 4154, 1001, 42) := rfl
theorem cal_0_342 : zm_cal 0 342 = some (8, 0, 4023, 4018, 1018, 4019) := rfl
theorem cal_0_347 : zm_cal 0 347 = some (0, 9, 3221, 3223, 1001, 33) := rfl
theorem cal_0_359 : zm_cal 0 359 = some (0, 121, 3225, 3226, 1016, 3227) := rfl
theorem cal_0_363 : zm_cal 0 363 = some (9, 0, 4024, 4021, 1018, 4022) := rfl
theorem cal_0_366 : zm_cal 0 366 = some (0, 33, 4204, 4206, 1001, 48) := rfl
theorem cal_0_372 : zm_cal 0 372 = some (0, 35, 4219, 4221, 1001, 50) := rfl
theorem cal_0_375 : zm_cal 0 375 = some (0, 70, 4227, 4228, 1011, 4229) := rfl
theorem cal_0_379 : zm_cal 0 379 = some (0, 34, 4208, 4210, 1001, 49) := rfl
theorem cal_0_382 : zm_cal 0 382 = some (0, 118, 4215, 4216, 1012, 4217) := rfl
theorem cal_0_395 : zm_cal 0 395 = some (0, 119, 4223, 4224, 1012, 4225) := rfl
theorem cal_1_22 : zm_cal 1 22 = some (0, 113, 4172, 4097, 1012, 4098) := rfl
theorem cal_1_28 : zm_cal 1 28 = some (0, 117, 4173, 4140, 1012, 4141) := rfl
theorem cal_1_32 : zm_cal 1 32 = some (0, 116, 4174, 4132, 1012, 4133) := rfl
theorem cal_1_35 : zm_cal 1 35 = some (3, 21, 4175, 4117, 1001, 0) := rfl
theorem cal_1_44 : zm_cal 1 44 = some (0, 57, 4176, 4178, 1013, 44) := rfl
theorem cal_1_48 : zm_cal 1 48 = some (0, 58, 4180, 4182, 1013, 45) := rfl
theorem cal_2_76 : zm_cal 2 76 = some (0, 64, 4107, 4087, 1003, 4088) := rfl
theorem cal_3_35 : zm_cal 3 35 = some (0, 152, 4196, 4197, 1010, 4198) := rfl
theorem cal_3_39 : zm_cal 3 39 = some (8, 0, 4037, 4018, 1018, 4019) := rfl
theorem cal_3_45 : zm_cal 3 45 = some (0, 68, 5039, 4034, 1011, 4035) := rfl
theorem cal_4_28 : zm_cal 4 28 = some (0, 60, 3042, 1054, 1003, 1055) := rfl
theorem cal_4_36 : zm_cal 4 36 = some (0, 132, 3043, 3044, 1005, 3045) := rfl
theorem cal_4_42 : zm_cal 4 42 = some (0, 75, 3067, 3069, 1004, 6) := rfl
theorem cal_4_52 : zm_cal 4 52 = some (0, 76, 3071, 3073, 1004, 7) := rfl
theorem cal_4_62 : zm_cal 4 62 = some (0, 77, 3075, 3077, 1004, 8) := rfl
theorem cal_4_66 : zm_cal 4 66 = some (1, 78, 3079, 3080, 1004, 0) := rfl
theorem cal_4_69 : zm_cal 4 69 = some (0, 79, 3082, 3084, 1004, 9) := rfl
theorem cal_4_72 : zm_cal 4 72 = some (0, 133, 3086, 3048, 1005, 3049) := rfl
theorem cal_4_78 : zm_cal 4 78 = some (0, 80, 3087, 3089, 1004, 10) := rfl
theorem cal_4_81 : zm_cal 4 81 = some (0, 85, 3119, 3121, 1004, 15) := rfl
theorem cal_4_84 : zm_cal 4 84 = some (0, 87, 3131, 3133, 1004, 17) := rfl
theorem cal_4_87 : zm_cal 4 87 = some (0, 88, 3135, 3137, 1004, 18) := rfl
theorem cal_4_90 : zm_cal 4 90 = some (0, 89, 3139, 3141, 1004, 19) := rfl
theorem cal_4_93 : zm_cal 4 93 = some (0, 90, 3143, 3145, 1004, 20) := rfl
theorem cal_4_102 : zm_cal 4 102 = some (0, 99, 3182, 3184, 1004, 28) := rfl
theorem cal_4_111 : zm_cal 4 111 = some (0, 94, 3159, 3161, 1004, 24) := rfl
theorem cal_4_123 : zm_cal 4 123 = some (0, 81, 3091, 3093, 1004, 11) := rfl
theorem cal_4_127 : zm_cal 4 127 = some (0, 83, 3107, 3109, 1004, 13) := rfl
theorem cal_4_130 : zm_cal 4 130 = some (0, 84, 3115, 3117, 1004, 14) := rfl
theorem cal_4_144 : zm_cal 4 144 = some (0, 86, 3123, 3125, 1004, 16) := rfl
theorem cal_4_147 : zm_cal 4 147 = some (0, 139, 3127, 3128, 1005, 3129) := rfl
theorem cal_4_150 : zm_cal 4 150 = some (0, 82, 3095, 3097, 1004, 12) := rfl
theorem cal_4_156 : zm_cal 4 156 = some (0, 61, 3099, 3100, 1003, 3101) := rfl
theorem cal_4_175 : zm_cal 4 175 = some (0, 62, 3103, 3104, 1003, 3105) := rfl
theorem cal_4_184 : zm_cal 4 184 = some (0, 138, 3111, 3112, 1005, 3113) := rfl
theorem cal_4_187 : zm_cal 4 187 = some (0, 100, 3186, 3188, 1004, 29) := rfl
theorem cal_4_190 : zm_cal 4 190 = some (0, 63, 3167, 3168, 1003, 3169) := rfl
theorem cal_4_194 : zm_cal 4 194 = some (0, 101, 3190, 3192, 1004, 30) := rfl
theorem cal_4_197 : zm_cal 4 197 = some (0, 93, 3155, 3157, 1004, 23) := rfl
theorem cal_4_200 : zm_cal 4 200 = some (0, 102, 3194, 3196, 1004, 31) := rfl
theorem cal_4_203 : zm_cal 4 203 = some (0, 91, 3147, 3149, 1004, 21) := rfl
theorem cal_4_206 : zm_cal 4 206 = some (0, 98, 3178, 3180, 1004, 27) := rfl
theorem cal_4_209 : zm_cal 4 209 = some (0, 92, 3151, 3153, 1004, 22) := rfl
theorem cal_4_212 : zm_cal 4 212 = some (0, 97, 3174, 3176, 1004, 26) := rfl
theorem cal_4_215 : zm_cal 4 215 = some (0, 95, 3163, 3165, 1004, 25) := rfl
theorem cal_4_218 : zm_cal 4 218 = some (1, 96, 3171, 3172, 1004, 0) := rfl
theorem cal_5_24 : zm_cal 5 24 = some (0, 105, 5085, 5087, 1015, 57) := rfl
theorem cal_5_31 : zm_cal 5 31 = some (0, 106, 5089, 5091, 1015, 58) := rfl
theorem cal_5_54 : zm_cal 5 54 = some (1, 107, 5093, 5094, 1015, 0) := rfl
theorem cal_5_62 : zm_cal 5 62 = some (0, 143, 5107, 2196, 1010, 2197) := rfl
theorem cal_5_66 : zm_cal 5 66 = some (1, 109, 5108, 5109, 1015, 0) := rfl
theorem cal_5_70 : zm_cal 5 70 = some (1, 110, 5111, 5112, 1015, 0) := rfl
theorem cal_5_74 : zm_cal 5 74 = some (1, 111, 5114, 5115, 1015, 0) := rfl
theorem cal_6_36 : zm_cal 6 36 = some (0, 150, 4100, 4071, 1010, 4072) := rfl
theorem cal_6_45 : zm_cal 6 45 = some (8, 0, 4101, 4018, 1018, 4019) := rfl
theorem cal_6_63 : zm_cal 6 63 = some (0, 64, 4102, 4087, 1003, 4088) := rfl
theorem cal_6_66 : zm_cal 6 66 = some (0, 65, 4103, 4104, 1003, 4105) := rfl
theorem cal_6_69 : zm_cal 6 69 = some (1, 115, 4128, 4129, 1012, 0) := rfl
theorem cal_6_73 : zm_cal 6 73 = some (0, 114, 4143, 4125, 1012, 4126) := rfl
theorem cal_7_19 : zm_cal 7 19 = some (0, 122, 3229, 3231, 1016, 34) := rfl
theorem cal_7_23 : zm_cal 7 23 = some (0, 123, 3233, 3235, 1016, 35) := rfl
theorem cal_7_27 : zm_cal 7 27 = some (1, 124, 3237, 3238, 1016, 0) := rfl
theorem cal_7_31 : zm_cal 7 31 = some (1, 125, 4000, 4001, 1016, 0) := rfl
theorem cal_7_35 : zm_cal 7 35 = some (12, 0, 4011, 4012, 1018, 4013) := rfl
theorem cal_7_41 : zm_cal 7 41 = some (13, 0, 4014, 4015, 1018, 4016) := rfl
theorem cal_7_44 : zm_cal 7 44 = some (8, 0, 4017, 4018, 1018, 4019) := rfl
theorem cal_7_47 : zm_cal 7 47 = some (9, 0, 4020, 4021, 1018, 4022) := rfl
theorem cal_7_54 : zm_cal 7 54 = some (10, 0, 4005, 4006, 1018, 4007) := rfl
theorem cal_7_57 : zm_cal 7 57 = some (11, 0, 4008, 4009, 1018, 4010) := rfl
theorem cal_8_27 : zm_cal 8 27 = some (1, 128, 5065, 5066, 1014, 0) := rfl
theorem cal_8_31 : zm_cal 8 31 = some (0, 129, 5069, 5071, 1014, 55) := rfl
theorem cal_8_35 : zm_cal 8 35 = some (0, 130, 5073, 5075, 1014, 56) := rfl
theorem cal_8_47 : zm_cal 8 47 = some (0, 64, 5068, 4087, 1003, 4088) := rfl
theorem cal_9_38 : zm_cal 9 38 = some (0, 133, 3047, 3048, 1005, 3049) := rfl
theorem cal_9_57 : zm_cal 9 57 = some (0, 134, 3051, 3053, 1005, 2) := rfl
theorem cal_9_60 : zm_cal 9 60 = some (0, 135, 3055, 3057, 1005, 3) := rfl
theorem cal_9_63 : zm_cal 9 63 = some (0, 136, 3059, 3061, 1005, 4) := rfl
theorem cal_9_67 : zm_cal 9 67 = some (0, 137, 3063, 3065, 1005, 5) := rfl
theorem cal_11_36 : zm_cal 11 36 = some (1, 145, 3214, 3215, 1010, 0) := rfl
theorem cal_12_249 : zm_cal 12 249 = some (0, 155, 6128, 6130, 1017, 59) := rfl
theorem cal_12_253 : zm_cal 12 253 = some (0, 156, 6132, 6134, 1017, 60) := rfl
theorem cal_12_257 : zm_cal 12 257 = some (0, 164, 6162, 6164, 1017, 64) := rfl
theorem cal_12_261 : zm_cal 12 261 = some (1, 160, 6148, 6149, 1017, 0) := rfl
theorem cal_12_265 : zm_cal 12 265 = some (1, 161, 6151, 6152, 1017, 0) := rfl
theorem cal_12_268 : zm_cal 12 268 = some (0, 163, 6158, 6160, 1017, 63) := rfl
theorem cal_12_271 : zm_cal 12 271 = some (0, 187, 7037, 7039, 1017, 85) := rfl
theorem cal_12_274 : zm_cal 12 274 = some (0, 159, 6144, 6146, 1017, 61) := rfl
theorem cal_12_327 : zm_cal 12 327 = some (0, 171, 6215, 6217, 1017, 71) := rfl
theorem cal_12_331 : zm_cal 12 331 = some (0, 172, 6219, 6221, 1017, 72) := rfl
theorem cal_12_335 : zm_cal 12 335 = some (1, 175, 6231, 6232, 1017, 0) := rfl
theorem cal_12_339 : zm_cal 12 339 = some (1, 192, 7057, 7058, 1017, 0) := rfl
theorem cal_12_342 : zm_cal 12 342 = some (0, 189, 7045, 7047, 1017, 87) := rfl
theorem cal_12_345 : zm_cal 12 345 = some (0, 183, 7022, 7024, 1017, 82) := rfl
theorem cal_12_348 : zm_cal 12 348 = some (1, 185, 7030, 7031, 1017, 0) := rfl
theorem cal_12_351 : zm_cal 12 351 = some (0, 165, 6167, 6169, 1017, 65) := rfl
theorem cal_12_355 : zm_cal 12 355 = some (0, 186, 7033, 7035, 1017, 84) := rfl
theorem cal_12_358 : zm_cal 12 358 = some (0, 188, 7041, 7043, 1017, 86) := rfl
theorem cal_12_361 : zm_cal 12 361 = some (0, 191, 7053, 7055, 1017, 89) := rfl
theorem cal_12_364 : zm_cal 12 364 = some (0, 184, 7026, 7028, 1017, 83) := rfl
theorem cal_12_367 : zm_cal 12 367 = some (0, 190, 7049, 7051, 1017, 88) := rfl
theorem cal_12_370 : zm_cal 12 370 = some (0, 169, 6183, 6185, 1017, 69) := rfl
theorem cal_12_373 : zm_cal 12 373 = some (0, 170, 6211, 6213, 1017, 70) := rfl
theorem cal_12_377 : zm_cal 12 377 = some (0, 177, 6238, 7000, 1017, 76) := rfl
theorem cal_12_380 : zm_cal 12 380 = some (0, 167, 6175, 6177, 1017, 67) := rfl
theorem cal_12_384 : zm_cal 12 384 = some (0, 168, 6179, 6181, 1017, 68) := rfl
theorem cal_12_388 : zm_cal 12 388 = some (0, 173, 6223, 6225, 1017, 73) := rfl
theorem cal_12_392 : zm_cal 12 392 = some (0, 174, 6227, 6229, 1017, 74) := rfl
theorem cal_12_395 : zm_cal 12 395 = some (0, 180, 7010, 7012, 1017, 79) := rfl
theorem cal_12_398 : zm_cal 12 398 = some (0, 182, 7018, 7020, 1017, 81) := rfl
theorem cal_12_402 : zm_cal 12 402 = some (0, 166, 6171, 6173, 1017, 66) := rfl
theorem cal_12_405 : zm_cal 12 405 = some (0, 176, 6234, 6236, 1017, 75) := rfl
theorem cal_12_408 : zm_cal 12 408 = some (0, 178, 7002, 7004, 1017, 77) := rfl
theorem cal_12_411 : zm_cal 12 411 = some (0, 179, 7006, 7008, 1017, 78) := rfl
theorem cal_12_414 : zm_cal 12 414 = some (0, 181, 7014, 7016, 1017, 80) := rfl
theorem cal_12_417 : zm_cal 12 417 = some (0, 193, 7060, 7062, 1017, 90) := rfl
theorem cal_12_420 : zm_cal 12 420 = some (0, 194, 7064, 7066, 1017, 91) := rfl
theorem cal_12_423 : zm_cal 12 423 = some (0, 196, 7072, 7074, 1017, 93) := rfl
theorem cal_12_425 : zm_cal 12 425 = some (0, 162, 6154, 6156, 1017, 62) := rfl
theorem cal_12_428 : zm_cal 12 428 = some (0, 195, 7068, 7070, 1017, 92) := rfl
theorem cal_12_431 : zm_cal 12 431 = some (0, 197, 7076, 7078, 1017, 94) := rfl
theorem cal_12_434 : zm_cal 12 434 = some (0, 201, 7092, 7094, 1017, 95) := rfl
theorem cal_12_437 : zm_cal 12 437 = some (0, 202, 7096, 7098, 1017, 96) := rfl
theorem cal_12_444 : zm_cal 12 444 = some (1, 212, 7135, 7136, 1017, 0) := rfl
theorem cal_12_448 : zm_cal 12 448 = some (1, 213, 7140, 7141, 1017, 0) := rfl
theorem cal_12_452 : zm_cal 12 452 = some (0, 210, 7128, 7130, 1017, 103) := rfl
theorem cal_12_456 : zm_cal 12 456 = some (1, 211, 7132, 7133, 1017, 0) := rfl
theorem cal_12_460 : zm_cal 12 460 = some (0, 206, 7112, 7114, 1017, 99) := rfl
theorem cal_12_464 : zm_cal 12 464 = some (0, 205, 7108, 7110, 1017, 98) := rfl
theorem cal_12_467 : zm_cal 12 467 = some (0, 227, 7197, 7199, 1017, 113) := rfl
theorem cal_12_470 : zm_cal 12 470 = some (0, 228, 7201, 7203, 1017, 114) := rfl
theorem cal_12_473 : zm_cal 12 473 = some (0, 224, 7185, 7187, 1017, 110) := rfl
theorem cal_12_476 : zm_cal 12 476 = some (0, 219, 7165, 7167, 1017, 107) := rfl
theorem cal_12_479 : zm_cal 12 479 = some (0, 234, 7225, 7227, 1017, 117) := rfl
theorem cal_12_482 : zm_cal 12 482 = some (0, 235, 7229, 7231, 1017, 118) := rfl
theorem cal_12_485 : zm_cal 12 485 = some (1, 236, 7233, 7234, 1017, 0) := rfl
theorem cal_12_489 : zm_cal 12 489 = some (0, 233, 7221, 7223, 1017, 116) := rfl
theorem cal_12_494 : zm_cal 12 494 = some (0, 226, 7193, 7195, 1017, 112) := rfl
theorem cal_12_497 : zm_cal 12 497 = some (0, 239, 8004, 8006, 1017, 119) := rfl
theorem cal_12_501 : zm_cal 12 501 = some (0, 204, 7104, 7106, 1017, 97) := rfl
theorem cal_12_504 : zm_cal 12 504 = some (0, 208, 7120, 7122, 1017, 101) := rfl
theorem cal_12_507 : zm_cal 12 507 = some (0, 209, 7124, 7126, 1017, 102) := rfl
theorem cal_12_512 : zm_cal 12 512 = some (0, 215, 7148, 7150, 1017, 105) := rfl
theorem cal_12_515 : zm_cal 12 515 = some (0, 207, 7116, 7118, 1017, 100) := rfl
theorem cal_12_518 : zm_cal 12 518 = some (0, 214, 7144, 7146, 1017, 104) := rfl
theorem cal_12_523 : zm_cal 12 523 = some (0, 218, 7161, 7163, 1017, 106) := rfl
theorem cal_12_526 : zm_cal 12 526 = some (0, 221, 7173, 7175, 1017, 108) := rfl
theorem cal_12_529 : zm_cal 12 529 = some (0, 223, 7181, 7183, 1017, 109) := rfl
theorem cal_12_532 : zm_cal 12 532 = some (0, 225, 7189, 7191, 1017, 111) := rfl
theorem cal_12_535 : zm_cal 12 535 = some (0, 231, 7213, 7215, 1017, 115) := rfl
theorem cal_12_538 : zm_cal 12 538 = some (1, 237, 7236, 7237, 1017, 0) := rfl
theorem cal_12_542 : zm_cal 12 542 = some (0, 242, 8016, 8018, 1017, 121) := rfl
theorem cal_12_545 : zm_cal 12 545 = some (0, 241, 8012, 8014, 1017, 120) := rfl
theorem cal_12_549 : zm_cal 12 549 = some (0, 245, 8028, 8030, 1017, 122) := rfl
theorem cal_12_560 : zm_cal 12 560 = some (0, 250, 8048, 8050, 1017, 126) := rfl
theorem cal_12_563 : zm_cal 12 563 = some (0, 249, 8044, 8046, 1017, 125) := rfl
theorem cal_12_566 : zm_cal 12 566 = some (0, 251, 8056, 8058, 1017, 127) := rfl
theorem cal_12_569 : zm_cal 12 569 = some (0, 252, 8060, 8062, 1017, 128) := rfl
theorem cal_12_573 : zm_cal 12 573 = some (0, 247, 8036, 8038, 1017, 123) := rfl
theorem cal_12_576 : zm_cal 12 576 = some (0, 248, 8040, 8042, 1017, 124) := rfl
theorem cal_12_579 : zm_cal 12 579 = some (0, 261, 8096, 8098, 1017, 129) := rfl
theorem cal_12_582 : zm_cal 12 582 = some (0, 265, 8112, 8114, 1017, 131) := rfl
theorem cal_12_585 : zm_cal 12 585 = some (0, 266, 8116, 8118, 1017, 132) := rfl
theorem cal_12_588 : zm_cal 12 588 = some (0, 267, 8120, 8122, 1017, 133) := rfl
theorem cal_12_591 : zm_cal 12 591 = some (0, 264, 8108, 8110, 1017, 130) := rfl
theorem cal_12_594 : zm_cal 12 594 = some (0, 269, 8128, 8130, 1017, 134) := rfl
theorem cal_12_597 : zm_cal 12 597 = some (0, 270, 8132, 8134, 1017, 135) := rfl
theorem cal_12_600 : zm_cal 12 600 = some (0, 274, 8148, 8150, 1017, 137) := rfl
theorem cal_12_603 : zm_cal 12 603 = some (0, 273, 8144, 8146, 1017, 136) := rfl
theorem lng_0_337 : zm_lng 0 337 = some (1000, 4119) := rfl
theorem lng_0_386 : zm_lng 0 386 = some (1103515245, 4212) := rfl
theorem lng_0_388 : zm_lng 0 388 = some (12345, 4213) := rfl
theorem lng_0_390 : zm_lng 0 390 = some (2147483647, 4214) := rfl
theorem lng_7_50 : zm_lng 7 50 = some (-1000000, 4003) := rfl
theorem lng_7_52 : zm_lng 7 52 = some (1000000, 4004) := rfl
theorem lng_12_277 : zm_lng 12 277 = some (1802071652, 6166) := rfl
theorem lng_12_279 : zm_lng 12 279 = some (512970880104, 6187) := rfl
theorem lng_12_281 : zm_lng 12 281 = some (1936292453, 6188) := rfl
theorem lng_12_283 : zm_lng 12 283 = some (465491813746, 6189) := rfl
theorem lng_12_285 : zm_lng 12 285 = some (426953501796, 6190) := rfl
theorem lng_12_287 : zm_lng 12 287 = some (491327153000, 6191) := rfl
theorem lng_12_289 : zm_lng 12 289 = some (439787809907, 6192) := rfl
theorem lng_12_291 : zm_lng 12 291 = some (439855772532, 6193) := rfl
theorem lng_12_293 : zm_lng 12 293 = some (1650815860, 6194) := rfl
theorem lng_12_295 : zm_lng 12 295 = some (465491355493, 6195) := rfl
theorem lng_12_297 : zm_lng 12 297 = some (495756340332, 6196) := rfl
theorem lng_12_299 : zm_lng 12 299 = some (465625113971, 6197) := rfl
theorem lng_12_301 : zm_lng 12 301 = some (427071599731, 6198) := rfl
theorem lng_12_303 : zm_lng 12 303 = some (1886745715, 6199) := rfl
theorem lng_12_305 : zm_lng 12 305 = some (483006772069, 6200) := rfl
theorem lng_12_307 : zm_lng 12 307 = some (1752135026, 6201) := rfl
theorem lng_12_309 : zm_lng 12 309 = some (1818584692, 6202) := rfl
theorem lng_12_311 : zm_lng 12 311 = some (1684631667, 6203) := rfl
theorem lng_12_313 : zm_lng 12 313 = some (1835360622, 6204) := rfl
theorem lng_12_315 : zm_lng 12 315 = some (28530, 6205) := rfl
theorem lng_12_317 : zm_lng 12 317 = some (6385252, 6206) := rfl
theorem lng_12_319 : zm_lng 12 319 = some (7237492, 6207) := rfl
theorem lng_12_321 : zm_lng 12 321 = some (6384748, 6208) := rfl
theorem lng_12_323 : zm_lng 12 323 = some (7170414, 6209) := rfl
theorem lng_12_325 : zm_lng 12 325 = some (7168376, 6210) := rfl
theorem lng_12_440 : zm_lng 12 440 = some (1000000, 7138) := rfl
theorem lng_12_442 : zm_lng 12 442 = some (-1000000, 7139) := rfl
theorem lng_12_492 : zm_lng 12 492 = some (1000, 7239) := rfl
theorem lng_12_510 : zm_lng 12 510 = some (99, 7143) := rfl
theorem lng_12_521 : zm_lng 12 521 = some (255, 7156) := rfl
theorem lng_12_552 : zm_lng 12 552 = some (1103515245, 8052) := rfl
theorem lng_12_554 : zm_lng 12 554 = some (12345, 8053) := rfl
theorem lng_12_556 : zm_lng 12 556 = some (2147483648, 8054) := rfl
theorem lng_12_558 : zm_lng 12 558 = some (64, 8055) := rfl
theorem ow_1 : zm_own 1 = 0 := rfl
theorem na_1 : zm_na 1 = 6 := rfl
theorem mx_1 : zm_mx 1 = 6 := rfl
theorem rt_1 : zm_ret 1 = 0 := rfl
theorem rk_1 (as : List zm_V) : zm_rk 1 as = 2 := rfl
theorem ow_2 : zm_own 2 = 0 := rfl
theorem na_2 : zm_na 2 = 2 := rfl
theorem mx_2 : zm_mx 2 = 2 := rfl
theorem rt_2 : zm_ret 2 = 0 := rfl
theorem rk_2 (as : List zm_V) : zm_rk 2 as = 1 := rfl
theorem ow_3 : zm_own 3 = 0 := rfl
theorem na_3 : zm_na 3 = 2 := rfl
theorem mx_3 : zm_mx 3 = 2 := rfl
theorem rt_3 : zm_ret 3 = 1 := rfl
theorem rk_3 (as : List zm_V) : zm_rk 3 as = 2 := rfl
theorem ow_4 : zm_own 4 = 0 := rfl
theorem na_4 : zm_na 4 = 2 := rfl
theorem mx_4 : zm_mx 4 = 2 := rfl
theorem rt_4 : zm_ret 4 = 1 := rfl
theorem rk_4 (as : List zm_V) : zm_rk 4 as = 1 := rfl
theorem ow_5 : zm_own 5 = 0 := rfl
theorem na_5 : zm_na 5 = 1 := rfl
theorem mx_5 : zm_mx 5 = 3 := rfl
theorem rt_5 : zm_ret 5 = 0 := rfl
theorem rk_5 (as : List zm_V) : zm_rk 5 as = 94 := rfl
theorem ow_6 : zm_own 6 = 0 := rfl
theorem na_6 : zm_na 6 = 2 := rfl
theorem mx_6 : zm_mx 6 = 2 := rfl
theorem rt_6 : zm_ret 6 = 0 := rfl
theorem rk_6 (as : List zm_V) : zm_rk 6 as = 1 := rfl
theorem ow_7 : zm_own 7 = 0 := rfl
theorem na_7 : zm_na 7 = 2 := rfl
theorem mx_7 : zm_mx 7 = 2 := rfl
theorem rt_7 : zm_ret 7 = 0 := rfl
theorem rk_7 (as : List zm_V) : zm_rk 7 as = 5 := rfl
theorem ow_8 : zm_own 8 = 0 := rfl
theorem na_8 : zm_na 8 = 1 := rfl
theorem mx_8 : zm_mx 8 = 2 := rfl
theorem rt_8 : zm_ret 8 = 0 := rfl
theorem rk_8 (as : List zm_V) : zm_rk 8 as = 4 := rfl
theorem ow_9 : zm_own 9 = 0 := rfl
theorem na_9 : zm_na 9 = 1 := rfl
theorem mx_9 : zm_mx 9 = 1 := rfl
theorem rt_9 : zm_ret 9 = 3 := rfl
theorem rk_9 (as : List zm_V) : zm_rk 9 as = 3 := rfl
theorem ow_10 : zm_own 10 = 0 := rfl
theorem na_10 : zm_na 10 = 4 := rfl
theorem mx_10 : zm_mx 10 = 5 := rfl
theorem rt_10 : zm_ret 10 = 0 := rfl
theorem rk_10 (as : List zm_V) : zm_rk 10 as = 2 := rfl
theorem ow_11 : zm_own 11 = 0 := rfl
theorem na_11 : zm_na 11 = 2 := rfl
theorem mx_11 : zm_mx 11 = 2 := rfl
theorem rt_11 : zm_ret 11 = 1 := rfl
theorem rk_11 (as : List zm_V) : zm_rk 11 as = 1 := rfl
theorem ow_12 : zm_own 12 = 0 := rfl
theorem na_12 : zm_na 12 = 2 := rfl
theorem mx_12 : zm_mx 12 = 2 := rfl
theorem rt_12 : zm_ret 12 = 1 := rfl
theorem rk_12 (as : List zm_V) : zm_rk 12 as = 1 := rfl
theorem ow_13 : zm_own 13 = 0 := rfl
theorem na_13 : zm_na 13 = 3 := rfl
theorem mx_13 : zm_mx 13 = 3 := rfl
theorem rt_13 : zm_ret 13 = 0 := rfl
theorem rk_13 (as : List zm_V) : zm_rk 13 as = 2 := rfl
theorem ow_14 : zm_own 14 = 0 := rfl
theorem na_14 : zm_na 14 = 3 := rfl
theorem mx_14 : zm_mx 14 = 3 := rfl
theorem rt_14 : zm_ret 14 = 0 := rfl
theorem rk_14 (as : List zm_V) : zm_rk 14 as = 3 := rfl
theorem ow_15 : zm_own 15 = 0 := rfl
theorem na_15 : zm_na 15 = 2 := rfl
theorem mx_15 : zm_mx 15 = 2 := rfl
theorem rt_15 : zm_ret 15 = 1 := rfl
theorem rk_15 (as : List zm_V) : zm_rk 15 as = 1 := rfl
theorem ow_16 : zm_own 16 = 0 := rfl
theorem na_16 : zm_na 16 = 3 := rfl
theorem mx_16 : zm_mx 16 = 3 := rfl
theorem rt_16 : zm_ret 16 = 0 := rfl
theorem rk_16 (as : List zm_V) : zm_rk 16 as = 5 := rfl
theorem ow_17 : zm_own 17 = 0 := rfl
theorem na_17 : zm_na 17 = 2 := rfl
theorem mx_17 : zm_mx 17 = 4 := rfl
theorem rt_17 : zm_ret 17 = 0 := rfl
theorem rk_17 (as : List zm_V) : zm_rk 17 as = 2 := rfl
theorem ow_18 : zm_own 18 = 0 := rfl
theorem na_18 : zm_na 18 = 2 := rfl
theorem mx_18 : zm_mx 18 = 2 := rfl
theorem rt_18 : zm_ret 18 = 3 := rfl
theorem rk_18 (as : List zm_V) : zm_rk 18 as = 4 := rfl
theorem ow_19 : zm_own 19 = 0 := rfl
theorem na_19 : zm_na 19 = 4 := rfl
theorem mx_19 : zm_mx 19 = 4 := rfl
theorem rt_19 : zm_ret 19 = 0 := rfl
theorem rk_19 (as : List zm_V) : zm_rk 19 as = 5 := rfl
theorem ow_20 : zm_own 20 = 0 := rfl
theorem na_20 : zm_na 20 = 3 := rfl
theorem mx_20 : zm_mx 20 = 3 := rfl
theorem rt_20 : zm_ret 20 = 0 := rfl
theorem rk_20 (as : List zm_V) : zm_rk 20 as = 5 := rfl
theorem ow_21 : zm_own 21 = 0 := rfl
theorem na_21 : zm_na 21 = 2 := rfl
theorem mx_21 : zm_mx 21 = 4 := rfl
theorem rt_21 : zm_ret 21 = 0 := rfl
theorem rk_21 (as : List zm_V) : zm_rk 21 as = 1 := rfl
theorem ow_22 : zm_own 22 = 0 := rfl
theorem na_22 : zm_na 22 = 3 := rfl
theorem mx_22 : zm_mx 22 = 3 := rfl
theorem rt_22 : zm_ret 22 = 0 := rfl
theorem rk_22 (as : List zm_V) : zm_rk 22 as = 5 := rfl
theorem ow_23 : zm_own 23 = 0 := rfl
theorem na_23 : zm_na 23 = 2 := rfl
theorem mx_23 : zm_mx 23 = 2 := rfl
theorem rt_23 : zm_ret 23 = 0 := rfl
theorem rk_23 (as : List zm_V) : zm_rk 23 as = 5 := rfl
theorem ow_24 : zm_own 24 = 0 := rfl
theorem na_24 : zm_na 24 = 3 := rfl
theorem mx_24 : zm_mx 24 = 3 := rfl
theorem rt_24 : zm_ret 24 = 0 := rfl
theorem rk_24 (as : List zm_V) : zm_rk 24 as = 7 := rfl
theorem ow_25 : zm_own 25 = 0 := rfl
theorem na_25 : zm_na 25 = 2 := rfl
theorem mx_25 : zm_mx 25 = 2 := rfl
theorem rt_25 : zm_ret 25 = 0 := rfl
theorem rk_25 (as : List zm_V) : zm_rk 25 as = 6 := rfl
theorem ow_26 : zm_own 26 = 0 := rfl
theorem na_26 : zm_na 26 = 2 := rfl
theorem mx_26 : zm_mx 26 = 4 := rfl
theorem rt_26 : zm_ret 26 = 0 := rfl
theorem rk_26 (as : List zm_V) : zm_rk 26 as = 5 := rfl
theorem ow_27 : zm_own 27 = 0 := rfl
theorem na_27 : zm_na 27 = 2 := rfl
theorem mx_27 : zm_mx 27 = 6 := rfl
theorem rt_27 : zm_ret 27 = 0 := rfl
theorem rk_27 (as : List zm_V) : zm_rk 27 as = 7 := rfl
theorem ow_28 : zm_own 28 = 0 := rfl
theorem na_28 : zm_na 28 = 2 := rfl
theorem mx_28 : zm_mx 28 = 4 := rfl
theorem rt_28 : zm_ret 28 = 0 := rfl
theorem rk_28 (as : List zm_V) : zm_rk 28 as = 1 := rfl
theorem ow_29 : zm_own 29 = 0 := rfl
theorem na_29 : zm_na 29 = 3 := rfl
theorem mx_29 : zm_mx 29 = 3 := rfl
theorem rt_29 : zm_ret 29 = 0 := rfl
theorem rk_29 (as : List zm_V) : zm_rk 29 as = 5 := rfl
theorem ow_30 : zm_own 30 = 0 := rfl
theorem na_30 : zm_na 30 = 2 := rfl
theorem mx_30 : zm_mx 30 = 2 := rfl
theorem rt_30 : zm_ret 30 = 0 := rfl
theorem rk_30 (as : List zm_V) : zm_rk 30 as = 6 := rfl
theorem ow_31 : zm_own 31 = 0 := rfl
theorem na_31 : zm_na 31 = 2 := rfl
theorem mx_31 : zm_mx 31 = 2 := rfl
theorem rt_31 : zm_ret 31 = 1 := rfl
theorem rk_31 (as : List zm_V) : zm_rk 31 as = 5 := rfl
theorem ow_32 : zm_own 32 = 0 := rfl
theorem na_32 : zm_na 32 = 2 := rfl
theorem mx_32 : zm_mx 32 = 6 := rfl
theorem rt_32 : zm_ret 32 = 0 := rfl
theorem rk_32 (as : List zm_V) : zm_rk 32 as = 5 := rfl
theorem ow_33 : zm_own 33 = 0 := rfl
theorem na_33 : zm_na 33 = 1 := rfl
theorem mx_33 : zm_mx 33 = 1 := rfl
theorem rt_33 : zm_ret 33 = 0 := rfl
theorem rk_33 (as : List zm_V) : zm_rk 33 as = 2 := rfl
theorem ow_34 : zm_own 34 = 0 := rfl
theorem na_34 : zm_na 34 = 2 := rfl
theorem mx_34 : zm_mx 34 = 2 := rfl
theorem rt_34 : zm_ret 34 = 0 := rfl
theorem rk_34 (as : List zm_V) : zm_rk 34 as = 1 := rfl
theorem ow_35 : zm_own 35 = 0 := rfl
theorem na_35 : zm_na 35 = 2 := rfl
theorem mx_35 : zm_mx 35 = 2 := rfl
theorem rt_35 : zm_ret 35 = 1 := rfl
theorem rk_35 (as : List zm_V) : zm_rk 35 as = 4 := rfl
theorem ow_36 : zm_own 36 = 0 := rfl
theorem na_36 : zm_na 36 = 1 := rfl
theorem mx_36 : zm_mx 36 = 1 := rfl
theorem rt_36 : zm_ret 36 = 0 := rfl
theorem rk_36 (as : List zm_V) : zm_rk 36 as = 3 := rfl
theorem ow_37 : zm_own 37 = 0 := rfl
theorem na_37 : zm_na 37 = 4 := rfl
theorem mx_37 : zm_mx 37 = 5 := rfl
theorem rt_37 : zm_ret 37 = 0 := rfl
theorem rk_37 (as : List zm_V) : zm_rk 37 as = 3 := rfl
theorem ow_38 : zm_own 38 = 0 := rfl
theorem na_38 : zm_na 38 = 3 := rfl
theorem mx_38 : zm_mx 38 = 3 := rfl
theorem rt_38 : zm_ret 38 = 1 := rfl
theorem rk_38 (as : List zm_V) : zm_rk 38 as = 3 := rfl
theorem ow_39 : zm_own 39 = 0 := rfl
theorem na_39 : zm_na 39 = 3 := rfl
theorem mx_39 : zm_mx 39 = 3 := rfl
theorem rt_39 : zm_ret 39 = 1 := rfl
theorem rk_39 (as : List zm_V) : zm_rk 39 as = 2 := rfl
theorem ow_40 : zm_own 40 = 0 := rfl
theorem na_40 : zm_na 40 = 5 := rfl
theorem mx_40 : zm_mx 40 = 5 := rfl
theorem rt_40 : zm_ret 40 = 1 := rfl
theorem rk_40 (as : List zm_V) : zm_rk 40 as = 3 := rfl
theorem ow_41 : zm_own 41 = 0 := rfl
theorem na_41 : zm_na 41 = 2 := rfl
theorem mx_41 : zm_mx 41 = 5 := rfl
theorem rt_41 : zm_ret 41 = 0 := rfl
theorem rk_41 (as : List zm_V) : zm_rk 41 as = 7 := rfl
theorem ow_42 : zm_own 42 = 0 := rfl
theorem na_42 : zm_na 42 = 1 := rfl
theorem mx_42 : zm_mx 42 = 2 := rfl
theorem rt_42 : zm_ret 42 = 3 := rfl
theorem rk_42 (as : List zm_V) : zm_rk 42 as = 6 := rfl
theorem ow_43 : zm_own 43 = 0 := rfl
theorem na_43 : zm_na 43 = 1 := rfl
theorem mx_43 : zm_mx 43 = 1 := rfl
theorem rt_43 : zm_ret 43 = 1 := rfl
theorem rk_43 (as : List zm_V) : zm_rk 43 as = 3 := rfl
theorem ow_44 : zm_own 44 = 0 := rfl
theorem na_44 : zm_na 44 = 2 := rfl
theorem mx_44 : zm_mx 44 = 2 := rfl
theorem rt_44 : zm_ret 44 = 1 := rfl
theorem rk_44 (as : List zm_V) : zm_rk 44 as = 2 := rfl
theorem ow_45 : zm_own 45 = 0 := rfl
theorem na_45 : zm_na 45 = 3 := rfl
theorem mx_45 : zm_mx 45 = 3 := rfl
theorem rt_45 : zm_ret 45 = 0 := rfl
theorem rk_45 (as : List zm_V) : zm_rk 45 as = 3 := rfl
theorem ow_46 : zm_own 46 = 0 := rfl
theorem na_46 : zm_na 46 = 1 := rfl
theorem mx_46 : zm_mx 46 = 5 := rfl
theorem rt_46 : zm_ret 46 = 0 := rfl
theorem rk_46 (as : List zm_V) : zm_rk 46 as = 5 := rfl
theorem ow_47 : zm_own 47 = 0 := rfl
theorem na_47 : zm_na 47 = 2 := rfl
theorem mx_47 : zm_mx 47 = 3 := rfl
theorem rt_47 : zm_ret 47 = 1 := rfl
theorem rk_47 (as : List zm_V) : zm_rk 47 as = 2 := rfl
theorem ow_48 : zm_own 48 = 0 := rfl
theorem na_48 : zm_na 48 = 4 := rfl
theorem mx_48 : zm_mx 48 = 5 := rfl
theorem rt_48 : zm_ret 48 = 0 := rfl
theorem rk_48 (as : List zm_V) : zm_rk 48 as = 4 := rfl
theorem ow_49 : zm_own 49 = 0 := rfl
theorem na_49 : zm_na 49 = 3 := rfl
theorem mx_49 : zm_mx 49 = 3 := rfl
theorem rt_49 : zm_ret 49 = 0 := rfl
theorem rk_49 (as : List zm_V) : zm_rk 49 as = 2 := rfl
theorem ow_50 : zm_own 50 = 0 := rfl
theorem na_50 : zm_na 50 = 3 := rfl
theorem mx_50 : zm_mx 50 = 3 := rfl
theorem rt_50 : zm_ret 50 = 0 := rfl
theorem rk_50 (as : List zm_V) : zm_rk 50 as = 4 := rfl
theorem ow_51 : zm_own 51 = 0 := rfl
theorem na_51 : zm_na 51 = 1 := rfl
theorem mx_51 : zm_mx 51 = 1 := rfl
theorem rt_51 : zm_ret 51 = 0 := rfl
theorem rk_51 (as : List zm_V) : zm_rk 51 as = 4 := rfl
theorem ow_52 : zm_own 52 = 0 := rfl
theorem na_52 : zm_na 52 = 2 := rfl
theorem mx_52 : zm_mx 52 = 2 := rfl
theorem rt_52 : zm_ret 52 = 0 := rfl
theorem rk_52 (as : List zm_V) : zm_rk 52 as = 1 := rfl
theorem ow_53 : zm_own 53 = 0 := rfl
theorem na_53 : zm_na 53 = 1 := rfl
theorem mx_53 : zm_mx 53 = 2 := rfl
theorem rt_53 : zm_ret 53 = 1 := rfl
theorem rk_53 (as : List zm_V) : zm_rk 53 as = 4 := rfl
theorem ow_54 : zm_own 54 = 0 := rfl
theorem na_54 : zm_na 54 = 2 := rfl
theorem mx_54 : zm_mx 54 = 2 := rfl
theorem rt_54 : zm_ret 54 = 0 := rfl
theorem rk_54 (as : List zm_V) : zm_rk 54 as = 1 := rfl
theorem ow_56 : zm_own 56 = 1 := rfl
theorem na_56 : zm_na 56 = 5 := rfl
theorem mx_56 : zm_mx 56 = 8 := rfl
theorem rt_56 : zm_ret 56 = 3 := rfl
theorem rk_56 (as : List zm_V) : zm_rk 56 as = 4 := rfl
theorem ow_57 : zm_own 57 = 1 := rfl
theorem na_57 : zm_na 57 = 2 := rfl
theorem mx_57 : zm_mx 57 = 6 := rfl
theorem rt_57 : zm_ret 57 = 1 := rfl
theorem rk_57 (as : List zm_V) : zm_rk 57 as = 2 := rfl
theorem ow_58 : zm_own 58 = 1 := rfl
theorem na_58 : zm_na 58 = 3 := rfl
theorem mx_58 : zm_mx 58 = 4 := rfl
theorem rt_58 : zm_ret 58 = 3 := rfl
theorem rk_58 (as : List zm_V) : zm_rk 58 as = 1 := rfl
theorem ow_60 : zm_own 60 = 2 := rfl
theorem na_60 : zm_na 60 = 1 := rfl
theorem mx_60 : zm_mx 60 = 2 := rfl
theorem rt_60 : zm_ret 60 = 3 := rfl
theorem rk_60 (as : List zm_V) : zm_rk 60 as = 1 := rfl
theorem ow_61 : zm_own 61 = 2 := rfl
theorem na_61 : zm_na 61 = 2 := rfl
theorem mx_61 : zm_mx 61 = 3 := rfl
theorem rt_61 : zm_ret 61 = 0 := rfl
theorem rk_61 (as : List zm_V) : zm_rk 61 as = 1 := rfl
theorem ow_62 : zm_own 62 = 2 := rfl
theorem na_62 : zm_na 62 = 2 := rfl
theorem mx_62 : zm_mx 62 = 3 := rfl
theorem rt_62 : zm_ret 62 = 0 := rfl
theorem rk_62 (as : List zm_V) : zm_rk 62 as = 1 := rfl
theorem ow_63 : zm_own 63 = 2 := rfl
theorem na_63 : zm_na 63 = 2 := rfl
theorem mx_63 : zm_mx 63 = 2 := rfl
theorem rt_63 : zm_ret 63 = 3 := rfl
theorem rk_63 (as : List zm_V) : zm_rk 63 as = 1 := rfl
theorem ow_64 : zm_own 64 = 2 := rfl
theorem na_64 : zm_na 64 = 3 := rfl
theorem mx_64 : zm_mx 64 = 4 := rfl
theorem rt_64 : zm_ret 64 = 0 := rfl
theorem rk_64 (as : List zm_V) : zm_rk 64 as = 1 := rfl
theorem ow_65 : zm_own 65 = 2 := rfl
theorem na_65 : zm_na 65 = 3 := rfl
theorem mx_65 : zm_mx 65 = 3 := rfl
theorem rt_65 : zm_ret 65 = 0 := rfl
theorem rk_65 (as : List zm_V) : zm_rk 65 as = 2 := rfl
theorem ow_67 : zm_own 67 = 3 := rfl
theorem na_67 : zm_na 67 = 1 := rfl
theorem mx_67 : zm_mx 67 = 1 := rfl
theorem rt_67 : zm_ret 67 = 3 := rfl
theorem rk_67 (as : List zm_V) : zm_rk 67 as = 1 := rfl
theorem ow_68 : zm_own 68 = 3 := rfl
theorem na_68 : zm_na 68 = 1 := rfl
theorem mx_68 : zm_mx 68 = 1 := rfl
theorem rt_68 : zm_ret 68 = 0 := rfl
theorem rk_68 (as : List zm_V) : zm_rk 68 as = 1 := rfl
theorem ow_69 : zm_own 69 = 3 := rfl
theorem na_69 : zm_na 69 = 2 := rfl
theorem mx_69 : zm_mx 69 = 2 := rfl
theorem rt_69 : zm_ret 69 = 3 := rfl
theorem rk_69 (as : List zm_V) : zm_rk 69 as = 2 := rfl
theorem ow_70 : zm_own 70 = 3 := rfl
theorem na_70 : zm_na 70 = 5 := rfl
theorem mx_70 : zm_mx 70 = 5 := rfl
theorem rt_70 : zm_ret 70 = 3 := rfl
theorem rk_70 (as : List zm_V) : zm_rk 70 as = 1 := rfl
theorem ow_71 : zm_own 71 = 3 := rfl
theorem na_71 : zm_na 71 = 2 := rfl
theorem mx_71 : zm_mx 71 = 2 := rfl
theorem rt_71 : zm_ret 71 = 3 := rfl
theorem rk_71 (as : List zm_V) : zm_rk 71 as = 2 := rfl
theorem ow_72 : zm_own 72 = 3 := rfl
theorem na_72 : zm_na 72 = 3 := rfl
theorem mx_72 : zm_mx 72 = 4 := rfl
theorem rt_72 : zm_ret 72 = 0 := rfl
theorem rk_72 (as : List zm_V) : zm_rk 72 as = 2 := rfl
theorem ow_74 : zm_own 74 = 4 := rfl
theorem na_74 : zm_na 74 = 2 := rfl
theorem mx_74 : zm_mx 74 = 3 := rfl
theorem rt_74 : zm_ret 74 = 1 := rfl
theorem rk_74 (as : List zm_V) : zm_rk 74 as = 93 := rfl
theorem ow_75 : zm_own 75 = 4 := rfl
theorem na_75 : zm_na 75 = 1 := rfl
theorem mx_75 : zm_mx 75 = 4 := rfl
theorem rt_75 : zm_ret 75 = 1 := rfl
theorem rk_75 (as : List zm_V) : zm_rk 75 as = 92 := rfl
theorem ow_76 : zm_own 76 = 4 := rfl
theorem na_76 : zm_na 76 = 3 := rfl
theorem mx_76 : zm_mx 76 = 3 := rfl
theorem rt_76 : zm_ret 76 = 1 := rfl
theorem rk_76 (as : List zm_V) : zm_rk 76 as = 1 := rfl
theorem ow_77 : zm_own 77 = 4 := rfl
theorem na_77 : zm_na 77 = 2 := rfl
theorem mx_77 : zm_mx 77 = 2 := rfl
theorem rt_77 : zm_ret 77 = 1 := rfl
theorem rk_77 (as : List zm_V) : zm_rk 77 as = 1 := rfl
theorem ow_78 : zm_own 78 = 4 := rfl
theorem na_78 : zm_na 78 = 1 := rfl
theorem mx_78 : zm_mx 78 = 1 := rfl
theorem rt_78 : zm_ret 78 = 1 := rfl
theorem rk_78 (as : List zm_V) : zm_rk 78 as = 1 := rfl
theorem ow_79 : zm_own 79 = 4 := rfl
theorem na_79 : zm_na 79 = 1 := rfl
theorem mx_79 : zm_mx 79 = 1 := rfl
theorem rt_79 : zm_ret 79 = 1 := rfl
theorem rk_79 (as : List zm_V) : zm_rk 79 as = 2 := rfl
theorem ow_80 : zm_own 80 = 4 := rfl
theorem na_80 : zm_na 80 = 1 := rfl
theorem mx_80 : zm_mx 80 = 4 := rfl
theorem rt_80 : zm_ret 80 = 1 := rfl
theorem rk_80 (as : List zm_V) : zm_rk 80 as = 4 := rfl
theorem ow_81 : zm_own 81 = 4 := rfl
theorem na_81 : zm_na 81 = 1 := rfl
theorem mx_81 : zm_mx 81 = 2 := rfl
theorem rt_81 : zm_ret 81 = 0 := rfl
theorem rk_81 (as : List zm_V) : zm_rk 81 as = 3 := rfl
theorem ow_82 : zm_own 82 = 4 := rfl
theorem na_82 : zm_na 82 = 1 := rfl
theorem mx_82 : zm_mx 82 = 1 := rfl
theorem rt_82 : zm_ret 82 = 1 := rfl
theorem rk_82 (as : List zm_V) : zm_rk 82 as = 1 := rfl
theorem ow_83 : zm_own 83 = 4 := rfl
theorem na_83 : zm_na 83 = 2 := rfl
theorem mx_83 : zm_mx 83 = 2 := rfl
theorem rt_83 : zm_ret 83 = 1 := rfl
theorem rk_83 (as : List zm_V) : zm_rk 83 as = 3 := rfl
theorem ow_84 : zm_own 84 = 4 := rfl
theorem na_84 : zm_na 84 = 3 := rfl
theorem mx_84 : zm_mx 84 = 4 := rfl
theorem rt_84 : zm_ret 84 = 0 := rfl
theorem rk_84 (as : List zm_V) : zm_rk 84 as = 3 := rfl
theorem ow_85 : zm_own 85 = 4 := rfl
theorem na_85 : zm_na 85 = 1 := rfl
theorem mx_85 : zm_mx 85 = 2 := rfl
theorem rt_85 : zm_ret 85 = 1 := rfl
theorem rk_85 (as : List zm_V) : zm_rk 85 as = 5 := rfl
theorem ow_86 : zm_own 86 = 4 := rfl
theorem na_86 : zm_na 86 = 1 := rfl
theorem mx_86 : zm_mx 86 = 4 := rfl
theorem rt_86 : zm_ret 86 = 1 := rfl
theorem rk_86 (as : List zm_V) : zm_rk 86 as = 4 := rfl
theorem ow_87 : zm_own 87 = 4 := rfl
theorem na_87 : zm_na 87 = 1 := rfl
theorem mx_87 : zm_mx 87 = 4 := rfl
theorem rt_87 : zm_ret 87 = 1 := rfl
theorem rk_87 (as : List zm_V) : zm_rk 87 as = 4 := rfl
theorem ow_88 : zm_own 88 = 4 := rfl
theorem na_88 : zm_na 88 = 1 := rfl
theorem mx_88 : zm_mx 88 = 4 := rfl
theorem rt_88 : zm_ret 88 = 1 := rfl
theorem rk_88 (as : List zm_V) : zm_rk 88 as = 4 := rfl
theorem ow_89 : zm_own 89 = 4 := rfl
theorem na_89 : zm_na 89 = 1 := rfl
theorem mx_89 : zm_mx 89 = 2 := rfl
theorem rt_89 : zm_ret 89 = 1 := rfl
theorem rk_89 (as : List zm_V) : zm_rk 89 as = 4 := rfl
theorem ow_90 : zm_own 90 = 4 := rfl
theorem na_90 : zm_na 90 = 2 := rfl
theorem mx_90 : zm_mx 90 = 4 := rfl
theorem rt_90 : zm_ret 90 = 1 := rfl
theorem ow_91 : zm_own 91 = 4 := rfl
theorem na_91 : zm_na 91 = 2 := rfl
theorem mx_91 : zm_mx 91 = 4 := rfl
theorem rt_91 : zm_ret 91 = 1 := rfl
theorem ow_92 : zm_own 92 = 4 := rfl
theorem na_92 : zm_na 92 = 2 := rfl
theorem mx_92 : zm_mx 92 = 3 := rfl
theorem rt_92 : zm_ret 92 = 1 := rfl
theorem ow_93 : zm_own 93 = 4 := rfl
theorem na_93 : zm_na 93 = 2 := rfl
theorem mx_93 : zm_mx 93 = 2 := rfl
theorem rt_93 : zm_ret 93 = 1 := rfl
theorem rk_93 (as : List zm_V) : zm_rk 93 as = 3 := rfl
theorem ow_94 : zm_own 94 = 4 := rfl
theorem na_94 : zm_na 94 = 2 := rfl
theorem mx_94 : zm_mx 94 = 2 := rfl
theorem rt_94 : zm_ret 94 = 1 := rfl
theorem rk_94 (as : List zm_V) : zm_rk 94 as = 3 := rfl
theorem ow_95 : zm_own 95 = 4 := rfl
theorem na_95 : zm_na 95 = 3 := rfl
theorem mx_95 : zm_mx 95 = 3 := rfl
theorem rt_95 : zm_ret 95 = 1 := rfl
theorem ow_96 : zm_own 96 = 4 := rfl
theorem na_96 : zm_na 96 = 1 := rfl
theorem mx_96 : zm_mx 96 = 1 := rfl
theorem rt_96 : zm_ret 96 = 0 := rfl
theorem rk_96 (as : List zm_V) : zm_rk 96 as = 1 := rfl
theorem ow_97 : zm_own 97 = 4 := rfl
theorem na_97 : zm_na 97 = 1 := rfl
theorem mx_97 : zm_mx 97 = 1 := rfl
theorem rt_97 : zm_ret 97 = 0 := rfl
theorem rk_97 (as : List zm_V) : zm_rk 97 as = 2 := rfl
theorem ow_98 : zm_own 98 = 4 := rfl
theorem na_98 : zm_na 98 = 1 := rfl
theorem mx_98 : zm_mx 98 = 1 := rfl
theorem rt_98 : zm_ret 98 = 0 := rfl
theorem rk_98 (as : List zm_V) : zm_rk 98 as = 2 := rfl
theorem ow_99 : zm_own 99 = 4 := rfl
theorem na_99 : zm_na 99 = 2 := rfl
theorem mx_99 : zm_mx 99 = 3 := rfl
theorem rt_99 : zm_ret 99 = 1 := rfl
theorem ow_100 : zm_own 100 = 4 := rfl
theorem na_100 : zm_na 100 = 2 := rfl
theorem mx_100 : zm_mx 100 = 3 := rfl
theorem rt_100 : zm_ret 100 = 1 := rfl
theorem ow_101 : zm_own 101 = 4 := rfl
theorem na_101 : zm_na 101 = 2 := rfl
theorem mx_101 : zm_mx 101 = 3 := rfl
theorem rt_101 : zm_ret 101 = 1 := rfl
theorem ow_102 : zm_own 102 = 4 := rfl
theorem na_102 : zm_na 102 = 1 := rfl
theorem mx_102 : zm_mx 102 = 1 := rfl
theorem rt_102 : zm_ret 102 = 0 := rfl
theorem rk_102 (as : List zm_V) : zm_rk 102 as = 2 := rfl
theorem ow_104 : zm_own 104 = 5 := rfl
theorem na_104 : zm_na 104 = 3 := rfl
theorem mx_104 : zm_mx 104 = 5 := rfl
theorem rt_104 : zm_ret 104 = 3 := rfl
theorem rk_104 (as : List zm_V) : zm_rk 104 as = 3 := rfl
theorem ow_105 : zm_own 105 = 5 := rfl
theorem na_105 : zm_na 105 = 2 := rfl
theorem mx_105 : zm_mx 105 = 2 := rfl
theorem rt_105 : zm_ret 105 = 3 := rfl
theorem rk_105 (as : List zm_V) : zm_rk 105 as = 1 := rfl
theorem ow_106 : zm_own 106 = 5 := rfl
theorem na_106 : zm_na 106 = 2 := rfl
theorem mx_106 : zm_mx 106 = 2 := rfl
theorem rt_106 : zm_ret 106 = 3 := rfl
theorem rk_106 (as : List zm_V) : zm_rk 106 as = 2 := rfl
theorem ow_107 : zm_own 107 = 5 := rfl
theorem na_107 : zm_na 107 = 2 := rfl
theorem mx_107 : zm_mx 107 = 4 := rfl
theorem rt_107 : zm_ret 107 = 0 := rfl
theorem rk_107 (as : List zm_V) : zm_rk 107 as = 1 := rfl
theorem ow_108 : zm_own 108 = 5 := rfl
theorem na_108 : zm_na 108 = 3 := rfl
theorem mx_108 : zm_mx 108 = 4 := rfl
theorem rt_108 : zm_ret 108 = 1 := rfl
theorem rk_108 (as : List zm_V) : zm_rk 108 as = 3 := rfl
theorem ow_109 : zm_own 109 = 5 := rfl
theorem na_109 : zm_na 109 = 2 := rfl
theorem mx_109 : zm_mx 109 = 2 := rfl
theorem rt_109 : zm_ret 109 = 0 := rfl
theorem rk_109 (as : List zm_V) : zm_rk 109 as = 1 := rfl
theorem ow_110 : zm_own 110 = 5 := rfl
theorem na_110 : zm_na 110 = 3 := rfl
theorem mx_110 : zm_mx 110 = 7 := rfl
theorem rt_110 : zm_ret 110 = 1 := rfl
theorem rk_110 (as : List zm_V) : zm_rk 110 as = 1 := rfl
theorem ow_111 : zm_own 111 = 5 := rfl
theorem na_111 : zm_na 111 = 3 := rfl
theorem mx_111 : zm_mx 111 = 7 := rfl
theorem rt_111 : zm_ret 111 = 1 := rfl
theorem rk_111 (as : List zm_V) : zm_rk 111 as = 2 := rfl
theorem ow_113 : zm_own 113 = 6 := rfl
theorem na_113 : zm_na 113 = 5 := rfl
theorem mx_113 : zm_mx 113 = 7 := rfl
theorem rt_113 : zm_ret 113 = 3 := rfl
theorem rk_113 (as : List zm_V) : zm_rk 113 as = 3 := rfl
theorem ow_114 : zm_own 114 = 6 := rfl
theorem na_114 : zm_na 114 = 2 := rfl
theorem mx_114 : zm_mx 114 = 7 := rfl
theorem rt_114 : zm_ret 114 = 2 := rfl
theorem rk_114 (as : List zm_V) : zm_rk 114 as = 2 := rfl
theorem ow_115 : zm_own 115 = 6 := rfl
theorem na_115 : zm_na 115 = 2 := rfl
theorem mx_115 : zm_mx 115 = 5 := rfl
theorem rt_115 : zm_ret 115 = 2 := rfl
theorem rk_115 (as : List zm_V) : zm_rk 115 as = 1 := rfl
theorem ow_116 : zm_own 116 = 6 := rfl
theorem na_116 : zm_na 116 = 1 := rfl
theorem mx_116 : zm_mx 116 = 1 := rfl
theorem rt_116 : zm_ret 116 = 2 := rfl
theorem rk_116 (as : List zm_V) : zm_rk 116 as = 2 := rfl
theorem ow_117 : zm_own 117 = 6 := rfl
theorem na_117 : zm_na 117 = 1 := rfl
theorem mx_117 : zm_mx 117 = 4 := rfl
theorem rt_117 : zm_ret 117 = 2 := rfl
theorem rk_117 (as : List zm_V) : zm_rk 117 as = 3 := rfl
theorem ow_118 : zm_own 118 = 6 := rfl
theorem na_118 : zm_na 118 = 3 := rfl
theorem mx_118 : zm_mx 118 = 5 := rfl
theorem rt_118 : zm_ret 118 = 0 := rfl
theorem rk_118 (as : List zm_V) : zm_rk 118 as = 1 := rfl
theorem ow_119 : zm_own 119 = 6 := rfl
theorem na_119 : zm_na 119 = 1 := rfl
theorem mx_119 : zm_mx 119 = 3 := rfl
theorem rt_119 : zm_ret 119 = 0 := rfl
theorem rk_119 (as : List zm_V) : zm_rk 119 as = 1 := rfl
theorem ow_121 : zm_own 121 = 7 := rfl
theorem na_121 : zm_na 121 = 5 := rfl
theorem mx_121 : zm_mx 121 = 9 := rfl
theorem rt_121 : zm_ret 121 = 0 := rfl
theorem rk_121 (as : List zm_V) : zm_rk 121 as = 3 := rfl
theorem ow_122 : zm_own 122 = 7 := rfl
theorem na_122 : zm_na 122 = 2 := rfl
theorem mx_122 : zm_mx 122 = 2 := rfl
theorem rt_122 : zm_ret 122 = 3 := rfl
theorem rk_122 (as : List zm_V) : zm_rk 122 as = 1 := rfl
theorem ow_123 : zm_own 123 = 7 := rfl
theorem na_123 : zm_na 123 = 1 := rfl
theorem mx_123 : zm_mx 123 = 1 := rfl
theorem rt_123 : zm_ret 123 = 0 := rfl
theorem rk_123 (as : List zm_V) : zm_rk 123 as = 1 := rfl
theorem ow_124 : zm_own 124 = 7 := rfl
theorem na_124 : zm_na 124 = 3 := rfl
theorem mx_124 : zm_mx 124 = 3 := rfl
theorem rt_124 : zm_ret 124 = 0 := rfl
theorem rk_124 (as : List zm_V) : zm_rk 124 as = 2 := rfl
theorem ow_125 : zm_own 125 = 7 := rfl
theorem na_125 : zm_na 125 = 1 := rfl
theorem mx_125 : zm_mx 125 = 2 := rfl
theorem rt_125 : zm_ret 125 = 0 := rfl
theorem rk_125 (as : List zm_V) : zm_rk 125 as = 1 := rfl
theorem ow_127 : zm_own 127 = 8 := rfl
theorem na_127 : zm_na 127 = 3 := rfl
theorem mx_127 : zm_mx 127 = 5 := rfl
theorem rt_127 : zm_ret 127 = 3 := rfl
theorem rk_127 (as : List zm_V) : zm_rk 127 as = 3 := rfl
theorem ow_128 : zm_own 128 = 8 := rfl
theorem na_128 : zm_na 128 = 3 := rfl
theorem mx_128 : zm_mx 128 = 5 := rfl
theorem rt_128 : zm_ret 128 = 0 := rfl
theorem rk_128 (as : List zm_V) : zm_rk 128 as = 2 := rfl
theorem ow_129 : zm_own 129 = 8 := rfl
theorem na_129 : zm_na 129 = 3 := rfl
theorem mx_129 : zm_mx 129 = 5 := rfl
theorem rt_129 : zm_ret 129 = 0 := rfl
theorem rk_129 (as : List zm_V) : zm_rk 129 as = 2 := rfl
theorem ow_130 : zm_own 130 = 8 := rfl
theorem na_130 : zm_na 130 = 3 := rfl
theorem mx_130 : zm_mx 130 = 5 := rfl
theorem rt_130 : zm_ret 130 = 1 := rfl
theorem rk_130 (as : List zm_V) : zm_rk 130 as = 1 := rfl
theorem ow_132 : zm_own 132 = 9 := rfl
theorem na_132 : zm_na 132 = 1 := rfl
theorem mx_132 : zm_mx 132 = 1 := rfl
theorem rt_132 : zm_ret 132 = 3 := rfl
theorem rk_132 (as : List zm_V) : zm_rk 132 as = 3 := rfl
theorem ow_133 : zm_own 133 = 9 := rfl
theorem na_133 : zm_na 133 = 1 := rfl
theorem mx_133 : zm_mx 133 = 5 := rfl
theorem rt_133 : zm_ret 133 = 3 := rfl
theorem rk_133 (as : List zm_V) : zm_rk 133 as = 2 := rfl
theorem ow_134 : zm_own 134 = 9 := rfl
theorem na_134 : zm_na 134 = 1 := rfl
theorem mx_134 : zm_mx 134 = 2 := rfl
theorem rt_134 : zm_ret 134 = 3 := rfl
theorem rk_134 (as : List zm_V) : zm_rk 134 as = 1 := rfl
theorem ow_135 : zm_own 135 = 9 := rfl
theorem na_135 : zm_na 135 = 1 := rfl
theorem mx_135 : zm_mx 135 = 1 := rfl
theorem rt_135 : zm_ret 135 = 3 := rfl
theorem rk_135 (as : List zm_V) : zm_rk 135 as = 1 := rfl
theorem ow_136 : zm_own 136 = 9 := rfl
theorem na_136 : zm_na 136 = 2 := rfl
theorem mx_136 : zm_mx 136 = 2 := rfl
theorem rt_136 : zm_ret 136 = 3 := rfl
theorem rk_136 (as : List zm_V) : zm_rk 136 as = 1 := rfl
theorem ow_137 : zm_own 137 = 9 := rfl
theorem na_137 : zm_na 137 = 2 := rfl
theorem mx_137 : zm_mx 137 = 3 := rfl
theorem rt_137 : zm_ret 137 = 0 := rfl
theorem rk_137 (as : List zm_V) : zm_rk 137 as = 1 := rfl
theorem ow_138 : zm_own 138 = 9 := rfl
theorem na_138 : zm_na 138 = 2 := rfl
theorem mx_138 : zm_mx 138 = 2 := rfl
theorem rt_138 : zm_ret 138 = 1 := rfl
theorem rk_138 (as : List zm_V) : zm_rk 138 as = 1 := rfl
theorem ow_139 : zm_own 139 = 9 := rfl
theorem na_139 : zm_na 139 = 2 := rfl
theorem mx_139 : zm_mx 139 = 2 := rfl
theorem rt_139 : zm_ret 139 = 1 := rfl
theorem rk_139 (as : List zm_V) : zm_rk 139 as = 1 := rfl
theorem ow_141 : zm_own 141 = 10 := rfl
theorem na_141 : zm_na 141 = 2 := rfl
theorem mx_141 : zm_mx 141 = 3 := rfl
theorem rt_141 : zm_ret 141 = 3 := rfl
theorem rk_141 (as : List zm_V) : zm_rk 141 as = 1 := rfl
theorem ow_143 : zm_own 143 = 11 := rfl
theorem na_143 : zm_na 143 = 2 := rfl
theorem mx_143 : zm_mx 143 = 3 := rfl
theorem rt_143 : zm_ret 143 = 3 := rfl
theorem rk_143 (as : List zm_V) : zm_rk 143 as = 1 := rfl
theorem ow_144 : zm_own 144 = 11 := rfl
theorem na_144 : zm_na 144 = 1 := rfl
theorem mx_144 : zm_mx 144 = 1 := rfl
theorem rt_144 : zm_ret 144 = 0 := rfl
theorem rk_144 (as : List zm_V) : zm_rk 144 as = 2 := rfl
theorem ow_145 : zm_own 145 = 11 := rfl
theorem na_145 : zm_na 145 = 3 := rfl
theorem mx_145 : zm_mx 145 = 5 := rfl
theorem rt_145 : zm_ret 145 = 0 := rfl
theorem rk_145 (as : List zm_V) : zm_rk 145 as = 1 := rfl
theorem ow_146 : zm_own 146 = 11 := rfl
theorem na_146 : zm_na 146 = 1 := rfl
theorem mx_146 : zm_mx 146 = 1 := rfl
theorem rt_146 : zm_ret 146 = 0 := rfl
theorem rk_146 (as : List zm_V) : zm_rk 146 as = 2 := rfl
theorem ow_147 : zm_own 147 = 11 := rfl
theorem na_147 : zm_na 147 = 1 := rfl
theorem mx_147 : zm_mx 147 = 1 := rfl
theorem rt_147 : zm_ret 147 = 0 := rfl
theorem rk_147 (as : List zm_V) : zm_rk 147 as = 2 := rfl
theorem ow_148 : zm_own 148 = 11 := rfl
theorem na_148 : zm_na 148 = 2 := rfl
theorem mx_148 : zm_mx 148 = 4 := rfl
theorem rt_148 : zm_ret 148 = 0 := rfl
theorem rk_148 (as : List zm_V) : zm_rk 148 as = 1 := rfl
theorem ow_149 : zm_own 149 = 11 := rfl
theorem na_149 : zm_na 149 = 2 := rfl
theorem mx_149 : zm_mx 149 = 4 := rfl
theorem rt_149 : zm_ret 149 = 0 := rfl
theorem rk_149 (as : List zm_V) : zm_rk 149 as = 1 := rfl
theorem ow_150 : zm_own 150 = 11 := rfl
theorem na_150 : zm_na 150 = 2 := rfl
theorem mx_150 : zm_mx 150 = 2 := rfl
theorem rt_150 : zm_ret 150 = 0 := rfl
theorem rk_150 (as : List zm_V) : zm_rk 150 as = 2 := rfl
theorem ow_151 : zm_own 151 = 11 := rfl
theorem na_151 : zm_na 151 = 2 := rfl
theorem mx_151 : zm_mx 151 = 2 := rfl
theorem rt_151 : zm_ret 151 = 0 := rfl
theorem rk_151 (as : List zm_V) : zm_rk 151 as = 2 := rfl
theorem ow_152 : zm_own 152 = 11 := rfl
theorem na_152 : zm_na 152 = 2 := rfl
theorem mx_152 : zm_mx 152 = 3 := rfl
theorem rt_152 : zm_ret 152 = 3 := rfl
theorem rk_152 (as : List zm_V) : zm_rk 152 as = 1 := rfl
theorem ow_154 : zm_own 154 = 12 := rfl
theorem na_154 : zm_na 154 = 6 := rfl
theorem mx_154 : zm_mx 154 = 6 := rfl
theorem rt_154 : zm_ret 154 = 0 := rfl
theorem rk_154 (as : List zm_V) : zm_rk 154 as = 2 := rfl
theorem ow_155 : zm_own 155 = 12 := rfl
theorem na_155 : zm_na 155 = 2 := rfl
theorem mx_155 : zm_mx 155 = 2 := rfl
theorem rt_155 : zm_ret 155 = 0 := rfl
theorem rk_155 (as : List zm_V) : zm_rk 155 as = 1 := rfl
theorem ow_156 : zm_own 156 = 12 := rfl
theorem na_156 : zm_na 156 = 2 := rfl
theorem mx_156 : zm_mx 156 = 3 := rfl
theorem rt_156 : zm_ret 156 = 3 := rfl
theorem rk_156 (as : List zm_V) : zm_rk 156 as = 1 := rfl
theorem ow_157 : zm_own 157 = 12 := rfl
theorem na_157 : zm_na 157 = 2 := rfl
theorem mx_157 : zm_mx 157 = 2 := rfl
theorem rt_157 : zm_ret 157 = 1 := rfl
theorem rk_157 (as : List zm_V) : zm_rk 157 as = 2 := rfl
theorem ow_158 : zm_own 158 = 12 := rfl
theorem na_158 : zm_na 158 = 1 := rfl
theorem mx_158 : zm_mx 158 = 2 := rfl
theorem rt_158 : zm_ret 158 = 0 := rfl
theorem rk_158 (as : List zm_V) : zm_rk 158 as = 8 := rfl
theorem ow_159 : zm_own 159 = 12 := rfl
theorem na_159 : zm_na 159 = 1 := rfl
theorem mx_159 : zm_mx 159 = 6 := rfl
theorem rt_159 : zm_ret 159 = 3 := rfl
theorem rk_159 (as : List zm_V) : zm_rk 159 as = 2 := rfl
theorem ow_160 : zm_own 160 = 12 := rfl
theorem na_160 : zm_na 160 = 1 := rfl
theorem mx_160 : zm_mx 160 = 1 := rfl
theorem rt_160 : zm_ret 160 = 1 := rfl
theorem rk_160 (as : List zm_V) : zm_rk 160 as = 1 := rfl
theorem ow_161 : zm_own 161 = 12 := rfl
theorem na_161 : zm_na 161 = 1 := rfl
theorem mx_161 : zm_mx 161 = 1 := rfl
theorem rt_161 : zm_ret 161 = 1 := rfl
theorem rk_161 (as : List zm_V) : zm_rk 161 as = 1 := rfl
theorem ow_162 : zm_own 162 = 12 := rfl
theorem na_162 : zm_na 162 = 1 := rfl
theorem mx_162 : zm_mx 162 = 1 := rfl
theorem rt_162 : zm_ret 162 = 3 := rfl
theorem rk_162 (as : List zm_V) : zm_rk 162 as = 7 := rfl
theorem ow_163 : zm_own 163 = 12 := rfl
theorem na_163 : zm_na 163 = 1 := rfl
theorem mx_163 : zm_mx 163 = 1 := rfl
theorem rt_163 : zm_ret 163 = 3 := rfl
theorem rk_163 (as : List zm_V) : zm_rk 163 as = 2 := rfl
theorem ow_164 : zm_own 164 = 12 := rfl
theorem na_164 : zm_na 164 = 3 := rfl
theorem mx_164 : zm_mx 164 = 3 := rfl
theorem rt_164 : zm_ret 164 = 3 := rfl
theorem rk_164 (as : List zm_V) : zm_rk 164 as = 1 := rfl
theorem ow_165 : zm_own 165 = 12 := rfl
theorem na_165 : zm_na 165 = 2 := rfl
theorem mx_165 : zm_mx 165 = 3 := rfl
theorem rt_165 : zm_ret 165 = 1 := rfl
theorem rk_165 (as : List zm_V) : zm_rk 165 as = 1 := rfl
theorem ow_166 : zm_own 166 = 12 := rfl
theorem na_166 : zm_na 166 = 1 := rfl
theorem mx_166 : zm_mx 166 = 3 := rfl
theorem rt_166 : zm_ret 166 = 3 := rfl
theorem rk_166 (as : List zm_V) : zm_rk 166 as = 4 := rfl
theorem ow_167 : zm_own 167 = 12 := rfl
theorem na_167 : zm_na 167 = 2 := rfl
theorem mx_167 : zm_mx 167 = 2 := rfl
theorem rt_167 : zm_ret 167 = 1 := rfl
theorem rk_167 (as : List zm_V) : zm_rk 167 as = 3 := rfl
theorem ow_168 : zm_own 168 = 12 := rfl
theorem na_168 : zm_na 168 = 1 := rfl
theorem mx_168 : zm_mx 168 = 3 := rfl
theorem rt_168 : zm_ret 168 = 2 := rfl
theorem rk_168 (as : List zm_V) : zm_rk 168 as = 3 := rfl
theorem ow_169 : zm_own 169 = 12 := rfl
theorem na_169 : zm_na 169 = 2 := rfl
theorem mx_169 : zm_mx 169 = 3 := rfl
theorem rt_169 : zm_ret 169 = 1 := rfl
theorem rk_169 (as : List zm_V) : zm_rk 169 as = 1 := rfl
theorem ow_170 : zm_own 170 = 12 := rfl
theorem na_170 : zm_na 170 = 3 := rfl
theorem mx_170 : zm_mx 170 = 5 := rfl
theorem rt_170 : zm_ret 170 = 0 := rfl
theorem rk_170 (as : List zm_V) : zm_rk 170 as = 2 := rfl
theorem ow_171 : zm_own 171 = 12 := rfl
theorem na_171 : zm_na 171 = 3 := rfl
theorem mx_171 : zm_mx 171 = 3 := rfl
theorem rt_171 : zm_ret 171 = 0 := rfl
theorem rk_171 (as : List zm_V) : zm_rk 171 as = 1 := rfl
theorem ow_172 : zm_own 172 = 12 := rfl
theorem na_172 : zm_na 172 = 4 := rfl
theorem mx_172 : zm_mx 172 = 4 := rfl
theorem rt_172 : zm_ret 172 = 2 := rfl
theorem rk_172 (as : List zm_V) : zm_rk 172 as = 1 := rfl
theorem ow_173 : zm_own 173 = 12 := rfl
theorem na_173 : zm_na 173 = 2 := rfl
theorem mx_173 : zm_mx 173 = 3 := rfl
theorem rt_173 : zm_ret 173 = 3 := rfl
theorem rk_173 (as : List zm_V) : zm_rk 173 as = 3 := rfl
theorem ow_174 : zm_own 174 = 12 := rfl
theorem na_174 : zm_na 174 = 3 := rfl
theorem mx_174 : zm_mx 174 = 4 := rfl
theorem rt_174 : zm_ret 174 = 0 := rfl
theorem rk_174 (as : List zm_V) : zm_rk 174 as = 3 := rfl
theorem ow_175 : zm_own 175 = 12 := rfl
theorem na_175 : zm_na 175 = 3 := rfl
theorem mx_175 : zm_mx 175 = 3 := rfl
theorem rt_175 : zm_ret 175 = 1 := rfl
theorem rk_175 (as : List zm_V) : zm_rk 175 as = 1 := rfl
theorem ow_176 : zm_own 176 = 12 := rfl
theorem na_176 : zm_na 176 = 1 := rfl
theorem mx_176 : zm_mx 176 = 5 := rfl
theorem rt_176 : zm_ret 176 = 3 := rfl
theorem rk_176 (as : List zm_V) : zm_rk 176 as = 4 := rfl
theorem ow_177 : zm_own 177 = 12 := rfl
theorem na_177 : zm_na 177 = 2 := rfl
theorem mx_177 : zm_mx 177 = 3 := rfl
theorem rt_177 : zm_ret 177 = 0 := rfl
theorem rk_177 (as : List zm_V) : zm_rk 177 as = 3 := rfl
theorem ow_178 : zm_own 178 = 12 := rfl
theorem na_178 : zm_na 178 = 1 := rfl
theorem mx_178 : zm_mx 178 = 3 := rfl
theorem rt_178 : zm_ret 178 = 3 := rfl
theorem rk_178 (as : List zm_V) : zm_rk 178 as = 4 := rfl
theorem ow_179 : zm_own 179 = 12 := rfl
theorem na_179 : zm_na 179 = 1 := rfl
theorem mx_179 : zm_mx 179 = 4 := rfl
theorem rt_179 : zm_ret 179 = 3 := rfl
theorem rk_179 (as : List zm_V) : zm_rk 179 as = 5 := rfl
theorem ow_180 : zm_own 180 = 12 := rfl
theorem na_180 : zm_na 180 = 2 := rfl
theorem mx_180 : zm_mx 180 = 3 := rfl
theorem rt_180 : zm_ret 180 = 0 := rfl
theorem rk_180 (as : List zm_V) : zm_rk 180 as = 4 := rfl
theorem ow_181 : zm_own 181 = 12 := rfl
theorem na_181 : zm_na 181 = 1 := rfl
theorem mx_181 : zm_mx 181 = 1 := rfl
theorem rt_181 : zm_ret 181 = 3 := rfl
theorem rk_181 (as : List zm_V) : zm_rk 181 as = 6 := rfl
theorem ow_182 : zm_own 182 = 12 := rfl
theorem na_182 : zm_na 182 = 2 := rfl
theorem mx_182 : zm_mx 182 = 3 := rfl
theorem rt_182 : zm_ret 182 = 3 := rfl
theorem rk_182 (as : List zm_V) : zm_rk 182 as = 5 := rfl
theorem ow_183 : zm_own 183 = 12 := rfl
theorem na_183 : zm_na 183 = 2 := rfl
theorem mx_183 : zm_mx 183 = 2 := rfl
theorem rt_183 : zm_ret 183 = 3 := rfl
theorem rk_183 (as : List zm_V) : zm_rk 183 as = 1 := rfl
theorem ow_184 : zm_own 184 = 12 := rfl
theorem na_184 : zm_na 184 = 1 := rfl
theorem mx_184 : zm_mx 184 = 4 := rfl
theorem rt_184 : zm_ret 184 = 1 := rfl
theorem rk_184 (as : List zm_V) : zm_rk 184 as = 4 := rfl
theorem ow_185 : zm_own 185 = 12 := rfl
theorem na_185 : zm_na 185 = 1 := rfl
theorem mx_185 : zm_mx 185 = 1 := rfl
theorem rt_185 : zm_ret 185 = 1 := rfl
theorem rk_185 (as : List zm_V) : zm_rk 185 as = 1 := rfl
theorem ow_186 : zm_own 186 = 12 := rfl
theorem na_186 : zm_na 186 = 2 := rfl
theorem mx_186 : zm_mx 186 = 2 := rfl
theorem rt_186 : zm_ret 186 = 3 := rfl
theorem rk_186 (as : List zm_V) : zm_rk 186 as = 1 := rfl
theorem ow_187 : zm_own 187 = 12 := rfl
theorem na_187 : zm_na 187 = 2 := rfl
theorem mx_187 : zm_mx 187 = 2 := rfl
theorem rt_187 : zm_ret 187 = 1 := rfl
theorem rk_187 (as : List zm_V) : zm_rk 187 as = 1 := rfl
theorem ow_188 : zm_own 188 = 12 := rfl
theorem na_188 : zm_na 188 = 2 := rfl
theorem mx_188 : zm_mx 188 = 2 := rfl
theorem rt_188 : zm_ret 188 = 3 := rfl
theorem rk_188 (as : List zm_V) : zm_rk 188 as = 3 := rfl
theorem ow_189 : zm_own 189 = 12 := rfl
theorem na_189 : zm_na 189 = 3 := rfl
theorem mx_189 : zm_mx 189 = 3 := rfl
theorem rt_189 : zm_ret 189 = 3 := rfl
theorem rk_189 (as : List zm_V) : zm_rk 189 as = 1 := rfl
theorem ow_190 : zm_own 190 = 12 := rfl
theorem na_190 : zm_na 190 = 1 := rfl
theorem mx_190 : zm_mx 190 = 5 := rfl
theorem rt_190 : zm_ret 190 = 1 := rfl
theorem rk_190 (as : List zm_V) : zm_rk 190 as = 3 := rfl
theorem ow_191 : zm_own 191 = 12 := rfl
theorem na_191 : zm_na 191 = 2 := rfl
theorem mx_191 : zm_mx 191 = 2 := rfl
theorem rt_191 : zm_ret 191 = 3 := rfl
theorem rk_191 (as : List zm_V) : zm_rk 191 as = 2 := rfl
theorem ow_192 : zm_own 192 = 12 := rfl
theorem na_192 : zm_na 192 = 1 := rfl
theorem mx_192 : zm_mx 192 = 1 := rfl
theorem rt_192 : zm_ret 192 = 0 := rfl
theorem rk_192 (as : List zm_V) : zm_rk 192 as = 1 := rfl
theorem ow_193 : zm_own 193 = 12 := rfl
theorem na_193 : zm_na 193 = 1 := rfl
theorem mx_193 : zm_mx 193 = 1 := rfl
theorem rt_193 : zm_ret 193 = 3 := rfl
theorem rk_193 (as : List zm_V) : zm_rk 193 as = 6 := rfl
theorem ow_194 : zm_own 194 = 12 := rfl
theorem na_194 : zm_na 194 = 1 := rfl
theorem mx_194 : zm_mx 194 = 2 := rfl
theorem rt_194 : zm_ret 194 = 3 := rfl
theorem rk_194 (as : List zm_V) : zm_rk 194 as = 4 := rfl
theorem ow_195 : zm_own 195 = 12 := rfl
theorem na_195 : zm_na 195 = 2 := rfl
theorem mx_195 : zm_mx 195 = 3 := rfl
theorem rt_195 : zm_ret 195 = 3 := rfl
theorem rk_195 (as : List zm_V) : zm_rk 195 as = 4 := rfl
theorem ow_196 : zm_own 196 = 12 := rfl
theorem na_196 : zm_na 196 = 2 := rfl
theorem mx_196 : zm_mx 196 = 2 := rfl
theorem rt_196 : zm_ret 196 = 3 := rfl
theorem rk_196 (as : List zm_V) : zm_rk 196 as = 3 := rfl
theorem ow_197 : zm_own 197 = 12 := rfl
theorem na_197 : zm_na 197 = 1 := rfl
theorem mx_197 : zm_mx 197 = 2 := rfl
theorem rt_197 : zm_ret 197 = 3 := rfl
theorem rk_197 (as : List zm_V) : zm_rk 197 as = 1 := rfl
theorem ow_198 : zm_own 198 = 12 := rfl
theorem na_198 : zm_na 198 = 2 := rfl
theorem mx_198 : zm_mx 198 = 2 := rfl
theorem rt_198 : zm_ret 198 = 0 := rfl
theorem rk_198 (as : List zm_V) : zm_rk 198 as = 1 := rfl
theorem ow_199 : zm_own 199 = 12 := rfl
theorem na_199 : zm_na 199 = 2 := rfl
theorem mx_199 : zm_mx 199 = 2 := rfl
theorem rt_199 : zm_ret 199 = 0 := rfl
theorem rk_199 (as : List zm_V) : zm_rk 199 as = 2 := rfl
theorem ow_200 : zm_own 200 = 12 := rfl
theorem na_200 : zm_na 200 = 1 := rfl
theorem mx_200 : zm_mx 200 = 1 := rfl
theorem rt_200 : zm_ret 200 = 1 := rfl
theorem rk_200 (as : List zm_V) : zm_rk 200 as = 2 := rfl
theorem ow_201 : zm_own 201 = 12 := rfl
theorem na_201 : zm_na 201 = 2 := rfl
theorem mx_201 : zm_mx 201 = 2 := rfl
theorem rt_201 : zm_ret 201 = 0 := rfl
theorem rk_201 (as : List zm_V) : zm_rk 201 as = 1 := rfl
theorem ow_202 : zm_own 202 = 12 := rfl
theorem na_202 : zm_na 202 = 3 := rfl
theorem mx_202 : zm_mx 202 = 4 := rfl
theorem rt_202 : zm_ret 202 = 3 := rfl
theorem rk_202 (as : List zm_V) : zm_rk 202 as = 1 := rfl
theorem ow_203 : zm_own 203 = 12 := rfl
theorem na_203 : zm_na 203 = 2 := rfl
theorem mx_203 : zm_mx 203 = 4 := rfl
theorem rt_203 : zm_ret 203 = 0 := rfl
theorem rk_203 (as : List zm_V) : zm_rk 203 as = 6 := rfl
theorem ow_204 : zm_own 204 = 12 := rfl
theorem na_204 : zm_na 204 = 2 := rfl
theorem mx_204 : zm_mx 204 = 4 := rfl
theorem rt_204 : zm_ret 204 = 0 := rfl
theorem rk_204 (as : List zm_V) : zm_rk 204 as = 3 := rfl
theorem ow_205 : zm_own 205 = 12 := rfl
theorem na_205 : zm_na 205 = 3 := rfl
theorem mx_205 : zm_mx 205 = 5 := rfl
theorem rt_205 : zm_ret 205 = 0 := rfl
theorem rk_205 (as : List zm_V) : zm_rk 205 as = 2 := rfl
theorem ow_206 : zm_own 206 = 12 := rfl
theorem na_206 : zm_na 206 = 4 := rfl
theorem mx_206 : zm_mx 206 = 4 := rfl
theorem rt_206 : zm_ret 206 = 0 := rfl
theorem rk_206 (as : List zm_V) : zm_rk 206 as = 1 := rfl
theorem ow_207 : zm_own 207 = 12 := rfl
theorem na_207 : zm_na 207 = 2 := rfl
theorem mx_207 : zm_mx 207 = 4 := rfl
theorem rt_207 : zm_ret 207 = 0 := rfl
theorem rk_207 (as : List zm_V) : zm_rk 207 as = 5 := rfl
theorem ow_208 : zm_own 208 = 12 := rfl
theorem na_208 : zm_na 208 = 2 := rfl
theorem mx_208 : zm_mx 208 = 2 := rfl
theorem rt_208 : zm_ret 208 = 3 := rfl
theorem rk_208 (as : List zm_V) : zm_rk 208 as = 4 := rfl
theorem ow_209 : zm_own 209 = 12 := rfl
theorem na_209 : zm_na 209 = 3 := rfl
theorem mx_209 : zm_mx 209 = 6 := rfl
theorem rt_209 : zm_ret 209 = 2 := rfl
theorem rk_209 (as : List zm_V) : zm_rk 209 as = 3 := rfl
theorem ow_210 : zm_own 210 = 12 := rfl
theorem na_210 : zm_na 210 = 3 := rfl
theorem mx_210 : zm_mx 210 = 3 := rfl
theorem rt_210 : zm_ret 210 = 2 := rfl
theorem rk_210 (as : List zm_V) : zm_rk 210 as = 1 := rfl
theorem ow_211 : zm_own 211 = 12 := rfl
theorem na_211 : zm_na 211 = 3 := rfl
theorem mx_211 : zm_mx 211 = 5 := rfl
theorem rt_211 : zm_ret 211 = 2 := rfl
theorem rk_211 (as : List zm_V) : zm_rk 211 as = 2 := rfl
theorem ow_212 : zm_own 212 = 12 := rfl
theorem na_212 : zm_na 212 = 1 := rfl
theorem mx_212 : zm_mx 212 = 2 := rfl
theorem rt_212 : zm_ret 212 = 2 := rfl
theorem rk_212 (as : List zm_V) : zm_rk 212 as = 1 := rfl
theorem ow_213 : zm_own 213 = 12 := rfl
theorem na_213 : zm_na 213 = 2 := rfl
theorem mx_213 : zm_mx 213 = 6 := rfl
theorem rt_213 : zm_ret 213 = 2 := rfl
theorem rk_213 (as : List zm_V) : zm_rk 213 as = 1 := rfl
theorem ow_214 : zm_own 214 = 12 := rfl
theorem na_214 : zm_na 214 = 2 := rfl
theorem mx_214 : zm_mx 214 = 4 := rfl
theorem rt_214 : zm_ret 214 = 0 := rfl
theorem rk_214 (as : List zm_V) : zm_rk 214 as = 2 := rfl
theorem ow_215 : zm_own 215 = 12 := rfl
theorem na_215 : zm_na 215 = 4 := rfl
theorem mx_215 : zm_mx 215 = 4 := rfl
theorem rt_215 : zm_ret 215 = 0 := rfl
theorem rk_215 (as : List zm_V) : zm_rk 215 as = 1 := rfl
theorem ow_216 : zm_own 216 = 12 := rfl
theorem na_216 : zm_na 216 = 4 := rfl
theorem mx_216 : zm_mx 216 = 9 := rfl
theorem rt_216 : zm_ret 216 = 0 := rfl
theorem rk_216 (as : List zm_V) : zm_rk 216 as = 2 := rfl
theorem ow_217 : zm_own 217 = 12 := rfl
theorem na_217 : zm_na 217 = 3 := rfl
theorem mx_217 : zm_mx 217 = 5 := rfl
theorem rt_217 : zm_ret 217 = 0 := rfl
theorem rk_217 (as : List zm_V) : zm_rk 217 as = 2 := rfl
theorem ow_218 : zm_own 218 = 12 := rfl
theorem na_218 : zm_na 218 = 2 := rfl
theorem mx_218 : zm_mx 218 = 2 := rfl
theorem rt_218 : zm_ret 218 = 1 := rfl
theorem rk_218 (as : List zm_V) : zm_rk 218 as = 1 := rfl
theorem ow_219 : zm_own 219 = 12 := rfl
theorem na_219 : zm_na 219 = 2 := rfl
theorem mx_219 : zm_mx 219 = 2 := rfl
theorem rt_219 : zm_ret 219 = 0 := rfl
theorem rk_219 (as : List zm_V) : zm_rk 219 as = 1 := rfl
theorem ow_220 : zm_own 220 = 12 := rfl
theorem na_220 : zm_na 220 = 3 := rfl
theorem mx_220 : zm_mx 220 = 3 := rfl
theorem rt_220 : zm_ret 220 = 0 := rfl
theorem rk_220 (as : List zm_V) : zm_rk 220 as = 3 := rfl
theorem ow_221 : zm_own 221 = 12 := rfl
theorem na_221 : zm_na 221 = 2 := rfl
theorem mx_221 : zm_mx 221 = 2 := rfl
theorem rt_221 : zm_ret 221 = 1 := rfl
theorem rk_221 (as : List zm_V) : zm_rk 221 as = 1 := rfl
theorem ow_222 : zm_own 222 = 12 := rfl
theorem na_222 : zm_na 222 = 3 := rfl
theorem mx_222 : zm_mx 222 = 5 := rfl
theorem rt_222 : zm_ret 222 = 0 := rfl
theorem rk_222 (as : List zm_V) : zm_rk 222 as = 6 := rfl
theorem ow_223 : zm_own 223 = 12 := rfl
theorem na_223 : zm_na 223 = 2 := rfl
theorem mx_223 : zm_mx 223 = 2 := rfl
theorem rt_223 : zm_ret 223 = 1 := rfl
theorem rk_223 (as : List zm_V) : zm_rk 223 as = 1 := rfl
theorem ow_224 : zm_own 224 = 12 := rfl
theorem na_224 : zm_na 224 = 3 := rfl
theorem mx_224 : zm_mx 224 = 3 := rfl
theorem rt_224 : zm_ret 224 = 0 := rfl
theorem rk_224 (as : List zm_V) : zm_rk 224 as = 1 := rfl
theorem ow_225 : zm_own 225 = 12 := rfl
theorem na_225 : zm_na 225 = 1 := rfl
theorem mx_225 : zm_mx 225 = 2 := rfl
theorem rt_225 : zm_ret 225 = 3 := rfl
theorem rk_225 (as : List zm_V) : zm_rk 225 as = 1 := rfl
theorem ow_226 : zm_own 226 = 12 := rfl
theorem na_226 : zm_na 226 = 3 := rfl
theorem mx_226 : zm_mx 226 = 5 := rfl
theorem rt_226 : zm_ret 226 = 3 := rfl
theorem rk_226 (as : List zm_V) : zm_rk 226 as = 5 := rfl
theorem ow_227 : zm_own 227 = 12 := rfl
theorem na_227 : zm_na 227 = 2 := rfl
theorem mx_227 : zm_mx 227 = 3 := rfl
theorem rt_227 : zm_ret 227 = 0 := rfl
theorem rk_227 (as : List zm_V) : zm_rk 227 as = 3 := rfl
theorem ow_228 : zm_own 228 = 12 := rfl
theorem na_228 : zm_na 228 = 3 := rfl
theorem mx_228 : zm_mx 228 = 4 := rfl
theorem rt_228 : zm_ret 228 = 0 := rfl
theorem rk_228 (as : List zm_V) : zm_rk 228 as = 4 := rfl
theorem ow_229 : zm_own 229 = 12 := rfl
theorem na_229 : zm_na 229 = 4 := rfl
theorem mx_229 : zm_mx 229 = 4 := rfl
theorem rt_229 : zm_ret 229 = 0 := rfl
theorem rk_229 (as : List zm_V) : zm_rk 229 as = 6 := rfl
theorem ow_230 : zm_own 230 = 12 := rfl
theorem na_230 : zm_na 230 = 3 := rfl
theorem mx_230 : zm_mx 230 = 3 := rfl
theorem rt_230 : zm_ret 230 = 0 := rfl
theorem rk_230 (as : List zm_V) : zm_rk 230 as = 7 := rfl
theorem ow_231 : zm_own 231 = 12 := rfl
theorem na_231 : zm_na 231 = 2 := rfl
theorem mx_231 : zm_mx 231 = 2 := rfl
theorem rt_231 : zm_ret 231 = 1 := rfl
theorem rk_231 (as : List zm_V) : zm_rk 231 as = 6 := rfl
theorem ow_232 : zm_own 232 = 12 := rfl
theorem na_232 : zm_na 232 = 3 := rfl
theorem mx_232 : zm_mx 232 = 3 := rfl
theorem rt_232 : zm_ret 232 = 0 := rfl
theorem rk_232 (as : List zm_V) : zm_rk 232 as = 7 := rfl
theorem ow_233 : zm_own 233 = 12 := rfl
theorem na_233 : zm_na 233 = 3 := rfl
theorem mx_233 : zm_mx 233 = 10 := rfl
theorem rt_233 : zm_ret 233 = 2 := rfl
theorem rk_233 (as : List zm_V) : zm_rk 233 as = 3 := rfl
theorem ow_234 : zm_own 234 = 12 := rfl
theorem na_234 : zm_na 234 = 4 := rfl
theorem mx_234 : zm_mx 234 = 4 := rfl
theorem rt_234 : zm_ret 234 = 0 := rfl
theorem rk_234 (as : List zm_V) : zm_rk 234 as = 2 := rfl
theorem ow_235 : zm_own 235 = 12 := rfl
theorem na_235 : zm_na 235 = 2 := rfl
theorem mx_235 : zm_mx 235 = 2 := rfl
theorem rt_235 : zm_ret 235 = 0 := rfl
theorem rk_235 (as : List zm_V) : zm_rk 235 as = 1 := rfl
theorem ow_236 : zm_own 236 = 12 := rfl
theorem na_236 : zm_na 236 = 2 := rfl
theorem mx_236 : zm_mx 236 = 6 := rfl
theorem rt_236 : zm_ret 236 = 2 := rfl
theorem rk_236 (as : List zm_V) : zm_rk 236 as = 1 := rfl
theorem ow_237 : zm_own 237 = 12 := rfl
theorem na_237 : zm_na 237 = 2 := rfl
theorem mx_237 : zm_mx 237 = 4 := rfl
theorem rt_237 : zm_ret 237 = 0 := rfl
theorem rk_237 (as : List zm_V) : zm_rk 237 as = 1 := rfl
theorem ow_238 : zm_own 238 = 12 := rfl
theorem na_238 : zm_na 238 = 2 := rfl
theorem mx_238 : zm_mx 238 = 2 := rfl
theorem rt_238 : zm_ret 238 = 0 := rfl
theorem rk_238 (as : List zm_V) : zm_rk 238 as = 7 := rfl
theorem ow_239 : zm_own 239 = 12 := rfl
theorem na_239 : zm_na 239 = 2 := rfl
theorem mx_239 : zm_mx 239 = 5 := rfl
theorem rt_239 : zm_ret 239 = 2 := rfl
theorem rk_239 (as : List zm_V) : zm_rk 239 as = 4 := rfl
theorem ow_240 : zm_own 240 = 12 := rfl
theorem na_240 : zm_na 240 = 3 := rfl
theorem mx_240 : zm_mx 240 = 3 := rfl
theorem rt_240 : zm_ret 240 = 0 := rfl
theorem rk_240 (as : List zm_V) : zm_rk 240 as = 8 := rfl
theorem ow_241 : zm_own 241 = 12 := rfl
theorem na_241 : zm_na 241 = 3 := rfl
theorem mx_241 : zm_mx 241 = 4 := rfl
theorem rt_241 : zm_ret 241 = 1 := rfl
theorem rk_241 (as : List zm_V) : zm_rk 241 as = 7 := rfl
theorem ow_242 : zm_own 242 = 12 := rfl
theorem na_242 : zm_na 242 = 3 := rfl
theorem mx_242 : zm_mx 242 = 3 := rfl
theorem rt_242 : zm_ret 242 = 0 := rfl
theorem rk_242 (as : List zm_V) : zm_rk 242 as = 6 := rfl
theorem ow_243 : zm_own 243 = 12 := rfl
theorem na_243 : zm_na 243 = 2 := rfl
theorem mx_243 : zm_mx 243 = 7 := rfl
theorem rt_243 : zm_ret 243 = 0 := rfl
theorem rk_243 (as : List zm_V) : zm_rk 243 as = 8 := rfl
theorem ow_244 : zm_own 244 = 12 := rfl
theorem na_244 : zm_na 244 = 3 := rfl
theorem mx_244 : zm_mx 244 = 8 := rfl
theorem rt_244 : zm_ret 244 = 0 := rfl
theorem rk_244 (as : List zm_V) : zm_rk 244 as = 6 := rfl
theorem ow_245 : zm_own 245 = 12 := rfl
theorem na_245 : zm_na 245 = 2 := rfl
theorem mx_245 : zm_mx 245 = 5 := rfl
theorem rt_245 : zm_ret 245 = 1 := rfl
theorem rk_245 (as : List zm_V) : zm_rk 245 as = 1 := rfl
theorem ow_246 : zm_own 246 = 12 := rfl
theorem na_246 : zm_na 246 = 2 := rfl
theorem mx_246 : zm_mx 246 = 2 := rfl
theorem rt_246 : zm_ret 246 = 0 := rfl
theorem rk_246 (as : List zm_V) : zm_rk 246 as = 7 := rfl
theorem ow_247 : zm_own 247 = 12 := rfl
theorem na_247 : zm_na 247 = 1 := rfl
theorem mx_247 : zm_mx 247 = 1 := rfl
theorem rt_247 : zm_ret 247 = 3 := rfl
theorem rk_247 (as : List zm_V) : zm_rk 247 as = 2 := rfl
theorem ow_248 : zm_own 248 = 12 := rfl
theorem na_248 : zm_na 248 = 2 := rfl
theorem mx_248 : zm_mx 248 = 7 := rfl
theorem rt_248 : zm_ret 248 = 0 := rfl
theorem rk_248 (as : List zm_V) : zm_rk 248 as = 6 := rfl
theorem ow_249 : zm_own 249 = 12 := rfl
theorem na_249 : zm_na 249 = 2 := rfl
theorem mx_249 : zm_mx 249 = 5 := rfl
theorem rt_249 : zm_ret 249 = 0 := rfl
theorem rk_249 (as : List zm_V) : zm_rk 249 as = 5 := rfl
theorem ow_250 : zm_own 250 = 12 := rfl
theorem na_250 : zm_na 250 = 2 := rfl
theorem mx_250 : zm_mx 250 = 2 := rfl
theorem rt_250 : zm_ret 250 = 0 := rfl
theorem rk_250 (as : List zm_V) : zm_rk 250 as = 1 := rfl
theorem ow_251 : zm_own 251 = 12 := rfl
theorem na_251 : zm_na 251 = 3 := rfl
theorem mx_251 : zm_mx 251 = 6 := rfl
theorem rt_251 : zm_ret 251 = 1 := rfl
theorem rk_251 (as : List zm_V) : zm_rk 251 as = 5 := rfl
theorem ow_252 : zm_own 252 = 12 := rfl
theorem na_252 : zm_na 252 = 4 := rfl
theorem mx_252 : zm_mx 252 = 5 := rfl
theorem rt_252 : zm_ret 252 = 3 := rfl
theorem rk_252 (as : List zm_V) : zm_rk 252 as = 1 := rfl
theorem ow_253 : zm_own 253 = 12 := rfl
theorem na_253 : zm_na 253 = 1 := rfl
theorem mx_253 : zm_mx 253 = 1 := rfl
theorem rt_253 : zm_ret 253 = 0 := rfl
theorem rk_253 (as : List zm_V) : zm_rk 253 as = 3 := rfl
theorem ow_254 : zm_own 254 = 12 := rfl
theorem na_254 : zm_na 254 = 4 := rfl
theorem mx_254 : zm_mx 254 = 4 := rfl
theorem rt_254 : zm_ret 254 = 0 := rfl
theorem rk_254 (as : List zm_V) : zm_rk 254 as = 3 := rfl
theorem ow_255 : zm_own 255 = 12 := rfl
theorem na_255 : zm_na 255 = 3 := rfl
theorem mx_255 : zm_mx 255 = 3 := rfl
theorem rt_255 : zm_ret 255 = 1 := rfl
theorem rk_255 (as : List zm_V) : zm_rk 255 as = 3 := rfl
theorem ow_256 : zm_own 256 = 12 := rfl
theorem na_256 : zm_na 256 = 5 := rfl
theorem mx_256 : zm_mx 256 = 6 := rfl
theorem rt_256 : zm_ret 256 = 1 := rfl
theorem rk_256 (as : List zm_V) : zm_rk 256 as = 3 := rfl
theorem ow_257 : zm_own 257 = 12 := rfl
theorem na_257 : zm_na 257 = 2 := rfl
theorem mx_257 : zm_mx 257 = 6 := rfl
theorem rt_257 : zm_ret 257 = 0 := rfl
theorem rk_257 (as : List zm_V) : zm_rk 257 as = 8 := rfl
theorem ow_258 : zm_own 258 = 12 := rfl
theorem na_258 : zm_na 258 = 2 := rfl
theorem mx_258 : zm_mx 258 = 2 := rfl
theorem rt_258 : zm_ret 258 = 1 := rfl
theorem rk_258 (as : List zm_V) : zm_rk 258 as = 2 := rfl
theorem ow_259 : zm_own 259 = 12 := rfl
theorem na_259 : zm_na 259 = 3 := rfl
theorem mx_259 : zm_mx 259 = 3 := rfl
theorem rt_259 : zm_ret 259 = 0 := rfl
theorem rk_259 (as : List zm_V) : zm_rk 259 as = 2 := rfl
theorem ow_260 : zm_own 260 = 12 := rfl
theorem na_260 : zm_na 260 = 1 := rfl
theorem mx_260 : zm_mx 260 = 5 := rfl
theorem rt_260 : zm_ret 260 = 0 := rfl
theorem rk_260 (as : List zm_V) : zm_rk 260 as = 6 := rfl
theorem ow_261 : zm_own 261 = 12 := rfl
theorem na_261 : zm_na 261 = 3 := rfl
theorem mx_261 : zm_mx 261 = 4 := rfl
theorem rt_261 : zm_ret 261 = 1 := rfl
theorem rk_261 (as : List zm_V) : zm_rk 261 as = 5 := rfl
theorem ow_262 : zm_own 262 = 12 := rfl
theorem na_262 : zm_na 262 = 3 := rfl
theorem mx_262 : zm_mx 262 = 3 := rfl
theorem rt_262 : zm_ret 262 = 0 := rfl
theorem rk_262 (as : List zm_V) : zm_rk 262 as = 2 := rfl
theorem ow_263 : zm_own 263 = 12 := rfl
theorem na_263 : zm_na 263 = 3 := rfl
theorem mx_263 : zm_mx 263 = 3 := rfl
theorem rt_263 : zm_ret 263 = 0 := rfl
theorem rk_263 (as : List zm_V) : zm_rk 263 as = 4 := rfl
theorem ow_264 : zm_own 264 = 12 := rfl
theorem na_264 : zm_na 264 = 1 := rfl
theorem mx_264 : zm_mx 264 = 5 := rfl
theorem rt_264 : zm_ret 264 = 3 := rfl
theorem rk_264 (as : List zm_V) : zm_rk 264 as = 3 := rfl
theorem ow_265 : zm_own 265 = 12 := rfl
theorem na_265 : zm_na 265 = 2 := rfl
theorem mx_265 : zm_mx 265 = 4 := rfl
theorem rt_265 : zm_ret 265 = 0 := rfl
theorem rk_265 (as : List zm_V) : zm_rk 265 as = 2 := rfl
theorem ow_266 : zm_own 266 = 12 := rfl
theorem na_266 : zm_na 266 = 3 := rfl
theorem mx_266 : zm_mx 266 = 5 := rfl
theorem rt_266 : zm_ret 266 = 0 := rfl
theorem rk_266 (as : List zm_V) : zm_rk 266 as = 2 := rfl
theorem ow_267 : zm_own 267 = 12 := rfl
theorem na_267 : zm_na 267 = 2 := rfl
theorem mx_267 : zm_mx 267 = 4 := rfl
theorem rt_267 : zm_ret 267 = 1 := rfl
theorem rk_267 (as : List zm_V) : zm_rk 267 as = 1 := rfl
theorem ow_268 : zm_own 268 = 12 := rfl
theorem na_268 : zm_na 268 = 1 := rfl
theorem mx_268 : zm_mx 268 = 3 := rfl
theorem rt_268 : zm_ret 268 = 0 := rfl
theorem rk_268 (as : List zm_V) : zm_rk 268 as = 3 := rfl
theorem ow_269 : zm_own 269 = 12 := rfl
theorem na_269 : zm_na 269 = 2 := rfl
theorem mx_269 : zm_mx 269 = 2 := rfl
theorem rt_269 : zm_ret 269 = 3 := rfl
theorem rk_269 (as : List zm_V) : zm_rk 269 as = 1 := rfl
theorem ow_270 : zm_own 270 = 12 := rfl
theorem na_270 : zm_na 270 = 2 := rfl
theorem mx_270 : zm_mx 270 = 2 := rfl
theorem rt_270 : zm_ret 270 = 3 := rfl
theorem rk_270 (as : List zm_V) : zm_rk 270 as = 2 := rfl
theorem ow_271 : zm_own 271 = 12 := rfl
theorem na_271 : zm_na 271 = 2 := rfl
theorem mx_271 : zm_mx 271 = 2 := rfl
theorem rt_271 : zm_ret 271 = 0 := rfl
theorem rk_271 (as : List zm_V) : zm_rk 271 as = 2 := rfl
theorem ow_272 : zm_own 272 = 12 := rfl
theorem na_272 : zm_na 272 = 1 := rfl
theorem mx_272 : zm_mx 272 = 2 := rfl
theorem rt_272 : zm_ret 272 = 1 := rfl
theorem rk_272 (as : List zm_V) : zm_rk 272 as = 3 := rfl
theorem ow_273 : zm_own 273 = 12 := rfl
theorem na_273 : zm_na 273 = 2 := rfl
theorem mx_273 : zm_mx 273 = 8 := rfl
theorem rt_273 : zm_ret 273 = 1 := rfl
theorem rk_273 (as : List zm_V) : zm_rk 273 as = 2 := rfl
theorem ow_274 : zm_own 274 = 12 := rfl
theorem na_274 : zm_na 274 = 2 := rfl
theorem mx_274 : zm_mx 274 = 2 := rfl
theorem rt_274 : zm_ret 274 = 0 := rfl
theorem rk_274 (as : List zm_V) : zm_rk 274 as = 1 := rfl
theorem d_1_0 : decode (zm_code 1) 0 = .ok (.aload_n 0, 1) := by decide +kernel
theorem d_1_1 : decode (zm_code 1) 1 = .ok (.getfield 10, 3) := by decide +kernel
theorem d_1_4 : decode (zm_code 1) 4 = .ok (.getfield 108, 3) := by decide +kernel
theorem d_1_7 : decode (zm_code 1) 7 = .ok (.bipush 20, 2) := by decide +kernel
theorem d_1_9 : decode (zm_code 1) 9 = .ok (.iadd, 1) := by decide +kernel
theorem d_1_10 : decode (zm_code 1) 10 = .ok (.sipush 1600, 3) := by decide +kernel
theorem d_1_13 : decode (zm_code 1) 13 = .ok (.if_icmp .le 9, 3) := by decide +kernel
theorem d_1_16 : decode (zm_code 1) 16 = .ok (.aload_n 0, 1) := by decide +kernel
theorem d_1_17 : decode (zm_code 1) 17 = .ok (.iconst 0, 1) := by decide +kernel
theorem d_1_18 : decode (zm_code 1) 18 = .ok (.invokevirtual 111, 3) := by decide +kernel
theorem d_1_21 : decode (zm_code 1) 21 = .ok (.ireturn, 1) := by decide +kernel
theorem d_1_22 : decode (zm_code 1) 22 = .ok (.aload_n 0, 1) := by decide +kernel
theorem d_1_23 : decode (zm_code 1) 23 = .ok (.getfield 10, 3) := by decide +kernel
theorem d_1_26 : decode (zm_code 1) 26 = .ok (.iload_n 1, 1) := by decide +kernel
theorem d_1_27 : decode (zm_code 1) 27 = .ok (.invokevirtual 115, 3) := by decide +kernel
theorem d_1_30 : decode (zm_code 1) 30 = .ok (.aload_n 0, 1) := by decide +kernel
theorem d_1_31 : decode (zm_code 1) 31 = .ok (.getfield 10, 3) := by decide +kernel
theorem d_1_34 : decode (zm_code 1) 34 = .ok (.iload_n 2, 1) := by decide +kernel
theorem d_1_35 : decode (zm_code 1) 35 = .ok (.invokevirtual 115, 3) := by decide +kernel
theorem d_1_38 : decode (zm_code 1) 38 = .ok (.aload_n 0, 1) := by decide +kernel
theorem d_1_39 : decode (zm_code 1) 39 = .ok (.getfield 10, 3) := by decide +kernel
theorem d_1_42 : decode (zm_code 1) 42 = .ok (.iload_n 3, 1) := by decide +kernel
theorem d_1_43 : decode (zm_code 1) 43 = .ok (.invokevirtual 115, 3) := by decide +kernel
theorem d_1_46 : decode (zm_code 1) 46 = .ok (.aload_n 0, 1) := by decide +kernel
theorem d_1_47 : decode (zm_code 1) 47 = .ok (.getfield 10, 3) := by decide +kernel
theorem d_1_50 : decode (zm_code 1) 50 = .ok (.iload 4, 2) := by decide +kernel
theorem d_1_52 : decode (zm_code 1) 52 = .ok (.invokevirtual 115, 3) := by decide +kernel
theorem d_1_55 : decode (zm_code 1) 55 = .ok (.aload_n 0, 1) := by decide +kernel
theorem d_1_56 : decode (zm_code 1) 56 = .ok (.getfield 10, 3) := by decide +kernel
theorem d_1_59 : decode (zm_code 1) 59 = .ok (.iload 5, 2) := by decide +kernel
theorem d_1_61 : decode (zm_code 1) 61 = .ok (.invokevirtual 115, 3) := by decide +kernel
theorem d_1_64 : decode (zm_code 1) 64 = .ok (.aload_n 0, 1) := by decide +kernel
theorem d_1_65 : decode (zm_code 1) 65 = .ok (.getfield 10, 3) := by decide +kernel
theorem d_1_68 : decode (zm_code 1) 68 = .ok (.getfield 108, 3) := by decide +kernel
theorem d_1_71 : decode (zm_code 1) 71 = .ok (.ireturn, 1) := by decide +kernel
theorem d_2_0 : decode (zm_code 2) 0 = .ok (.aload_n 0, 1) := by decide +kernel
theorem d_2_1 : decode (zm_code 2) 1 = .ok (.getfield 97, 3) := by decide +kernel
theorem d_2_4 : decode (zm_code 2) 4 = .ok (.iload_n 1, 1) := by decide +kernel
theorem d_2_5 : decode (zm_code 2) 5 = .ok (.dup2, 1) := by decide +kernel
theorem d_2_6 : decode (zm_code 2) 6 = .ok (.iaload, 1) := by decide +kernel
theorem d_2_7 : decode (zm_code 2) 7 = .ok (.iconst 1, 1) := by decide +kernel
theorem d_2_8 : decode (zm_code 2) 8 = .ok (.iadd, 1) := by decide +kernel
theorem d_2_9 : decode (zm_code 2) 9 = .ok (.iastore, 1) := by decide +kernel
theorem d_2_10 : decode (zm_code 2) 10 = .ok (.iconst (-1), 1) := by decide +kernel
theorem d_2_11 : decode (zm_code 2) 11 = .ok (.ireturn, 1) := by decide +kernel
theorem d_3_0 : decode (zm_code 3) 0 = .ok (.iload_n 1, 1) := by decide +kernel
theorem d_3_1 : decode (zm_code 3) 1 = .ok (.ifCond .lt 14, 3) := by decide +kernel
theorem d_3_4 : decode (zm_code 3) 4 = .ok (.iload_n 1, 1) := by decide +kernel
theorem d_3_5 : decode (zm_code 3) 5 = .ok (.aload_n 0, 1) := by decide +kernel
theorem d_3_6 : decode (zm_code 3) 6 = .ok (.getfield 10, 3) := by decide +kernel
theorem d_3_9 : decode (zm_code 3) 9 = .ok (.getfield 108, 3) := by decide +kernel
theorem d_3_12 : decode (zm_code 3) 12 = .ok (.if_icmp .le 9, 3) := by decide +kernel
theorem d_3_15 : decode (zm_code 3) 15 = .ok (.aload_n 0, 1) := by decide +kernel
theorem d_3_16 : decode (zm_code 3) 16 = .ok (.iconst 0, 1) := by decide +kernel
theorem d_3_17 : decode (zm_code 3) 17 = .ok (.invokevirtual 119, 3) := by decide +kernel
theorem d_3_20 : decode (zm_code 3) 20 = .ok (.ireturn, 1) := by decide +kernel
theorem d_3_21 : decode (zm_code 3) 21 = .ok (.aload_n 0, 1) := by decide +kernel
theorem d_3_22 : decode (zm_code 3) 22 = .ok (.getfield 10, 3) := by decide +kernel
theorem d_3_25 : decode (zm_code 3) 25 = .ok (.iload_n 1, 1) := by decide +kernel
theorem d_3_26 : decode (zm_code 3) 26 = .ok (.putfield 108, 3) := by decide +kernel
theorem d_3_29 : decode (zm_code 3) 29 = .ok (.iconst 1, 1) := by decide +kernel
theorem d_3_30 : decode (zm_code 3) 30 = .ok (.ireturn, 1) := by decide +kernel
theorem d_4_0 : decode (zm_code 4) 0 = .ok (.aload_n 0, 1) := by decide +kernel
theorem d_4_1 : decode (zm_code 4) 1 = .ok (.getfield 97, 3) := by decide +kernel
theorem d_4_4 : decode (zm_code 4) 4 = .ok (.iload_n 1, 1) := by decide +kernel
theorem d_4_5 : decode (zm_code 4) 5 = .ok (.dup2, 1) := by decide +kernel
theorem d_4_6 : decode (zm_code 4) 6 = .ok (.iaload, 1) := by decide +kernel
theorem d_4_7 : decode (zm_code 4) 7 = .ok (.iconst 1, 1) := by decide +kernel
theorem d_4_8 : decode (zm_code 4) 8 = .ok (.iadd, 1) := by decide +kernel
theorem d_4_9 : decode (zm_code 4) 9 = .ok (.iastore, 1) := by decide +kernel
theorem d_4_10 : decode (zm_code 4) 10 = .ok (.iconst 0, 1) := by decide +kernel
theorem d_4_11 : decode (zm_code 4) 11 = .ok (.ireturn, 1) := by decide +kernel
theorem d_5_0 : decode (zm_code 5) 0 = .ok (.aload_n 0, 1) := by decide +kernel
theorem d_5_1 : decode (zm_code 5) 1 = .ok (.getfield 31, 3) := by decide +kernel
theorem d_5_4 : decode (zm_code 5) 4 = .ok (.aload_n 0, 1) := by decide +kernel
theorem d_5_5 : decode (zm_code 5) 5 = .ok (.getfield 23, 3) := by decide +kernel
theorem d_5_8 : decode (zm_code 5) 8 = .ok (.invokevirtual 123, 3) := by decide +kernel
theorem d_5_11 : decode (zm_code 5) 11 = .ok (.istore_n 1, 1) := by decide +kernel
theorem d_5_12 : decode (zm_code 5) 12 = .ok (.aload_n 0, 1) := by decide +kernel
theorem d_5_13 : decode (zm_code 5) 13 = .ok (.getfield 10, 3) := by decide +kernel
theorem d_5_16 : decode (zm_code 5) 16 = .ok (.iconst 0, 1) := by decide +kernel
theorem d_5_17 : decode (zm_code 5) 17 = .ok (.putfield 108, 3) := by decide +kernel
theorem d_5_20 : decode (zm_code 5) 20 = .ok (.iload_n 1, 1) := by decide +kernel
theorem d_5_21 : decode (zm_code 5) 21 = .ok (.ifCond .ne 9, 3) := by decide +kernel
theorem d_5_24 : decode (zm_code 5) 24 = .ok (.aload_n 0, 1) := by decide +kernel
theorem d_5_25 : decode (zm_code 5) 25 = .ok (.iconst 1, 1) := by decide +kernel
theorem d_5_26 : decode (zm_code 5) 26 = .ok (.invokevirtual 111, 3) := by decide +kernel
theorem d_5_29 : decode (zm_code 5) 29 = .ok (.ireturn, 1) := by decide +kernel
theorem d_5_30 : decode (zm_code 5) 30 = .ok (.aload_n 0, 1) := by decide +kernel
theorem d_5_31 : decode (zm_code 5) 31 = .ok (.getfield 19, 3) := by decide +kernel
theorem d_5_34 : decode (zm_code 5) 34 = .ok (.astore_n 2, 1) := by decide +kernel
theorem d_5_35 : decode (zm_code 5) 35 = .ok (.aload_n 0, 1) := by decide +kernel
theorem d_5_36 : decode (zm_code 5) 36 = .ok (.aload_n 0, 1) := by decide +kernel
theorem d_5_37 : decode (zm_code 5) 37 = .ok (.getfield 23, 3) := by decide +kernel
theorem d_5_40 : decode (zm_code 5) 40 = .ok (.putfield 19, 3) := by decide +kernel
theorem d_5_43 : decode (zm_code 5) 43 = .ok (.aload_n 0, 1) := by decide +kernel
theorem d_5_44 : decode (zm_code 5) 44 = .ok (.aload_n 2, 1) := by decide +kernel
theorem d_5_45 : decode (zm_code 5) 45 = .ok (.putfield 23, 3) := by decide +kernel
theorem d_5_48 : decode (zm_code 5) 48 = .ok (.aload_n 0, 1) := by decide +kernel
theorem d_5_49 : decode (zm_code 5) 49 = .ok (.getfield 38, 3) := by decide +kernel
theorem d_5_52 : decode (zm_code 5) 52 = .ok (.aload_n 0, 1) := by decide +kernel
theorem d_5_53 : decode (zm_code 5) 53 = .ok (.getfield 19, 3) := by decide +kernel
theorem d_5_56 : decode (zm_code 5) 56 = .ok (.invokevirtual 104, 3) := by decide +kernel
theorem d_5_59 : decode (zm_code 5) 59 = .ok (.aload_n 0, 1) := by decide +kernel
theorem d_5_60 : decode (zm_code 5) 60 = .ok (.getfield 51, 3) := by decide +kernel
theorem d_5_63 : decode (zm_code 5) 63 = .ok (.invokevirtual 127, 3) := by decide +kernel
theorem d_5_66 : decode (zm_code 5) 66 = .ok (.aload_n 0, 1) := by decide +kernel
theorem d_5_67 : decode (zm_code 5) 67 = .ok (.iconst 0, 1) := by decide +kernel
theorem d_5_68 : decode (zm_code 5) 68 = .ok (.putfield 130, 3) := by decide +kernel
theorem d_5_71 : decode (zm_code 5) 71 = .ok (.aload_n 0, 1) := by decide +kernel
theorem d_5_72 : decode (zm_code 5) 72 = .ok (.getfield 19, 3) := by decide +kernel
theorem d_5_75 : decode (zm_code 5) 75 = .ok (.getfield 134, 3) := by decide +kernel
theorem d_5_78 : decode (zm_code 5) 78 = .ok (.ireturn, 1) := by decide +kernel
theorem d_6_0 : decode (zm_code 6) 0 = .ok (.iload_n 1, 1) := by decide +kernel
theorem d_6_1 : decode (zm_code 6) 1 = .ok (.lookupswitch 43 #[(0, 27), (1, 35)], 27) := by decide +kernel
theorem d_6_28 : decode (zm_code 6) 28 = .ok (.aload_n 0, 1) := by decide +kernel
theorem d_6_29 : decode (zm_code 6) 29 = .ok (.getfield 31, 3) := by decide +kernel
theorem d_6_32 : decode (zm_code 6) 32 = .ok (.getfield 137, 3) := by decide +kernel
theorem d_6_35 : decode (zm_code 6) 35 = .ok (.ireturn, 1) := by decide +kernel
theorem d_6_36 : decode (zm_code 6) 36 = .ok (.aload_n 0, 1) := by decide +kernel
theorem d_6_37 : decode (zm_code 6) 37 = .ok (.getfield 31, 3) := by decide +kernel
theorem d_6_40 : decode (zm_code 6) 40 = .ok (.getfield 140, 3) := by decide +kernel
theorem d_6_43 : decode (zm_code 6) 43 = .ok (.ireturn, 1) := by decide +kernel
theorem d_6_44 : decode (zm_code 6) 44 = .ok (.iconst (-1), 1) := by decide +kernel
theorem d_6_45 : decode (zm_code 6) 45 = .ok (.ireturn, 1) := by decide +kernel
theorem d_7_0 : decode (zm_code 7) 0 = .ok (.iload_n 1, 1) := by decide +kernel
theorem d_7_1 : decode (zm_code 7) 1 = .ok (.tableswitch 153 0 11 #[63, 71, 79, 87, 95, 103, 111, 116, 124, 132, 140, 148], 63) := by decide +kernel
theorem d_7_64 : decode (zm_code 7) 64 = .ok (.aload_n 0, 1) := by decide +kernel
theorem d_7_65 : decode (zm_code 7) 65 = .ok (.getfield 19, 3) := by decide +kernel
theorem d_7_68 : decode (zm_code 7) 68 = .ok (.getfield 143, 3) := by decide +kernel
theorem d_7_71 : decode (zm_code 7) 71 = .ok (.ireturn, 1) := by decide +kernel
theorem d_7_72 : decode (zm_code 7) 72 = .ok (.aload_n 0, 1) := by decide +kernel
theorem d_7_73 : decode (zm_code 7) 73 = .ok (.getfield 19, 3) := by decide +kernel
theorem d_7_76 : decode (zm_code 7) 76 = .ok (.getfield 146, 3) := by decide +kernel
theorem d_7_79 : decode (zm_code 7) 79 = .ok (.ireturn, 1) := by decide +kernel
theorem d_7_80 : decode (zm_code 7) 80 = .ok (.aload_n 0, 1) := by decide +kernel
theorem d_7_81 : decode (zm_code 7) 81 = .ok (.getfield 19, 3) := by decide +kernel
theorem d_7_84 : decode (zm_code 7) 84 = .ok (.getfield 149, 3) := by decide +kernel
theorem d_7_87 : decode (zm_code 7) 87 = .ok (.ireturn, 1) := by decide +kernel
theorem d_7_88 : decode (zm_code 7) 88 = .ok (.aload_n 0, 1) := by decide +kernel
theorem d_7_89 : decode (zm_code 7) 89 = .ok (.getfield 38, 3) := by decide +kernel
theorem d_7_92 : decode (zm_code 7) 92 = .ok (.getfield 152, 3) := by decide +kernel
theorem d_7_95 : decode (zm_code 7) 95 = .ok (.ireturn, 1) := by decide +kernel
theorem d_7_96 : decode (zm_code 7) 96 = .ok (.aload_n 0, 1) := by decide +kernel
theorem d_7_97 : decode (zm_code 7) 97 = .ok (.getfield 38, 3) := by decide +kernel
theorem d_7_100 : decode (zm_code 7) 100 = .ok (.invokevirtual 155, 3) := by decide +kernel
theorem d_7_103 : decode (zm_code 7) 103 = .ok (.ireturn, 1) := by decide +kernel
theorem d_7_104 : decode (zm_code 7) 104 = .ok (.aload_n 0, 1) := by decide +kernel
theorem d_7_105 : decode (zm_code 7) 105 = .ok (.getfield 38, 3) := by decide +kernel
theorem d_7_108 : decode (zm_code 7) 108 = .ok (.getfield 159, 3) := by decide +kernel
theorem d_7_111 : decode (zm_code 7) 111 = .ok (.ireturn, 1) := by decide +kernel
theorem d_7_112 : decode (zm_code 7) 112 = .ok (.aload_n 0, 1) := by decide +kernel
theorem d_7_113 : decode (zm_code 7) 113 = .ok (.invokevirtual 162, 3) := by decide +kernel
theorem d_7_116 : decode (zm_code 7) 116 = .ok (.ireturn, 1) := by decide +kernel
theorem d_7_117 : decode (zm_code 7) 117 = .ok (.aload_n 0, 1) := by decide +kernel
theorem d_7_118 : decode (zm_code 7) 118 = .ok (.getfield 38, 3) := by decide +kernel
theorem d_7_121 : decode (zm_code 7) 121 = .ok (.invokevirtual 165, 3) := by decide +kernel
theorem d_7_124 : decode (zm_code 7) 124 = .ok (.ireturn, 1) := by decide +kernel
theorem d_7_125 : decode (zm_code 7) 125 = .ok (.aload_n 0, 1) := by decide +kernel
theorem d_7_126 : decode (zm_code 7) 126 = .ok (.getfield 38, 3) := by decide +kernel
theorem d_7_129 : decode (zm_code 7) 129 = .ok (.invokevirtual 168, 3) := by decide +kernel
theorem d_7_132 : decode (zm_code 7) 132 = .ok (.ireturn, 1) := by decide +kernel
theorem d_7_133 : decode (zm_code 7) 133 = .ok (.aload_n 0, 1) := by decide +kernel
theorem d_7_134 : decode (zm_code 7) 134 = .ok (.getfield 51, 3) := by decide +kernel
theorem d_7_137 : decode (zm_code 7) 137 = .ok (.invokevirtual 171, 3) := by decide +kernel
theorem d_7_140 : decode (zm_code 7) 140 = .ok (.ireturn, 1) := by decide +kernel
theorem d_7_141 : decode (zm_code 7) 141 = .ok (.aload_n 0, 1) := by decide +kernel
theorem d_7_142 : decode (zm_code 7) 142 = .ok (.getfield 51, 3) := by decide +kernel
theorem d_7_145 : decode (zm_code 7) 145 = .ok (.getfield 173, 3) := by decide +kernel
theorem d_7_148 : decode (zm_code 7) 148 = .ok (.ireturn, 1) := by decide +kernel
theorem d_7_149 : decode (zm_code 7) 149 = .ok (.aload_n 0, 1) := by decide +kernel
theorem d_7_150 : decode (zm_code 7) 150 = .ok (.getfield 100, 3) := by decide +kernel
theorem d_7_153 : decode (zm_code 7) 153 = .ok (.ireturn, 1) := by decide +kernel
theorem d_7_154 : decode (zm_code 7) 154 = .ok (.iconst (-1), 1) := by decide +kernel
theorem d_7_155 : decode (zm_code 7) 155 = .ok (.ireturn, 1) := by decide +kernel
theorem d_8_0 : decode (zm_code 8) 0 = .ok (.aload_n 0, 1) := by decide +kernel
theorem d_8_1 : decode (zm_code 8) 1 = .ok (.invokevirtual 347, 3) := by decide +kernel
theorem d_8_4 : decode (zm_code 8) 4 = .ok (.aload_n 0, 1) := by decide +kernel
theorem d_8_5 : decode (zm_code 8) 5 = .ok (.getfield 90, 3) := by decide +kernel
theorem d_8_8 : decode (zm_code 8) 8 = .ok (.iconst 3, 1) := by decide +kernel
theorem d_8_9 : decode (zm_code 8) 9 = .ok (.iconst 0, 1) := by decide +kernel
theorem d_8_10 : decode (zm_code 8) 10 = .ok (.iastore, 1) := by decide +kernel
theorem d_8_11 : decode (zm_code 8) 11 = .ok (.aload_n 0, 1) := by decide +kernel
theorem d_8_12 : decode (zm_code 8) 12 = .ok (.getfield 90, 3) := by decide +kernel
theorem d_8_15 : decode (zm_code 8) 15 = .ok (.iconst 4, 1) := by decide +kernel
theorem d_8_16 : decode (zm_code 8) 16 = .ok (.iconst 0, 1) := by decide +kernel
theorem d_8_17 : decode (zm_code 8) 17 = .ok (.iastore, 1) := by decide +kernel
theorem d_8_18 : decode (zm_code 8) 18 = .ok (.aload_n 0, 1) := by decide +kernel
theorem d_8_19 : decode (zm_code 8) 19 = .ok (.getfield 90, 3) := by decide +kernel
theorem d_8_22 : decode (zm_code 8) 22 = .ok (.iconst 5, 1) := by decide +kernel
theorem d_8_23 : decode (zm_code 8) 23 = .ok (.iconst 0, 1) := by decide +kernel
theorem d_8_24 : decode (zm_code 8) 24 = .ok (.iastore, 1) := by decide +kernel
theorem d_8_25 : decode (zm_code 8) 25 = .ok (.aload_n 0, 1) := by decide +kernel
theorem d_8_26 : decode (zm_code 8) 26 = .ok (.getfield 86, 3) := by decide +kernel
theorem d_8_29 : decode (zm_code 8) 29 = .ok (.aload_n 0, 1) := by decide +kernel
theorem d_8_30 : decode (zm_code 8) 30 = .ok (.getfield 19, 3) := by decide +kernel
theorem d_8_33 : decode (zm_code 8) 33 = .ok (.getfield 350, 3) := by decide +kernel
theorem d_8_36 : decode (zm_code 8) 36 = .ok (.aload_n 0, 1) := by decide +kernel
theorem d_8_37 : decode (zm_code 8) 37 = .ok (.getfield 19, 3) := by decide +kernel
theorem d_8_40 : decode (zm_code 8) 40 = .ok (.getfield 353, 3) := by decide +kernel
theorem d_8_43 : decode (zm_code 8) 43 = .ok (.aload_n 0, 1) := by decide +kernel
theorem d_8_44 : decode (zm_code 8) 44 = .ok (.getfield 19, 3) := by decide +kernel
theorem d_8_47 : decode (zm_code 8) 47 = .ok (.getfield 356, 3) := by decide +kernel
theorem d_8_50 : decode (zm_code 8) 50 = .ok (.aload_n 0, 1) := by decide +kernel
theorem d_8_51 : decode (zm_code 8) 51 = .ok (.getfield 90, 3) := by decide +kernel
theorem d_8_54 : decode (zm_code 8) 54 = .ok (.invokevirtual 359, 3) := by decide +kernel
theorem d_8_57 : decode (zm_code 8) 57 = .ok (.istore_n 1, 1) := by decide +kernel
theorem d_8_58 : decode (zm_code 8) 58 = .ok (.iconst 0, 1) := by decide +kernel
theorem d_8_59 : decode (zm_code 8) 59 = .ok (.bipush 99, 2) := by decide +kernel
theorem d_8_61 : decode (zm_code 8) 61 = .ok (.iload_n 1, 1) := by decide +kernel
theorem d_8_62 : decode (zm_code 8) 62 = .ok (.invokestatic 342, 3) := by decide +kernel
theorem d_8_65 : decode (zm_code 8) 65 = .ok (.invokestatic 363, 3) := by decide +kernel
theorem d_8_68 : decode (zm_code 8) 68 = .ok (.ireturn, 1) := by decide +kernel
theorem d_9_0 : decode (zm_code 9) 0 = .ok (.aload_n 0, 1) := by decide +kernel
theorem d_9_1 : decode (zm_code 9) 1 = .ok (.getfield 90, 3) := by decide +kernel
theorem d_9_4 : decode (zm_code 9) 4 = .ok (.iconst 0, 1) := by decide +kernel
theorem d_9_5 : decode (zm_code 9) 5 = .ok (.aload_n 0, 1) := by decide +kernel
theorem d_9_6 : decode (zm_code 9) 6 = .ok (.getfield 38, 3) := by decide +kernel
theorem d_9_9 : decode (zm_code 9) 9 = .ok (.getfield 152, 3) := by decide +kernel
theorem d_9_12 : decode (zm_code 9) 12 = .ok (.iastore, 1) := by decide +kernel
theorem d_9_13 : decode (zm_code 9) 13 = .ok (.aload_n 0, 1) := by decide +kernel
theorem d_9_14 : decode (zm_code 9) 14 = .ok (.getfield 90, 3) := by decide +kernel
theorem d_9_17 : decode (zm_code 9) 17 = .ok (.iconst 1, 1) := by decide +kernel
theorem d_9_18 : decode (zm_code 9) 18 = .ok (.aload_n 0, 1) := by decide +kernel
theorem d_9_19 : decode (zm_code 9) 19 = .ok (.getfield 38, 3) := by decide +kernel
theorem d_9_22 : decode (zm_code 9) 22 = .ok (.invokevirtual 155, 3) := by decide +kernel
theorem d_9_25 : decode (zm_code 9) 25 = .ok (.iastore, 1) := by decide +kernel
theorem d_9_26 : decode (zm_code 9) 26 = .ok (.aload_n 0, 1) := by decide +kernel
theorem d_9_27 : decode (zm_code 9) 27 = .ok (.getfield 90, 3) := by decide +kernel
theorem d_9_30 : decode (zm_code 9) 30 = .ok (.iconst 2, 1) := by decide +kernel
theorem d_9_31 : decode (zm_code 9) 31 = .ok (.aload_n 0, 1) := by decide +kernel
theorem d_9_32 : decode (zm_code 9) 32 = .ok (.getfield 38, 3) := by decide +kernel
theorem d_9_35 : decode (zm_code 9) 35 = .ok (.getfield 159, 3) := by decide +kernel
theorem d_9_38 : decode (zm_code 9) 38 = .ok (.iastore, 1) := by decide +kernel
theorem d_9_39 : decode (zm_code 9) 39 = .ok (.return_, 1) := by decide +kernel
theorem d_10_0 : decode (zm_code 10) 0 = .ok (.iload_n 3, 1) := by decide +kernel
theorem d_10_1 : decode (zm_code 10) 1 = .ok (.ifCond .lt 9, 3) := by decide +kernel
theorem d_10_4 : decode (zm_code 10) 4 = .ok (.iload_n 3, 1) := by decide +kernel
theorem d_10_5 : decode (zm_code 10) 5 = .ok (.bipush 6, 2) := by decide +kernel
theorem d_10_7 : decode (zm_code 10) 7 = .ok (.if_icmp .lt 5, 3) := by decide +kernel
theorem d_10_10 : decode (zm_code 10) 10 = .ok (.iconst (-1), 1) := by decide +kernel
theorem d_10_11 : decode (zm_code 10) 11 = .ok (.ireturn, 1) := by decide +kernel
theorem d_10_12 : decode (zm_code 10) 12 = .ok (.iload_n 1, 1) := by decide +kernel
theorem d_10_13 : decode (zm_code 10) 13 = .ok (.ifCond .ne 25, 3) := by decide +kernel
theorem d_10_16 : decode (zm_code 10) 16 = .ok (.aload_n 0, 1) := by decide +kernel
theorem d_10_17 : decode (zm_code 10) 17 = .ok (.iload_n 2, 1) := by decide +kernel
theorem d_10_18 : decode (zm_code 10) 18 = .ok (.invokevirtual 176, 3) := by decide +kernel
theorem d_10_21 : decode (zm_code 10) 21 = .ok (.ifCond .eq 17, 3) := by decide +kernel
theorem d_10_24 : decode (zm_code 10) 24 = .ok (.aload_n 0, 1) := by decide +kernel
theorem d_10_25 : decode (zm_code 10) 25 = .ok (.getfield 19, 3) := by decide +kernel
theorem d_10_28 : decode (zm_code 10) 28 = .ok (.getfield 179, 3) := by decide +kernel
theorem d_10_31 : decode (zm_code 10) 31 = .ok (.iload_n 2, 1) := by decide +kernel
theorem d_10_32 : decode (zm_code 10) 32 = .ok (.iaload, 1) := by decide +kernel
theorem d_10_33 : decode (zm_code 10) 33 = .ok (.istore 4, 2) := by decide +kernel
theorem d_10_35 : decode (zm_code 10) 35 = .ok (.goto 32, 3) := by decide +kernel
theorem d_10_38 : decode (zm_code 10) 38 = .ok (.iload_n 1, 1) := by decide +kernel
theorem d_10_39 : decode (zm_code 10) 39 = .ok (.iconst 1, 1) := by decide +kernel
theorem d_10_40 : decode (zm_code 10) 40 = .ok (.if_icmp .ne 25, 3) := by decide +kernel
theorem d_10_43 : decode (zm_code 10) 43 = .ok (.aload_n 0, 1) := by decide +kernel
theorem d_10_44 : decode (zm_code 10) 44 = .ok (.iload_n 2, 1) := by decide +kernel
theorem d_10_45 : decode (zm_code 10) 45 = .ok (.invokevirtual 182, 3) := by decide +kernel
theorem d_10_48 : decode (zm_code 10) 48 = .ok (.ifCond .eq 17, 3) := by decide +kernel
theorem d_10_51 : decode (zm_code 10) 51 = .ok (.aload_n 0, 1) := by decide +kernel
theorem d_10_52 : decode (zm_code 10) 52 = .ok (.getfield 19, 3) := by decide +kernel
theorem d_10_55 : decode (zm_code 10) 55 = .ok (.getfield 185, 3) := by decide +kernel
theorem d_10_58 : decode (zm_code 10) 58 = .ok (.iload_n 2, 1) := by decide +kernel
theorem d_10_59 : decode (zm_code 10) 59 = .ok (.iaload, 1) := by decide +kernel
theorem d_10_60 : decode (zm_code 10) 60 = .ok (.istore 4, 2) := by decide +kernel
theorem d_10_62 : decode (zm_code 10) 62 = .ok (.goto 5, 3) := by decide +kernel
theorem d_10_65 : decode (zm_code 10) 65 = .ok (.iconst (-1), 1) := by decide +kernel
theorem d_10_66 : decode (zm_code 10) 66 = .ok (.ireturn, 1) := by decide +kernel
theorem d_10_67 : decode (zm_code 10) 67 = .ok (.iload 4, 2) := by decide +kernel
theorem d_10_69 : decode (zm_code 10) 69 = .ok (.iconst 5, 1) := by decide +kernel
theorem d_10_70 : decode (zm_code 10) 70 = .ok (.iload_n 3, 1) := by decide +kernel
theorem d_10_71 : decode (zm_code 10) 71 = .ok (.imul, 1) := by decide +kernel
theorem d_10_72 : decode (zm_code 10) 72 = .ok (.ishr, 1) := by decide +kernel
theorem d_10_73 : decode (zm_code 10) 73 = .ok (.bipush 31, 2) := by decide +kernel
theorem d_10_75 : decode (zm_code 10) 75 = .ok (.iand, 1) := by decide +kernel
theorem d_10_76 : decode (zm_code 10) 76 = .ok (.ireturn, 1) := by decide +kernel
theorem d_11_0 : decode (zm_code 11) 0 = .ok (.iload_n 1, 1) := by decide +kernel
theorem d_11_1 : decode (zm_code 11) 1 = .ok (.ifCond .lt 18, 3) := by decide +kernel
theorem d_11_4 : decode (zm_code 11) 4 = .ok (.iload_n 1, 1) := by decide +kernel
theorem d_11_5 : decode (zm_code 11) 5 = .ok (.aload_n 0, 1) := by decide +kernel
theorem d_11_6 : decode (zm_code 11) 6 = .ok (.getfield 19, 3) := by decide +kernel
theorem d_11_9 : decode (zm_code 11) 9 = .ok (.getfield 143, 3) := by decide +kernel
theorem d_11_12 : decode (zm_code 11) 12 = .ok (.if_icmp .ge 7, 3) := by decide +kernel
theorem d_11_15 : decode (zm_code 11) 15 = .ok (.iconst 1, 1) := by decide +kernel
theorem d_11_16 : decode (zm_code 11) 16 = .ok (.goto 4, 3) := by decide +kernel
theorem d_11_19 : decode (zm_code 11) 19 = .ok (.iconst 0, 1) := by decide +kernel
theorem d_11_20 : decode (zm_code 11) 20 = .ok (.ireturn, 1) := by decide +kernel
theorem d_12_0 : decode (zm_code 12) 0 = .ok (.iload_n 1, 1) := by decide +kernel
theorem d_12_1 : decode (zm_code 12) 1 = .ok (.ifCond .lt 18, 3) := by decide +kernel
theorem d_12_4 : decode (zm_code 12) 4 = .ok (.iload_n 1, 1) := by decide +kernel
theorem d_12_5 : decode (zm_code 12) 5 = .ok (.aload_n 0, 1) := by decide +kernel
theorem d_12_6 : decode (zm_code 12) 6 = .ok (.getfield 19, 3) := by decide +kernel
theorem d_12_9 : decode (zm_code 12) 9 = .ok (.getfield 149, 3) := by decide +kernel
theorem d_12_12 : decode (zm_code 12) 12 = .ok (.if_icmp .ge 7, 3) := by decide +kernel
theorem d_12_15 : decode (zm_code 12) 15 = .ok (.iconst 1, 1) := by decide +kernel
theorem d_12_16 : decode (zm_code 12) 16 = .ok (.goto 4, 3) := by decide +kernel
theorem d_12_19 : decode (zm_code 12) 19 = .ok (.iconst 0, 1) := by decide +kernel
theorem d_12_20 : decode (zm_code 12) 20 = .ok (.ireturn, 1) := by decide +kernel
theorem d_13_0 : decode (zm_code 13) 0 = .ok (.aload_n 0, 1) := by decide +kernel
theorem d_13_1 : decode (zm_code 13) 1 = .ok (.iload_n 1, 1) := by decide +kernel
theorem d_13_2 : decode (zm_code 13) 2 = .ok (.invokevirtual 176, 3) := by decide +kernel
theorem d_13_5 : decode (zm_code 13) 5 = .ok (.ifCond .ne 5, 3) := by decide +kernel
theorem d_13_8 : decode (zm_code 13) 8 = .ok (.iconst (-1), 1) := by decide +kernel
theorem d_13_9 : decode (zm_code 13) 9 = .ok (.ireturn, 1) := by decide +kernel
theorem d_13_10 : decode (zm_code 13) 10 = .ok (.iload_n 2, 1) := by decide +kernel
theorem d_13_11 : decode (zm_code 13) 11 = .ok (.tableswitch 67 0 3 #[29, 39, 49, 58], 29) := by decide +kernel
theorem d_13_40 : decode (zm_code 13) 40 = .ok (.aload_n 0, 1) := by decide +kernel
theorem d_13_41 : decode (zm_code 13) 41 = .ok (.getfield 19, 3) := by decide +kernel
theorem d_13_44 : decode (zm_code 13) 44 = .ok (.getfield 188, 3) := by decide +kernel
theorem d_13_47 : decode (zm_code 13) 47 = .ok (.iload_n 1, 1) := by decide +kernel
theorem d_13_48 : decode (zm_code 13) 48 = .ok (.iaload, 1) := by decide +kernel
theorem d_13_49 : decode (zm_code 13) 49 = .ok (.ireturn, 1) := by decide +kernel
theorem d_13_50 : decode (zm_code 13) 50 = .ok (.aload_n 0, 1) := by decide +kernel
theorem d_13_51 : decode (zm_code 13) 51 = .ok (.getfield 19, 3) := by decide +kernel
theorem d_13_54 : decode (zm_code 13) 54 = .ok (.getfield 191, 3) := by decide +kernel
theorem d_13_57 : decode (zm_code 13) 57 = .ok (.iload_n 1, 1) := by decide +kernel
theorem d_13_58 : decode (zm_code 13) 58 = .ok (.iaload, 1) := by decide +kernel
theorem d_13_59 : decode (zm_code 13) 59 = .ok (.ireturn, 1) := by decide +kernel
theorem d_13_60 : decode (zm_code 13) 60 = .ok (.aload_n 0, 1) := by decide +kernel
theorem d_13_61 : decode (zm_code 13) 61 = .ok (.getfield 38, 3) := by decide +kernel
theorem d_13_64 : decode (zm_code 13) 64 = .ok (.iload_n 1, 1) := by decide +kernel
theorem d_13_65 : decode (zm_code 13) 65 = .ok (.invokevirtual 194, 3) := by decide +kernel
theorem d_13_68 : decode (zm_code 13) 68 = .ok (.ireturn, 1) := by decide +kernel
theorem d_13_69 : decode (zm_code 13) 69 = .ok (.aload_n 0, 1) := by decide +kernel
theorem d_13_70 : decode (zm_code 13) 70 = .ok (.getfield 38, 3) := by decide +kernel
theorem d_13_73 : decode (zm_code 13) 73 = .ok (.iload_n 1, 1) := by decide +kernel
theorem d_13_74 : decode (zm_code 13) 74 = .ok (.invokevirtual 197, 3) := by decide +kernel
theorem d_13_77 : decode (zm_code 13) 77 = .ok (.ireturn, 1) := by decide +kernel
theorem d_13_78 : decode (zm_code 13) 78 = .ok (.iconst (-1), 1) := by decide +kernel
theorem d_13_79 : decode (zm_code 13) 79 = .ok (.ireturn, 1) := by decide +kernel
theorem d_14_0 : decode (zm_code 14) 0 = .ok (.aload_n 0, 1) := by decide +kernel
theorem d_14_1 : decode (zm_code 14) 1 = .ok (.iload_n 1, 1) := by decide +kernel
theorem d_14_2 : decode (zm_code 14) 2 = .ok (.invokevirtual 200, 3) := by decide +kernel
theorem d_14_5 : decode (zm_code 14) 5 = .ok (.ifCond .ne 5, 3) := by decide +kernel
theorem d_14_8 : decode (zm_code 14) 8 = .ok (.iconst (-1), 1) := by decide +kernel
theorem d_14_9 : decode (zm_code 14) 9 = .ok (.ireturn, 1) := by decide +kernel
theorem d_14_10 : decode (zm_code 14) 10 = .ok (.iload_n 2, 1) := by decide +kernel
theorem d_14_11 : decode (zm_code 14) 11 = .ok (.iconst (-1), 1) := by decide +kernel
theorem d_14_12 : decode (zm_code 14) 12 = .ok (.if_icmp .ne 12, 3) := by decide +kernel
theorem d_14_15 : decode (zm_code 14) 15 = .ok (.aload_n 0, 1) := by decide +kernel
theorem d_14_16 : decode (zm_code 14) 16 = .ok (.getfield 38, 3) := by decide +kernel
theorem d_14_19 : decode (zm_code 14) 19 = .ok (.iload_n 1, 1) := by decide +kernel
theorem d_14_20 : decode (zm_code 14) 20 = .ok (.invokevirtual 203, 3) := by decide +kernel
theorem d_14_23 : decode (zm_code 14) 23 = .ok (.ireturn, 1) := by decide +kernel
theorem d_14_24 : decode (zm_code 14) 24 = .ok (.aload_n 0, 1) := by decide +kernel
theorem d_14_25 : decode (zm_code 14) 25 = .ok (.iload_n 2, 1) := by decide +kernel
theorem d_14_26 : decode (zm_code 14) 26 = .ok (.invokevirtual 176, 3) := by decide +kernel
theorem d_14_29 : decode (zm_code 14) 29 = .ok (.ifCond .eq 20, 3) := by decide +kernel
theorem d_14_32 : decode (zm_code 14) 32 = .ok (.aload_n 0, 1) := by decide +kernel
theorem d_14_33 : decode (zm_code 14) 33 = .ok (.getfield 38, 3) := by decide +kernel
theorem d_14_36 : decode (zm_code 14) 36 = .ok (.getfield 206, 3) := by decide +kernel
theorem d_14_39 : decode (zm_code 14) 39 = .ok (.iload_n 1, 1) := by decide +kernel
theorem d_14_40 : decode (zm_code 14) 40 = .ok (.bipush 8, 2) := by decide +kernel
theorem d_14_42 : decode (zm_code 14) 42 = .ok (.imul, 1) := by decide +kernel
theorem d_14_43 : decode (zm_code 14) 43 = .ok (.iload_n 2, 1) := by decide +kernel
theorem d_14_44 : decode (zm_code 14) 44 = .ok (.iadd, 1) := by decide +kernel
theorem d_14_45 : decode (zm_code 14) 45 = .ok (.iaload, 1) := by decide +kernel
theorem d_14_46 : decode (zm_code 14) 46 = .ok (.goto 4, 3) := by decide +kernel
theorem d_14_49 : decode (zm_code 14) 49 = .ok (.iconst (-1), 1) := by decide +kernel
theorem d_14_50 : decode (zm_code 14) 50 = .ok (.ireturn, 1) := by decide +kernel
theorem d_15_0 : decode (zm_code 15) 0 = .ok (.iload_n 1, 1) := by decide +kernel
theorem d_15_1 : decode (zm_code 15) 1 = .ok (.ifCond .lt 18, 3) := by decide +kernel
theorem d_15_4 : decode (zm_code 15) 4 = .ok (.iload_n 1, 1) := by decide +kernel
theorem d_15_5 : decode (zm_code 15) 5 = .ok (.aload_n 0, 1) := by decide +kernel
theorem d_15_6 : decode (zm_code 15) 6 = .ok (.getfield 19, 3) := by decide +kernel
theorem d_15_9 : decode (zm_code 15) 9 = .ok (.getfield 146, 3) := by decide +kernel
theorem d_15_12 : decode (zm_code 15) 12 = .ok (.if_icmp .ge 7, 3) := by decide +kernel
theorem d_15_15 : decode (zm_code 15) 15 = .ok (.iconst 1, 1) := by decide +kernel
theorem d_15_16 : decode (zm_code 15) 16 = .ok (.goto 4, 3) := by decide +kernel
theorem d_15_19 : decode (zm_code 15) 19 = .ok (.iconst 0, 1) := by decide +kernel
theorem d_15_20 : decode (zm_code 15) 20 = .ok (.ireturn, 1) := by decide +kernel
theorem d_16_0 : decode (zm_code 16) 0 = .ok (.aload_n 0, 1) := by decide +kernel
theorem d_16_1 : decode (zm_code 16) 1 = .ok (.iload_n 1, 1) := by decide +kernel
theorem d_16_2 : decode (zm_code 16) 2 = .ok (.invokevirtual 182, 3) := by decide +kernel
theorem d_16_5 : decode (zm_code 16) 5 = .ok (.ifCond .ne 5, 3) := by decide +kernel
theorem d_16_8 : decode (zm_code 16) 8 = .ok (.iconst (-1), 1) := by decide +kernel
theorem d_16_9 : decode (zm_code 16) 9 = .ok (.ireturn, 1) := by decide +kernel
theorem d_16_10 : decode (zm_code 16) 10 = .ok (.iload_n 2, 1) := by decide +kernel
theorem d_16_11 : decode (zm_code 16) 11 = .ok (.tableswitch 109 0 6 #[41, 51, 61, 71, 81, 90, 96], 41) := by decide +kernel
theorem d_16_52 : decode (zm_code 16) 52 = .ok (.aload_n 0, 1) := by decide +kernel
theorem d_16_53 : decode (zm_code 16) 53 = .ok (.getfield 19, 3) := by decide +kernel
theorem d_16_56 : decode (zm_code 16) 56 = .ok (.getfield 209, 3) := by decide +kernel
theorem d_16_59 : decode (zm_code 16) 59 = .ok (.iload_n 1, 1) := by decide +kernel
theorem d_16_60 : decode (zm_code 16) 60 = .ok (.iaload, 1) := by decide +kernel
theorem d_16_61 : decode (zm_code 16) 61 = .ok (.ireturn, 1) := by decide +kernel
theorem d_16_62 : decode (zm_code 16) 62 = .ok (.aload_n 0, 1) := by decide +kernel
theorem d_16_63 : decode (zm_code 16) 63 = .ok (.getfield 19, 3) := by decide +kernel
theorem d_16_66 : decode (zm_code 16) 66 = .ok (.getfield 211, 3) := by decide +kernel
theorem d_16_69 : decode (zm_code 16) 69 = .ok (.iload_n 1, 1) := by decide +kernel
theorem d_16_70 : decode (zm_code 16) 70 = .ok (.iaload, 1) := by decide +kernel
theorem d_16_71 : decode (zm_code 16) 71 = .ok (.ireturn, 1) := by decide +kernel
theorem d_16_72 : decode (zm_code 16) 72 = .ok (.aload_n 0, 1) := by decide +kernel
theorem d_16_73 : decode (zm_code 16) 73 = .ok (.getfield 19, 3) := by decide +kernel
theorem d_16_76 : decode (zm_code 16) 76 = .ok (.getfield 214, 3) := by decide +kernel
theorem d_16_79 : decode (zm_code 16) 79 = .ok (.iload_n 1, 1) := by decide +kernel
theorem d_16_80 : decode (zm_code 16) 80 = .ok (.iaload, 1) := by decide +kernel
theorem d_16_81 : decode (zm_code 16) 81 = .ok (.ireturn, 1) := by decide +kernel
theorem d_16_82 : decode (zm_code 16) 82 = .ok (.aload_n 0, 1) := by decide +kernel
theorem d_16_83 : decode (zm_code 16) 83 = .ok (.getfield 38, 3) := by decide +kernel
theorem d_16_86 : decode (zm_code 16) 86 = .ok (.getfield 217, 3) := by decide +kernel
theorem d_16_89 : decode (zm_code 16) 89 = .ok (.iload_n 1, 1) := by decide +kernel
theorem d_16_90 : decode (zm_code 16) 90 = .ok (.iaload, 1) := by decide +kernel
theorem d_16_91 : decode (zm_code 16) 91 = .ok (.ireturn, 1) := by decide +kernel
theorem d_16_92 : decode (zm_code 16) 92 = .ok (.aload_n 0, 1) := by decide +kernel
theorem d_16_93 : decode (zm_code 16) 93 = .ok (.getfield 38, 3) := by decide +kernel
theorem d_16_96 : decode (zm_code 16) 96 = .ok (.iload_n 1, 1) := by decide +kernel
theorem d_16_97 : decode (zm_code 16) 97 = .ok (.invokevirtual 220, 3) := by decide +kernel
theorem d_16_100 : decode (zm_code 16) 100 = .ok (.ireturn, 1) := by decide +kernel
theorem d_16_101 : decode (zm_code 16) 101 = .ok (.aload_n 0, 1) := by decide +kernel
theorem d_16_102 : decode (zm_code 16) 102 = .ok (.iload_n 1, 1) := by decide +kernel
theorem d_16_103 : decode (zm_code 16) 103 = .ok (.invokevirtual 223, 3) := by decide +kernel
theorem d_16_106 : decode (zm_code 16) 106 = .ok (.ireturn, 1) := by decide +kernel
theorem d_16_107 : decode (zm_code 16) 107 = .ok (.aload_n 0, 1) := by decide +kernel
theorem d_16_108 : decode (zm_code 16) 108 = .ok (.iload_n 1, 1) := by decide +kernel
theorem d_16_109 : decode (zm_code 16) 109 = .ok (.invokevirtual 226, 3) := by decide +kernel
theorem d_16_112 : decode (zm_code 16) 112 = .ok (.aload_n 0, 1) := by decide +kernel
theorem d_16_113 : decode (zm_code 16) 113 = .ok (.getfield 58, 3) := by decide +kernel
theorem d_16_116 : decode (zm_code 16) 116 = .ok (.getfield 229, 3) := by decide +kernel
theorem d_16_119 : decode (zm_code 16) 119 = .ok (.ireturn, 1) := by decide +kernel
theorem d_16_120 : decode (zm_code 16) 120 = .ok (.iconst (-1), 1) := by decide +kernel
theorem d_16_121 : decode (zm_code 16) 121 = .ok (.ireturn, 1) := by decide +kernel
theorem d_17_0 : decode (zm_code 17) 0 = .ok (.iconst 0, 1) := by decide +kernel
theorem d_17_1 : decode (zm_code 17) 1 = .ok (.istore_n 2, 1) := by decide +kernel
theorem d_17_2 : decode (zm_code 17) 2 = .ok (.iconst 0, 1) := by decide +kernel
theorem d_17_3 : decode (zm_code 17) 3 = .ok (.istore_n 3, 1) := by decide +kernel
theorem d_17_4 : decode (zm_code 17) 4 = .ok (.iload_n 3, 1) := by decide +kernel
theorem d_17_5 : decode (zm_code 17) 5 = .ok (.aload_n 0, 1) := by decide +kernel
theorem d_17_6 : decode (zm_code 17) 6 = .ok (.getfield 19, 3) := by decide +kernel
theorem d_17_9 : decode (zm_code 17) 9 = .ok (.getfield 143, 3) := by decide +kernel
theorem d_17_12 : decode (zm_code 17) 12 = .ok (.if_icmp .ge 36, 3) := by decide +kernel
theorem d_17_15 : decode (zm_code 17) 15 = .ok (.iload_n 2, 1) := by decide +kernel
theorem d_17_16 : decode (zm_code 17) 16 = .ok (.aload_n 0, 1) := by decide +kernel
theorem d_17_17 : decode (zm_code 17) 17 = .ok (.getfield 38, 3) := by decide +kernel
theorem d_17_20 : decode (zm_code 17) 20 = .ok (.getfield 236, 3) := by decide +kernel
theorem d_17_23 : decode (zm_code 17) 23 = .ok (.iload_n 1, 1) := by decide +kernel
theorem d_17_24 : decode (zm_code 17) 24 = .ok (.bipush 8, 2) := by decide +kernel
theorem d_17_26 : decode (zm_code 17) 26 = .ok (.imul, 1) := by decide +kernel
theorem d_17_27 : decode (zm_code 17) 27 = .ok (.iload_n 3, 1) := by decide +kernel
theorem d_17_28 : decode (zm_code 17) 28 = .ok (.iadd, 1) := by decide +kernel
theorem d_17_29 : decode (zm_code 17) 29 = .ok (.iaload, 1) := by decide +kernel
theorem d_17_30 : decode (zm_code 17) 30 = .ok (.aload_n 0, 1) := by decide +kernel
theorem d_17_31 : decode (zm_code 17) 31 = .ok (.getfield 19, 3) := by decide +kernel
theorem d_17_34 : decode (zm_code 17) 34 = .ok (.iload_n 1, 1) := by decide +kernel
theorem d_17_35 : decode (zm_code 17) 35 = .ok (.iload_n 3, 1) := by decide +kernel
theorem d_17_36 : decode (zm_code 17) 36 = .ok (.invokevirtual 232, 3) := by decide +kernel
theorem d_17_39 : decode (zm_code 17) 39 = .ok (.imul, 1) := by decide +kernel
theorem d_17_40 : decode (zm_code 17) 40 = .ok (.iadd, 1) := by decide +kernel
theorem d_17_41 : decode (zm_code 17) 41 = .ok (.istore_n 2, 1) := by decide +kernel
theorem d_17_42 : decode (zm_code 17) 42 = .ok (.iinc 3 1, 3) := by decide +kernel
theorem d_17_45 : decode (zm_code 17) 45 = .ok (.goto (-41), 3) := by decide +kernel
theorem d_17_48 : decode (zm_code 17) 48 = .ok (.iload_n 2, 1) := by decide +kernel
theorem d_17_49 : decode (zm_code 17) 49 = .ok (.ireturn, 1) := by decide +kernel
theorem d_18_0 : decode (zm_code 18) 0 = .ok (.aload_n 0, 1) := by decide +kernel
theorem d_18_1 : decode (zm_code 18) 1 = .ok (.getfield 58, 3) := by decide +kernel
theorem d_18_4 : decode (zm_code 18) 4 = .ok (.aload_n 0, 1) := by decide +kernel
theorem d_18_5 : decode (zm_code 18) 5 = .ok (.getfield 19, 3) := by decide +kernel
theorem d_18_8 : decode (zm_code 18) 8 = .ok (.aload_n 0, 1) := by decide +kernel
theorem d_18_9 : decode (zm_code 18) 9 = .ok (.getfield 38, 3) := by decide +kernel
theorem d_18_12 : decode (zm_code 18) 12 = .ok (.iload_n 1, 1) := by decide +kernel
theorem d_18_13 : decode (zm_code 18) 13 = .ok (.getstatic 330, 3) := by decide +kernel
theorem d_18_16 : decode (zm_code 18) 16 = .ok (.invokevirtual 333, 3) := by decide +kernel
theorem d_18_19 : decode (zm_code 18) 19 = .ok (.return_, 1) := by decide +kernel
theorem d_19_0 : decode (zm_code 19) 0 = .ok (.aload_n 0, 1) := by decide +kernel
theorem d_19_1 : decode (zm_code 19) 1 = .ok (.iload_n 1, 1) := by decide +kernel
theorem d_19_2 : decode (zm_code 19) 2 = .ok (.invokevirtual 182, 3) := by decide +kernel
theorem d_19_5 : decode (zm_code 19) 5 = .ok (.ifCond .eq 11, 3) := by decide +kernel
theorem d_19_8 : decode (zm_code 19) 8 = .ok (.aload_n 0, 1) := by decide +kernel
theorem d_19_9 : decode (zm_code 19) 9 = .ok (.iload_n 2, 1) := by decide +kernel
theorem d_19_10 : decode (zm_code 19) 10 = .ok (.invokevirtual 176, 3) := by decide +kernel
theorem d_19_13 : decode (zm_code 19) 13 = .ok (.ifCond .ne 5, 3) := by decide +kernel
theorem d_19_16 : decode (zm_code 19) 16 = .ok (.iconst (-1), 1) := by decide +kernel
theorem d_19_17 : decode (zm_code 19) 17 = .ok (.ireturn, 1) := by decide +kernel
theorem d_19_18 : decode (zm_code 19) 18 = .ok (.iload_n 3, 1) := by decide +kernel
theorem d_19_19 : decode (zm_code 19) 19 = .ok (.tableswitch 65 0 2 #[25, 35, 50], 25) := by decide +kernel
theorem d_19_44 : decode (zm_code 19) 44 = .ok (.aload_n 0, 1) := by decide +kernel
theorem d_19_45 : decode (zm_code 19) 45 = .ok (.getfield 19, 3) := by decide +kernel
theorem d_19_48 : decode (zm_code 19) 48 = .ok (.iload_n 1, 1) := by decide +kernel
theorem d_19_49 : decode (zm_code 19) 49 = .ok (.iload_n 2, 1) := by decide +kernel
theorem d_19_50 : decode (zm_code 19) 50 = .ok (.invokevirtual 232, 3) := by decide +kernel
theorem d_19_53 : decode (zm_code 19) 53 = .ok (.ireturn, 1) := by decide +kernel
theorem d_19_54 : decode (zm_code 19) 54 = .ok (.aload_n 0, 1) := by decide +kernel
theorem d_19_55 : decode (zm_code 19) 55 = .ok (.getfield 38, 3) := by decide +kernel
theorem d_19_58 : decode (zm_code 19) 58 = .ok (.getfield 236, 3) := by decide +kernel
theorem d_19_61 : decode (zm_code 19) 61 = .ok (.iload_n 1, 1) := by decide +kernel
theorem d_19_62 : decode (zm_code 19) 62 = .ok (.bipush 8, 2) := by decide +kernel
theorem d_19_64 : decode (zm_code 19) 64 = .ok (.imul, 1) := by decide +kernel
theorem d_19_65 : decode (zm_code 19) 65 = .ok (.iload_n 2, 1) := by decide +kernel
theorem d_19_66 : decode (zm_code 19) 66 = .ok (.iadd, 1) := by decide +kernel
theorem d_19_67 : decode (zm_code 19) 67 = .ok (.iaload, 1) := by decide +kernel
theorem d_19_68 : decode (zm_code 19) 68 = .ok (.ireturn, 1) := by decide +kernel
theorem d_19_69 : decode (zm_code 19) 69 = .ok (.aload_n 0, 1) := by decide +kernel
theorem d_19_70 : decode (zm_code 19) 70 = .ok (.iload_n 1, 1) := by decide +kernel
theorem d_19_71 : decode (zm_code 19) 71 = .ok (.invokevirtual 226, 3) := by decide +kernel
theorem d_19_74 : decode (zm_code 19) 74 = .ok (.aload_n 0, 1) := by decide +kernel
theorem d_19_75 : decode (zm_code 19) 75 = .ok (.getfield 58, 3) := by decide +kernel
theorem d_19_78 : decode (zm_code 19) 78 = .ok (.getfield 239, 3) := by decide +kernel
theorem d_19_81 : decode (zm_code 19) 81 = .ok (.iload_n 2, 1) := by decide +kernel
theorem d_19_82 : decode (zm_code 19) 82 = .ok (.iaload, 1) := by decide +kernel
theorem d_19_83 : decode (zm_code 19) 83 = .ok (.ireturn, 1) := by decide +kernel
theorem d_19_84 : decode (zm_code 19) 84 = .ok (.iconst (-1), 1) := by decide +kernel
theorem d_19_85 : decode (zm_code 19) 85 = .ok (.ireturn, 1) := by decide +kernel
theorem d_20_0 : decode (zm_code 20) 0 = .ok (.aload_n 0, 1) := by decide +kernel
theorem d_20_1 : decode (zm_code 20) 1 = .ok (.iload_n 1, 1) := by decide +kernel
theorem d_20_2 : decode (zm_code 20) 2 = .ok (.invokevirtual 182, 3) := by decide +kernel
theorem d_20_5 : decode (zm_code 20) 5 = .ok (.ifCond .eq 11, 3) := by decide +kernel
theorem d_20_8 : decode (zm_code 20) 8 = .ok (.aload_n 0, 1) := by decide +kernel
theorem d_20_9 : decode (zm_code 20) 9 = .ok (.iload_n 2, 1) := by decide +kernel
theorem d_20_10 : decode (zm_code 20) 10 = .ok (.invokevirtual 176, 3) := by decide +kernel
theorem d_20_13 : decode (zm_code 20) 13 = .ok (.ifCond .ne 5, 3) := by decide +kernel
theorem d_20_16 : decode (zm_code 20) 16 = .ok (.iconst (-1), 1) := by decide +kernel
theorem d_20_17 : decode (zm_code 20) 17 = .ok (.ireturn, 1) := by decide +kernel
theorem d_20_18 : decode (zm_code 20) 18 = .ok (.aload_n 0, 1) := by decide +kernel
theorem d_20_19 : decode (zm_code 20) 19 = .ok (.iload_n 1, 1) := by decide +kernel
theorem d_20_20 : decode (zm_code 20) 20 = .ok (.invokevirtual 226, 3) := by decide +kernel
theorem d_20_23 : decode (zm_code 20) 23 = .ok (.aload_n 0, 1) := by decide +kernel
theorem d_20_24 : decode (zm_code 20) 24 = .ok (.getfield 58, 3) := by decide +kernel
theorem d_20_27 : decode (zm_code 20) 27 = .ok (.getfield 239, 3) := by decide +kernel
theorem d_20_30 : decode (zm_code 20) 30 = .ok (.iload_n 2, 1) := by decide +kernel
theorem d_20_31 : decode (zm_code 20) 31 = .ok (.iaload, 1) := by decide +kernel
theorem d_20_32 : decode (zm_code 20) 32 = .ok (.i2l, 1) := by decide +kernel
theorem d_20_33 : decode (zm_code 20) 33 = .ok (.aload_n 0, 1) := by decide +kernel
theorem d_20_34 : decode (zm_code 20) 34 = .ok (.getfield 58, 3) := by decide +kernel
theorem d_20_37 : decode (zm_code 20) 37 = .ok (.getfield 229, 3) := by decide +kernel
theorem d_20_40 : decode (zm_code 20) 40 = .ok (.i2l, 1) := by decide +kernel
theorem d_20_41 : decode (zm_code 20) 41 = .ok (.invokestatic 242, 3) := by decide +kernel
theorem d_20_44 : decode (zm_code 20) 44 = .ok (.ireturn, 1) := by decide +kernel
theorem d_21_0 : decode (zm_code 21) 0 = .ok (.lload_n 2, 1) := by decide +kernel
theorem d_21_1 : decode (zm_code 21) 1 = .ok (.lconst 0, 1) := by decide +kernel
theorem d_21_2 : decode (zm_code 21) 2 = .ok (.lcmp, 1) := by decide +kernel
theorem d_21_3 : decode (zm_code 21) 3 = .ok (.ifCond .gt 5, 3) := by decide +kernel
theorem d_21_6 : decode (zm_code 21) 6 = .ok (.iconst (-1), 1) := by decide +kernel
theorem d_21_7 : decode (zm_code 21) 7 = .ok (.ireturn, 1) := by decide +kernel
theorem d_21_8 : decode (zm_code 21) 8 = .ok (.lload_n 0, 1) := by decide +kernel
theorem d_21_9 : decode (zm_code 21) 9 = .ok (.lload_n 2, 1) := by decide +kernel
theorem d_21_10 : decode (zm_code 21) 10 = .ok (.ldiv, 1) := by decide +kernel
theorem d_21_11 : decode (zm_code 21) 11 = .ok (.ldc2_w 337, 3) := by decide +kernel
theorem d_21_14 : decode (zm_code 21) 14 = .ok (.lmul, 1) := by decide +kernel
theorem d_21_15 : decode (zm_code 21) 15 = .ok (.lload_n 0, 1) := by decide +kernel
theorem d_21_16 : decode (zm_code 21) 16 = .ok (.lload_n 2, 1) := by decide +kernel
theorem d_21_17 : decode (zm_code 21) 17 = .ok (.lrem, 1) := by decide +kernel
theorem d_21_18 : decode (zm_code 21) 18 = .ok (.ldc2_w 337, 3) := by decide +kernel
theorem d_21_21 : decode (zm_code 21) 21 = .ok (.lmul, 1) := by decide +kernel
theorem d_21_22 : decode (zm_code 21) 22 = .ok (.lload_n 2, 1) := by decide +kernel
theorem d_21_23 : decode (zm_code 21) 23 = .ok (.ldiv, 1) := by decide +kernel
theorem d_21_24 : decode (zm_code 21) 24 = .ok (.ladd, 1) := by decide +kernel
theorem d_21_25 : decode (zm_code 21) 25 = .ok (.l2i, 1) := by decide +kernel
theorem d_21_26 : decode (zm_code 21) 26 = .ok (.ireturn, 1) := by decide +kernel
theorem d_22_0 : decode (zm_code 22) 0 = .ok (.aload_n 0, 1) := by decide +kernel
theorem d_22_1 : decode (zm_code 22) 1 = .ok (.iload_n 1, 1) := by decide +kernel
theorem d_22_2 : decode (zm_code 22) 2 = .ok (.invokevirtual 182, 3) := by decide +kernel
theorem d_22_5 : decode (zm_code 22) 5 = .ok (.ifCond .eq 11, 3) := by decide +kernel
theorem d_22_8 : decode (zm_code 22) 8 = .ok (.aload_n 0, 1) := by decide +kernel
theorem d_22_9 : decode (zm_code 22) 9 = .ok (.iload_n 2, 1) := by decide +kernel
theorem d_22_10 : decode (zm_code 22) 10 = .ok (.invokevirtual 176, 3) := by decide +kernel
theorem d_22_13 : decode (zm_code 22) 13 = .ok (.ifCond .ne 5, 3) := by decide +kernel
theorem d_22_16 : decode (zm_code 22) 16 = .ok (.iconst (-1), 1) := by decide +kernel
theorem d_22_17 : decode (zm_code 22) 17 = .ok (.ireturn, 1) := by decide +kernel
theorem d_22_18 : decode (zm_code 22) 18 = .ok (.aload_n 0, 1) := by decide +kernel
theorem d_22_19 : decode (zm_code 22) 19 = .ok (.iload_n 1, 1) := by decide +kernel
theorem d_22_20 : decode (zm_code 22) 20 = .ok (.invokevirtual 226, 3) := by decide +kernel
theorem d_22_23 : decode (zm_code 22) 23 = .ok (.aload_n 0, 1) := by decide +kernel
theorem d_22_24 : decode (zm_code 22) 24 = .ok (.getfield 58, 3) := by decide +kernel
theorem d_22_27 : decode (zm_code 22) 27 = .ok (.iload_n 2, 1) := by decide +kernel
theorem d_22_28 : decode (zm_code 22) 28 = .ok (.invokevirtual 246, 3) := by decide +kernel
theorem d_22_31 : decode (zm_code 22) 31 = .ok (.aload_n 0, 1) := by decide +kernel
theorem d_22_32 : decode (zm_code 22) 32 = .ok (.getfield 58, 3) := by decide +kernel
theorem d_22_35 : decode (zm_code 22) 35 = .ok (.invokevirtual 250, 3) := by decide +kernel
theorem d_22_38 : decode (zm_code 22) 38 = .ok (.invokestatic 242, 3) := by decide +kernel
theorem d_22_41 : decode (zm_code 22) 41 = .ok (.ireturn, 1) := by decide +kernel
theorem d_23_0 : decode (zm_code 23) 0 = .ok (.aload_n 0, 1) := by decide +kernel
theorem d_23_1 : decode (zm_code 23) 1 = .ok (.iload_n 1, 1) := by decide +kernel
theorem d_23_2 : decode (zm_code 23) 2 = .ok (.invokevirtual 182, 3) := by decide +kernel
theorem d_23_5 : decode (zm_code 23) 5 = .ok (.ifCond .ne 5, 3) := by decide +kernel
theorem d_23_8 : decode (zm_code 23) 8 = .ok (.iconst (-1), 1) := by decide +kernel
theorem d_23_9 : decode (zm_code 23) 9 = .ok (.ireturn, 1) := by decide +kernel
theorem d_23_10 : decode (zm_code 23) 10 = .ok (.aload_n 0, 1) := by decide +kernel
theorem d_23_11 : decode (zm_code 23) 11 = .ok (.iload_n 1, 1) := by decide +kernel
theorem d_23_12 : decode (zm_code 23) 12 = .ok (.invokevirtual 226, 3) := by decide +kernel
theorem d_23_15 : decode (zm_code 23) 15 = .ok (.aload_n 0, 1) := by decide +kernel
theorem d_23_16 : decode (zm_code 23) 16 = .ok (.getfield 58, 3) := by decide +kernel
theorem d_23_19 : decode (zm_code 23) 19 = .ok (.invokevirtual 254, 3) := by decide +kernel
theorem d_23_22 : decode (zm_code 23) 22 = .ok (.aload_n 0, 1) := by decide +kernel
theorem d_23_23 : decode (zm_code 23) 23 = .ok (.getfield 58, 3) := by decide +kernel
theorem d_23_26 : decode (zm_code 23) 26 = .ok (.invokevirtual 250, 3) := by decide +kernel
theorem d_23_29 : decode (zm_code 23) 29 = .ok (.invokestatic 242, 3) := by decide +kernel
theorem d_23_32 : decode (zm_code 23) 32 = .ok (.ireturn, 1) := by decide +kernel
theorem d_24_0 : decode (zm_code 24) 0 = .ok (.aload_n 0, 1) := by decide +kernel
theorem d_24_1 : decode (zm_code 24) 1 = .ok (.iload_n 1, 1) := by decide +kernel
theorem d_24_2 : decode (zm_code 24) 2 = .ok (.invokevirtual 182, 3) := by decide +kernel
theorem d_24_5 : decode (zm_code 24) 5 = .ok (.ifCond .eq 13, 3) := by decide +kernel
theorem d_24_8 : decode (zm_code 24) 8 = .ok (.iload_n 2, 1) := by decide +kernel
theorem d_24_9 : decode (zm_code 24) 9 = .ok (.ifCond .lt 9, 3) := by decide +kernel
theorem d_24_12 : decode (zm_code 24) 12 = .ok (.iload_n 2, 1) := by decide +kernel
theorem d_24_13 : decode (zm_code 24) 13 = .ok (.bipush 99, 2) := by decide +kernel
theorem d_24_15 : decode (zm_code 24) 15 = .ok (.if_icmp .le 5, 3) := by decide +kernel
theorem d_24_18 : decode (zm_code 24) 18 = .ok (.iconst (-1), 1) := by decide +kernel
theorem d_24_19 : decode (zm_code 24) 19 = .ok (.ireturn, 1) := by decide +kernel
theorem d_24_20 : decode (zm_code 24) 20 = .ok (.iload_n 2, 1) := by decide +kernel
theorem d_24_21 : decode (zm_code 24) 21 = .ok (.aload_n 0, 1) := by decide +kernel
theorem d_24_22 : decode (zm_code 24) 22 = .ok (.iload_n 1, 1) := by decide +kernel
theorem d_24_23 : decode (zm_code 24) 23 = .ok (.invokevirtual 257, 3) := by decide +kernel
theorem d_24_26 : decode (zm_code 24) 26 = .ok (.if_icmp .gt 7, 3) := by decide +kernel
theorem d_24_29 : decode (zm_code 24) 29 = .ok (.iconst 1, 1) := by decide +kernel
theorem d_24_30 : decode (zm_code 24) 30 = .ok (.goto 4, 3) := by decide +kernel
theorem d_24_33 : decode (zm_code 24) 33 = .ok (.iconst 0, 1) := by decide +kernel
theorem d_24_34 : decode (zm_code 24) 34 = .ok (.ireturn, 1) := by decide +kernel
theorem d_25_0 : decode (zm_code 25) 0 = .ok (.aload_n 0, 1) := by decide +kernel
theorem d_25_1 : decode (zm_code 25) 1 = .ok (.iload_n 1, 1) := by decide +kernel
theorem d_25_2 : decode (zm_code 25) 2 = .ok (.invokevirtual 339, 3) := by decide +kernel
theorem d_25_5 : decode (zm_code 25) 5 = .ok (.aload_n 0, 1) := by decide +kernel
theorem d_25_6 : decode (zm_code 25) 6 = .ok (.getfield 38, 3) := by decide +kernel
theorem d_25_9 : decode (zm_code 25) 9 = .ok (.getfield 217, 3) := by decide +kernel
theorem d_25_12 : decode (zm_code 25) 12 = .ok (.iload_n 1, 1) := by decide +kernel
theorem d_25_13 : decode (zm_code 25) 13 = .ok (.iaload, 1) := by decide +kernel
theorem d_25_14 : decode (zm_code 25) 14 = .ok (.invokestatic 342, 3) := by decide +kernel
theorem d_25_17 : decode (zm_code 25) 17 = .ok (.ireturn, 1) := by decide +kernel
theorem d_26_0 : decode (zm_code 26) 0 = .ok (.aload_n 0, 1) := by decide +kernel
theorem d_26_1 : decode (zm_code 26) 1 = .ok (.iload_n 1, 1) := by decide +kernel
theorem d_26_2 : decode (zm_code 26) 2 = .ok (.invokevirtual 226, 3) := by decide +kernel
theorem d_26_5 : decode (zm_code 26) 5 = .ok (.aload_n 0, 1) := by decide +kernel
theorem d_26_6 : decode (zm_code 26) 6 = .ok (.getfield 58, 3) := by decide +kernel
theorem d_26_9 : decode (zm_code 26) 9 = .ok (.invokevirtual 250, 3) := by decide +kernel
theorem d_26_12 : decode (zm_code 26) 12 = .ok (.lstore_n 2, 1) := by decide +kernel
theorem d_26_13 : decode (zm_code 26) 13 = .ok (.lload_n 2, 1) := by decide +kernel
theorem d_26_14 : decode (zm_code 26) 14 = .ok (.lconst 0, 1) := by decide +kernel
theorem d_26_15 : decode (zm_code 26) 15 = .ok (.lcmp, 1) := by decide +kernel
theorem d_26_16 : decode (zm_code 26) 16 = .ok (.ifCond .gt 7, 3) := by decide +kernel
theorem d_26_19 : decode (zm_code 26) 19 = .ok (.iconst (-1), 1) := by decide +kernel
theorem d_26_20 : decode (zm_code 26) 20 = .ok (.goto 13, 3) := by decide +kernel
theorem d_26_23 : decode (zm_code 26) 23 = .ok (.aload_n 0, 1) := by decide +kernel
theorem d_26_24 : decode (zm_code 26) 24 = .ok (.getfield 58, 3) := by decide +kernel
theorem d_26_27 : decode (zm_code 26) 27 = .ok (.invokevirtual 254, 3) := by decide +kernel
theorem d_26_30 : decode (zm_code 26) 30 = .ok (.lload_n 2, 1) := by decide +kernel
theorem d_26_31 : decode (zm_code 26) 31 = .ok (.ldiv, 1) := by decide +kernel
theorem d_26_32 : decode (zm_code 26) 32 = .ok (.l2i, 1) := by decide +kernel
theorem d_26_33 : decode (zm_code 26) 33 = .ok (.ireturn, 1) := by decide +kernel
theorem d_27_0 : decode (zm_code 27) 0 = .ok (.iconst 0, 1) := by decide +kernel
theorem d_27_1 : decode (zm_code 27) 1 = .ok (.istore_n 2, 1) := by decide +kernel
theorem d_27_2 : decode (zm_code 27) 2 = .ok (.iconst 0, 1) := by decide +kernel
theorem d_27_3 : decode (zm_code 27) 3 = .ok (.istore_n 3, 1) := by decide +kernel
theorem d_27_4 : decode (zm_code 27) 4 = .ok (.iconst 0, 1) := by decide +kernel
theorem d_27_5 : decode (zm_code 27) 5 = .ok (.istore 4, 2) := by decide +kernel
theorem d_27_7 : decode (zm_code 27) 7 = .ok (.iload 4, 2) := by decide +kernel
theorem d_27_9 : decode (zm_code 27) 9 = .ok (.aload_n 0, 1) := by decide +kernel
theorem d_27_10 : decode (zm_code 27) 10 = .ok (.getfield 19, 3) := by decide +kernel
theorem d_27_13 : decode (zm_code 27) 13 = .ok (.getfield 149, 3) := by decide +kernel
theorem d_27_16 : decode (zm_code 27) 16 = .ok (.if_icmp .ge 22, 3) := by decide +kernel
theorem d_27_19 : decode (zm_code 27) 19 = .ok (.aload_n 0, 1) := by decide +kernel
theorem d_27_20 : decode (zm_code 27) 20 = .ok (.getfield 94, 3) := by decide +kernel
theorem d_27_23 : decode (zm_code 27) 23 = .ok (.iload 4, 2) := by decide +kernel
theorem d_27_25 : decode (zm_code 27) 25 = .ok (.aload_n 0, 1) := by decide +kernel
theorem d_27_26 : decode (zm_code 27) 26 = .ok (.iload 4, 2) := by decide +kernel
theorem d_27_28 : decode (zm_code 27) 28 = .ok (.invokevirtual 257, 3) := by decide +kernel
theorem d_27_31 : decode (zm_code 27) 31 = .ok (.iastore, 1) := by decide +kernel
theorem d_27_32 : decode (zm_code 27) 32 = .ok (.iinc 4 1, 3) := by decide +kernel
theorem d_27_35 : decode (zm_code 27) 35 = .ok (.goto (-28), 3) := by decide +kernel
theorem d_27_38 : decode (zm_code 27) 38 = .ok (.iconst 1, 1) := by decide +kernel
theorem d_27_39 : decode (zm_code 27) 39 = .ok (.istore 4, 2) := by decide +kernel
theorem d_27_41 : decode (zm_code 27) 41 = .ok (.iload 4, 2) := by decide +kernel
theorem d_27_43 : decode (zm_code 27) 43 = .ok (.bipush 99, 2) := by decide +kernel
theorem d_27_45 : decode (zm_code 27) 45 = .ok (.if_icmp .gt 29, 3) := by decide +kernel
theorem d_27_48 : decode (zm_code 27) 48 = .ok (.aload_n 0, 1) := by decide +kernel
theorem d_27_49 : decode (zm_code 27) 49 = .ok (.iload 4, 2) := by decide +kernel
theorem d_27_51 : decode (zm_code 27) 51 = .ok (.invokevirtual 260, 3) := by decide +kernel
theorem d_27_54 : decode (zm_code 27) 54 = .ok (.istore 5, 2) := by decide +kernel
theorem d_27_56 : decode (zm_code 27) 56 = .ok (.iload 5, 2) := by decide +kernel
theorem d_27_58 : decode (zm_code 27) 58 = .ok (.iload_n 3, 1) := by decide +kernel
theorem d_27_59 : decode (zm_code 27) 59 = .ok (.if_icmp .le 9, 3) := by decide +kernel
theorem d_27_62 : decode (zm_code 27) 62 = .ok (.iload 5, 2) := by decide +kernel
theorem d_27_64 : decode (zm_code 27) 64 = .ok (.istore_n 3, 1) := by decide +kernel
theorem d_27_65 : decode (zm_code 27) 65 = .ok (.iload 4, 2) := by decide +kernel
theorem d_27_67 : decode (zm_code 27) 67 = .ok (.istore_n 2, 1) := by decide +kernel
theorem d_27_68 : decode (zm_code 27) 68 = .ok (.iinc 4 1, 3) := by decide +kernel
theorem d_27_71 : decode (zm_code 27) 71 = .ok (.goto (-30), 3) := by decide +kernel
theorem d_27_74 : decode (zm_code 27) 74 = .ok (.iload_n 1, 1) := by decide +kernel
theorem d_27_75 : decode (zm_code 27) 75 = .ok (.lookupswitch 29 #[(0, 25), (1, 27)], 25) := by decide +kernel
theorem d_27_100 : decode (zm_code 27) 100 = .ok (.iload_n 2, 1) := by decide +kernel
theorem d_27_101 : decode (zm_code 27) 101 = .ok (.ireturn, 1) := by decide +kernel
theorem d_27_102 : decode (zm_code 27) 102 = .ok (.iload_n 3, 1) := by decide +kernel
theorem d_27_103 : decode (zm_code 27) 103 = .ok (.ireturn, 1) := by decide +kernel
theorem d_27_104 : decode (zm_code 27) 104 = .ok (.iconst (-1), 1) := by decide +kernel
theorem d_27_105 : decode (zm_code 27) 105 = .ok (.ireturn, 1) := by decide +kernel
theorem d_28_0 : decode (zm_code 28) 0 = .ok (.iconst 0, 1) := by decide +kernel
theorem d_28_1 : decode (zm_code 28) 1 = .ok (.istore_n 2, 1) := by decide +kernel
theorem d_28_2 : decode (zm_code 28) 2 = .ok (.iconst 0, 1) := by decide +kernel
theorem d_28_3 : decode (zm_code 28) 3 = .ok (.istore_n 3, 1) := by decide +kernel
theorem d_28_4 : decode (zm_code 28) 4 = .ok (.iload_n 3, 1) := by decide +kernel
theorem d_28_5 : decode (zm_code 28) 5 = .ok (.aload_n 0, 1) := by decide +kernel
theorem d_28_6 : decode (zm_code 28) 6 = .ok (.getfield 19, 3) := by decide +kernel
theorem d_28_9 : decode (zm_code 28) 9 = .ok (.getfield 149, 3) := by decide +kernel
theorem d_28_12 : decode (zm_code 28) 12 = .ok (.if_icmp .ge 22, 3) := by decide +kernel
theorem d_28_15 : decode (zm_code 28) 15 = .ok (.iload_n 1, 1) := by decide +kernel
theorem d_28_16 : decode (zm_code 28) 16 = .ok (.aload_n 0, 1) := by decide +kernel
theorem d_28_17 : decode (zm_code 28) 17 = .ok (.getfield 94, 3) := by decide +kernel
theorem d_28_20 : decode (zm_code 28) 20 = .ok (.iload_n 3, 1) := by decide +kernel
theorem d_28_21 : decode (zm_code 28) 21 = .ok (.iaload, 1) := by decide +kernel
theorem d_28_22 : decode (zm_code 28) 22 = .ok (.if_icmp .gt 6, 3) := by decide +kernel
theorem d_28_25 : decode (zm_code 28) 25 = .ok (.iinc 2 1, 3) := by decide +kernel
theorem d_28_28 : decode (zm_code 28) 28 = .ok (.iinc 3 1, 3) := by decide +kernel
theorem d_28_31 : decode (zm_code 28) 31 = .ok (.goto (-27), 3) := by decide +kernel
theorem d_28_34 : decode (zm_code 28) 34 = .ok (.iload_n 1, 1) := by decide +kernel
theorem d_28_35 : decode (zm_code 28) 35 = .ok (.iload_n 2, 1) := by decide +kernel
theorem d_28_36 : decode (zm_code 28) 36 = .ok (.imul, 1) := by decide +kernel
theorem d_28_37 : decode (zm_code 28) 37 = .ok (.ireturn, 1) := by decide +kernel
theorem d_29_0 : decode (zm_code 29) 0 = .ok (.aload_n 0, 1) := by decide +kernel
theorem d_29_1 : decode (zm_code 29) 1 = .ok (.iload_n 1, 1) := by decide +kernel
theorem d_29_2 : decode (zm_code 29) 2 = .ok (.invokevirtual 182, 3) := by decide +kernel
theorem d_29_5 : decode (zm_code 29) 5 = .ok (.ifCond .eq 16, 3) := by decide +kernel
theorem d_29_8 : decode (zm_code 29) 8 = .ok (.iload_n 2, 1) := by decide +kernel
theorem d_29_9 : decode (zm_code 29) 9 = .ok (.iconst (-1), 1) := by decide +kernel
theorem d_29_10 : decode (zm_code 29) 10 = .ok (.if_icmp .eq 13, 3) := by decide +kernel
theorem d_29_13 : decode (zm_code 29) 13 = .ok (.aload_n 0, 1) := by decide +kernel
theorem d_29_14 : decode (zm_code 29) 14 = .ok (.iload_n 2, 1) := by decide +kernel
theorem d_29_15 : decode (zm_code 29) 15 = .ok (.invokevirtual 200, 3) := by decide +kernel
theorem d_29_18 : decode (zm_code 29) 18 = .ok (.ifCond .ne 5, 3) := by decide +kernel
theorem d_29_21 : decode (zm_code 29) 21 = .ok (.iconst (-1), 1) := by decide +kernel
theorem d_29_22 : decode (zm_code 29) 22 = .ok (.ireturn, 1) := by decide +kernel
theorem d_29_23 : decode (zm_code 29) 23 = .ok (.aload_n 0, 1) := by decide +kernel
theorem d_29_24 : decode (zm_code 29) 24 = .ok (.getfield 38, 3) := by decide +kernel
theorem d_29_27 : decode (zm_code 29) 27 = .ok (.invokevirtual 155, 3) := by decide +kernel
theorem d_29_30 : decode (zm_code 29) 30 = .ok (.ifCond .ne 5, 3) := by decide +kernel
theorem d_29_33 : decode (zm_code 29) 33 = .ok (.iconst (-1), 1) := by decide +kernel
theorem d_29_34 : decode (zm_code 29) 34 = .ok (.ireturn, 1) := by decide +kernel
theorem d_29_35 : decode (zm_code 29) 35 = .ok (.aload_n 0, 1) := by decide +kernel
theorem d_29_36 : decode (zm_code 29) 36 = .ok (.getfield 65, 3) := by decide +kernel
theorem d_29_39 : decode (zm_code 29) 39 = .ok (.aload_n 0, 1) := by decide +kernel
theorem d_29_40 : decode (zm_code 29) 40 = .ok (.getfield 19, 3) := by decide +kernel
theorem d_29_43 : decode (zm_code 29) 43 = .ok (.aload_n 0, 1) := by decide +kernel
theorem d_29_44 : decode (zm_code 29) 44 = .ok (.getfield 38, 3) := by decide +kernel
theorem d_29_47 : decode (zm_code 29) 47 = .ok (.aload_n 0, 1) := by decide +kernel
theorem d_29_48 : decode (zm_code 29) 48 = .ok (.getfield 58, 3) := by decide +kernel
theorem d_29_51 : decode (zm_code 29) 51 = .ok (.iload_n 1, 1) := by decide +kernel
theorem d_29_52 : decode (zm_code 29) 52 = .ok (.invokevirtual 263, 3) := by decide +kernel
theorem d_29_55 : decode (zm_code 29) 55 = .ok (.iload_n 2, 1) := by decide +kernel
theorem d_29_56 : decode (zm_code 29) 56 = .ok (.iconst (-1), 1) := by decide +kernel
theorem d_29_57 : decode (zm_code 29) 57 = .ok (.if_icmp .ne 13, 3) := by decide +kernel
theorem d_29_60 : decode (zm_code 29) 60 = .ok (.aload_n 0, 1) := by decide +kernel
theorem d_29_61 : decode (zm_code 29) 61 = .ok (.getfield 65, 3) := by decide +kernel
theorem d_29_64 : decode (zm_code 29) 64 = .ok (.getfield 267, 3) := by decide +kernel
theorem d_29_67 : decode (zm_code 29) 67 = .ok (.goto 12, 3) := by decide +kernel
theorem d_29_70 : decode (zm_code 29) 70 = .ok (.aload_n 0, 1) := by decide +kernel
theorem d_29_71 : decode (zm_code 29) 71 = .ok (.getfield 65, 3) := by decide +kernel
theorem d_29_74 : decode (zm_code 29) 74 = .ok (.getfield 270, 3) := by decide +kernel
theorem d_29_77 : decode (zm_code 29) 77 = .ok (.iload_n 2, 1) := by decide +kernel
theorem d_29_78 : decode (zm_code 29) 78 = .ok (.iaload, 1) := by decide +kernel
theorem d_29_79 : decode (zm_code 29) 79 = .ok (.ireturn, 1) := by decide +kernel
theorem d_30_0 : decode (zm_code 30) 0 = .ok (.aload_n 0, 1) := by decide +kernel
theorem d_30_1 : decode (zm_code 30) 1 = .ok (.iload_n 1, 1) := by decide +kernel
theorem d_30_2 : decode (zm_code 30) 2 = .ok (.invokevirtual 182, 3) := by decide +kernel
theorem d_30_5 : decode (zm_code 30) 5 = .ok (.ifCond .eq 11, 3) := by decide +kernel
theorem d_30_8 : decode (zm_code 30) 8 = .ok (.aload_n 0, 1) := by decide +kernel
theorem d_30_9 : decode (zm_code 30) 9 = .ok (.iload_n 1, 1) := by decide +kernel
theorem d_30_10 : decode (zm_code 30) 10 = .ok (.invokevirtual 273, 3) := by decide +kernel
theorem d_30_13 : decode (zm_code 30) 13 = .ok (.ifCond .ne 9, 3) := by decide +kernel
theorem d_30_16 : decode (zm_code 30) 16 = .ok (.aload_n 0, 1) := by decide +kernel
theorem d_30_17 : decode (zm_code 30) 17 = .ok (.iconst 2, 1) := by decide +kernel
theorem d_30_18 : decode (zm_code 30) 18 = .ok (.invokevirtual 111, 3) := by decide +kernel
theorem d_30_21 : decode (zm_code 30) 21 = .ok (.ireturn, 1) := by decide +kernel
theorem d_30_22 : decode (zm_code 30) 22 = .ok (.aload_n 0, 1) := by decide +kernel
theorem d_30_23 : decode (zm_code 30) 23 = .ok (.getfield 51, 3) := by decide +kernel
theorem d_30_26 : decode (zm_code 30) 26 = .ok (.aload_n 0, 1) := by decide +kernel
theorem d_30_27 : decode (zm_code 30) 27 = .ok (.getfield 38, 3) := by decide +kernel
theorem d_30_30 : decode (zm_code 30) 30 = .ok (.invokevirtual 276, 3) := by decide +kernel
theorem d_30_33 : decode (zm_code 30) 33 = .ok (.aload_n 0, 1) := by decide +kernel
theorem d_30_34 : decode (zm_code 30) 34 = .ok (.iload_n 1, 1) := by decide +kernel
theorem d_30_35 : decode (zm_code 30) 35 = .ok (.invokevirtual 280, 3) := by decide +kernel
theorem d_30_38 : decode (zm_code 30) 38 = .ok (.ireturn, 1) := by decide +kernel
theorem d_31_0 : decode (zm_code 31) 0 = .ok (.aload_n 0, 1) := by decide +kernel
theorem d_31_1 : decode (zm_code 31) 1 = .ok (.getfield 38, 3) := by decide +kernel
theorem d_31_4 : decode (zm_code 31) 4 = .ok (.invokevirtual 155, 3) := by decide +kernel
theorem d_31_7 : decode (zm_code 31) 7 = .ok (.ifCond .le 23, 3) := by decide +kernel
theorem d_31_10 : decode (zm_code 31) 10 = .ok (.aload_n 0, 1) := by decide +kernel
theorem d_31_11 : decode (zm_code 31) 11 = .ok (.getfield 38, 3) := by decide +kernel
theorem d_31_14 : decode (zm_code 31) 14 = .ok (.getfield 217, 3) := by decide +kernel
theorem d_31_17 : decode (zm_code 31) 17 = .ok (.iload_n 1, 1) := by decide +kernel
theorem d_31_18 : decode (zm_code 31) 18 = .ok (.iaload, 1) := by decide +kernel
theorem d_31_19 : decode (zm_code 31) 19 = .ok (.aload_n 0, 1) := by decide +kernel
theorem d_31_20 : decode (zm_code 31) 20 = .ok (.invokevirtual 162, 3) := by decide +kernel
theorem d_31_23 : decode (zm_code 31) 23 = .ok (.if_icmp .lt 7, 3) := by decide +kernel
theorem d_31_26 : decode (zm_code 31) 26 = .ok (.iconst 1, 1) := by decide +kernel
theorem d_31_27 : decode (zm_code 31) 27 = .ok (.goto 4, 3) := by decide +kernel
theorem d_31_30 : decode (zm_code 31) 30 = .ok (.iconst 0, 1) := by decide +kernel
theorem d_31_31 : decode (zm_code 31) 31 = .ok (.ireturn, 1) := by decide +kernel
theorem d_32_0 : decode (zm_code 32) 0 = .ok (.aload_n 0, 1) := by decide +kernel
theorem d_32_1 : decode (zm_code 32) 1 = .ok (.invokevirtual 162, 3) := by decide +kernel
theorem d_32_4 : decode (zm_code 32) 4 = .ok (.istore_n 2, 1) := by decide +kernel
theorem d_32_5 : decode (zm_code 32) 5 = .ok (.aload_n 0, 1) := by decide +kernel
theorem d_32_6 : decode (zm_code 32) 6 = .ok (.iload_n 1, 1) := by decide +kernel
theorem d_32_7 : decode (zm_code 32) 7 = .ok (.invokevirtual 226, 3) := by decide +kernel
theorem d_32_10 : decode (zm_code 32) 10 = .ok (.aload_n 0, 1) := by decide +kernel
theorem d_32_11 : decode (zm_code 32) 11 = .ok (.invokevirtual 366, 3) := by decide +kernel
theorem d_32_14 : decode (zm_code 32) 14 = .ok (.istore_n 3, 1) := by decide +kernel
theorem d_32_15 : decode (zm_code 32) 15 = .ok (.iconst 0, 1) := by decide +kernel
theorem d_32_16 : decode (zm_code 32) 16 = .ok (.istore 4, 2) := by decide +kernel
theorem d_32_18 : decode (zm_code 32) 18 = .ok (.iload 4, 2) := by decide +kernel
theorem d_32_20 : decode (zm_code 32) 20 = .ok (.aload_n 0, 1) := by decide +kernel
theorem d_32_21 : decode (zm_code 32) 21 = .ok (.getfield 19, 3) := by decide +kernel
theorem d_32_24 : decode (zm_code 32) 24 = .ok (.getfield 211, 3) := by decide +kernel
theorem d_32_27 : decode (zm_code 32) 27 = .ok (.iload_n 1, 1) := by decide +kernel
theorem d_32_28 : decode (zm_code 32) 28 = .ok (.iaload, 1) := by decide +kernel
theorem d_32_29 : decode (zm_code 32) 29 = .ok (.if_icmp .ge 46, 3) := by decide +kernel
theorem d_32_32 : decode (zm_code 32) 32 = .ok (.aload_n 0, 1) := by decide +kernel
theorem d_32_33 : decode (zm_code 32) 33 = .ok (.invokevirtual 366, 3) := by decide +kernel
theorem d_32_36 : decode (zm_code 32) 36 = .ok (.istore 5, 2) := by decide +kernel
theorem d_32_38 : decode (zm_code 32) 38 = .ok (.aload_n 0, 1) := by decide +kernel
theorem d_32_39 : decode (zm_code 32) 39 = .ok (.getfield 58, 3) := by decide +kernel
theorem d_32_42 : decode (zm_code 32) 42 = .ok (.getfield 369, 3) := by decide +kernel
theorem d_32_45 : decode (zm_code 32) 45 = .ok (.iload 5, 2) := by decide +kernel
theorem d_32_47 : decode (zm_code 32) 47 = .ok (.bipush 8, 2) := by decide +kernel
theorem d_32_49 : decode (zm_code 32) 49 = .ok (.irem, 1) := by decide +kernel
theorem d_32_50 : decode (zm_code 32) 50 = .ok (.iaload, 1) := by decide +kernel
theorem d_32_51 : decode (zm_code 32) 51 = .ok (.aload_n 0, 1) := by decide +kernel
theorem d_32_52 : decode (zm_code 32) 52 = .ok (.getfield 58, 3) := by decide +kernel
theorem d_32_55 : decode (zm_code 32) 55 = .ok (.getfield 369, 3) := by decide +kernel
theorem d_32_58 : decode (zm_code 32) 58 = .ok (.iload_n 3, 1) := by decide +kernel
theorem d_32_59 : decode (zm_code 32) 59 = .ok (.bipush 8, 2) := by decide +kernel
theorem d_32_61 : decode (zm_code 32) 61 = .ok (.irem, 1) := by decide +kernel
theorem d_32_62 : decode (zm_code 32) 62 = .ok (.iaload, 1) := by decide +kernel
theorem d_32_63 : decode (zm_code 32) 63 = .ok (.if_icmp .le 6, 3) := by decide +kernel
theorem d_32_66 : decode (zm_code 32) 66 = .ok (.iload 5, 2) := by decide +kernel
theorem d_32_68 : decode (zm_code 32) 68 = .ok (.istore_n 3, 1) := by decide +kernel
theorem d_32_69 : decode (zm_code 32) 69 = .ok (.iinc 4 1, 3) := by decide +kernel
theorem d_32_72 : decode (zm_code 32) 72 = .ok (.goto (-54), 3) := by decide +kernel
theorem d_32_75 : decode (zm_code 32) 75 = .ok (.aload_n 0, 1) := by decide +kernel
theorem d_32_76 : decode (zm_code 32) 76 = .ok (.iload_n 3, 1) := by decide +kernel
theorem d_32_77 : decode (zm_code 32) 77 = .ok (.bipush 8, 2) := by decide +kernel
theorem d_32_79 : decode (zm_code 32) 79 = .ok (.irem, 1) := by decide +kernel
theorem d_32_80 : decode (zm_code 32) 80 = .ok (.invokevirtual 372, 3) := by decide +kernel
theorem d_32_83 : decode (zm_code 32) 83 = .ok (.ifCond .eq 8, 3) := by decide +kernel
theorem d_32_86 : decode (zm_code 32) 86 = .ok (.aload_n 0, 1) := by decide +kernel
theorem d_32_87 : decode (zm_code 32) 87 = .ok (.invokevirtual 366, 3) := by decide +kernel
theorem d_32_90 : decode (zm_code 32) 90 = .ok (.istore_n 3, 1) := by decide +kernel
theorem d_32_91 : decode (zm_code 32) 91 = .ok (.iload_n 3, 1) := by decide +kernel
theorem d_32_92 : decode (zm_code 32) 92 = .ok (.bipush 8, 2) := by decide +kernel
theorem d_32_94 : decode (zm_code 32) 94 = .ok (.irem, 1) := by decide +kernel
theorem d_32_95 : decode (zm_code 32) 95 = .ok (.istore 4, 2) := by decide +kernel
theorem d_32_97 : decode (zm_code 32) 97 = .ok (.aload_n 0, 1) := by decide +kernel
theorem d_32_98 : decode (zm_code 32) 98 = .ok (.getfield 38, 3) := by decide +kernel
theorem d_32_101 : decode (zm_code 32) 101 = .ok (.getfield 217, 3) := by decide +kernel
theorem d_32_104 : decode (zm_code 32) 104 = .ok (.iload_n 1, 1) := by decide +kernel
theorem d_32_105 : decode (zm_code 32) 105 = .ok (.dup2, 1) := by decide +kernel
theorem d_32_106 : decode (zm_code 32) 106 = .ok (.iaload, 1) := by decide +kernel
theorem d_32_107 : decode (zm_code 32) 107 = .ok (.iload_n 2, 1) := by decide +kernel
theorem d_32_108 : decode (zm_code 32) 108 = .ok (.isub, 1) := by decide +kernel
theorem d_32_109 : decode (zm_code 32) 109 = .ok (.iastore, 1) := by decide +kernel
theorem d_32_110 : decode (zm_code 32) 110 = .ok (.aload_n 0, 1) := by decide +kernel
theorem d_32_111 : decode (zm_code 32) 111 = .ok (.getfield 38, 3) := by decide +kernel
theorem d_32_114 : decode (zm_code 32) 114 = .ok (.getfield 206, 3) := by decide +kernel
theorem d_32_117 : decode (zm_code 32) 117 = .ok (.iload_n 3, 1) := by decide +kernel
theorem d_32_118 : decode (zm_code 32) 118 = .ok (.dup2, 1) := by decide +kernel
theorem d_32_119 : decode (zm_code 32) 119 = .ok (.iaload, 1) := by decide +kernel
theorem d_32_120 : decode (zm_code 32) 120 = .ok (.iconst 1, 1) := by decide +kernel
theorem d_32_121 : decode (zm_code 32) 121 = .ok (.isub, 1) := by decide +kernel
theorem d_32_122 : decode (zm_code 32) 122 = .ok (.iastore, 1) := by decide +kernel
theorem d_32_123 : decode (zm_code 32) 123 = .ok (.aload_n 0, 1) := by decide +kernel
theorem d_32_124 : decode (zm_code 32) 124 = .ok (.getfield 38, 3) := by decide +kernel
theorem d_32_127 : decode (zm_code 32) 127 = .ok (.getfield 236, 3) := by decide +kernel
theorem d_32_130 : decode (zm_code 32) 130 = .ok (.iload_n 1, 1) := by decide +kernel
theorem d_32_131 : decode (zm_code 32) 131 = .ok (.bipush 8, 2) := by decide +kernel
theorem d_32_133 : decode (zm_code 32) 133 = .ok (.imul, 1) := by decide +kernel
theorem d_32_134 : decode (zm_code 32) 134 = .ok (.iload 4, 2) := by decide +kernel
theorem d_32_136 : decode (zm_code 32) 136 = .ok (.iadd, 1) := by decide +kernel
theorem d_32_137 : decode (zm_code 32) 137 = .ok (.dup2, 1) := by decide +kernel
theorem d_32_138 : decode (zm_code 32) 138 = .ok (.iaload, 1) := by decide +kernel
theorem d_32_139 : decode (zm_code 32) 139 = .ok (.iconst 1, 1) := by decide +kernel
theorem d_32_140 : decode (zm_code 32) 140 = .ok (.iadd, 1) := by decide +kernel
theorem d_32_141 : decode (zm_code 32) 141 = .ok (.iastore, 1) := by decide +kernel
theorem d_32_142 : decode (zm_code 32) 142 = .ok (.aload_n 0, 1) := by decide +kernel
theorem d_32_143 : decode (zm_code 32) 143 = .ok (.getfield 38, 3) := by decide +kernel
theorem d_32_146 : decode (zm_code 32) 146 = .ok (.dup, 1) := by decide +kernel
theorem d_32_147 : decode (zm_code 32) 147 = .ok (.getfield 159, 3) := by decide +kernel
theorem d_32_150 : decode (zm_code 32) 150 = .ok (.iconst 1, 1) := by decide +kernel
theorem d_32_151 : decode (zm_code 32) 151 = .ok (.iadd, 1) := by decide +kernel
theorem d_32_152 : decode (zm_code 32) 152 = .ok (.putfield 159, 3) := by decide +kernel
theorem d_32_155 : decode (zm_code 32) 155 = .ok (.aload_n 0, 1) := by decide +kernel
theorem d_32_156 : decode (zm_code 32) 156 = .ok (.getfield 51, 3) := by decide +kernel
theorem d_32_159 : decode (zm_code 32) 159 = .ok (.iload_n 1, 1) := by decide +kernel
theorem d_32_160 : decode (zm_code 32) 160 = .ok (.iload 4, 2) := by decide +kernel
theorem d_32_162 : decode (zm_code 32) 162 = .ok (.aload_n 0, 1) := by decide +kernel
theorem d_32_163 : decode (zm_code 32) 163 = .ok (.getfield 38, 3) := by decide +kernel
theorem d_32_166 : decode (zm_code 32) 166 = .ok (.getfield 152, 3) := by decide +kernel
theorem d_32_169 : decode (zm_code 32) 169 = .ok (.iload_n 2, 1) := by decide +kernel
theorem d_32_170 : decode (zm_code 32) 170 = .ok (.invokevirtual 375, 3) := by decide +kernel
theorem d_32_173 : decode (zm_code 32) 173 = .ok (.iload 4, 2) := by decide +kernel
theorem d_32_175 : decode (zm_code 32) 175 = .ok (.ireturn, 1) := by decide +kernel
theorem d_33_0 : decode (zm_code 33) 0 = .ok (.aload_n 0, 1) := by decide +kernel
theorem d_33_1 : decode (zm_code 33) 1 = .ok (.getfield 58, 3) := by decide +kernel
theorem d_33_4 : decode (zm_code 33) 4 = .ok (.aload_n 0, 1) := by decide +kernel
theorem d_33_5 : decode (zm_code 33) 5 = .ok (.getfield 38, 3) := by decide +kernel
theorem d_33_8 : decode (zm_code 33) 8 = .ok (.aload_n 0, 1) := by decide +kernel
theorem d_33_9 : decode (zm_code 33) 9 = .ok (.aload_n 0, 1) := by decide +kernel
theorem d_33_10 : decode (zm_code 33) 10 = .ok (.getfield 58, 3) := by decide +kernel
theorem d_33_13 : decode (zm_code 33) 13 = .ok (.getfield 229, 3) := by decide +kernel
theorem d_33_16 : decode (zm_code 33) 16 = .ok (.invokevirtual 379, 3) := by decide +kernel
theorem d_33_19 : decode (zm_code 33) 19 = .ok (.invokevirtual 382, 3) := by decide +kernel
theorem d_33_22 : decode (zm_code 33) 22 = .ok (.ireturn, 1) := by decide +kernel
theorem d_34_0 : decode (zm_code 34) 0 = .ok (.aload_n 0, 1) := by decide +kernel
theorem d_34_1 : decode (zm_code 34) 1 = .ok (.ldc2_w 386, 3) := by decide +kernel
theorem d_34_4 : decode (zm_code 34) 4 = .ok (.aload_n 0, 1) := by decide +kernel
theorem d_34_5 : decode (zm_code 34) 5 = .ok (.getfield 100, 3) := by decide +kernel
theorem d_34_8 : decode (zm_code 34) 8 = .ok (.i2l, 1) := by decide +kernel
theorem d_34_9 : decode (zm_code 34) 9 = .ok (.lmul, 1) := by decide +kernel
theorem d_34_10 : decode (zm_code 34) 10 = .ok (.ldc2_w 388, 3) := by decide +kernel
theorem d_34_13 : decode (zm_code 34) 13 = .ok (.ladd, 1) := by decide +kernel
theorem d_34_14 : decode (zm_code 34) 14 = .ok (.ldc2_w 390, 3) := by decide +kernel
theorem d_34_17 : decode (zm_code 34) 17 = .ok (.land, 1) := by decide +kernel
theorem d_34_18 : decode (zm_code 34) 18 = .ok (.l2i, 1) := by decide +kernel
theorem d_34_19 : decode (zm_code 34) 19 = .ok (.putfield 100, 3) := by decide +kernel
theorem d_34_22 : decode (zm_code 34) 22 = .ok (.iload_n 1, 1) := by decide +kernel
theorem d_34_23 : decode (zm_code 34) 23 = .ok (.ifCond .gt 7, 3) := by decide +kernel
theorem d_34_26 : decode (zm_code 34) 26 = .ok (.iconst 0, 1) := by decide +kernel
theorem d_34_27 : decode (zm_code 34) 27 = .ok (.goto 12, 3) := by decide +kernel
theorem d_34_30 : decode (zm_code 34) 30 = .ok (.aload_n 0, 1) := by decide +kernel
theorem d_34_31 : decode (zm_code 34) 31 = .ok (.getfield 100, 3) := by decide +kernel
theorem d_34_34 : decode (zm_code 34) 34 = .ok (.bipush 64, 2) := by decide +kernel
theorem d_34_36 : decode (zm_code 34) 36 = .ok (.idiv, 1) := by decide +kernel
theorem d_34_37 : decode (zm_code 34) 37 = .ok (.iload_n 1, 1) := by decide +kernel
theorem d_34_38 : decode (zm_code 34) 38 = .ok (.irem, 1) := by decide +kernel
theorem d_34_39 : decode (zm_code 34) 39 = .ok (.ireturn, 1) := by decide +kernel
theorem d_35_0 : decode (zm_code 35) 0 = .ok (.aload_n 0, 1) := by decide +kernel
theorem d_35_1 : decode (zm_code 35) 1 = .ok (.invokevirtual 347, 3) := by decide +kernel
theorem d_35_4 : decode (zm_code 35) 4 = .ok (.aload_n 0, 1) := by decide +kernel
theorem d_35_5 : decode (zm_code 35) 5 = .ok (.getfield 90, 3) := by decide +kernel
theorem d_35_8 : decode (zm_code 35) 8 = .ok (.iconst 3, 1) := by decide +kernel
theorem d_35_9 : decode (zm_code 35) 9 = .ok (.aload_n 0, 1) := by decide +kernel
theorem d_35_10 : decode (zm_code 35) 10 = .ok (.getfield 58, 3) := by decide +kernel
theorem d_35_13 : decode (zm_code 35) 13 = .ok (.getfield 392, 3) := by decide +kernel
theorem d_35_16 : decode (zm_code 35) 16 = .ok (.iload_n 1, 1) := by decide +kernel
theorem d_35_17 : decode (zm_code 35) 17 = .ok (.iaload, 1) := by decide +kernel
theorem d_35_18 : decode (zm_code 35) 18 = .ok (.iastore, 1) := by decide +kernel
theorem d_35_19 : decode (zm_code 35) 19 = .ok (.aload_n 0, 1) := by decide +kernel
theorem d_35_20 : decode (zm_code 35) 20 = .ok (.getfield 90, 3) := by decide +kernel
theorem d_35_23 : decode (zm_code 35) 23 = .ok (.iconst 4, 1) := by decide +kernel
theorem d_35_24 : decode (zm_code 35) 24 = .ok (.aload_n 0, 1) := by decide +kernel
theorem d_35_25 : decode (zm_code 35) 25 = .ok (.getfield 19, 3) := by decide +kernel
theorem d_35_28 : decode (zm_code 35) 28 = .ok (.getfield 191, 3) := by decide +kernel
theorem d_35_31 : decode (zm_code 35) 31 = .ok (.iload_n 1, 1) := by decide +kernel
theorem d_35_32 : decode (zm_code 35) 32 = .ok (.iaload, 1) := by decide +kernel
theorem d_35_33 : decode (zm_code 35) 33 = .ok (.iastore, 1) := by decide +kernel
theorem d_35_34 : decode (zm_code 35) 34 = .ok (.aload_n 0, 1) := by decide +kernel
theorem d_35_35 : decode (zm_code 35) 35 = .ok (.getfield 90, 3) := by decide +kernel
theorem d_35_38 : decode (zm_code 35) 38 = .ok (.iconst 5, 1) := by decide +kernel
theorem d_35_39 : decode (zm_code 35) 39 = .ok (.aload_n 0, 1) := by decide +kernel
theorem d_35_40 : decode (zm_code 35) 40 = .ok (.getfield 58, 3) := by decide +kernel
theorem d_35_43 : decode (zm_code 35) 43 = .ok (.invokevirtual 395, 3) := by decide +kernel
theorem d_35_46 : decode (zm_code 35) 46 = .ok (.iastore, 1) := by decide +kernel
theorem d_35_47 : decode (zm_code 35) 47 = .ok (.aload_n 0, 1) := by decide +kernel
theorem d_35_48 : decode (zm_code 35) 48 = .ok (.getfield 86, 3) := by decide +kernel
theorem d_35_51 : decode (zm_code 35) 51 = .ok (.aload_n 0, 1) := by decide +kernel
theorem d_35_52 : decode (zm_code 35) 52 = .ok (.getfield 19, 3) := by decide +kernel
theorem d_35_55 : decode (zm_code 35) 55 = .ok (.getfield 350, 3) := by decide +kernel
theorem d_35_58 : decode (zm_code 35) 58 = .ok (.aload_n 0, 1) := by decide +kernel
theorem d_35_59 : decode (zm_code 35) 59 = .ok (.getfield 19, 3) := by decide +kernel
theorem d_35_62 : decode (zm_code 35) 62 = .ok (.getfield 398, 3) := by decide +kernel
theorem d_35_65 : decode (zm_code 35) 65 = .ok (.aload_n 0, 1) := by decide +kernel
theorem d_35_66 : decode (zm_code 35) 66 = .ok (.getfield 19, 3) := by decide +kernel
theorem d_35_69 : decode (zm_code 35) 69 = .ok (.getfield 401, 3) := by decide +kernel
theorem d_35_72 : decode (zm_code 35) 72 = .ok (.aload_n 0, 1) := by decide +kernel
theorem d_35_73 : decode (zm_code 35) 73 = .ok (.getfield 90, 3) := by decide +kernel
theorem d_35_76 : decode (zm_code 35) 76 = .ok (.invokevirtual 359, 3) := by decide +kernel
theorem d_35_79 : decode (zm_code 35) 79 = .ok (.ifCond .eq 7, 3) := by decide +kernel
theorem d_35_82 : decode (zm_code 35) 82 = .ok (.iconst 1, 1) := by decide +kernel
theorem d_35_83 : decode (zm_code 35) 83 = .ok (.goto 4, 3) := by decide +kernel
theorem d_35_86 : decode (zm_code 35) 86 = .ok (.iconst 0, 1) := by decide +kernel
theorem d_35_87 : decode (zm_code 35) 87 = .ok (.ireturn, 1) := by decide +kernel
theorem d_36_0 : decode (zm_code 36) 0 = .ok (.aload_n 0, 1) := by decide +kernel
theorem d_36_1 : decode (zm_code 36) 1 = .ok (.getfield 38, 3) := by decide +kernel
theorem d_36_4 : decode (zm_code 36) 4 = .ok (.getfield 152, 3) := by decide +kernel
theorem d_36_7 : decode (zm_code 36) 7 = .ok (.bipush 99, 2) := by decide +kernel
theorem d_36_9 : decode (zm_code 36) 9 = .ok (.if_icmp .lt 9, 3) := by decide +kernel
theorem d_36_12 : decode (zm_code 36) 12 = .ok (.aload_n 0, 1) := by decide +kernel
theorem d_36_13 : decode (zm_code 36) 13 = .ok (.iconst 3, 1) := by decide +kernel
theorem d_36_14 : decode (zm_code 36) 14 = .ok (.invokevirtual 111, 3) := by decide +kernel
theorem d_36_17 : decode (zm_code 36) 17 = .ok (.ireturn, 1) := by decide +kernel
theorem d_36_18 : decode (zm_code 36) 18 = .ok (.aload_n 0, 1) := by decide +kernel
theorem d_36_19 : decode (zm_code 36) 19 = .ok (.getfield 51, 3) := by decide +kernel
theorem d_36_22 : decode (zm_code 36) 22 = .ok (.aload_n 0, 1) := by decide +kernel
theorem d_36_23 : decode (zm_code 36) 23 = .ok (.getfield 38, 3) := by decide +kernel
theorem d_36_26 : decode (zm_code 36) 26 = .ok (.invokevirtual 276, 3) := by decide +kernel
theorem d_36_29 : decode (zm_code 36) 29 = .ok (.aload_n 0, 1) := by decide +kernel
theorem d_36_30 : decode (zm_code 36) 30 = .ok (.getfield 38, 3) := by decide +kernel
theorem d_36_33 : decode (zm_code 36) 33 = .ok (.dup, 1) := by decide +kernel
theorem d_36_34 : decode (zm_code 36) 34 = .ok (.getfield 152, 3) := by decide +kernel
theorem d_36_37 : decode (zm_code 36) 37 = .ok (.iconst 1, 1) := by decide +kernel
theorem d_36_38 : decode (zm_code 36) 38 = .ok (.iadd, 1) := by decide +kernel
theorem d_36_39 : decode (zm_code 36) 39 = .ok (.putfield 152, 3) := by decide +kernel
theorem d_36_42 : decode (zm_code 36) 42 = .ok (.aload_n 0, 1) := by decide +kernel
theorem d_36_43 : decode (zm_code 36) 43 = .ok (.getfield 38, 3) := by decide +kernel
theorem d_36_46 : decode (zm_code 36) 46 = .ok (.getfield 152, 3) := by decide +kernel
theorem d_36_49 : decode (zm_code 36) 49 = .ok (.ireturn, 1) := by decide +kernel
theorem d_37_0 : decode (zm_code 37) 0 = .ok (.aload_n 0, 1) := by decide +kernel
theorem d_37_1 : decode (zm_code 37) 1 = .ok (.iload_n 1, 1) := by decide +kernel
theorem d_37_2 : decode (zm_code 37) 2 = .ok (.invokevirtual 200, 3) := by decide +kernel
theorem d_37_5 : decode (zm_code 37) 5 = .ok (.ifCond .eq 22, 3) := by decide +kernel
theorem d_37_8 : decode (zm_code 37) 8 = .ok (.aload_n 0, 1) := by decide +kernel
theorem d_37_9 : decode (zm_code 37) 9 = .ok (.iload_n 2, 1) := by decide +kernel
theorem d_37_10 : decode (zm_code 37) 10 = .ok (.invokevirtual 176, 3) := by decide +kernel
theorem d_37_13 : decode (zm_code 37) 13 = .ok (.ifCond .eq 14, 3) := by decide +kernel
theorem d_37_16 : decode (zm_code 37) 16 = .ok (.iload_n 3, 1) := by decide +kernel
theorem d_37_17 : decode (zm_code 37) 17 = .ok (.iconst 1, 1) := by decide +kernel
theorem d_37_18 : decode (zm_code 37) 18 = .ok (.if_icmp .lt 9, 3) := by decide +kernel
theorem d_37_21 : decode (zm_code 37) 21 = .ok (.iload_n 3, 1) := by decide +kernel
theorem d_37_22 : decode (zm_code 37) 22 = .ok (.bipush 30, 2) := by decide +kernel
theorem d_37_24 : decode (zm_code 37) 24 = .ok (.if_icmp .le 9, 3) := by decide +kernel
theorem d_37_27 : decode (zm_code 37) 27 = .ok (.aload_n 0, 1) := by decide +kernel
theorem d_37_28 : decode (zm_code 37) 28 = .ok (.iconst 3, 1) := by decide +kernel
theorem d_37_29 : decode (zm_code 37) 29 = .ok (.invokevirtual 111, 3) := by decide +kernel
theorem d_37_32 : decode (zm_code 37) 32 = .ok (.ireturn, 1) := by decide +kernel
theorem d_37_33 : decode (zm_code 37) 33 = .ok (.iload_n 1, 1) := by decide +kernel
theorem d_37_34 : decode (zm_code 37) 34 = .ok (.bipush 8, 2) := by decide +kernel
theorem d_37_36 : decode (zm_code 37) 36 = .ok (.imul, 1) := by decide +kernel
theorem d_37_37 : decode (zm_code 37) 37 = .ok (.iload_n 2, 1) := by decide +kernel
theorem d_37_38 : decode (zm_code 37) 38 = .ok (.iadd, 1) := by decide +kernel
theorem d_37_39 : decode (zm_code 37) 39 = .ok (.istore 4, 2) := by decide +kernel
theorem d_37_41 : decode (zm_code 37) 41 = .ok (.aload_n 0, 1) := by decide +kernel
theorem d_37_42 : decode (zm_code 37) 42 = .ok (.getfield 38, 3) := by decide +kernel
theorem d_37_45 : decode (zm_code 37) 45 = .ok (.getfield 206, 3) := by decide +kernel
theorem d_37_48 : decode (zm_code 37) 48 = .ok (.iload 4, 2) := by decide +kernel
theorem d_37_50 : decode (zm_code 37) 50 = .ok (.iaload, 1) := by decide +kernel
theorem d_37_51 : decode (zm_code 37) 51 = .ok (.iload_n 3, 1) := by decide +kernel
theorem d_37_52 : decode (zm_code 37) 52 = .ok (.iadd, 1) := by decide +kernel
theorem d_37_53 : decode (zm_code 37) 53 = .ok (.bipush 99, 2) := by decide +kernel
theorem d_37_55 : decode (zm_code 37) 55 = .ok (.if_icmp .le 9, 3) := by decide +kernel
theorem d_37_58 : decode (zm_code 37) 58 = .ok (.aload_n 0, 1) := by decide +kernel
theorem d_37_59 : decode (zm_code 37) 59 = .ok (.iconst 3, 1) := by decide +kernel
theorem d_37_60 : decode (zm_code 37) 60 = .ok (.invokevirtual 111, 3) := by decide +kernel
theorem d_37_63 : decode (zm_code 37) 63 = .ok (.ireturn, 1) := by decide +kernel
theorem d_37_64 : decode (zm_code 37) 64 = .ok (.aload_n 0, 1) := by decide +kernel
theorem d_37_65 : decode (zm_code 37) 65 = .ok (.getfield 51, 3) := by decide +kernel
theorem d_37_68 : decode (zm_code 37) 68 = .ok (.aload_n 0, 1) := by decide +kernel
theorem d_37_69 : decode (zm_code 37) 69 = .ok (.getfield 38, 3) := by decide +kernel
theorem d_37_72 : decode (zm_code 37) 72 = .ok (.invokevirtual 276, 3) := by decide +kernel
theorem d_37_75 : decode (zm_code 37) 75 = .ok (.aload_n 0, 1) := by decide +kernel
theorem d_37_76 : decode (zm_code 37) 76 = .ok (.getfield 38, 3) := by decide +kernel
theorem d_37_79 : decode (zm_code 37) 79 = .ok (.getfield 206, 3) := by decide +kernel
theorem d_37_82 : decode (zm_code 37) 82 = .ok (.iload 4, 2) := by decide +kernel
theorem d_37_84 : decode (zm_code 37) 84 = .ok (.dup2, 1) := by decide +kernel
theorem d_37_85 : decode (zm_code 37) 85 = .ok (.iaload, 1) := by decide +kernel
theorem d_37_86 : decode (zm_code 37) 86 = .ok (.iload_n 3, 1) := by decide +kernel
theorem d_37_87 : decode (zm_code 37) 87 = .ok (.iadd, 1) := by decide +kernel
theorem d_37_88 : decode (zm_code 37) 88 = .ok (.iastore, 1) := by decide +kernel
theorem d_37_89 : decode (zm_code 37) 89 = .ok (.aload_n 0, 1) := by decide +kernel
theorem d_37_90 : decode (zm_code 37) 90 = .ok (.getfield 38, 3) := by decide +kernel
theorem d_37_93 : decode (zm_code 37) 93 = .ok (.getfield 206, 3) := by decide +kernel
theorem d_37_96 : decode (zm_code 37) 96 = .ok (.iload 4, 2) := by decide +kernel
theorem d_37_98 : decode (zm_code 37) 98 = .ok (.iaload, 1) := by decide +kernel
theorem d_37_99 : decode (zm_code 37) 99 = .ok (.ireturn, 1) := by decide +kernel
theorem d_38_0 : decode (zm_code 38) 0 = .ok (.aload_n 0, 1) := by decide +kernel
theorem d_38_1 : decode (zm_code 38) 1 = .ok (.iload_n 1, 1) := by decide +kernel
theorem d_38_2 : decode (zm_code 38) 2 = .ok (.iload_n 2, 1) := by decide +kernel
theorem d_38_3 : decode (zm_code 38) 3 = .ok (.invokevirtual 283, 3) := by decide +kernel
theorem d_38_6 : decode (zm_code 38) 6 = .ok (.ifCond .eq 13, 3) := by decide +kernel
theorem d_38_9 : decode (zm_code 38) 9 = .ok (.aload_n 0, 1) := by decide +kernel
theorem d_38_10 : decode (zm_code 38) 10 = .ok (.getfield 19, 3) := by decide +kernel
theorem d_38_13 : decode (zm_code 38) 13 = .ok (.getfield 146, 3) := by decide +kernel
theorem d_38_16 : decode (zm_code 38) 16 = .ok (.ifCond .ne 9, 3) := by decide +kernel
theorem d_38_19 : decode (zm_code 38) 19 = .ok (.aload_n 0, 1) := by decide +kernel
theorem d_38_20 : decode (zm_code 38) 20 = .ok (.iconst 3, 1) := by decide +kernel
theorem d_38_21 : decode (zm_code 38) 21 = .ok (.invokevirtual 119, 3) := by decide +kernel
theorem d_38_24 : decode (zm_code 38) 24 = .ok (.ireturn, 1) := by decide +kernel
theorem d_38_25 : decode (zm_code 38) 25 = .ok (.aload_n 0, 1) := by decide +kernel
theorem d_38_26 : decode (zm_code 38) 26 = .ok (.getfield 38, 3) := by decide +kernel
theorem d_38_29 : decode (zm_code 38) 29 = .ok (.getfield 206, 3) := by decide +kernel
theorem d_38_32 : decode (zm_code 38) 32 = .ok (.iload_n 2, 1) := by decide +kernel
theorem d_38_33 : decode (zm_code 38) 33 = .ok (.iaload, 1) := by decide +kernel
theorem d_38_34 : decode (zm_code 38) 34 = .ok (.bipush 99, 2) := by decide +kernel
theorem d_38_36 : decode (zm_code 38) 36 = .ok (.if_icmp .lt 9, 3) := by decide +kernel
theorem d_38_39 : decode (zm_code 38) 39 = .ok (.aload_n 0, 1) := by decide +kernel
theorem d_38_40 : decode (zm_code 38) 40 = .ok (.iconst 3, 1) := by decide +kernel
theorem d_38_41 : decode (zm_code 38) 41 = .ok (.invokevirtual 119, 3) := by decide +kernel
theorem d_38_44 : decode (zm_code 38) 44 = .ok (.ireturn, 1) := by decide +kernel
theorem d_38_45 : decode (zm_code 38) 45 = .ok (.aload_n 0, 1) := by decide +kernel
theorem d_38_46 : decode (zm_code 38) 46 = .ok (.getfield 51, 3) := by decide +kernel
theorem d_38_49 : decode (zm_code 38) 49 = .ok (.aload_n 0, 1) := by decide +kernel
theorem d_38_50 : decode (zm_code 38) 50 = .ok (.getfield 38, 3) := by decide +kernel
theorem d_38_53 : decode (zm_code 38) 53 = .ok (.invokevirtual 276, 3) := by decide +kernel
theorem d_38_56 : decode (zm_code 38) 56 = .ok (.aload_n 0, 1) := by decide +kernel
theorem d_38_57 : decode (zm_code 38) 57 = .ok (.getfield 38, 3) := by decide +kernel
theorem d_38_60 : decode (zm_code 38) 60 = .ok (.getfield 236, 3) := by decide +kernel
theorem d_38_63 : decode (zm_code 38) 63 = .ok (.iload_n 1, 1) := by decide +kernel
theorem d_38_64 : decode (zm_code 38) 64 = .ok (.bipush 8, 2) := by decide +kernel
theorem d_38_66 : decode (zm_code 38) 66 = .ok (.imul, 1) := by decide +kernel
theorem d_38_67 : decode (zm_code 38) 67 = .ok (.iload_n 2, 1) := by decide +kernel
theorem d_38_68 : decode (zm_code 38) 68 = .ok (.iadd, 1) := by decide +kernel
theorem d_38_69 : decode (zm_code 38) 69 = .ok (.dup2, 1) := by decide +kernel
theorem d_38_70 : decode (zm_code 38) 70 = .ok (.iaload, 1) := by decide +kernel
theorem d_38_71 : decode (zm_code 38) 71 = .ok (.iconst 1, 1) := by decide +kernel
theorem d_38_72 : decode (zm_code 38) 72 = .ok (.isub, 1) := by decide +kernel
theorem d_38_73 : decode (zm_code 38) 73 = .ok (.iastore, 1) := by decide +kernel
theorem d_38_74 : decode (zm_code 38) 74 = .ok (.aload_n 0, 1) := by decide +kernel
theorem d_38_75 : decode (zm_code 38) 75 = .ok (.getfield 38, 3) := by decide +kernel
theorem d_38_78 : decode (zm_code 38) 78 = .ok (.getfield 206, 3) := by decide +kernel
theorem d_38_81 : decode (zm_code 38) 81 = .ok (.iload_n 2, 1) := by decide +kernel
theorem d_38_82 : decode (zm_code 38) 82 = .ok (.dup2, 1) := by decide +kernel
theorem d_38_83 : decode (zm_code 38) 83 = .ok (.iaload, 1) := by decide +kernel
theorem d_38_84 : decode (zm_code 38) 84 = .ok (.iconst 1, 1) := by decide +kernel
theorem d_38_85 : decode (zm_code 38) 85 = .ok (.iadd, 1) := by decide +kernel
theorem d_38_86 : decode (zm_code 38) 86 = .ok (.iastore, 1) := by decide +kernel
theorem d_38_87 : decode (zm_code 38) 87 = .ok (.iconst 1, 1) := by decide +kernel
theorem d_38_88 : decode (zm_code 38) 88 = .ok (.ireturn, 1) := by decide +kernel
theorem d_39_0 : decode (zm_code 39) 0 = .ok (.aload_n 0, 1) := by decide +kernel
theorem d_39_1 : decode (zm_code 39) 1 = .ok (.iload_n 1, 1) := by decide +kernel
theorem d_39_2 : decode (zm_code 39) 2 = .ok (.invokevirtual 182, 3) := by decide +kernel
theorem d_39_5 : decode (zm_code 39) 5 = .ok (.ifCond .eq 32, 3) := by decide +kernel
theorem d_39_8 : decode (zm_code 39) 8 = .ok (.aload_n 0, 1) := by decide +kernel
theorem d_39_9 : decode (zm_code 39) 9 = .ok (.iload_n 2, 1) := by decide +kernel
theorem d_39_10 : decode (zm_code 39) 10 = .ok (.invokevirtual 176, 3) := by decide +kernel
theorem d_39_13 : decode (zm_code 39) 13 = .ok (.ifCond .eq 24, 3) := by decide +kernel
theorem d_39_16 : decode (zm_code 39) 16 = .ok (.aload_n 0, 1) := by decide +kernel
theorem d_39_17 : decode (zm_code 39) 17 = .ok (.getfield 38, 3) := by decide +kernel
theorem d_39_20 : decode (zm_code 39) 20 = .ok (.getfield 236, 3) := by decide +kernel
theorem d_39_23 : decode (zm_code 39) 23 = .ok (.iload_n 1, 1) := by decide +kernel
theorem d_39_24 : decode (zm_code 39) 24 = .ok (.bipush 8, 2) := by decide +kernel
theorem d_39_26 : decode (zm_code 39) 26 = .ok (.imul, 1) := by decide +kernel
theorem d_39_27 : decode (zm_code 39) 27 = .ok (.iload_n 2, 1) := by decide +kernel
theorem d_39_28 : decode (zm_code 39) 28 = .ok (.iadd, 1) := by decide +kernel
theorem d_39_29 : decode (zm_code 39) 29 = .ok (.iaload, 1) := by decide +kernel
theorem d_39_30 : decode (zm_code 39) 30 = .ok (.ifCond .le 7, 3) := by decide +kernel
theorem d_39_33 : decode (zm_code 39) 33 = .ok (.iconst 1, 1) := by decide +kernel
theorem d_39_34 : decode (zm_code 39) 34 = .ok (.goto 4, 3) := by decide +kernel
theorem d_39_37 : decode (zm_code 39) 37 = .ok (.iconst 0, 1) := by decide +kernel
theorem d_39_38 : decode (zm_code 39) 38 = .ok (.ireturn, 1) := by decide +kernel
theorem d_40_0 : decode (zm_code 40) 0 = .ok (.iload_n 1, 1) := by decide +kernel
theorem d_40_1 : decode (zm_code 40) 1 = .ok (.iload_n 3, 1) := by decide +kernel
theorem d_40_2 : decode (zm_code 40) 2 = .ok (.if_icmp .eq 22, 3) := by decide +kernel
theorem d_40_5 : decode (zm_code 40) 5 = .ok (.aload_n 0, 1) := by decide +kernel
theorem d_40_6 : decode (zm_code 40) 6 = .ok (.iload_n 1, 1) := by decide +kernel
theorem d_40_7 : decode (zm_code 40) 7 = .ok (.iload_n 2, 1) := by decide +kernel
theorem d_40_8 : decode (zm_code 40) 8 = .ok (.invokevirtual 283, 3) := by decide +kernel
theorem d_40_11 : decode (zm_code 40) 11 = .ok (.ifCond .eq 13, 3) := by decide +kernel
theorem d_40_14 : decode (zm_code 40) 14 = .ok (.aload_n 0, 1) := by decide +kernel
theorem d_40_15 : decode (zm_code 40) 15 = .ok (.iload_n 3, 1) := by decide +kernel
theorem d_40_16 : decode (zm_code 40) 16 = .ok (.iload 4, 2) := by decide +kernel
theorem d_40_18 : decode (zm_code 40) 18 = .ok (.invokevirtual 283, 3) := by decide +kernel
theorem d_40_21 : decode (zm_code 40) 21 = .ok (.ifCond .ne 9, 3) := by decide +kernel
theorem d_40_24 : decode (zm_code 40) 24 = .ok (.aload_n 0, 1) := by decide +kernel
theorem d_40_25 : decode (zm_code 40) 25 = .ok (.iconst 3, 1) := by decide +kernel
theorem d_40_26 : decode (zm_code 40) 26 = .ok (.invokevirtual 119, 3) := by decide +kernel
theorem d_40_29 : decode (zm_code 40) 29 = .ok (.ireturn, 1) := by decide +kernel
theorem d_40_30 : decode (zm_code 40) 30 = .ok (.aload_n 0, 1) := by decide +kernel
theorem d_40_31 : decode (zm_code 40) 31 = .ok (.getfield 51, 3) := by decide +kernel
theorem d_40_34 : decode (zm_code 40) 34 = .ok (.aload_n 0, 1) := by decide +kernel
theorem d_40_35 : decode (zm_code 40) 35 = .ok (.getfield 38, 3) := by decide +kernel
theorem d_40_38 : decode (zm_code 40) 38 = .ok (.invokevirtual 276, 3) := by decide +kernel
theorem d_40_41 : decode (zm_code 40) 41 = .ok (.aload_n 0, 1) := by decide +kernel
theorem d_40_42 : decode (zm_code 40) 42 = .ok (.getfield 38, 3) := by decide +kernel
theorem d_40_45 : decode (zm_code 40) 45 = .ok (.getfield 236, 3) := by decide +kernel
theorem d_40_48 : decode (zm_code 40) 48 = .ok (.iload_n 1, 1) := by decide +kernel
theorem d_40_49 : decode (zm_code 40) 49 = .ok (.bipush 8, 2) := by decide +kernel
theorem d_40_51 : decode (zm_code 40) 51 = .ok (.imul, 1) := by decide +kernel
theorem d_40_52 : decode (zm_code 40) 52 = .ok (.iload_n 2, 1) := by decide +kernel
theorem d_40_53 : decode (zm_code 40) 53 = .ok (.iadd, 1) := by decide +kernel
theorem d_40_54 : decode (zm_code 40) 54 = .ok (.dup2, 1) := by decide +kernel
theorem d_40_55 : decode (zm_code 40) 55 = .ok (.iaload, 1) := by decide +kernel
theorem d_40_56 : decode (zm_code 40) 56 = .ok (.iconst 1, 1) := by decide +kernel
theorem d_40_57 : decode (zm_code 40) 57 = .ok (.isub, 1) := by decide +kernel
theorem d_40_58 : decode (zm_code 40) 58 = .ok (.iastore, 1) := by decide +kernel
theorem d_40_59 : decode (zm_code 40) 59 = .ok (.aload_n 0, 1) := by decide +kernel
theorem d_40_60 : decode (zm_code 40) 60 = .ok (.getfield 38, 3) := by decide +kernel
theorem d_40_63 : decode (zm_code 40) 63 = .ok (.getfield 236, 3) := by decide +kernel
theorem d_40_66 : decode (zm_code 40) 66 = .ok (.iload_n 3, 1) := by decide +kernel
theorem d_40_67 : decode (zm_code 40) 67 = .ok (.bipush 8, 2) := by decide +kernel
theorem d_40_69 : decode (zm_code 40) 69 = .ok (.imul, 1) := by decide +kernel
theorem d_40_70 : decode (zm_code 40) 70 = .ok (.iload_n 2, 1) := by decide +kernel
theorem d_40_71 : decode (zm_code 40) 71 = .ok (.iadd, 1) := by decide +kernel
theorem d_40_72 : decode (zm_code 40) 72 = .ok (.dup2, 1) := by decide +kernel
theorem d_40_73 : decode (zm_code 40) 73 = .ok (.iaload, 1) := by decide +kernel
theorem d_40_74 : decode (zm_code 40) 74 = .ok (.iconst 1, 1) := by decide +kernel
theorem d_40_75 : decode (zm_code 40) 75 = .ok (.iadd, 1) := by decide +kernel
theorem d_40_76 : decode (zm_code 40) 76 = .ok (.iastore, 1) := by decide +kernel
theorem d_40_77 : decode (zm_code 40) 77 = .ok (.aload_n 0, 1) := by decide +kernel
theorem d_40_78 : decode (zm_code 40) 78 = .ok (.getfield 38, 3) := by decide +kernel
theorem d_40_81 : decode (zm_code 40) 81 = .ok (.getfield 236, 3) := by decide +kernel
theorem d_40_84 : decode (zm_code 40) 84 = .ok (.iload_n 3, 1) := by decide +kernel
theorem d_40_85 : decode (zm_code 40) 85 = .ok (.bipush 8, 2) := by decide +kernel
theorem d_40_87 : decode (zm_code 40) 87 = .ok (.imul, 1) := by decide +kernel
theorem d_40_88 : decode (zm_code 40) 88 = .ok (.iload 4, 2) := by decide +kernel
theorem d_40_90 : decode (zm_code 40) 90 = .ok (.iadd, 1) := by decide +kernel
theorem d_40_91 : decode (zm_code 40) 91 = .ok (.dup2, 1) := by decide +kernel
theorem d_40_92 : decode (zm_code 40) 92 = .ok (.iaload, 1) := by decide +kernel
theorem d_40_93 : decode (zm_code 40) 93 = .ok (.iconst 1, 1) := by decide +kernel
theorem d_40_94 : decode (zm_code 40) 94 = .ok (.isub, 1) := by decide +kernel
theorem d_40_95 : decode (zm_code 40) 95 = .ok (.iastore, 1) := by decide +kernel
theorem d_40_96 : decode (zm_code 40) 96 = .ok (.aload_n 0, 1) := by decide +kernel
theorem d_40_97 : decode (zm_code 40) 97 = .ok (.getfield 38, 3) := by decide +kernel
theorem d_40_100 : decode (zm_code 40) 100 = .ok (.getfield 236, 3) := by decide +kernel
theorem d_40_103 : decode (zm_code 40) 103 = .ok (.iload_n 1, 1) := by decide +kernel
theorem d_40_104 : decode (zm_code 40) 104 = .ok (.bipush 8, 2) := by decide +kernel
theorem d_40_106 : decode (zm_code 40) 106 = .ok (.imul, 1) := by decide +kernel
theorem d_40_107 : decode (zm_code 40) 107 = .ok (.iload 4, 2) := by decide +kernel
theorem d_40_109 : decode (zm_code 40) 109 = .ok (.iadd, 1) := by decide +kernel
theorem d_40_110 : decode (zm_code 40) 110 = .ok (.dup2, 1) := by decide +kernel
theorem d_40_111 : decode (zm_code 40) 111 = .ok (.iaload, 1) := by decide +kernel
theorem d_40_112 : decode (zm_code 40) 112 = .ok (.iconst 1, 1) := by decide +kernel
theorem d_40_113 : decode (zm_code 40) 113 = .ok (.iadd, 1) := by decide +kernel
theorem d_40_114 : decode (zm_code 40) 114 = .ok (.iastore, 1) := by decide +kernel
theorem d_40_115 : decode (zm_code 40) 115 = .ok (.iconst 1, 1) := by decide +kernel
theorem d_40_116 : decode (zm_code 40) 116 = .ok (.ireturn, 1) := by decide +kernel
theorem d_41_0 : decode (zm_code 41) 0 = .ok (.iload_n 1, 1) := by decide +kernel
theorem d_41_1 : decode (zm_code 41) 1 = .ok (.iconst 1, 1) := by decide +kernel
theorem d_41_2 : decode (zm_code 41) 2 = .ok (.if_icmp .lt 9, 3) := by decide +kernel
theorem d_41_5 : decode (zm_code 41) 5 = .ok (.iload_n 1, 1) := by decide +kernel
theorem d_41_6 : decode (zm_code 41) 6 = .ok (.bipush 20, 2) := by decide +kernel
theorem d_41_8 : decode (zm_code 41) 8 = .ok (.if_icmp .le 9, 3) := by decide +kernel
theorem d_41_11 : decode (zm_code 41) 11 = .ok (.aload_n 0, 1) := by decide +kernel
theorem d_41_12 : decode (zm_code 41) 12 = .ok (.iconst 3, 1) := by decide +kernel
theorem d_41_13 : decode (zm_code 41) 13 = .ok (.invokevirtual 111, 3) := by decide +kernel
theorem d_41_16 : decode (zm_code 41) 16 = .ok (.ireturn, 1) := by decide +kernel
theorem d_41_17 : decode (zm_code 41) 17 = .ok (.aload_n 0, 1) := by decide +kernel
theorem d_41_18 : decode (zm_code 41) 18 = .ok (.getfield 51, 3) := by decide +kernel
theorem d_41_21 : decode (zm_code 41) 21 = .ok (.aload_n 0, 1) := by decide +kernel
theorem d_41_22 : decode (zm_code 41) 22 = .ok (.getfield 38, 3) := by decide +kernel
theorem d_41_25 : decode (zm_code 41) 25 = .ok (.invokevirtual 276, 3) := by decide +kernel
theorem d_41_28 : decode (zm_code 41) 28 = .ok (.aload_n 0, 1) := by decide +kernel
theorem d_41_29 : decode (zm_code 41) 29 = .ok (.getfield 38, 3) := by decide +kernel
theorem d_41_32 : decode (zm_code 41) 32 = .ok (.getfield 159, 3) := by decide +kernel
theorem d_41_35 : decode (zm_code 41) 35 = .ok (.istore_n 2, 1) := by decide +kernel
theorem d_41_36 : decode (zm_code 41) 36 = .ok (.iconst 0, 1) := by decide +kernel
theorem d_41_37 : decode (zm_code 41) 37 = .ok (.istore_n 3, 1) := by decide +kernel
theorem d_41_38 : decode (zm_code 41) 38 = .ok (.iload_n 3, 1) := by decide +kernel
theorem d_41_39 : decode (zm_code 41) 39 = .ok (.iload_n 1, 1) := by decide +kernel
theorem d_41_40 : decode (zm_code 41) 40 = .ok (.if_icmp .ge 37, 3) := by decide +kernel
theorem d_41_43 : decode (zm_code 41) 43 = .ok (.aload_n 0, 1) := by decide +kernel
theorem d_41_44 : decode (zm_code 41) 44 = .ok (.getfield 38, 3) := by decide +kernel
theorem d_41_47 : decode (zm_code 41) 47 = .ok (.getfield 159, 3) := by decide +kernel
theorem d_41_50 : decode (zm_code 41) 50 = .ok (.istore 4, 2) := by decide +kernel
theorem d_41_52 : decode (zm_code 41) 52 = .ok (.aload_n 0, 1) := by decide +kernel
theorem d_41_53 : decode (zm_code 41) 53 = .ok (.invokevirtual 287, 3) := by decide +kernel
theorem d_41_56 : decode (zm_code 41) 56 = .ok (.aload_n 0, 1) := by decide +kernel
theorem d_41_57 : decode (zm_code 41) 57 = .ok (.getfield 38, 3) := by decide +kernel
theorem d_41_60 : decode (zm_code 41) 60 = .ok (.getfield 159, 3) := by decide +kernel
theorem d_41_63 : decode (zm_code 41) 63 = .ok (.iload 4, 2) := by decide +kernel
theorem d_41_65 : decode (zm_code 41) 65 = .ok (.if_icmp .ne 6, 3) := by decide +kernel
theorem d_41_68 : decode (zm_code 41) 68 = .ok (.goto 9, 3) := by decide +kernel
theorem d_41_71 : decode (zm_code 41) 71 = .ok (.iinc 3 1, 3) := by decide +kernel
theorem d_41_74 : decode (zm_code 41) 74 = .ok (.goto (-36), 3) := by decide +kernel
theorem d_41_77 : decode (zm_code 41) 77 = .ok (.aload_n 0, 1) := by decide +kernel
theorem d_41_78 : decode (zm_code 41) 78 = .ok (.getfield 38, 3) := by decide +kernel
theorem d_41_81 : decode (zm_code 41) 81 = .ok (.getfield 159, 3) := by decide +kernel
theorem d_41_84 : decode (zm_code 41) 84 = .ok (.iload_n 2, 1) := by decide +kernel
theorem d_41_85 : decode (zm_code 41) 85 = .ok (.isub, 1) := by decide +kernel
theorem d_41_86 : decode (zm_code 41) 86 = .ok (.ireturn, 1) := by decide +kernel
theorem d_42_0 : decode (zm_code 42) 0 = .ok (.iconst 0, 1) := by decide +kernel
theorem d_42_1 : decode (zm_code 42) 1 = .ok (.istore_n 1, 1) := by decide +kernel
theorem d_42_2 : decode (zm_code 42) 2 = .ok (.iload_n 1, 1) := by decide +kernel
theorem d_42_3 : decode (zm_code 42) 3 = .ok (.aload_n 0, 1) := by decide +kernel
theorem d_42_4 : decode (zm_code 42) 4 = .ok (.getfield 19, 3) := by decide +kernel
theorem d_42_7 : decode (zm_code 42) 7 = .ok (.getfield 149, 3) := by decide +kernel
theorem d_42_10 : decode (zm_code 42) 10 = .ok (.if_icmp .ge 35, 3) := by decide +kernel
theorem d_42_13 : decode (zm_code 42) 13 = .ok (.aload_n 0, 1) := by decide +kernel
theorem d_42_14 : decode (zm_code 42) 14 = .ok (.iload_n 1, 1) := by decide +kernel
theorem d_42_15 : decode (zm_code 42) 15 = .ok (.invokevirtual 273, 3) := by decide +kernel
theorem d_42_18 : decode (zm_code 42) 18 = .ok (.ifCond .eq 21, 3) := by decide +kernel
theorem d_42_21 : decode (zm_code 42) 21 = .ok (.aload_n 0, 1) := by decide +kernel
theorem d_42_22 : decode (zm_code 42) 22 = .ok (.invokevirtual 162, 3) := by decide +kernel
theorem d_42_25 : decode (zm_code 42) 25 = .ok (.aload_n 0, 1) := by decide +kernel
theorem d_42_26 : decode (zm_code 42) 26 = .ok (.iload_n 1, 1) := by decide +kernel
theorem d_42_27 : decode (zm_code 42) 27 = .ok (.invokevirtual 339, 3) := by decide +kernel
theorem d_42_30 : decode (zm_code 42) 30 = .ok (.if_icmp .gt 9, 3) := by decide +kernel
theorem d_42_33 : decode (zm_code 42) 33 = .ok (.aload_n 0, 1) := by decide +kernel
theorem d_42_34 : decode (zm_code 42) 34 = .ok (.iload_n 1, 1) := by decide +kernel
theorem d_42_35 : decode (zm_code 42) 35 = .ok (.invokevirtual 280, 3) := by decide +kernel
theorem d_42_38 : decode (zm_code 42) 38 = .ok (.pop, 1) := by decide +kernel
theorem d_42_39 : decode (zm_code 42) 39 = .ok (.iinc 1 1, 3) := by decide +kernel
theorem d_42_42 : decode (zm_code 42) 42 = .ok (.goto (-40), 3) := by decide +kernel
theorem d_42_45 : decode (zm_code 42) 45 = .ok (.aload_n 0, 1) := by decide +kernel
theorem d_42_46 : decode (zm_code 42) 46 = .ok (.getfield 38, 3) := by decide +kernel
theorem d_42_49 : decode (zm_code 42) 49 = .ok (.getfield 152, 3) := by decide +kernel
theorem d_42_52 : decode (zm_code 42) 52 = .ok (.bipush 99, 2) := by decide +kernel
theorem d_42_54 : decode (zm_code 42) 54 = .ok (.if_icmp .ge 16, 3) := by decide +kernel
theorem d_42_57 : decode (zm_code 42) 57 = .ok (.aload_n 0, 1) := by decide +kernel
theorem d_42_58 : decode (zm_code 42) 58 = .ok (.getfield 38, 3) := by decide +kernel
theorem d_42_61 : decode (zm_code 42) 61 = .ok (.dup, 1) := by decide +kernel
theorem d_42_62 : decode (zm_code 42) 62 = .ok (.getfield 152, 3) := by decide +kernel
theorem d_42_65 : decode (zm_code 42) 65 = .ok (.iconst 1, 1) := by decide +kernel
theorem d_42_66 : decode (zm_code 42) 66 = .ok (.iadd, 1) := by decide +kernel
theorem d_42_67 : decode (zm_code 42) 67 = .ok (.putfield 152, 3) := by decide +kernel
theorem d_42_70 : decode (zm_code 42) 70 = .ok (.return_, 1) := by decide +kernel
theorem d_43_0 : decode (zm_code 43) 0 = .ok (.aload_n 0, 1) := by decide +kernel
theorem d_43_1 : decode (zm_code 43) 1 = .ok (.getfield 51, 3) := by decide +kernel
theorem d_43_4 : decode (zm_code 43) 4 = .ok (.getfield 173, 3) := by decide +kernel
theorem d_43_7 : decode (zm_code 43) 7 = .ok (.ifCond .ne 9, 3) := by decide +kernel
theorem d_43_10 : decode (zm_code 43) 10 = .ok (.aload_n 0, 1) := by decide +kernel
theorem d_43_11 : decode (zm_code 43) 11 = .ok (.iconst 4, 1) := by decide +kernel
theorem d_43_12 : decode (zm_code 43) 12 = .ok (.invokevirtual 119, 3) := by decide +kernel
theorem d_43_15 : decode (zm_code 43) 15 = .ok (.ireturn, 1) := by decide +kernel
theorem d_43_16 : decode (zm_code 43) 16 = .ok (.aload_n 0, 1) := by decide +kernel
theorem d_43_17 : decode (zm_code 43) 17 = .ok (.getfield 51, 3) := by decide +kernel
theorem d_43_20 : decode (zm_code 43) 20 = .ok (.aload_n 0, 1) := by decide +kernel
theorem d_43_21 : decode (zm_code 43) 21 = .ok (.getfield 38, 3) := by decide +kernel
theorem d_43_24 : decode (zm_code 43) 24 = .ok (.invokevirtual 290, 3) := by decide +kernel
theorem d_43_27 : decode (zm_code 43) 27 = .ok (.iconst 1, 1) := by decide +kernel
theorem d_43_28 : decode (zm_code 43) 28 = .ok (.ireturn, 1) := by decide +kernel
theorem d_44_0 : decode (zm_code 44) 0 = .ok (.iload_n 1, 1) := by decide +kernel
theorem d_44_1 : decode (zm_code 44) 1 = .ok (.ifCond .ge 9, 3) := by decide +kernel
theorem d_44_4 : decode (zm_code 44) 4 = .ok (.aload_n 0, 1) := by decide +kernel
theorem d_44_5 : decode (zm_code 44) 5 = .ok (.iconst 5, 1) := by decide +kernel
theorem d_44_6 : decode (zm_code 44) 6 = .ok (.invokevirtual 119, 3) := by decide +kernel
theorem d_44_9 : decode (zm_code 44) 9 = .ok (.ireturn, 1) := by decide +kernel
theorem d_44_10 : decode (zm_code 44) 10 = .ok (.aload_n 0, 1) := by decide +kernel
theorem d_44_11 : decode (zm_code 44) 11 = .ok (.iload_n 1, 1) := by decide +kernel
theorem d_44_12 : decode (zm_code 44) 12 = .ok (.putfield 100, 3) := by decide +kernel
theorem d_44_15 : decode (zm_code 44) 15 = .ok (.iconst 1, 1) := by decide +kernel
theorem d_44_16 : decode (zm_code 44) 16 = .ok (.ireturn, 1) := by decide +kernel
theorem d_45_0 : decode (zm_code 45) 0 = .ok (.aload_n 0, 1) := by decide +kernel
theorem d_45_1 : decode (zm_code 45) 1 = .ok (.getfield 51, 3) := by decide +kernel
theorem d_45_4 : decode (zm_code 45) 4 = .ok (.iload_n 1, 1) := by decide +kernel
theorem d_45_5 : decode (zm_code 45) 5 = .ok (.iload_n 2, 1) := by decide +kernel
theorem d_45_6 : decode (zm_code 45) 6 = .ok (.invokevirtual 293, 3) := by decide +kernel
theorem d_45_9 : decode (zm_code 45) 9 = .ok (.ireturn, 1) := by decide +kernel
theorem d_46_0 : decode (zm_code 46) 0 = .ok (.aload_n 0, 1) := by decide +kernel
theorem d_46_1 : decode (zm_code 46) 1 = .ok (.getfield 10, 3) := by decide +kernel
theorem d_46_4 : decode (zm_code 46) 4 = .ok (.getfield 108, 3) := by decide +kernel
theorem d_46_7 : decode (zm_code 46) 7 = .ok (.istore_n 1, 1) := by decide +kernel
theorem d_46_8 : decode (zm_code 46) 8 = .ok (.aload_n 0, 1) := by decide +kernel
theorem d_46_9 : decode (zm_code 46) 9 = .ok (.getfield 10, 3) := by decide +kernel
theorem d_46_12 : decode (zm_code 46) 12 = .ok (.iconst 0, 1) := by decide +kernel
theorem d_46_13 : decode (zm_code 46) 13 = .ok (.putfield 108, 3) := by decide +kernel
theorem d_46_16 : decode (zm_code 46) 16 = .ok (.aload_n 0, 1) := by decide +kernel
theorem d_46_17 : decode (zm_code 46) 17 = .ok (.iload_n 1, 1) := by decide +kernel
theorem d_46_18 : decode (zm_code 46) 18 = .ok (.invokevirtual 296, 3) := by decide +kernel
theorem d_46_21 : decode (zm_code 46) 21 = .ok (.ifCond .ne 9, 3) := by decide +kernel
theorem d_46_24 : decode (zm_code 46) 24 = .ok (.aload_n 0, 1) := by decide +kernel
theorem d_46_25 : decode (zm_code 46) 25 = .ok (.iconst 5, 1) := by decide +kernel
theorem d_46_26 : decode (zm_code 46) 26 = .ok (.invokevirtual 111, 3) := by decide +kernel
theorem d_46_29 : decode (zm_code 46) 29 = .ok (.ireturn, 1) := by decide +kernel
theorem d_46_30 : decode (zm_code 46) 30 = .ok (.aload_n 0, 1) := by decide +kernel
theorem d_46_31 : decode (zm_code 46) 31 = .ok (.getfield 45, 3) := by decide +kernel
theorem d_46_34 : decode (zm_code 46) 34 = .ok (.aload_n 0, 1) := by decide +kernel
theorem d_46_35 : decode (zm_code 46) 35 = .ok (.getfield 38, 3) := by decide +kernel
theorem d_46_38 : decode (zm_code 46) 38 = .ok (.invokevirtual 299, 3) := by decide +kernel
theorem d_46_41 : decode (zm_code 46) 41 = .ok (.aload_n 0, 1) := by decide +kernel
theorem d_46_42 : decode (zm_code 46) 42 = .ok (.iconst 1, 1) := by decide +kernel
theorem d_46_43 : decode (zm_code 46) 43 = .ok (.putfield 130, 3) := by decide +kernel
theorem d_46_46 : decode (zm_code 46) 46 = .ok (.iload_n 1, 1) := by decide +kernel
theorem d_46_47 : decode (zm_code 46) 47 = .ok (.iconst 2, 1) := by decide +kernel
theorem d_46_48 : decode (zm_code 46) 48 = .ok (.idiv, 1) := by decide +kernel
theorem d_46_49 : decode (zm_code 46) 49 = .ok (.istore_n 2, 1) := by decide +kernel
theorem d_46_50 : decode (zm_code 46) 50 = .ok (.iconst 0, 1) := by decide +kernel
theorem d_46_51 : decode (zm_code 46) 51 = .ok (.istore_n 3, 1) := by decide +kernel
theorem d_46_52 : decode (zm_code 46) 52 = .ok (.iload_n 3, 1) := by decide +kernel
theorem d_46_53 : decode (zm_code 46) 53 = .ok (.iload_n 2, 1) := by decide +kernel
theorem d_46_54 : decode (zm_code 46) 54 = .ok (.if_icmp .ge 65, 3) := by decide +kernel
theorem d_46_57 : decode (zm_code 46) 57 = .ok (.aload_n 0, 1) := by decide +kernel
theorem d_46_58 : decode (zm_code 46) 58 = .ok (.aload_n 0, 1) := by decide +kernel
theorem d_46_59 : decode (zm_code 46) 59 = .ok (.getfield 45, 3) := by decide +kernel
theorem d_46_62 : decode (zm_code 46) 62 = .ok (.aload_n 0, 1) := by decide +kernel
theorem d_46_63 : decode (zm_code 46) 63 = .ok (.getfield 10, 3) := by decide +kernel
theorem d_46_66 : decode (zm_code 46) 66 = .ok (.getfield 302, 3) := by decide +kernel
theorem d_46_69 : decode (zm_code 46) 69 = .ok (.iconst 2, 1) := by decide +kernel
theorem d_46_70 : decode (zm_code 46) 70 = .ok (.iload_n 3, 1) := by decide +kernel
theorem d_46_71 : decode (zm_code 46) 71 = .ok (.imul, 1) := by decide +kernel
theorem d_46_72 : decode (zm_code 46) 72 = .ok (.iaload, 1) := by decide +kernel
theorem d_46_73 : decode (zm_code 46) 73 = .ok (.aload_n 0, 1) := by decide +kernel
theorem d_46_74 : decode (zm_code 46) 74 = .ok (.getfield 10, 3) := by decide +kernel
theorem d_46_77 : decode (zm_code 46) 77 = .ok (.getfield 302, 3) := by decide +kernel
theorem d_46_80 : decode (zm_code 46) 80 = .ok (.iconst 2, 1) := by decide +kernel
theorem d_46_81 : decode (zm_code 46) 81 = .ok (.iload_n 3, 1) := by decide +kernel
theorem d_46_82 : decode (zm_code 46) 82 = .ok (.imul, 1) := by decide +kernel
theorem d_46_83 : decode (zm_code 46) 83 = .ok (.iconst 1, 1) := by decide +kernel
theorem d_46_84 : decode (zm_code 46) 84 = .ok (.iadd, 1) := by decide +kernel
theorem d_46_85 : decode (zm_code 46) 85 = .ok (.iaload, 1) := by decide +kernel
theorem d_46_86 : decode (zm_code 46) 86 = .ok (.invokevirtual 305, 3) := by decide +kernel
theorem d_46_89 : decode (zm_code 46) 89 = .ok (.istore 4, 2) := by decide +kernel
theorem d_46_91 : decode (zm_code 46) 91 = .ok (.iload 4, 2) := by decide +kernel
theorem d_46_93 : decode (zm_code 46) 93 = .ok (.iconst (-1), 1) := by decide +kernel
theorem d_46_94 : decode (zm_code 46) 94 = .ok (.if_icmp .ne 5, 3) := by decide +kernel
theorem d_46_97 : decode (zm_code 46) 97 = .ok (.iload_n 3, 1) := by decide +kernel
theorem d_46_98 : decode (zm_code 46) 98 = .ok (.ireturn, 1) := by decide +kernel
theorem d_46_99 : decode (zm_code 46) 99 = .ok (.aload_n 0, 1) := by decide +kernel
theorem d_46_100 : decode (zm_code 46) 100 = .ok (.getfield 45, 3) := by decide +kernel
theorem d_46_103 : decode (zm_code 46) 103 = .ok (.getfield 206, 3) := by decide +kernel
theorem d_46_106 : decode (zm_code 46) 106 = .ok (.iload 4, 2) := by decide +kernel
theorem d_46_108 : decode (zm_code 46) 108 = .ok (.dup2, 1) := by decide +kernel
theorem d_46_109 : decode (zm_code 46) 109 = .ok (.iaload, 1) := by decide +kernel
theorem d_46_110 : decode (zm_code 46) 110 = .ok (.iconst 1, 1) := by decide +kernel
theorem d_46_111 : decode (zm_code 46) 111 = .ok (.isub, 1) := by decide +kernel
theorem d_46_112 : decode (zm_code 46) 112 = .ok (.iastore, 1) := by decide +kernel
theorem d_46_113 : decode (zm_code 46) 113 = .ok (.iinc 3 1, 3) := by decide +kernel
theorem d_46_116 : decode (zm_code 46) 116 = .ok (.goto (-64), 3) := by decide +kernel
theorem d_46_119 : decode (zm_code 46) 119 = .ok (.iload_n 2, 1) := by decide +kernel
theorem d_46_120 : decode (zm_code 46) 120 = .ok (.ireturn, 1) := by decide +kernel
theorem d_47_0 : decode (zm_code 47) 0 = .ok (.iload_n 1, 1) := by decide +kernel
theorem d_47_1 : decode (zm_code 47) 1 = .ok (.iconst 2, 1) := by decide +kernel
theorem d_47_2 : decode (zm_code 47) 2 = .ok (.if_icmp .lt 15, 3) := by decide +kernel
theorem d_47_5 : decode (zm_code 47) 5 = .ok (.iload_n 1, 1) := by decide +kernel
theorem d_47_6 : decode (zm_code 47) 6 = .ok (.bipush 40, 2) := by decide +kernel
theorem d_47_8 : decode (zm_code 47) 8 = .ok (.if_icmp .gt 9, 3) := by decide +kernel
theorem d_47_11 : decode (zm_code 47) 11 = .ok (.iload_n 1, 1) := by decide +kernel
theorem d_47_12 : decode (zm_code 47) 12 = .ok (.iconst 2, 1) := by decide +kernel
theorem d_47_13 : decode (zm_code 47) 13 = .ok (.irem, 1) := by decide +kernel
theorem d_47_14 : decode (zm_code 47) 14 = .ok (.ifCond .eq 5, 3) := by decide +kernel
theorem d_47_17 : decode (zm_code 47) 17 = .ok (.iconst 0, 1) := by decide +kernel
theorem d_47_18 : decode (zm_code 47) 18 = .ok (.ireturn, 1) := by decide +kernel
theorem d_47_19 : decode (zm_code 47) 19 = .ok (.iconst 0, 1) := by decide +kernel
theorem d_47_20 : decode (zm_code 47) 20 = .ok (.istore_n 2, 1) := by decide +kernel
theorem d_47_21 : decode (zm_code 47) 21 = .ok (.iload_n 2, 1) := by decide +kernel
theorem d_47_22 : decode (zm_code 47) 22 = .ok (.iload_n 1, 1) := by decide +kernel
theorem d_47_23 : decode (zm_code 47) 23 = .ok (.if_icmp .ge 45, 3) := by decide +kernel
theorem d_47_26 : decode (zm_code 47) 26 = .ok (.aload_n 0, 1) := by decide +kernel
theorem d_47_27 : decode (zm_code 47) 27 = .ok (.aload_n 0, 1) := by decide +kernel
theorem d_47_28 : decode (zm_code 47) 28 = .ok (.getfield 10, 3) := by decide +kernel
theorem d_47_31 : decode (zm_code 47) 31 = .ok (.getfield 302, 3) := by decide +kernel
theorem d_47_34 : decode (zm_code 47) 34 = .ok (.iload_n 2, 1) := by decide +kernel
theorem d_47_35 : decode (zm_code 47) 35 = .ok (.iaload, 1) := by decide +kernel
theorem d_47_36 : decode (zm_code 47) 36 = .ok (.invokevirtual 182, 3) := by decide +kernel
theorem d_47_39 : decode (zm_code 47) 39 = .ok (.ifCond .eq 21, 3) := by decide +kernel
theorem d_47_42 : decode (zm_code 47) 42 = .ok (.aload_n 0, 1) := by decide +kernel
theorem d_47_43 : decode (zm_code 47) 43 = .ok (.aload_n 0, 1) := by decide +kernel
theorem d_47_44 : decode (zm_code 47) 44 = .ok (.getfield 10, 3) := by decide +kernel
theorem d_47_47 : decode (zm_code 47) 47 = .ok (.getfield 302, 3) := by decide +kernel
theorem d_47_50 : decode (zm_code 47) 50 = .ok (.iload_n 2, 1) := by decide +kernel
theorem d_47_51 : decode (zm_code 47) 51 = .ok (.iconst 1, 1) := by decide +kernel
theorem d_47_52 : decode (zm_code 47) 52 = .ok (.iadd, 1) := by decide +kernel
theorem d_47_53 : decode (zm_code 47) 53 = .ok (.iaload, 1) := by decide +kernel
theorem d_47_54 : decode (zm_code 47) 54 = .ok (.invokevirtual 176, 3) := by decide +kernel
theorem d_47_57 : decode (zm_code 47) 57 = .ok (.ifCond .ne 5, 3) := by decide +kernel
theorem d_47_60 : decode (zm_code 47) 60 = .ok (.iconst 0, 1) := by decide +kernel
theorem d_47_61 : decode (zm_code 47) 61 = .ok (.ireturn, 1) := by decide +kernel
theorem d_47_62 : decode (zm_code 47) 62 = .ok (.iinc 2 2, 3) := by decide +kernel
theorem d_47_65 : decode (zm_code 47) 65 = .ok (.goto (-44), 3) := by decide +kernel
theorem d_47_68 : decode (zm_code 47) 68 = .ok (.iconst 1, 1) := by decide +kernel
theorem d_47_69 : decode (zm_code 47) 69 = .ok (.ireturn, 1) := by decide +kernel
theorem d_48_0 : decode (zm_code 48) 0 = .ok (.aload_n 0, 1) := by decide +kernel
theorem d_48_1 : decode (zm_code 48) 1 = .ok (.getfield 58, 3) := by decide +kernel
theorem d_48_4 : decode (zm_code 48) 4 = .ok (.aload_n 0, 1) := by decide +kernel
theorem d_48_5 : decode (zm_code 48) 5 = .ok (.getfield 19, 3) := by decide +kernel
theorem d_48_8 : decode (zm_code 48) 8 = .ok (.aload_n 1, 1) := by decide +kernel
theorem d_48_9 : decode (zm_code 48) 9 = .ok (.iload_n 2, 1) := by decide +kernel
theorem d_48_10 : decode (zm_code 48) 10 = .ok (.getstatic 330, 3) := by decide +kernel
theorem d_48_13 : decode (zm_code 48) 13 = .ok (.invokevirtual 333, 3) := by decide +kernel
theorem d_48_16 : decode (zm_code 48) 16 = .ok (.aload_n 0, 1) := by decide +kernel
theorem d_48_17 : decode (zm_code 48) 17 = .ok (.getfield 58, 3) := by decide +kernel
theorem d_48_20 : decode (zm_code 48) 20 = .ok (.getfield 404, 3) := by decide +kernel
theorem d_48_23 : decode (zm_code 48) 23 = .ok (.istore 4, 2) := by decide +kernel
theorem d_48_25 : decode (zm_code 48) 25 = .ok (.iload 4, 2) := by decide +kernel
theorem d_48_27 : decode (zm_code 48) 27 = .ok (.aload_n 0, 1) := by decide +kernel
theorem d_48_28 : decode (zm_code 48) 28 = .ok (.getfield 58, 3) := by decide +kernel
theorem d_48_31 : decode (zm_code 48) 31 = .ok (.getfield 407, 3) := by decide +kernel
theorem d_48_34 : decode (zm_code 48) 34 = .ok (.if_icmp .ge 32, 3) := by decide +kernel
theorem d_48_37 : decode (zm_code 48) 37 = .ok (.aload_n 1, 1) := by decide +kernel
theorem d_48_38 : decode (zm_code 48) 38 = .ok (.getfield 206, 3) := by decide +kernel
theorem d_48_41 : decode (zm_code 48) 41 = .ok (.iload 4, 2) := by decide +kernel
theorem d_48_43 : decode (zm_code 48) 43 = .ok (.bipush 8, 2) := by decide +kernel
theorem d_48_45 : decode (zm_code 48) 45 = .ok (.imul, 1) := by decide +kernel
theorem d_48_46 : decode (zm_code 48) 46 = .ok (.iload_n 3, 1) := by decide +kernel
theorem d_48_47 : decode (zm_code 48) 47 = .ok (.iadd, 1) := by decide +kernel
theorem d_48_48 : decode (zm_code 48) 48 = .ok (.iaload, 1) := by decide +kernel
theorem d_48_49 : decode (zm_code 48) 49 = .ok (.ifCond .le 11, 3) := by decide +kernel
theorem d_48_52 : decode (zm_code 48) 52 = .ok (.iload 4, 2) := by decide +kernel
theorem d_48_54 : decode (zm_code 48) 54 = .ok (.bipush 8, 2) := by decide +kernel
theorem d_48_56 : decode (zm_code 48) 56 = .ok (.imul, 1) := by decide +kernel
theorem d_48_57 : decode (zm_code 48) 57 = .ok (.iload_n 3, 1) := by decide +kernel
theorem d_48_58 : decode (zm_code 48) 58 = .ok (.iadd, 1) := by decide +kernel
theorem d_48_59 : decode (zm_code 48) 59 = .ok (.ireturn, 1) := by decide +kernel
theorem d_48_60 : decode (zm_code 48) 60 = .ok (.iinc 4 1, 3) := by decide +kernel
theorem d_48_63 : decode (zm_code 48) 63 = .ok (.goto (-38), 3) := by decide +kernel
theorem d_48_66 : decode (zm_code 48) 66 = .ok (.iconst (-1), 1) := by decide +kernel
theorem d_48_67 : decode (zm_code 48) 67 = .ok (.ireturn, 1) := by decide +kernel
theorem d_49_0 : decode (zm_code 49) 0 = .ok (.aload_n 0, 1) := by decide +kernel
theorem d_49_1 : decode (zm_code 49) 1 = .ok (.getfield 130, 3) := by decide +kernel
theorem d_49_4 : decode (zm_code 49) 4 = .ok (.ifCond .eq 19, 3) := by decide +kernel
theorem d_49_7 : decode (zm_code 49) 7 = .ok (.aload_n 0, 1) := by decide +kernel
theorem d_49_8 : decode (zm_code 49) 8 = .ok (.iload_n 1, 1) := by decide +kernel
theorem d_49_9 : decode (zm_code 49) 9 = .ok (.invokevirtual 200, 3) := by decide +kernel
theorem d_49_12 : decode (zm_code 49) 12 = .ok (.ifCond .eq 11, 3) := by decide +kernel
theorem d_49_15 : decode (zm_code 49) 15 = .ok (.aload_n 0, 1) := by decide +kernel
theorem d_49_16 : decode (zm_code 49) 16 = .ok (.iload_n 2, 1) := by decide +kernel
theorem d_49_17 : decode (zm_code 49) 17 = .ok (.invokevirtual 176, 3) := by decide +kernel
theorem d_49_20 : decode (zm_code 49) 20 = .ok (.ifCond .ne 5, 3) := by decide +kernel
theorem d_49_23 : decode (zm_code 49) 23 = .ok (.iconst (-1), 1) := by decide +kernel
theorem d_49_24 : decode (zm_code 49) 24 = .ok (.ireturn, 1) := by decide +kernel
theorem d_49_25 : decode (zm_code 49) 25 = .ok (.aload_n 0, 1) := by decide +kernel
theorem d_49_26 : decode (zm_code 49) 26 = .ok (.getfield 45, 3) := by decide +kernel
theorem d_49_29 : decode (zm_code 49) 29 = .ok (.getfield 206, 3) := by decide +kernel
theorem d_49_32 : decode (zm_code 49) 32 = .ok (.iload_n 1, 1) := by decide +kernel
theorem d_49_33 : decode (zm_code 49) 33 = .ok (.bipush 8, 2) := by decide +kernel
theorem d_49_35 : decode (zm_code 49) 35 = .ok (.imul, 1) := by decide +kernel
theorem d_49_36 : decode (zm_code 49) 36 = .ok (.iload_n 2, 1) := by decide +kernel
theorem d_49_37 : decode (zm_code 49) 37 = .ok (.iadd, 1) := by decide +kernel
theorem d_49_38 : decode (zm_code 49) 38 = .ok (.iaload, 1) := by decide +kernel
theorem d_49_39 : decode (zm_code 49) 39 = .ok (.ireturn, 1) := by decide +kernel
theorem d_50_0 : decode (zm_code 50) 0 = .ok (.aload_n 0, 1) := by decide +kernel
theorem d_50_1 : decode (zm_code 50) 1 = .ok (.iload_n 1, 1) := by decide +kernel
theorem d_50_2 : decode (zm_code 50) 2 = .ok (.invokevirtual 182, 3) := by decide +kernel
theorem d_50_5 : decode (zm_code 50) 5 = .ok (.ifCond .eq 14, 3) := by decide +kernel
theorem d_50_8 : decode (zm_code 50) 8 = .ok (.aload_n 0, 1) := by decide +kernel
theorem d_50_9 : decode (zm_code 50) 9 = .ok (.getfield 38, 3) := by decide +kernel
theorem d_50_12 : decode (zm_code 50) 12 = .ok (.iload_n 1, 1) := by decide +kernel
theorem d_50_13 : decode (zm_code 50) 13 = .ok (.invokevirtual 220, 3) := by decide +kernel
theorem d_50_16 : decode (zm_code 50) 16 = .ok (.ifCond .ne 5, 3) := by decide +kernel
theorem d_50_19 : decode (zm_code 50) 19 = .ok (.iconst (-1), 1) := by decide +kernel
theorem d_50_20 : decode (zm_code 50) 20 = .ok (.ireturn, 1) := by decide +kernel
theorem d_50_21 : decode (zm_code 50) 21 = .ok (.aload_n 0, 1) := by decide +kernel
theorem d_50_22 : decode (zm_code 50) 22 = .ok (.getfield 72, 3) := by decide +kernel
theorem d_50_25 : decode (zm_code 50) 25 = .ok (.aload_n 0, 1) := by decide +kernel
theorem d_50_26 : decode (zm_code 50) 26 = .ok (.getfield 19, 3) := by decide +kernel
theorem d_50_29 : decode (zm_code 50) 29 = .ok (.aload_n 0, 1) := by decide +kernel
theorem d_50_30 : decode (zm_code 50) 30 = .ok (.getfield 38, 3) := by decide +kernel
theorem d_50_33 : decode (zm_code 50) 33 = .ok (.invokevirtual 309, 3) := by decide +kernel
theorem d_50_36 : decode (zm_code 50) 36 = .ok (.iload_n 2, 1) := by decide +kernel
theorem d_50_37 : decode (zm_code 50) 37 = .ok (.tableswitch 57 0 2 #[27, 37, 47], 27) := by decide +kernel
theorem d_50_64 : decode (zm_code 50) 64 = .ok (.aload_n 0, 1) := by decide +kernel
theorem d_50_65 : decode (zm_code 50) 65 = .ok (.getfield 72, 3) := by decide +kernel
theorem d_50_68 : decode (zm_code 50) 68 = .ok (.getfield 313, 3) := by decide +kernel
theorem d_50_71 : decode (zm_code 50) 71 = .ok (.iload_n 1, 1) := by decide +kernel
theorem d_50_72 : decode (zm_code 50) 72 = .ok (.iaload, 1) := by decide +kernel
theorem d_50_73 : decode (zm_code 50) 73 = .ok (.ireturn, 1) := by decide +kernel
theorem d_50_74 : decode (zm_code 50) 74 = .ok (.aload_n 0, 1) := by decide +kernel
theorem d_50_75 : decode (zm_code 50) 75 = .ok (.getfield 72, 3) := by decide +kernel
theorem d_50_78 : decode (zm_code 50) 78 = .ok (.getfield 316, 3) := by decide +kernel
theorem d_50_81 : decode (zm_code 50) 81 = .ok (.iload_n 1, 1) := by decide +kernel
theorem d_50_82 : decode (zm_code 50) 82 = .ok (.iaload, 1) := by decide +kernel
theorem d_50_83 : decode (zm_code 50) 83 = .ok (.ireturn, 1) := by decide +kernel
theorem d_50_84 : decode (zm_code 50) 84 = .ok (.aload_n 0, 1) := by decide +kernel
theorem d_50_85 : decode (zm_code 50) 85 = .ok (.getfield 72, 3) := by decide +kernel
theorem d_50_88 : decode (zm_code 50) 88 = .ok (.getfield 319, 3) := by decide +kernel
theorem d_50_91 : decode (zm_code 50) 91 = .ok (.iload_n 1, 1) := by decide +kernel
theorem d_50_92 : decode (zm_code 50) 92 = .ok (.iaload, 1) := by decide +kernel
theorem d_50_93 : decode (zm_code 50) 93 = .ok (.ireturn, 1) := by decide +kernel
theorem d_50_94 : decode (zm_code 50) 94 = .ok (.iconst (-1), 1) := by decide +kernel
theorem d_50_95 : decode (zm_code 50) 95 = .ok (.ireturn, 1) := by decide +kernel
theorem d_51_0 : decode (zm_code 51) 0 = .ok (.aload_n 0, 1) := by decide +kernel
theorem d_51_1 : decode (zm_code 51) 1 = .ok (.getfield 79, 3) := by decide +kernel
theorem d_51_4 : decode (zm_code 51) 4 = .ok (.aload_n 0, 1) := by decide +kernel
theorem d_51_5 : decode (zm_code 51) 5 = .ok (.getfield 19, 3) := by decide +kernel
theorem d_51_8 : decode (zm_code 51) 8 = .ok (.aload_n 0, 1) := by decide +kernel
theorem d_51_9 : decode (zm_code 51) 9 = .ok (.getfield 38, 3) := by decide +kernel
theorem d_51_12 : decode (zm_code 51) 12 = .ok (.invokevirtual 322, 3) := by decide +kernel
theorem d_51_15 : decode (zm_code 51) 15 = .ok (.aload_n 0, 1) := by decide +kernel
theorem d_51_16 : decode (zm_code 51) 16 = .ok (.getfield 79, 3) := by decide +kernel
theorem d_51_19 : decode (zm_code 51) 19 = .ok (.getfield 325, 3) := by decide +kernel
theorem d_51_22 : decode (zm_code 51) 22 = .ok (.ireturn, 1) := by decide +kernel
theorem d_52_0 : decode (zm_code 52) 0 = .ok (.iload_n 1, 1) := by decide +kernel
theorem d_52_1 : decode (zm_code 52) 1 = .ok (.ifCond .lt 26, 3) := by decide +kernel
theorem d_52_4 : decode (zm_code 52) 4 = .ok (.iload_n 1, 1) := by decide +kernel
theorem d_52_5 : decode (zm_code 52) 5 = .ok (.aload_n 0, 1) := by decide +kernel
theorem d_52_6 : decode (zm_code 52) 6 = .ok (.getfield 79, 3) := by decide +kernel
theorem d_52_9 : decode (zm_code 52) 9 = .ok (.getfield 325, 3) := by decide +kernel
theorem d_52_12 : decode (zm_code 52) 12 = .ok (.if_icmp .ge 15, 3) := by decide +kernel
theorem d_52_15 : decode (zm_code 52) 15 = .ok (.aload_n 0, 1) := by decide +kernel
theorem d_52_16 : decode (zm_code 52) 16 = .ok (.getfield 79, 3) := by decide +kernel
theorem d_52_19 : decode (zm_code 52) 19 = .ok (.getfield 326, 3) := by decide +kernel
theorem d_52_22 : decode (zm_code 52) 22 = .ok (.iload_n 1, 1) := by decide +kernel
theorem d_52_23 : decode (zm_code 52) 23 = .ok (.iaload, 1) := by decide +kernel
theorem d_52_24 : decode (zm_code 52) 24 = .ok (.goto 4, 3) := by decide +kernel
theorem d_52_27 : decode (zm_code 52) 27 = .ok (.iconst (-1), 1) := by decide +kernel
theorem d_52_28 : decode (zm_code 52) 28 = .ok (.ireturn, 1) := by decide +kernel
theorem d_53_0 : decode (zm_code 53) 0 = .ok (.aload_n 0, 1) := by decide +kernel
theorem d_53_1 : decode (zm_code 53) 1 = .ok (.getfield 10, 3) := by decide +kernel
theorem d_53_4 : decode (zm_code 53) 4 = .ok (.aload_n 0, 1) := by decide +kernel
theorem d_53_5 : decode (zm_code 53) 5 = .ok (.getfield 19, 3) := by decide +kernel
theorem d_53_8 : decode (zm_code 53) 8 = .ok (.aload_n 0, 1) := by decide +kernel
theorem d_53_9 : decode (zm_code 53) 9 = .ok (.getfield 42, 3) := by decide +kernel
theorem d_53_12 : decode (zm_code 53) 12 = .ok (.invokestatic 327, 3) := by decide +kernel
theorem d_53_15 : decode (zm_code 53) 15 = .ok (.istore_n 1, 1) := by decide +kernel
theorem d_53_16 : decode (zm_code 53) 16 = .ok (.aload_n 0, 1) := by decide +kernel
theorem d_53_17 : decode (zm_code 53) 17 = .ok (.getfield 10, 3) := by decide +kernel
theorem d_53_20 : decode (zm_code 53) 20 = .ok (.iconst 0, 1) := by decide +kernel
theorem d_53_21 : decode (zm_code 53) 21 = .ok (.putfield 108, 3) := by decide +kernel
theorem d_53_24 : decode (zm_code 53) 24 = .ok (.iload_n 1, 1) := by decide +kernel
theorem d_53_25 : decode (zm_code 53) 25 = .ok (.ifCond .ne 9, 3) := by decide +kernel
theorem d_53_28 : decode (zm_code 53) 28 = .ok (.aload_n 0, 1) := by decide +kernel
theorem d_53_29 : decode (zm_code 53) 29 = .ok (.iconst 5, 1) := by decide +kernel
theorem d_53_30 : decode (zm_code 53) 30 = .ok (.invokevirtual 119, 3) := by decide +kernel
theorem d_53_33 : decode (zm_code 53) 33 = .ok (.ireturn, 1) := by decide +kernel
theorem d_53_34 : decode (zm_code 53) 34 = .ok (.aload_n 0, 1) := by decide +kernel
theorem d_53_35 : decode (zm_code 53) 35 = .ok (.getfield 38, 3) := by decide +kernel
theorem d_53_38 : decode (zm_code 53) 38 = .ok (.aload_n 0, 1) := by decide +kernel
theorem d_53_39 : decode (zm_code 53) 39 = .ok (.getfield 42, 3) := by decide +kernel
theorem d_53_42 : decode (zm_code 53) 42 = .ok (.invokevirtual 299, 3) := by decide +kernel
theorem d_53_45 : decode (zm_code 53) 45 = .ok (.aload_n 0, 1) := by decide +kernel
theorem d_53_46 : decode (zm_code 53) 46 = .ok (.getfield 51, 3) := by decide +kernel
theorem d_53_49 : decode (zm_code 53) 49 = .ok (.invokevirtual 127, 3) := by decide +kernel
theorem d_53_52 : decode (zm_code 53) 52 = .ok (.iconst 1, 1) := by decide +kernel
theorem d_53_53 : decode (zm_code 53) 53 = .ok (.ireturn, 1) := by decide +kernel
theorem d_54_0 : decode (zm_code 54) 0 = .ok (.iload_n 1, 1) := by decide +kernel
theorem d_54_1 : decode (zm_code 54) 1 = .ok (.ifCond .lt 17, 3) := by decide +kernel
theorem d_54_4 : decode (zm_code 54) 4 = .ok (.iload_n 1, 1) := by decide +kernel
theorem d_54_5 : decode (zm_code 54) 5 = .ok (.iconst 5, 1) := by decide +kernel
theorem d_54_6 : decode (zm_code 54) 6 = .ok (.if_icmp .gt 12, 3) := by decide +kernel
theorem d_54_9 : decode (zm_code 54) 9 = .ok (.aload_n 0, 1) := by decide +kernel
theorem d_54_10 : decode (zm_code 54) 10 = .ok (.getfield 97, 3) := by decide +kernel
theorem d_54_13 : decode (zm_code 54) 13 = .ok (.iload_n 1, 1) := by decide +kernel
theorem d_54_14 : decode (zm_code 54) 14 = .ok (.iaload, 1) := by decide +kernel
theorem d_54_15 : decode (zm_code 54) 15 = .ok (.goto 4, 3) := by decide +kernel
theorem d_54_18 : decode (zm_code 54) 18 = .ok (.iconst (-1), 1) := by decide +kernel
theorem d_54_19 : decode (zm_code 54) 19 = .ok (.ireturn, 1) := by decide +kernel
theorem d_56_0 : decode (zm_code 56) 0 = .ok (.aload_n 0, 1) := by decide +kernel
theorem d_56_1 : decode (zm_code 56) 1 = .ok (.iconst (-1), 1) := by decide +kernel
theorem d_56_2 : decode (zm_code 56) 2 = .ok (.putfield 18, 3) := by decide +kernel
theorem d_56_5 : decode (zm_code 56) 5 = .ok (.iconst 0, 1) := by decide +kernel
theorem d_56_6 : decode (zm_code 56) 6 = .ok (.istore 5, 2) := by decide +kernel
theorem d_56_8 : decode (zm_code 56) 8 = .ok (.iload 5, 2) := by decide +kernel
theorem d_56_10 : decode (zm_code 56) 10 = .ok (.iconst 5, 1) := by decide +kernel
theorem d_56_11 : decode (zm_code 56) 11 = .ok (.if_icmp .ge 18, 3) := by decide +kernel
theorem d_56_14 : decode (zm_code 56) 14 = .ok (.aload_n 0, 1) := by decide +kernel
theorem d_56_15 : decode (zm_code 56) 15 = .ok (.getfield 9, 3) := by decide +kernel
theorem d_56_18 : decode (zm_code 56) 18 = .ok (.iload 5, 2) := by decide +kernel
theorem d_56_20 : decode (zm_code 56) 20 = .ok (.iload 5, 2) := by decide +kernel
theorem d_56_22 : decode (zm_code 56) 22 = .ok (.iastore, 1) := by decide +kernel
theorem d_56_23 : decode (zm_code 56) 23 = .ok (.iinc 5 1, 3) := by decide +kernel
theorem d_56_26 : decode (zm_code 56) 26 = .ok (.goto (-18), 3) := by decide +kernel
theorem d_56_29 : decode (zm_code 56) 29 = .ok (.iconst 0, 1) := by decide +kernel
theorem d_56_30 : decode (zm_code 56) 30 = .ok (.istore 5, 2) := by decide +kernel
theorem d_56_32 : decode (zm_code 56) 32 = .ok (.iload 5, 2) := by decide +kernel
theorem d_56_34 : decode (zm_code 56) 34 = .ok (.bipush 120, 2) := by decide +kernel
theorem d_56_36 : decode (zm_code 56) 36 = .ok (.if_icmp .ge 90, 3) := by decide +kernel
theorem d_56_39 : decode (zm_code 56) 39 = .ok (.aload_n 3, 1) := by decide +kernel
theorem d_56_40 : decode (zm_code 56) 40 = .ok (.aload_n 1, 1) := by decide +kernel
theorem d_56_41 : decode (zm_code 56) 41 = .ok (.aload_n 2, 1) := by decide +kernel
theorem d_56_42 : decode (zm_code 56) 42 = .ok (.iload 4, 2) := by decide +kernel
theorem d_56_44 : decode (zm_code 56) 44 = .ok (.aload_n 0, 1) := by decide +kernel
theorem d_56_45 : decode (zm_code 56) 45 = .ok (.getfield 9, 3) := by decide +kernel
theorem d_56_48 : decode (zm_code 56) 48 = .ok (.invokevirtual 22, 3) := by decide +kernel
theorem d_56_51 : decode (zm_code 56) 51 = .ok (.aload_n 3, 1) := by decide +kernel
theorem d_56_52 : decode (zm_code 56) 52 = .ok (.invokevirtual 28, 3) := by decide +kernel
theorem d_56_55 : decode (zm_code 56) 55 = .ok (.aload_n 3, 1) := by decide +kernel
theorem d_56_56 : decode (zm_code 56) 56 = .ok (.invokevirtual 32, 3) := by decide +kernel
theorem d_56_59 : decode (zm_code 56) 59 = .ok (.invokestatic 35, 3) := by decide +kernel
theorem d_56_62 : decode (zm_code 56) 62 = .ok (.istore 6, 2) := by decide +kernel
theorem d_56_64 : decode (zm_code 56) 64 = .ok (.iload 6, 2) := by decide +kernel
theorem d_56_66 : decode (zm_code 56) 66 = .ok (.aload_n 0, 1) := by decide +kernel
theorem d_56_67 : decode (zm_code 56) 67 = .ok (.getfield 18, 3) := by decide +kernel
theorem d_56_70 : decode (zm_code 56) 70 = .ok (.if_icmp .le 38, 3) := by decide +kernel
theorem d_56_73 : decode (zm_code 56) 73 = .ok (.aload_n 0, 1) := by decide +kernel
theorem d_56_74 : decode (zm_code 56) 74 = .ok (.iload 6, 2) := by decide +kernel
theorem d_56_76 : decode (zm_code 56) 76 = .ok (.putfield 18, 3) := by decide +kernel
theorem d_56_79 : decode (zm_code 56) 79 = .ok (.iconst 0, 1) := by decide +kernel
theorem d_56_80 : decode (zm_code 56) 80 = .ok (.istore 7, 2) := by decide +kernel
theorem d_56_82 : decode (zm_code 56) 82 = .ok (.iload 7, 2) := by decide +kernel
theorem d_56_84 : decode (zm_code 56) 84 = .ok (.iconst 5, 1) := by decide +kernel
theorem d_56_85 : decode (zm_code 56) 85 = .ok (.if_icmp .ge 23, 3) := by decide +kernel
theorem d_56_88 : decode (zm_code 56) 88 = .ok (.aload_n 0, 1) := by decide +kernel
theorem d_56_89 : decode (zm_code 56) 89 = .ok (.getfield 15, 3) := by decide +kernel
theorem d_56_92 : decode (zm_code 56) 92 = .ok (.iload 7, 2) := by decide +kernel
theorem d_56_94 : decode (zm_code 56) 94 = .ok (.aload_n 0, 1) := by decide +kernel
theorem d_56_95 : decode (zm_code 56) 95 = .ok (.getfield 9, 3) := by decide +kernel
theorem d_56_98 : decode (zm_code 56) 98 = .ok (.iload 7, 2) := by decide +kernel
theorem d_56_100 : decode (zm_code 56) 100 = .ok (.iaload, 1) := by decide +kernel
theorem d_56_101 : decode (zm_code 56) 101 = .ok (.iastore, 1) := by decide +kernel
theorem d_56_102 : decode (zm_code 56) 102 = .ok (.iinc 7 1, 3) := by decide +kernel
theorem d_56_105 : decode (zm_code 56) 105 = .ok (.goto (-23), 3) := by decide +kernel
theorem d_56_108 : decode (zm_code 56) 108 = .ok (.aload_n 0, 1) := by decide +kernel
theorem d_56_109 : decode (zm_code 56) 109 = .ok (.aload_n 1, 1) := by decide +kernel
theorem d_56_110 : decode (zm_code 56) 110 = .ok (.getfield 39, 3) := by decide +kernel
theorem d_56_113 : decode (zm_code 56) 113 = .ok (.invokevirtual 44, 3) := by decide +kernel
theorem d_56_116 : decode (zm_code 56) 116 = .ok (.ifCond .ne 4, 3) := by decide +kernel
theorem d_56_119 : decode (zm_code 56) 119 = .ok (.return_, 1) := by decide +kernel
theorem d_56_120 : decode (zm_code 56) 120 = .ok (.iinc 5 1, 3) := by decide +kernel
theorem d_56_123 : decode (zm_code 56) 123 = .ok (.goto (-91), 3) := by decide +kernel
theorem d_56_126 : decode (zm_code 56) 126 = .ok (.return_, 1) := by decide +kernel
theorem d_57_0 : decode (zm_code 57) 0 = .ok (.iconst (-1), 1) := by decide +kernel
theorem d_57_1 : decode (zm_code 57) 1 = .ok (.istore_n 2, 1) := by decide +kernel
theorem d_57_2 : decode (zm_code 57) 2 = .ok (.iconst 0, 1) := by decide +kernel
theorem d_57_3 : decode (zm_code 57) 3 = .ok (.istore_n 3, 1) := by decide +kernel
theorem d_57_4 : decode (zm_code 57) 4 = .ok (.iload_n 3, 1) := by decide +kernel
theorem d_57_5 : decode (zm_code 57) 5 = .ok (.iconst 1, 1) := by decide +kernel
theorem d_57_6 : decode (zm_code 57) 6 = .ok (.iadd, 1) := by decide +kernel
theorem d_57_7 : decode (zm_code 57) 7 = .ok (.iload_n 1, 1) := by decide +kernel
theorem d_57_8 : decode (zm_code 57) 8 = .ok (.if_icmp .ge 28, 3) := by decide +kernel
theorem d_57_11 : decode (zm_code 57) 11 = .ok (.aload_n 0, 1) := by decide +kernel
theorem d_57_12 : decode (zm_code 57) 12 = .ok (.getfield 9, 3) := by decide +kernel
theorem d_57_15 : decode (zm_code 57) 15 = .ok (.iload_n 3, 1) := by decide +kernel
theorem d_57_16 : decode (zm_code 57) 16 = .ok (.iaload, 1) := by decide +kernel
theorem d_57_17 : decode (zm_code 57) 17 = .ok (.aload_n 0, 1) := by decide +kernel
theorem d_57_18 : decode (zm_code 57) 18 = .ok (.getfield 9, 3) := by decide +kernel
theorem d_57_21 : decode (zm_code 57) 21 = .ok (.iload_n 3, 1) := by decide +kernel
theorem d_57_22 : decode (zm_code 57) 22 = .ok (.iconst 1, 1) := by decide +kernel
theorem d_57_23 : decode (zm_code 57) 23 = .ok (.iadd, 1) := by decide +kernel
theorem d_57_24 : decode (zm_code 57) 24 = .ok (.iaload, 1) := by decide +kernel
theorem d_57_25 : decode (zm_code 57) 25 = .ok (.if_icmp .ge 5, 3) := by decide +kernel
theorem d_57_28 : decode (zm_code 57) 28 = .ok (.iload_n 3, 1) := by decide +kernel
theorem d_57_29 : decode (zm_code 57) 29 = .ok (.istore_n 2, 1) := by decide +kernel
theorem d_57_30 : decode (zm_code 57) 30 = .ok (.iinc 3 1, 3) := by decide +kernel
theorem d_57_33 : decode (zm_code 57) 33 = .ok (.goto (-29), 3) := by decide +kernel
theorem d_57_36 : decode (zm_code 57) 36 = .ok (.iload_n 2, 1) := by decide +kernel
theorem d_57_37 : decode (zm_code 57) 37 = .ok (.iconst (-1), 1) := by decide +kernel
theorem d_57_38 : decode (zm_code 57) 38 = .ok (.if_icmp .ne 5, 3) := by decide +kernel
theorem d_57_41 : decode (zm_code 57) 41 = .ok (.iconst 0, 1) := by decide +kernel
theorem d_57_42 : decode (zm_code 57) 42 = .ok (.ireturn, 1) := by decide +kernel
theorem d_57_43 : decode (zm_code 57) 43 = .ok (.iload_n 2, 1) := by decide +kernel
theorem d_57_44 : decode (zm_code 57) 44 = .ok (.iconst 1, 1) := by decide +kernel
theorem d_57_45 : decode (zm_code 57) 45 = .ok (.iadd, 1) := by decide +kernel
theorem d_57_46 : decode (zm_code 57) 46 = .ok (.istore_n 3, 1) := by decide +kernel
theorem d_57_47 : decode (zm_code 57) 47 = .ok (.iload_n 2, 1) := by decide +kernel
theorem d_57_48 : decode (zm_code 57) 48 = .ok (.iconst 1, 1) := by decide +kernel
theorem d_57_49 : decode (zm_code 57) 49 = .ok (.iadd, 1) := by decide +kernel
theorem d_57_50 : decode (zm_code 57) 50 = .ok (.istore 4, 2) := by decide +kernel
theorem d_57_52 : decode (zm_code 57) 52 = .ok (.iload 4, 2) := by decide +kernel
theorem d_57_54 : decode (zm_code 57) 54 = .ok (.iload_n 1, 1) := by decide +kernel
theorem d_57_55 : decode (zm_code 57) 55 = .ok (.if_icmp .ge 28, 3) := by decide +kernel
theorem d_57_58 : decode (zm_code 57) 58 = .ok (.aload_n 0, 1) := by decide +kernel
theorem d_57_59 : decode (zm_code 57) 59 = .ok (.getfield 9, 3) := by decide +kernel
theorem d_57_62 : decode (zm_code 57) 62 = .ok (.iload 4, 2) := by decide +kernel
theorem d_57_64 : decode (zm_code 57) 64 = .ok (.iaload, 1) := by decide +kernel
theorem d_57_65 : decode (zm_code 57) 65 = .ok (.aload_n 0, 1) := by decide +kernel
theorem d_57_66 : decode (zm_code 57) 66 = .ok (.getfield 9, 3) := by decide +kernel
theorem d_57_69 : decode (zm_code 57) 69 = .ok (.iload_n 2, 1) := by decide +kernel
theorem d_57_70 : decode (zm_code 57) 70 = .ok (.iaload, 1) := by decide +kernel
theorem d_57_71 : decode (zm_code 57) 71 = .ok (.if_icmp .le 6, 3) := by decide +kernel
theorem d_57_74 : decode (zm_code 57) 74 = .ok (.iload 4, 2) := by decide +kernel
theorem d_57_76 : decode (zm_code 57) 76 = .ok (.istore_n 3, 1) := by decide +kernel
theorem d_57_77 : decode (zm_code 57) 77 = .ok (.iinc 4 1, 3) := by decide +kernel
theorem d_57_80 : decode (zm_code 57) 80 = .ok (.goto (-28), 3) := by decide +kernel
theorem d_57_83 : decode (zm_code 57) 83 = .ok (.aload_n 0, 1) := by decide +kernel
theorem d_57_84 : decode (zm_code 57) 84 = .ok (.iload_n 2, 1) := by decide +kernel
theorem d_57_85 : decode (zm_code 57) 85 = .ok (.iload_n 3, 1) := by decide +kernel
theorem d_57_86 : decode (zm_code 57) 86 = .ok (.invokevirtual 48, 3) := by decide +kernel
theorem d_57_89 : decode (zm_code 57) 89 = .ok (.iload_n 2, 1) := by decide +kernel
theorem d_57_90 : decode (zm_code 57) 90 = .ok (.iconst 1, 1) := by decide +kernel
theorem d_57_91 : decode (zm_code 57) 91 = .ok (.iadd, 1) := by decide +kernel
theorem d_57_92 : decode (zm_code 57) 92 = .ok (.istore 4, 2) := by decide +kernel
theorem d_57_94 : decode (zm_code 57) 94 = .ok (.iload_n 1, 1) := by decide +kernel
theorem d_57_95 : decode (zm_code 57) 95 = .ok (.iconst 1, 1) := by decide +kernel
theorem d_57_96 : decode (zm_code 57) 96 = .ok (.isub, 1) := by decide +kernel
theorem d_57_97 : decode (zm_code 57) 97 = .ok (.istore 5, 2) := by decide +kernel
theorem d_57_99 : decode (zm_code 57) 99 = .ok (.iload 4, 2) := by decide +kernel
theorem d_57_101 : decode (zm_code 57) 101 = .ok (.iload 5, 2) := by decide +kernel
theorem d_57_103 : decode (zm_code 57) 103 = .ok (.if_icmp .ge 20, 3) := by decide +kernel
theorem d_57_106 : decode (zm_code 57) 106 = .ok (.aload_n 0, 1) := by decide +kernel
theorem d_57_107 : decode (zm_code 57) 107 = .ok (.iload 4, 2) := by decide +kernel
theorem d_57_109 : decode (zm_code 57) 109 = .ok (.iload 5, 2) := by decide +kernel
theorem d_57_111 : decode (zm_code 57) 111 = .ok (.invokevirtual 48, 3) := by decide +kernel
theorem d_57_114 : decode (zm_code 57) 114 = .ok (.iinc 4 1, 3) := by decide +kernel
theorem d_57_117 : decode (zm_code 57) 117 = .ok (.iinc 5 (-1), 3) := by decide +kernel
theorem d_57_120 : decode (zm_code 57) 120 = .ok (.goto (-21), 3) := by decide +kernel
theorem d_57_123 : decode (zm_code 57) 123 = .ok (.iconst 1, 1) := by decide +kernel
theorem d_57_124 : decode (zm_code 57) 124 = .ok (.ireturn, 1) := by decide +kernel
theorem d_58_0 : decode (zm_code 58) 0 = .ok (.aload_n 0, 1) := by decide +kernel
theorem d_58_1 : decode (zm_code 58) 1 = .ok (.getfield 9, 3) := by decide +kernel
theorem d_58_4 : decode (zm_code 58) 4 = .ok (.iload_n 1, 1) := by decide +kernel
theorem d_58_5 : decode (zm_code 58) 5 = .ok (.iaload, 1) := by decide +kernel
theorem d_58_6 : decode (zm_code 58) 6 = .ok (.istore_n 3, 1) := by decide +kernel
theorem d_58_7 : decode (zm_code 58) 7 = .ok (.aload_n 0, 1) := by decide +kernel
theorem d_58_8 : decode (zm_code 58) 8 = .ok (.getfield 9, 3) := by decide +kernel
theorem d_58_11 : decode (zm_code 58) 11 = .ok (.iload_n 1, 1) := by decide +kernel
theorem d_58_12 : decode (zm_code 58) 12 = .ok (.aload_n 0, 1) := by decide +kernel
theorem d_58_13 : decode (zm_code 58) 13 = .ok (.getfield 9, 3) := by decide +kernel
theorem d_58_16 : decode (zm_code 58) 16 = .ok (.iload_n 2, 1) := by decide +kernel
theorem d_58_17 : decode (zm_code 58) 17 = .ok (.iaload, 1) := by decide +kernel
theorem d_58_18 : decode (zm_code 58) 18 = .ok (.iastore, 1) := by decide +kernel
theorem d_58_19 : decode (zm_code 58) 19 = .ok (.aload_n 0, 1) := by decide +kernel
theorem d_58_20 : decode (zm_code 58) 20 = .ok (.getfield 9, 3) := by decide +kernel
theorem d_58_23 : decode (zm_code 58) 23 = .ok (.iload_n 2, 1) := by decide +kernel
theorem d_58_24 : decode (zm_code 58) 24 = .ok (.iload_n 3, 1) := by decide +kernel
theorem d_58_25 : decode (zm_code 58) 25 = .ok (.iastore, 1) := by decide +kernel
theorem d_58_26 : decode (zm_code 58) 26 = .ok (.return_, 1) := by decide +kernel
theorem d_60_0 : decode (zm_code 60) 0 = .ok (.aload_n 0, 1) := by decide +kernel
theorem d_60_1 : decode (zm_code 60) 1 = .ok (.iconst 0, 1) := by decide +kernel
theorem d_60_2 : decode (zm_code 60) 2 = .ok (.putfield 45, 3) := by decide +kernel
theorem d_60_5 : decode (zm_code 60) 5 = .ok (.aload_n 0, 1) := by decide +kernel
theorem d_60_6 : decode (zm_code 60) 6 = .ok (.iconst 0, 1) := by decide +kernel
theorem d_60_7 : decode (zm_code 60) 7 = .ok (.putfield 49, 3) := by decide +kernel
theorem d_60_10 : decode (zm_code 60) 10 = .ok (.aload_n 0, 1) := by decide +kernel
theorem d_60_11 : decode (zm_code 60) 11 = .ok (.iconst 0, 1) := by decide +kernel
theorem d_60_12 : decode (zm_code 60) 12 = .ok (.putfield 52, 3) := by decide +kernel
theorem d_60_15 : decode (zm_code 60) 15 = .ok (.aload_n 0, 1) := by decide +kernel
theorem d_60_16 : decode (zm_code 60) 16 = .ok (.iconst 0, 1) := by decide +kernel
theorem d_60_17 : decode (zm_code 60) 17 = .ok (.putfield 55, 3) := by decide +kernel
theorem d_60_20 : decode (zm_code 60) 20 = .ok (.aload_n 0, 1) := by decide +kernel
theorem d_60_21 : decode (zm_code 60) 21 = .ok (.bipush 50, 2) := by decide +kernel
theorem d_60_23 : decode (zm_code 60) 23 = .ok (.putfield 58, 3) := by decide +kernel
theorem d_60_26 : decode (zm_code 60) 26 = .ok (.iconst 0, 1) := by decide +kernel
theorem d_60_27 : decode (zm_code 60) 27 = .ok (.istore_n 1, 1) := by decide +kernel
theorem d_60_28 : decode (zm_code 60) 28 = .ok (.iload_n 1, 1) := by decide +kernel
theorem d_60_29 : decode (zm_code 60) 29 = .ok (.aload_n 0, 1) := by decide +kernel
theorem d_60_30 : decode (zm_code 60) 30 = .ok (.getfield 21, 3) := by decide +kernel
theorem d_60_33 : decode (zm_code 60) 33 = .ok (.arraylength, 1) := by decide +kernel
theorem d_60_34 : decode (zm_code 60) 34 = .ok (.if_icmp .ge 16, 3) := by decide +kernel
theorem d_60_37 : decode (zm_code 60) 37 = .ok (.aload_n 0, 1) := by decide +kernel
theorem d_60_38 : decode (zm_code 60) 38 = .ok (.getfield 21, 3) := by decide +kernel
theorem d_60_41 : decode (zm_code 60) 41 = .ok (.iload_n 1, 1) := by decide +kernel
theorem d_60_42 : decode (zm_code 60) 42 = .ok (.iconst 0, 1) := by decide +kernel
theorem d_60_43 : decode (zm_code 60) 43 = .ok (.iastore, 1) := by decide +kernel
theorem d_60_44 : decode (zm_code 60) 44 = .ok (.iinc 1 1, 3) := by decide +kernel
theorem d_60_47 : decode (zm_code 60) 47 = .ok (.goto (-19), 3) := by decide +kernel
theorem d_60_50 : decode (zm_code 60) 50 = .ok (.iconst 0, 1) := by decide +kernel
theorem d_60_51 : decode (zm_code 60) 51 = .ok (.istore_n 1, 1) := by decide +kernel
theorem d_60_52 : decode (zm_code 60) 52 = .ok (.iload_n 1, 1) := by decide +kernel
theorem d_60_53 : decode (zm_code 60) 53 = .ok (.aload_n 0, 1) := by decide +kernel
theorem d_60_54 : decode (zm_code 60) 54 = .ok (.getfield 36, 3) := by decide +kernel
theorem d_60_57 : decode (zm_code 60) 57 = .ok (.arraylength, 1) := by decide +kernel
theorem d_60_58 : decode (zm_code 60) 58 = .ok (.if_icmp .ge 16, 3) := by decide +kernel
theorem d_60_61 : decode (zm_code 60) 61 = .ok (.aload_n 0, 1) := by decide +kernel
theorem d_60_62 : decode (zm_code 60) 62 = .ok (.getfield 36, 3) := by decide +kernel
theorem d_60_65 : decode (zm_code 60) 65 = .ok (.iload_n 1, 1) := by decide +kernel
theorem d_60_66 : decode (zm_code 60) 66 = .ok (.iconst (-1), 1) := by decide +kernel
theorem d_60_67 : decode (zm_code 60) 67 = .ok (.iastore, 1) := by decide +kernel
theorem d_60_68 : decode (zm_code 60) 68 = .ok (.iinc 1 1, 3) := by decide +kernel
theorem d_60_71 : decode (zm_code 60) 71 = .ok (.goto (-19), 3) := by decide +kernel
theorem d_60_74 : decode (zm_code 60) 74 = .ok (.aload_n 0, 1) := by decide +kernel
theorem d_60_75 : decode (zm_code 60) 75 = .ok (.iconst 0, 1) := by decide +kernel
theorem d_60_76 : decode (zm_code 60) 76 = .ok (.putfield 61, 3) := by decide +kernel
theorem d_60_79 : decode (zm_code 60) 79 = .ok (.aload_n 0, 1) := by decide +kernel
theorem d_60_80 : decode (zm_code 60) 80 = .ok (.iconst 0, 1) := by decide +kernel
theorem d_60_81 : decode (zm_code 60) 81 = .ok (.putfield 64, 3) := by decide +kernel
theorem d_60_84 : decode (zm_code 60) 84 = .ok (.aload_n 0, 1) := by decide +kernel
theorem d_60_85 : decode (zm_code 60) 85 = .ok (.iconst 0, 1) := by decide +kernel
theorem d_60_86 : decode (zm_code 60) 86 = .ok (.putfield 67, 3) := by decide +kernel
theorem d_60_89 : decode (zm_code 60) 89 = .ok (.aload_n 0, 1) := by decide +kernel
theorem d_60_90 : decode (zm_code 60) 90 = .ok (.iconst 0, 1) := by decide +kernel
theorem d_60_91 : decode (zm_code 60) 91 = .ok (.putfield 70, 3) := by decide +kernel
theorem d_60_94 : decode (zm_code 60) 94 = .ok (.aload_n 0, 1) := by decide +kernel
theorem d_60_95 : decode (zm_code 60) 95 = .ok (.iconst 0, 1) := by decide +kernel
theorem d_60_96 : decode (zm_code 60) 96 = .ok (.putfield 73, 3) := by decide +kernel
theorem d_60_99 : decode (zm_code 60) 99 = .ok (.return_, 1) := by decide +kernel
theorem d_61_0 : decode (zm_code 61) 0 = .ok (.iconst 0, 1) := by decide +kernel
theorem d_61_1 : decode (zm_code 61) 1 = .ok (.istore_n 2, 1) := by decide +kernel
theorem d_61_2 : decode (zm_code 61) 2 = .ok (.iload_n 2, 1) := by decide +kernel
theorem d_61_3 : decode (zm_code 61) 3 = .ok (.aload_n 0, 1) := by decide +kernel
theorem d_61_4 : decode (zm_code 61) 4 = .ok (.getfield 49, 3) := by decide +kernel
theorem d_61_7 : decode (zm_code 61) 7 = .ok (.if_icmp .ge 21, 3) := by decide +kernel
theorem d_61_10 : decode (zm_code 61) 10 = .ok (.aload_n 0, 1) := by decide +kernel
theorem d_61_11 : decode (zm_code 61) 11 = .ok (.getfield 9, 3) := by decide +kernel
theorem d_61_14 : decode (zm_code 61) 14 = .ok (.iload_n 2, 1) := by decide +kernel
theorem d_61_15 : decode (zm_code 61) 15 = .ok (.iaload, 1) := by decide +kernel
theorem d_61_16 : decode (zm_code 61) 16 = .ok (.iload_n 1, 1) := by decide +kernel
theorem d_61_17 : decode (zm_code 61) 17 = .ok (.if_icmp .ne 5, 3) := by decide +kernel
theorem d_61_20 : decode (zm_code 61) 20 = .ok (.iload_n 2, 1) := by decide +kernel
theorem d_61_21 : decode (zm_code 61) 21 = .ok (.ireturn, 1) := by decide +kernel
theorem d_61_22 : decode (zm_code 61) 22 = .ok (.iinc 2 1, 3) := by decide +kernel
theorem d_61_25 : decode (zm_code 61) 25 = .ok (.goto (-23), 3) := by decide +kernel
theorem d_61_28 : decode (zm_code 61) 28 = .ok (.iconst (-1), 1) := by decide +kernel
theorem d_61_29 : decode (zm_code 61) 29 = .ok (.ireturn, 1) := by decide +kernel
theorem d_62_0 : decode (zm_code 62) 0 = .ok (.iconst 0, 1) := by decide +kernel
theorem d_62_1 : decode (zm_code 62) 1 = .ok (.istore_n 2, 1) := by decide +kernel
theorem d_62_2 : decode (zm_code 62) 2 = .ok (.iload_n 2, 1) := by decide +kernel
theorem d_62_3 : decode (zm_code 62) 3 = .ok (.aload_n 0, 1) := by decide +kernel
theorem d_62_4 : decode (zm_code 62) 4 = .ok (.getfield 55, 3) := by decide +kernel
theorem d_62_7 : decode (zm_code 62) 7 = .ok (.if_icmp .ge 21, 3) := by decide +kernel
theorem d_62_10 : decode (zm_code 62) 10 = .ok (.aload_n 0, 1) := by decide +kernel
theorem d_62_11 : decode (zm_code 62) 11 = .ok (.getfield 24, 3) := by decide +kernel
theorem d_62_14 : decode (zm_code 62) 14 = .ok (.iload_n 2, 1) := by decide +kernel
theorem d_62_15 : decode (zm_code 62) 15 = .ok (.iaload, 1) := by decide +kernel
theorem d_62_16 : decode (zm_code 62) 16 = .ok (.iload_n 1, 1) := by decide +kernel
theorem d_62_17 : decode (zm_code 62) 17 = .ok (.if_icmp .ne 5, 3) := by decide +kernel
theorem d_62_20 : decode (zm_code 62) 20 = .ok (.iload_n 2, 1) := by decide +kernel
theorem d_62_21 : decode (zm_code 62) 21 = .ok (.ireturn, 1) := by decide +kernel
theorem d_62_22 : decode (zm_code 62) 22 = .ok (.iinc 2 1, 3) := by decide +kernel
theorem d_62_25 : decode (zm_code 62) 25 = .ok (.goto (-23), 3) := by decide +kernel
theorem d_62_28 : decode (zm_code 62) 28 = .ok (.iconst (-1), 1) := by decide +kernel
theorem d_62_29 : decode (zm_code 62) 29 = .ok (.ireturn, 1) := by decide +kernel
theorem d_63_0 : decode (zm_code 63) 0 = .ok (.aload_n 0, 1) := by decide +kernel
theorem d_63_1 : decode (zm_code 63) 1 = .ok (.getfield 61, 3) := by decide +kernel
theorem d_63_4 : decode (zm_code 63) 4 = .ok (.sipush 1600, 3) := by decide +kernel
theorem d_63_7 : decode (zm_code 63) 7 = .ok (.if_icmp .ge 20, 3) := by decide +kernel
theorem d_63_10 : decode (zm_code 63) 10 = .ok (.aload_n 0, 1) := by decide +kernel
theorem d_63_11 : decode (zm_code 63) 11 = .ok (.getfield 39, 3) := by decide +kernel
theorem d_63_14 : decode (zm_code 63) 14 = .ok (.aload_n 0, 1) := by decide +kernel
theorem d_63_15 : decode (zm_code 63) 15 = .ok (.dup, 1) := by decide +kernel
theorem d_63_16 : decode (zm_code 63) 16 = .ok (.getfield 61, 3) := by decide +kernel
theorem d_63_19 : decode (zm_code 63) 19 = .ok (.dup_x1, 1) := by decide +kernel
theorem d_63_20 : decode (zm_code 63) 20 = .ok (.iconst 1, 1) := by decide +kernel
theorem d_63_21 : decode (zm_code 63) 21 = .ok (.iadd, 1) := by decide +kernel
theorem d_63_22 : decode (zm_code 63) 22 = .ok (.putfield 61, 3) := by decide +kernel
theorem d_63_25 : decode (zm_code 63) 25 = .ok (.iload_n 1, 1) := by decide +kernel
theorem d_63_26 : decode (zm_code 63) 26 = .ok (.iastore, 1) := by decide +kernel
theorem d_63_27 : decode (zm_code 63) 27 = .ok (.return_, 1) := by decide +kernel
theorem d_64_0 : decode (zm_code 64) 0 = .ok (.aload_n 0, 1) := by decide +kernel
theorem d_64_1 : decode (zm_code 64) 1 = .ok (.getfield 36, 3) := by decide +kernel
theorem d_64_4 : decode (zm_code 64) 4 = .ok (.iload_n 1, 1) := by decide +kernel
theorem d_64_5 : decode (zm_code 64) 5 = .ok (.bipush 8, 2) := by decide +kernel
theorem d_64_7 : decode (zm_code 64) 7 = .ok (.imul, 1) := by decide +kernel
theorem d_64_8 : decode (zm_code 64) 8 = .ok (.iload_n 2, 1) := by decide +kernel
theorem d_64_9 : decode (zm_code 64) 9 = .ok (.iadd, 1) := by decide +kernel
theorem d_64_10 : decode (zm_code 64) 10 = .ok (.iaload, 1) := by decide +kernel
theorem d_64_11 : decode (zm_code 64) 11 = .ok (.istore_n 3, 1) := by decide +kernel
theorem d_64_12 : decode (zm_code 64) 12 = .ok (.iload_n 3, 1) := by decide +kernel
theorem d_64_13 : decode (zm_code 64) 13 = .ok (.iconst (-1), 1) := by decide +kernel
theorem d_64_14 : decode (zm_code 64) 14 = .ok (.if_icmp .ne 12, 3) := by decide +kernel
theorem d_64_17 : decode (zm_code 64) 17 = .ok (.aload_n 0, 1) := by decide +kernel
theorem d_64_18 : decode (zm_code 64) 18 = .ok (.getfield 15, 3) := by decide +kernel
theorem d_64_21 : decode (zm_code 64) 21 = .ok (.iload_n 2, 1) := by decide +kernel
theorem d_64_22 : decode (zm_code 64) 22 = .ok (.iaload, 1) := by decide +kernel
theorem d_64_23 : decode (zm_code 64) 23 = .ok (.goto 4, 3) := by decide +kernel
theorem d_64_26 : decode (zm_code 64) 26 = .ok (.iload_n 3, 1) := by decide +kernel
theorem d_64_27 : decode (zm_code 64) 27 = .ok (.ireturn, 1) := by decide +kernel
theorem d_65_0 : decode (zm_code 65) 0 = .ok (.aload_n 0, 1) := by decide +kernel
theorem d_65_1 : decode (zm_code 65) 1 = .ok (.getfield 33, 3) := by decide +kernel
theorem d_65_4 : decode (zm_code 65) 4 = .ok (.iload_n 1, 1) := by decide +kernel
theorem d_65_5 : decode (zm_code 65) 5 = .ok (.iaload, 1) := by decide +kernel
theorem d_65_6 : decode (zm_code 65) 6 = .ok (.tableswitch 48 1 3 #[26, 33, 40], 26) := by decide +kernel
theorem d_65_32 : decode (zm_code 65) 32 = .ok (.aload_n 0, 1) := by decide +kernel
theorem d_65_33 : decode (zm_code 65) 33 = .ok (.iload_n 1, 1) := by decide +kernel
theorem d_65_34 : decode (zm_code 65) 34 = .ok (.iload_n 2, 1) := by decide +kernel
theorem d_65_35 : decode (zm_code 65) 35 = .ok (.invokevirtual 76, 3) := by decide +kernel
theorem d_65_38 : decode (zm_code 65) 38 = .ok (.ireturn, 1) := by decide +kernel
theorem d_65_39 : decode (zm_code 65) 39 = .ok (.aload_n 0, 1) := by decide +kernel
theorem d_65_40 : decode (zm_code 65) 40 = .ok (.getfield 18, 3) := by decide +kernel
theorem d_65_43 : decode (zm_code 65) 43 = .ok (.iload_n 2, 1) := by decide +kernel
theorem d_65_44 : decode (zm_code 65) 44 = .ok (.iaload, 1) := by decide +kernel
theorem d_65_45 : decode (zm_code 65) 45 = .ok (.ireturn, 1) := by decide +kernel
theorem d_65_46 : decode (zm_code 65) 46 = .ok (.aload_n 0, 1) := by decide +kernel
theorem d_65_47 : decode (zm_code 65) 47 = .ok (.getfield 18, 3) := by decide +kernel
theorem d_65_50 : decode (zm_code 65) 50 = .ok (.iload_n 2, 1) := by decide +kernel
theorem d_65_51 : decode (zm_code 65) 51 = .ok (.iaload, 1) := by decide +kernel
theorem d_65_52 : decode (zm_code 65) 52 = .ok (.ineg, 1) := by decide +kernel
theorem d_65_53 : decode (zm_code 65) 53 = .ok (.ireturn, 1) := by decide +kernel
theorem d_65_54 : decode (zm_code 65) 54 = .ok (.iconst 0, 1) := by decide +kernel
theorem d_65_55 : decode (zm_code 65) 55 = .ok (.ireturn, 1) := by decide +kernel
theorem d_67_0 : decode (zm_code 67) 0 = .ok (.aload_n 0, 1) := by decide +kernel
theorem d_67_1 : decode (zm_code 67) 1 = .ok (.iconst 0, 1) := by decide +kernel
theorem d_67_2 : decode (zm_code 67) 2 = .ok (.putfield 25, 3) := by decide +kernel
theorem d_67_5 : decode (zm_code 67) 5 = .ok (.aload_n 0, 1) := by decide +kernel
theorem d_67_6 : decode (zm_code 67) 6 = .ok (.iconst 0, 1) := by decide +kernel
theorem d_67_7 : decode (zm_code 67) 7 = .ok (.putfield 29, 3) := by decide +kernel
theorem d_67_10 : decode (zm_code 67) 10 = .ok (.aload_n 0, 1) := by decide +kernel
theorem d_67_11 : decode (zm_code 67) 11 = .ok (.iconst 0, 1) := by decide +kernel
theorem d_67_12 : decode (zm_code 67) 12 = .ok (.putfield 32, 3) := by decide +kernel
theorem d_67_15 : decode (zm_code 67) 15 = .ok (.return_, 1) := by decide +kernel
theorem d_68_0 : decode (zm_code 68) 0 = .ok (.bipush 60, 2) := by decide +kernel
theorem d_68_2 : decode (zm_code 68) 2 = .ok (.aload_n 0, 1) := by decide +kernel
theorem d_68_3 : decode (zm_code 68) 3 = .ok (.getfield 29, 3) := by decide +kernel
theorem d_68_6 : decode (zm_code 68) 6 = .ok (.invokestatic 39, 3) := by decide +kernel
theorem d_68_9 : decode (zm_code 68) 9 = .ok (.ireturn, 1) := by decide +kernel
theorem d_69_0 : decode (zm_code 69) 0 = .ok (.aload_n 0, 1) := by decide +kernel
theorem d_69_1 : decode (zm_code 69) 1 = .ok (.getfield 11, 3) := by decide +kernel
theorem d_69_4 : decode (zm_code 69) 4 = .ok (.aload_n 0, 1) := by decide +kernel
theorem d_69_5 : decode (zm_code 69) 5 = .ok (.getfield 25, 3) := by decide +kernel
theorem d_69_8 : decode (zm_code 69) 8 = .ok (.aaload, 1) := by decide +kernel
theorem d_69_9 : decode (zm_code 69) 9 = .ok (.aload_n 1, 1) := by decide +kernel
theorem d_69_10 : decode (zm_code 69) 10 = .ok (.invokevirtual 35, 3) := by decide +kernel
theorem d_69_13 : decode (zm_code 69) 13 = .ok (.aload_n 0, 1) := by decide +kernel
theorem d_69_14 : decode (zm_code 69) 14 = .ok (.getfield 17, 3) := by decide +kernel
theorem d_69_17 : decode (zm_code 69) 17 = .ok (.aload_n 0, 1) := by decide +kernel
theorem d_69_18 : decode (zm_code 69) 18 = .ok (.getfield 25, 3) := by decide +kernel
theorem d_69_21 : decode (zm_code 69) 21 = .ok (.aload_n 0, 1) := by decide +kernel
theorem d_69_22 : decode (zm_code 69) 22 = .ok (.getfield 29, 3) := by decide +kernel
theorem d_69_25 : decode (zm_code 69) 25 = .ok (.iastore, 1) := by decide +kernel
theorem d_69_26 : decode (zm_code 69) 26 = .ok (.aload_n 0, 1) := by decide +kernel
theorem d_69_27 : decode (zm_code 69) 27 = .ok (.aload_n 0, 1) := by decide +kernel
theorem d_69_28 : decode (zm_code 69) 28 = .ok (.getfield 25, 3) := by decide +kernel
theorem d_69_31 : decode (zm_code 69) 31 = .ok (.iconst 1, 1) := by decide +kernel
theorem d_69_32 : decode (zm_code 69) 32 = .ok (.iadd, 1) := by decide +kernel
theorem d_69_33 : decode (zm_code 69) 33 = .ok (.bipush 20, 2) := by decide +kernel
theorem d_69_35 : decode (zm_code 69) 35 = .ok (.irem, 1) := by decide +kernel
theorem d_69_36 : decode (zm_code 69) 36 = .ok (.putfield 25, 3) := by decide +kernel
theorem d_69_39 : decode (zm_code 69) 39 = .ok (.aload_n 0, 1) := by decide +kernel
theorem d_69_40 : decode (zm_code 69) 40 = .ok (.getfield 32, 3) := by decide +kernel
theorem d_69_43 : decode (zm_code 69) 43 = .ok (.bipush 20, 2) := by decide +kernel
theorem d_69_45 : decode (zm_code 69) 45 = .ok (.if_icmp .ge 13, 3) := by decide +kernel
theorem d_69_48 : decode (zm_code 69) 48 = .ok (.aload_n 0, 1) := by decide +kernel
theorem d_69_49 : decode (zm_code 69) 49 = .ok (.dup, 1) := by decide +kernel
theorem d_69_50 : decode (zm_code 69) 50 = .ok (.getfield 32, 3) := by decide +kernel
theorem d_69_53 : decode (zm_code 69) 53 = .ok (.iconst 1, 1) := by decide +kernel
theorem d_69_54 : decode (zm_code 69) 54 = .ok (.iadd, 1) := by decide +kernel
theorem d_69_55 : decode (zm_code 69) 55 = .ok (.putfield 32, 3) := by decide +kernel
theorem d_69_58 : decode (zm_code 69) 58 = .ok (.return_, 1) := by decide +kernel
theorem d_70_0 : decode (zm_code 70) 0 = .ok (.aload_n 0, 1) := by decide +kernel
theorem d_70_1 : decode (zm_code 70) 1 = .ok (.getfield 21, 3) := by decide +kernel
theorem d_70_4 : decode (zm_code 70) 4 = .ok (.aload_n 0, 1) := by decide +kernel
theorem d_70_5 : decode (zm_code 70) 5 = .ok (.getfield 29, 3) := by decide +kernel
theorem d_70_8 : decode (zm_code 70) 8 = .ok (.sipush 3260, 3) := by decide +kernel
theorem d_70_11 : decode (zm_code 70) 11 = .ok (.irem, 1) := by decide +kernel
theorem d_70_12 : decode (zm_code 70) 12 = .ok (.iload_n 1, 1) := by decide +kernel
theorem d_70_13 : decode (zm_code 70) 13 = .ok (.bipush 8, 2) := by decide +kernel
theorem d_70_15 : decode (zm_code 70) 15 = .ok (.imul, 1) := by decide +kernel
theorem d_70_16 : decode (zm_code 70) 16 = .ok (.iload_n 2, 1) := by decide +kernel
theorem d_70_17 : decode (zm_code 70) 17 = .ok (.iadd, 1) := by decide +kernel
theorem d_70_18 : decode (zm_code 70) 18 = .ok (.bipush 100, 2) := by decide +kernel
theorem d_70_20 : decode (zm_code 70) 20 = .ok (.imul, 1) := by decide +kernel
theorem d_70_21 : decode (zm_code 70) 21 = .ok (.iload_n 3, 1) := by decide +kernel
theorem d_70_22 : decode (zm_code 70) 22 = .ok (.iadd, 1) := by decide +kernel
theorem d_70_23 : decode (zm_code 70) 23 = .ok (.bipush 100, 2) := by decide +kernel
theorem d_70_25 : decode (zm_code 70) 25 = .ok (.imul, 1) := by decide +kernel
theorem d_70_26 : decode (zm_code 70) 26 = .ok (.iload 4, 2) := by decide +kernel
theorem d_70_28 : decode (zm_code 70) 28 = .ok (.iadd, 1) := by decide +kernel
theorem d_70_29 : decode (zm_code 70) 29 = .ok (.iastore, 1) := by decide +kernel
theorem d_70_30 : decode (zm_code 70) 30 = .ok (.aload_n 0, 1) := by decide +kernel
theorem d_70_31 : decode (zm_code 70) 31 = .ok (.dup, 1) := by decide +kernel
theorem d_70_32 : decode (zm_code 70) 32 = .ok (.getfield 29, 3) := by decide +kernel
theorem d_70_35 : decode (zm_code 70) 35 = .ok (.iconst 1, 1) := by decide +kernel
theorem d_70_36 : decode (zm_code 70) 36 = .ok (.iadd, 1) := by decide +kernel
theorem d_70_37 : decode (zm_code 70) 37 = .ok (.putfield 29, 3) := by decide +kernel
theorem d_70_40 : decode (zm_code 70) 40 = .ok (.return_, 1) := by decide +kernel
theorem d_71_0 : decode (zm_code 71) 0 = .ok (.aload_n 0, 1) := by decide +kernel
theorem d_71_1 : decode (zm_code 71) 1 = .ok (.aload_n 0, 1) := by decide +kernel
theorem d_71_2 : decode (zm_code 71) 2 = .ok (.getfield 25, 3) := by decide +kernel
theorem d_71_5 : decode (zm_code 71) 5 = .ok (.bipush 20, 2) := by decide +kernel
theorem d_71_7 : decode (zm_code 71) 7 = .ok (.iadd, 1) := by decide +kernel
theorem d_71_8 : decode (zm_code 71) 8 = .ok (.iconst 1, 1) := by decide +kernel
theorem d_71_9 : decode (zm_code 71) 9 = .ok (.isub, 1) := by decide +kernel
theorem d_71_10 : decode (zm_code 71) 10 = .ok (.bipush 20, 2) := by decide +kernel
theorem d_71_12 : decode (zm_code 71) 12 = .ok (.irem, 1) := by decide +kernel
theorem d_71_13 : decode (zm_code 71) 13 = .ok (.putfield 25, 3) := by decide +kernel
theorem d_71_16 : decode (zm_code 71) 16 = .ok (.aload_n 0, 1) := by decide +kernel
theorem d_71_17 : decode (zm_code 71) 17 = .ok (.dup, 1) := by decide +kernel
theorem d_71_18 : decode (zm_code 71) 18 = .ok (.getfield 32, 3) := by decide +kernel
theorem d_71_21 : decode (zm_code 71) 21 = .ok (.iconst 1, 1) := by decide +kernel
theorem d_71_22 : decode (zm_code 71) 22 = .ok (.isub, 1) := by decide +kernel
theorem d_71_23 : decode (zm_code 71) 23 = .ok (.putfield 32, 3) := by decide +kernel
theorem d_71_26 : decode (zm_code 71) 26 = .ok (.aload_n 1, 1) := by decide +kernel
theorem d_71_27 : decode (zm_code 71) 27 = .ok (.aload_n 0, 1) := by decide +kernel
theorem d_71_28 : decode (zm_code 71) 28 = .ok (.getfield 11, 3) := by decide +kernel
theorem d_71_31 : decode (zm_code 71) 31 = .ok (.aload_n 0, 1) := by decide +kernel
theorem d_71_32 : decode (zm_code 71) 32 = .ok (.getfield 25, 3) := by decide +kernel
theorem d_71_35 : decode (zm_code 71) 35 = .ok (.aaload, 1) := by decide +kernel
theorem d_71_36 : decode (zm_code 71) 36 = .ok (.invokevirtual 35, 3) := by decide +kernel
theorem d_71_39 : decode (zm_code 71) 39 = .ok (.aload_n 0, 1) := by decide +kernel
theorem d_71_40 : decode (zm_code 71) 40 = .ok (.aload_n 0, 1) := by decide +kernel
theorem d_71_41 : decode (zm_code 71) 41 = .ok (.getfield 17, 3) := by decide +kernel
theorem d_71_44 : decode (zm_code 71) 44 = .ok (.aload_n 0, 1) := by decide +kernel
theorem d_71_45 : decode (zm_code 71) 45 = .ok (.getfield 25, 3) := by decide +kernel
theorem d_71_48 : decode (zm_code 71) 48 = .ok (.iaload, 1) := by decide +kernel
theorem d_71_49 : decode (zm_code 71) 49 = .ok (.putfield 29, 3) := by decide +kernel
theorem d_71_52 : decode (zm_code 71) 52 = .ok (.return_, 1) := by decide +kernel
theorem d_72_0 : decode (zm_code 72) 0 = .ok (.iload_n 1, 1) := by decide +kernel
theorem d_72_1 : decode (zm_code 72) 1 = .ok (.ifCond .lt 11, 3) := by decide +kernel
theorem d_72_4 : decode (zm_code 72) 4 = .ok (.iload_n 1, 1) := by decide +kernel
theorem d_72_5 : decode (zm_code 72) 5 = .ok (.aload_n 0, 1) := by decide +kernel
theorem d_72_6 : decode (zm_code 72) 6 = .ok (.invokevirtual 45, 3) := by decide +kernel
theorem d_72_9 : decode (zm_code 72) 9 = .ok (.if_icmp .lt 5, 3) := by decide +kernel
theorem d_72_12 : decode (zm_code 72) 12 = .ok (.iconst (-1), 1) := by decide +kernel
theorem d_72_13 : decode (zm_code 72) 13 = .ok (.ireturn, 1) := by decide +kernel
theorem d_72_14 : decode (zm_code 72) 14 = .ok (.aload_n 0, 1) := by decide +kernel
theorem d_72_15 : decode (zm_code 72) 15 = .ok (.getfield 21, 3) := by decide +kernel
theorem d_72_18 : decode (zm_code 72) 18 = .ok (.aload_n 0, 1) := by decide +kernel
theorem d_72_19 : decode (zm_code 72) 19 = .ok (.getfield 29, 3) := by decide +kernel
theorem d_72_22 : decode (zm_code 72) 22 = .ok (.aload_n 0, 1) := by decide +kernel
theorem d_72_23 : decode (zm_code 72) 23 = .ok (.invokevirtual 45, 3) := by decide +kernel
theorem d_72_26 : decode (zm_code 72) 26 = .ok (.isub, 1) := by decide +kernel
theorem d_72_27 : decode (zm_code 72) 27 = .ok (.iload_n 1, 1) := by decide +kernel
theorem d_72_28 : decode (zm_code 72) 28 = .ok (.iadd, 1) := by decide +kernel
theorem d_72_29 : decode (zm_code 72) 29 = .ok (.sipush 3260, 3) := by decide +kernel
theorem d_72_32 : decode (zm_code 72) 32 = .ok (.irem, 1) := by decide +kernel
theorem d_72_33 : decode (zm_code 72) 33 = .ok (.iaload, 1) := by decide +kernel
theorem d_72_34 : decode (zm_code 72) 34 = .ok (.istore_n 3, 1) := by decide +kernel
theorem d_72_35 : decode (zm_code 72) 35 = .ok (.iload_n 2, 1) := by decide +kernel
theorem d_72_36 : decode (zm_code 72) 36 = .ok (.tableswitch 63 0 3 #[32, 41, 50, 58], 32) := by decide +kernel
theorem d_72_68 : decode (zm_code 72) 68 = .ok (.iload_n 3, 1) := by decide +kernel
theorem d_72_69 : decode (zm_code 72) 69 = .ok (.sipush 10000, 3) := by decide +kernel
theorem d_72_72 : decode (zm_code 72) 72 = .ok (.idiv, 1) := by decide +kernel
theorem d_72_73 : decode (zm_code 72) 73 = .ok (.bipush 8, 2) := by decide +kernel
theorem d_72_75 : decode (zm_code 72) 75 = .ok (.idiv, 1) := by decide +kernel
theorem d_72_76 : decode (zm_code 72) 76 = .ok (.ireturn, 1) := by decide +kernel
theorem d_72_77 : decode (zm_code 72) 77 = .ok (.iload_n 3, 1) := by decide +kernel
theorem d_72_78 : decode (zm_code 72) 78 = .ok (.sipush 10000, 3) := by decide +kernel
theorem d_72_81 : decode (zm_code 72) 81 = .ok (.idiv, 1) := by decide +kernel
theorem d_72_82 : decode (zm_code 72) 82 = .ok (.bipush 8, 2) := by decide +kernel
theorem d_72_84 : decode (zm_code 72) 84 = .ok (.irem, 1) := by decide +kernel
theorem d_72_85 : decode (zm_code 72) 85 = .ok (.ireturn, 1) := by decide +kernel
theorem d_72_86 : decode (zm_code 72) 86 = .ok (.iload_n 3, 1) := by decide +kernel
theorem d_72_87 : decode (zm_code 72) 87 = .ok (.bipush 100, 2) := by decide +kernel
theorem d_72_89 : decode (zm_code 72) 89 = .ok (.idiv, 1) := by decide +kernel
theorem d_72_90 : decode (zm_code 72) 90 = .ok (.bipush 100, 2) := by decide +kernel
theorem d_72_92 : decode (zm_code 72) 92 = .ok (.irem, 1) := by decide +kernel
theorem d_72_93 : decode (zm_code 72) 93 = .ok (.ireturn, 1) := by decide +kernel
theorem d_72_94 : decode (zm_code 72) 94 = .ok (.iload_n 3, 1) := by decide +kernel
theorem d_72_95 : decode (zm_code 72) 95 = .ok (.bipush 100, 2) := by decide +kernel
theorem d_72_97 : decode (zm_code 72) 97 = .ok (.irem, 1) := by decide +kernel
theorem d_72_98 : decode (zm_code 72) 98 = .ok (.ireturn, 1) := by decide +kernel
theorem d_72_99 : decode (zm_code 72) 99 = .ok (.iconst (-1), 1) := by decide +kernel
theorem d_72_100 : decode (zm_code 72) 100 = .ok (.ireturn, 1) := by decide +kernel
theorem d_74_0 : decode (zm_code 74) 0 = .ok (.aload_n 0, 1) := by decide +kernel
theorem d_74_1 : decode (zm_code 74) 1 = .ok (.aload_n 1, 1) := by decide +kernel
theorem d_74_2 : decode (zm_code 74) 2 = .ok (.putfield 24, 3) := by decide +kernel
theorem d_74_5 : decode (zm_code 74) 5 = .ok (.aload_n 0, 1) := by decide +kernel
theorem d_74_6 : decode (zm_code 74) 6 = .ok (.getfield 24, 3) := by decide +kernel
theorem d_74_9 : decode (zm_code 74) 9 = .ok (.invokevirtual 28, 3) := by decide +kernel
theorem d_74_12 : decode (zm_code 74) 12 = .ok (.aload_n 0, 1) := by decide +kernel
theorem d_74_13 : decode (zm_code 74) 13 = .ok (.iconst 0, 1) := by decide +kernel
theorem d_74_14 : decode (zm_code 74) 14 = .ok (.putfield 33, 3) := by decide +kernel
theorem d_74_17 : decode (zm_code 74) 17 = .ok (.aload_n 0, 1) := by decide +kernel
theorem d_74_18 : decode (zm_code 74) 18 = .ok (.iconst (-1), 1) := by decide +kernel
theorem d_74_19 : decode (zm_code 74) 19 = .ok (.putfield 9, 3) := by decide +kernel
theorem d_74_22 : decode (zm_code 74) 22 = .ok (.aload_n 0, 1) := by decide +kernel
theorem d_74_23 : decode (zm_code 74) 23 = .ok (.getfield 20, 3) := by decide +kernel
theorem d_74_26 : decode (zm_code 74) 26 = .ok (.invokevirtual 36, 3) := by decide +kernel
theorem d_74_29 : decode (zm_code 74) 29 = .ok (.iconst 0, 1) := by decide +kernel
theorem d_74_30 : decode (zm_code 74) 30 = .ok (.istore_n 2, 1) := by decide +kernel
theorem d_74_31 : decode (zm_code 74) 31 = .ok (.iload_n 2, 1) := by decide +kernel
theorem d_74_32 : decode (zm_code 74) 32 = .ok (.bipush 80, 2) := by decide +kernel
theorem d_74_34 : decode (zm_code 74) 34 = .ok (.if_icmp .gt 43, 3) := by decide +kernel
theorem d_74_37 : decode (zm_code 74) 37 = .ok (.aload_n 0, 1) := by decide +kernel
theorem d_74_38 : decode (zm_code 74) 38 = .ok (.getfield 20, 3) := by decide +kernel
theorem d_74_41 : decode (zm_code 74) 41 = .ok (.getfield 39, 3) := by decide +kernel
theorem d_74_44 : decode (zm_code 74) 44 = .ok (.ifCond .ne 5, 3) := by decide +kernel
theorem d_74_47 : decode (zm_code 74) 47 = .ok (.iconst 1, 1) := by decide +kernel
theorem d_74_48 : decode (zm_code 74) 48 = .ok (.ireturn, 1) := by decide +kernel
theorem d_74_49 : decode (zm_code 74) 49 = .ok (.aload_n 0, 1) := by decide +kernel
theorem d_74_50 : decode (zm_code 74) 50 = .ok (.invokevirtual 42, 3) := by decide +kernel
theorem d_74_53 : decode (zm_code 74) 53 = .ok (.ifCond .ne 5, 3) := by decide +kernel
theorem d_74_56 : decode (zm_code 74) 56 = .ok (.iconst 0, 1) := by decide +kernel
theorem d_74_57 : decode (zm_code 74) 57 = .ok (.ireturn, 1) := by decide +kernel
theorem d_74_58 : decode (zm_code 74) 58 = .ok (.aload_n 0, 1) := by decide +kernel
theorem d_74_59 : decode (zm_code 74) 59 = .ok (.getfield 24, 3) := by decide +kernel
theorem d_74_62 : decode (zm_code 74) 62 = .ok (.dup, 1) := by decide +kernel
theorem d_74_63 : decode (zm_code 74) 63 = .ok (.getfield 46, 3) := by decide +kernel
theorem d_74_66 : decode (zm_code 74) 66 = .ok (.iconst 1, 1) := by decide +kernel
theorem d_74_67 : decode (zm_code 74) 67 = .ok (.iadd, 1) := by decide +kernel
theorem d_74_68 : decode (zm_code 74) 68 = .ok (.putfield 46, 3) := by decide +kernel
theorem d_74_71 : decode (zm_code 74) 71 = .ok (.iinc 2 1, 3) := by decide +kernel
theorem d_74_74 : decode (zm_code 74) 74 = .ok (.goto (-43), 3) := by decide +kernel
theorem d_74_77 : decode (zm_code 74) 77 = .ok (.iconst 0, 1) := by decide +kernel
theorem d_74_78 : decode (zm_code 74) 78 = .ok (.ireturn, 1) := by decide +kernel
theorem d_75_0 : decode (zm_code 75) 0 = .ok (.aload_n 0, 1) := by decide +kernel
theorem d_75_1 : decode (zm_code 75) 1 = .ok (.getfield 24, 3) := by decide +kernel
theorem d_75_4 : decode (zm_code 75) 4 = .ok (.getfield 46, 3) := by decide +kernel
theorem d_75_7 : decode (zm_code 75) 7 = .ok (.bipush 80, 2) := by decide +kernel
theorem d_75_9 : decode (zm_code 75) 9 = .ok (.if_icmp .ne 17, 3) := by decide +kernel
theorem d_75_12 : decode (zm_code 75) 12 = .ok (.aload_n 0, 1) := by decide +kernel
theorem d_75_13 : decode (zm_code 75) 13 = .ok (.bipush 6, 2) := by decide +kernel
theorem d_75_15 : decode (zm_code 75) 15 = .ok (.aload_n 0, 1) := by decide +kernel
theorem d_75_16 : decode (zm_code 75) 16 = .ok (.getfield 20, 3) := by decide +kernel
theorem d_75_19 : decode (zm_code 75) 19 = .ok (.getfield 56, 3) := by decide +kernel
theorem d_75_22 : decode (zm_code 75) 22 = .ok (.invokevirtual 52, 3) := by decide +kernel
theorem d_75_25 : decode (zm_code 75) 25 = .ok (.ireturn, 1) := by decide +kernel
theorem d_75_26 : decode (zm_code 75) 26 = .ok (.aload_n 0, 1) := by decide +kernel
theorem d_75_27 : decode (zm_code 75) 27 = .ok (.getfield 20, 3) := by decide +kernel
theorem d_75_30 : decode (zm_code 75) 30 = .ok (.getfield 59, 3) := by decide +kernel
theorem d_75_33 : decode (zm_code 75) 33 = .ok (.istore_n 1, 1) := by decide +kernel
theorem d_75_34 : decode (zm_code 75) 34 = .ok (.aload_n 0, 1) := by decide +kernel
theorem d_75_35 : decode (zm_code 75) 35 = .ok (.iload_n 1, 1) := by decide +kernel
theorem d_75_36 : decode (zm_code 75) 36 = .ok (.invokevirtual 62, 3) := by decide +kernel
theorem d_75_39 : decode (zm_code 75) 39 = .ok (.ifCond .eq 17, 3) := by decide +kernel
theorem d_75_42 : decode (zm_code 75) 42 = .ok (.aload_n 0, 1) := by decide +kernel
theorem d_75_43 : decode (zm_code 75) 43 = .ok (.bipush 6, 2) := by decide +kernel
theorem d_75_45 : decode (zm_code 75) 45 = .ok (.aload_n 0, 1) := by decide +kernel
theorem d_75_46 : decode (zm_code 75) 46 = .ok (.getfield 20, 3) := by decide +kernel
theorem d_75_49 : decode (zm_code 75) 49 = .ok (.getfield 56, 3) := by decide +kernel
theorem d_75_52 : decode (zm_code 75) 52 = .ok (.invokevirtual 52, 3) := by decide +kernel
theorem d_75_55 : decode (zm_code 75) 55 = .ok (.ireturn, 1) := by decide +kernel
theorem d_75_56 : decode (zm_code 75) 56 = .ok (.iload_n 1, 1) := by decide +kernel
theorem d_75_57 : decode (zm_code 75) 57 = .ok (.invokestatic 66, 3) := by decide +kernel
theorem d_75_60 : decode (zm_code 75) 60 = .ok (.ifCond .ne 8, 3) := by decide +kernel
theorem d_75_63 : decode (zm_code 75) 63 = .ok (.aload_n 0, 1) := by decide +kernel
theorem d_75_64 : decode (zm_code 75) 64 = .ok (.invokevirtual 69, 3) := by decide +kernel
theorem d_75_67 : decode (zm_code 75) 67 = .ok (.ireturn, 1) := by decide +kernel
theorem d_75_68 : decode (zm_code 75) 68 = .ok (.aload_n 0, 1) := by decide +kernel
theorem d_75_69 : decode (zm_code 75) 69 = .ok (.getfield 20, 3) := by decide +kernel
theorem d_75_72 : decode (zm_code 75) 72 = .ok (.invokevirtual 72, 3) := by decide +kernel
theorem d_75_75 : decode (zm_code 75) 75 = .ok (.aload_n 0, 1) := by decide +kernel
theorem d_75_76 : decode (zm_code 75) 76 = .ok (.getfield 24, 3) := by decide +kernel
theorem d_75_79 : decode (zm_code 75) 79 = .ok (.getfield 75, 3) := by decide +kernel
theorem d_75_82 : decode (zm_code 75) 82 = .ok (.istore_n 2, 1) := by decide +kernel
theorem d_75_83 : decode (zm_code 75) 83 = .ok (.iload_n 1, 1) := by decide +kernel
theorem d_75_84 : decode (zm_code 75) 84 = .ok (.tableswitch 147 0 14 #[76, 147, 147, 84, 92, 147, 147, 147, 147, 147, 147, 100, 116, 147, 108], 76) := by decide +kernel
theorem d_75_160 : decode (zm_code 75) 160 = .ok (.aload_n 0, 1) := by decide +kernel
theorem d_75_161 : decode (zm_code 75) 161 = .ok (.invokevirtual 78, 3) := by decide +kernel
theorem d_75_164 : decode (zm_code 75) 164 = .ok (.istore_n 3, 1) := by decide +kernel
theorem d_75_165 : decode (zm_code 75) 165 = .ok (.goto 94, 3) := by decide +kernel
theorem d_75_168 : decode (zm_code 75) 168 = .ok (.aload_n 0, 1) := by decide +kernel
theorem d_75_169 : decode (zm_code 75) 169 = .ok (.invokevirtual 81, 3) := by decide +kernel
theorem d_75_172 : decode (zm_code 75) 172 = .ok (.istore_n 3, 1) := by decide +kernel
theorem d_75_173 : decode (zm_code 75) 173 = .ok (.goto 86, 3) := by decide +kernel
theorem d_75_176 : decode (zm_code 75) 176 = .ok (.aload_n 0, 1) := by decide +kernel
theorem d_75_177 : decode (zm_code 75) 177 = .ok (.invokevirtual 84, 3) := by decide +kernel
theorem d_75_180 : decode (zm_code 75) 180 = .ok (.istore_n 3, 1) := by decide +kernel
theorem d_75_181 : decode (zm_code 75) 181 = .ok (.goto 78, 3) := by decide +kernel
theorem d_75_184 : decode (zm_code 75) 184 = .ok (.aload_n 0, 1) := by decide +kernel
theorem d_75_185 : decode (zm_code 75) 185 = .ok (.invokevirtual 87, 3) := by decide +kernel
theorem d_75_188 : decode (zm_code 75) 188 = .ok (.istore_n 3, 1) := by decide +kernel
theorem d_75_189 : decode (zm_code 75) 189 = .ok (.goto 70, 3) := by decide +kernel
theorem d_75_192 : decode (zm_code 75) 192 = .ok (.aload_n 0, 1) := by decide +kernel
theorem d_75_193 : decode (zm_code 75) 193 = .ok (.invokevirtual 90, 3) := by decide +kernel
theorem d_75_196 : decode (zm_code 75) 196 = .ok (.istore_n 3, 1) := by decide +kernel
theorem d_75_197 : decode (zm_code 75) 197 = .ok (.goto 62, 3) := by decide +kernel
theorem d_75_200 : decode (zm_code 75) 200 = .ok (.aload_n 0, 1) := by decide +kernel
theorem d_75_201 : decode (zm_code 75) 201 = .ok (.iconst 0, 1) := by decide +kernel
theorem d_75_202 : decode (zm_code 75) 202 = .ok (.invokevirtual 93, 3) := by decide +kernel
theorem d_75_205 : decode (zm_code 75) 205 = .ok (.istore_n 3, 1) := by decide +kernel
theorem d_75_206 : decode (zm_code 75) 206 = .ok (.aload_n 0, 1) := by decide +kernel
theorem d_75_207 : decode (zm_code 75) 207 = .ok (.getfield 24, 3) := by decide +kernel
theorem d_75_210 : decode (zm_code 75) 210 = .ok (.iload_n 2, 1) := by decide +kernel
theorem d_75_211 : decode (zm_code 75) 211 = .ok (.putfield 96, 3) := by decide +kernel
theorem d_75_214 : decode (zm_code 75) 214 = .ok (.aload_n 0, 1) := by decide +kernel
theorem d_75_215 : decode (zm_code 75) 215 = .ok (.getfield 24, 3) := by decide +kernel
theorem d_75_218 : decode (zm_code 75) 218 = .ok (.aload_n 0, 1) := by decide +kernel
theorem d_75_219 : decode (zm_code 75) 219 = .ok (.getfield 24, 3) := by decide +kernel
theorem d_75_222 : decode (zm_code 75) 222 = .ok (.getfield 75, 3) := by decide +kernel
theorem d_75_225 : decode (zm_code 75) 225 = .ok (.putfield 99, 3) := by decide +kernel
theorem d_75_228 : decode (zm_code 75) 228 = .ok (.goto 31, 3) := by decide +kernel
theorem d_75_231 : decode (zm_code 75) 231 = .ok (.aload_n 0, 1) := by decide +kernel
theorem d_75_232 : decode (zm_code 75) 232 = .ok (.iconst 0, 1) := by decide +kernel
theorem d_75_233 : decode (zm_code 75) 233 = .ok (.invokevirtual 102, 3) := by decide +kernel
theorem d_75_236 : decode (zm_code 75) 236 = .ok (.istore_n 3, 1) := by decide +kernel
theorem d_75_237 : decode (zm_code 75) 237 = .ok (.aload_n 0, 1) := by decide +kernel
theorem d_75_238 : decode (zm_code 75) 238 = .ok (.getfield 24, 3) := by decide +kernel
theorem d_75_241 : decode (zm_code 75) 241 = .ok (.iload_n 2, 1) := by decide +kernel
theorem d_75_242 : decode (zm_code 75) 242 = .ok (.putfield 105, 3) := by decide +kernel
theorem d_75_245 : decode (zm_code 75) 245 = .ok (.aload_n 0, 1) := by decide +kernel
theorem d_75_246 : decode (zm_code 75) 246 = .ok (.getfield 24, 3) := by decide +kernel
theorem d_75_249 : decode (zm_code 75) 249 = .ok (.aload_n 0, 1) := by decide +kernel
theorem d_75_250 : decode (zm_code 75) 250 = .ok (.getfield 24, 3) := by decide +kernel
theorem d_75_253 : decode (zm_code 75) 253 = .ok (.getfield 75, 3) := by decide +kernel
theorem d_75_256 : decode (zm_code 75) 256 = .ok (.putfield 108, 3) := by decide +kernel
theorem d_75_259 : decode (zm_code 75) 259 = .ok (.iload_n 3, 1) := by decide +kernel
theorem d_75_260 : decode (zm_code 75) 260 = .ok (.ifCond .eq 16, 3) := by decide +kernel
theorem d_75_263 : decode (zm_code 75) 263 = .ok (.aload_n 0, 1) := by decide +kernel
theorem d_75_264 : decode (zm_code 75) 264 = .ok (.bipush 59, 2) := by decide +kernel
theorem d_75_266 : decode (zm_code 75) 266 = .ok (.invokevirtual 111, 3) := by decide +kernel
theorem d_75_269 : decode (zm_code 75) 269 = .ok (.ifCond .eq 7, 3) := by decide +kernel
theorem d_75_272 : decode (zm_code 75) 272 = .ok (.iconst 1, 1) := by decide +kernel
theorem d_75_273 : decode (zm_code 75) 273 = .ok (.goto 4, 3) := by decide +kernel
theorem d_75_276 : decode (zm_code 75) 276 = .ok (.iconst 0, 1) := by decide +kernel
theorem d_75_277 : decode (zm_code 75) 277 = .ok (.ireturn, 1) := by decide +kernel
theorem d_76_0 : decode (zm_code 76) 0 = .ok (.aload_n 0, 1) := by decide +kernel
theorem d_76_1 : decode (zm_code 76) 1 = .ok (.iload_n 1, 1) := by decide +kernel
theorem d_76_2 : decode (zm_code 76) 2 = .ok (.putfield 33, 3) := by decide +kernel
theorem d_76_5 : decode (zm_code 76) 5 = .ok (.aload_n 0, 1) := by decide +kernel
theorem d_76_6 : decode (zm_code 76) 6 = .ok (.iload_n 2, 1) := by decide +kernel
theorem d_76_7 : decode (zm_code 76) 7 = .ok (.putfield 9, 3) := by decide +kernel
theorem d_76_10 : decode (zm_code 76) 10 = .ok (.iconst 0, 1) := by decide +kernel
theorem d_76_11 : decode (zm_code 76) 11 = .ok (.ireturn, 1) := by decide +kernel
theorem d_77_0 : decode (zm_code 77) 0 = .ok (.iload_n 1, 1) := by decide +kernel
theorem d_77_1 : decode (zm_code 77) 1 = .ok (.tableswitch 156 0 13 #[71, 156, 156, 89, 106, 156, 156, 156, 156, 156, 156, 156, 124, 140], 71) := by decide +kernel
theorem d_77_72 : decode (zm_code 77) 72 = .ok (.aload_n 0, 1) := by decide +kernel
theorem d_77_73 : decode (zm_code 77) 73 = .ok (.getfield 24, 3) := by decide +kernel
theorem d_77_76 : decode (zm_code 77) 76 = .ok (.getfield 114, 3) := by decide +kernel
theorem d_77_79 : decode (zm_code 77) 79 = .ok (.bipush 8, 2) := by decide +kernel
theorem d_77_81 : decode (zm_code 77) 81 = .ok (.if_icmp .ne 7, 3) := by decide +kernel
theorem d_77_84 : decode (zm_code 77) 84 = .ok (.iconst 1, 1) := by decide +kernel
theorem d_77_85 : decode (zm_code 77) 85 = .ok (.goto 4, 3) := by decide +kernel
theorem d_77_88 : decode (zm_code 77) 88 = .ok (.iconst 0, 1) := by decide +kernel
theorem d_77_89 : decode (zm_code 77) 89 = .ok (.ireturn, 1) := by decide +kernel
theorem d_77_90 : decode (zm_code 77) 90 = .ok (.aload_n 0, 1) := by decide +kernel
theorem d_77_91 : decode (zm_code 77) 91 = .ok (.getfield 24, 3) := by decide +kernel
theorem d_77_94 : decode (zm_code 77) 94 = .ok (.getfield 117, 3) := by decide +kernel
theorem d_77_97 : decode (zm_code 77) 97 = .ok (.iconst 5, 1) := by decide +kernel
theorem d_77_98 : decode (zm_code 77) 98 = .ok (.if_icmp .ne 7, 3) := by decide +kernel
theorem d_77_101 : decode (zm_code 77) 101 = .ok (.iconst 1, 1) := by decide +kernel
theorem d_77_102 : decode (zm_code 77) 102 = .ok (.goto 4, 3) := by decide +kernel
theorem d_77_105 : decode (zm_code 77) 105 = .ok (.iconst 0, 1) := by decide +kernel
theorem d_77_106 : decode (zm_code 77) 106 = .ok (.ireturn, 1) := by decide +kernel
theorem d_77_107 : decode (zm_code 77) 107 = .ok (.aload_n 0, 1) := by decide +kernel
theorem d_77_108 : decode (zm_code 77) 108 = .ok (.getfield 24, 3) := by decide +kernel
theorem d_77_111 : decode (zm_code 77) 111 = .ok (.getfield 120, 3) := by decide +kernel
theorem d_77_114 : decode (zm_code 77) 114 = .ok (.bipush 8, 2) := by decide +kernel
theorem d_77_116 : decode (zm_code 77) 116 = .ok (.if_icmp .ne 7, 3) := by decide +kernel
theorem d_77_119 : decode (zm_code 77) 119 = .ok (.iconst 1, 1) := by decide +kernel
theorem d_77_120 : decode (zm_code 77) 120 = .ok (.goto 4, 3) := by decide +kernel
theorem d_77_123 : decode (zm_code 77) 123 = .ok (.iconst 0, 1) := by decide +kernel
theorem d_77_124 : decode (zm_code 77) 124 = .ok (.ireturn, 1) := by decide +kernel
theorem d_77_125 : decode (zm_code 77) 125 = .ok (.aload_n 0, 1) := by decide +kernel
theorem d_77_126 : decode (zm_code 77) 126 = .ok (.getfield 24, 3) := by decide +kernel
theorem d_77_129 : decode (zm_code 77) 129 = .ok (.getfield 99, 3) := by decide +kernel
theorem d_77_132 : decode (zm_code 77) 132 = .ok (.ifCond .le 7, 3) := by decide +kernel
theorem d_77_135 : decode (zm_code 77) 135 = .ok (.iconst 1, 1) := by decide +kernel
theorem d_77_136 : decode (zm_code 77) 136 = .ok (.goto 4, 3) := by decide +kernel
theorem d_77_139 : decode (zm_code 77) 139 = .ok (.iconst 0, 1) := by decide +kernel
theorem d_77_140 : decode (zm_code 77) 140 = .ok (.ireturn, 1) := by decide +kernel
theorem d_77_141 : decode (zm_code 77) 141 = .ok (.aload_n 0, 1) := by decide +kernel
theorem d_77_142 : decode (zm_code 77) 142 = .ok (.getfield 24, 3) := by decide +kernel
theorem d_77_145 : decode (zm_code 77) 145 = .ok (.getfield 108, 3) := by decide +kernel
theorem d_77_148 : decode (zm_code 77) 148 = .ok (.ifCond .le 7, 3) := by decide +kernel
theorem d_77_151 : decode (zm_code 77) 151 = .ok (.iconst 1, 1) := by decide +kernel
theorem d_77_152 : decode (zm_code 77) 152 = .ok (.goto 4, 3) := by decide +kernel
theorem d_77_155 : decode (zm_code 77) 155 = .ok (.iconst 0, 1) := by decide +kernel
theorem d_77_156 : decode (zm_code 77) 156 = .ok (.ireturn, 1) := by decide +kernel
theorem d_77_157 : decode (zm_code 77) 157 = .ok (.iconst 0, 1) := by decide +kernel
theorem d_77_158 : decode (zm_code 77) 158 = .ok (.ireturn, 1) := by decide +kernel
theorem d_78_0 : decode (zm_code 78) 0 = .ok (.iload_n 0, 1) := by decide +kernel
theorem d_78_1 : decode (zm_code 78) 1 = .ok (.tableswitch 77 0 14 #[75, 77, 77, 75, 75, 77, 77, 77, 77, 77, 77, 75, 75, 75, 75], 75) := by decide +kernel
theorem d_78_76 : decode (zm_code 78) 76 = .ok (.iconst 1, 1) := by decide +kernel
theorem d_78_77 : decode (zm_code 78) 77 = .ok (.ireturn, 1) := by decide +kernel
theorem d_78_78 : decode (zm_code 78) 78 = .ok (.iconst 0, 1) := by decide +kernel
theorem d_78_79 : decode (zm_code 78) 79 = .ok (.ireturn, 1) := by decide +kernel
theorem d_79_0 : decode (zm_code 79) 0 = .ok (.aload_n 0, 1) := by decide +kernel
theorem d_79_1 : decode (zm_code 79) 1 = .ok (.iconst 1, 1) := by decide +kernel
theorem d_79_2 : decode (zm_code 79) 2 = .ok (.aload_n 0, 1) := by decide +kernel
theorem d_79_3 : decode (zm_code 79) 3 = .ok (.getfield 20, 3) := by decide +kernel
theorem d_79_6 : decode (zm_code 79) 6 = .ok (.getfield 49, 3) := by decide +kernel
theorem d_79_9 : decode (zm_code 79) 9 = .ok (.invokevirtual 52, 3) := by decide +kernel
theorem d_79_12 : decode (zm_code 79) 12 = .ok (.ireturn, 1) := by decide +kernel
theorem d_80_0 : decode (zm_code 80) 0 = .ok (.aload_n 0, 1) := by decide +kernel
theorem d_80_1 : decode (zm_code 80) 1 = .ok (.invokevirtual 123, 3) := by decide +kernel
theorem d_80_4 : decode (zm_code 80) 4 = .ok (.istore_n 1, 1) := by decide +kernel
theorem d_80_5 : decode (zm_code 80) 5 = .ok (.iload_n 1, 1) := by decide +kernel
theorem d_80_6 : decode (zm_code 80) 6 = .ok (.iconst (-1), 1) := by decide +kernel
theorem d_80_7 : decode (zm_code 80) 7 = .ok (.if_icmp .eq 11, 3) := by decide +kernel
theorem d_80_10 : decode (zm_code 80) 10 = .ok (.aload_n 0, 1) := by decide +kernel
theorem d_80_11 : decode (zm_code 80) 11 = .ok (.iconst 1, 1) := by decide +kernel
theorem d_80_12 : decode (zm_code 80) 12 = .ok (.invokevirtual 127, 3) := by decide +kernel
theorem d_80_15 : decode (zm_code 80) 15 = .ok (.ifCond .ne 5, 3) := by decide +kernel
theorem d_80_18 : decode (zm_code 80) 18 = .ok (.iconst 0, 1) := by decide +kernel
theorem d_80_19 : decode (zm_code 80) 19 = .ok (.ireturn, 1) := by decide +kernel
theorem d_80_20 : decode (zm_code 80) 20 = .ok (.aload_n 0, 1) := by decide +kernel
theorem d_80_21 : decode (zm_code 80) 21 = .ok (.iconst 0, 1) := by decide +kernel
theorem d_80_22 : decode (zm_code 80) 22 = .ok (.bipush 99, 2) := by decide +kernel
theorem d_80_24 : decode (zm_code 80) 24 = .ok (.invokevirtual 130, 3) := by decide +kernel
theorem d_80_27 : decode (zm_code 80) 27 = .ok (.istore_n 2, 1) := by decide +kernel
theorem d_80_28 : decode (zm_code 80) 28 = .ok (.iload_n 2, 1) := by decide +kernel
theorem d_80_29 : decode (zm_code 80) 29 = .ok (.iconst (-1), 1) := by decide +kernel
theorem d_80_30 : decode (zm_code 80) 30 = .ok (.if_icmp .eq 11, 3) := by decide +kernel
theorem d_80_33 : decode (zm_code 80) 33 = .ok (.aload_n 0, 1) := by decide +kernel
theorem d_80_34 : decode (zm_code 80) 34 = .ok (.iconst 2, 1) := by decide +kernel
theorem d_80_35 : decode (zm_code 80) 35 = .ok (.invokevirtual 127, 3) := by decide +kernel
theorem d_80_38 : decode (zm_code 80) 38 = .ok (.ifCond .ne 5, 3) := by decide +kernel
theorem d_80_41 : decode (zm_code 80) 41 = .ok (.iconst 0, 1) := by decide +kernel
theorem d_80_42 : decode (zm_code 80) 42 = .ok (.ireturn, 1) := by decide +kernel
theorem d_80_43 : decode (zm_code 80) 43 = .ok (.aload_n 0, 1) := by decide +kernel
theorem d_80_44 : decode (zm_code 80) 44 = .ok (.iconst 1, 1) := by decide +kernel
theorem d_80_45 : decode (zm_code 80) 45 = .ok (.bipush 9, 2) := by decide +kernel
theorem d_80_47 : decode (zm_code 80) 47 = .ok (.invokevirtual 130, 3) := by decide +kernel
theorem d_80_50 : decode (zm_code 80) 50 = .ok (.istore_n 3, 1) := by decide +kernel
theorem d_80_51 : decode (zm_code 80) 51 = .ok (.iload_n 3, 1) := by decide +kernel
theorem d_80_52 : decode (zm_code 80) 52 = .ok (.iconst (-1), 1) := by decide +kernel
theorem d_80_53 : decode (zm_code 80) 53 = .ok (.if_icmp .ne 5, 3) := by decide +kernel
theorem d_80_56 : decode (zm_code 80) 56 = .ok (.iconst 0, 1) := by decide +kernel
theorem d_80_57 : decode (zm_code 80) 57 = .ok (.ireturn, 1) := by decide +kernel
theorem d_80_58 : decode (zm_code 80) 58 = .ok (.aload_n 0, 1) := by decide +kernel
theorem d_80_59 : decode (zm_code 80) 59 = .ok (.getfield 24, 3) := by decide +kernel
theorem d_80_62 : decode (zm_code 80) 62 = .ok (.getfield 134, 3) := by decide +kernel
theorem d_80_65 : decode (zm_code 80) 65 = .ok (.aload_n 0, 1) := by decide +kernel
theorem d_80_66 : decode (zm_code 80) 66 = .ok (.getfield 24, 3) := by decide +kernel
theorem d_80_69 : decode (zm_code 80) 69 = .ok (.getfield 114, 3) := by decide +kernel
theorem d_80_72 : decode (zm_code 80) 72 = .ok (.iload_n 1, 1) := by decide +kernel
theorem d_80_73 : decode (zm_code 80) 73 = .ok (.iastore, 1) := by decide +kernel
theorem d_80_74 : decode (zm_code 80) 74 = .ok (.aload_n 0, 1) := by decide +kernel
theorem d_80_75 : decode (zm_code 80) 75 = .ok (.getfield 24, 3) := by decide +kernel
theorem d_80_78 : decode (zm_code 80) 78 = .ok (.getfield 138, 3) := by decide +kernel
theorem d_80_81 : decode (zm_code 80) 81 = .ok (.aload_n 0, 1) := by decide +kernel
theorem d_80_82 : decode (zm_code 80) 82 = .ok (.getfield 24, 3) := by decide +kernel
theorem d_80_85 : decode (zm_code 80) 85 = .ok (.getfield 114, 3) := by decide +kernel
theorem d_80_88 : decode (zm_code 80) 88 = .ok (.iload_n 2, 1) := by decide +kernel
theorem d_80_89 : decode (zm_code 80) 89 = .ok (.iastore, 1) := by decide +kernel
theorem d_80_90 : decode (zm_code 80) 90 = .ok (.aload_n 0, 1) := by decide +kernel
theorem d_80_91 : decode (zm_code 80) 91 = .ok (.getfield 24, 3) := by decide +kernel
theorem d_80_94 : decode (zm_code 80) 94 = .ok (.getfield 141, 3) := by decide +kernel
theorem d_80_97 : decode (zm_code 80) 97 = .ok (.aload_n 0, 1) := by decide +kernel
theorem d_80_98 : decode (zm_code 80) 98 = .ok (.getfield 24, 3) := by decide +kernel
theorem d_80_101 : decode (zm_code 80) 101 = .ok (.getfield 114, 3) := by decide +kernel
theorem d_80_104 : decode (zm_code 80) 104 = .ok (.iload_n 3, 1) := by decide +kernel
theorem d_80_105 : decode (zm_code 80) 105 = .ok (.iastore, 1) := by decide +kernel
theorem d_80_106 : decode (zm_code 80) 106 = .ok (.aload_n 0, 1) := by decide +kernel
theorem d_80_107 : decode (zm_code 80) 107 = .ok (.getfield 24, 3) := by decide +kernel
theorem d_80_110 : decode (zm_code 80) 110 = .ok (.dup, 1) := by decide +kernel
theorem d_80_111 : decode (zm_code 80) 111 = .ok (.getfield 114, 3) := by decide +kernel
theorem d_80_114 : decode (zm_code 80) 114 = .ok (.iconst 1, 1) := by decide +kernel
theorem d_80_115 : decode (zm_code 80) 115 = .ok (.iadd, 1) := by decide +kernel
theorem d_80_116 : decode (zm_code 80) 116 = .ok (.putfield 114, 3) := by decide +kernel
theorem d_80_119 : decode (zm_code 80) 119 = .ok (.iconst 1, 1) := by decide +kernel
theorem d_80_120 : decode (zm_code 80) 120 = .ok (.ireturn, 1) := by decide +kernel
theorem d_81_0 : decode (zm_code 81) 0 = .ok (.aload_n 0, 1) := by decide +kernel
theorem d_81_1 : decode (zm_code 81) 1 = .ok (.getfield 20, 3) := by decide +kernel
theorem d_81_4 : decode (zm_code 81) 4 = .ok (.getfield 153, 3) := by decide +kernel
theorem d_81_7 : decode (zm_code 81) 7 = .ok (.istore_n 1, 1) := by decide +kernel
theorem d_81_8 : decode (zm_code 81) 8 = .ok (.aload_n 0, 1) := by decide +kernel
theorem d_81_9 : decode (zm_code 81) 9 = .ok (.invokevirtual 150, 3) := by decide +kernel
theorem d_81_12 : decode (zm_code 81) 12 = .ok (.ifCond .ne 10, 3) := by decide +kernel
theorem d_81_15 : decode (zm_code 81) 15 = .ok (.aload_n 0, 1) := by decide +kernel
theorem d_81_16 : decode (zm_code 81) 16 = .ok (.invokevirtual 69, 3) := by decide +kernel
theorem d_81_19 : decode (zm_code 81) 19 = .ok (.pop, 1) := by decide +kernel
theorem d_81_20 : decode (zm_code 81) 20 = .ok (.iconst (-1), 1) := by decide +kernel
theorem d_81_21 : decode (zm_code 81) 21 = .ok (.ireturn, 1) := by decide +kernel
theorem d_81_22 : decode (zm_code 81) 22 = .ok (.aload_n 0, 1) := by decide +kernel
theorem d_81_23 : decode (zm_code 81) 23 = .ok (.getfield 24, 3) := by decide +kernel
theorem d_81_26 : decode (zm_code 81) 26 = .ok (.iload_n 1, 1) := by decide +kernel
theorem d_81_27 : decode (zm_code 81) 27 = .ok (.invokevirtual 156, 3) := by decide +kernel
theorem d_81_30 : decode (zm_code 81) 30 = .ok (.iconst (-1), 1) := by decide +kernel
theorem d_81_31 : decode (zm_code 81) 31 = .ok (.if_icmp .ne 15, 3) := by decide +kernel
theorem d_81_34 : decode (zm_code 81) 34 = .ok (.aload_n 0, 1) := by decide +kernel
theorem d_81_35 : decode (zm_code 81) 35 = .ok (.getfield 24, 3) := by decide +kernel
theorem d_81_38 : decode (zm_code 81) 38 = .ok (.iload_n 1, 1) := by decide +kernel
theorem d_81_39 : decode (zm_code 81) 39 = .ok (.invokevirtual 175, 3) := by decide +kernel
theorem d_81_42 : decode (zm_code 81) 42 = .ok (.iconst (-1), 1) := by decide +kernel
theorem d_81_43 : decode (zm_code 81) 43 = .ok (.if_icmp .eq 18, 3) := by decide +kernel
theorem d_81_46 : decode (zm_code 81) 46 = .ok (.aload_n 0, 1) := by decide +kernel
theorem d_81_47 : decode (zm_code 81) 47 = .ok (.iconst 2, 1) := by decide +kernel
theorem d_81_48 : decode (zm_code 81) 48 = .ok (.aload_n 0, 1) := by decide +kernel
theorem d_81_49 : decode (zm_code 81) 49 = .ok (.getfield 20, 3) := by decide +kernel
theorem d_81_52 : decode (zm_code 81) 52 = .ok (.getfield 56, 3) := by decide +kernel
theorem d_81_55 : decode (zm_code 81) 55 = .ok (.invokevirtual 52, 3) := by decide +kernel
theorem d_81_58 : decode (zm_code 81) 58 = .ok (.pop, 1) := by decide +kernel
theorem d_81_59 : decode (zm_code 81) 59 = .ok (.iconst (-1), 1) := by decide +kernel
theorem d_81_60 : decode (zm_code 81) 60 = .ok (.ireturn, 1) := by decide +kernel
theorem d_81_61 : decode (zm_code 81) 61 = .ok (.aload_n 0, 1) := by decide +kernel
theorem d_81_62 : decode (zm_code 81) 62 = .ok (.getfield 20, 3) := by decide +kernel
theorem d_81_65 : decode (zm_code 81) 65 = .ok (.invokevirtual 72, 3) := by decide +kernel
theorem d_81_68 : decode (zm_code 81) 68 = .ok (.iload_n 1, 1) := by decide +kernel
theorem d_81_69 : decode (zm_code 81) 69 = .ok (.ireturn, 1) := by decide +kernel
theorem d_82_0 : decode (zm_code 82) 0 = .ok (.aload_n 0, 1) := by decide +kernel
theorem d_82_1 : decode (zm_code 82) 1 = .ok (.getfield 20, 3) := by decide +kernel
theorem d_82_4 : decode (zm_code 82) 4 = .ok (.getfield 39, 3) := by decide +kernel
theorem d_82_7 : decode (zm_code 82) 7 = .ok (.iconst 1, 1) := by decide +kernel
theorem d_82_8 : decode (zm_code 82) 8 = .ok (.if_icmp .ne 18, 3) := by decide +kernel
theorem d_82_11 : decode (zm_code 82) 11 = .ok (.aload_n 0, 1) := by decide +kernel
theorem d_82_12 : decode (zm_code 82) 12 = .ok (.getfield 20, 3) := by decide +kernel
theorem d_82_15 : decode (zm_code 82) 15 = .ok (.getfield 59, 3) := by decide +kernel
theorem d_82_18 : decode (zm_code 82) 18 = .ok (.iconst (-1), 1) := by decide +kernel
theorem d_82_19 : decode (zm_code 82) 19 = .ok (.if_icmp .ne 7, 3) := by decide +kernel
theorem d_82_22 : decode (zm_code 82) 22 = .ok (.iconst 1, 1) := by decide +kernel
theorem d_82_23 : decode (zm_code 82) 23 = .ok (.goto 4, 3) := by decide +kernel
theorem d_82_26 : decode (zm_code 82) 26 = .ok (.iconst 0, 1) := by decide +kernel
theorem d_82_27 : decode (zm_code 82) 27 = .ok (.ireturn, 1) := by decide +kernel
theorem d_83_0 : decode (zm_code 83) 0 = .ok (.aload_n 0, 1) := by decide +kernel
theorem d_83_1 : decode (zm_code 83) 1 = .ok (.getfield 20, 3) := by decide +kernel
theorem d_83_4 : decode (zm_code 83) 4 = .ok (.iload_n 1, 1) := by decide +kernel
theorem d_83_5 : decode (zm_code 83) 5 = .ok (.invokevirtual 184, 3) := by decide +kernel
theorem d_83_8 : decode (zm_code 83) 8 = .ok (.ifCond .ne 8, 3) := by decide +kernel
theorem d_83_11 : decode (zm_code 83) 11 = .ok (.aload_n 0, 1) := by decide +kernel
theorem d_83_12 : decode (zm_code 83) 12 = .ok (.invokevirtual 69, 3) := by decide +kernel
theorem d_83_15 : decode (zm_code 83) 15 = .ok (.ireturn, 1) := by decide +kernel
theorem d_83_16 : decode (zm_code 83) 16 = .ok (.aload_n 0, 1) := by decide +kernel
theorem d_83_17 : decode (zm_code 83) 17 = .ok (.getfield 20, 3) := by decide +kernel
theorem d_83_20 : decode (zm_code 83) 20 = .ok (.invokevirtual 72, 3) := by decide +kernel
theorem d_83_23 : decode (zm_code 83) 23 = .ok (.iconst 1, 1) := by decide +kernel
theorem d_83_24 : decode (zm_code 83) 24 = .ok (.ireturn, 1) := by decide +kernel
theorem d_84_0 : decode (zm_code 84) 0 = .ok (.aload_n 0, 1) := by decide +kernel
theorem d_84_1 : decode (zm_code 84) 1 = .ok (.getfield 20, 3) := by decide +kernel
theorem d_84_4 : decode (zm_code 84) 4 = .ok (.getfield 153, 3) := by decide +kernel
theorem d_84_7 : decode (zm_code 84) 7 = .ok (.istore_n 3, 1) := by decide +kernel
theorem d_84_8 : decode (zm_code 84) 8 = .ok (.aload_n 0, 1) := by decide +kernel
theorem d_84_9 : decode (zm_code 84) 9 = .ok (.getfield 20, 3) := by decide +kernel
theorem d_84_12 : decode (zm_code 84) 12 = .ok (.getfield 39, 3) := by decide +kernel
theorem d_84_15 : decode (zm_code 84) 15 = .ok (.iconst 2, 1) := by decide +kernel
theorem d_84_16 : decode (zm_code 84) 16 = .ok (.if_icmp .eq 10, 3) := by decide +kernel
theorem d_84_19 : decode (zm_code 84) 19 = .ok (.aload_n 0, 1) := by decide +kernel
theorem d_84_20 : decode (zm_code 84) 20 = .ok (.invokevirtual 69, 3) := by decide +kernel
theorem d_84_23 : decode (zm_code 84) 23 = .ok (.pop, 1) := by decide +kernel
theorem d_84_24 : decode (zm_code 84) 24 = .ok (.iconst (-1), 1) := by decide +kernel
theorem d_84_25 : decode (zm_code 84) 25 = .ok (.ireturn, 1) := by decide +kernel
theorem d_84_26 : decode (zm_code 84) 26 = .ok (.iload_n 3, 1) := by decide +kernel
theorem d_84_27 : decode (zm_code 84) 27 = .ok (.iload_n 1, 1) := by decide +kernel
theorem d_84_28 : decode (zm_code 84) 28 = .ok (.if_icmp .lt 8, 3) := by decide +kernel
theorem d_84_31 : decode (zm_code 84) 31 = .ok (.iload_n 3, 1) := by decide +kernel
theorem d_84_32 : decode (zm_code 84) 32 = .ok (.iload_n 2, 1) := by decide +kernel
theorem d_84_33 : decode (zm_code 84) 33 = .ok (.if_icmp .le 18, 3) := by decide +kernel
theorem d_84_36 : decode (zm_code 84) 36 = .ok (.aload_n 0, 1) := by decide +kernel
theorem d_84_37 : decode (zm_code 84) 37 = .ok (.iconst 4, 1) := by decide +kernel
theorem d_84_38 : decode (zm_code 84) 38 = .ok (.aload_n 0, 1) := by decide +kernel
theorem d_84_39 : decode (zm_code 84) 39 = .ok (.getfield 20, 3) := by decide +kernel
theorem d_84_42 : decode (zm_code 84) 42 = .ok (.getfield 56, 3) := by decide +kernel
theorem d_84_45 : decode (zm_code 84) 45 = .ok (.invokevirtual 52, 3) := by decide +kernel
theorem d_84_48 : decode (zm_code 84) 48 = .ok (.pop, 1) := by decide +kernel
theorem d_84_49 : decode (zm_code 84) 49 = .ok (.iconst (-1), 1) := by decide +kernel
theorem d_84_50 : decode (zm_code 84) 50 = .ok (.ireturn, 1) := by decide +kernel
theorem d_84_51 : decode (zm_code 84) 51 = .ok (.aload_n 0, 1) := by decide +kernel
theorem d_84_52 : decode (zm_code 84) 52 = .ok (.getfield 20, 3) := by decide +kernel
theorem d_84_55 : decode (zm_code 84) 55 = .ok (.invokevirtual 72, 3) := by decide +kernel
theorem d_84_58 : decode (zm_code 84) 58 = .ok (.iload_n 3, 1) := by decide +kernel
theorem d_84_59 : decode (zm_code 84) 59 = .ok (.ireturn, 1) := by decide +kernel
theorem d_85_0 : decode (zm_code 85) 0 = .ok (.iconst 0, 1) := by decide +kernel
theorem d_85_1 : decode (zm_code 85) 1 = .ok (.istore_n 1, 1) := by decide +kernel
theorem d_85_2 : decode (zm_code 85) 2 = .ok (.iload_n 1, 1) := by decide +kernel
theorem d_85_3 : decode (zm_code 85) 3 = .ok (.bipush 8, 2) := by decide +kernel
theorem d_85_5 : decode (zm_code 85) 5 = .ok (.if_icmp .gt 33, 3) := by decide +kernel
theorem d_85_8 : decode (zm_code 85) 8 = .ok (.aload_n 0, 1) := by decide +kernel
theorem d_85_9 : decode (zm_code 85) 9 = .ok (.invokevirtual 144, 3) := by decide +kernel
theorem d_85_12 : decode (zm_code 85) 12 = .ok (.ifCond .ne 5, 3) := by decide +kernel
theorem d_85_15 : decode (zm_code 85) 15 = .ok (.iconst 0, 1) := by decide +kernel
theorem d_85_16 : decode (zm_code 85) 16 = .ok (.ireturn, 1) := by decide +kernel
theorem d_85_17 : decode (zm_code 85) 17 = .ok (.aload_n 0, 1) := by decide +kernel
theorem d_85_18 : decode (zm_code 85) 18 = .ok (.getfield 20, 3) := by decide +kernel
theorem d_85_21 : decode (zm_code 85) 21 = .ok (.bipush 59, 2) := by decide +kernel
theorem d_85_23 : decode (zm_code 85) 23 = .ok (.invokevirtual 147, 3) := by decide +kernel
theorem d_85_26 : decode (zm_code 85) 26 = .ok (.ifCond .eq 6, 3) := by decide +kernel
theorem d_85_29 : decode (zm_code 85) 29 = .ok (.goto 9, 3) := by decide +kernel
theorem d_85_32 : decode (zm_code 85) 32 = .ok (.iinc 1 1, 3) := by decide +kernel
theorem d_85_35 : decode (zm_code 85) 35 = .ok (.goto (-33), 3) := by decide +kernel
theorem d_85_38 : decode (zm_code 85) 38 = .ok (.aload_n 0, 1) := by decide +kernel
theorem d_85_39 : decode (zm_code 85) 39 = .ok (.getfield 24, 3) := by decide +kernel
theorem d_85_42 : decode (zm_code 85) 42 = .ok (.dup, 1) := by decide +kernel
theorem d_85_43 : decode (zm_code 85) 43 = .ok (.getfield 117, 3) := by decide +kernel
theorem d_85_46 : decode (zm_code 85) 46 = .ok (.iconst 1, 1) := by decide +kernel
theorem d_85_47 : decode (zm_code 85) 47 = .ok (.iadd, 1) := by decide +kernel
theorem d_85_48 : decode (zm_code 85) 48 = .ok (.putfield 117, 3) := by decide +kernel
theorem d_85_51 : decode (zm_code 85) 51 = .ok (.iconst 1, 1) := by decide +kernel
theorem d_85_52 : decode (zm_code 85) 52 = .ok (.ireturn, 1) := by decide +kernel
theorem d_86_0 : decode (zm_code 86) 0 = .ok (.aload_n 0, 1) := by decide +kernel
theorem d_86_1 : decode (zm_code 86) 1 = .ok (.invokevirtual 150, 3) := by decide +kernel
theorem d_86_4 : decode (zm_code 86) 4 = .ok (.ifCond .ne 8, 3) := by decide +kernel
theorem d_86_7 : decode (zm_code 86) 7 = .ok (.aload_n 0, 1) := by decide +kernel
theorem d_86_8 : decode (zm_code 86) 8 = .ok (.invokevirtual 69, 3) := by decide +kernel
theorem d_86_11 : decode (zm_code 86) 11 = .ok (.ireturn, 1) := by decide +kernel
theorem d_86_12 : decode (zm_code 86) 12 = .ok (.aload_n 0, 1) := by decide +kernel
theorem d_86_13 : decode (zm_code 86) 13 = .ok (.getfield 24, 3) := by decide +kernel
theorem d_86_16 : decode (zm_code 86) 16 = .ok (.aload_n 0, 1) := by decide +kernel
theorem d_86_17 : decode (zm_code 86) 17 = .ok (.getfield 20, 3) := by decide +kernel
theorem d_86_20 : decode (zm_code 86) 20 = .ok (.getfield 153, 3) := by decide +kernel
theorem d_86_23 : decode (zm_code 86) 23 = .ok (.invokevirtual 156, 3) := by decide +kernel
theorem d_86_26 : decode (zm_code 86) 26 = .ok (.istore_n 1, 1) := by decide +kernel
theorem d_86_27 : decode (zm_code 86) 27 = .ok (.iload_n 1, 1) := by decide +kernel
theorem d_86_28 : decode (zm_code 86) 28 = .ok (.iconst (-1), 1) := by decide +kernel
theorem d_86_29 : decode (zm_code 86) 29 = .ok (.if_icmp .ne 16, 3) := by decide +kernel
theorem d_86_32 : decode (zm_code 86) 32 = .ok (.aload_n 0, 1) := by decide +kernel
theorem d_86_33 : decode (zm_code 86) 33 = .ok (.iconst 3, 1) := by decide +kernel
theorem d_86_34 : decode (zm_code 86) 34 = .ok (.aload_n 0, 1) := by decide +kernel
theorem d_86_35 : decode (zm_code 86) 35 = .ok (.getfield 20, 3) := by decide +kernel
theorem d_86_38 : decode (zm_code 86) 38 = .ok (.getfield 56, 3) := by decide +kernel
theorem d_86_41 : decode (zm_code 86) 41 = .ok (.invokevirtual 52, 3) := by decide +kernel
theorem d_86_44 : decode (zm_code 86) 44 = .ok (.ireturn, 1) := by decide +kernel
theorem d_86_45 : decode (zm_code 86) 45 = .ok (.aload_n 0, 1) := by decide +kernel
theorem d_86_46 : decode (zm_code 86) 46 = .ok (.getfield 24, 3) := by decide +kernel
theorem d_86_49 : decode (zm_code 86) 49 = .ok (.getfield 117, 3) := by decide +kernel
theorem d_86_52 : decode (zm_code 86) 52 = .ok (.bipush 8, 2) := by decide +kernel
theorem d_86_54 : decode (zm_code 86) 54 = .ok (.imul, 1) := by decide +kernel
theorem d_86_55 : decode (zm_code 86) 55 = .ok (.iload_n 1, 1) := by decide +kernel
theorem d_86_56 : decode (zm_code 86) 56 = .ok (.iadd, 1) := by decide +kernel
theorem d_86_57 : decode (zm_code 86) 57 = .ok (.istore_n 2, 1) := by decide +kernel
theorem d_86_58 : decode (zm_code 86) 58 = .ok (.aload_n 0, 1) := by decide +kernel
theorem d_86_59 : decode (zm_code 86) 59 = .ok (.getfield 24, 3) := by decide +kernel
theorem d_86_62 : decode (zm_code 86) 62 = .ok (.getfield 160, 3) := by decide +kernel
theorem d_86_65 : decode (zm_code 86) 65 = .ok (.iload_n 2, 1) := by decide +kernel
theorem d_86_66 : decode (zm_code 86) 66 = .ok (.iaload, 1) := by decide +kernel
theorem d_86_67 : decode (zm_code 86) 67 = .ok (.ifCond .le 16, 3) := by decide +kernel
theorem d_86_70 : decode (zm_code 86) 70 = .ok (.aload_n 0, 1) := by decide +kernel
theorem d_86_71 : decode (zm_code 86) 71 = .ok (.iconst 3, 1) := by decide +kernel
theorem d_86_72 : decode (zm_code 86) 72 = .ok (.aload_n 0, 1) := by decide +kernel
theorem d_86_73 : decode (zm_code 86) 73 = .ok (.getfield 20, 3) := by decide +kernel
theorem d_86_76 : decode (zm_code 86) 76 = .ok (.getfield 56, 3) := by decide +kernel
theorem d_86_79 : decode (zm_code 86) 79 = .ok (.invokevirtual 52, 3) := by decide +kernel
theorem d_86_82 : decode (zm_code 86) 82 = .ok (.ireturn, 1) := by decide +kernel
theorem d_86_83 : decode (zm_code 86) 83 = .ok (.aload_n 0, 1) := by decide +kernel
theorem d_86_84 : decode (zm_code 86) 84 = .ok (.getfield 20, 3) := by decide +kernel
theorem d_86_87 : decode (zm_code 86) 87 = .ok (.invokevirtual 72, 3) := by decide +kernel
theorem d_86_90 : decode (zm_code 86) 90 = .ok (.aload_n 0, 1) := by decide +kernel
theorem d_86_91 : decode (zm_code 86) 91 = .ok (.iconst 1, 1) := by decide +kernel
theorem d_86_92 : decode (zm_code 86) 92 = .ok (.bipush 30, 2) := by decide +kernel
theorem d_86_94 : decode (zm_code 86) 94 = .ok (.invokevirtual 130, 3) := by decide +kernel
theorem d_86_97 : decode (zm_code 86) 97 = .ok (.istore_n 3, 1) := by decide +kernel
theorem d_86_98 : decode (zm_code 86) 98 = .ok (.iload_n 3, 1) := by decide +kernel
theorem d_86_99 : decode (zm_code 86) 99 = .ok (.iconst (-1), 1) := by decide +kernel
theorem d_86_100 : decode (zm_code 86) 100 = .ok (.if_icmp .ne 5, 3) := by decide +kernel
theorem d_86_103 : decode (zm_code 86) 103 = .ok (.iconst 0, 1) := by decide +kernel
theorem d_86_104 : decode (zm_code 86) 104 = .ok (.ireturn, 1) := by decide +kernel
theorem d_86_105 : decode (zm_code 86) 105 = .ok (.aload_n 0, 1) := by decide +kernel
theorem d_86_106 : decode (zm_code 86) 106 = .ok (.getfield 24, 3) := by decide +kernel
theorem d_86_109 : decode (zm_code 86) 109 = .ok (.getfield 160, 3) := by decide +kernel
theorem d_86_112 : decode (zm_code 86) 112 = .ok (.iload_n 2, 1) := by decide +kernel
theorem d_86_113 : decode (zm_code 86) 113 = .ok (.iload_n 3, 1) := by decide +kernel
theorem d_86_114 : decode (zm_code 86) 114 = .ok (.iastore, 1) := by decide +kernel
theorem d_86_115 : decode (zm_code 86) 115 = .ok (.iconst 1, 1) := by decide +kernel
theorem d_86_116 : decode (zm_code 86) 116 = .ok (.ireturn, 1) := by decide +kernel
theorem d_87_0 : decode (zm_code 87) 0 = .ok (.aload_n 0, 1) := by decide +kernel
theorem d_87_1 : decode (zm_code 87) 1 = .ok (.invokevirtual 123, 3) := by decide +kernel
theorem d_87_4 : decode (zm_code 87) 4 = .ok (.istore_n 1, 1) := by decide +kernel
theorem d_87_5 : decode (zm_code 87) 5 = .ok (.iload_n 1, 1) := by decide +kernel
theorem d_87_6 : decode (zm_code 87) 6 = .ok (.iconst (-1), 1) := by decide +kernel
theorem d_87_7 : decode (zm_code 87) 7 = .ok (.if_icmp .eq 11, 3) := by decide +kernel
theorem d_87_10 : decode (zm_code 87) 10 = .ok (.aload_n 0, 1) := by decide +kernel
theorem d_87_11 : decode (zm_code 87) 11 = .ok (.iconst 5, 1) := by decide +kernel
theorem d_87_12 : decode (zm_code 87) 12 = .ok (.invokevirtual 127, 3) := by decide +kernel
theorem d_87_15 : decode (zm_code 87) 15 = .ok (.ifCond .ne 5, 3) := by decide +kernel
theorem d_87_18 : decode (zm_code 87) 18 = .ok (.iconst 0, 1) := by decide +kernel
theorem d_87_19 : decode (zm_code 87) 19 = .ok (.ireturn, 1) := by decide +kernel
theorem d_87_20 : decode (zm_code 87) 20 = .ok (.aload_n 0, 1) := by decide +kernel
theorem d_87_21 : decode (zm_code 87) 21 = .ok (.iconst 1, 1) := by decide +kernel
theorem d_87_22 : decode (zm_code 87) 22 = .ok (.iconst 5, 1) := by decide +kernel
theorem d_87_23 : decode (zm_code 87) 23 = .ok (.invokevirtual 130, 3) := by decide +kernel
theorem d_87_26 : decode (zm_code 87) 26 = .ok (.istore_n 2, 1) := by decide +kernel
theorem d_87_27 : decode (zm_code 87) 27 = .ok (.iload_n 2, 1) := by decide +kernel
theorem d_87_28 : decode (zm_code 87) 28 = .ok (.iconst (-1), 1) := by decide +kernel
theorem d_87_29 : decode (zm_code 87) 29 = .ok (.if_icmp .eq 12, 3) := by decide +kernel
theorem d_87_32 : decode (zm_code 87) 32 = .ok (.aload_n 0, 1) := by decide +kernel
theorem d_87_33 : decode (zm_code 87) 33 = .ok (.bipush 6, 2) := by decide +kernel
theorem d_87_35 : decode (zm_code 87) 35 = .ok (.invokevirtual 127, 3) := by decide +kernel
theorem d_87_38 : decode (zm_code 87) 38 = .ok (.ifCond .ne 5, 3) := by decide +kernel
theorem d_87_41 : decode (zm_code 87) 41 = .ok (.iconst 0, 1) := by decide +kernel
theorem d_87_42 : decode (zm_code 87) 42 = .ok (.ireturn, 1) := by decide +kernel
theorem d_87_43 : decode (zm_code 87) 43 = .ok (.aload_n 0, 1) := by decide +kernel
theorem d_87_44 : decode (zm_code 87) 44 = .ok (.iconst 0, 1) := by decide +kernel
theorem d_87_45 : decode (zm_code 87) 45 = .ok (.iconst 3, 1) := by decide +kernel
theorem d_87_46 : decode (zm_code 87) 46 = .ok (.invokevirtual 130, 3) := by decide +kernel
theorem d_87_49 : decode (zm_code 87) 49 = .ok (.istore_n 3, 1) := by decide +kernel
theorem d_87_50 : decode (zm_code 87) 50 = .ok (.iload_n 3, 1) := by decide +kernel
theorem d_87_51 : decode (zm_code 87) 51 = .ok (.iconst (-1), 1) := by decide +kernel
theorem d_87_52 : decode (zm_code 87) 52 = .ok (.if_icmp .ne 5, 3) := by decide +kernel
theorem d_87_55 : decode (zm_code 87) 55 = .ok (.iconst 0, 1) := by decide +kernel
theorem d_87_56 : decode (zm_code 87) 56 = .ok (.ireturn, 1) := by decide +kernel
theorem d_87_57 : decode (zm_code 87) 57 = .ok (.aload_n 0, 1) := by decide +kernel
theorem d_87_58 : decode (zm_code 87) 58 = .ok (.getfield 20, 3) := by decide +kernel
theorem d_87_61 : decode (zm_code 87) 61 = .ok (.getfield 59, 3) := by decide +kernel
theorem d_87_64 : decode (zm_code 87) 64 = .ok (.bipush 7, 2) := by decide +kernel
theorem d_87_66 : decode (zm_code 87) 66 = .ok (.if_icmp .lt 15, 3) := by decide +kernel
theorem d_87_69 : decode (zm_code 87) 69 = .ok (.aload_n 0, 1) := by decide +kernel
theorem d_87_70 : decode (zm_code 87) 70 = .ok (.getfield 20, 3) := by decide +kernel
theorem d_87_73 : decode (zm_code 87) 73 = .ok (.getfield 59, 3) := by decide +kernel
theorem d_87_76 : decode (zm_code 87) 76 = .ok (.bipush 10, 2) := by decide +kernel
theorem d_87_78 : decode (zm_code 87) 78 = .ok (.if_icmp .le 8, 3) := by decide +kernel
theorem d_87_81 : decode (zm_code 87) 81 = .ok (.aload_n 0, 1) := by decide +kernel
theorem d_87_82 : decode (zm_code 87) 82 = .ok (.invokevirtual 69, 3) := by decide +kernel
theorem d_87_85 : decode (zm_code 87) 85 = .ok (.ireturn, 1) := by decide +kernel
theorem d_87_86 : decode (zm_code 87) 86 = .ok (.aload_n 0, 1) := by decide +kernel
theorem d_87_87 : decode (zm_code 87) 87 = .ok (.getfield 24, 3) := by decide +kernel
theorem d_87_90 : decode (zm_code 87) 90 = .ok (.getfield 163, 3) := by decide +kernel
theorem d_87_93 : decode (zm_code 87) 93 = .ok (.aload_n 0, 1) := by decide +kernel
theorem d_87_94 : decode (zm_code 87) 94 = .ok (.getfield 24, 3) := by decide +kernel
theorem d_87_97 : decode (zm_code 87) 97 = .ok (.getfield 120, 3) := by decide +kernel
theorem d_87_100 : decode (zm_code 87) 100 = .ok (.iload_n 1, 1) := by decide +kernel
theorem d_87_101 : decode (zm_code 87) 101 = .ok (.iastore, 1) := by decide +kernel
theorem d_87_102 : decode (zm_code 87) 102 = .ok (.aload_n 0, 1) := by decide +kernel
theorem d_87_103 : decode (zm_code 87) 103 = .ok (.getfield 24, 3) := by decide +kernel
theorem d_87_106 : decode (zm_code 87) 106 = .ok (.getfield 166, 3) := by decide +kernel
theorem d_87_109 : decode (zm_code 87) 109 = .ok (.aload_n 0, 1) := by decide +kernel
theorem d_87_110 : decode (zm_code 87) 110 = .ok (.getfield 24, 3) := by decide +kernel
theorem d_87_113 : decode (zm_code 87) 113 = .ok (.getfield 120, 3) := by decide +kernel
theorem d_87_116 : decode (zm_code 87) 116 = .ok (.iload_n 2, 1) := by decide +kernel
theorem d_87_117 : decode (zm_code 87) 117 = .ok (.iastore, 1) := by decide +kernel
theorem d_87_118 : decode (zm_code 87) 118 = .ok (.aload_n 0, 1) := by decide +kernel
theorem d_87_119 : decode (zm_code 87) 119 = .ok (.getfield 24, 3) := by decide +kernel
theorem d_87_122 : decode (zm_code 87) 122 = .ok (.getfield 169, 3) := by decide +kernel
theorem d_87_125 : decode (zm_code 87) 125 = .ok (.aload_n 0, 1) := by decide +kernel
theorem d_87_126 : decode (zm_code 87) 126 = .ok (.getfield 24, 3) := by decide +kernel
theorem d_87_129 : decode (zm_code 87) 129 = .ok (.getfield 120, 3) := by decide +kernel
theorem d_87_132 : decode (zm_code 87) 132 = .ok (.iload_n 3, 1) := by decide +kernel
theorem d_87_133 : decode (zm_code 87) 133 = .ok (.iastore, 1) := by decide +kernel
theorem d_87_134 : decode (zm_code 87) 134 = .ok (.aload_n 0, 1) := by decide +kernel
theorem d_87_135 : decode (zm_code 87) 135 = .ok (.getfield 24, 3) := by decide +kernel
theorem d_87_138 : decode (zm_code 87) 138 = .ok (.getfield 172, 3) := by decide +kernel
theorem d_87_141 : decode (zm_code 87) 141 = .ok (.aload_n 0, 1) := by decide +kernel
theorem d_87_142 : decode (zm_code 87) 142 = .ok (.getfield 24, 3) := by decide +kernel
theorem d_87_145 : decode (zm_code 87) 145 = .ok (.getfield 120, 3) := by decide +kernel
theorem d_87_148 : decode (zm_code 87) 148 = .ok (.aload_n 0, 1) := by decide +kernel
theorem d_87_149 : decode (zm_code 87) 149 = .ok (.getfield 20, 3) := by decide +kernel
theorem d_87_152 : decode (zm_code 87) 152 = .ok (.getfield 59, 3) := by decide +kernel
theorem d_87_155 : decode (zm_code 87) 155 = .ok (.bipush 7, 2) := by decide +kernel
theorem d_87_157 : decode (zm_code 87) 157 = .ok (.isub, 1) := by decide +kernel
theorem d_87_158 : decode (zm_code 87) 158 = .ok (.iastore, 1) := by decide +kernel
theorem d_87_159 : decode (zm_code 87) 159 = .ok (.aload_n 0, 1) := by decide +kernel
theorem d_87_160 : decode (zm_code 87) 160 = .ok (.getfield 24, 3) := by decide +kernel
theorem d_87_163 : decode (zm_code 87) 163 = .ok (.dup, 1) := by decide +kernel
theorem d_87_164 : decode (zm_code 87) 164 = .ok (.getfield 120, 3) := by decide +kernel
theorem d_87_167 : decode (zm_code 87) 167 = .ok (.iconst 1, 1) := by decide +kernel
theorem d_87_168 : decode (zm_code 87) 168 = .ok (.iadd, 1) := by decide +kernel
theorem d_87_169 : decode (zm_code 87) 169 = .ok (.putfield 120, 3) := by decide +kernel
theorem d_87_172 : decode (zm_code 87) 172 = .ok (.aload_n 0, 1) := by decide +kernel
theorem d_87_173 : decode (zm_code 87) 173 = .ok (.getfield 20, 3) := by decide +kernel
theorem d_87_176 : decode (zm_code 87) 176 = .ok (.invokevirtual 72, 3) := by decide +kernel
theorem d_87_179 : decode (zm_code 87) 179 = .ok (.iconst 1, 1) := by decide +kernel
theorem d_87_180 : decode (zm_code 87) 180 = .ok (.ireturn, 1) := by decide +kernel
theorem d_88_0 : decode (zm_code 88) 0 = .ok (.aload_n 0, 1) := by decide +kernel
theorem d_88_1 : decode (zm_code 88) 1 = .ok (.invokevirtual 150, 3) := by decide +kernel
theorem d_88_4 : decode (zm_code 88) 4 = .ok (.ifCond .ne 8, 3) := by decide +kernel
theorem d_88_7 : decode (zm_code 88) 7 = .ok (.aload_n 0, 1) := by decide +kernel
theorem d_88_8 : decode (zm_code 88) 8 = .ok (.invokevirtual 69, 3) := by decide +kernel
theorem d_88_11 : decode (zm_code 88) 11 = .ok (.ireturn, 1) := by decide +kernel
theorem d_88_12 : decode (zm_code 88) 12 = .ok (.aload_n 0, 1) := by decide +kernel
theorem d_88_13 : decode (zm_code 88) 13 = .ok (.getfield 24, 3) := by decide +kernel
theorem d_88_16 : decode (zm_code 88) 16 = .ok (.aload_n 0, 1) := by decide +kernel
theorem d_88_17 : decode (zm_code 88) 17 = .ok (.getfield 20, 3) := by decide +kernel
theorem d_88_20 : decode (zm_code 88) 20 = .ok (.getfield 153, 3) := by decide +kernel
theorem d_88_23 : decode (zm_code 88) 23 = .ok (.invokevirtual 175, 3) := by decide +kernel
theorem d_88_26 : decode (zm_code 88) 26 = .ok (.istore_n 1, 1) := by decide +kernel
theorem d_88_27 : decode (zm_code 88) 27 = .ok (.iload_n 1, 1) := by decide +kernel
theorem d_88_28 : decode (zm_code 88) 28 = .ok (.iconst (-1), 1) := by decide +kernel
theorem d_88_29 : decode (zm_code 88) 29 = .ok (.if_icmp .ne 16, 3) := by decide +kernel
theorem d_88_32 : decode (zm_code 88) 32 = .ok (.aload_n 0, 1) := by decide +kernel
theorem d_88_33 : decode (zm_code 88) 33 = .ok (.iconst 3, 1) := by decide +kernel
theorem d_88_34 : decode (zm_code 88) 34 = .ok (.aload_n 0, 1) := by decide +kernel
theorem d_88_35 : decode (zm_code 88) 35 = .ok (.getfield 20, 3) := by decide +kernel
theorem d_88_38 : decode (zm_code 88) 38 = .ok (.getfield 56, 3) := by decide +kernel
theorem d_88_41 : decode (zm_code 88) 41 = .ok (.invokevirtual 52, 3) := by decide +kernel
theorem d_88_44 : decode (zm_code 88) 44 = .ok (.ireturn, 1) := by decide +kernel
theorem d_88_45 : decode (zm_code 88) 45 = .ok (.aload_n 0, 1) := by decide +kernel
theorem d_88_46 : decode (zm_code 88) 46 = .ok (.getfield 20, 3) := by decide +kernel
theorem d_88_49 : decode (zm_code 88) 49 = .ok (.invokevirtual 72, 3) := by decide +kernel
theorem d_88_52 : decode (zm_code 88) 52 = .ok (.aload_n 0, 1) := by decide +kernel
theorem d_88_53 : decode (zm_code 88) 53 = .ok (.invokevirtual 150, 3) := by decide +kernel
theorem d_88_56 : decode (zm_code 88) 56 = .ok (.ifCond .ne 8, 3) := by decide +kernel
theorem d_88_59 : decode (zm_code 88) 59 = .ok (.aload_n 0, 1) := by decide +kernel
theorem d_88_60 : decode (zm_code 88) 60 = .ok (.invokevirtual 69, 3) := by decide +kernel
theorem d_88_63 : decode (zm_code 88) 63 = .ok (.ireturn, 1) := by decide +kernel
theorem d_88_64 : decode (zm_code 88) 64 = .ok (.aload_n 0, 1) := by decide +kernel
theorem d_88_65 : decode (zm_code 88) 65 = .ok (.getfield 24, 3) := by decide +kernel
theorem d_88_68 : decode (zm_code 88) 68 = .ok (.aload_n 0, 1) := by decide +kernel
theorem d_88_69 : decode (zm_code 88) 69 = .ok (.getfield 20, 3) := by decide +kernel
theorem d_88_72 : decode (zm_code 88) 72 = .ok (.getfield 153, 3) := by decide +kernel
theorem d_88_75 : decode (zm_code 88) 75 = .ok (.invokevirtual 156, 3) := by decide +kernel
theorem d_88_78 : decode (zm_code 88) 78 = .ok (.istore_n 2, 1) := by decide +kernel
theorem d_88_79 : decode (zm_code 88) 79 = .ok (.iload_n 2, 1) := by decide +kernel
theorem d_88_80 : decode (zm_code 88) 80 = .ok (.iconst (-1), 1) := by decide +kernel
theorem d_88_81 : decode (zm_code 88) 81 = .ok (.if_icmp .ne 16, 3) := by decide +kernel
theorem d_88_84 : decode (zm_code 88) 84 = .ok (.aload_n 0, 1) := by decide +kernel
theorem d_88_85 : decode (zm_code 88) 85 = .ok (.iconst 3, 1) := by decide +kernel
theorem d_88_86 : decode (zm_code 88) 86 = .ok (.aload_n 0, 1) := by decide +kernel
theorem d_88_87 : decode (zm_code 88) 87 = .ok (.getfield 20, 3) := by decide +kernel
theorem d_88_90 : decode (zm_code 88) 90 = .ok (.getfield 56, 3) := by decide +kernel
theorem d_88_93 : decode (zm_code 88) 93 = .ok (.invokevirtual 52, 3) := by decide +kernel
theorem d_88_96 : decode (zm_code 88) 96 = .ok (.ireturn, 1) := by decide +kernel
theorem d_88_97 : decode (zm_code 88) 97 = .ok (.aload_n 0, 1) := by decide +kernel
theorem d_88_98 : decode (zm_code 88) 98 = .ok (.getfield 20, 3) := by decide +kernel
theorem d_88_101 : decode (zm_code 88) 101 = .ok (.invokevirtual 72, 3) := by decide +kernel
theorem d_88_104 : decode (zm_code 88) 104 = .ok (.aload_n 0, 1) := by decide +kernel
theorem d_88_105 : decode (zm_code 88) 105 = .ok (.iconst 0, 1) := by decide +kernel
theorem d_88_106 : decode (zm_code 88) 106 = .ok (.bipush 99, 2) := by decide +kernel
theorem d_88_108 : decode (zm_code 88) 108 = .ok (.invokevirtual 130, 3) := by decide +kernel
theorem d_88_111 : decode (zm_code 88) 111 = .ok (.istore_n 3, 1) := by decide +kernel
theorem d_88_112 : decode (zm_code 88) 112 = .ok (.iload_n 3, 1) := by decide +kernel
theorem d_88_113 : decode (zm_code 88) 113 = .ok (.iconst (-1), 1) := by decide +kernel
theorem d_88_114 : decode (zm_code 88) 114 = .ok (.if_icmp .ne 5, 3) := by decide +kernel
theorem d_88_117 : decode (zm_code 88) 117 = .ok (.iconst 0, 1) := by decide +kernel
theorem d_88_118 : decode (zm_code 88) 118 = .ok (.ireturn, 1) := by decide +kernel
theorem d_88_119 : decode (zm_code 88) 119 = .ok (.aload_n 0, 1) := by decide +kernel
theorem d_88_120 : decode (zm_code 88) 120 = .ok (.getfield 24, 3) := by decide +kernel
theorem d_88_123 : decode (zm_code 88) 123 = .ok (.getfield 178, 3) := by decide +kernel
theorem d_88_126 : decode (zm_code 88) 126 = .ok (.iload_n 1, 1) := by decide +kernel
theorem d_88_127 : decode (zm_code 88) 127 = .ok (.bipush 8, 2) := by decide +kernel
theorem d_88_129 : decode (zm_code 88) 129 = .ok (.imul, 1) := by decide +kernel
theorem d_88_130 : decode (zm_code 88) 130 = .ok (.iload_n 2, 1) := by decide +kernel
theorem d_88_131 : decode (zm_code 88) 131 = .ok (.iadd, 1) := by decide +kernel
theorem d_88_132 : decode (zm_code 88) 132 = .ok (.iload_n 3, 1) := by decide +kernel
theorem d_88_133 : decode (zm_code 88) 133 = .ok (.iastore, 1) := by decide +kernel
theorem d_88_134 : decode (zm_code 88) 134 = .ok (.iconst 1, 1) := by decide +kernel
theorem d_88_135 : decode (zm_code 88) 135 = .ok (.ireturn, 1) := by decide +kernel
theorem d_89_0 : decode (zm_code 89) 0 = .ok (.aload_n 0, 1) := by decide +kernel
theorem d_89_1 : decode (zm_code 89) 1 = .ok (.iconst 0, 1) := by decide +kernel
theorem d_89_2 : decode (zm_code 89) 2 = .ok (.sipush 999, 3) := by decide +kernel
theorem d_89_5 : decode (zm_code 89) 5 = .ok (.invokevirtual 130, 3) := by decide +kernel
theorem d_89_8 : decode (zm_code 89) 8 = .ok (.istore_n 1, 1) := by decide +kernel
theorem d_89_9 : decode (zm_code 89) 9 = .ok (.iload_n 1, 1) := by decide +kernel
theorem d_89_10 : decode (zm_code 89) 10 = .ok (.iconst (-1), 1) := by decide +kernel
theorem d_89_11 : decode (zm_code 89) 11 = .ok (.if_icmp .ne 5, 3) := by decide +kernel
theorem d_89_14 : decode (zm_code 89) 14 = .ok (.iconst 0, 1) := by decide +kernel
theorem d_89_15 : decode (zm_code 89) 15 = .ok (.ireturn, 1) := by decide +kernel
theorem d_89_16 : decode (zm_code 89) 16 = .ok (.aload_n 0, 1) := by decide +kernel
theorem d_89_17 : decode (zm_code 89) 17 = .ok (.getfield 24, 3) := by decide +kernel
theorem d_89_20 : decode (zm_code 89) 20 = .ok (.iload_n 1, 1) := by decide +kernel
theorem d_89_21 : decode (zm_code 89) 21 = .ok (.putfield 181, 3) := by decide +kernel
theorem d_89_24 : decode (zm_code 89) 24 = .ok (.iconst 1, 1) := by decide +kernel
theorem d_89_25 : decode (zm_code 89) 25 = .ok (.ireturn, 1) := by decide +kernel
theorem d_90_0 : decode (zm_code 90) 0 = .ok (.aload_n 0, 1) := by decide +kernel
theorem d_90_1 : decode (zm_code 90) 1 = .ok (.iload_n 1, 1) := by decide +kernel
theorem d_90_2 : decode (zm_code 90) 2 = .ok (.invokevirtual 203, 3) := by decide +kernel
theorem d_90_5 : decode (zm_code 90) 5 = .ok (.ifCond .ne 5, 3) := by decide +kernel
theorem d_90_8 : decode (zm_code 90) 8 = .ok (.iconst 0, 1) := by decide +kernel
theorem d_90_9 : decode (zm_code 90) 9 = .ok (.ireturn, 1) := by decide +kernel
theorem d_90_10 : decode (zm_code 90) 10 = .ok (.iconst 0, 1) := by decide +kernel
theorem d_90_11 : decode (zm_code 90) 11 = .ok (.istore_n 2, 1) := by decide +kernel
theorem d_90_12 : decode (zm_code 90) 12 = .ok (.iload_n 2, 1) := by decide +kernel
theorem d_90_13 : decode (zm_code 90) 13 = .ok (.sipush 1600, 3) := by decide +kernel
theorem d_90_16 : decode (zm_code 90) 16 = .ok (.if_icmp .ge 45, 3) := by decide +kernel
theorem d_90_19 : decode (zm_code 90) 19 = .ok (.aload_n 0, 1) := by decide +kernel
theorem d_90_20 : decode (zm_code 90) 20 = .ok (.invokevirtual 206, 3) := by decide +kernel
theorem d_90_23 : decode (zm_code 90) 23 = .ok (.istore_n 3, 1) := by decide +kernel
theorem d_90_24 : decode (zm_code 90) 24 = .ok (.iload_n 3, 1) := by decide +kernel
theorem d_90_25 : decode (zm_code 90) 25 = .ok (.ifCond .ne 5, 3) := by decide +kernel
theorem d_90_28 : decode (zm_code 90) 28 = .ok (.iconst 1, 1) := by decide +kernel
theorem d_90_29 : decode (zm_code 90) 29 = .ok (.ireturn, 1) := by decide +kernel
theorem d_90_30 : decode (zm_code 90) 30 = .ok (.aload_n 0, 1) := by decide +kernel
theorem d_90_31 : decode (zm_code 90) 31 = .ok (.getfield 20, 3) := by decide +kernel
theorem d_90_34 : decode (zm_code 90) 34 = .ok (.invokevirtual 72, 3) := by decide +kernel
theorem d_90_37 : decode (zm_code 90) 37 = .ok (.aload_n 0, 1) := by decide +kernel
theorem d_90_38 : decode (zm_code 90) 38 = .ok (.iload_n 1, 1) := by decide +kernel
theorem d_90_39 : decode (zm_code 90) 39 = .ok (.invokevirtual 203, 3) := by decide +kernel
theorem d_90_42 : decode (zm_code 90) 42 = .ok (.ifCond .ne 5, 3) := by decide +kernel
theorem d_90_45 : decode (zm_code 90) 45 = .ok (.iconst 0, 1) := by decide +kernel
theorem d_90_46 : decode (zm_code 90) 46 = .ok (.ireturn, 1) := by decide +kernel
theorem d_90_47 : decode (zm_code 90) 47 = .ok (.aload_n 0, 1) := by decide +kernel
theorem d_90_48 : decode (zm_code 90) 48 = .ok (.getfield 24, 3) := by decide +kernel
theorem d_90_51 : decode (zm_code 90) 51 = .ok (.iload_n 3, 1) := by decide +kernel
theorem d_90_52 : decode (zm_code 90) 52 = .ok (.invokevirtual 190, 3) := by decide +kernel
theorem d_90_55 : decode (zm_code 90) 55 = .ok (.iinc 2 1, 3) := by decide +kernel
theorem d_90_58 : decode (zm_code 90) 58 = .ok (.goto (-46), 3) := by decide +kernel
theorem d_90_61 : decode (zm_code 90) 61 = .ok (.iconst 1, 1) := by decide +kernel
theorem d_90_62 : decode (zm_code 90) 62 = .ok (.ireturn, 1) := by decide +kernel
theorem d_91_0 : decode (zm_code 91) 0 = .ok (.aload_n 0, 1) := by decide +kernel
theorem d_91_1 : decode (zm_code 91) 1 = .ok (.iload_n 1, 1) := by decide +kernel
theorem d_91_2 : decode (zm_code 91) 2 = .ok (.invokevirtual 209, 3) := by decide +kernel
theorem d_91_5 : decode (zm_code 91) 5 = .ok (.ifCond .ne 5, 3) := by decide +kernel
theorem d_91_8 : decode (zm_code 91) 8 = .ok (.iconst 0, 1) := by decide +kernel
theorem d_91_9 : decode (zm_code 91) 9 = .ok (.ireturn, 1) := by decide +kernel
theorem d_91_10 : decode (zm_code 91) 10 = .ok (.iconst 0, 1) := by decide +kernel
theorem d_91_11 : decode (zm_code 91) 11 = .ok (.istore_n 2, 1) := by decide +kernel
theorem d_91_12 : decode (zm_code 91) 12 = .ok (.iload_n 2, 1) := by decide +kernel
theorem d_91_13 : decode (zm_code 91) 13 = .ok (.sipush 1600, 3) := by decide +kernel
theorem d_91_16 : decode (zm_code 91) 16 = .ok (.if_icmp .ge 45, 3) := by decide +kernel
theorem d_91_19 : decode (zm_code 91) 19 = .ok (.aload_n 0, 1) := by decide +kernel
theorem d_91_20 : decode (zm_code 91) 20 = .ok (.invokevirtual 212, 3) := by decide +kernel
theorem d_91_23 : decode (zm_code 91) 23 = .ok (.istore_n 3, 1) := by decide +kernel
theorem d_91_24 : decode (zm_code 91) 24 = .ok (.iload_n 3, 1) := by decide +kernel
theorem d_91_25 : decode (zm_code 91) 25 = .ok (.ifCond .ne 5, 3) := by decide +kernel
theorem d_91_28 : decode (zm_code 91) 28 = .ok (.iconst 1, 1) := by decide +kernel
theorem d_91_29 : decode (zm_code 91) 29 = .ok (.ireturn, 1) := by decide +kernel
theorem d_91_30 : decode (zm_code 91) 30 = .ok (.aload_n 0, 1) := by decide +kernel
theorem d_91_31 : decode (zm_code 91) 31 = .ok (.getfield 20, 3) := by decide +kernel
theorem d_91_34 : decode (zm_code 91) 34 = .ok (.invokevirtual 72, 3) := by decide +kernel
theorem d_91_37 : decode (zm_code 91) 37 = .ok (.aload_n 0, 1) := by decide +kernel
theorem d_91_38 : decode (zm_code 91) 38 = .ok (.iload_n 1, 1) := by decide +kernel
theorem d_91_39 : decode (zm_code 91) 39 = .ok (.invokevirtual 209, 3) := by decide +kernel
theorem d_91_42 : decode (zm_code 91) 42 = .ok (.ifCond .ne 5, 3) := by decide +kernel
theorem d_91_45 : decode (zm_code 91) 45 = .ok (.iconst 0, 1) := by decide +kernel
theorem d_91_46 : decode (zm_code 91) 46 = .ok (.ireturn, 1) := by decide +kernel
theorem d_91_47 : decode (zm_code 91) 47 = .ok (.aload_n 0, 1) := by decide +kernel
theorem d_91_48 : decode (zm_code 91) 48 = .ok (.getfield 24, 3) := by decide +kernel
theorem d_91_51 : decode (zm_code 91) 51 = .ok (.iload_n 3, 1) := by decide +kernel
theorem d_91_52 : decode (zm_code 91) 52 = .ok (.invokevirtual 190, 3) := by decide +kernel
theorem d_91_55 : decode (zm_code 91) 55 = .ok (.iinc 2 1, 3) := by decide +kernel
theorem d_91_58 : decode (zm_code 91) 58 = .ok (.goto (-46), 3) := by decide +kernel
theorem d_91_61 : decode (zm_code 91) 61 = .ok (.iconst 1, 1) := by decide +kernel
theorem d_91_62 : decode (zm_code 91) 62 = .ok (.ireturn, 1) := by decide +kernel
theorem d_92_0 : decode (zm_code 92) 0 = .ok (.aload_n 0, 1) := by decide +kernel
theorem d_92_1 : decode (zm_code 92) 1 = .ok (.getfield 20, 3) := by decide +kernel
theorem d_92_4 : decode (zm_code 92) 4 = .ok (.bipush 40, 2) := by decide +kernel
theorem d_92_6 : decode (zm_code 92) 6 = .ok (.invokevirtual 147, 3) := by decide +kernel
theorem d_92_9 : decode (zm_code 92) 9 = .ok (.ifCond .eq 36, 3) := by decide +kernel
theorem d_92_12 : decode (zm_code 92) 12 = .ok (.aload_n 0, 1) := by decide +kernel
theorem d_92_13 : decode (zm_code 92) 13 = .ok (.iload_n 1, 1) := by decide +kernel
theorem d_92_14 : decode (zm_code 92) 14 = .ok (.invokevirtual 197, 3) := by decide +kernel
theorem d_92_17 : decode (zm_code 92) 17 = .ok (.ifCond .eq 26, 3) := by decide +kernel
theorem d_92_20 : decode (zm_code 92) 20 = .ok (.aload_n 0, 1) := by decide +kernel
theorem d_92_21 : decode (zm_code 92) 21 = .ok (.iload_n 1, 1) := by decide +kernel
theorem d_92_22 : decode (zm_code 92) 22 = .ok (.iconst 1, 1) := by decide +kernel
theorem d_92_23 : decode (zm_code 92) 23 = .ok (.iadd, 1) := by decide +kernel
theorem d_92_24 : decode (zm_code 92) 24 = .ok (.invokevirtual 93, 3) := by decide +kernel
theorem d_92_27 : decode (zm_code 92) 27 = .ok (.ifCond .eq 16, 3) := by decide +kernel
theorem d_92_30 : decode (zm_code 92) 30 = .ok (.aload_n 0, 1) := by decide +kernel
theorem d_92_31 : decode (zm_code 92) 31 = .ok (.bipush 41, 2) := by decide +kernel
theorem d_92_33 : decode (zm_code 92) 33 = .ok (.invokevirtual 111, 3) := by decide +kernel
theorem d_92_36 : decode (zm_code 92) 36 = .ok (.ifCond .eq 7, 3) := by decide +kernel
theorem d_92_39 : decode (zm_code 92) 39 = .ok (.iconst 1, 1) := by decide +kernel
theorem d_92_40 : decode (zm_code 92) 40 = .ok (.goto 4, 3) := by decide +kernel
theorem d_92_43 : decode (zm_code 92) 43 = .ok (.iconst 0, 1) := by decide +kernel
theorem d_92_44 : decode (zm_code 92) 44 = .ok (.ireturn, 1) := by decide +kernel
theorem d_92_45 : decode (zm_code 92) 45 = .ok (.aload_n 0, 1) := by decide +kernel
theorem d_92_46 : decode (zm_code 92) 46 = .ok (.getfield 20, 3) := by decide +kernel
theorem d_92_49 : decode (zm_code 92) 49 = .ok (.bipush 23, 2) := by decide +kernel
theorem d_92_51 : decode (zm_code 92) 51 = .ok (.invokevirtual 184, 3) := by decide +kernel
theorem d_92_54 : decode (zm_code 92) 54 = .ok (.ifCond .eq 11, 3) := by decide +kernel
theorem d_92_57 : decode (zm_code 92) 57 = .ok (.aload_n 0, 1) := by decide +kernel
theorem d_92_58 : decode (zm_code 92) 58 = .ok (.iload_n 1, 1) := by decide +kernel
theorem d_92_59 : decode (zm_code 92) 59 = .ok (.bipush (-16), 2) := by decide +kernel
theorem d_92_61 : decode (zm_code 92) 61 = .ok (.invokevirtual 215, 3) := by decide +kernel
theorem d_92_64 : decode (zm_code 92) 64 = .ok (.ireturn, 1) := by decide +kernel
theorem d_92_65 : decode (zm_code 92) 65 = .ok (.aload_n 0, 1) := by decide +kernel
theorem d_92_66 : decode (zm_code 92) 66 = .ok (.getfield 20, 3) := by decide +kernel
theorem d_92_69 : decode (zm_code 92) 69 = .ok (.bipush 24, 2) := by decide +kernel
theorem d_92_71 : decode (zm_code 92) 71 = .ok (.invokevirtual 184, 3) := by decide +kernel
theorem d_92_74 : decode (zm_code 92) 74 = .ok (.ifCond .eq 11, 3) := by decide +kernel
theorem d_92_77 : decode (zm_code 92) 77 = .ok (.aload_n 0, 1) := by decide +kernel
theorem d_92_78 : decode (zm_code 92) 78 = .ok (.iload_n 1, 1) := by decide +kernel
theorem d_92_79 : decode (zm_code 92) 79 = .ok (.bipush (-17), 2) := by decide +kernel
theorem d_92_81 : decode (zm_code 92) 81 = .ok (.invokevirtual 215, 3) := by decide +kernel
theorem d_92_84 : decode (zm_code 92) 84 = .ok (.ireturn, 1) := by decide +kernel
theorem d_92_85 : decode (zm_code 92) 85 = .ok (.aload_n 0, 1) := by decide +kernel
theorem d_92_86 : decode (zm_code 92) 86 = .ok (.getfield 20, 3) := by decide +kernel
theorem d_92_89 : decode (zm_code 92) 89 = .ok (.getfield 39, 3) := by decide +kernel
theorem d_92_92 : decode (zm_code 92) 92 = .ok (.iconst 2, 1) := by decide +kernel
theorem d_92_93 : decode (zm_code 92) 93 = .ok (.if_icmp .ne 20, 3) := by decide +kernel
theorem d_92_96 : decode (zm_code 92) 96 = .ok (.aload_n 0, 1) := by decide +kernel
theorem d_92_97 : decode (zm_code 92) 97 = .ok (.getfield 24, 3) := by decide +kernel
theorem d_92_100 : decode (zm_code 92) 100 = .ok (.aload_n 0, 1) := by decide +kernel
theorem d_92_101 : decode (zm_code 92) 101 = .ok (.getfield 20, 3) := by decide +kernel
theorem d_92_104 : decode (zm_code 92) 104 = .ok (.getfield 153, 3) := by decide +kernel
theorem d_92_107 : decode (zm_code 92) 107 = .ok (.invokevirtual 190, 3) := by decide +kernel
theorem d_92_110 : decode (zm_code 92) 110 = .ok (.goto 34, 3) := by decide +kernel
theorem d_92_113 : decode (zm_code 92) 113 = .ok (.aload_n 0, 1) := by decide +kernel
theorem d_92_114 : decode (zm_code 92) 114 = .ok (.getfield 20, 3) := by decide +kernel
theorem d_92_117 : decode (zm_code 92) 117 = .ok (.getfield 59, 3) := by decide +kernel
theorem d_92_120 : decode (zm_code 92) 120 = .ok (.invokestatic 218, 3) := by decide +kernel
theorem d_92_123 : decode (zm_code 92) 123 = .ok (.istore_n 2, 1) := by decide +kernel
theorem d_92_124 : decode (zm_code 92) 124 = .ok (.iload_n 2, 1) := by decide +kernel
theorem d_92_125 : decode (zm_code 92) 125 = .ok (.iconst (-1), 1) := by decide +kernel
theorem d_92_126 : decode (zm_code 92) 126 = .ok (.if_icmp .ne 8, 3) := by decide +kernel
theorem d_92_129 : decode (zm_code 92) 129 = .ok (.aload_n 0, 1) := by decide +kernel
theorem d_92_130 : decode (zm_code 92) 130 = .ok (.invokevirtual 69, 3) := by decide +kernel
theorem d_92_133 : decode (zm_code 92) 133 = .ok (.ireturn, 1) := by decide +kernel
theorem d_92_134 : decode (zm_code 92) 134 = .ok (.aload_n 0, 1) := by decide +kernel
theorem d_92_135 : decode (zm_code 92) 135 = .ok (.getfield 24, 3) := by decide +kernel
theorem d_92_138 : decode (zm_code 92) 138 = .ok (.iconst (-1), 1) := by decide +kernel
theorem d_92_139 : decode (zm_code 92) 139 = .ok (.iload_n 2, 1) := by decide +kernel
theorem d_92_140 : decode (zm_code 92) 140 = .ok (.isub, 1) := by decide +kernel
theorem d_92_141 : decode (zm_code 92) 141 = .ok (.invokevirtual 190, 3) := by decide +kernel
theorem d_92_144 : decode (zm_code 92) 144 = .ok (.aload_n 0, 1) := by decide +kernel
theorem d_92_145 : decode (zm_code 92) 145 = .ok (.getfield 20, 3) := by decide +kernel
theorem d_92_148 : decode (zm_code 92) 148 = .ok (.invokevirtual 72, 3) := by decide +kernel
theorem d_92_151 : decode (zm_code 92) 151 = .ok (.iconst 1, 1) := by decide +kernel
theorem d_92_152 : decode (zm_code 92) 152 = .ok (.ireturn, 1) := by decide +kernel
theorem d_93_0 : decode (zm_code 93) 0 = .ok (.iload_n 1, 1) := by decide +kernel
theorem d_93_1 : decode (zm_code 93) 1 = .ok (.bipush 7, 2) := by decide +kernel
theorem d_93_3 : decode (zm_code 93) 3 = .ok (.if_icmp .lt 16, 3) := by decide +kernel
theorem d_93_6 : decode (zm_code 93) 6 = .ok (.aload_n 0, 1) := by decide +kernel
theorem d_93_7 : decode (zm_code 93) 7 = .ok (.iconst 5, 1) := by decide +kernel
theorem d_93_8 : decode (zm_code 93) 8 = .ok (.aload_n 0, 1) := by decide +kernel
theorem d_93_9 : decode (zm_code 93) 9 = .ok (.getfield 20, 3) := by decide +kernel
theorem d_93_12 : decode (zm_code 93) 12 = .ok (.getfield 56, 3) := by decide +kernel
theorem d_93_15 : decode (zm_code 93) 15 = .ok (.invokevirtual 52, 3) := by decide +kernel
theorem d_93_18 : decode (zm_code 93) 18 = .ok (.ireturn, 1) := by decide +kernel
theorem d_93_19 : decode (zm_code 93) 19 = .ok (.aload_n 0, 1) := by decide +kernel
theorem d_93_20 : decode (zm_code 93) 20 = .ok (.getfield 20, 3) := by decide +kernel
theorem d_93_23 : decode (zm_code 93) 23 = .ok (.invokevirtual 72, 3) := by decide +kernel
theorem d_93_26 : decode (zm_code 93) 26 = .ok (.iconst 1, 1) := by decide +kernel
theorem d_93_27 : decode (zm_code 93) 27 = .ok (.ireturn, 1) := by decide +kernel
theorem d_94_0 : decode (zm_code 94) 0 = .ok (.aload_n 0, 1) := by decide +kernel
theorem d_94_1 : decode (zm_code 94) 1 = .ok (.getfield 20, 3) := by decide +kernel
theorem d_94_4 : decode (zm_code 94) 4 = .ok (.iload_n 1, 1) := by decide +kernel
theorem d_94_5 : decode (zm_code 94) 5 = .ok (.invokevirtual 147, 3) := by decide +kernel
theorem d_94_8 : decode (zm_code 94) 8 = .ok (.ifCond .ne 8, 3) := by decide +kernel
theorem d_94_11 : decode (zm_code 94) 11 = .ok (.aload_n 0, 1) := by decide +kernel
theorem d_94_12 : decode (zm_code 94) 12 = .ok (.invokevirtual 69, 3) := by decide +kernel
theorem d_94_15 : decode (zm_code 94) 15 = .ok (.ireturn, 1) := by decide +kernel
theorem d_94_16 : decode (zm_code 94) 16 = .ok (.aload_n 0, 1) := by decide +kernel
theorem d_94_17 : decode (zm_code 94) 17 = .ok (.getfield 20, 3) := by decide +kernel
theorem d_94_20 : decode (zm_code 94) 20 = .ok (.invokevirtual 72, 3) := by decide +kernel
theorem d_94_23 : decode (zm_code 94) 23 = .ok (.iconst 1, 1) := by decide +kernel
theorem d_94_24 : decode (zm_code 94) 24 = .ok (.ireturn, 1) := by decide +kernel
theorem d_95_0 : decode (zm_code 95) 0 = .ok (.aload_n 0, 1) := by decide +kernel
theorem d_95_1 : decode (zm_code 95) 1 = .ok (.getfield 20, 3) := by decide +kernel
theorem d_95_4 : decode (zm_code 95) 4 = .ok (.invokevirtual 72, 3) := by decide +kernel
theorem d_95_7 : decode (zm_code 95) 7 = .ok (.aload_n 0, 1) := by decide +kernel
theorem d_95_8 : decode (zm_code 95) 8 = .ok (.getfield 20, 3) := by decide +kernel
theorem d_95_11 : decode (zm_code 95) 11 = .ok (.bipush 40, 2) := by decide +kernel
theorem d_95_13 : decode (zm_code 95) 13 = .ok (.invokevirtual 147, 3) := by decide +kernel
theorem d_95_16 : decode (zm_code 95) 16 = .ok (.ifCond .ne 8, 3) := by decide +kernel
theorem d_95_19 : decode (zm_code 95) 19 = .ok (.aload_n 0, 1) := by decide +kernel
theorem d_95_20 : decode (zm_code 95) 20 = .ok (.invokevirtual 69, 3) := by decide +kernel
theorem d_95_23 : decode (zm_code 95) 23 = .ok (.ireturn, 1) := by decide +kernel
theorem d_95_24 : decode (zm_code 95) 24 = .ok (.aload_n 0, 1) := by decide +kernel
theorem d_95_25 : decode (zm_code 95) 25 = .ok (.iload_n 1, 1) := by decide +kernel
theorem d_95_26 : decode (zm_code 95) 26 = .ok (.invokevirtual 197, 3) := by decide +kernel
theorem d_95_29 : decode (zm_code 95) 29 = .ok (.ifCond .eq 22, 3) := by decide +kernel
theorem d_95_32 : decode (zm_code 95) 32 = .ok (.aload_n 0, 1) := by decide +kernel
theorem d_95_33 : decode (zm_code 95) 33 = .ok (.iload_n 1, 1) := by decide +kernel
theorem d_95_34 : decode (zm_code 95) 34 = .ok (.iconst 1, 1) := by decide +kernel
theorem d_95_35 : decode (zm_code 95) 35 = .ok (.iadd, 1) := by decide +kernel
theorem d_95_36 : decode (zm_code 95) 36 = .ok (.invokevirtual 93, 3) := by decide +kernel
theorem d_95_39 : decode (zm_code 95) 39 = .ok (.ifCond .eq 12, 3) := by decide +kernel
theorem d_95_42 : decode (zm_code 95) 42 = .ok (.aload_n 0, 1) := by decide +kernel
theorem d_95_43 : decode (zm_code 95) 43 = .ok (.bipush 44, 2) := by decide +kernel
theorem d_95_45 : decode (zm_code 95) 45 = .ok (.invokevirtual 111, 3) := by decide +kernel
theorem d_95_48 : decode (zm_code 95) 48 = .ok (.ifCond .ne 5, 3) := by decide +kernel
theorem d_95_51 : decode (zm_code 95) 51 = .ok (.iconst 0, 1) := by decide +kernel
theorem d_95_52 : decode (zm_code 95) 52 = .ok (.ireturn, 1) := by decide +kernel
theorem d_95_53 : decode (zm_code 95) 53 = .ok (.aload_n 0, 1) := by decide +kernel
theorem d_95_54 : decode (zm_code 95) 54 = .ok (.iload_n 1, 1) := by decide +kernel
theorem d_95_55 : decode (zm_code 95) 55 = .ok (.iconst 1, 1) := by decide +kernel
theorem d_95_56 : decode (zm_code 95) 56 = .ok (.iadd, 1) := by decide +kernel
theorem d_95_57 : decode (zm_code 95) 57 = .ok (.invokevirtual 93, 3) := by decide +kernel
theorem d_95_60 : decode (zm_code 95) 60 = .ok (.ifCond .eq 12, 3) := by decide +kernel
theorem d_95_63 : decode (zm_code 95) 63 = .ok (.aload_n 0, 1) := by decide +kernel
theorem d_95_64 : decode (zm_code 95) 64 = .ok (.bipush 41, 2) := by decide +kernel
theorem d_95_66 : decode (zm_code 95) 66 = .ok (.invokevirtual 111, 3) := by decide +kernel
theorem d_95_69 : decode (zm_code 95) 69 = .ok (.ifCond .ne 5, 3) := by decide +kernel
theorem d_95_72 : decode (zm_code 95) 72 = .ok (.iconst 0, 1) := by decide +kernel
theorem d_95_73 : decode (zm_code 95) 73 = .ok (.ireturn, 1) := by decide +kernel
theorem d_95_74 : decode (zm_code 95) 74 = .ok (.aload_n 0, 1) := by decide +kernel
theorem d_95_75 : decode (zm_code 95) 75 = .ok (.getfield 24, 3) := by decide +kernel
theorem d_95_78 : decode (zm_code 95) 78 = .ok (.iload_n 2, 1) := by decide +kernel
theorem d_95_79 : decode (zm_code 95) 79 = .ok (.invokevirtual 190, 3) := by decide +kernel
theorem d_95_82 : decode (zm_code 95) 82 = .ok (.iconst 1, 1) := by decide +kernel
theorem d_95_83 : decode (zm_code 95) 83 = .ok (.ireturn, 1) := by decide +kernel
theorem d_96_0 : decode (zm_code 96) 0 = .ok (.iload_n 0, 1) := by decide +kernel
theorem d_96_1 : decode (zm_code 96) 1 = .ok (.tableswitch 99 1 18 #[93, 95, 99, 99, 99, 99, 99, 99, 99, 99, 99, 99, 99, 99, 87, 89, 91, 97], 87) := by decide +kernel
theorem d_96_88 : decode (zm_code 96) 88 = .ok (.iconst 0, 1) := by decide +kernel
theorem d_96_89 : decode (zm_code 96) 89 = .ok (.ireturn, 1) := by decide +kernel
theorem d_96_90 : decode (zm_code 96) 90 = .ok (.iconst 1, 1) := by decide +kernel
theorem d_96_91 : decode (zm_code 96) 91 = .ok (.ireturn, 1) := by decide +kernel
theorem d_96_92 : decode (zm_code 96) 92 = .ok (.iconst 2, 1) := by decide +kernel
theorem d_96_93 : decode (zm_code 96) 93 = .ok (.ireturn, 1) := by decide +kernel
theorem d_96_94 : decode (zm_code 96) 94 = .ok (.iconst 3, 1) := by decide +kernel
theorem d_96_95 : decode (zm_code 96) 95 = .ok (.ireturn, 1) := by decide +kernel
theorem d_96_96 : decode (zm_code 96) 96 = .ok (.iconst 4, 1) := by decide +kernel
theorem d_96_97 : decode (zm_code 96) 97 = .ok (.ireturn, 1) := by decide +kernel
theorem d_96_98 : decode (zm_code 96) 98 = .ok (.iconst 5, 1) := by decide +kernel
theorem d_96_99 : decode (zm_code 96) 99 = .ok (.ireturn, 1) := by decide +kernel
theorem d_96_100 : decode (zm_code 96) 100 = .ok (.iconst (-1), 1) := by decide +kernel
theorem d_96_101 : decode (zm_code 96) 101 = .ok (.ireturn, 1) := by decide +kernel
theorem d_97_0 : decode (zm_code 97) 0 = .ok (.aload_n 0, 1) := by decide +kernel
theorem d_97_1 : decode (zm_code 97) 1 = .ok (.getfield 20, 3) := by decide +kernel
theorem d_97_4 : decode (zm_code 97) 4 = .ok (.bipush 42, 2) := by decide +kernel
theorem d_97_6 : decode (zm_code 97) 6 = .ok (.invokevirtual 147, 3) := by decide +kernel
theorem d_97_9 : decode (zm_code 97) 9 = .ok (.ifCond .eq 6, 3) := by decide +kernel
theorem d_97_12 : decode (zm_code 97) 12 = .ok (.bipush (-13), 2) := by decide +kernel
theorem d_97_14 : decode (zm_code 97) 14 = .ok (.ireturn, 1) := by decide +kernel
theorem d_97_15 : decode (zm_code 97) 15 = .ok (.aload_n 0, 1) := by decide +kernel
theorem d_97_16 : decode (zm_code 97) 16 = .ok (.getfield 20, 3) := by decide +kernel
theorem d_97_19 : decode (zm_code 97) 19 = .ok (.bipush 47, 2) := by decide +kernel
theorem d_97_21 : decode (zm_code 97) 21 = .ok (.invokevirtual 147, 3) := by decide +kernel
theorem d_97_24 : decode (zm_code 97) 24 = .ok (.ifCond .eq 6, 3) := by decide +kernel
theorem d_97_27 : decode (zm_code 97) 27 = .ok (.bipush (-14), 2) := by decide +kernel
theorem d_97_29 : decode (zm_code 97) 29 = .ok (.ireturn, 1) := by decide +kernel
theorem d_97_30 : decode (zm_code 97) 30 = .ok (.aload_n 0, 1) := by decide +kernel
theorem d_97_31 : decode (zm_code 97) 31 = .ok (.getfield 20, 3) := by decide +kernel
theorem d_97_34 : decode (zm_code 97) 34 = .ok (.bipush 37, 2) := by decide +kernel
theorem d_97_36 : decode (zm_code 97) 36 = .ok (.invokevirtual 147, 3) := by decide +kernel
theorem d_97_39 : decode (zm_code 97) 39 = .ok (.ifCond .eq 8, 3) := by decide +kernel
theorem d_97_42 : decode (zm_code 97) 42 = .ok (.bipush (-15), 2) := by decide +kernel
theorem d_97_44 : decode (zm_code 97) 44 = .ok (.goto 4, 3) := by decide +kernel
theorem d_97_47 : decode (zm_code 97) 47 = .ok (.iconst 0, 1) := by decide +kernel
theorem d_97_48 : decode (zm_code 97) 48 = .ok (.ireturn, 1) := by decide +kernel
theorem d_98_0 : decode (zm_code 98) 0 = .ok (.aload_n 0, 1) := by decide +kernel
theorem d_98_1 : decode (zm_code 98) 1 = .ok (.getfield 20, 3) := by decide +kernel
theorem d_98_4 : decode (zm_code 98) 4 = .ok (.bipush 43, 2) := by decide +kernel
theorem d_98_6 : decode (zm_code 98) 6 = .ok (.invokevirtual 147, 3) := by decide +kernel
theorem d_98_9 : decode (zm_code 98) 9 = .ok (.ifCond .eq 6, 3) := by decide +kernel
theorem d_98_12 : decode (zm_code 98) 12 = .ok (.bipush (-11), 2) := by decide +kernel
theorem d_98_14 : decode (zm_code 98) 14 = .ok (.ireturn, 1) := by decide +kernel
theorem d_98_15 : decode (zm_code 98) 15 = .ok (.aload_n 0, 1) := by decide +kernel
theorem d_98_16 : decode (zm_code 98) 16 = .ok (.getfield 20, 3) := by decide +kernel
theorem d_98_19 : decode (zm_code 98) 19 = .ok (.bipush 45, 2) := by decide +kernel
theorem d_98_21 : decode (zm_code 98) 21 = .ok (.invokevirtual 147, 3) := by decide +kernel
theorem d_98_24 : decode (zm_code 98) 24 = .ok (.ifCond .eq 8, 3) := by decide +kernel
theorem d_98_27 : decode (zm_code 98) 27 = .ok (.bipush (-12), 2) := by decide +kernel
theorem d_98_29 : decode (zm_code 98) 29 = .ok (.goto 4, 3) := by decide +kernel
theorem d_98_32 : decode (zm_code 98) 32 = .ok (.iconst 0, 1) := by decide +kernel
theorem d_98_33 : decode (zm_code 98) 33 = .ok (.ireturn, 1) := by decide +kernel
theorem d_99_0 : decode (zm_code 99) 0 = .ok (.aload_n 0, 1) := by decide +kernel
theorem d_99_1 : decode (zm_code 99) 1 = .ok (.iload_n 1, 1) := by decide +kernel
theorem d_99_2 : decode (zm_code 99) 2 = .ok (.invokevirtual 187, 3) := by decide +kernel
theorem d_99_5 : decode (zm_code 99) 5 = .ok (.ifCond .ne 5, 3) := by decide +kernel
theorem d_99_8 : decode (zm_code 99) 8 = .ok (.iconst 0, 1) := by decide +kernel
theorem d_99_9 : decode (zm_code 99) 9 = .ok (.ireturn, 1) := by decide +kernel
theorem d_99_10 : decode (zm_code 99) 10 = .ok (.iconst 0, 1) := by decide +kernel
theorem d_99_11 : decode (zm_code 99) 11 = .ok (.istore_n 2, 1) := by decide +kernel
theorem d_99_12 : decode (zm_code 99) 12 = .ok (.iload_n 2, 1) := by decide +kernel
theorem d_99_13 : decode (zm_code 99) 13 = .ok (.sipush 1600, 3) := by decide +kernel
theorem d_99_16 : decode (zm_code 99) 16 = .ok (.if_icmp .ge 47, 3) := by decide +kernel
theorem d_99_19 : decode (zm_code 99) 19 = .ok (.aload_n 0, 1) := by decide +kernel
theorem d_99_20 : decode (zm_code 99) 20 = .ok (.getfield 20, 3) := by decide +kernel
theorem d_99_23 : decode (zm_code 99) 23 = .ok (.bipush 19, 2) := by decide +kernel
theorem d_99_25 : decode (zm_code 99) 25 = .ok (.invokevirtual 184, 3) := by decide +kernel
theorem d_99_28 : decode (zm_code 99) 28 = .ok (.ifCond .eq 35, 3) := by decide +kernel
theorem d_99_31 : decode (zm_code 99) 31 = .ok (.aload_n 0, 1) := by decide +kernel
theorem d_99_32 : decode (zm_code 99) 32 = .ok (.getfield 20, 3) := by decide +kernel
theorem d_99_35 : decode (zm_code 99) 35 = .ok (.invokevirtual 72, 3) := by decide +kernel
theorem d_99_38 : decode (zm_code 99) 38 = .ok (.aload_n 0, 1) := by decide +kernel
theorem d_99_39 : decode (zm_code 99) 39 = .ok (.iload_n 1, 1) := by decide +kernel
theorem d_99_40 : decode (zm_code 99) 40 = .ok (.invokevirtual 187, 3) := by decide +kernel
theorem d_99_43 : decode (zm_code 99) 43 = .ok (.ifCond .ne 5, 3) := by decide +kernel
theorem d_99_46 : decode (zm_code 99) 46 = .ok (.iconst 0, 1) := by decide +kernel
theorem d_99_47 : decode (zm_code 99) 47 = .ok (.ireturn, 1) := by decide +kernel
theorem d_99_48 : decode (zm_code 99) 48 = .ok (.aload_n 0, 1) := by decide +kernel
theorem d_99_49 : decode (zm_code 99) 49 = .ok (.getfield 24, 3) := by decide +kernel
theorem d_99_52 : decode (zm_code 99) 52 = .ok (.bipush (-23), 2) := by decide +kernel
theorem d_99_54 : decode (zm_code 99) 54 = .ok (.invokevirtual 190, 3) := by decide +kernel
theorem d_99_57 : decode (zm_code 99) 57 = .ok (.iinc 2 1, 3) := by decide +kernel
theorem d_99_60 : decode (zm_code 99) 60 = .ok (.goto (-48), 3) := by decide +kernel
theorem d_99_63 : decode (zm_code 99) 63 = .ok (.iconst 1, 1) := by decide +kernel
theorem d_99_64 : decode (zm_code 99) 64 = .ok (.ireturn, 1) := by decide +kernel
theorem d_100_0 : decode (zm_code 100) 0 = .ok (.aload_n 0, 1) := by decide +kernel
theorem d_100_1 : decode (zm_code 100) 1 = .ok (.iload_n 1, 1) := by decide +kernel
theorem d_100_2 : decode (zm_code 100) 2 = .ok (.invokevirtual 194, 3) := by decide +kernel
theorem d_100_5 : decode (zm_code 100) 5 = .ok (.ifCond .ne 5, 3) := by decide +kernel
theorem d_100_8 : decode (zm_code 100) 8 = .ok (.iconst 0, 1) := by decide +kernel
theorem d_100_9 : decode (zm_code 100) 9 = .ok (.ireturn, 1) := by decide +kernel
theorem d_100_10 : decode (zm_code 100) 10 = .ok (.iconst 0, 1) := by decide +kernel
theorem d_100_11 : decode (zm_code 100) 11 = .ok (.istore_n 2, 1) := by decide +kernel
theorem d_100_12 : decode (zm_code 100) 12 = .ok (.iload_n 2, 1) := by decide +kernel
theorem d_100_13 : decode (zm_code 100) 13 = .ok (.sipush 1600, 3) := by decide +kernel
theorem d_100_16 : decode (zm_code 100) 16 = .ok (.if_icmp .ge 47, 3) := by decide +kernel
theorem d_100_19 : decode (zm_code 100) 19 = .ok (.aload_n 0, 1) := by decide +kernel
theorem d_100_20 : decode (zm_code 100) 20 = .ok (.getfield 20, 3) := by decide +kernel
theorem d_100_23 : decode (zm_code 100) 23 = .ok (.bipush 20, 2) := by decide +kernel
theorem d_100_25 : decode (zm_code 100) 25 = .ok (.invokevirtual 184, 3) := by decide +kernel
theorem d_100_28 : decode (zm_code 100) 28 = .ok (.ifCond .eq 35, 3) := by decide +kernel
theorem d_100_31 : decode (zm_code 100) 31 = .ok (.aload_n 0, 1) := by decide +kernel
theorem d_100_32 : decode (zm_code 100) 32 = .ok (.getfield 20, 3) := by decide +kernel
theorem d_100_35 : decode (zm_code 100) 35 = .ok (.invokevirtual 72, 3) := by decide +kernel
theorem d_100_38 : decode (zm_code 100) 38 = .ok (.aload_n 0, 1) := by decide +kernel
theorem d_100_39 : decode (zm_code 100) 39 = .ok (.iload_n 1, 1) := by decide +kernel
theorem d_100_40 : decode (zm_code 100) 40 = .ok (.invokevirtual 194, 3) := by decide +kernel
theorem d_100_43 : decode (zm_code 100) 43 = .ok (.ifCond .ne 5, 3) := by decide +kernel
theorem d_100_46 : decode (zm_code 100) 46 = .ok (.iconst 0, 1) := by decide +kernel
theorem d_100_47 : decode (zm_code 100) 47 = .ok (.ireturn, 1) := by decide +kernel
theorem d_100_48 : decode (zm_code 100) 48 = .ok (.aload_n 0, 1) := by decide +kernel
theorem d_100_49 : decode (zm_code 100) 49 = .ok (.getfield 24, 3) := by decide +kernel
theorem d_100_52 : decode (zm_code 100) 52 = .ok (.bipush (-22), 2) := by decide +kernel
theorem d_100_54 : decode (zm_code 100) 54 = .ok (.invokevirtual 190, 3) := by decide +kernel
theorem d_100_57 : decode (zm_code 100) 57 = .ok (.iinc 2 1, 3) := by decide +kernel
theorem d_100_60 : decode (zm_code 100) 60 = .ok (.goto (-48), 3) := by decide +kernel
theorem d_100_63 : decode (zm_code 100) 63 = .ok (.iconst 1, 1) := by decide +kernel
theorem d_100_64 : decode (zm_code 100) 64 = .ok (.ireturn, 1) := by decide +kernel
theorem d_101_0 : decode (zm_code 101) 0 = .ok (.aload_n 0, 1) := by decide +kernel
theorem d_101_1 : decode (zm_code 101) 1 = .ok (.getfield 20, 3) := by decide +kernel
theorem d_101_4 : decode (zm_code 101) 4 = .ok (.bipush 21, 2) := by decide +kernel
theorem d_101_6 : decode (zm_code 101) 6 = .ok (.invokevirtual 184, 3) := by decide +kernel
theorem d_101_9 : decode (zm_code 101) 9 = .ok (.ifCond .eq 34, 3) := by decide +kernel
theorem d_101_12 : decode (zm_code 101) 12 = .ok (.aload_n 0, 1) := by decide +kernel
theorem d_101_13 : decode (zm_code 101) 13 = .ok (.iload_n 1, 1) := by decide +kernel
theorem d_101_14 : decode (zm_code 101) 14 = .ok (.invokevirtual 197, 3) := by decide +kernel
theorem d_101_17 : decode (zm_code 101) 17 = .ok (.ifCond .eq 13, 3) := by decide +kernel
theorem d_101_20 : decode (zm_code 101) 20 = .ok (.aload_n 0, 1) := by decide +kernel
theorem d_101_21 : decode (zm_code 101) 21 = .ok (.iload_n 1, 1) := by decide +kernel
theorem d_101_22 : decode (zm_code 101) 22 = .ok (.iconst 1, 1) := by decide +kernel
theorem d_101_23 : decode (zm_code 101) 23 = .ok (.iadd, 1) := by decide +kernel
theorem d_101_24 : decode (zm_code 101) 24 = .ok (.invokevirtual 194, 3) := by decide +kernel
theorem d_101_27 : decode (zm_code 101) 27 = .ok (.ifCond .ne 5, 3) := by decide +kernel
theorem d_101_30 : decode (zm_code 101) 30 = .ok (.iconst 0, 1) := by decide +kernel
theorem d_101_31 : decode (zm_code 101) 31 = .ok (.ireturn, 1) := by decide +kernel
theorem d_101_32 : decode (zm_code 101) 32 = .ok (.aload_n 0, 1) := by decide +kernel
theorem d_101_33 : decode (zm_code 101) 33 = .ok (.getfield 24, 3) := by decide +kernel
theorem d_101_36 : decode (zm_code 101) 36 = .ok (.bipush (-21), 2) := by decide +kernel
theorem d_101_38 : decode (zm_code 101) 38 = .ok (.invokevirtual 190, 3) := by decide +kernel
theorem d_101_41 : decode (zm_code 101) 41 = .ok (.iconst 1, 1) := by decide +kernel
theorem d_101_42 : decode (zm_code 101) 42 = .ok (.ireturn, 1) := by decide +kernel
theorem d_101_43 : decode (zm_code 101) 43 = .ok (.aload_n 0, 1) := by decide +kernel
theorem d_101_44 : decode (zm_code 101) 44 = .ok (.getfield 20, 3) := by decide +kernel
theorem d_101_47 : decode (zm_code 101) 47 = .ok (.bipush 91, 2) := by decide +kernel
theorem d_101_49 : decode (zm_code 101) 49 = .ok (.invokevirtual 147, 3) := by decide +kernel
theorem d_101_52 : decode (zm_code 101) 52 = .ok (.ifCond .eq 36, 3) := by decide +kernel
theorem d_101_55 : decode (zm_code 101) 55 = .ok (.aload_n 0, 1) := by decide +kernel
theorem d_101_56 : decode (zm_code 101) 56 = .ok (.iload_n 1, 1) := by decide +kernel
theorem d_101_57 : decode (zm_code 101) 57 = .ok (.invokevirtual 197, 3) := by decide +kernel
theorem d_101_60 : decode (zm_code 101) 60 = .ok (.ifCond .eq 26, 3) := by decide +kernel
theorem d_101_63 : decode (zm_code 101) 63 = .ok (.aload_n 0, 1) := by decide +kernel
theorem d_101_64 : decode (zm_code 101) 64 = .ok (.iload_n 1, 1) := by decide +kernel
theorem d_101_65 : decode (zm_code 101) 65 = .ok (.iconst 1, 1) := by decide +kernel
theorem d_101_66 : decode (zm_code 101) 66 = .ok (.iadd, 1) := by decide +kernel
theorem d_101_67 : decode (zm_code 101) 67 = .ok (.invokevirtual 102, 3) := by decide +kernel
theorem d_101_70 : decode (zm_code 101) 70 = .ok (.ifCond .eq 16, 3) := by decide +kernel
theorem d_101_73 : decode (zm_code 101) 73 = .ok (.aload_n 0, 1) := by decide +kernel
theorem d_101_74 : decode (zm_code 101) 74 = .ok (.bipush 93, 2) := by decide +kernel
theorem d_101_76 : decode (zm_code 101) 76 = .ok (.invokevirtual 111, 3) := by decide +kernel
theorem d_101_79 : decode (zm_code 101) 79 = .ok (.ifCond .eq 7, 3) := by decide +kernel
theorem d_101_82 : decode (zm_code 101) 82 = .ok (.iconst 1, 1) := by decide +kernel
theorem d_101_83 : decode (zm_code 101) 83 = .ok (.goto 4, 3) := by decide +kernel
theorem d_101_86 : decode (zm_code 101) 86 = .ok (.iconst 0, 1) := by decide +kernel
theorem d_101_87 : decode (zm_code 101) 87 = .ok (.ireturn, 1) := by decide +kernel
theorem d_101_88 : decode (zm_code 101) 88 = .ok (.aload_n 0, 1) := by decide +kernel
theorem d_101_89 : decode (zm_code 101) 89 = .ok (.getfield 20, 3) := by decide +kernel
theorem d_101_92 : decode (zm_code 101) 92 = .ok (.bipush 22, 2) := by decide +kernel
theorem d_101_94 : decode (zm_code 101) 94 = .ok (.invokevirtual 184, 3) := by decide +kernel
theorem d_101_97 : decode (zm_code 101) 97 = .ok (.ifCond .eq 20, 3) := by decide +kernel
theorem d_101_100 : decode (zm_code 101) 100 = .ok (.aload_n 0, 1) := by decide +kernel
theorem d_101_101 : decode (zm_code 101) 101 = .ok (.getfield 24, 3) := by decide +kernel
theorem d_101_104 : decode (zm_code 101) 104 = .ok (.iconst 1, 1) := by decide +kernel
theorem d_101_105 : decode (zm_code 101) 105 = .ok (.invokevirtual 190, 3) := by decide +kernel
theorem d_101_108 : decode (zm_code 101) 108 = .ok (.aload_n 0, 1) := by decide +kernel
theorem d_101_109 : decode (zm_code 101) 109 = .ok (.getfield 20, 3) := by decide +kernel
theorem d_101_112 : decode (zm_code 101) 112 = .ok (.invokevirtual 72, 3) := by decide +kernel
theorem d_101_115 : decode (zm_code 101) 115 = .ok (.iconst 1, 1) := by decide +kernel
theorem d_101_116 : decode (zm_code 101) 116 = .ok (.ireturn, 1) := by decide +kernel
theorem d_101_117 : decode (zm_code 101) 117 = .ok (.aload_n 0, 1) := by decide +kernel
theorem d_101_118 : decode (zm_code 101) 118 = .ok (.iload_n 1, 1) := by decide +kernel
theorem d_101_119 : decode (zm_code 101) 119 = .ok (.invokevirtual 93, 3) := by decide +kernel
theorem d_101_122 : decode (zm_code 101) 122 = .ok (.ifCond .ne 5, 3) := by decide +kernel
theorem d_101_125 : decode (zm_code 101) 125 = .ok (.iconst 0, 1) := by decide +kernel
theorem d_101_126 : decode (zm_code 101) 126 = .ok (.ireturn, 1) := by decide +kernel
theorem d_101_127 : decode (zm_code 101) 127 = .ok (.aload_n 0, 1) := by decide +kernel
theorem d_101_128 : decode (zm_code 101) 128 = .ok (.invokevirtual 200, 3) := by decide +kernel
theorem d_101_131 : decode (zm_code 101) 131 = .ok (.istore_n 2, 1) := by decide +kernel
theorem d_101_132 : decode (zm_code 101) 132 = .ok (.iload_n 2, 1) := by decide +kernel
theorem d_101_133 : decode (zm_code 101) 133 = .ok (.ifCond .ne 8, 3) := by decide +kernel
theorem d_101_136 : decode (zm_code 101) 136 = .ok (.aload_n 0, 1) := by decide +kernel
theorem d_101_137 : decode (zm_code 101) 137 = .ok (.invokevirtual 69, 3) := by decide +kernel
theorem d_101_140 : decode (zm_code 101) 140 = .ok (.ireturn, 1) := by decide +kernel
theorem d_101_141 : decode (zm_code 101) 141 = .ok (.aload_n 0, 1) := by decide +kernel
theorem d_101_142 : decode (zm_code 101) 142 = .ok (.getfield 20, 3) := by decide +kernel
theorem d_101_145 : decode (zm_code 101) 145 = .ok (.invokevirtual 72, 3) := by decide +kernel
theorem d_101_148 : decode (zm_code 101) 148 = .ok (.aload_n 0, 1) := by decide +kernel
theorem d_101_149 : decode (zm_code 101) 149 = .ok (.iload_n 1, 1) := by decide +kernel
theorem d_101_150 : decode (zm_code 101) 150 = .ok (.invokevirtual 93, 3) := by decide +kernel
theorem d_101_153 : decode (zm_code 101) 153 = .ok (.ifCond .ne 5, 3) := by decide +kernel
theorem d_101_156 : decode (zm_code 101) 156 = .ok (.iconst 0, 1) := by decide +kernel
theorem d_101_157 : decode (zm_code 101) 157 = .ok (.ireturn, 1) := by decide +kernel
theorem d_101_158 : decode (zm_code 101) 158 = .ok (.aload_n 0, 1) := by decide +kernel
theorem d_101_159 : decode (zm_code 101) 159 = .ok (.getfield 24, 3) := by decide +kernel
theorem d_101_162 : decode (zm_code 101) 162 = .ok (.iload_n 2, 1) := by decide +kernel
theorem d_101_163 : decode (zm_code 101) 163 = .ok (.invokevirtual 190, 3) := by decide +kernel
theorem d_101_166 : decode (zm_code 101) 166 = .ok (.iconst 1, 1) := by decide +kernel
theorem d_101_167 : decode (zm_code 101) 167 = .ok (.ireturn, 1) := by decide +kernel
theorem d_102_0 : decode (zm_code 102) 0 = .ok (.aload_n 0, 1) := by decide +kernel
theorem d_102_1 : decode (zm_code 102) 1 = .ok (.getfield 20, 3) := by decide +kernel
theorem d_102_4 : decode (zm_code 102) 4 = .ok (.bipush 60, 2) := by decide +kernel
theorem d_102_6 : decode (zm_code 102) 6 = .ok (.invokevirtual 147, 3) := by decide +kernel
theorem d_102_9 : decode (zm_code 102) 9 = .ok (.ifCond .eq 6, 3) := by decide +kernel
theorem d_102_12 : decode (zm_code 102) 12 = .ok (.bipush (-18), 2) := by decide +kernel
theorem d_102_14 : decode (zm_code 102) 14 = .ok (.ireturn, 1) := by decide +kernel
theorem d_102_15 : decode (zm_code 102) 15 = .ok (.aload_n 0, 1) := by decide +kernel
theorem d_102_16 : decode (zm_code 102) 16 = .ok (.getfield 20, 3) := by decide +kernel
theorem d_102_19 : decode (zm_code 102) 19 = .ok (.bipush 62, 2) := by decide +kernel
theorem d_102_21 : decode (zm_code 102) 21 = .ok (.invokevirtual 147, 3) := by decide +kernel
theorem d_102_24 : decode (zm_code 102) 24 = .ok (.ifCond .eq 6, 3) := by decide +kernel
theorem d_102_27 : decode (zm_code 102) 27 = .ok (.bipush (-19), 2) := by decide +kernel
theorem d_102_29 : decode (zm_code 102) 29 = .ok (.ireturn, 1) := by decide +kernel
theorem d_102_30 : decode (zm_code 102) 30 = .ok (.aload_n 0, 1) := by decide +kernel
theorem d_102_31 : decode (zm_code 102) 31 = .ok (.getfield 20, 3) := by decide +kernel
theorem d_102_34 : decode (zm_code 102) 34 = .ok (.bipush 61, 2) := by decide +kernel
theorem d_102_36 : decode (zm_code 102) 36 = .ok (.invokevirtual 147, 3) := by decide +kernel
theorem d_102_39 : decode (zm_code 102) 39 = .ok (.ifCond .eq 8, 3) := by decide +kernel
theorem d_102_42 : decode (zm_code 102) 42 = .ok (.bipush (-20), 2) := by decide +kernel
theorem d_102_44 : decode (zm_code 102) 44 = .ok (.goto 4, 3) := by decide +kernel
theorem d_102_47 : decode (zm_code 102) 47 = .ok (.iconst 0, 1) := by decide +kernel
theorem d_102_48 : decode (zm_code 102) 48 = .ok (.ireturn, 1) := by decide +kernel
theorem d_104_0 : decode (zm_code 104) 0 = .ok (.aload_n 0, 1) := by decide +kernel
theorem d_104_1 : decode (zm_code 104) 1 = .ok (.iconst 0, 1) := by decide +kernel
theorem d_104_2 : decode (zm_code 104) 2 = .ok (.putfield 15, 3) := by decide +kernel
theorem d_104_5 : decode (zm_code 104) 5 = .ok (.aload_n 0, 1) := by decide +kernel
theorem d_104_6 : decode (zm_code 104) 6 = .ok (.aload_n 2, 1) := by decide +kernel
theorem d_104_7 : decode (zm_code 104) 7 = .ok (.getfield 19, 3) := by decide +kernel
theorem d_104_10 : decode (zm_code 104) 10 = .ok (.invokevirtual 24, 3) := by decide +kernel
theorem d_104_13 : decode (zm_code 104) 13 = .ok (.aload_n 0, 1) := by decide +kernel
theorem d_104_14 : decode (zm_code 104) 14 = .ok (.aload_n 2, 1) := by decide +kernel
theorem d_104_15 : decode (zm_code 104) 15 = .ok (.getfield 28, 3) := by decide +kernel
theorem d_104_18 : decode (zm_code 104) 18 = .ok (.invokevirtual 31, 3) := by decide +kernel
theorem d_104_21 : decode (zm_code 104) 21 = .ok (.iconst 0, 1) := by decide +kernel
theorem d_104_22 : decode (zm_code 104) 22 = .ok (.istore_n 3, 1) := by decide +kernel
theorem d_104_23 : decode (zm_code 104) 23 = .ok (.iload_n 3, 1) := by decide +kernel
theorem d_104_24 : decode (zm_code 104) 24 = .ok (.aload_n 1, 1) := by decide +kernel
theorem d_104_25 : decode (zm_code 104) 25 = .ok (.getfield 34, 3) := by decide +kernel
theorem d_104_28 : decode (zm_code 104) 28 = .ok (.if_icmp .ge 43, 3) := by decide +kernel
theorem d_104_31 : decode (zm_code 104) 31 = .ok (.iconst 0, 1) := by decide +kernel
theorem d_104_32 : decode (zm_code 104) 32 = .ok (.istore 4, 2) := by decide +kernel
theorem d_104_34 : decode (zm_code 104) 34 = .ok (.iload 4, 2) := by decide +kernel
theorem d_104_36 : decode (zm_code 104) 36 = .ok (.aload_n 1, 1) := by decide +kernel
theorem d_104_37 : decode (zm_code 104) 37 = .ok (.getfield 39, 3) := by decide +kernel
theorem d_104_40 : decode (zm_code 104) 40 = .ok (.if_icmp .ge 25, 3) := by decide +kernel
theorem d_104_43 : decode (zm_code 104) 43 = .ok (.aload_n 0, 1) := by decide +kernel
theorem d_104_44 : decode (zm_code 104) 44 = .ok (.aload_n 2, 1) := by decide +kernel
theorem d_104_45 : decode (zm_code 104) 45 = .ok (.getfield 42, 3) := by decide +kernel
theorem d_104_48 : decode (zm_code 104) 48 = .ok (.iload_n 3, 1) := by decide +kernel
theorem d_104_49 : decode (zm_code 104) 49 = .ok (.bipush 8, 2) := by decide +kernel
theorem d_104_51 : decode (zm_code 104) 51 = .ok (.imul, 1) := by decide +kernel
theorem d_104_52 : decode (zm_code 104) 52 = .ok (.iload 4, 2) := by decide +kernel
theorem d_104_54 : decode (zm_code 104) 54 = .ok (.iadd, 1) := by decide +kernel
theorem d_104_55 : decode (zm_code 104) 55 = .ok (.iaload, 1) := by decide +kernel
theorem d_104_56 : decode (zm_code 104) 56 = .ok (.invokevirtual 24, 3) := by decide +kernel
theorem d_104_59 : decode (zm_code 104) 59 = .ok (.iinc 4 1, 3) := by decide +kernel
theorem d_104_62 : decode (zm_code 104) 62 = .ok (.goto (-28), 3) := by decide +kernel
theorem d_104_65 : decode (zm_code 104) 65 = .ok (.iinc 3 1, 3) := by decide +kernel
theorem d_104_68 : decode (zm_code 104) 68 = .ok (.goto (-45), 3) := by decide +kernel
theorem d_104_71 : decode (zm_code 104) 71 = .ok (.iconst 0, 1) := by decide +kernel
theorem d_104_72 : decode (zm_code 104) 72 = .ok (.istore_n 3, 1) := by decide +kernel
theorem d_104_73 : decode (zm_code 104) 73 = .ok (.iload_n 3, 1) := by decide +kernel
theorem d_104_74 : decode (zm_code 104) 74 = .ok (.aload_n 1, 1) := by decide +kernel
theorem d_104_75 : decode (zm_code 104) 75 = .ok (.getfield 45, 3) := by decide +kernel
theorem d_104_78 : decode (zm_code 104) 78 = .ok (.if_icmp .ge 53, 3) := by decide +kernel
theorem d_104_81 : decode (zm_code 104) 81 = .ok (.aload_n 0, 1) := by decide +kernel
theorem d_104_82 : decode (zm_code 104) 82 = .ok (.aload_n 2, 1) := by decide +kernel
theorem d_104_83 : decode (zm_code 104) 83 = .ok (.getfield 48, 3) := by decide +kernel
theorem d_104_86 : decode (zm_code 104) 86 = .ok (.iload_n 3, 1) := by decide +kernel
theorem d_104_87 : decode (zm_code 104) 87 = .ok (.iaload, 1) := by decide +kernel
theorem d_104_88 : decode (zm_code 104) 88 = .ok (.invokevirtual 31, 3) := by decide +kernel
theorem d_104_91 : decode (zm_code 104) 91 = .ok (.iconst 0, 1) := by decide +kernel
theorem d_104_92 : decode (zm_code 104) 92 = .ok (.istore 4, 2) := by decide +kernel
theorem d_104_94 : decode (zm_code 104) 94 = .ok (.iload 4, 2) := by decide +kernel
theorem d_104_96 : decode (zm_code 104) 96 = .ok (.aload_n 1, 1) := by decide +kernel
theorem d_104_97 : decode (zm_code 104) 97 = .ok (.getfield 39, 3) := by decide +kernel
theorem d_104_100 : decode (zm_code 104) 100 = .ok (.if_icmp .ge 25, 3) := by decide +kernel
theorem d_104_103 : decode (zm_code 104) 103 = .ok (.aload_n 0, 1) := by decide +kernel
theorem d_104_104 : decode (zm_code 104) 104 = .ok (.aload_n 2, 1) := by decide +kernel
theorem d_104_105 : decode (zm_code 104) 105 = .ok (.getfield 51, 3) := by decide +kernel
theorem d_104_108 : decode (zm_code 104) 108 = .ok (.iload_n 3, 1) := by decide +kernel
theorem d_104_109 : decode (zm_code 104) 109 = .ok (.bipush 8, 2) := by decide +kernel
theorem d_104_111 : decode (zm_code 104) 111 = .ok (.imul, 1) := by decide +kernel
theorem d_104_112 : decode (zm_code 104) 112 = .ok (.iload 4, 2) := by decide +kernel
theorem d_104_114 : decode (zm_code 104) 114 = .ok (.iadd, 1) := by decide +kernel
theorem d_104_115 : decode (zm_code 104) 115 = .ok (.iaload, 1) := by decide +kernel
theorem d_104_116 : decode (zm_code 104) 116 = .ok (.invokevirtual 31, 3) := by decide +kernel
theorem d_104_119 : decode (zm_code 104) 119 = .ok (.iinc 4 1, 3) := by decide +kernel
theorem d_104_122 : decode (zm_code 104) 122 = .ok (.goto (-28), 3) := by decide +kernel
theorem d_104_125 : decode (zm_code 104) 125 = .ok (.iinc 3 1, 3) := by decide +kernel
theorem d_104_128 : decode (zm_code 104) 128 = .ok (.goto (-55), 3) := by decide +kernel
theorem d_104_131 : decode (zm_code 104) 131 = .ok (.aload_n 0, 1) := by decide +kernel
theorem d_104_132 : decode (zm_code 104) 132 = .ok (.aload_n 0, 1) := by decide +kernel
theorem d_104_133 : decode (zm_code 104) 133 = .ok (.getfield 11, 3) := by decide +kernel
theorem d_104_136 : decode (zm_code 104) 136 = .ok (.aload_n 0, 1) := by decide +kernel
theorem d_104_137 : decode (zm_code 104) 137 = .ok (.getfield 15, 3) := by decide +kernel
theorem d_104_140 : decode (zm_code 104) 140 = .ok (.invokestatic 54, 3) := by decide +kernel
theorem d_104_143 : decode (zm_code 104) 143 = .ok (.invokevirtual 24, 3) := by decide +kernel
theorem d_104_146 : decode (zm_code 104) 146 = .ok (.return_, 1) := by decide +kernel
theorem d_105_0 : decode (zm_code 105) 0 = .ok (.aload_n 0, 1) := by decide +kernel
theorem d_105_1 : decode (zm_code 105) 1 = .ok (.getfield 15, 3) := by decide +kernel
theorem d_105_4 : decode (zm_code 105) 4 = .ok (.sipush 188, 3) := by decide +kernel
theorem d_105_7 : decode (zm_code 105) 7 = .ok (.if_icmp .ge 24, 3) := by decide +kernel
theorem d_105_10 : decode (zm_code 105) 10 = .ok (.aload_n 0, 1) := by decide +kernel
theorem d_105_11 : decode (zm_code 105) 11 = .ok (.getfield 11, 3) := by decide +kernel
theorem d_105_14 : decode (zm_code 105) 14 = .ok (.aload_n 0, 1) := by decide +kernel
theorem d_105_15 : decode (zm_code 105) 15 = .ok (.dup, 1) := by decide +kernel
theorem d_105_16 : decode (zm_code 105) 16 = .ok (.getfield 15, 3) := by decide +kernel
theorem d_105_19 : decode (zm_code 105) 19 = .ok (.dup_x1, 1) := by decide +kernel
theorem d_105_20 : decode (zm_code 105) 20 = .ok (.iconst 1, 1) := by decide +kernel
theorem d_105_21 : decode (zm_code 105) 21 = .ok (.iadd, 1) := by decide +kernel
theorem d_105_22 : decode (zm_code 105) 22 = .ok (.putfield 15, 3) := by decide +kernel
theorem d_105_25 : decode (zm_code 105) 25 = .ok (.iload_n 1, 1) := by decide +kernel
theorem d_105_26 : decode (zm_code 105) 26 = .ok (.sipush 255, 3) := by decide +kernel
theorem d_105_29 : decode (zm_code 105) 29 = .ok (.iand, 1) := by decide +kernel
theorem d_105_30 : decode (zm_code 105) 30 = .ok (.iastore, 1) := by decide +kernel
theorem d_105_31 : decode (zm_code 105) 31 = .ok (.return_, 1) := by decide +kernel
theorem d_106_0 : decode (zm_code 106) 0 = .ok (.aload_n 0, 1) := by decide +kernel
theorem d_106_1 : decode (zm_code 106) 1 = .ok (.iload_n 1, 1) := by decide +kernel
theorem d_106_2 : decode (zm_code 106) 2 = .ok (.bipush 8, 2) := by decide +kernel
theorem d_106_4 : decode (zm_code 106) 4 = .ok (.ishr, 1) := by decide +kernel
theorem d_106_5 : decode (zm_code 106) 5 = .ok (.invokevirtual 24, 3) := by decide +kernel
theorem d_106_8 : decode (zm_code 106) 8 = .ok (.aload_n 0, 1) := by decide +kernel
theorem d_106_9 : decode (zm_code 106) 9 = .ok (.iload_n 1, 1) := by decide +kernel
theorem d_106_10 : decode (zm_code 106) 10 = .ok (.invokevirtual 24, 3) := by decide +kernel
theorem d_106_13 : decode (zm_code 106) 13 = .ok (.return_, 1) := by decide +kernel
theorem d_107_0 : decode (zm_code 107) 0 = .ok (.bipush 109, 2) := by decide +kernel
theorem d_107_2 : decode (zm_code 107) 2 = .ok (.istore_n 2, 1) := by decide +kernel
theorem d_107_3 : decode (zm_code 107) 3 = .ok (.iconst 0, 1) := by decide +kernel
theorem d_107_4 : decode (zm_code 107) 4 = .ok (.istore_n 3, 1) := by decide +kernel
theorem d_107_5 : decode (zm_code 107) 5 = .ok (.iload_n 3, 1) := by decide +kernel
theorem d_107_6 : decode (zm_code 107) 6 = .ok (.iload_n 1, 1) := by decide +kernel
theorem d_107_7 : decode (zm_code 107) 7 = .ok (.if_icmp .ge 27, 3) := by decide +kernel
theorem d_107_10 : decode (zm_code 107) 10 = .ok (.iload_n 3, 1) := by decide +kernel
theorem d_107_11 : decode (zm_code 107) 11 = .ok (.aload_n 0, 1) := by decide +kernel
theorem d_107_12 : decode (zm_code 107) 12 = .ok (.arraylength, 1) := by decide +kernel
theorem d_107_13 : decode (zm_code 107) 13 = .ok (.if_icmp .ge 21, 3) := by decide +kernel
theorem d_107_16 : decode (zm_code 107) 16 = .ok (.iconst 5, 1) := by decide +kernel
theorem d_107_17 : decode (zm_code 107) 17 = .ok (.iload_n 2, 1) := by decide +kernel
theorem d_107_18 : decode (zm_code 107) 18 = .ok (.imul, 1) := by decide +kernel
theorem d_107_19 : decode (zm_code 107) 19 = .ok (.aload_n 0, 1) := by decide +kernel
theorem d_107_20 : decode (zm_code 107) 20 = .ok (.iload_n 3, 1) := by decide +kernel
theorem d_107_21 : decode (zm_code 107) 21 = .ok (.iaload, 1) := by decide +kernel
theorem d_107_22 : decode (zm_code 107) 22 = .ok (.iadd, 1) := by decide +kernel
theorem d_107_23 : decode (zm_code 107) 23 = .ok (.sipush 251, 3) := by decide +kernel
theorem d_107_26 : decode (zm_code 107) 26 = .ok (.irem, 1) := by decide +kernel
theorem d_107_27 : decode (zm_code 107) 27 = .ok (.istore_n 2, 1) := by decide +kernel
theorem d_107_28 : decode (zm_code 107) 28 = .ok (.iinc 3 1, 3) := by decide +kernel
theorem d_107_31 : decode (zm_code 107) 31 = .ok (.goto (-26), 3) := by decide +kernel
theorem d_107_34 : decode (zm_code 107) 34 = .ok (.iload_n 2, 1) := by decide +kernel
theorem d_107_35 : decode (zm_code 107) 35 = .ok (.ireturn, 1) := by decide +kernel
theorem d_108_0 : decode (zm_code 108) 0 = .ok (.iconst 3, 1) := by decide +kernel
theorem d_108_1 : decode (zm_code 108) 1 = .ok (.aload_n 1, 1) := by decide +kernel
theorem d_108_2 : decode (zm_code 108) 2 = .ok (.getfield 34, 3) := by decide +kernel
theorem d_108_5 : decode (zm_code 108) 5 = .ok (.aload_n 1, 1) := by decide +kernel
theorem d_108_6 : decode (zm_code 108) 6 = .ok (.getfield 39, 3) := by decide +kernel
theorem d_108_9 : decode (zm_code 108) 9 = .ok (.imul, 1) := by decide +kernel
theorem d_108_10 : decode (zm_code 108) 10 = .ok (.iadd, 1) := by decide +kernel
theorem d_108_11 : decode (zm_code 108) 11 = .ok (.aload_n 1, 1) := by decide +kernel
theorem d_108_12 : decode (zm_code 108) 12 = .ok (.getfield 45, 3) := by decide +kernel
theorem d_108_15 : decode (zm_code 108) 15 = .ok (.iconst 2, 1) := by decide +kernel
theorem d_108_16 : decode (zm_code 108) 16 = .ok (.iconst 2, 1) := by decide +kernel
theorem d_108_17 : decode (zm_code 108) 17 = .ok (.aload_n 1, 1) := by decide +kernel
theorem d_108_18 : decode (zm_code 108) 18 = .ok (.getfield 39, 3) := by decide +kernel
theorem d_108_21 : decode (zm_code 108) 21 = .ok (.imul, 1) := by decide +kernel
theorem d_108_22 : decode (zm_code 108) 22 = .ok (.iadd, 1) := by decide +kernel
theorem d_108_23 : decode (zm_code 108) 23 = .ok (.imul, 1) := by decide +kernel
theorem d_108_24 : decode (zm_code 108) 24 = .ok (.iadd, 1) := by decide +kernel
theorem d_108_25 : decode (zm_code 108) 25 = .ok (.istore_n 3, 1) := by decide +kernel
theorem d_108_26 : decode (zm_code 108) 26 = .ok (.aload_n 0, 1) := by decide +kernel
theorem d_108_27 : decode (zm_code 108) 27 = .ok (.getfield 58, 3) := by decide +kernel
theorem d_108_30 : decode (zm_code 108) 30 = .ok (.iload_n 3, 1) := by decide +kernel
theorem d_108_31 : decode (zm_code 108) 31 = .ok (.iconst 1, 1) := by decide +kernel
theorem d_108_32 : decode (zm_code 108) 32 = .ok (.iadd, 1) := by decide +kernel
theorem d_108_33 : decode (zm_code 108) 33 = .ok (.if_icmp .ne 20, 3) := by decide +kernel
theorem d_108_36 : decode (zm_code 108) 36 = .ok (.aload_n 0, 1) := by decide +kernel
theorem d_108_37 : decode (zm_code 108) 37 = .ok (.getfield 61, 3) := by decide +kernel
theorem d_108_40 : decode (zm_code 108) 40 = .ok (.iload_n 3, 1) := by decide +kernel
theorem d_108_41 : decode (zm_code 108) 41 = .ok (.iaload, 1) := by decide +kernel
theorem d_108_42 : decode (zm_code 108) 42 = .ok (.aload_n 0, 1) := by decide +kernel
theorem d_108_43 : decode (zm_code 108) 43 = .ok (.getfield 61, 3) := by decide +kernel
theorem d_108_46 : decode (zm_code 108) 46 = .ok (.iload_n 3, 1) := by decide +kernel
theorem d_108_47 : decode (zm_code 108) 47 = .ok (.invokestatic 54, 3) := by decide +kernel
theorem d_108_50 : decode (zm_code 108) 50 = .ok (.if_icmp .eq 5, 3) := by decide +kernel
theorem d_108_53 : decode (zm_code 108) 53 = .ok (.iconst 0, 1) := by decide +kernel
theorem d_108_54 : decode (zm_code 108) 54 = .ok (.ireturn, 1) := by decide +kernel
theorem d_108_55 : decode (zm_code 108) 55 = .ok (.aload_n 2, 1) := by decide +kernel
theorem d_108_56 : decode (zm_code 108) 56 = .ok (.aload_n 1, 1) := by decide +kernel
theorem d_108_57 : decode (zm_code 108) 57 = .ok (.invokevirtual 62, 3) := by decide +kernel
theorem d_108_60 : decode (zm_code 108) 60 = .ok (.aload_n 2, 1) := by decide +kernel
theorem d_108_61 : decode (zm_code 108) 61 = .ok (.aload_n 0, 1) := by decide +kernel
theorem d_108_62 : decode (zm_code 108) 62 = .ok (.getfield 61, 3) := by decide +kernel
theorem d_108_65 : decode (zm_code 108) 65 = .ok (.iconst 0, 1) := by decide +kernel
theorem d_108_66 : decode (zm_code 108) 66 = .ok (.iaload, 1) := by decide +kernel
theorem d_108_67 : decode (zm_code 108) 67 = .ok (.putfield 19, 3) := by decide +kernel
theorem d_108_70 : decode (zm_code 108) 70 = .ok (.aload_n 2, 1) := by decide +kernel
theorem d_108_71 : decode (zm_code 108) 71 = .ok (.aload_n 0, 1) := by decide +kernel
theorem d_108_72 : decode (zm_code 108) 72 = .ok (.iconst 1, 1) := by decide +kernel
theorem d_108_73 : decode (zm_code 108) 73 = .ok (.invokestatic 66, 3) := by decide +kernel
theorem d_108_76 : decode (zm_code 108) 76 = .ok (.putfield 28, 3) := by decide +kernel
theorem d_108_79 : decode (zm_code 108) 79 = .ok (.aload_n 2, 1) := by decide +kernel
theorem d_108_80 : decode (zm_code 108) 80 = .ok (.getfield 19, 3) := by decide +kernel
theorem d_108_83 : decode (zm_code 108) 83 = .ok (.bipush 99, 2) := by decide +kernel
theorem d_108_85 : decode (zm_code 108) 85 = .ok (.if_icmp .gt 13, 3) := by decide +kernel
theorem d_108_88 : decode (zm_code 108) 88 = .ok (.aload_n 2, 1) := by decide +kernel
theorem d_108_89 : decode (zm_code 108) 89 = .ok (.getfield 28, 3) := by decide +kernel
theorem d_108_92 : decode (zm_code 108) 92 = .ok (.sipush 9999, 3) := by decide +kernel
theorem d_108_95 : decode (zm_code 108) 95 = .ok (.if_icmp .le 5, 3) := by decide +kernel
theorem d_108_98 : decode (zm_code 108) 98 = .ok (.iconst 0, 1) := by decide +kernel
theorem d_108_99 : decode (zm_code 108) 99 = .ok (.ireturn, 1) := by decide +kernel
theorem d_108_100 : decode (zm_code 108) 100 = .ok (.aload_n 0, 1) := by decide +kernel
theorem d_108_101 : decode (zm_code 108) 101 = .ok (.aload_n 1, 1) := by decide +kernel
theorem d_108_102 : decode (zm_code 108) 102 = .ok (.aload_n 2, 1) := by decide +kernel
theorem d_108_103 : decode (zm_code 108) 103 = .ok (.invokestatic 70, 3) := by decide +kernel
theorem d_108_106 : decode (zm_code 108) 106 = .ok (.ifCond .eq 16, 3) := by decide +kernel
theorem d_108_109 : decode (zm_code 108) 109 = .ok (.aload_n 0, 1) := by decide +kernel
theorem d_108_110 : decode (zm_code 108) 110 = .ok (.aload_n 1, 1) := by decide +kernel
theorem d_108_111 : decode (zm_code 108) 111 = .ok (.aload_n 2, 1) := by decide +kernel
theorem d_108_112 : decode (zm_code 108) 112 = .ok (.invokestatic 74, 3) := by decide +kernel
theorem d_108_115 : decode (zm_code 108) 115 = .ok (.ifCond .eq 7, 3) := by decide +kernel
theorem d_108_118 : decode (zm_code 108) 118 = .ok (.iconst 1, 1) := by decide +kernel
theorem d_108_119 : decode (zm_code 108) 119 = .ok (.goto 4, 3) := by decide +kernel
theorem d_108_122 : decode (zm_code 108) 122 = .ok (.iconst 0, 1) := by decide +kernel
theorem d_108_123 : decode (zm_code 108) 123 = .ok (.ireturn, 1) := by decide +kernel
theorem d_109_0 : decode (zm_code 109) 0 = .ok (.iload_n 1, 1) := by decide +kernel
theorem d_109_1 : decode (zm_code 109) 1 = .ok (.iconst 1, 1) := by decide +kernel
theorem d_109_2 : decode (zm_code 109) 2 = .ok (.iadd, 1) := by decide +kernel
theorem d_109_3 : decode (zm_code 109) 3 = .ok (.aload_n 0, 1) := by decide +kernel
theorem d_109_4 : decode (zm_code 109) 4 = .ok (.getfield 58, 3) := by decide +kernel
theorem d_109_7 : decode (zm_code 109) 7 = .ok (.if_icmp .ge 25, 3) := by decide +kernel
theorem d_109_10 : decode (zm_code 109) 10 = .ok (.aload_n 0, 1) := by decide +kernel
theorem d_109_11 : decode (zm_code 109) 11 = .ok (.getfield 61, 3) := by decide +kernel
theorem d_109_14 : decode (zm_code 109) 14 = .ok (.iload_n 1, 1) := by decide +kernel
theorem d_109_15 : decode (zm_code 109) 15 = .ok (.iaload, 1) := by decide +kernel
theorem d_109_16 : decode (zm_code 109) 16 = .ok (.sipush 256, 3) := by decide +kernel
theorem d_109_19 : decode (zm_code 109) 19 = .ok (.imul, 1) := by decide +kernel
theorem d_109_20 : decode (zm_code 109) 20 = .ok (.aload_n 0, 1) := by decide +kernel
theorem d_109_21 : decode (zm_code 109) 21 = .ok (.getfield 61, 3) := by decide +kernel
theorem d_109_24 : decode (zm_code 109) 24 = .ok (.iload_n 1, 1) := by decide +kernel
theorem d_109_25 : decode (zm_code 109) 25 = .ok (.iconst 1, 1) := by decide +kernel
theorem d_109_26 : decode (zm_code 109) 26 = .ok (.iadd, 1) := by decide +kernel
theorem d_109_27 : decode (zm_code 109) 27 = .ok (.iaload, 1) := by decide +kernel
theorem d_109_28 : decode (zm_code 109) 28 = .ok (.iadd, 1) := by decide +kernel
theorem d_109_29 : decode (zm_code 109) 29 = .ok (.goto 4, 3) := by decide +kernel
theorem d_109_32 : decode (zm_code 109) 32 = .ok (.iconst 0, 1) := by decide +kernel
theorem d_109_33 : decode (zm_code 109) 33 = .ok (.ireturn, 1) := by decide +kernel
theorem d_110_0 : decode (zm_code 110) 0 = .ok (.iconst 3, 1) := by decide +kernel
theorem d_110_1 : decode (zm_code 110) 1 = .ok (.istore_n 3, 1) := by decide +kernel
theorem d_110_2 : decode (zm_code 110) 2 = .ok (.iconst 0, 1) := by decide +kernel
theorem d_110_3 : decode (zm_code 110) 3 = .ok (.istore 4, 2) := by decide +kernel
theorem d_110_5 : decode (zm_code 110) 5 = .ok (.iload 4, 2) := by decide +kernel
theorem d_110_7 : decode (zm_code 110) 7 = .ok (.aload_n 1, 1) := by decide +kernel
theorem d_110_8 : decode (zm_code 110) 8 = .ok (.getfield 34, 3) := by decide +kernel
theorem d_110_11 : decode (zm_code 110) 11 = .ok (.if_icmp .ge 62, 3) := by decide +kernel
theorem d_110_14 : decode (zm_code 110) 14 = .ok (.iconst 0, 1) := by decide +kernel
theorem d_110_15 : decode (zm_code 110) 15 = .ok (.istore 5, 2) := by decide +kernel
theorem d_110_17 : decode (zm_code 110) 17 = .ok (.iload 5, 2) := by decide +kernel
theorem d_110_19 : decode (zm_code 110) 19 = .ok (.aload_n 1, 1) := by decide +kernel
theorem d_110_20 : decode (zm_code 110) 20 = .ok (.getfield 39, 3) := by decide +kernel
theorem d_110_23 : decode (zm_code 110) 23 = .ok (.if_icmp .ge 44, 3) := by decide +kernel
theorem d_110_26 : decode (zm_code 110) 26 = .ok (.aload_n 0, 1) := by decide +kernel
theorem d_110_27 : decode (zm_code 110) 27 = .ok (.getfield 61, 3) := by decide +kernel
theorem d_110_30 : decode (zm_code 110) 30 = .ok (.iload_n 3, 1) := by decide +kernel
theorem d_110_31 : decode (zm_code 110) 31 = .ok (.iinc 3 1, 3) := by decide +kernel
theorem d_110_34 : decode (zm_code 110) 34 = .ok (.iaload, 1) := by decide +kernel
theorem d_110_35 : decode (zm_code 110) 35 = .ok (.istore 6, 2) := by decide +kernel
theorem d_110_37 : decode (zm_code 110) 37 = .ok (.iload 6, 2) := by decide +kernel
theorem d_110_39 : decode (zm_code 110) 39 = .ok (.bipush 99, 2) := by decide +kernel
theorem d_110_41 : decode (zm_code 110) 41 = .ok (.if_icmp .le 5, 3) := by decide +kernel
theorem d_110_44 : decode (zm_code 110) 44 = .ok (.iconst 0, 1) := by decide +kernel
theorem d_110_45 : decode (zm_code 110) 45 = .ok (.ireturn, 1) := by decide +kernel
theorem d_110_46 : decode (zm_code 110) 46 = .ok (.aload_n 2, 1) := by decide +kernel
theorem d_110_47 : decode (zm_code 110) 47 = .ok (.getfield 42, 3) := by decide +kernel
theorem d_110_50 : decode (zm_code 110) 50 = .ok (.iload 4, 2) := by decide +kernel
theorem d_110_52 : decode (zm_code 110) 52 = .ok (.bipush 8, 2) := by decide +kernel
theorem d_110_54 : decode (zm_code 110) 54 = .ok (.imul, 1) := by decide +kernel
theorem d_110_55 : decode (zm_code 110) 55 = .ok (.iload 5, 2) := by decide +kernel
theorem d_110_57 : decode (zm_code 110) 57 = .ok (.iadd, 1) := by decide +kernel
theorem d_110_58 : decode (zm_code 110) 58 = .ok (.iload 6, 2) := by decide +kernel
theorem d_110_60 : decode (zm_code 110) 60 = .ok (.iastore, 1) := by decide +kernel
theorem d_110_61 : decode (zm_code 110) 61 = .ok (.iinc 5 1, 3) := by decide +kernel
theorem d_110_64 : decode (zm_code 110) 64 = .ok (.goto (-47), 3) := by decide +kernel
theorem d_110_67 : decode (zm_code 110) 67 = .ok (.iinc 4 1, 3) := by decide +kernel
theorem d_110_70 : decode (zm_code 110) 70 = .ok (.goto (-65), 3) := by decide +kernel
theorem d_110_73 : decode (zm_code 110) 73 = .ok (.iconst 1, 1) := by decide +kernel
theorem d_110_74 : decode (zm_code 110) 74 = .ok (.ireturn, 1) := by decide +kernel
theorem d_111_0 : decode (zm_code 111) 0 = .ok (.iconst 3, 1) := by decide +kernel
theorem d_111_1 : decode (zm_code 111) 1 = .ok (.aload_n 1, 1) := by decide +kernel
theorem d_111_2 : decode (zm_code 111) 2 = .ok (.getfield 34, 3) := by decide +kernel
theorem d_111_5 : decode (zm_code 111) 5 = .ok (.aload_n 1, 1) := by decide +kernel
theorem d_111_6 : decode (zm_code 111) 6 = .ok (.getfield 39, 3) := by decide +kernel
theorem d_111_9 : decode (zm_code 111) 9 = .ok (.imul, 1) := by decide +kernel
theorem d_111_10 : decode (zm_code 111) 10 = .ok (.iadd, 1) := by decide +kernel
theorem d_111_11 : decode (zm_code 111) 11 = .ok (.istore_n 3, 1) := by decide +kernel
theorem d_111_12 : decode (zm_code 111) 12 = .ok (.iconst 0, 1) := by decide +kernel
theorem d_111_13 : decode (zm_code 111) 13 = .ok (.istore 4, 2) := by decide +kernel
theorem d_111_15 : decode (zm_code 111) 15 = .ok (.iload 4, 2) := by decide +kernel
theorem d_111_17 : decode (zm_code 111) 17 = .ok (.aload_n 1, 1) := by decide +kernel
theorem d_111_18 : decode (zm_code 111) 18 = .ok (.getfield 45, 3) := by decide +kernel
theorem d_111_21 : decode (zm_code 111) 21 = .ok (.if_icmp .ge 92, 3) := by decide +kernel
theorem d_111_24 : decode (zm_code 111) 24 = .ok (.aload_n 2, 1) := by decide +kernel
theorem d_111_25 : decode (zm_code 111) 25 = .ok (.getfield 48, 3) := by decide +kernel
theorem d_111_28 : decode (zm_code 111) 28 = .ok (.iload 4, 2) := by decide +kernel
theorem d_111_30 : decode (zm_code 111) 30 = .ok (.aload_n 0, 1) := by decide +kernel
theorem d_111_31 : decode (zm_code 111) 31 = .ok (.iload_n 3, 1) := by decide +kernel
theorem d_111_32 : decode (zm_code 111) 32 = .ok (.invokestatic 66, 3) := by decide +kernel
theorem d_111_35 : decode (zm_code 111) 35 = .ok (.iastore, 1) := by decide +kernel
theorem d_111_36 : decode (zm_code 111) 36 = .ok (.aload_n 2, 1) := by decide +kernel
theorem d_111_37 : decode (zm_code 111) 37 = .ok (.getfield 48, 3) := by decide +kernel
theorem d_111_40 : decode (zm_code 111) 40 = .ok (.iload 4, 2) := by decide +kernel
theorem d_111_42 : decode (zm_code 111) 42 = .ok (.iaload, 1) := by decide +kernel
theorem d_111_43 : decode (zm_code 111) 43 = .ok (.sipush 999, 3) := by decide +kernel
theorem d_111_46 : decode (zm_code 111) 46 = .ok (.if_icmp .le 5, 3) := by decide +kernel
theorem d_111_49 : decode (zm_code 111) 49 = .ok (.iconst 0, 1) := by decide +kernel
theorem d_111_50 : decode (zm_code 111) 50 = .ok (.ireturn, 1) := by decide +kernel
theorem d_111_51 : decode (zm_code 111) 51 = .ok (.iinc 3 2, 3) := by decide +kernel
theorem d_111_54 : decode (zm_code 111) 54 = .ok (.iconst 0, 1) := by decide +kernel
theorem d_111_55 : decode (zm_code 111) 55 = .ok (.istore 5, 2) := by decide +kernel
theorem d_111_57 : decode (zm_code 111) 57 = .ok (.iload 5, 2) := by decide +kernel
theorem d_111_59 : decode (zm_code 111) 59 = .ok (.aload_n 1, 1) := by decide +kernel
theorem d_111_60 : decode (zm_code 111) 60 = .ok (.getfield 39, 3) := by decide +kernel
theorem d_111_63 : decode (zm_code 111) 63 = .ok (.if_icmp .ge 44, 3) := by decide +kernel
theorem d_111_66 : decode (zm_code 111) 66 = .ok (.aload_n 0, 1) := by decide +kernel
theorem d_111_67 : decode (zm_code 111) 67 = .ok (.iload_n 3, 1) := by decide +kernel
theorem d_111_68 : decode (zm_code 111) 68 = .ok (.invokestatic 66, 3) := by decide +kernel
theorem d_111_71 : decode (zm_code 111) 71 = .ok (.istore 6, 2) := by decide +kernel
theorem d_111_73 : decode (zm_code 111) 73 = .ok (.iload 6, 2) := by decide +kernel
theorem d_111_75 : decode (zm_code 111) 75 = .ok (.sipush 9999, 3) := by decide +kernel
theorem d_111_78 : decode (zm_code 111) 78 = .ok (.if_icmp .le 5, 3) := by decide +kernel
theorem d_111_81 : decode (zm_code 111) 81 = .ok (.iconst 0, 1) := by decide +kernel
theorem d_111_82 : decode (zm_code 111) 82 = .ok (.ireturn, 1) := by decide +kernel
theorem d_111_83 : decode (zm_code 111) 83 = .ok (.aload_n 2, 1) := by decide +kernel
theorem d_111_84 : decode (zm_code 111) 84 = .ok (.getfield 51, 3) := by decide +kernel
theorem d_111_87 : decode (zm_code 111) 87 = .ok (.iload 4, 2) := by decide +kernel
theorem d_111_89 : decode (zm_code 111) 89 = .ok (.bipush 8, 2) := by decide +kernel
theorem d_111_91 : decode (zm_code 111) 91 = .ok (.imul, 1) := by decide +kernel
theorem d_111_92 : decode (zm_code 111) 92 = .ok (.iload 5, 2) := by decide +kernel
theorem d_111_94 : decode (zm_code 111) 94 = .ok (.iadd, 1) := by decide +kernel
theorem d_111_95 : decode (zm_code 111) 95 = .ok (.iload 6, 2) := by decide +kernel
theorem d_111_97 : decode (zm_code 111) 97 = .ok (.iastore, 1) := by decide +kernel
theorem d_111_98 : decode (zm_code 111) 98 = .ok (.iinc 3 2, 3) := by decide +kernel
theorem d_111_101 : decode (zm_code 111) 101 = .ok (.iinc 5 1, 3) := by decide +kernel
theorem d_111_104 : decode (zm_code 111) 104 = .ok (.goto (-47), 3) := by decide +kernel
theorem d_111_107 : decode (zm_code 111) 107 = .ok (.iinc 4 1, 3) := by decide +kernel
theorem d_111_110 : decode (zm_code 111) 110 = .ok (.goto (-95), 3) := by decide +kernel
theorem d_111_113 : decode (zm_code 111) 113 = .ok (.iconst 1, 1) := by decide +kernel
theorem d_111_114 : decode (zm_code 111) 114 = .ok (.ireturn, 1) := by decide +kernel
theorem d_113_0 : decode (zm_code 113) 0 = .ok (.aload_n 0, 1) := by decide +kernel
theorem d_113_1 : decode (zm_code 113) 1 = .ok (.aload_n 1, 1) := by decide +kernel
theorem d_113_2 : decode (zm_code 113) 2 = .ok (.getfield 21, 3) := by decide +kernel
theorem d_113_5 : decode (zm_code 113) 5 = .ok (.iload_n 3, 1) := by decide +kernel
theorem d_113_6 : decode (zm_code 113) 6 = .ok (.iaload, 1) := by decide +kernel
theorem d_113_7 : decode (zm_code 113) 7 = .ok (.iconst 1, 1) := by decide +kernel
theorem d_113_8 : decode (zm_code 113) 8 = .ok (.iadd, 1) := by decide +kernel
theorem d_113_9 : decode (zm_code 113) 9 = .ok (.putfield 26, 3) := by decide +kernel
theorem d_113_12 : decode (zm_code 113) 12 = .ok (.aload_n 0, 1) := by decide +kernel
theorem d_113_13 : decode (zm_code 113) 13 = .ok (.iconst 0, 1) := by decide +kernel
theorem d_113_14 : decode (zm_code 113) 14 = .ok (.putfield 30, 3) := by decide +kernel
theorem d_113_17 : decode (zm_code 113) 17 = .ok (.aload_n 0, 1) := by decide +kernel
theorem d_113_18 : decode (zm_code 113) 18 = .ok (.getfield 30, 3) := by decide +kernel
theorem d_113_21 : decode (zm_code 113) 21 = .ok (.aload_n 1, 1) := by decide +kernel
theorem d_113_22 : decode (zm_code 113) 22 = .ok (.getfield 33, 3) := by decide +kernel
theorem d_113_25 : decode (zm_code 113) 25 = .ok (.if_icmp .ge 30, 3) := by decide +kernel
theorem d_113_28 : decode (zm_code 113) 28 = .ok (.aload_n 2, 1) := by decide +kernel
theorem d_113_29 : decode (zm_code 113) 29 = .ok (.aload 4, 2) := by decide +kernel
theorem d_113_31 : decode (zm_code 113) 31 = .ok (.aload_n 0, 1) := by decide +kernel
theorem d_113_32 : decode (zm_code 113) 32 = .ok (.getfield 30, 3) := by decide +kernel
theorem d_113_35 : decode (zm_code 113) 35 = .ok (.iaload, 1) := by decide +kernel
theorem d_113_36 : decode (zm_code 113) 36 = .ok (.invokevirtual 36, 3) := by decide +kernel
theorem d_113_39 : decode (zm_code 113) 39 = .ok (.ifCond .ne 16, 3) := by decide +kernel
theorem d_113_42 : decode (zm_code 113) 42 = .ok (.aload_n 0, 1) := by decide +kernel
theorem d_113_43 : decode (zm_code 113) 43 = .ok (.dup, 1) := by decide +kernel
theorem d_113_44 : decode (zm_code 113) 44 = .ok (.getfield 30, 3) := by decide +kernel
theorem d_113_47 : decode (zm_code 113) 47 = .ok (.iconst 1, 1) := by decide +kernel
theorem d_113_48 : decode (zm_code 113) 48 = .ok (.iadd, 1) := by decide +kernel
theorem d_113_49 : decode (zm_code 113) 49 = .ok (.putfield 30, 3) := by decide +kernel
theorem d_113_52 : decode (zm_code 113) 52 = .ok (.goto (-35), 3) := by decide +kernel
theorem d_113_55 : decode (zm_code 113) 55 = .ok (.aload_n 0, 1) := by decide +kernel
theorem d_113_56 : decode (zm_code 113) 56 = .ok (.aload_n 1, 1) := by decide +kernel
theorem d_113_57 : decode (zm_code 113) 57 = .ok (.getfield 33, 3) := by decide +kernel
theorem d_113_60 : decode (zm_code 113) 60 = .ok (.aload_n 0, 1) := by decide +kernel
theorem d_113_61 : decode (zm_code 113) 61 = .ok (.getfield 30, 3) := by decide +kernel
theorem d_113_64 : decode (zm_code 113) 64 = .ok (.aload_n 1, 1) := by decide +kernel
theorem d_113_65 : decode (zm_code 113) 65 = .ok (.getfield 42, 3) := by decide +kernel
theorem d_113_68 : decode (zm_code 113) 68 = .ok (.iload_n 3, 1) := by decide +kernel
theorem d_113_69 : decode (zm_code 113) 69 = .ok (.iaload, 1) := by decide +kernel
theorem d_113_70 : decode (zm_code 113) 70 = .ok (.iadd, 1) := by decide +kernel
theorem d_113_71 : decode (zm_code 113) 71 = .ok (.invokestatic 45, 3) := by decide +kernel
theorem d_113_74 : decode (zm_code 113) 74 = .ok (.putfield 51, 3) := by decide +kernel
theorem d_113_77 : decode (zm_code 113) 77 = .ok (.aload_n 0, 1) := by decide +kernel
theorem d_113_78 : decode (zm_code 113) 78 = .ok (.iconst 0, 1) := by decide +kernel
theorem d_113_79 : decode (zm_code 113) 79 = .ok (.putfield 54, 3) := by decide +kernel
theorem d_113_82 : decode (zm_code 113) 82 = .ok (.iconst 0, 1) := by decide +kernel
theorem d_113_83 : decode (zm_code 113) 83 = .ok (.istore 5, 2) := by decide +kernel
theorem d_113_85 : decode (zm_code 113) 85 = .ok (.iload 5, 2) := by decide +kernel
theorem d_113_87 : decode (zm_code 113) 87 = .ok (.bipush 8, 2) := by decide +kernel
theorem d_113_89 : decode (zm_code 113) 89 = .ok (.if_icmp .ge 134, 3) := by decide +kernel
theorem d_113_92 : decode (zm_code 113) 92 = .ok (.aload_n 0, 1) := by decide +kernel
theorem d_113_93 : decode (zm_code 113) 93 = .ok (.getfield 9, 3) := by decide +kernel
theorem d_113_96 : decode (zm_code 113) 96 = .ok (.iload 5, 2) := by decide +kernel
theorem d_113_98 : decode (zm_code 113) 98 = .ok (.iconst 0, 1) := by decide +kernel
theorem d_113_99 : decode (zm_code 113) 99 = .ok (.iastore, 1) := by decide +kernel
theorem d_113_100 : decode (zm_code 113) 100 = .ok (.aload_n 0, 1) := by decide +kernel
theorem d_113_101 : decode (zm_code 113) 101 = .ok (.getfield 30, 3) := by decide +kernel
theorem d_113_104 : decode (zm_code 113) 104 = .ok (.istore 6, 2) := by decide +kernel
theorem d_113_106 : decode (zm_code 113) 106 = .ok (.iload 6, 2) := by decide +kernel
theorem d_113_108 : decode (zm_code 113) 108 = .ok (.aload_n 0, 1) := by decide +kernel
theorem d_113_109 : decode (zm_code 113) 109 = .ok (.getfield 51, 3) := by decide +kernel
theorem d_113_112 : decode (zm_code 113) 112 = .ok (.if_icmp .ge 35, 3) := by decide +kernel
theorem d_113_115 : decode (zm_code 113) 115 = .ok (.aload_n 0, 1) := by decide +kernel
theorem d_113_116 : decode (zm_code 113) 116 = .ok (.getfield 9, 3) := by decide +kernel
theorem d_113_119 : decode (zm_code 113) 119 = .ok (.iload 5, 2) := by decide +kernel
theorem d_113_121 : decode (zm_code 113) 121 = .ok (.dup2, 1) := by decide +kernel
theorem d_113_122 : decode (zm_code 113) 122 = .ok (.iaload, 1) := by decide +kernel
theorem d_113_123 : decode (zm_code 113) 123 = .ok (.aload_n 2, 1) := by decide +kernel
theorem d_113_124 : decode (zm_code 113) 124 = .ok (.getfield 57, 3) := by decide +kernel
theorem d_113_127 : decode (zm_code 113) 127 = .ok (.aload 4, 2) := by decide +kernel
theorem d_113_129 : decode (zm_code 113) 129 = .ok (.iload 6, 2) := by decide +kernel
theorem d_113_131 : decode (zm_code 113) 131 = .ok (.iaload, 1) := by decide +kernel
theorem d_113_132 : decode (zm_code 113) 132 = .ok (.bipush 8, 2) := by decide +kernel
theorem d_113_134 : decode (zm_code 113) 134 = .ok (.imul, 1) := by decide +kernel
theorem d_113_135 : decode (zm_code 113) 135 = .ok (.iload 5, 2) := by decide +kernel
theorem d_113_137 : decode (zm_code 113) 137 = .ok (.iadd, 1) := by decide +kernel
theorem d_113_138 : decode (zm_code 113) 138 = .ok (.iaload, 1) := by decide +kernel
theorem d_113_139 : decode (zm_code 113) 139 = .ok (.iadd, 1) := by decide +kernel
theorem d_113_140 : decode (zm_code 113) 140 = .ok (.iastore, 1) := by decide +kernel
theorem d_113_141 : decode (zm_code 113) 141 = .ok (.iinc 6 1, 3) := by decide +kernel
theorem d_113_144 : decode (zm_code 113) 144 = .ok (.goto (-38), 3) := by decide +kernel
theorem d_113_147 : decode (zm_code 113) 147 = .ok (.aload_n 0, 1) := by decide +kernel
theorem d_113_148 : decode (zm_code 113) 148 = .ok (.dup, 1) := by decide +kernel
theorem d_113_149 : decode (zm_code 113) 149 = .ok (.getfield 54, 3) := by decide +kernel
theorem d_113_152 : decode (zm_code 113) 152 = .ok (.aload_n 0, 1) := by decide +kernel
theorem d_113_153 : decode (zm_code 113) 153 = .ok (.getfield 9, 3) := by decide +kernel
theorem d_113_156 : decode (zm_code 113) 156 = .ok (.iload 5, 2) := by decide +kernel
theorem d_113_158 : decode (zm_code 113) 158 = .ok (.iaload, 1) := by decide +kernel
theorem d_113_159 : decode (zm_code 113) 159 = .ok (.iadd, 1) := by decide +kernel
theorem d_113_160 : decode (zm_code 113) 160 = .ok (.putfield 54, 3) := by decide +kernel
theorem d_113_163 : decode (zm_code 113) 163 = .ok (.aload_n 0, 1) := by decide +kernel
theorem d_113_164 : decode (zm_code 113) 164 = .ok (.getfield 15, 3) := by decide +kernel
theorem d_113_167 : decode (zm_code 113) 167 = .ok (.iload 5, 2) := by decide +kernel
theorem d_113_169 : decode (zm_code 113) 169 = .ok (.iload 5, 2) := by decide +kernel
theorem d_113_171 : decode (zm_code 113) 171 = .ok (.aload_n 1, 1) := by decide +kernel
theorem d_113_172 : decode (zm_code 113) 172 = .ok (.getfield 60, 3) := by decide +kernel
theorem d_113_175 : decode (zm_code 113) 175 = .ok (.if_icmp .ge 13, 3) := by decide +kernel
theorem d_113_178 : decode (zm_code 113) 178 = .ok (.aload_n 1, 1) := by decide +kernel
theorem d_113_179 : decode (zm_code 113) 179 = .ok (.iload_n 3, 1) := by decide +kernel
theorem d_113_180 : decode (zm_code 113) 180 = .ok (.iload 5, 2) := by decide +kernel
theorem d_113_182 : decode (zm_code 113) 182 = .ok (.invokevirtual 63, 3) := by decide +kernel
theorem d_113_185 : decode (zm_code 113) 185 = .ok (.goto 4, 3) := by decide +kernel
theorem d_113_188 : decode (zm_code 113) 188 = .ok (.iconst 0, 1) := by decide +kernel
theorem d_113_189 : decode (zm_code 113) 189 = .ok (.iastore, 1) := by decide +kernel
theorem d_113_190 : decode (zm_code 113) 190 = .ok (.aload_n 0, 1) := by decide +kernel
theorem d_113_191 : decode (zm_code 113) 191 = .ok (.getfield 18, 3) := by decide +kernel
theorem d_113_194 : decode (zm_code 113) 194 = .ok (.iload 5, 2) := by decide +kernel
theorem d_113_196 : decode (zm_code 113) 196 = .ok (.iload 5, 2) := by decide +kernel
theorem d_113_198 : decode (zm_code 113) 198 = .ok (.aload_n 1, 1) := by decide +kernel
theorem d_113_199 : decode (zm_code 113) 199 = .ok (.getfield 60, 3) := by decide +kernel
theorem d_113_202 : decode (zm_code 113) 202 = .ok (.if_icmp .ge 13, 3) := by decide +kernel
theorem d_113_205 : decode (zm_code 113) 205 = .ok (.aload_n 1, 1) := by decide +kernel
theorem d_113_206 : decode (zm_code 113) 206 = .ok (.iload_n 3, 1) := by decide +kernel
theorem d_113_207 : decode (zm_code 113) 207 = .ok (.iload 5, 2) := by decide +kernel
theorem d_113_209 : decode (zm_code 113) 209 = .ok (.invokevirtual 66, 3) := by decide +kernel
theorem d_113_212 : decode (zm_code 113) 212 = .ok (.goto 4, 3) := by decide +kernel
theorem d_113_215 : decode (zm_code 113) 215 = .ok (.iconst 0, 1) := by decide +kernel
theorem d_113_216 : decode (zm_code 113) 216 = .ok (.iastore, 1) := by decide +kernel
theorem d_113_217 : decode (zm_code 113) 217 = .ok (.iinc 5 1, 3) := by decide +kernel
theorem d_113_220 : decode (zm_code 113) 220 = .ok (.goto (-135), 3) := by decide +kernel
theorem d_113_223 : decode (zm_code 113) 223 = .ok (.return_, 1) := by decide +kernel
theorem d_114_0 : decode (zm_code 114) 0 = .ok (.iconst 0, 1) := by decide +kernel
theorem d_114_1 : decode (zm_code 114) 1 = .ok (.istore_n 2, 1) := by decide +kernel
theorem d_114_2 : decode (zm_code 114) 2 = .ok (.iconst 0, 1) := by decide +kernel
theorem d_114_3 : decode (zm_code 114) 3 = .ok (.istore_n 3, 1) := by decide +kernel
theorem d_114_4 : decode (zm_code 114) 4 = .ok (.iconst 0, 1) := by decide +kernel
theorem d_114_5 : decode (zm_code 114) 5 = .ok (.istore 4, 2) := by decide +kernel
theorem d_114_7 : decode (zm_code 114) 7 = .ok (.iload 4, 2) := by decide +kernel
theorem d_114_9 : decode (zm_code 114) 9 = .ok (.bipush 8, 2) := by decide +kernel
theorem d_114_11 : decode (zm_code 114) 11 = .ok (.if_icmp .ge 61, 3) := by decide +kernel
theorem d_114_14 : decode (zm_code 114) 14 = .ok (.aload_n 0, 1) := by decide +kernel
theorem d_114_15 : decode (zm_code 114) 15 = .ok (.getfield 18, 3) := by decide +kernel
theorem d_114_18 : decode (zm_code 114) 18 = .ok (.iload 4, 2) := by decide +kernel
theorem d_114_20 : decode (zm_code 114) 20 = .ok (.iaload, 1) := by decide +kernel
theorem d_114_21 : decode (zm_code 114) 21 = .ok (.aload_n 0, 1) := by decide +kernel
theorem d_114_22 : decode (zm_code 114) 22 = .ok (.getfield 18, 3) := by decide +kernel
theorem d_114_25 : decode (zm_code 114) 25 = .ok (.iload_n 1, 1) := by decide +kernel
theorem d_114_26 : decode (zm_code 114) 26 = .ok (.iaload, 1) := by decide +kernel
theorem d_114_27 : decode (zm_code 114) 27 = .ok (.if_icmp .ge 13, 3) := by decide +kernel
theorem d_114_30 : decode (zm_code 114) 30 = .ok (.iload_n 2, 1) := by decide +kernel
theorem d_114_31 : decode (zm_code 114) 31 = .ok (.aload_n 0, 1) := by decide +kernel
theorem d_114_32 : decode (zm_code 114) 32 = .ok (.getfield 9, 3) := by decide +kernel
theorem d_114_35 : decode (zm_code 114) 35 = .ok (.iload 4, 2) := by decide +kernel
theorem d_114_37 : decode (zm_code 114) 37 = .ok (.iaload, 1) := by decide +kernel
theorem d_114_38 : decode (zm_code 114) 38 = .ok (.iadd, 1) := by decide +kernel
theorem d_114_39 : decode (zm_code 114) 39 = .ok (.istore_n 2, 1) := by decide +kernel
theorem d_114_40 : decode (zm_code 114) 40 = .ok (.aload_n 0, 1) := by decide +kernel
theorem d_114_41 : decode (zm_code 114) 41 = .ok (.getfield 18, 3) := by decide +kernel
theorem d_114_44 : decode (zm_code 114) 44 = .ok (.iload 4, 2) := by decide +kernel
theorem d_114_46 : decode (zm_code 114) 46 = .ok (.iaload, 1) := by decide +kernel
theorem d_114_47 : decode (zm_code 114) 47 = .ok (.aload_n 0, 1) := by decide +kernel
theorem d_114_48 : decode (zm_code 114) 48 = .ok (.getfield 18, 3) := by decide +kernel
theorem d_114_51 : decode (zm_code 114) 51 = .ok (.iload_n 1, 1) := by decide +kernel
theorem d_114_52 : decode (zm_code 114) 52 = .ok (.iaload, 1) := by decide +kernel
theorem d_114_53 : decode (zm_code 114) 53 = .ok (.if_icmp .gt 13, 3) := by decide +kernel
theorem d_114_56 : decode (zm_code 114) 56 = .ok (.iload_n 3, 1) := by decide +kernel
theorem d_114_57 : decode (zm_code 114) 57 = .ok (.aload_n 0, 1) := by decide +kernel
theorem d_114_58 : decode (zm_code 114) 58 = .ok (.getfield 9, 3) := by decide +kernel
theorem d_114_61 : decode (zm_code 114) 61 = .ok (.iload 4, 2) := by decide +kernel
theorem d_114_63 : decode (zm_code 114) 63 = .ok (.iaload, 1) := by decide +kernel
theorem d_114_64 : decode (zm_code 114) 64 = .ok (.iadd, 1) := by decide +kernel
theorem d_114_65 : decode (zm_code 114) 65 = .ok (.istore_n 3, 1) := by decide +kernel
theorem d_114_66 : decode (zm_code 114) 66 = .ok (.iinc 4 1, 3) := by decide +kernel
theorem d_114_69 : decode (zm_code 114) 69 = .ok (.goto (-62), 3) := by decide +kernel
theorem d_114_72 : decode (zm_code 114) 72 = .ok (.lconst 0, 1) := by decide +kernel
theorem d_114_73 : decode (zm_code 114) 73 = .ok (.lstore 4, 2) := by decide +kernel
theorem d_114_75 : decode (zm_code 114) 75 = .ok (.iconst 0, 1) := by decide +kernel
theorem d_114_76 : decode (zm_code 114) 76 = .ok (.istore 6, 2) := by decide +kernel
theorem d_114_78 : decode (zm_code 114) 78 = .ok (.iload 6, 2) := by decide +kernel
theorem d_114_80 : decode (zm_code 114) 80 = .ok (.aload_n 0, 1) := by decide +kernel
theorem d_114_81 : decode (zm_code 114) 81 = .ok (.getfield 26, 3) := by decide +kernel
theorem d_114_84 : decode (zm_code 114) 84 = .ok (.if_icmp .ge 34, 3) := by decide +kernel
theorem d_114_87 : decode (zm_code 114) 87 = .ok (.lload 4, 2) := by decide +kernel
theorem d_114_89 : decode (zm_code 114) 89 = .ok (.iload_n 3, 1) := by decide +kernel
theorem d_114_90 : decode (zm_code 114) 90 = .ok (.aload_n 0, 1) := by decide +kernel
theorem d_114_91 : decode (zm_code 114) 91 = .ok (.getfield 26, 3) := by decide +kernel
theorem d_114_94 : decode (zm_code 114) 94 = .ok (.iconst 1, 1) := by decide +kernel
theorem d_114_95 : decode (zm_code 114) 95 = .ok (.isub, 1) := by decide +kernel
theorem d_114_96 : decode (zm_code 114) 96 = .ok (.iload 6, 2) := by decide +kernel
theorem d_114_98 : decode (zm_code 114) 98 = .ok (.isub, 1) := by decide +kernel
theorem d_114_99 : decode (zm_code 114) 99 = .ok (.invokestatic 69, 3) := by decide +kernel
theorem d_114_102 : decode (zm_code 114) 102 = .ok (.iload_n 2, 1) := by decide +kernel
theorem d_114_103 : decode (zm_code 114) 103 = .ok (.iload 6, 2) := by decide +kernel
theorem d_114_105 : decode (zm_code 114) 105 = .ok (.invokestatic 69, 3) := by decide +kernel
theorem d_114_108 : decode (zm_code 114) 108 = .ok (.lmul, 1) := by decide +kernel
theorem d_114_109 : decode (zm_code 114) 109 = .ok (.ladd, 1) := by decide +kernel
theorem d_114_110 : decode (zm_code 114) 110 = .ok (.lstore 4, 2) := by decide +kernel
theorem d_114_112 : decode (zm_code 114) 112 = .ok (.iinc 6 1, 3) := by decide +kernel
theorem d_114_115 : decode (zm_code 114) 115 = .ok (.goto (-37), 3) := by decide +kernel
theorem d_114_118 : decode (zm_code 114) 118 = .ok (.lload 4, 2) := by decide +kernel
theorem d_114_120 : decode (zm_code 114) 120 = .ok (.aload_n 0, 1) := by decide +kernel
theorem d_114_121 : decode (zm_code 114) 121 = .ok (.getfield 9, 3) := by decide +kernel
theorem d_114_124 : decode (zm_code 114) 124 = .ok (.iload_n 1, 1) := by decide +kernel
theorem d_114_125 : decode (zm_code 114) 125 = .ok (.iaload, 1) := by decide +kernel
theorem d_114_126 : decode (zm_code 114) 126 = .ok (.i2l, 1) := by decide +kernel
theorem d_114_127 : decode (zm_code 114) 127 = .ok (.lmul, 1) := by decide +kernel
theorem d_114_128 : decode (zm_code 114) 128 = .ok (.lreturn, 1) := by decide +kernel
theorem d_115_0 : decode (zm_code 115) 0 = .ok (.lconst 1, 1) := by decide +kernel
theorem d_115_1 : decode (zm_code 115) 1 = .ok (.lstore_n 2, 1) := by decide +kernel
theorem d_115_2 : decode (zm_code 115) 2 = .ok (.iconst 0, 1) := by decide +kernel
theorem d_115_3 : decode (zm_code 115) 3 = .ok (.istore 4, 2) := by decide +kernel
theorem d_115_5 : decode (zm_code 115) 5 = .ok (.iload 4, 2) := by decide +kernel
theorem d_115_7 : decode (zm_code 115) 7 = .ok (.iload_n 1, 1) := by decide +kernel
theorem d_115_8 : decode (zm_code 115) 8 = .ok (.if_icmp .ge 14, 3) := by decide +kernel
theorem d_115_11 : decode (zm_code 115) 11 = .ok (.lload_n 2, 1) := by decide +kernel
theorem d_115_12 : decode (zm_code 115) 12 = .ok (.iload_n 0, 1) := by decide +kernel
theorem d_115_13 : decode (zm_code 115) 13 = .ok (.i2l, 1) := by decide +kernel
theorem d_115_14 : decode (zm_code 115) 14 = .ok (.lmul, 1) := by decide +kernel
theorem d_115_15 : decode (zm_code 115) 15 = .ok (.lstore_n 2, 1) := by decide +kernel
theorem d_115_16 : decode (zm_code 115) 16 = .ok (.iinc 4 1, 3) := by decide +kernel
theorem d_115_19 : decode (zm_code 115) 19 = .ok (.goto (-14), 3) := by decide +kernel
theorem d_115_22 : decode (zm_code 115) 22 = .ok (.lload_n 2, 1) := by decide +kernel
theorem d_115_23 : decode (zm_code 115) 23 = .ok (.lreturn, 1) := by decide +kernel
theorem d_116_0 : decode (zm_code 116) 0 = .ok (.aload_n 0, 1) := by decide +kernel
theorem d_116_1 : decode (zm_code 116) 1 = .ok (.getfield 54, 3) := by decide +kernel
theorem d_116_4 : decode (zm_code 116) 4 = .ok (.aload_n 0, 1) := by decide +kernel
theorem d_116_5 : decode (zm_code 116) 5 = .ok (.getfield 26, 3) := by decide +kernel
theorem d_116_8 : decode (zm_code 116) 8 = .ok (.invokestatic 69, 3) := by decide +kernel
theorem d_116_11 : decode (zm_code 116) 11 = .ok (.lreturn, 1) := by decide +kernel
theorem d_117_0 : decode (zm_code 117) 0 = .ok (.lconst 0, 1) := by decide +kernel
theorem d_117_1 : decode (zm_code 117) 1 = .ok (.lstore_n 1, 1) := by decide +kernel
theorem d_117_2 : decode (zm_code 117) 2 = .ok (.iconst 0, 1) := by decide +kernel
theorem d_117_3 : decode (zm_code 117) 3 = .ok (.istore_n 3, 1) := by decide +kernel
theorem d_117_4 : decode (zm_code 117) 4 = .ok (.iload_n 3, 1) := by decide +kernel
theorem d_117_5 : decode (zm_code 117) 5 = .ok (.bipush 8, 2) := by decide +kernel
theorem d_117_7 : decode (zm_code 117) 7 = .ok (.if_icmp .ge 25, 3) := by decide +kernel
theorem d_117_10 : decode (zm_code 117) 10 = .ok (.lload_n 1, 1) := by decide +kernel
theorem d_117_11 : decode (zm_code 117) 11 = .ok (.aload_n 0, 1) := by decide +kernel
theorem d_117_12 : decode (zm_code 117) 12 = .ok (.iload_n 3, 1) := by decide +kernel
theorem d_117_13 : decode (zm_code 117) 13 = .ok (.invokevirtual 73, 3) := by decide +kernel
theorem d_117_16 : decode (zm_code 117) 16 = .ok (.aload_n 0, 1) := by decide +kernel
theorem d_117_17 : decode (zm_code 117) 17 = .ok (.getfield 15, 3) := by decide +kernel
theorem d_117_20 : decode (zm_code 117) 20 = .ok (.iload_n 3, 1) := by decide +kernel
theorem d_117_21 : decode (zm_code 117) 21 = .ok (.iaload, 1) := by decide +kernel
theorem d_117_22 : decode (zm_code 117) 22 = .ok (.i2l, 1) := by decide +kernel
theorem d_117_23 : decode (zm_code 117) 23 = .ok (.lmul, 1) := by decide +kernel
theorem d_117_24 : decode (zm_code 117) 24 = .ok (.ladd, 1) := by decide +kernel
theorem d_117_25 : decode (zm_code 117) 25 = .ok (.lstore_n 1, 1) := by decide +kernel
theorem d_117_26 : decode (zm_code 117) 26 = .ok (.iinc 3 1, 3) := by decide +kernel
theorem d_117_29 : decode (zm_code 117) 29 = .ok (.goto (-25), 3) := by decide +kernel
theorem d_117_32 : decode (zm_code 117) 32 = .ok (.lload_n 1, 1) := by decide +kernel
theorem d_117_33 : decode (zm_code 117) 33 = .ok (.lreturn, 1) := by decide +kernel
theorem d_118_0 : decode (zm_code 118) 0 = .ok (.iload_n 2, 1) := by decide +kernel
theorem d_118_1 : decode (zm_code 118) 1 = .ok (.istore_n 3, 1) := by decide +kernel
theorem d_118_2 : decode (zm_code 118) 2 = .ok (.aload_n 0, 1) := by decide +kernel
theorem d_118_3 : decode (zm_code 118) 3 = .ok (.getfield 30, 3) := by decide +kernel
theorem d_118_6 : decode (zm_code 118) 6 = .ok (.bipush 8, 2) := by decide +kernel
theorem d_118_8 : decode (zm_code 118) 8 = .ok (.imul, 1) := by decide +kernel
theorem d_118_9 : decode (zm_code 118) 9 = .ok (.istore 4, 2) := by decide +kernel
theorem d_118_11 : decode (zm_code 118) 11 = .ok (.iload 4, 2) := by decide +kernel
theorem d_118_13 : decode (zm_code 118) 13 = .ok (.aload_n 0, 1) := by decide +kernel
theorem d_118_14 : decode (zm_code 118) 14 = .ok (.getfield 51, 3) := by decide +kernel
theorem d_118_17 : decode (zm_code 118) 17 = .ok (.bipush 8, 2) := by decide +kernel
theorem d_118_19 : decode (zm_code 118) 19 = .ok (.imul, 1) := by decide +kernel
theorem d_118_20 : decode (zm_code 118) 20 = .ok (.if_icmp .ge 33, 3) := by decide +kernel
theorem d_118_23 : decode (zm_code 118) 23 = .ok (.iload_n 3, 1) := by decide +kernel
theorem d_118_24 : decode (zm_code 118) 24 = .ok (.aload_n 1, 1) := by decide +kernel
theorem d_118_25 : decode (zm_code 118) 25 = .ok (.getfield 57, 3) := by decide +kernel
theorem d_118_28 : decode (zm_code 118) 28 = .ok (.iload 4, 2) := by decide +kernel
theorem d_118_30 : decode (zm_code 118) 30 = .ok (.iaload, 1) := by decide +kernel
theorem d_118_31 : decode (zm_code 118) 31 = .ok (.if_icmp .ge 6, 3) := by decide +kernel
theorem d_118_34 : decode (zm_code 118) 34 = .ok (.iload 4, 2) := by decide +kernel
theorem d_118_36 : decode (zm_code 118) 36 = .ok (.ireturn, 1) := by decide +kernel
theorem d_118_37 : decode (zm_code 118) 37 = .ok (.iload_n 3, 1) := by decide +kernel
theorem d_118_38 : decode (zm_code 118) 38 = .ok (.aload_n 1, 1) := by decide +kernel
theorem d_118_39 : decode (zm_code 118) 39 = .ok (.getfield 57, 3) := by decide +kernel
theorem d_118_42 : decode (zm_code 118) 42 = .ok (.iload 4, 2) := by decide +kernel
theorem d_118_44 : decode (zm_code 118) 44 = .ok (.iaload, 1) := by decide +kernel
theorem d_118_45 : decode (zm_code 118) 45 = .ok (.isub, 1) := by decide +kernel
theorem d_118_46 : decode (zm_code 118) 46 = .ok (.istore_n 3, 1) := by decide +kernel
theorem d_118_47 : decode (zm_code 118) 47 = .ok (.iinc 4 1, 3) := by decide +kernel
theorem d_118_50 : decode (zm_code 118) 50 = .ok (.goto (-39), 3) := by decide +kernel
theorem d_118_53 : decode (zm_code 118) 53 = .ok (.aload_n 0, 1) := by decide +kernel
theorem d_118_54 : decode (zm_code 118) 54 = .ok (.getfield 30, 3) := by decide +kernel
theorem d_118_57 : decode (zm_code 118) 57 = .ok (.bipush 8, 2) := by decide +kernel
theorem d_118_59 : decode (zm_code 118) 59 = .ok (.imul, 1) := by decide +kernel
theorem d_118_60 : decode (zm_code 118) 60 = .ok (.ireturn, 1) := by decide +kernel
theorem d_119_0 : decode (zm_code 119) 0 = .ok (.iconst 0, 1) := by decide +kernel
theorem d_119_1 : decode (zm_code 119) 1 = .ok (.istore_n 1, 1) := by decide +kernel
theorem d_119_2 : decode (zm_code 119) 2 = .ok (.iconst 0, 1) := by decide +kernel
theorem d_119_3 : decode (zm_code 119) 3 = .ok (.istore_n 2, 1) := by decide +kernel
theorem d_119_4 : decode (zm_code 119) 4 = .ok (.iload_n 2, 1) := by decide +kernel
theorem d_119_5 : decode (zm_code 119) 5 = .ok (.bipush 8, 2) := by decide +kernel
theorem d_119_7 : decode (zm_code 119) 7 = .ok (.if_icmp .ge 25, 3) := by decide +kernel
theorem d_119_10 : decode (zm_code 119) 10 = .ok (.iload_n 1, 1) := by decide +kernel
theorem d_119_11 : decode (zm_code 119) 11 = .ok (.aload_n 0, 1) := by decide +kernel
theorem d_119_12 : decode (zm_code 119) 12 = .ok (.getfield 9, 3) := by decide +kernel
theorem d_119_15 : decode (zm_code 119) 15 = .ok (.iload_n 2, 1) := by decide +kernel
theorem d_119_16 : decode (zm_code 119) 16 = .ok (.iaload, 1) := by decide +kernel
theorem d_119_17 : decode (zm_code 119) 17 = .ok (.aload_n 0, 1) := by decide +kernel
theorem d_119_18 : decode (zm_code 119) 18 = .ok (.getfield 15, 3) := by decide +kernel
theorem d_119_21 : decode (zm_code 119) 21 = .ok (.iload_n 2, 1) := by decide +kernel
theorem d_119_22 : decode (zm_code 119) 22 = .ok (.iaload, 1) := by decide +kernel
theorem d_119_23 : decode (zm_code 119) 23 = .ok (.imul, 1) := by decide +kernel
theorem d_119_24 : decode (zm_code 119) 24 = .ok (.iadd, 1) := by decide +kernel
theorem d_119_25 : decode (zm_code 119) 25 = .ok (.istore_n 1, 1) := by decide +kernel
theorem d_119_26 : decode (zm_code 119) 26 = .ok (.iinc 2 1, 3) := by decide +kernel
theorem d_119_29 : decode (zm_code 119) 29 = .ok (.goto (-25), 3) := by decide +kernel
theorem d_119_32 : decode (zm_code 119) 32 = .ok (.aload_n 0, 1) := by decide +kernel
theorem d_119_33 : decode (zm_code 119) 33 = .ok (.getfield 54, 3) := by decide +kernel
theorem d_119_36 : decode (zm_code 119) 36 = .ok (.ifCond .gt 7, 3) := by decide +kernel
theorem d_119_39 : decode (zm_code 119) 39 = .ok (.iconst 0, 1) := by decide +kernel
theorem d_119_40 : decode (zm_code 119) 40 = .ok (.goto 9, 3) := by decide +kernel
theorem d_119_43 : decode (zm_code 119) 43 = .ok (.iload_n 1, 1) := by decide +kernel
theorem d_119_44 : decode (zm_code 119) 44 = .ok (.aload_n 0, 1) := by decide +kernel
theorem d_119_45 : decode (zm_code 119) 45 = .ok (.getfield 54, 3) := by decide +kernel
theorem d_119_48 : decode (zm_code 119) 48 = .ok (.idiv, 1) := by decide +kernel
theorem d_119_49 : decode (zm_code 119) 49 = .ok (.ireturn, 1) := by decide +kernel
theorem d_121_0 : decode (zm_code 121) 0 = .ok (.aload_n 0, 1) := by decide +kernel
theorem d_121_1 : decode (zm_code 121) 1 = .ok (.iconst 0, 1) := by decide +kernel
theorem d_121_2 : decode (zm_code 121) 2 = .ok (.putfield 15, 3) := by decide +kernel
theorem d_121_5 : decode (zm_code 121) 5 = .ok (.iload_n 2, 1) := by decide +kernel
theorem d_121_6 : decode (zm_code 121) 6 = .ok (.istore 5, 2) := by decide +kernel
theorem d_121_8 : decode (zm_code 121) 8 = .ok (.iload 5, 2) := by decide +kernel
theorem d_121_10 : decode (zm_code 121) 10 = .ok (.iload_n 3, 1) := by decide +kernel
theorem d_121_11 : decode (zm_code 121) 11 = .ok (.if_icmp .ge 95, 3) := by decide +kernel
theorem d_121_14 : decode (zm_code 121) 14 = .ok (.aload_n 1, 1) := by decide +kernel
theorem d_121_15 : decode (zm_code 121) 15 = .ok (.iload 5, 2) := by decide +kernel
theorem d_121_17 : decode (zm_code 121) 17 = .ok (.iaload, 1) := by decide +kernel
theorem d_121_18 : decode (zm_code 121) 18 = .ok (.istore 6, 2) := by decide +kernel
theorem d_121_20 : decode (zm_code 121) 20 = .ok (.iload 6, 2) := by decide +kernel
theorem d_121_22 : decode (zm_code 121) 22 = .ok (.ifCond .lt 12, 3) := by decide +kernel
theorem d_121_25 : decode (zm_code 121) 25 = .ok (.aload_n 0, 1) := by decide +kernel
theorem d_121_26 : decode (zm_code 121) 26 = .ok (.iload 6, 2) := by decide +kernel
theorem d_121_28 : decode (zm_code 121) 28 = .ok (.invokevirtual 19, 3) := by decide +kernel
theorem d_121_31 : decode (zm_code 121) 31 = .ok (.goto 69, 3) := by decide +kernel
theorem d_121_34 : decode (zm_code 121) 34 = .ok (.iload 6, 2) := by decide +kernel
theorem d_121_36 : decode (zm_code 121) 36 = .ok (.bipush (-6), 2) := by decide +kernel
theorem d_121_38 : decode (zm_code 121) 38 = .ok (.if_icmp .lt 17, 3) := by decide +kernel
theorem d_121_41 : decode (zm_code 121) 41 = .ok (.aload_n 0, 1) := by decide +kernel
theorem d_121_42 : decode (zm_code 121) 42 = .ok (.aload 4, 2) := by decide +kernel
theorem d_121_44 : decode (zm_code 121) 44 = .ok (.iconst (-1), 1) := by decide +kernel
theorem d_121_45 : decode (zm_code 121) 45 = .ok (.iload 6, 2) := by decide +kernel
theorem d_121_47 : decode (zm_code 121) 47 = .ok (.isub, 1) := by decide +kernel
theorem d_121_48 : decode (zm_code 121) 48 = .ok (.iaload, 1) := by decide +kernel
theorem d_121_49 : decode (zm_code 121) 49 = .ok (.invokevirtual 19, 3) := by decide +kernel
theorem d_121_52 : decode (zm_code 121) 52 = .ok (.goto 48, 3) := by decide +kernel
theorem d_121_55 : decode (zm_code 121) 55 = .ok (.iload 6, 2) := by decide +kernel
theorem d_121_57 : decode (zm_code 121) 57 = .ok (.bipush (-21), 2) := by decide +kernel
theorem d_121_59 : decode (zm_code 121) 59 = .ok (.if_icmp .ne 16, 3) := by decide +kernel
theorem d_121_62 : decode (zm_code 121) 62 = .ok (.aload_n 0, 1) := by decide +kernel
theorem d_121_63 : decode (zm_code 121) 63 = .ok (.iconst 1, 1) := by decide +kernel
theorem d_121_64 : decode (zm_code 121) 64 = .ok (.aload_n 0, 1) := by decide +kernel
theorem d_121_65 : decode (zm_code 121) 65 = .ok (.invokevirtual 23, 3) := by decide +kernel
theorem d_121_68 : decode (zm_code 121) 68 = .ok (.isub, 1) := by decide +kernel
theorem d_121_69 : decode (zm_code 121) 69 = .ok (.invokevirtual 19, 3) := by decide +kernel
theorem d_121_72 : decode (zm_code 121) 72 = .ok (.goto 28, 3) := by decide +kernel
theorem d_121_75 : decode (zm_code 121) 75 = .ok (.aload_n 0, 1) := by decide +kernel
theorem d_121_76 : decode (zm_code 121) 76 = .ok (.invokevirtual 23, 3) := by decide +kernel
theorem d_121_79 : decode (zm_code 121) 79 = .ok (.istore 7, 2) := by decide +kernel
theorem d_121_81 : decode (zm_code 121) 81 = .ok (.aload_n 0, 1) := by decide +kernel
theorem d_121_82 : decode (zm_code 121) 82 = .ok (.invokevirtual 23, 3) := by decide +kernel
theorem d_121_85 : decode (zm_code 121) 85 = .ok (.istore 8, 2) := by decide +kernel
theorem d_121_87 : decode (zm_code 121) 87 = .ok (.aload_n 0, 1) := by decide +kernel
theorem d_121_88 : decode (zm_code 121) 88 = .ok (.iload 6, 2) := by decide +kernel
theorem d_121_90 : decode (zm_code 121) 90 = .ok (.iload 8, 2) := by decide +kernel
theorem d_121_92 : decode (zm_code 121) 92 = .ok (.iload 7, 2) := by decide +kernel
theorem d_121_94 : decode (zm_code 121) 94 = .ok (.invokestatic 27, 3) := by decide +kernel
theorem d_121_97 : decode (zm_code 121) 97 = .ok (.invokevirtual 19, 3) := by decide +kernel
theorem d_121_100 : decode (zm_code 121) 100 = .ok (.iinc 5 1, 3) := by decide +kernel
theorem d_121_103 : decode (zm_code 121) 103 = .ok (.goto (-95), 3) := by decide +kernel
theorem d_121_106 : decode (zm_code 121) 106 = .ok (.aload_n 0, 1) := by decide +kernel
theorem d_121_107 : decode (zm_code 121) 107 = .ok (.invokevirtual 23, 3) := by decide +kernel
theorem d_121_110 : decode (zm_code 121) 110 = .ok (.ireturn, 1) := by decide +kernel
theorem d_122_0 : decode (zm_code 122) 0 = .ok (.aload_n 0, 1) := by decide +kernel
theorem d_122_1 : decode (zm_code 122) 1 = .ok (.getfield 15, 3) := by decide +kernel
theorem d_122_4 : decode (zm_code 122) 4 = .ok (.bipush 64, 2) := by decide +kernel
theorem d_122_6 : decode (zm_code 122) 6 = .ok (.if_icmp .ge 20, 3) := by decide +kernel
theorem d_122_9 : decode (zm_code 122) 9 = .ok (.aload_n 0, 1) := by decide +kernel
theorem d_122_10 : decode (zm_code 122) 10 = .ok (.getfield 11, 3) := by decide +kernel
theorem d_122_13 : decode (zm_code 122) 13 = .ok (.aload_n 0, 1) := by decide +kernel
theorem d_122_14 : decode (zm_code 122) 14 = .ok (.dup, 1) := by decide +kernel
theorem d_122_15 : decode (zm_code 122) 15 = .ok (.getfield 15, 3) := by decide +kernel
theorem d_122_18 : decode (zm_code 122) 18 = .ok (.dup_x1, 1) := by decide +kernel
theorem d_122_19 : decode (zm_code 122) 19 = .ok (.iconst 1, 1) := by decide +kernel
theorem d_122_20 : decode (zm_code 122) 20 = .ok (.iadd, 1) := by decide +kernel
theorem d_122_21 : decode (zm_code 122) 21 = .ok (.putfield 15, 3) := by decide +kernel
theorem d_122_24 : decode (zm_code 122) 24 = .ok (.iload_n 1, 1) := by decide +kernel
theorem d_122_25 : decode (zm_code 122) 25 = .ok (.iastore, 1) := by decide +kernel
theorem d_122_26 : decode (zm_code 122) 26 = .ok (.return_, 1) := by decide +kernel
theorem d_123_0 : decode (zm_code 123) 0 = .ok (.aload_n 0, 1) := by decide +kernel
theorem d_123_1 : decode (zm_code 123) 1 = .ok (.getfield 15, 3) := by decide +kernel
theorem d_123_4 : decode (zm_code 123) 4 = .ok (.ifCond .le 22, 3) := by decide +kernel
theorem d_123_7 : decode (zm_code 123) 7 = .ok (.aload_n 0, 1) := by decide +kernel
theorem d_123_8 : decode (zm_code 123) 8 = .ok (.getfield 11, 3) := by decide +kernel
theorem d_123_11 : decode (zm_code 123) 11 = .ok (.aload_n 0, 1) := by decide +kernel
theorem d_123_12 : decode (zm_code 123) 12 = .ok (.dup, 1) := by decide +kernel
theorem d_123_13 : decode (zm_code 123) 13 = .ok (.getfield 15, 3) := by decide +kernel
theorem d_123_16 : decode (zm_code 123) 16 = .ok (.iconst 1, 1) := by decide +kernel
theorem d_123_17 : decode (zm_code 123) 17 = .ok (.isub, 1) := by decide +kernel
theorem d_123_18 : decode (zm_code 123) 18 = .ok (.dup_x1, 1) := by decide +kernel
theorem d_123_19 : decode (zm_code 123) 19 = .ok (.putfield 15, 3) := by decide +kernel
theorem d_123_22 : decode (zm_code 123) 22 = .ok (.iaload, 1) := by decide +kernel
theorem d_123_23 : decode (zm_code 123) 23 = .ok (.goto 4, 3) := by decide +kernel
theorem d_123_26 : decode (zm_code 123) 26 = .ok (.iconst 0, 1) := by decide +kernel
theorem d_123_27 : decode (zm_code 123) 27 = .ok (.ireturn, 1) := by decide +kernel
theorem d_124_0 : decode (zm_code 124) 0 = .ok (.iload_n 0, 1) := by decide +kernel
theorem d_124_1 : decode (zm_code 124) 1 = .ok (.tableswitch 175 (-23) (-11) #[171, 167, 175, 156, 145, 134, 128, 122, 108, 94, 85, 76, 67], 67) := by decide +kernel
theorem d_124_68 : decode (zm_code 124) 68 = .ok (.iload_n 1, 1) := by decide +kernel
theorem d_124_69 : decode (zm_code 124) 69 = .ok (.i2l, 1) := by decide +kernel
theorem d_124_70 : decode (zm_code 124) 70 = .ok (.iload_n 2, 1) := by decide +kernel
theorem d_124_71 : decode (zm_code 124) 71 = .ok (.i2l, 1) := by decide +kernel
theorem d_124_72 : decode (zm_code 124) 72 = .ok (.ladd, 1) := by decide +kernel
theorem d_124_73 : decode (zm_code 124) 73 = .ok (.invokestatic 31, 3) := by decide +kernel
theorem d_124_76 : decode (zm_code 124) 76 = .ok (.ireturn, 1) := by decide +kernel
theorem d_124_77 : decode (zm_code 124) 77 = .ok (.iload_n 1, 1) := by decide +kernel
theorem d_124_78 : decode (zm_code 124) 78 = .ok (.i2l, 1) := by decide +kernel
theorem d_124_79 : decode (zm_code 124) 79 = .ok (.iload_n 2, 1) := by decide +kernel
theorem d_124_80 : decode (zm_code 124) 80 = .ok (.i2l, 1) := by decide +kernel
theorem d_124_81 : decode (zm_code 124) 81 = .ok (.lsub, 1) := by decide +kernel
theorem d_124_82 : decode (zm_code 124) 82 = .ok (.invokestatic 31, 3) := by decide +kernel
theorem d_124_85 : decode (zm_code 124) 85 = .ok (.ireturn, 1) := by decide +kernel
theorem d_124_86 : decode (zm_code 124) 86 = .ok (.iload_n 1, 1) := by decide +kernel
theorem d_124_87 : decode (zm_code 124) 87 = .ok (.i2l, 1) := by decide +kernel
theorem d_124_88 : decode (zm_code 124) 88 = .ok (.iload_n 2, 1) := by decide +kernel
theorem d_124_89 : decode (zm_code 124) 89 = .ok (.i2l, 1) := by decide +kernel
theorem d_124_90 : decode (zm_code 124) 90 = .ok (.lmul, 1) := by decide +kernel
theorem d_124_91 : decode (zm_code 124) 91 = .ok (.invokestatic 31, 3) := by decide +kernel
theorem d_124_94 : decode (zm_code 124) 94 = .ok (.ireturn, 1) := by decide +kernel
theorem d_124_95 : decode (zm_code 124) 95 = .ok (.iload_n 2, 1) := by decide +kernel
theorem d_124_96 : decode (zm_code 124) 96 = .ok (.ifCond .ne 7, 3) := by decide +kernel
theorem d_124_99 : decode (zm_code 124) 99 = .ok (.iconst 0, 1) := by decide +kernel
theorem d_124_100 : decode (zm_code 124) 100 = .ok (.goto 8, 3) := by decide +kernel
theorem d_124_103 : decode (zm_code 124) 103 = .ok (.iload_n 1, 1) := by decide +kernel
theorem d_124_104 : decode (zm_code 124) 104 = .ok (.iload_n 2, 1) := by decide +kernel
theorem d_124_105 : decode (zm_code 124) 105 = .ok (.invokestatic 35, 3) := by decide +kernel
theorem d_124_108 : decode (zm_code 124) 108 = .ok (.ireturn, 1) := by decide +kernel
theorem d_124_109 : decode (zm_code 124) 109 = .ok (.iload_n 2, 1) := by decide +kernel
theorem d_124_110 : decode (zm_code 124) 110 = .ok (.ifCond .ne 7, 3) := by decide +kernel
theorem d_124_113 : decode (zm_code 124) 113 = .ok (.iconst 0, 1) := by decide +kernel
theorem d_124_114 : decode (zm_code 124) 114 = .ok (.goto 8, 3) := by decide +kernel
theorem d_124_117 : decode (zm_code 124) 117 = .ok (.iload_n 1, 1) := by decide +kernel
theorem d_124_118 : decode (zm_code 124) 118 = .ok (.iload_n 2, 1) := by decide +kernel
theorem d_124_119 : decode (zm_code 124) 119 = .ok (.invokestatic 41, 3) := by decide +kernel
theorem d_124_122 : decode (zm_code 124) 122 = .ok (.ireturn, 1) := by decide +kernel
theorem d_124_123 : decode (zm_code 124) 123 = .ok (.iload_n 1, 1) := by decide +kernel
theorem d_124_124 : decode (zm_code 124) 124 = .ok (.iload_n 2, 1) := by decide +kernel
theorem d_124_125 : decode (zm_code 124) 125 = .ok (.invokestatic 44, 3) := by decide +kernel
theorem d_124_128 : decode (zm_code 124) 128 = .ok (.ireturn, 1) := by decide +kernel
theorem d_124_129 : decode (zm_code 124) 129 = .ok (.iload_n 1, 1) := by decide +kernel
theorem d_124_130 : decode (zm_code 124) 130 = .ok (.iload_n 2, 1) := by decide +kernel
theorem d_124_131 : decode (zm_code 124) 131 = .ok (.invokestatic 47, 3) := by decide +kernel
theorem d_124_134 : decode (zm_code 124) 134 = .ok (.ireturn, 1) := by decide +kernel
theorem d_124_135 : decode (zm_code 124) 135 = .ok (.iload_n 1, 1) := by decide +kernel
theorem d_124_136 : decode (zm_code 124) 136 = .ok (.iload_n 2, 1) := by decide +kernel
theorem d_124_137 : decode (zm_code 124) 137 = .ok (.if_icmp .ge 7, 3) := by decide +kernel
theorem d_124_140 : decode (zm_code 124) 140 = .ok (.iconst 1, 1) := by decide +kernel
theorem d_124_141 : decode (zm_code 124) 141 = .ok (.goto 4, 3) := by decide +kernel
theorem d_124_144 : decode (zm_code 124) 144 = .ok (.iconst 0, 1) := by decide +kernel
theorem d_124_145 : decode (zm_code 124) 145 = .ok (.ireturn, 1) := by decide +kernel
theorem d_124_146 : decode (zm_code 124) 146 = .ok (.iload_n 1, 1) := by decide +kernel
theorem d_124_147 : decode (zm_code 124) 147 = .ok (.iload_n 2, 1) := by decide +kernel
theorem d_124_148 : decode (zm_code 124) 148 = .ok (.if_icmp .le 7, 3) := by decide +kernel
theorem d_124_151 : decode (zm_code 124) 151 = .ok (.iconst 1, 1) := by decide +kernel
theorem d_124_152 : decode (zm_code 124) 152 = .ok (.goto 4, 3) := by decide +kernel
theorem d_124_155 : decode (zm_code 124) 155 = .ok (.iconst 0, 1) := by decide +kernel
theorem d_124_156 : decode (zm_code 124) 156 = .ok (.ireturn, 1) := by decide +kernel
theorem d_124_157 : decode (zm_code 124) 157 = .ok (.iload_n 1, 1) := by decide +kernel
theorem d_124_158 : decode (zm_code 124) 158 = .ok (.iload_n 2, 1) := by decide +kernel
theorem d_124_159 : decode (zm_code 124) 159 = .ok (.if_icmp .ne 7, 3) := by decide +kernel
theorem d_124_162 : decode (zm_code 124) 162 = .ok (.iconst 1, 1) := by decide +kernel
theorem d_124_163 : decode (zm_code 124) 163 = .ok (.goto 4, 3) := by decide +kernel
theorem d_124_166 : decode (zm_code 124) 166 = .ok (.iconst 0, 1) := by decide +kernel
theorem d_124_167 : decode (zm_code 124) 167 = .ok (.ireturn, 1) := by decide +kernel
theorem d_124_168 : decode (zm_code 124) 168 = .ok (.iload_n 1, 1) := by decide +kernel
theorem d_124_169 : decode (zm_code 124) 169 = .ok (.iload_n 2, 1) := by decide +kernel
theorem d_124_170 : decode (zm_code 124) 170 = .ok (.iand, 1) := by decide +kernel
theorem d_124_171 : decode (zm_code 124) 171 = .ok (.ireturn, 1) := by decide +kernel
theorem d_124_172 : decode (zm_code 124) 172 = .ok (.iload_n 1, 1) := by decide +kernel
theorem d_124_173 : decode (zm_code 124) 173 = .ok (.iload_n 2, 1) := by decide +kernel
theorem d_124_174 : decode (zm_code 124) 174 = .ok (.ior, 1) := by decide +kernel
theorem d_124_175 : decode (zm_code 124) 175 = .ok (.ireturn, 1) := by decide +kernel
theorem d_124_176 : decode (zm_code 124) 176 = .ok (.iconst 0, 1) := by decide +kernel
theorem d_124_177 : decode (zm_code 124) 177 = .ok (.ireturn, 1) := by decide +kernel
theorem d_125_0 : decode (zm_code 125) 0 = .ok (.ldc2_w 50, 3) := by decide +kernel
theorem d_125_3 : decode (zm_code 125) 3 = .ok (.ldc2_w 52, 3) := by decide +kernel
theorem d_125_6 : decode (zm_code 125) 6 = .ok (.lload_n 0, 1) := by decide +kernel
theorem d_125_7 : decode (zm_code 125) 7 = .ok (.invokestatic 54, 3) := by decide +kernel
theorem d_125_10 : decode (zm_code 125) 10 = .ok (.invokestatic 57, 3) := by decide +kernel
theorem d_125_13 : decode (zm_code 125) 13 = .ok (.l2i, 1) := by decide +kernel
theorem d_125_14 : decode (zm_code 125) 14 = .ok (.ireturn, 1) := by decide +kernel
theorem d_127_0 : decode (zm_code 127) 0 = .ok (.iconst 0, 1) := by decide +kernel
theorem d_127_1 : decode (zm_code 127) 1 = .ok (.istore_n 3, 1) := by decide +kernel
theorem d_127_2 : decode (zm_code 127) 2 = .ok (.iload_n 3, 1) := by decide +kernel
theorem d_127_3 : decode (zm_code 127) 3 = .ok (.aload_n 1, 1) := by decide +kernel
theorem d_127_4 : decode (zm_code 127) 4 = .ok (.getfield 21, 3) := by decide +kernel
theorem d_127_7 : decode (zm_code 127) 7 = .ok (.if_icmp .ge 42, 3) := by decide +kernel
theorem d_127_10 : decode (zm_code 127) 10 = .ok (.aload_n 0, 1) := by decide +kernel
theorem d_127_11 : decode (zm_code 127) 11 = .ok (.getfield 9, 3) := by decide +kernel
theorem d_127_14 : decode (zm_code 127) 14 = .ok (.iload_n 3, 1) := by decide +kernel
theorem d_127_15 : decode (zm_code 127) 15 = .ok (.aload_n 1, 1) := by decide +kernel
theorem d_127_16 : decode (zm_code 127) 16 = .ok (.aload_n 2, 1) := by decide +kernel
theorem d_127_17 : decode (zm_code 127) 17 = .ok (.iload_n 3, 1) := by decide +kernel
theorem d_127_18 : decode (zm_code 127) 18 = .ok (.invokestatic 27, 3) := by decide +kernel
theorem d_127_21 : decode (zm_code 127) 21 = .ok (.iastore, 1) := by decide +kernel
theorem d_127_22 : decode (zm_code 127) 22 = .ok (.aload_n 0, 1) := by decide +kernel
theorem d_127_23 : decode (zm_code 127) 23 = .ok (.getfield 18, 3) := by decide +kernel
theorem d_127_26 : decode (zm_code 127) 26 = .ok (.iload_n 3, 1) := by decide +kernel
theorem d_127_27 : decode (zm_code 127) 27 = .ok (.aload_n 0, 1) := by decide +kernel
theorem d_127_28 : decode (zm_code 127) 28 = .ok (.getfield 9, 3) := by decide +kernel
theorem d_127_31 : decode (zm_code 127) 31 = .ok (.iload_n 3, 1) := by decide +kernel
theorem d_127_32 : decode (zm_code 127) 32 = .ok (.iaload, 1) := by decide +kernel
theorem d_127_33 : decode (zm_code 127) 33 = .ok (.iconst (-1), 1) := by decide +kernel
theorem d_127_34 : decode (zm_code 127) 34 = .ok (.if_icmp .ne 7, 3) := by decide +kernel
theorem d_127_37 : decode (zm_code 127) 37 = .ok (.iconst (-1), 1) := by decide +kernel
theorem d_127_38 : decode (zm_code 127) 38 = .ok (.goto 4, 3) := by decide +kernel
theorem d_127_41 : decode (zm_code 127) 41 = .ok (.iconst 0, 1) := by decide +kernel
theorem d_127_42 : decode (zm_code 127) 42 = .ok (.iastore, 1) := by decide +kernel
theorem d_127_43 : decode (zm_code 127) 43 = .ok (.iinc 3 1, 3) := by decide +kernel
theorem d_127_46 : decode (zm_code 127) 46 = .ok (.goto (-44), 3) := by decide +kernel
theorem d_127_49 : decode (zm_code 127) 49 = .ok (.iconst 1, 1) := by decide +kernel
theorem d_127_50 : decode (zm_code 127) 50 = .ok (.istore_n 3, 1) := by decide +kernel
theorem d_127_51 : decode (zm_code 127) 51 = .ok (.iload_n 3, 1) := by decide +kernel
theorem d_127_52 : decode (zm_code 127) 52 = .ok (.aload_n 1, 1) := by decide +kernel
theorem d_127_53 : decode (zm_code 127) 53 = .ok (.getfield 21, 3) := by decide +kernel
theorem d_127_56 : decode (zm_code 127) 56 = .ok (.if_icmp .gt 100, 3) := by decide +kernel
theorem d_127_59 : decode (zm_code 127) 59 = .ok (.iconst 0, 1) := by decide +kernel
theorem d_127_60 : decode (zm_code 127) 60 = .ok (.istore 4, 2) := by decide +kernel
theorem d_127_62 : decode (zm_code 127) 62 = .ok (.iload 4, 2) := by decide +kernel
theorem d_127_64 : decode (zm_code 127) 64 = .ok (.aload_n 1, 1) := by decide +kernel
theorem d_127_65 : decode (zm_code 127) 65 = .ok (.getfield 21, 3) := by decide +kernel
theorem d_127_68 : decode (zm_code 127) 68 = .ok (.if_icmp .ge 33, 3) := by decide +kernel
theorem d_127_71 : decode (zm_code 127) 71 = .ok (.aload_n 0, 1) := by decide +kernel
theorem d_127_72 : decode (zm_code 127) 72 = .ok (.getfield 18, 3) := by decide +kernel
theorem d_127_75 : decode (zm_code 127) 75 = .ok (.iload 4, 2) := by decide +kernel
theorem d_127_77 : decode (zm_code 127) 77 = .ok (.iaload, 1) := by decide +kernel
theorem d_127_78 : decode (zm_code 127) 78 = .ok (.ifCond .ne 17, 3) := by decide +kernel
theorem d_127_81 : decode (zm_code 127) 81 = .ok (.aload_n 0, 1) := by decide +kernel
theorem d_127_82 : decode (zm_code 127) 82 = .ok (.getfield 15, 3) := by decide +kernel
theorem d_127_85 : decode (zm_code 127) 85 = .ok (.iload 4, 2) := by decide +kernel
theorem d_127_87 : decode (zm_code 127) 87 = .ok (.aload_n 0, 1) := by decide +kernel
theorem d_127_88 : decode (zm_code 127) 88 = .ok (.aload_n 1, 1) := by decide +kernel
theorem d_127_89 : decode (zm_code 127) 89 = .ok (.iload 4, 2) := by decide +kernel
theorem d_127_91 : decode (zm_code 127) 91 = .ok (.invokevirtual 31, 3) := by decide +kernel
theorem d_127_94 : decode (zm_code 127) 94 = .ok (.iastore, 1) := by decide +kernel
theorem d_127_95 : decode (zm_code 127) 95 = .ok (.iinc 4 1, 3) := by decide +kernel
theorem d_127_98 : decode (zm_code 127) 98 = .ok (.goto (-36), 3) := by decide +kernel
theorem d_127_101 : decode (zm_code 127) 101 = .ok (.iconst 0, 1) := by decide +kernel
theorem d_127_102 : decode (zm_code 127) 102 = .ok (.istore 4, 2) := by decide +kernel
theorem d_127_104 : decode (zm_code 127) 104 = .ok (.iload 4, 2) := by decide +kernel
theorem d_127_106 : decode (zm_code 127) 106 = .ok (.aload_n 1, 1) := by decide +kernel
theorem d_127_107 : decode (zm_code 127) 107 = .ok (.getfield 21, 3) := by decide +kernel
theorem d_127_110 : decode (zm_code 127) 110 = .ok (.if_icmp .ge 40, 3) := by decide +kernel
theorem d_127_113 : decode (zm_code 127) 113 = .ok (.aload_n 0, 1) := by decide +kernel
theorem d_127_114 : decode (zm_code 127) 114 = .ok (.getfield 18, 3) := by decide +kernel
theorem d_127_117 : decode (zm_code 127) 117 = .ok (.iload 4, 2) := by decide +kernel
theorem d_127_119 : decode (zm_code 127) 119 = .ok (.iaload, 1) := by decide +kernel
theorem d_127_120 : decode (zm_code 127) 120 = .ok (.ifCond .ne 24, 3) := by decide +kernel
theorem d_127_123 : decode (zm_code 127) 123 = .ok (.aload_n 0, 1) := by decide +kernel
theorem d_127_124 : decode (zm_code 127) 124 = .ok (.iload 4, 2) := by decide +kernel
theorem d_127_126 : decode (zm_code 127) 126 = .ok (.aload_n 1, 1) := by decide +kernel
theorem d_127_127 : decode (zm_code 127) 127 = .ok (.getfield 21, 3) := by decide +kernel
theorem d_127_130 : decode (zm_code 127) 130 = .ok (.invokevirtual 35, 3) := by decide +kernel
theorem d_127_133 : decode (zm_code 127) 133 = .ok (.ifCond .eq 11, 3) := by decide +kernel
theorem d_127_136 : decode (zm_code 127) 136 = .ok (.aload_n 0, 1) := by decide +kernel
theorem d_127_137 : decode (zm_code 127) 137 = .ok (.getfield 18, 3) := by decide +kernel
theorem d_127_140 : decode (zm_code 127) 140 = .ok (.iload 4, 2) := by decide +kernel
theorem d_127_142 : decode (zm_code 127) 142 = .ok (.iload_n 3, 1) := by decide +kernel
theorem d_127_143 : decode (zm_code 127) 143 = .ok (.iastore, 1) := by decide +kernel
theorem d_127_144 : decode (zm_code 127) 144 = .ok (.iinc 4 1, 3) := by decide +kernel
theorem d_127_147 : decode (zm_code 127) 147 = .ok (.goto (-43), 3) := by decide +kernel
theorem d_127_150 : decode (zm_code 127) 150 = .ok (.iinc 3 1, 3) := by decide +kernel
theorem d_127_153 : decode (zm_code 127) 153 = .ok (.goto (-102), 3) := by decide +kernel
theorem d_127_156 : decode (zm_code 127) 156 = .ok (.return_, 1) := by decide +kernel
theorem d_128_0 : decode (zm_code 128) 0 = .ok (.iconst (-1), 1) := by decide +kernel
theorem d_128_1 : decode (zm_code 128) 1 = .ok (.istore_n 3, 1) := by decide +kernel
theorem d_128_2 : decode (zm_code 128) 2 = .ok (.iconst 0, 1) := by decide +kernel
theorem d_128_3 : decode (zm_code 128) 3 = .ok (.istore 4, 2) := by decide +kernel
theorem d_128_5 : decode (zm_code 128) 5 = .ok (.iload 4, 2) := by decide +kernel
theorem d_128_7 : decode (zm_code 128) 7 = .ok (.aload_n 0, 1) := by decide +kernel
theorem d_128_8 : decode (zm_code 128) 8 = .ok (.getfield 39, 3) := by decide +kernel
theorem d_128_11 : decode (zm_code 128) 11 = .ok (.if_icmp .ge 51, 3) := by decide +kernel
theorem d_128_14 : decode (zm_code 128) 14 = .ok (.aload_n 1, 1) := by decide +kernel
theorem d_128_15 : decode (zm_code 128) 15 = .ok (.getfield 42, 3) := by decide +kernel
theorem d_128_18 : decode (zm_code 128) 18 = .ok (.iload_n 2, 1) := by decide +kernel
theorem d_128_19 : decode (zm_code 128) 19 = .ok (.bipush 8, 2) := by decide +kernel
theorem d_128_21 : decode (zm_code 128) 21 = .ok (.imul, 1) := by decide +kernel
theorem d_128_22 : decode (zm_code 128) 22 = .ok (.iload 4, 2) := by decide +kernel
theorem d_128_24 : decode (zm_code 128) 24 = .ok (.iadd, 1) := by decide +kernel
theorem d_128_25 : decode (zm_code 128) 25 = .ok (.iaload, 1) := by decide +kernel
theorem d_128_26 : decode (zm_code 128) 26 = .ok (.ifCond .ne 6, 3) := by decide +kernel
theorem d_128_29 : decode (zm_code 128) 29 = .ok (.goto 27, 3) := by decide +kernel
theorem d_128_32 : decode (zm_code 128) 32 = .ok (.iload_n 3, 1) := by decide +kernel
theorem d_128_33 : decode (zm_code 128) 33 = .ok (.iconst (-1), 1) := by decide +kernel
theorem d_128_34 : decode (zm_code 128) 34 = .ok (.if_icmp .eq 19, 3) := by decide +kernel
theorem d_128_37 : decode (zm_code 128) 37 = .ok (.aload_n 0, 1) := by decide +kernel
theorem d_128_38 : decode (zm_code 128) 38 = .ok (.iload_n 2, 1) := by decide +kernel
theorem d_128_39 : decode (zm_code 128) 39 = .ok (.iload 4, 2) := by decide +kernel
theorem d_128_41 : decode (zm_code 128) 41 = .ok (.invokevirtual 47, 3) := by decide +kernel
theorem d_128_44 : decode (zm_code 128) 44 = .ok (.aload_n 0, 1) := by decide +kernel
theorem d_128_45 : decode (zm_code 128) 45 = .ok (.iload_n 2, 1) := by decide +kernel
theorem d_128_46 : decode (zm_code 128) 46 = .ok (.iload_n 3, 1) := by decide +kernel
theorem d_128_47 : decode (zm_code 128) 47 = .ok (.invokevirtual 47, 3) := by decide +kernel
theorem d_128_50 : decode (zm_code 128) 50 = .ok (.if_icmp .ge 6, 3) := by decide +kernel
theorem d_128_53 : decode (zm_code 128) 53 = .ok (.iload 4, 2) := by decide +kernel
theorem d_128_55 : decode (zm_code 128) 55 = .ok (.istore_n 3, 1) := by decide +kernel
theorem d_128_56 : decode (zm_code 128) 56 = .ok (.iinc 4 1, 3) := by decide +kernel
theorem d_128_59 : decode (zm_code 128) 59 = .ok (.goto (-54), 3) := by decide +kernel
theorem d_128_62 : decode (zm_code 128) 62 = .ok (.iload_n 3, 1) := by decide +kernel
theorem d_128_63 : decode (zm_code 128) 63 = .ok (.ireturn, 1) := by decide +kernel
theorem d_129_0 : decode (zm_code 129) 0 = .ok (.iload_n 2, 1) := by decide +kernel
theorem d_129_1 : decode (zm_code 129) 1 = .ok (.istore_n 3, 1) := by decide +kernel
theorem d_129_2 : decode (zm_code 129) 2 = .ok (.iconst 0, 1) := by decide +kernel
theorem d_129_3 : decode (zm_code 129) 3 = .ok (.istore 4, 2) := by decide +kernel
theorem d_129_5 : decode (zm_code 129) 5 = .ok (.iload 4, 2) := by decide +kernel
theorem d_129_7 : decode (zm_code 129) 7 = .ok (.aload_n 1, 1) := by decide +kernel
theorem d_129_8 : decode (zm_code 129) 8 = .ok (.getfield 21, 3) := by decide +kernel
theorem d_129_11 : decode (zm_code 129) 11 = .ok (.if_icmp .ge 51, 3) := by decide +kernel
theorem d_129_14 : decode (zm_code 129) 14 = .ok (.aload_n 0, 1) := by decide +kernel
theorem d_129_15 : decode (zm_code 129) 15 = .ok (.getfield 18, 3) := by decide +kernel
theorem d_129_18 : decode (zm_code 129) 18 = .ok (.iload 4, 2) := by decide +kernel
theorem d_129_20 : decode (zm_code 129) 20 = .ok (.iaload, 1) := by decide +kernel
theorem d_129_21 : decode (zm_code 129) 21 = .ok (.ifCond .eq 6, 3) := by decide +kernel
theorem d_129_24 : decode (zm_code 129) 24 = .ok (.goto 32, 3) := by decide +kernel
theorem d_129_27 : decode (zm_code 129) 27 = .ok (.aload_n 1, 1) := by decide +kernel
theorem d_129_28 : decode (zm_code 129) 28 = .ok (.iload_n 2, 1) := by decide +kernel
theorem d_129_29 : decode (zm_code 129) 29 = .ok (.aload_n 0, 1) := by decide +kernel
theorem d_129_30 : decode (zm_code 129) 30 = .ok (.getfield 9, 3) := by decide +kernel
theorem d_129_33 : decode (zm_code 129) 33 = .ok (.iload 4, 2) := by decide +kernel
theorem d_129_35 : decode (zm_code 129) 35 = .ok (.iaload, 1) := by decide +kernel
theorem d_129_36 : decode (zm_code 129) 36 = .ok (.invokevirtual 47, 3) := by decide +kernel
theorem d_129_39 : decode (zm_code 129) 39 = .ok (.aload_n 1, 1) := by decide +kernel
theorem d_129_40 : decode (zm_code 129) 40 = .ok (.iload_n 2, 1) := by decide +kernel
theorem d_129_41 : decode (zm_code 129) 41 = .ok (.aload_n 0, 1) := by decide +kernel
theorem d_129_42 : decode (zm_code 129) 42 = .ok (.getfield 9, 3) := by decide +kernel
theorem d_129_45 : decode (zm_code 129) 45 = .ok (.iload_n 3, 1) := by decide +kernel
theorem d_129_46 : decode (zm_code 129) 46 = .ok (.iaload, 1) := by decide +kernel
theorem d_129_47 : decode (zm_code 129) 47 = .ok (.invokevirtual 47, 3) := by decide +kernel
theorem d_129_50 : decode (zm_code 129) 50 = .ok (.if_icmp .le 6, 3) := by decide +kernel
theorem d_129_53 : decode (zm_code 129) 53 = .ok (.iload 4, 2) := by decide +kernel
theorem d_129_55 : decode (zm_code 129) 55 = .ok (.istore_n 3, 1) := by decide +kernel
theorem d_129_56 : decode (zm_code 129) 56 = .ok (.iinc 4 1, 3) := by decide +kernel
theorem d_129_59 : decode (zm_code 129) 59 = .ok (.goto (-54), 3) := by decide +kernel
theorem d_129_62 : decode (zm_code 129) 62 = .ok (.iload_n 3, 1) := by decide +kernel
theorem d_129_63 : decode (zm_code 129) 63 = .ok (.ireturn, 1) := by decide +kernel
theorem d_130_0 : decode (zm_code 130) 0 = .ok (.aload_n 0, 1) := by decide +kernel
theorem d_130_1 : decode (zm_code 130) 1 = .ok (.getfield 15, 3) := by decide +kernel
theorem d_130_4 : decode (zm_code 130) 4 = .ok (.iload_n 1, 1) := by decide +kernel
theorem d_130_5 : decode (zm_code 130) 5 = .ok (.iaload, 1) := by decide +kernel
theorem d_130_6 : decode (zm_code 130) 6 = .ok (.istore_n 3, 1) := by decide +kernel
theorem d_130_7 : decode (zm_code 130) 7 = .ok (.iconst 0, 1) := by decide +kernel
theorem d_130_8 : decode (zm_code 130) 8 = .ok (.istore 4, 2) := by decide +kernel
theorem d_130_10 : decode (zm_code 130) 10 = .ok (.iload 4, 2) := by decide +kernel
theorem d_130_12 : decode (zm_code 130) 12 = .ok (.iload_n 2, 1) := by decide +kernel
theorem d_130_13 : decode (zm_code 130) 13 = .ok (.if_icmp .ge 21, 3) := by decide +kernel
theorem d_130_16 : decode (zm_code 130) 16 = .ok (.iload_n 3, 1) := by decide +kernel
theorem d_130_17 : decode (zm_code 130) 17 = .ok (.iload_n 1, 1) := by decide +kernel
theorem d_130_18 : decode (zm_code 130) 18 = .ok (.if_icmp .eq 16, 3) := by decide +kernel
theorem d_130_21 : decode (zm_code 130) 21 = .ok (.aload_n 0, 1) := by decide +kernel
theorem d_130_22 : decode (zm_code 130) 22 = .ok (.getfield 15, 3) := by decide +kernel
theorem d_130_25 : decode (zm_code 130) 25 = .ok (.iload_n 3, 1) := by decide +kernel
theorem d_130_26 : decode (zm_code 130) 26 = .ok (.iaload, 1) := by decide +kernel
theorem d_130_27 : decode (zm_code 130) 27 = .ok (.istore_n 3, 1) := by decide +kernel
theorem d_130_28 : decode (zm_code 130) 28 = .ok (.iinc 4 1, 3) := by decide +kernel
theorem d_130_31 : decode (zm_code 130) 31 = .ok (.goto (-21), 3) := by decide +kernel
theorem d_130_34 : decode (zm_code 130) 34 = .ok (.iload_n 3, 1) := by decide +kernel
theorem d_130_35 : decode (zm_code 130) 35 = .ok (.iload_n 1, 1) := by decide +kernel
theorem d_130_36 : decode (zm_code 130) 36 = .ok (.if_icmp .ne 7, 3) := by decide +kernel
theorem d_130_39 : decode (zm_code 130) 39 = .ok (.iconst 1, 1) := by decide +kernel
theorem d_130_40 : decode (zm_code 130) 40 = .ok (.goto 4, 3) := by decide +kernel
theorem d_130_43 : decode (zm_code 130) 43 = .ok (.iconst 0, 1) := by decide +kernel
theorem d_130_44 : decode (zm_code 130) 44 = .ok (.ireturn, 1) := by decide +kernel
theorem d_132_0 : decode (zm_code 132) 0 = .ok (.aload_n 0, 1) := by decide +kernel
theorem d_132_1 : decode (zm_code 132) 1 = .ok (.iconst 0, 1) := by decide +kernel
theorem d_132_2 : decode (zm_code 132) 2 = .ok (.putfield 31, 3) := by decide +kernel
theorem d_132_5 : decode (zm_code 132) 5 = .ok (.aload_n 0, 1) := by decide +kernel
theorem d_132_6 : decode (zm_code 132) 6 = .ok (.iconst 0, 1) := by decide +kernel
theorem d_132_7 : decode (zm_code 132) 7 = .ok (.putfield 35, 3) := by decide +kernel
theorem d_132_10 : decode (zm_code 132) 10 = .ok (.aload_n 0, 1) := by decide +kernel
theorem d_132_11 : decode (zm_code 132) 11 = .ok (.invokevirtual 38, 3) := by decide +kernel
theorem d_132_14 : decode (zm_code 132) 14 = .ok (.return_, 1) := by decide +kernel
theorem d_133_0 : decode (zm_code 133) 0 = .ok (.aload_n 0, 1) := by decide +kernel
theorem d_133_1 : decode (zm_code 133) 1 = .ok (.getfield 35, 3) := by decide +kernel
theorem d_133_4 : decode (zm_code 133) 4 = .ok (.iconst 1, 1) := by decide +kernel
theorem d_133_5 : decode (zm_code 133) 5 = .ok (.if_icmp .eq 11, 3) := by decide +kernel
theorem d_133_8 : decode (zm_code 133) 8 = .ok (.aload_n 0, 1) := by decide +kernel
theorem d_133_9 : decode (zm_code 133) 9 = .ok (.getfield 35, 3) := by decide +kernel
theorem d_133_12 : decode (zm_code 133) 12 = .ok (.iconst 2, 1) := by decide +kernel
theorem d_133_13 : decode (zm_code 133) 13 = .ok (.if_icmp .ne 7, 3) := by decide +kernel
theorem d_133_16 : decode (zm_code 133) 16 = .ok (.iconst 1, 1) := by decide +kernel
theorem d_133_17 : decode (zm_code 133) 17 = .ok (.goto 4, 3) := by decide +kernel
theorem d_133_20 : decode (zm_code 133) 20 = .ok (.iconst 0, 1) := by decide +kernel
theorem d_133_21 : decode (zm_code 133) 21 = .ok (.istore_n 1, 1) := by decide +kernel
theorem d_133_22 : decode (zm_code 133) 22 = .ok (.aload_n 0, 1) := by decide +kernel
theorem d_133_23 : decode (zm_code 133) 23 = .ok (.getfield 31, 3) := by decide +kernel
theorem d_133_26 : decode (zm_code 133) 26 = .ok (.istore_n 2, 1) := by decide +kernel
theorem d_133_27 : decode (zm_code 133) 27 = .ok (.aload_n 0, 1) := by decide +kernel
theorem d_133_28 : decode (zm_code 133) 28 = .ok (.getfield 31, 3) := by decide +kernel
theorem d_133_31 : decode (zm_code 133) 31 = .ok (.aload_n 0, 1) := by decide +kernel
theorem d_133_32 : decode (zm_code 133) 32 = .ok (.getfield 15, 3) := by decide +kernel
theorem d_133_35 : decode (zm_code 133) 35 = .ok (.getfield 41, 3) := by decide +kernel
theorem d_133_38 : decode (zm_code 133) 38 = .ok (.if_icmp .ge 50, 3) := by decide +kernel
theorem d_133_41 : decode (zm_code 133) 41 = .ok (.aload_n 0, 1) := by decide +kernel
theorem d_133_42 : decode (zm_code 133) 42 = .ok (.getfield 15, 3) := by decide +kernel
theorem d_133_45 : decode (zm_code 133) 45 = .ok (.getfield 45, 3) := by decide +kernel
theorem d_133_48 : decode (zm_code 133) 48 = .ok (.aload_n 0, 1) := by decide +kernel
theorem d_133_49 : decode (zm_code 133) 49 = .ok (.getfield 31, 3) := by decide +kernel
theorem d_133_52 : decode (zm_code 133) 52 = .ok (.iaload, 1) := by decide +kernel
theorem d_133_53 : decode (zm_code 133) 53 = .ok (.bipush 10, 2) := by decide +kernel
theorem d_133_55 : decode (zm_code 133) 55 = .ok (.if_icmp .eq 20, 3) := by decide +kernel
theorem d_133_58 : decode (zm_code 133) 58 = .ok (.aload_n 0, 1) := by decide +kernel
theorem d_133_59 : decode (zm_code 133) 59 = .ok (.getfield 15, 3) := by decide +kernel
theorem d_133_62 : decode (zm_code 133) 62 = .ok (.getfield 45, 3) := by decide +kernel
theorem d_133_65 : decode (zm_code 133) 65 = .ok (.aload_n 0, 1) := by decide +kernel
theorem d_133_66 : decode (zm_code 133) 66 = .ok (.getfield 31, 3) := by decide +kernel
theorem d_133_69 : decode (zm_code 133) 69 = .ok (.iaload, 1) := by decide +kernel
theorem d_133_70 : decode (zm_code 133) 70 = .ok (.bipush 32, 2) := by decide +kernel
theorem d_133_72 : decode (zm_code 133) 72 = .ok (.if_icmp .ne 16, 3) := by decide +kernel
theorem d_133_75 : decode (zm_code 133) 75 = .ok (.aload_n 0, 1) := by decide +kernel
theorem d_133_76 : decode (zm_code 133) 76 = .ok (.dup, 1) := by decide +kernel
theorem d_133_77 : decode (zm_code 133) 77 = .ok (.getfield 31, 3) := by decide +kernel
theorem d_133_80 : decode (zm_code 133) 80 = .ok (.iconst 1, 1) := by decide +kernel
theorem d_133_81 : decode (zm_code 133) 81 = .ok (.iadd, 1) := by decide +kernel
theorem d_133_82 : decode (zm_code 133) 82 = .ok (.putfield 31, 3) := by decide +kernel
theorem d_133_85 : decode (zm_code 133) 85 = .ok (.goto (-58), 3) := by decide +kernel
theorem d_133_88 : decode (zm_code 133) 88 = .ok (.aload_n 0, 1) := by decide +kernel
theorem d_133_89 : decode (zm_code 133) 89 = .ok (.aload_n 0, 1) := by decide +kernel
theorem d_133_90 : decode (zm_code 133) 90 = .ok (.getfield 31, 3) := by decide +kernel
theorem d_133_93 : decode (zm_code 133) 93 = .ok (.putfield 48, 3) := by decide +kernel
theorem d_133_96 : decode (zm_code 133) 96 = .ok (.aload_n 0, 1) := by decide +kernel
theorem d_133_97 : decode (zm_code 133) 97 = .ok (.aload_n 0, 1) := by decide +kernel
theorem d_133_98 : decode (zm_code 133) 98 = .ok (.getfield 31, 3) := by decide +kernel
theorem d_133_101 : decode (zm_code 133) 101 = .ok (.putfield 51, 3) := by decide +kernel
theorem d_133_104 : decode (zm_code 133) 104 = .ok (.aload_n 0, 1) := by decide +kernel
theorem d_133_105 : decode (zm_code 133) 105 = .ok (.iconst 0, 1) := by decide +kernel
theorem d_133_106 : decode (zm_code 133) 106 = .ok (.putfield 54, 3) := by decide +kernel
theorem d_133_109 : decode (zm_code 133) 109 = .ok (.aload_n 0, 1) := by decide +kernel
theorem d_133_110 : decode (zm_code 133) 110 = .ok (.getfield 31, 3) := by decide +kernel
theorem d_133_113 : decode (zm_code 133) 113 = .ok (.aload_n 0, 1) := by decide +kernel
theorem d_133_114 : decode (zm_code 133) 114 = .ok (.getfield 15, 3) := by decide +kernel
theorem d_133_117 : decode (zm_code 133) 117 = .ok (.getfield 41, 3) := by decide +kernel
theorem d_133_120 : decode (zm_code 133) 120 = .ok (.if_icmp .ge 18, 3) := by decide +kernel
theorem d_133_123 : decode (zm_code 133) 123 = .ok (.aload_n 0, 1) := by decide +kernel
theorem d_133_124 : decode (zm_code 133) 124 = .ok (.getfield 15, 3) := by decide +kernel
theorem d_133_127 : decode (zm_code 133) 127 = .ok (.getfield 45, 3) := by decide +kernel
theorem d_133_130 : decode (zm_code 133) 130 = .ok (.aload_n 0, 1) := by decide +kernel
theorem d_133_131 : decode (zm_code 133) 131 = .ok (.getfield 31, 3) := by decide +kernel
theorem d_133_134 : decode (zm_code 133) 134 = .ok (.iaload, 1) := by decide +kernel
theorem d_133_135 : decode (zm_code 133) 135 = .ok (.goto 4, 3) := by decide +kernel
theorem d_133_138 : decode (zm_code 133) 138 = .ok (.iconst (-1), 1) := by decide +kernel
theorem d_133_139 : decode (zm_code 133) 139 = .ok (.istore_n 3, 1) := by decide +kernel
theorem d_133_140 : decode (zm_code 133) 140 = .ok (.iload_n 3, 1) := by decide +kernel
theorem d_133_141 : decode (zm_code 133) 141 = .ok (.bipush 97, 2) := by decide +kernel
theorem d_133_143 : decode (zm_code 133) 143 = .ok (.if_icmp .lt 16, 3) := by decide +kernel
theorem d_133_146 : decode (zm_code 133) 146 = .ok (.iload_n 3, 1) := by decide +kernel
theorem d_133_147 : decode (zm_code 133) 147 = .ok (.bipush 122, 2) := by decide +kernel
theorem d_133_149 : decode (zm_code 133) 149 = .ok (.if_icmp .gt 10, 3) := by decide +kernel
theorem d_133_152 : decode (zm_code 133) 152 = .ok (.aload_n 0, 1) := by decide +kernel
theorem d_133_153 : decode (zm_code 133) 153 = .ok (.invokevirtual 57, 3) := by decide +kernel
theorem d_133_156 : decode (zm_code 133) 156 = .ok (.goto 27, 3) := by decide +kernel
theorem d_133_159 : decode (zm_code 133) 159 = .ok (.iload_n 3, 1) := by decide +kernel
theorem d_133_160 : decode (zm_code 133) 160 = .ok (.bipush 48, 2) := by decide +kernel
theorem d_133_162 : decode (zm_code 133) 162 = .ok (.if_icmp .lt 16, 3) := by decide +kernel
theorem d_133_165 : decode (zm_code 133) 165 = .ok (.iload_n 3, 1) := by decide +kernel
theorem d_133_166 : decode (zm_code 133) 166 = .ok (.bipush 57, 2) := by decide +kernel
theorem d_133_168 : decode (zm_code 133) 168 = .ok (.if_icmp .gt 10, 3) := by decide +kernel
theorem d_133_171 : decode (zm_code 133) 171 = .ok (.aload_n 0, 1) := by decide +kernel
theorem d_133_172 : decode (zm_code 133) 172 = .ok (.invokevirtual 60, 3) := by decide +kernel
theorem d_133_175 : decode (zm_code 133) 175 = .ok (.goto 8, 3) := by decide +kernel
theorem d_133_178 : decode (zm_code 133) 178 = .ok (.aload_n 0, 1) := by decide +kernel
theorem d_133_179 : decode (zm_code 133) 179 = .ok (.iload_n 3, 1) := by decide +kernel
theorem d_133_180 : decode (zm_code 133) 180 = .ok (.invokevirtual 63, 3) := by decide +kernel
theorem d_133_183 : decode (zm_code 133) 183 = .ok (.iload_n 1, 1) := by decide +kernel
theorem d_133_184 : decode (zm_code 133) 184 = .ok (.ifCond .eq 15, 3) := by decide +kernel
theorem d_133_187 : decode (zm_code 133) 187 = .ok (.iload_n 2, 1) := by decide +kernel
theorem d_133_188 : decode (zm_code 133) 188 = .ok (.aload_n 0, 1) := by decide +kernel
theorem d_133_189 : decode (zm_code 133) 189 = .ok (.getfield 48, 3) := by decide +kernel
theorem d_133_192 : decode (zm_code 133) 192 = .ok (.if_icmp .ne 7, 3) := by decide +kernel
theorem d_133_195 : decode (zm_code 133) 195 = .ok (.iconst 1, 1) := by decide +kernel
theorem d_133_196 : decode (zm_code 133) 196 = .ok (.goto 4, 3) := by decide +kernel
theorem d_133_199 : decode (zm_code 133) 199 = .ok (.iconst 0, 1) := by decide +kernel
theorem d_133_200 : decode (zm_code 133) 200 = .ok (.istore 4, 2) := by decide +kernel
theorem d_133_202 : decode (zm_code 133) 202 = .ok (.iload 4, 2) := by decide +kernel
theorem d_133_204 : decode (zm_code 133) 204 = .ok (.ifCond .eq 31, 3) := by decide +kernel
theorem d_133_207 : decode (zm_code 133) 207 = .ok (.aload_n 0, 1) := by decide +kernel
theorem d_133_208 : decode (zm_code 133) 208 = .ok (.getfield 35, 3) := by decide +kernel
theorem d_133_211 : decode (zm_code 133) 211 = .ok (.iconst 3, 1) := by decide +kernel
theorem d_133_212 : decode (zm_code 133) 212 = .ok (.if_icmp .eq 23, 3) := by decide +kernel
theorem d_133_215 : decode (zm_code 133) 215 = .ok (.aload_n 0, 1) := by decide +kernel
theorem d_133_216 : decode (zm_code 133) 216 = .ok (.getfield 35, 3) := by decide +kernel
theorem d_133_219 : decode (zm_code 133) 219 = .ok (.ifCond .eq 16, 3) := by decide +kernel
theorem d_133_222 : decode (zm_code 133) 222 = .ok (.aload_n 0, 1) := by decide +kernel
theorem d_133_223 : decode (zm_code 133) 223 = .ok (.iconst 4, 1) := by decide +kernel
theorem d_133_224 : decode (zm_code 133) 224 = .ok (.putfield 35, 3) := by decide +kernel
theorem d_133_227 : decode (zm_code 133) 227 = .ok (.aload_n 0, 1) := by decide +kernel
theorem d_133_228 : decode (zm_code 133) 228 = .ok (.aload_n 0, 1) := by decide +kernel
theorem d_133_229 : decode (zm_code 133) 229 = .ok (.getfield 48, 3) := by decide +kernel
theorem d_133_232 : decode (zm_code 133) 232 = .ok (.putfield 51, 3) := by decide +kernel
theorem d_133_235 : decode (zm_code 133) 235 = .ok (.aload_n 0, 1) := by decide +kernel
theorem d_133_236 : decode (zm_code 133) 236 = .ok (.aload_n 0, 1) := by decide +kernel
theorem d_133_237 : decode (zm_code 133) 237 = .ok (.getfield 35, 3) := by decide +kernel
theorem d_133_240 : decode (zm_code 133) 240 = .ok (.iconst 1, 1) := by decide +kernel
theorem d_133_241 : decode (zm_code 133) 241 = .ok (.if_icmp .ne 14, 3) := by decide +kernel
theorem d_133_244 : decode (zm_code 133) 244 = .ok (.aload_n 0, 1) := by decide +kernel
theorem d_133_245 : decode (zm_code 133) 245 = .ok (.aload_n 0, 1) := by decide +kernel
theorem d_133_246 : decode (zm_code 133) 246 = .ok (.getfield 54, 3) := by decide +kernel
theorem d_133_249 : decode (zm_code 133) 249 = .ok (.invokevirtual 67, 3) := by decide +kernel
theorem d_133_252 : decode (zm_code 133) 252 = .ok (.goto 4, 3) := by decide +kernel
theorem d_133_255 : decode (zm_code 133) 255 = .ok (.iconst (-1), 1) := by decide +kernel
theorem d_133_256 : decode (zm_code 133) 256 = .ok (.putfield 71, 3) := by decide +kernel
theorem d_133_259 : decode (zm_code 133) 259 = .ok (.return_, 1) := by decide +kernel
theorem d_134_0 : decode (zm_code 134) 0 = .ok (.aload_n 0, 1) := by decide +kernel
theorem d_134_1 : decode (zm_code 134) 1 = .ok (.iconst 1, 1) := by decide +kernel
theorem d_134_2 : decode (zm_code 134) 2 = .ok (.putfield 35, 3) := by decide +kernel
theorem d_134_5 : decode (zm_code 134) 5 = .ok (.aload_n 0, 1) := by decide +kernel
theorem d_134_6 : decode (zm_code 134) 6 = .ok (.getfield 31, 3) := by decide +kernel
theorem d_134_9 : decode (zm_code 134) 9 = .ok (.aload_n 0, 1) := by decide +kernel
theorem d_134_10 : decode (zm_code 134) 10 = .ok (.getfield 15, 3) := by decide +kernel
theorem d_134_13 : decode (zm_code 134) 13 = .ok (.getfield 41, 3) := by decide +kernel
theorem d_134_16 : decode (zm_code 134) 16 = .ok (.if_icmp .ge 110, 3) := by decide +kernel
theorem d_134_19 : decode (zm_code 134) 19 = .ok (.aload_n 0, 1) := by decide +kernel
theorem d_134_20 : decode (zm_code 134) 20 = .ok (.getfield 15, 3) := by decide +kernel
theorem d_134_23 : decode (zm_code 134) 23 = .ok (.getfield 45, 3) := by decide +kernel
theorem d_134_26 : decode (zm_code 134) 26 = .ok (.aload_n 0, 1) := by decide +kernel
theorem d_134_27 : decode (zm_code 134) 27 = .ok (.getfield 31, 3) := by decide +kernel
theorem d_134_30 : decode (zm_code 134) 30 = .ok (.iaload, 1) := by decide +kernel
theorem d_134_31 : decode (zm_code 134) 31 = .ok (.bipush 97, 2) := by decide +kernel
theorem d_134_33 : decode (zm_code 134) 33 = .ok (.if_icmp .lt 93, 3) := by decide +kernel
theorem d_134_36 : decode (zm_code 134) 36 = .ok (.aload_n 0, 1) := by decide +kernel
theorem d_134_37 : decode (zm_code 134) 37 = .ok (.getfield 15, 3) := by decide +kernel
theorem d_134_40 : decode (zm_code 134) 40 = .ok (.getfield 45, 3) := by decide +kernel
theorem d_134_43 : decode (zm_code 134) 43 = .ok (.aload_n 0, 1) := by decide +kernel
theorem d_134_44 : decode (zm_code 134) 44 = .ok (.getfield 31, 3) := by decide +kernel
theorem d_134_47 : decode (zm_code 134) 47 = .ok (.iaload, 1) := by decide +kernel
theorem d_134_48 : decode (zm_code 134) 48 = .ok (.bipush 122, 2) := by decide +kernel
theorem d_134_50 : decode (zm_code 134) 50 = .ok (.if_icmp .gt 76, 3) := by decide +kernel
theorem d_134_53 : decode (zm_code 134) 53 = .ok (.aload_n 0, 1) := by decide +kernel
theorem d_134_54 : decode (zm_code 134) 54 = .ok (.getfield 31, 3) := by decide +kernel
theorem d_134_57 : decode (zm_code 134) 57 = .ok (.aload_n 0, 1) := by decide +kernel
theorem d_134_58 : decode (zm_code 134) 58 = .ok (.getfield 48, 3) := by decide +kernel
theorem d_134_61 : decode (zm_code 134) 61 = .ok (.isub, 1) := by decide +kernel
theorem d_134_62 : decode (zm_code 134) 62 = .ok (.istore_n 1, 1) := by decide +kernel
theorem d_134_63 : decode (zm_code 134) 63 = .ok (.iload_n 1, 1) := by decide +kernel
theorem d_134_64 : decode (zm_code 134) 64 = .ok (.bipush 6, 2) := by decide +kernel
theorem d_134_66 : decode (zm_code 134) 66 = .ok (.if_icmp .ne 17, 3) := by decide +kernel
theorem d_134_69 : decode (zm_code 134) 69 = .ok (.aload_n 0, 1) := by decide +kernel
theorem d_134_70 : decode (zm_code 134) 70 = .ok (.iconst 4, 1) := by decide +kernel
theorem d_134_71 : decode (zm_code 134) 71 = .ok (.putfield 35, 3) := by decide +kernel
theorem d_134_74 : decode (zm_code 134) 74 = .ok (.aload_n 0, 1) := by decide +kernel
theorem d_134_75 : decode (zm_code 134) 75 = .ok (.aload_n 0, 1) := by decide +kernel
theorem d_134_76 : decode (zm_code 134) 76 = .ok (.getfield 31, 3) := by decide +kernel
theorem d_134_79 : decode (zm_code 134) 79 = .ok (.putfield 51, 3) := by decide +kernel
theorem d_134_82 : decode (zm_code 134) 82 = .ok (.return_, 1) := by decide +kernel
theorem d_134_83 : decode (zm_code 134) 83 = .ok (.aload_n 0, 1) := by decide +kernel
theorem d_134_84 : decode (zm_code 134) 84 = .ok (.dup, 1) := by decide +kernel
theorem d_134_85 : decode (zm_code 134) 85 = .ok (.getfield 54, 3) := by decide +kernel
theorem d_134_88 : decode (zm_code 134) 88 = .ok (.aload_n 0, 1) := by decide +kernel
theorem d_134_89 : decode (zm_code 134) 89 = .ok (.getfield 15, 3) := by decide +kernel
theorem d_134_92 : decode (zm_code 134) 92 = .ok (.getfield 45, 3) := by decide +kernel
theorem d_134_95 : decode (zm_code 134) 95 = .ok (.aload_n 0, 1) := by decide +kernel
theorem d_134_96 : decode (zm_code 134) 96 = .ok (.getfield 31, 3) := by decide +kernel
theorem d_134_99 : decode (zm_code 134) 99 = .ok (.iaload, 1) := by decide +kernel
theorem d_134_100 : decode (zm_code 134) 100 = .ok (.bipush 97, 2) := by decide +kernel
theorem d_134_102 : decode (zm_code 134) 102 = .ok (.isub, 1) := by decide +kernel
theorem d_134_103 : decode (zm_code 134) 103 = .ok (.iconst 1, 1) := by decide +kernel
theorem d_134_104 : decode (zm_code 134) 104 = .ok (.iadd, 1) := by decide +kernel
theorem d_134_105 : decode (zm_code 134) 105 = .ok (.iconst 5, 1) := by decide +kernel
theorem d_134_106 : decode (zm_code 134) 106 = .ok (.iload_n 1, 1) := by decide +kernel
theorem d_134_107 : decode (zm_code 134) 107 = .ok (.imul, 1) := by decide +kernel
theorem d_134_108 : decode (zm_code 134) 108 = .ok (.ishl, 1) := by decide +kernel
theorem d_134_109 : decode (zm_code 134) 109 = .ok (.ior, 1) := by decide +kernel
theorem d_134_110 : decode (zm_code 134) 110 = .ok (.putfield 54, 3) := by decide +kernel
theorem d_134_113 : decode (zm_code 134) 113 = .ok (.aload_n 0, 1) := by decide +kernel
theorem d_134_114 : decode (zm_code 134) 114 = .ok (.dup, 1) := by decide +kernel
theorem d_134_115 : decode (zm_code 134) 115 = .ok (.getfield 31, 3) := by decide +kernel
theorem d_134_118 : decode (zm_code 134) 118 = .ok (.iconst 1, 1) := by decide +kernel
theorem d_134_119 : decode (zm_code 134) 119 = .ok (.iadd, 1) := by decide +kernel
theorem d_134_120 : decode (zm_code 134) 120 = .ok (.putfield 31, 3) := by decide +kernel
theorem d_134_123 : decode (zm_code 134) 123 = .ok (.goto (-118), 3) := by decide +kernel
theorem d_134_126 : decode (zm_code 134) 126 = .ok (.return_, 1) := by decide +kernel
theorem d_135_0 : decode (zm_code 135) 0 = .ok (.aload_n 0, 1) := by decide +kernel
theorem d_135_1 : decode (zm_code 135) 1 = .ok (.iconst 2, 1) := by decide +kernel
theorem d_135_2 : decode (zm_code 135) 2 = .ok (.putfield 35, 3) := by decide +kernel
theorem d_135_5 : decode (zm_code 135) 5 = .ok (.aload_n 0, 1) := by decide +kernel
theorem d_135_6 : decode (zm_code 135) 6 = .ok (.getfield 31, 3) := by decide +kernel
theorem d_135_9 : decode (zm_code 135) 9 = .ok (.aload_n 0, 1) := by decide +kernel
theorem d_135_10 : decode (zm_code 135) 10 = .ok (.getfield 15, 3) := by decide +kernel
theorem d_135_13 : decode (zm_code 135) 13 = .ok (.getfield 41, 3) := by decide +kernel
theorem d_135_16 : decode (zm_code 135) 16 = .ok (.if_icmp .ge 104, 3) := by decide +kernel
theorem d_135_19 : decode (zm_code 135) 19 = .ok (.aload_n 0, 1) := by decide +kernel
theorem d_135_20 : decode (zm_code 135) 20 = .ok (.getfield 15, 3) := by decide +kernel
theorem d_135_23 : decode (zm_code 135) 23 = .ok (.getfield 45, 3) := by decide +kernel
theorem d_135_26 : decode (zm_code 135) 26 = .ok (.aload_n 0, 1) := by decide +kernel
theorem d_135_27 : decode (zm_code 135) 27 = .ok (.getfield 31, 3) := by decide +kernel
theorem d_135_30 : decode (zm_code 135) 30 = .ok (.iaload, 1) := by decide +kernel
theorem d_135_31 : decode (zm_code 135) 31 = .ok (.bipush 48, 2) := by decide +kernel
theorem d_135_33 : decode (zm_code 135) 33 = .ok (.if_icmp .lt 87, 3) := by decide +kernel
theorem d_135_36 : decode (zm_code 135) 36 = .ok (.aload_n 0, 1) := by decide +kernel
theorem d_135_37 : decode (zm_code 135) 37 = .ok (.getfield 15, 3) := by decide +kernel
theorem d_135_40 : decode (zm_code 135) 40 = .ok (.getfield 45, 3) := by decide +kernel
theorem d_135_43 : decode (zm_code 135) 43 = .ok (.aload_n 0, 1) := by decide +kernel
theorem d_135_44 : decode (zm_code 135) 44 = .ok (.getfield 31, 3) := by decide +kernel
theorem d_135_47 : decode (zm_code 135) 47 = .ok (.iaload, 1) := by decide +kernel
theorem d_135_48 : decode (zm_code 135) 48 = .ok (.bipush 57, 2) := by decide +kernel
theorem d_135_50 : decode (zm_code 135) 50 = .ok (.if_icmp .gt 70, 3) := by decide +kernel
theorem d_135_53 : decode (zm_code 135) 53 = .ok (.aload_n 0, 1) := by decide +kernel
theorem d_135_54 : decode (zm_code 135) 54 = .ok (.getfield 31, 3) := by decide +kernel
theorem d_135_57 : decode (zm_code 135) 57 = .ok (.aload_n 0, 1) := by decide +kernel
theorem d_135_58 : decode (zm_code 135) 58 = .ok (.getfield 48, 3) := by decide +kernel
theorem d_135_61 : decode (zm_code 135) 61 = .ok (.isub, 1) := by decide +kernel
theorem d_135_62 : decode (zm_code 135) 62 = .ok (.iconst 4, 1) := by decide +kernel
theorem d_135_63 : decode (zm_code 135) 63 = .ok (.if_icmp .ne 17, 3) := by decide +kernel
theorem d_135_66 : decode (zm_code 135) 66 = .ok (.aload_n 0, 1) := by decide +kernel
theorem d_135_67 : decode (zm_code 135) 67 = .ok (.iconst 4, 1) := by decide +kernel
theorem d_135_68 : decode (zm_code 135) 68 = .ok (.putfield 35, 3) := by decide +kernel
theorem d_135_71 : decode (zm_code 135) 71 = .ok (.aload_n 0, 1) := by decide +kernel
theorem d_135_72 : decode (zm_code 135) 72 = .ok (.aload_n 0, 1) := by decide +kernel
theorem d_135_73 : decode (zm_code 135) 73 = .ok (.getfield 31, 3) := by decide +kernel
theorem d_135_76 : decode (zm_code 135) 76 = .ok (.putfield 51, 3) := by decide +kernel
theorem d_135_79 : decode (zm_code 135) 79 = .ok (.return_, 1) := by decide +kernel
theorem d_135_80 : decode (zm_code 135) 80 = .ok (.aload_n 0, 1) := by decide +kernel
theorem d_135_81 : decode (zm_code 135) 81 = .ok (.aload_n 0, 1) := by decide +kernel
theorem d_135_82 : decode (zm_code 135) 82 = .ok (.getfield 54, 3) := by decide +kernel
theorem d_135_85 : decode (zm_code 135) 85 = .ok (.bipush 10, 2) := by decide +kernel
theorem d_135_87 : decode (zm_code 135) 87 = .ok (.imul, 1) := by decide +kernel
theorem d_135_88 : decode (zm_code 135) 88 = .ok (.aload_n 0, 1) := by decide +kernel
theorem d_135_89 : decode (zm_code 135) 89 = .ok (.getfield 15, 3) := by decide +kernel
theorem d_135_92 : decode (zm_code 135) 92 = .ok (.getfield 45, 3) := by decide +kernel
theorem d_135_95 : decode (zm_code 135) 95 = .ok (.aload_n 0, 1) := by decide +kernel
theorem d_135_96 : decode (zm_code 135) 96 = .ok (.getfield 31, 3) := by decide +kernel
theorem d_135_99 : decode (zm_code 135) 99 = .ok (.iaload, 1) := by decide +kernel
theorem d_135_100 : decode (zm_code 135) 100 = .ok (.iadd, 1) := by decide +kernel
theorem d_135_101 : decode (zm_code 135) 101 = .ok (.bipush 48, 2) := by decide +kernel
theorem d_135_103 : decode (zm_code 135) 103 = .ok (.isub, 1) := by decide +kernel
theorem d_135_104 : decode (zm_code 135) 104 = .ok (.putfield 54, 3) := by decide +kernel
theorem d_135_107 : decode (zm_code 135) 107 = .ok (.aload_n 0, 1) := by decide +kernel
theorem d_135_108 : decode (zm_code 135) 108 = .ok (.dup, 1) := by decide +kernel
theorem d_135_109 : decode (zm_code 135) 109 = .ok (.getfield 31, 3) := by decide +kernel
theorem d_135_112 : decode (zm_code 135) 112 = .ok (.iconst 1, 1) := by decide +kernel
theorem d_135_113 : decode (zm_code 135) 113 = .ok (.iadd, 1) := by decide +kernel
theorem d_135_114 : decode (zm_code 135) 114 = .ok (.putfield 31, 3) := by decide +kernel
theorem d_135_117 : decode (zm_code 135) 117 = .ok (.goto (-112), 3) := by decide +kernel
theorem d_135_120 : decode (zm_code 135) 120 = .ok (.return_, 1) := by decide +kernel
theorem d_136_0 : decode (zm_code 136) 0 = .ok (.aload_n 0, 1) := by decide +kernel
theorem d_136_1 : decode (zm_code 136) 1 = .ok (.iload_n 1, 1) := by decide +kernel
theorem d_136_2 : decode (zm_code 136) 2 = .ok (.iconst (-1), 1) := by decide +kernel
theorem d_136_3 : decode (zm_code 136) 3 = .ok (.if_icmp .ne 7, 3) := by decide +kernel
theorem d_136_6 : decode (zm_code 136) 6 = .ok (.iconst 0, 1) := by decide +kernel
theorem d_136_7 : decode (zm_code 136) 7 = .ok (.goto 4, 3) := by decide +kernel
theorem d_136_10 : decode (zm_code 136) 10 = .ok (.iconst 3, 1) := by decide +kernel
theorem d_136_11 : decode (zm_code 136) 11 = .ok (.putfield 35, 3) := by decide +kernel
theorem d_136_14 : decode (zm_code 136) 14 = .ok (.aload_n 0, 1) := by decide +kernel
theorem d_136_15 : decode (zm_code 136) 15 = .ok (.iload_n 1, 1) := by decide +kernel
theorem d_136_16 : decode (zm_code 136) 16 = .ok (.putfield 54, 3) := by decide +kernel
theorem d_136_19 : decode (zm_code 136) 19 = .ok (.aload_n 0, 1) := by decide +kernel
theorem d_136_20 : decode (zm_code 136) 20 = .ok (.getfield 35, 3) := by decide +kernel
theorem d_136_23 : decode (zm_code 136) 23 = .ok (.iconst 3, 1) := by decide +kernel
theorem d_136_24 : decode (zm_code 136) 24 = .ok (.if_icmp .ne 13, 3) := by decide +kernel
theorem d_136_27 : decode (zm_code 136) 27 = .ok (.aload_n 0, 1) := by decide +kernel
theorem d_136_28 : decode (zm_code 136) 28 = .ok (.dup, 1) := by decide +kernel
theorem d_136_29 : decode (zm_code 136) 29 = .ok (.getfield 31, 3) := by decide +kernel
theorem d_136_32 : decode (zm_code 136) 32 = .ok (.iconst 1, 1) := by decide +kernel
theorem d_136_33 : decode (zm_code 136) 33 = .ok (.iadd, 1) := by decide +kernel
theorem d_136_34 : decode (zm_code 136) 34 = .ok (.putfield 31, 3) := by decide +kernel
theorem d_136_37 : decode (zm_code 136) 37 = .ok (.return_, 1) := by decide +kernel
theorem d_137_0 : decode (zm_code 137) 0 = .ok (.iconst 0, 1) := by decide +kernel
theorem d_137_1 : decode (zm_code 137) 1 = .ok (.istore_n 2, 1) := by decide +kernel
theorem d_137_2 : decode (zm_code 137) 2 = .ok (.iload_n 2, 1) := by decide +kernel
theorem d_137_3 : decode (zm_code 137) 3 = .ok (.bipush 25, 2) := by decide +kernel
theorem d_137_5 : decode (zm_code 137) 5 = .ok (.if_icmp .ge 21, 3) := by decide +kernel
theorem d_137_8 : decode (zm_code 137) 8 = .ok (.aload_n 0, 1) := by decide +kernel
theorem d_137_9 : decode (zm_code 137) 9 = .ok (.getfield 9, 3) := by decide +kernel
theorem d_137_12 : decode (zm_code 137) 12 = .ok (.iload_n 2, 1) := by decide +kernel
theorem d_137_13 : decode (zm_code 137) 13 = .ok (.iaload, 1) := by decide +kernel
theorem d_137_14 : decode (zm_code 137) 14 = .ok (.iload_n 1, 1) := by decide +kernel
theorem d_137_15 : decode (zm_code 137) 15 = .ok (.if_icmp .ne 5, 3) := by decide +kernel
theorem d_137_18 : decode (zm_code 137) 18 = .ok (.iload_n 2, 1) := by decide +kernel
theorem d_137_19 : decode (zm_code 137) 19 = .ok (.ireturn, 1) := by decide +kernel
theorem d_137_20 : decode (zm_code 137) 20 = .ok (.iinc 2 1, 3) := by decide +kernel
theorem d_137_23 : decode (zm_code 137) 23 = .ok (.goto (-21), 3) := by decide +kernel
theorem d_137_26 : decode (zm_code 137) 26 = .ok (.iconst (-1), 1) := by decide +kernel
theorem d_137_27 : decode (zm_code 137) 27 = .ok (.ireturn, 1) := by decide +kernel
theorem d_138_0 : decode (zm_code 138) 0 = .ok (.aload_n 0, 1) := by decide +kernel
theorem d_138_1 : decode (zm_code 138) 1 = .ok (.getfield 71, 3) := by decide +kernel
theorem d_138_4 : decode (zm_code 138) 4 = .ok (.iload_n 1, 1) := by decide +kernel
theorem d_138_5 : decode (zm_code 138) 5 = .ok (.if_icmp .ne 7, 3) := by decide +kernel
theorem d_138_8 : decode (zm_code 138) 8 = .ok (.iconst 1, 1) := by decide +kernel
theorem d_138_9 : decode (zm_code 138) 9 = .ok (.goto 4, 3) := by decide +kernel
theorem d_138_12 : decode (zm_code 138) 12 = .ok (.iconst 0, 1) := by decide +kernel
theorem d_138_13 : decode (zm_code 138) 13 = .ok (.ireturn, 1) := by decide +kernel
theorem d_139_0 : decode (zm_code 139) 0 = .ok (.aload_n 0, 1) := by decide +kernel
theorem d_139_1 : decode (zm_code 139) 1 = .ok (.getfield 35, 3) := by decide +kernel
theorem d_139_4 : decode (zm_code 139) 4 = .ok (.iconst 3, 1) := by decide +kernel
theorem d_139_5 : decode (zm_code 139) 5 = .ok (.if_icmp .ne 15, 3) := by decide +kernel
theorem d_139_8 : decode (zm_code 139) 8 = .ok (.aload_n 0, 1) := by decide +kernel
theorem d_139_9 : decode (zm_code 139) 9 = .ok (.getfield 54, 3) := by decide +kernel
theorem d_139_12 : decode (zm_code 139) 12 = .ok (.iload_n 1, 1) := by decide +kernel
theorem d_139_13 : decode (zm_code 139) 13 = .ok (.if_icmp .ne 7, 3) := by decide +kernel
theorem d_139_16 : decode (zm_code 139) 16 = .ok (.iconst 1, 1) := by decide +kernel
theorem d_139_17 : decode (zm_code 139) 17 = .ok (.goto 4, 3) := by decide +kernel
theorem d_139_20 : decode (zm_code 139) 20 = .ok (.iconst 0, 1) := by decide +kernel
theorem d_139_21 : decode (zm_code 139) 21 = .ok (.ireturn, 1) := by decide +kernel
theorem d_141_0 : decode (zm_code 141) 0 = .ok (.bipush 24, 2) := by decide +kernel
theorem d_141_2 : decode (zm_code 141) 2 = .ok (.istore_n 2, 1) := by decide +kernel
theorem d_141_3 : decode (zm_code 141) 3 = .ok (.iload_n 2, 1) := by decide +kernel
theorem d_141_4 : decode (zm_code 141) 4 = .ok (.ifCond .lt 42, 3) := by decide +kernel
theorem d_141_7 : decode (zm_code 141) 7 = .ok (.aload_n 0, 1) := by decide +kernel
theorem d_141_8 : decode (zm_code 141) 8 = .ok (.getfield 15, 3) := by decide +kernel
theorem d_141_11 : decode (zm_code 141) 11 = .ok (.sipush 1600, 3) := by decide +kernel
theorem d_141_14 : decode (zm_code 141) 14 = .ok (.if_icmp .ge 26, 3) := by decide +kernel
theorem d_141_17 : decode (zm_code 141) 17 = .ok (.aload_n 0, 1) := by decide +kernel
theorem d_141_18 : decode (zm_code 141) 18 = .ok (.getfield 9, 3) := by decide +kernel
theorem d_141_21 : decode (zm_code 141) 21 = .ok (.aload_n 0, 1) := by decide +kernel
theorem d_141_22 : decode (zm_code 141) 22 = .ok (.dup, 1) := by decide +kernel
theorem d_141_23 : decode (zm_code 141) 23 = .ok (.getfield 15, 3) := by decide +kernel
theorem d_141_26 : decode (zm_code 141) 26 = .ok (.dup_x1, 1) := by decide +kernel
theorem d_141_27 : decode (zm_code 141) 27 = .ok (.iconst 1, 1) := by decide +kernel
theorem d_141_28 : decode (zm_code 141) 28 = .ok (.iadd, 1) := by decide +kernel
theorem d_141_29 : decode (zm_code 141) 29 = .ok (.putfield 15, 3) := by decide +kernel
theorem d_141_32 : decode (zm_code 141) 32 = .ok (.iload_n 1, 1) := by decide +kernel
theorem d_141_33 : decode (zm_code 141) 33 = .ok (.iload_n 2, 1) := by decide +kernel
theorem d_141_34 : decode (zm_code 141) 34 = .ok (.iushr, 1) := by decide +kernel
theorem d_141_35 : decode (zm_code 141) 35 = .ok (.sipush 255, 3) := by decide +kernel
theorem d_141_38 : decode (zm_code 141) 38 = .ok (.iand, 1) := by decide +kernel
theorem d_141_39 : decode (zm_code 141) 39 = .ok (.iastore, 1) := by decide +kernel
theorem d_141_40 : decode (zm_code 141) 40 = .ok (.iinc 2 (-8), 3) := by decide +kernel
theorem d_141_43 : decode (zm_code 141) 43 = .ok (.goto (-40), 3) := by decide +kernel
theorem d_141_46 : decode (zm_code 141) 46 = .ok (.return_, 1) := by decide +kernel
theorem d_143_0 : decode (zm_code 143) 0 = .ok (.aload_n 0, 1) := by decide +kernel
theorem d_143_1 : decode (zm_code 143) 1 = .ok (.iconst 0, 1) := by decide +kernel
theorem d_143_2 : decode (zm_code 143) 2 = .ok (.putfield 21, 3) := by decide +kernel
theorem d_143_5 : decode (zm_code 143) 5 = .ok (.aload_n 0, 1) := by decide +kernel
theorem d_143_6 : decode (zm_code 143) 6 = .ok (.iconst 0, 1) := by decide +kernel
theorem d_143_7 : decode (zm_code 143) 7 = .ok (.putfield 25, 3) := by decide +kernel
theorem d_143_10 : decode (zm_code 143) 10 = .ok (.iconst 0, 1) := by decide +kernel
theorem d_143_11 : decode (zm_code 143) 11 = .ok (.istore_n 2, 1) := by decide +kernel
theorem d_143_12 : decode (zm_code 143) 12 = .ok (.iload_n 2, 1) := by decide +kernel
theorem d_143_13 : decode (zm_code 143) 13 = .ok (.aload_n 0, 1) := by decide +kernel
theorem d_143_14 : decode (zm_code 143) 14 = .ok (.getfield 9, 3) := by decide +kernel
theorem d_143_17 : decode (zm_code 143) 17 = .ok (.arraylength, 1) := by decide +kernel
theorem d_143_18 : decode (zm_code 143) 18 = .ok (.if_icmp .ge 21, 3) := by decide +kernel
theorem d_143_21 : decode (zm_code 143) 21 = .ok (.aload_n 0, 1) := by decide +kernel
theorem d_143_22 : decode (zm_code 143) 22 = .ok (.getfield 9, 3) := by decide +kernel
theorem d_143_25 : decode (zm_code 143) 25 = .ok (.iload_n 2, 1) := by decide +kernel
theorem d_143_26 : decode (zm_code 143) 26 = .ok (.aload_n 1, 1) := by decide +kernel
theorem d_143_27 : decode (zm_code 143) 27 = .ok (.getfield 28, 3) := by decide +kernel
theorem d_143_30 : decode (zm_code 143) 30 = .ok (.iload_n 2, 1) := by decide +kernel
theorem d_143_31 : decode (zm_code 143) 31 = .ok (.iaload, 1) := by decide +kernel
theorem d_143_32 : decode (zm_code 143) 32 = .ok (.iastore, 1) := by decide +kernel
theorem d_143_33 : decode (zm_code 143) 33 = .ok (.iinc 2 1, 3) := by decide +kernel
theorem d_143_36 : decode (zm_code 143) 36 = .ok (.goto (-24), 3) := by decide +kernel
theorem d_143_39 : decode (zm_code 143) 39 = .ok (.iconst 0, 1) := by decide +kernel
theorem d_143_40 : decode (zm_code 143) 40 = .ok (.istore_n 2, 1) := by decide +kernel
theorem d_143_41 : decode (zm_code 143) 41 = .ok (.iload_n 2, 1) := by decide +kernel
theorem d_143_42 : decode (zm_code 143) 42 = .ok (.aload_n 0, 1) := by decide +kernel
theorem d_143_43 : decode (zm_code 143) 43 = .ok (.getfield 15, 3) := by decide +kernel
theorem d_143_46 : decode (zm_code 143) 46 = .ok (.arraylength, 1) := by decide +kernel
theorem d_143_47 : decode (zm_code 143) 47 = .ok (.if_icmp .ge 31, 3) := by decide +kernel
theorem d_143_50 : decode (zm_code 143) 50 = .ok (.aload_n 0, 1) := by decide +kernel
theorem d_143_51 : decode (zm_code 143) 51 = .ok (.getfield 15, 3) := by decide +kernel
theorem d_143_54 : decode (zm_code 143) 54 = .ok (.iload_n 2, 1) := by decide +kernel
theorem d_143_55 : decode (zm_code 143) 55 = .ok (.iload_n 2, 1) := by decide +kernel
theorem d_143_56 : decode (zm_code 143) 56 = .ok (.aload_n 1, 1) := by decide +kernel
theorem d_143_57 : decode (zm_code 143) 57 = .ok (.getfield 31, 3) := by decide +kernel
theorem d_143_60 : decode (zm_code 143) 60 = .ok (.if_icmp .ge 10, 3) := by decide +kernel
theorem d_143_63 : decode (zm_code 143) 63 = .ok (.aload_n 1, 1) := by decide +kernel
theorem d_143_64 : decode (zm_code 143) 64 = .ok (.getfield 34, 3) := by decide +kernel
theorem d_143_67 : decode (zm_code 143) 67 = .ok (.goto 4, 3) := by decide +kernel
theorem d_143_70 : decode (zm_code 143) 70 = .ok (.iconst 0, 1) := by decide +kernel
theorem d_143_71 : decode (zm_code 143) 71 = .ok (.iastore, 1) := by decide +kernel
theorem d_143_72 : decode (zm_code 143) 72 = .ok (.iinc 2 1, 3) := by decide +kernel
theorem d_143_75 : decode (zm_code 143) 75 = .ok (.goto (-34), 3) := by decide +kernel
theorem d_143_78 : decode (zm_code 143) 78 = .ok (.iconst 0, 1) := by decide +kernel
theorem d_143_79 : decode (zm_code 143) 79 = .ok (.istore_n 2, 1) := by decide +kernel
theorem d_143_80 : decode (zm_code 143) 80 = .ok (.iload_n 2, 1) := by decide +kernel
theorem d_143_81 : decode (zm_code 143) 81 = .ok (.aload_n 0, 1) := by decide +kernel
theorem d_143_82 : decode (zm_code 143) 82 = .ok (.getfield 18, 3) := by decide +kernel
theorem d_143_85 : decode (zm_code 143) 85 = .ok (.arraylength, 1) := by decide +kernel
theorem d_143_86 : decode (zm_code 143) 86 = .ok (.if_icmp .ge 16, 3) := by decide +kernel
theorem d_143_89 : decode (zm_code 143) 89 = .ok (.aload_n 0, 1) := by decide +kernel
theorem d_143_90 : decode (zm_code 143) 90 = .ok (.getfield 18, 3) := by decide +kernel
theorem d_143_93 : decode (zm_code 143) 93 = .ok (.iload_n 2, 1) := by decide +kernel
theorem d_143_94 : decode (zm_code 143) 94 = .ok (.iconst 0, 1) := by decide +kernel
theorem d_143_95 : decode (zm_code 143) 95 = .ok (.iastore, 1) := by decide +kernel
theorem d_143_96 : decode (zm_code 143) 96 = .ok (.iinc 2 1, 3) := by decide +kernel
theorem d_143_99 : decode (zm_code 143) 99 = .ok (.goto (-19), 3) := by decide +kernel
theorem d_143_102 : decode (zm_code 143) 102 = .ok (.return_, 1) := by decide +kernel
theorem d_144_0 : decode (zm_code 144) 0 = .ok (.aload_n 0, 1) := by decide +kernel
theorem d_144_1 : decode (zm_code 144) 1 = .ok (.getfield 9, 3) := by decide +kernel
theorem d_144_4 : decode (zm_code 144) 4 = .ok (.iconst 0, 1) := by decide +kernel
theorem d_144_5 : decode (zm_code 144) 5 = .ok (.aload_n 0, 1) := by decide +kernel
theorem d_144_6 : decode (zm_code 144) 6 = .ok (.getfield 9, 3) := by decide +kernel
theorem d_144_9 : decode (zm_code 144) 9 = .ok (.arraylength, 1) := by decide +kernel
theorem d_144_10 : decode (zm_code 144) 10 = .ok (.invokestatic 36, 3) := by decide +kernel
theorem d_144_13 : decode (zm_code 144) 13 = .ok (.ireturn, 1) := by decide +kernel
theorem d_145_0 : decode (zm_code 145) 0 = .ok (.iconst 0, 1) := by decide +kernel
theorem d_145_1 : decode (zm_code 145) 1 = .ok (.istore_n 3, 1) := by decide +kernel
theorem d_145_2 : decode (zm_code 145) 2 = .ok (.iload_n 1, 1) := by decide +kernel
theorem d_145_3 : decode (zm_code 145) 3 = .ok (.istore 4, 2) := by decide +kernel
theorem d_145_5 : decode (zm_code 145) 5 = .ok (.iload 4, 2) := by decide +kernel
theorem d_145_7 : decode (zm_code 145) 7 = .ok (.iload_n 2, 1) := by decide +kernel
theorem d_145_8 : decode (zm_code 145) 8 = .ok (.if_icmp .ge 16, 3) := by decide +kernel
theorem d_145_11 : decode (zm_code 145) 11 = .ok (.iload_n 3, 1) := by decide +kernel
theorem d_145_12 : decode (zm_code 145) 12 = .ok (.aload_n 0, 1) := by decide +kernel
theorem d_145_13 : decode (zm_code 145) 13 = .ok (.iload 4, 2) := by decide +kernel
theorem d_145_15 : decode (zm_code 145) 15 = .ok (.iaload, 1) := by decide +kernel
theorem d_145_16 : decode (zm_code 145) 16 = .ok (.iadd, 1) := by decide +kernel
theorem d_145_17 : decode (zm_code 145) 17 = .ok (.istore_n 3, 1) := by decide +kernel
theorem d_145_18 : decode (zm_code 145) 18 = .ok (.iinc 4 1, 3) := by decide +kernel
theorem d_145_21 : decode (zm_code 145) 21 = .ok (.goto (-16), 3) := by decide +kernel
theorem d_145_24 : decode (zm_code 145) 24 = .ok (.iload_n 3, 1) := by decide +kernel
theorem d_145_25 : decode (zm_code 145) 25 = .ok (.ireturn, 1) := by decide +kernel
theorem d_146_0 : decode (zm_code 146) 0 = .ok (.aload_n 0, 1) := by decide +kernel
theorem d_146_1 : decode (zm_code 146) 1 = .ok (.getfield 15, 3) := by decide +kernel
theorem d_146_4 : decode (zm_code 146) 4 = .ok (.iconst 0, 1) := by decide +kernel
theorem d_146_5 : decode (zm_code 146) 5 = .ok (.aload_n 0, 1) := by decide +kernel
theorem d_146_6 : decode (zm_code 146) 6 = .ok (.getfield 15, 3) := by decide +kernel
theorem d_146_9 : decode (zm_code 146) 9 = .ok (.arraylength, 1) := by decide +kernel
theorem d_146_10 : decode (zm_code 146) 10 = .ok (.invokestatic 36, 3) := by decide +kernel
theorem d_146_13 : decode (zm_code 146) 13 = .ok (.ireturn, 1) := by decide +kernel
theorem d_147_0 : decode (zm_code 147) 0 = .ok (.aload_n 0, 1) := by decide +kernel
theorem d_147_1 : decode (zm_code 147) 1 = .ok (.getfield 18, 3) := by decide +kernel
theorem d_147_4 : decode (zm_code 147) 4 = .ok (.iconst 0, 1) := by decide +kernel
theorem d_147_5 : decode (zm_code 147) 5 = .ok (.aload_n 0, 1) := by decide +kernel
theorem d_147_6 : decode (zm_code 147) 6 = .ok (.getfield 18, 3) := by decide +kernel
theorem d_147_9 : decode (zm_code 147) 9 = .ok (.arraylength, 1) := by decide +kernel
theorem d_147_10 : decode (zm_code 147) 10 = .ok (.invokestatic 36, 3) := by decide +kernel
theorem d_147_13 : decode (zm_code 147) 13 = .ok (.ireturn, 1) := by decide +kernel
theorem d_148_0 : decode (zm_code 148) 0 = .ok (.iconst 0, 1) := by decide +kernel
theorem d_148_1 : decode (zm_code 148) 1 = .ok (.istore_n 2, 1) := by decide +kernel
theorem d_148_2 : decode (zm_code 148) 2 = .ok (.iload_n 1, 1) := by decide +kernel
theorem d_148_3 : decode (zm_code 148) 3 = .ok (.istore_n 3, 1) := by decide +kernel
theorem d_148_4 : decode (zm_code 148) 4 = .ok (.iload_n 3, 1) := by decide +kernel
theorem d_148_5 : decode (zm_code 148) 5 = .ok (.aload_n 0, 1) := by decide +kernel
theorem d_148_6 : decode (zm_code 148) 6 = .ok (.getfield 9, 3) := by decide +kernel
theorem d_148_9 : decode (zm_code 148) 9 = .ok (.arraylength, 1) := by decide +kernel
theorem d_148_10 : decode (zm_code 148) 10 = .ok (.if_icmp .ge 18, 3) := by decide +kernel
theorem d_148_13 : decode (zm_code 148) 13 = .ok (.iload_n 2, 1) := by decide +kernel
theorem d_148_14 : decode (zm_code 148) 14 = .ok (.aload_n 0, 1) := by decide +kernel
theorem d_148_15 : decode (zm_code 148) 15 = .ok (.getfield 9, 3) := by decide +kernel
theorem d_148_18 : decode (zm_code 148) 18 = .ok (.iload_n 3, 1) := by decide +kernel
theorem d_148_19 : decode (zm_code 148) 19 = .ok (.iaload, 1) := by decide +kernel
theorem d_148_20 : decode (zm_code 148) 20 = .ok (.iadd, 1) := by decide +kernel
theorem d_148_21 : decode (zm_code 148) 21 = .ok (.istore_n 2, 1) := by decide +kernel
theorem d_148_22 : decode (zm_code 148) 22 = .ok (.iinc 3 8, 3) := by decide +kernel
theorem d_148_25 : decode (zm_code 148) 25 = .ok (.goto (-21), 3) := by decide +kernel
theorem d_148_28 : decode (zm_code 148) 28 = .ok (.iload_n 2, 1) := by decide +kernel
theorem d_148_29 : decode (zm_code 148) 29 = .ok (.ireturn, 1) := by decide +kernel
theorem d_149_0 : decode (zm_code 149) 0 = .ok (.iconst 0, 1) := by decide +kernel
theorem d_149_1 : decode (zm_code 149) 1 = .ok (.istore_n 2, 1) := by decide +kernel
theorem d_149_2 : decode (zm_code 149) 2 = .ok (.iload_n 1, 1) := by decide +kernel
theorem d_149_3 : decode (zm_code 149) 3 = .ok (.istore_n 3, 1) := by decide +kernel
theorem d_149_4 : decode (zm_code 149) 4 = .ok (.iload_n 3, 1) := by decide +kernel
theorem d_149_5 : decode (zm_code 149) 5 = .ok (.aload_n 0, 1) := by decide +kernel
theorem d_149_6 : decode (zm_code 149) 6 = .ok (.getfield 18, 3) := by decide +kernel
theorem d_149_9 : decode (zm_code 149) 9 = .ok (.arraylength, 1) := by decide +kernel
theorem d_149_10 : decode (zm_code 149) 10 = .ok (.if_icmp .ge 18, 3) := by decide +kernel
theorem d_149_13 : decode (zm_code 149) 13 = .ok (.iload_n 2, 1) := by decide +kernel
theorem d_149_14 : decode (zm_code 149) 14 = .ok (.aload_n 0, 1) := by decide +kernel
theorem d_149_15 : decode (zm_code 149) 15 = .ok (.getfield 18, 3) := by decide +kernel
theorem d_149_18 : decode (zm_code 149) 18 = .ok (.iload_n 3, 1) := by decide +kernel
theorem d_149_19 : decode (zm_code 149) 19 = .ok (.iaload, 1) := by decide +kernel
theorem d_149_20 : decode (zm_code 149) 20 = .ok (.iadd, 1) := by decide +kernel
theorem d_149_21 : decode (zm_code 149) 21 = .ok (.istore_n 2, 1) := by decide +kernel
theorem d_149_22 : decode (zm_code 149) 22 = .ok (.iinc 3 8, 3) := by decide +kernel
theorem d_149_25 : decode (zm_code 149) 25 = .ok (.goto (-21), 3) := by decide +kernel
theorem d_149_28 : decode (zm_code 149) 28 = .ok (.iload_n 2, 1) := by decide +kernel
theorem d_149_29 : decode (zm_code 149) 29 = .ok (.ireturn, 1) := by decide +kernel
theorem d_150_0 : decode (zm_code 150) 0 = .ok (.aload_n 0, 1) := by decide +kernel
theorem d_150_1 : decode (zm_code 150) 1 = .ok (.getfield 9, 3) := by decide +kernel
theorem d_150_4 : decode (zm_code 150) 4 = .ok (.iload_n 1, 1) := by decide +kernel
theorem d_150_5 : decode (zm_code 150) 5 = .ok (.bipush 8, 2) := by decide +kernel
theorem d_150_7 : decode (zm_code 150) 7 = .ok (.imul, 1) := by decide +kernel
theorem d_150_8 : decode (zm_code 150) 8 = .ok (.iload_n 1, 1) := by decide +kernel
theorem d_150_9 : decode (zm_code 150) 9 = .ok (.iconst 1, 1) := by decide +kernel
theorem d_150_10 : decode (zm_code 150) 10 = .ok (.iadd, 1) := by decide +kernel
theorem d_150_11 : decode (zm_code 150) 11 = .ok (.bipush 8, 2) := by decide +kernel
theorem d_150_13 : decode (zm_code 150) 13 = .ok (.imul, 1) := by decide +kernel
theorem d_150_14 : decode (zm_code 150) 14 = .ok (.invokestatic 36, 3) := by decide +kernel
theorem d_150_17 : decode (zm_code 150) 17 = .ok (.ireturn, 1) := by decide +kernel
theorem d_151_0 : decode (zm_code 151) 0 = .ok (.aload_n 0, 1) := by decide +kernel
theorem d_151_1 : decode (zm_code 151) 1 = .ok (.getfield 18, 3) := by decide +kernel
theorem d_151_4 : decode (zm_code 151) 4 = .ok (.iload_n 1, 1) := by decide +kernel
theorem d_151_5 : decode (zm_code 151) 5 = .ok (.bipush 8, 2) := by decide +kernel
theorem d_151_7 : decode (zm_code 151) 7 = .ok (.imul, 1) := by decide +kernel
theorem d_151_8 : decode (zm_code 151) 8 = .ok (.iload_n 1, 1) := by decide +kernel
theorem d_151_9 : decode (zm_code 151) 9 = .ok (.iconst 1, 1) := by decide +kernel
theorem d_151_10 : decode (zm_code 151) 10 = .ok (.iadd, 1) := by decide +kernel
theorem d_151_11 : decode (zm_code 151) 11 = .ok (.bipush 8, 2) := by decide +kernel
theorem d_151_13 : decode (zm_code 151) 13 = .ok (.imul, 1) := by decide +kernel
theorem d_151_14 : decode (zm_code 151) 14 = .ok (.invokestatic 36, 3) := by decide +kernel
theorem d_151_17 : decode (zm_code 151) 17 = .ok (.ireturn, 1) := by decide +kernel
theorem d_152_0 : decode (zm_code 152) 0 = .ok (.aload_n 0, 1) := by decide +kernel
theorem d_152_1 : decode (zm_code 152) 1 = .ok (.aload_n 1, 1) := by decide +kernel
theorem d_152_2 : decode (zm_code 152) 2 = .ok (.getfield 21, 3) := by decide +kernel
theorem d_152_5 : decode (zm_code 152) 5 = .ok (.putfield 21, 3) := by decide +kernel
theorem d_152_8 : decode (zm_code 152) 8 = .ok (.aload_n 0, 1) := by decide +kernel
theorem d_152_9 : decode (zm_code 152) 9 = .ok (.aload_n 1, 1) := by decide +kernel
theorem d_152_10 : decode (zm_code 152) 10 = .ok (.getfield 25, 3) := by decide +kernel
theorem d_152_13 : decode (zm_code 152) 13 = .ok (.putfield 25, 3) := by decide +kernel
theorem d_152_16 : decode (zm_code 152) 16 = .ok (.iconst 0, 1) := by decide +kernel
theorem d_152_17 : decode (zm_code 152) 17 = .ok (.istore_n 2, 1) := by decide +kernel
theorem d_152_18 : decode (zm_code 152) 18 = .ok (.iload_n 2, 1) := by decide +kernel
theorem d_152_19 : decode (zm_code 152) 19 = .ok (.aload_n 0, 1) := by decide +kernel
theorem d_152_20 : decode (zm_code 152) 20 = .ok (.getfield 9, 3) := by decide +kernel
theorem d_152_23 : decode (zm_code 152) 23 = .ok (.arraylength, 1) := by decide +kernel
theorem d_152_24 : decode (zm_code 152) 24 = .ok (.if_icmp .ge 21, 3) := by decide +kernel
theorem d_152_27 : decode (zm_code 152) 27 = .ok (.aload_n 0, 1) := by decide +kernel
theorem d_152_28 : decode (zm_code 152) 28 = .ok (.getfield 9, 3) := by decide +kernel
theorem d_152_31 : decode (zm_code 152) 31 = .ok (.iload_n 2, 1) := by decide +kernel
theorem d_152_32 : decode (zm_code 152) 32 = .ok (.aload_n 1, 1) := by decide +kernel
theorem d_152_33 : decode (zm_code 152) 33 = .ok (.getfield 9, 3) := by decide +kernel
theorem d_152_36 : decode (zm_code 152) 36 = .ok (.iload_n 2, 1) := by decide +kernel
theorem d_152_37 : decode (zm_code 152) 37 = .ok (.iaload, 1) := by decide +kernel
theorem d_152_38 : decode (zm_code 152) 38 = .ok (.iastore, 1) := by decide +kernel
theorem d_152_39 : decode (zm_code 152) 39 = .ok (.iinc 2 1, 3) := by decide +kernel
theorem d_152_42 : decode (zm_code 152) 42 = .ok (.goto (-24), 3) := by decide +kernel
theorem d_152_45 : decode (zm_code 152) 45 = .ok (.iconst 0, 1) := by decide +kernel
theorem d_152_46 : decode (zm_code 152) 46 = .ok (.istore_n 2, 1) := by decide +kernel
theorem d_152_47 : decode (zm_code 152) 47 = .ok (.iload_n 2, 1) := by decide +kernel
theorem d_152_48 : decode (zm_code 152) 48 = .ok (.aload_n 0, 1) := by decide +kernel
theorem d_152_49 : decode (zm_code 152) 49 = .ok (.getfield 15, 3) := by decide +kernel
theorem d_152_52 : decode (zm_code 152) 52 = .ok (.arraylength, 1) := by decide +kernel
theorem d_152_53 : decode (zm_code 152) 53 = .ok (.if_icmp .ge 21, 3) := by decide +kernel
theorem d_152_56 : decode (zm_code 152) 56 = .ok (.aload_n 0, 1) := by decide +kernel
theorem d_152_57 : decode (zm_code 152) 57 = .ok (.getfield 15, 3) := by decide +kernel
theorem d_152_60 : decode (zm_code 152) 60 = .ok (.iload_n 2, 1) := by decide +kernel
theorem d_152_61 : decode (zm_code 152) 61 = .ok (.aload_n 1, 1) := by decide +kernel
theorem d_152_62 : decode (zm_code 152) 62 = .ok (.getfield 15, 3) := by decide +kernel
theorem d_152_65 : decode (zm_code 152) 65 = .ok (.iload_n 2, 1) := by decide +kernel
theorem d_152_66 : decode (zm_code 152) 66 = .ok (.iaload, 1) := by decide +kernel
theorem d_152_67 : decode (zm_code 152) 67 = .ok (.iastore, 1) := by decide +kernel
theorem d_152_68 : decode (zm_code 152) 68 = .ok (.iinc 2 1, 3) := by decide +kernel
theorem d_152_71 : decode (zm_code 152) 71 = .ok (.goto (-24), 3) := by decide +kernel
theorem d_152_74 : decode (zm_code 152) 74 = .ok (.iconst 0, 1) := by decide +kernel
theorem d_152_75 : decode (zm_code 152) 75 = .ok (.istore_n 2, 1) := by decide +kernel
theorem d_152_76 : decode (zm_code 152) 76 = .ok (.iload_n 2, 1) := by decide +kernel
theorem d_152_77 : decode (zm_code 152) 77 = .ok (.aload_n 0, 1) := by decide +kernel
theorem d_152_78 : decode (zm_code 152) 78 = .ok (.getfield 18, 3) := by decide +kernel
theorem d_152_81 : decode (zm_code 152) 81 = .ok (.arraylength, 1) := by decide +kernel
theorem d_152_82 : decode (zm_code 152) 82 = .ok (.if_icmp .ge 21, 3) := by decide +kernel
theorem d_152_85 : decode (zm_code 152) 85 = .ok (.aload_n 0, 1) := by decide +kernel
theorem d_152_86 : decode (zm_code 152) 86 = .ok (.getfield 18, 3) := by decide +kernel
theorem d_152_89 : decode (zm_code 152) 89 = .ok (.iload_n 2, 1) := by decide +kernel
theorem d_152_90 : decode (zm_code 152) 90 = .ok (.aload_n 1, 1) := by decide +kernel
theorem d_152_91 : decode (zm_code 152) 91 = .ok (.getfield 18, 3) := by decide +kernel
theorem d_152_94 : decode (zm_code 152) 94 = .ok (.iload_n 2, 1) := by decide +kernel
theorem d_152_95 : decode (zm_code 152) 95 = .ok (.iaload, 1) := by decide +kernel
theorem d_152_96 : decode (zm_code 152) 96 = .ok (.iastore, 1) := by decide +kernel
theorem d_152_97 : decode (zm_code 152) 97 = .ok (.iinc 2 1, 3) := by decide +kernel
theorem d_152_100 : decode (zm_code 152) 100 = .ok (.goto (-24), 3) := by decide +kernel
theorem d_152_103 : decode (zm_code 152) 103 = .ok (.return_, 1) := by decide +kernel
theorem d_154_0 : decode (zm_code 154) 0 = .ok (.aload_n 0, 1) := by decide +kernel
theorem d_154_1 : decode (zm_code 154) 1 = .ok (.getfield 13, 3) := by decide +kernel
theorem d_154_4 : decode (zm_code 154) 4 = .ok (.bipush 20, 2) := by decide +kernel
theorem d_154_6 : decode (zm_code 154) 6 = .ok (.iadd, 1) := by decide +kernel
theorem d_154_7 : decode (zm_code 154) 7 = .ok (.sipush 1600, 3) := by decide +kernel
theorem d_154_10 : decode (zm_code 154) 10 = .ok (.if_icmp .le 9, 3) := by decide +kernel
theorem d_154_13 : decode (zm_code 154) 13 = .ok (.aload_n 0, 1) := by decide +kernel
theorem d_154_14 : decode (zm_code 154) 14 = .ok (.iconst 0, 1) := by decide +kernel
theorem d_154_15 : decode (zm_code 154) 15 = .ok (.invokevirtual 249, 3) := by decide +kernel
theorem d_154_18 : decode (zm_code 154) 18 = .ok (.ireturn, 1) := by decide +kernel
theorem d_154_19 : decode (zm_code 154) 19 = .ok (.aload_n 0, 1) := by decide +kernel
theorem d_154_20 : decode (zm_code 154) 20 = .ok (.iload_n 1, 1) := by decide +kernel
theorem d_154_21 : decode (zm_code 154) 21 = .ok (.invokevirtual 253, 3) := by decide +kernel
theorem d_154_24 : decode (zm_code 154) 24 = .ok (.aload_n 0, 1) := by decide +kernel
theorem d_154_25 : decode (zm_code 154) 25 = .ok (.iload_n 2, 1) := by decide +kernel
theorem d_154_26 : decode (zm_code 154) 26 = .ok (.invokevirtual 253, 3) := by decide +kernel
theorem d_154_29 : decode (zm_code 154) 29 = .ok (.aload_n 0, 1) := by decide +kernel
theorem d_154_30 : decode (zm_code 154) 30 = .ok (.iload_n 3, 1) := by decide +kernel
theorem d_154_31 : decode (zm_code 154) 31 = .ok (.invokevirtual 253, 3) := by decide +kernel
theorem d_154_34 : decode (zm_code 154) 34 = .ok (.aload_n 0, 1) := by decide +kernel
theorem d_154_35 : decode (zm_code 154) 35 = .ok (.iload 4, 2) := by decide +kernel
theorem d_154_37 : decode (zm_code 154) 37 = .ok (.invokevirtual 253, 3) := by decide +kernel
theorem d_154_40 : decode (zm_code 154) 40 = .ok (.aload_n 0, 1) := by decide +kernel
theorem d_154_41 : decode (zm_code 154) 41 = .ok (.iload 5, 2) := by decide +kernel
theorem d_154_43 : decode (zm_code 154) 43 = .ok (.invokevirtual 253, 3) := by decide +kernel
theorem d_154_46 : decode (zm_code 154) 46 = .ok (.aload_n 0, 1) := by decide +kernel
theorem d_154_47 : decode (zm_code 154) 47 = .ok (.getfield 13, 3) := by decide +kernel
theorem d_154_50 : decode (zm_code 154) 50 = .ok (.ireturn, 1) := by decide +kernel
theorem d_155_0 : decode (zm_code 155) 0 = .ok (.aload_n 0, 1) := by decide +kernel
theorem d_155_1 : decode (zm_code 155) 1 = .ok (.getfield 150, 3) := by decide +kernel
theorem d_155_4 : decode (zm_code 155) 4 = .ok (.iload_n 1, 1) := by decide +kernel
theorem d_155_5 : decode (zm_code 155) 5 = .ok (.dup2, 1) := by decide +kernel
theorem d_155_6 : decode (zm_code 155) 6 = .ok (.iaload, 1) := by decide +kernel
theorem d_155_7 : decode (zm_code 155) 7 = .ok (.iconst 1, 1) := by decide +kernel
theorem d_155_8 : decode (zm_code 155) 8 = .ok (.iadd, 1) := by decide +kernel
theorem d_155_9 : decode (zm_code 155) 9 = .ok (.iastore, 1) := by decide +kernel
theorem d_155_10 : decode (zm_code 155) 10 = .ok (.iconst (-1), 1) := by decide +kernel
theorem d_155_11 : decode (zm_code 155) 11 = .ok (.ireturn, 1) := by decide +kernel
theorem d_156_0 : decode (zm_code 156) 0 = .ok (.bipush 24, 2) := by decide +kernel
theorem d_156_2 : decode (zm_code 156) 2 = .ok (.istore_n 2, 1) := by decide +kernel
theorem d_156_3 : decode (zm_code 156) 3 = .ok (.iload_n 2, 1) := by decide +kernel
theorem d_156_4 : decode (zm_code 156) 4 = .ok (.ifCond .lt 35, 3) := by decide +kernel
theorem d_156_7 : decode (zm_code 156) 7 = .ok (.aload_n 0, 1) := by decide +kernel
theorem d_156_8 : decode (zm_code 156) 8 = .ok (.getfield 7, 3) := by decide +kernel
theorem d_156_11 : decode (zm_code 156) 11 = .ok (.aload_n 0, 1) := by decide +kernel
theorem d_156_12 : decode (zm_code 156) 12 = .ok (.getfield 13, 3) := by decide +kernel
theorem d_156_15 : decode (zm_code 156) 15 = .ok (.iload_n 1, 1) := by decide +kernel
theorem d_156_16 : decode (zm_code 156) 16 = .ok (.iload_n 2, 1) := by decide +kernel
theorem d_156_17 : decode (zm_code 156) 17 = .ok (.ishr, 1) := by decide +kernel
theorem d_156_18 : decode (zm_code 156) 18 = .ok (.sipush 255, 3) := by decide +kernel
theorem d_156_21 : decode (zm_code 156) 21 = .ok (.iand, 1) := by decide +kernel
theorem d_156_22 : decode (zm_code 156) 22 = .ok (.iastore, 1) := by decide +kernel
theorem d_156_23 : decode (zm_code 156) 23 = .ok (.aload_n 0, 1) := by decide +kernel
theorem d_156_24 : decode (zm_code 156) 24 = .ok (.dup, 1) := by decide +kernel
theorem d_156_25 : decode (zm_code 156) 25 = .ok (.getfield 13, 3) := by decide +kernel
theorem d_156_28 : decode (zm_code 156) 28 = .ok (.iconst 1, 1) := by decide +kernel
theorem d_156_29 : decode (zm_code 156) 29 = .ok (.iadd, 1) := by decide +kernel
theorem d_156_30 : decode (zm_code 156) 30 = .ok (.putfield 13, 3) := by decide +kernel
theorem d_156_33 : decode (zm_code 156) 33 = .ok (.iinc 2 (-8), 3) := by decide +kernel
theorem d_156_36 : decode (zm_code 156) 36 = .ok (.goto (-33), 3) := by decide +kernel
theorem d_156_39 : decode (zm_code 156) 39 = .ok (.return_, 1) := by decide +kernel
theorem d_157_0 : decode (zm_code 157) 0 = .ok (.iload_n 1, 1) := by decide +kernel
theorem d_157_1 : decode (zm_code 157) 1 = .ok (.ifCond .lt 11, 3) := by decide +kernel
theorem d_157_4 : decode (zm_code 157) 4 = .ok (.iload_n 1, 1) := by decide +kernel
theorem d_157_5 : decode (zm_code 157) 5 = .ok (.aload_n 0, 1) := by decide +kernel
theorem d_157_6 : decode (zm_code 157) 6 = .ok (.getfield 13, 3) := by decide +kernel
theorem d_157_9 : decode (zm_code 157) 9 = .ok (.if_icmp .le 17, 3) := by decide +kernel
theorem d_157_12 : decode (zm_code 157) 12 = .ok (.aload_n 0, 1) := by decide +kernel
theorem d_157_13 : decode (zm_code 157) 13 = .ok (.iconst 0, 1) := by decide +kernel
theorem d_157_14 : decode (zm_code 157) 14 = .ok (.invokevirtual 249, 3) := by decide +kernel
theorem d_157_17 : decode (zm_code 157) 17 = .ok (.ifCond .lt 7, 3) := by decide +kernel
theorem d_157_20 : decode (zm_code 157) 20 = .ok (.iconst 1, 1) := by decide +kernel
theorem d_157_21 : decode (zm_code 157) 21 = .ok (.goto 4, 3) := by decide +kernel
theorem d_157_24 : decode (zm_code 157) 24 = .ok (.iconst 0, 1) := by decide +kernel
theorem d_157_25 : decode (zm_code 157) 25 = .ok (.ireturn, 1) := by decide +kernel
theorem d_157_26 : decode (zm_code 157) 26 = .ok (.aload_n 0, 1) := by decide +kernel
theorem d_157_27 : decode (zm_code 157) 27 = .ok (.iload_n 1, 1) := by decide +kernel
theorem d_157_28 : decode (zm_code 157) 28 = .ok (.putfield 13, 3) := by decide +kernel
theorem d_157_31 : decode (zm_code 157) 31 = .ok (.iconst 1, 1) := by decide +kernel
theorem d_157_32 : decode (zm_code 157) 32 = .ok (.ireturn, 1) := by decide +kernel
theorem d_158_0 : decode (zm_code 158) 0 = .ok (.aload_n 0, 1) := by decide +kernel
theorem d_158_1 : decode (zm_code 158) 1 = .ok (.aload_n 0, 1) := by decide +kernel
theorem d_158_2 : decode (zm_code 158) 2 = .ok (.getfield 13, 3) := by decide +kernel
theorem d_158_5 : decode (zm_code 158) 5 = .ok (.putfield 17, 3) := by decide +kernel
theorem d_158_8 : decode (zm_code 158) 8 = .ok (.aload_n 0, 1) := by decide +kernel
theorem d_158_9 : decode (zm_code 158) 9 = .ok (.iconst 0, 1) := by decide +kernel
theorem d_158_10 : decode (zm_code 158) 10 = .ok (.putfield 13, 3) := by decide +kernel
theorem d_158_13 : decode (zm_code 158) 13 = .ok (.aload_n 0, 1) := by decide +kernel
theorem d_158_14 : decode (zm_code 158) 14 = .ok (.iconst 0, 1) := by decide +kernel
theorem d_158_15 : decode (zm_code 158) 15 = .ok (.putfield 26, 3) := by decide +kernel
theorem d_158_18 : decode (zm_code 158) 18 = .ok (.aload_n 0, 1) := by decide +kernel
theorem d_158_19 : decode (zm_code 158) 19 = .ok (.iconst 0, 1) := by decide +kernel
theorem d_158_20 : decode (zm_code 158) 20 = .ok (.putfield 36, 3) := by decide +kernel
theorem d_158_23 : decode (zm_code 158) 23 = .ok (.aload_n 0, 1) := by decide +kernel
theorem d_158_24 : decode (zm_code 158) 24 = .ok (.iconst (-1), 1) := by decide +kernel
theorem d_158_25 : decode (zm_code 158) 25 = .ok (.putfield 39, 3) := by decide +kernel
theorem d_158_28 : decode (zm_code 158) 28 = .ok (.aload_n 0, 1) := by decide +kernel
theorem d_158_29 : decode (zm_code 158) 29 = .ok (.iconst 1, 1) := by decide +kernel
theorem d_158_30 : decode (zm_code 158) 30 = .ok (.aload_n 0, 1) := by decide +kernel
theorem d_158_31 : decode (zm_code 158) 31 = .ok (.getfield 51, 3) := by decide +kernel
theorem d_158_34 : decode (zm_code 158) 34 = .ok (.isub, 1) := by decide +kernel
theorem d_158_35 : decode (zm_code 158) 35 = .ok (.putfield 115, 3) := by decide +kernel
theorem d_158_38 : decode (zm_code 158) 38 = .ok (.aload_n 0, 1) := by decide +kernel
theorem d_158_39 : decode (zm_code 158) 39 = .ok (.getfield 54, 3) := by decide +kernel
theorem d_158_42 : decode (zm_code 158) 42 = .ok (.aload_n 0, 1) := by decide +kernel
theorem d_158_43 : decode (zm_code 158) 43 = .ok (.getfield 115, 3) := by decide +kernel
theorem d_158_46 : decode (zm_code 158) 46 = .ok (.iconst 0, 1) := by decide +kernel
theorem d_158_47 : decode (zm_code 158) 47 = .ok (.iastore, 1) := by decide +kernel
theorem d_158_48 : decode (zm_code 158) 48 = .ok (.aload_n 0, 1) := by decide +kernel
theorem d_158_49 : decode (zm_code 158) 49 = .ok (.getfield 63, 3) := by decide +kernel
theorem d_158_52 : decode (zm_code 158) 52 = .ok (.aload_n 0, 1) := by decide +kernel
theorem d_158_53 : decode (zm_code 158) 53 = .ok (.getfield 115, 3) := by decide +kernel
theorem d_158_56 : decode (zm_code 158) 56 = .ok (.iconst 0, 1) := by decide +kernel
theorem d_158_57 : decode (zm_code 158) 57 = .ok (.iastore, 1) := by decide +kernel
theorem d_158_58 : decode (zm_code 158) 58 = .ok (.aload_n 0, 1) := by decide +kernel
theorem d_158_59 : decode (zm_code 158) 59 = .ok (.getfield 69, 3) := by decide +kernel
theorem d_158_62 : decode (zm_code 158) 62 = .ok (.aload_n 0, 1) := by decide +kernel
theorem d_158_63 : decode (zm_code 158) 63 = .ok (.getfield 115, 3) := by decide +kernel
theorem d_158_66 : decode (zm_code 158) 66 = .ok (.iconst 0, 1) := by decide +kernel
theorem d_158_67 : decode (zm_code 158) 67 = .ok (.iastore, 1) := by decide +kernel
theorem d_158_68 : decode (zm_code 158) 68 = .ok (.aload_n 0, 1) := by decide +kernel
theorem d_158_69 : decode (zm_code 158) 69 = .ok (.getfield 84, 3) := by decide +kernel
theorem d_158_72 : decode (zm_code 158) 72 = .ok (.aload_n 0, 1) := by decide +kernel
theorem d_158_73 : decode (zm_code 158) 73 = .ok (.getfield 115, 3) := by decide +kernel
theorem d_158_76 : decode (zm_code 158) 76 = .ok (.bipush 50, 2) := by decide +kernel
theorem d_158_78 : decode (zm_code 158) 78 = .ok (.iastore, 1) := by decide +kernel
theorem d_158_79 : decode (zm_code 158) 79 = .ok (.aload_n 0, 1) := by decide +kernel
theorem d_158_80 : decode (zm_code 158) 80 = .ok (.getfield 87, 3) := by decide +kernel
theorem d_158_83 : decode (zm_code 158) 83 = .ok (.aload_n 0, 1) := by decide +kernel
theorem d_158_84 : decode (zm_code 158) 84 = .ok (.getfield 115, 3) := by decide +kernel
theorem d_158_87 : decode (zm_code 158) 87 = .ok (.iconst (-1), 1) := by decide +kernel
theorem d_158_88 : decode (zm_code 158) 88 = .ok (.iastore, 1) := by decide +kernel
theorem d_158_89 : decode (zm_code 158) 89 = .ok (.aload_n 0, 1) := by decide +kernel
theorem d_158_90 : decode (zm_code 158) 90 = .ok (.getfield 93, 3) := by decide +kernel
theorem d_158_93 : decode (zm_code 158) 93 = .ok (.aload_n 0, 1) := by decide +kernel
theorem d_158_94 : decode (zm_code 158) 94 = .ok (.getfield 115, 3) := by decide +kernel
theorem d_158_97 : decode (zm_code 158) 97 = .ok (.iconst (-1), 1) := by decide +kernel
theorem d_158_98 : decode (zm_code 158) 98 = .ok (.iastore, 1) := by decide +kernel
theorem d_158_99 : decode (zm_code 158) 99 = .ok (.aload_n 0, 1) := by decide +kernel
theorem d_158_100 : decode (zm_code 158) 100 = .ok (.iconst 0, 1) := by decide +kernel
theorem d_158_101 : decode (zm_code 158) 101 = .ok (.putfield 112, 3) := by decide +kernel
theorem d_158_104 : decode (zm_code 158) 104 = .ok (.iconst 0, 1) := by decide +kernel
theorem d_158_105 : decode (zm_code 158) 105 = .ok (.istore_n 1, 1) := by decide +kernel
theorem d_158_106 : decode (zm_code 158) 106 = .ok (.aload_n 0, 1) := by decide +kernel
theorem d_158_107 : decode (zm_code 158) 107 = .ok (.invokevirtual 274, 3) := by decide +kernel
theorem d_158_110 : decode (zm_code 158) 110 = .ok (.aload_n 0, 1) := by decide +kernel
theorem d_158_111 : decode (zm_code 158) 111 = .ok (.getfield 36, 3) := by decide +kernel
theorem d_158_114 : decode (zm_code 158) 114 = .ok (.ifCond .ne 25, 3) := by decide +kernel
theorem d_158_117 : decode (zm_code 158) 117 = .ok (.aload_n 0, 1) := by decide +kernel
theorem d_158_118 : decode (zm_code 158) 118 = .ok (.getfield 20, 3) := by decide +kernel
theorem d_158_121 : decode (zm_code 158) 121 = .ok (.ifCond .eq 18, 3) := by decide +kernel
theorem d_158_124 : decode (zm_code 158) 124 = .ok (.aload_n 0, 1) := by decide +kernel
theorem d_158_125 : decode (zm_code 158) 125 = .ok (.invokevirtual 425, 3) := by decide +kernel
theorem d_158_128 : decode (zm_code 158) 128 = .ok (.iinc 1 1, 3) := by decide +kernel
theorem d_158_131 : decode (zm_code 158) 131 = .ok (.aload_n 0, 1) := by decide +kernel
theorem d_158_132 : decode (zm_code 158) 132 = .ok (.iload_n 1, 1) := by decide +kernel
theorem d_158_133 : decode (zm_code 158) 133 = .ok (.invokevirtual 428, 3) := by decide +kernel
theorem d_158_136 : decode (zm_code 158) 136 = .ok (.goto (-26), 3) := by decide +kernel
theorem d_158_139 : decode (zm_code 158) 139 = .ok (.aload_n 0, 1) := by decide +kernel
theorem d_158_140 : decode (zm_code 158) 140 = .ok (.aload_n 0, 1) := by decide +kernel
theorem d_158_141 : decode (zm_code 158) 141 = .ok (.getfield 36, 3) := by decide +kernel
theorem d_158_144 : decode (zm_code 158) 144 = .ok (.putfield 42, 3) := by decide +kernel
theorem d_158_147 : decode (zm_code 158) 147 = .ok (.aload_n 0, 1) := by decide +kernel
theorem d_158_148 : decode (zm_code 158) 148 = .ok (.aload_n 0, 1) := by decide +kernel
theorem d_158_149 : decode (zm_code 158) 149 = .ok (.getfield 39, 3) := by decide +kernel
theorem d_158_152 : decode (zm_code 158) 152 = .ok (.putfield 45, 3) := by decide +kernel
theorem d_158_155 : decode (zm_code 158) 155 = .ok (.aload_n 0, 1) := by decide +kernel
theorem d_158_156 : decode (zm_code 158) 156 = .ok (.getfield 36, 3) := by decide +kernel
theorem d_158_159 : decode (zm_code 158) 159 = .ok (.ifCond .le 9, 3) := by decide +kernel
theorem d_158_162 : decode (zm_code 158) 162 = .ok (.aload_n 0, 1) := by decide +kernel
theorem d_158_163 : decode (zm_code 158) 163 = .ok (.iconst 1, 1) := by decide +kernel
theorem d_158_164 : decode (zm_code 158) 164 = .ok (.invokevirtual 249, 3) := by decide +kernel
theorem d_158_167 : decode (zm_code 158) 167 = .ok (.ireturn, 1) := by decide +kernel
theorem d_158_168 : decode (zm_code 158) 168 = .ok (.aload_n 0, 1) := by decide +kernel
theorem d_158_169 : decode (zm_code 158) 169 = .ok (.aload_n 0, 1) := by decide +kernel
theorem d_158_170 : decode (zm_code 158) 170 = .ok (.getfield 115, 3) := by decide +kernel
theorem d_158_173 : decode (zm_code 158) 173 = .ok (.putfield 51, 3) := by decide +kernel
theorem d_158_176 : decode (zm_code 158) 176 = .ok (.aload_n 0, 1) := by decide +kernel
theorem d_158_177 : decode (zm_code 158) 177 = .ok (.invokevirtual 431, 3) := by decide +kernel
theorem d_158_180 : decode (zm_code 158) 180 = .ok (.iload_n 1, 1) := by decide +kernel
theorem d_158_181 : decode (zm_code 158) 181 = .ok (.ireturn, 1) := by decide +kernel
theorem d_159_0 : decode (zm_code 159) 0 = .ok (.aload_n 0, 1) := by decide +kernel
theorem d_159_1 : decode (zm_code 159) 1 = .ok (.getfield 26, 3) := by decide +kernel
theorem d_159_4 : decode (zm_code 159) 4 = .ok (.istore_n 1, 1) := by decide +kernel
theorem d_159_5 : decode (zm_code 159) 5 = .ok (.iload_n 1, 1) := by decide +kernel
theorem d_159_6 : decode (zm_code 159) 6 = .ok (.aload_n 0, 1) := by decide +kernel
theorem d_159_7 : decode (zm_code 159) 7 = .ok (.getfield 17, 3) := by decide +kernel
theorem d_159_10 : decode (zm_code 159) 10 = .ok (.if_icmp .ge 31, 3) := by decide +kernel
theorem d_159_13 : decode (zm_code 159) 13 = .ok (.aload_n 0, 1) := by decide +kernel
theorem d_159_14 : decode (zm_code 159) 14 = .ok (.getfield 7, 3) := by decide +kernel
theorem d_159_17 : decode (zm_code 159) 17 = .ok (.iload_n 1, 1) := by decide +kernel
theorem d_159_18 : decode (zm_code 159) 18 = .ok (.iaload, 1) := by decide +kernel
theorem d_159_19 : decode (zm_code 159) 19 = .ok (.bipush 32, 2) := by decide +kernel
theorem d_159_21 : decode (zm_code 159) 21 = .ok (.if_icmp .eq 14, 3) := by decide +kernel
theorem d_159_24 : decode (zm_code 159) 24 = .ok (.aload_n 0, 1) := by decide +kernel
theorem d_159_25 : decode (zm_code 159) 25 = .ok (.getfield 7, 3) := by decide +kernel
theorem d_159_28 : decode (zm_code 159) 28 = .ok (.iload_n 1, 1) := by decide +kernel
theorem d_159_29 : decode (zm_code 159) 29 = .ok (.iaload, 1) := by decide +kernel
theorem d_159_30 : decode (zm_code 159) 30 = .ok (.bipush 10, 2) := by decide +kernel
theorem d_159_32 : decode (zm_code 159) 32 = .ok (.if_icmp .ne 9, 3) := by decide +kernel
theorem d_159_35 : decode (zm_code 159) 35 = .ok (.iinc 1 1, 3) := by decide +kernel
theorem d_159_38 : decode (zm_code 159) 38 = .ok (.goto (-33), 3) := by decide +kernel
theorem d_159_41 : decode (zm_code 159) 41 = .ok (.aload_n 0, 1) := by decide +kernel
theorem d_159_42 : decode (zm_code 159) 42 = .ok (.iload_n 1, 1) := by decide +kernel
theorem d_159_43 : decode (zm_code 159) 43 = .ok (.putfield 23, 3) := by decide +kernel
theorem d_159_46 : decode (zm_code 159) 46 = .ok (.aload_n 0, 1) := by decide +kernel
theorem d_159_47 : decode (zm_code 159) 47 = .ok (.iload_n 1, 1) := by decide +kernel
theorem d_159_48 : decode (zm_code 159) 48 = .ok (.putfield 26, 3) := by decide +kernel
theorem d_159_51 : decode (zm_code 159) 51 = .ok (.aload_n 0, 1) := by decide +kernel
theorem d_159_52 : decode (zm_code 159) 52 = .ok (.iconst 0, 1) := by decide +kernel
theorem d_159_53 : decode (zm_code 159) 53 = .ok (.putfield 20, 3) := by decide +kernel
theorem d_159_56 : decode (zm_code 159) 56 = .ok (.aload_n 0, 1) := by decide +kernel
theorem d_159_57 : decode (zm_code 159) 57 = .ok (.iconst (-1), 1) := by decide +kernel
theorem d_159_58 : decode (zm_code 159) 58 = .ok (.putfield 48, 3) := by decide +kernel
theorem d_159_61 : decode (zm_code 159) 61 = .ok (.iload_n 1, 1) := by decide +kernel
theorem d_159_62 : decode (zm_code 159) 62 = .ok (.aload_n 0, 1) := by decide +kernel
theorem d_159_63 : decode (zm_code 159) 63 = .ok (.getfield 17, 3) := by decide +kernel
theorem d_159_66 : decode (zm_code 159) 66 = .ok (.if_icmp .lt 4, 3) := by decide +kernel
theorem d_159_69 : decode (zm_code 159) 69 = .ok (.return_, 1) := by decide +kernel
theorem d_159_70 : decode (zm_code 159) 70 = .ok (.aload_n 0, 1) := by decide +kernel
theorem d_159_71 : decode (zm_code 159) 71 = .ok (.getfield 7, 3) := by decide +kernel
theorem d_159_74 : decode (zm_code 159) 74 = .ok (.iload_n 1, 1) := by decide +kernel
theorem d_159_75 : decode (zm_code 159) 75 = .ok (.iaload, 1) := by decide +kernel
theorem d_159_76 : decode (zm_code 159) 76 = .ok (.invokestatic 261, 3) := by decide +kernel
theorem d_159_79 : decode (zm_code 159) 79 = .ok (.istore_n 2, 1) := by decide +kernel
theorem d_159_80 : decode (zm_code 159) 80 = .ok (.aload_n 0, 1) := by decide +kernel
theorem d_159_81 : decode (zm_code 159) 81 = .ok (.getfield 7, 3) := by decide +kernel
theorem d_159_84 : decode (zm_code 159) 84 = .ok (.iload_n 1, 1) := by decide +kernel
theorem d_159_85 : decode (zm_code 159) 85 = .ok (.iaload, 1) := by decide +kernel
theorem d_159_86 : decode (zm_code 159) 86 = .ok (.invokestatic 265, 3) := by decide +kernel
theorem d_159_89 : decode (zm_code 159) 89 = .ok (.istore_n 3, 1) := by decide +kernel
theorem d_159_90 : decode (zm_code 159) 90 = .ok (.iload_n 2, 1) := by decide +kernel
theorem d_159_91 : decode (zm_code 159) 91 = .ok (.ifCond .ne 7, 3) := by decide +kernel
theorem d_159_94 : decode (zm_code 159) 94 = .ok (.iload_n 3, 1) := by decide +kernel
theorem d_159_95 : decode (zm_code 159) 95 = .ok (.ifCond .eq 40, 3) := by decide +kernel
theorem d_159_98 : decode (zm_code 159) 98 = .ok (.iload_n 1, 1) := by decide +kernel
theorem d_159_99 : decode (zm_code 159) 99 = .ok (.ifCond .le 36, 3) := by decide +kernel
theorem d_159_102 : decode (zm_code 159) 102 = .ok (.aload_n 0, 1) := by decide +kernel
theorem d_159_103 : decode (zm_code 159) 103 = .ok (.getfield 7, 3) := by decide +kernel
theorem d_159_106 : decode (zm_code 159) 106 = .ok (.iload_n 1, 1) := by decide +kernel
theorem d_159_107 : decode (zm_code 159) 107 = .ok (.iconst 1, 1) := by decide +kernel
theorem d_159_108 : decode (zm_code 159) 108 = .ok (.isub, 1) := by decide +kernel
theorem d_159_109 : decode (zm_code 159) 109 = .ok (.iaload, 1) := by decide +kernel
theorem d_159_110 : decode (zm_code 159) 110 = .ok (.invokestatic 261, 3) := by decide +kernel
theorem d_159_113 : decode (zm_code 159) 113 = .ok (.ifCond .ne 17, 3) := by decide +kernel
theorem d_159_116 : decode (zm_code 159) 116 = .ok (.aload_n 0, 1) := by decide +kernel
theorem d_159_117 : decode (zm_code 159) 117 = .ok (.getfield 7, 3) := by decide +kernel
theorem d_159_120 : decode (zm_code 159) 120 = .ok (.iload_n 1, 1) := by decide +kernel
theorem d_159_121 : decode (zm_code 159) 121 = .ok (.iconst 1, 1) := by decide +kernel
theorem d_159_122 : decode (zm_code 159) 122 = .ok (.isub, 1) := by decide +kernel
theorem d_159_123 : decode (zm_code 159) 123 = .ok (.iaload, 1) := by decide +kernel
theorem d_159_124 : decode (zm_code 159) 124 = .ok (.invokestatic 265, 3) := by decide +kernel
theorem d_159_127 : decode (zm_code 159) 127 = .ok (.ifCond .eq 8, 3) := by decide +kernel
theorem d_159_130 : decode (zm_code 159) 130 = .ok (.aload_n 0, 1) := by decide +kernel
theorem d_159_131 : decode (zm_code 159) 131 = .ok (.iload_n 1, 1) := by decide +kernel
theorem d_159_132 : decode (zm_code 159) 132 = .ok (.putfield 48, 3) := by decide +kernel
theorem d_159_135 : decode (zm_code 159) 135 = .ok (.aload_n 0, 1) := by decide +kernel
theorem d_159_136 : decode (zm_code 159) 136 = .ok (.iconst 0, 1) := by decide +kernel
theorem d_159_137 : decode (zm_code 159) 137 = .ok (.putfield 29, 3) := by decide +kernel
theorem d_159_140 : decode (zm_code 159) 140 = .ok (.aload_n 0, 1) := by decide +kernel
theorem d_159_141 : decode (zm_code 159) 141 = .ok (.lconst 0, 1) := by decide +kernel
theorem d_159_142 : decode (zm_code 159) 142 = .ok (.putfield 32, 3) := by decide +kernel
theorem d_159_145 : decode (zm_code 159) 145 = .ok (.aload_n 0, 1) := by decide +kernel
theorem d_159_146 : decode (zm_code 159) 146 = .ok (.iconst 3, 1) := by decide +kernel
theorem d_159_147 : decode (zm_code 159) 147 = .ok (.putfield 20, 3) := by decide +kernel
theorem d_159_150 : decode (zm_code 159) 150 = .ok (.aload_n 0, 1) := by decide +kernel
theorem d_159_151 : decode (zm_code 159) 151 = .ok (.iload_n 1, 1) := by decide +kernel
theorem d_159_152 : decode (zm_code 159) 152 = .ok (.iconst 1, 1) := by decide +kernel
theorem d_159_153 : decode (zm_code 159) 153 = .ok (.iadd, 1) := by decide +kernel
theorem d_159_154 : decode (zm_code 159) 154 = .ok (.putfield 26, 3) := by decide +kernel
theorem d_159_157 : decode (zm_code 159) 157 = .ok (.iload_n 2, 1) := by decide +kernel
theorem d_159_158 : decode (zm_code 159) 158 = .ok (.ifCond .ne 18, 3) := by decide +kernel
theorem d_159_161 : decode (zm_code 159) 161 = .ok (.iload_n 3, 1) := by decide +kernel
theorem d_159_162 : decode (zm_code 159) 162 = .ok (.ifCond .ne 14, 3) := by decide +kernel
theorem d_159_165 : decode (zm_code 159) 165 = .ok (.aload_n 0, 1) := by decide +kernel
theorem d_159_166 : decode (zm_code 159) 166 = .ok (.aload_n 0, 1) := by decide +kernel
theorem d_159_167 : decode (zm_code 159) 167 = .ok (.getfield 7, 3) := by decide +kernel
theorem d_159_170 : decode (zm_code 159) 170 = .ok (.iload_n 1, 1) := by decide +kernel
theorem d_159_171 : decode (zm_code 159) 171 = .ok (.iaload, 1) := by decide +kernel
theorem d_159_172 : decode (zm_code 159) 172 = .ok (.putfield 29, 3) := by decide +kernel
theorem d_159_175 : decode (zm_code 159) 175 = .ok (.return_, 1) := by decide +kernel
theorem d_159_176 : decode (zm_code 159) 176 = .ok (.aload_n 0, 1) := by decide +kernel
theorem d_159_177 : decode (zm_code 159) 177 = .ok (.iload_n 2, 1) := by decide +kernel
theorem d_159_178 : decode (zm_code 159) 178 = .ok (.ifCond .eq 7, 3) := by decide +kernel
theorem d_159_181 : decode (zm_code 159) 181 = .ok (.iconst 1, 1) := by decide +kernel
theorem d_159_182 : decode (zm_code 159) 182 = .ok (.goto 4, 3) := by decide +kernel
theorem d_159_185 : decode (zm_code 159) 185 = .ok (.iconst 2, 1) := by decide +kernel
theorem d_159_186 : decode (zm_code 159) 186 = .ok (.putfield 20, 3) := by decide +kernel
theorem d_159_189 : decode (zm_code 159) 189 = .ok (.iload_n 2, 1) := by decide +kernel
theorem d_159_190 : decode (zm_code 159) 190 = .ok (.ifCond .eq 8, 3) := by decide +kernel
theorem d_159_193 : decode (zm_code 159) 193 = .ok (.bipush 6, 2) := by decide +kernel
theorem d_159_195 : decode (zm_code 159) 195 = .ok (.goto 4, 3) := by decide +kernel
theorem d_159_198 : decode (zm_code 159) 198 = .ok (.iconst 4, 1) := by decide +kernel
theorem d_159_199 : decode (zm_code 159) 199 = .ok (.istore 4, 2) := by decide +kernel
theorem d_159_201 : decode (zm_code 159) 201 = .ok (.iconst 0, 1) := by decide +kernel
theorem d_159_202 : decode (zm_code 159) 202 = .ok (.istore 5, 2) := by decide +kernel
theorem d_159_204 : decode (zm_code 159) 204 = .ok (.iload_n 1, 1) := by decide +kernel
theorem d_159_205 : decode (zm_code 159) 205 = .ok (.aload_n 0, 1) := by decide +kernel
theorem d_159_206 : decode (zm_code 159) 206 = .ok (.getfield 17, 3) := by decide +kernel
theorem d_159_209 : decode (zm_code 159) 209 = .ok (.if_icmp .ge 125, 3) := by decide +kernel
theorem d_159_212 : decode (zm_code 159) 212 = .ok (.iload_n 2, 1) := by decide +kernel
theorem d_159_213 : decode (zm_code 159) 213 = .ok (.ifCond .eq 18, 3) := by decide +kernel
theorem d_159_216 : decode (zm_code 159) 216 = .ok (.aload_n 0, 1) := by decide +kernel
theorem d_159_217 : decode (zm_code 159) 217 = .ok (.getfield 7, 3) := by decide +kernel
theorem d_159_220 : decode (zm_code 159) 220 = .ok (.iload_n 1, 1) := by decide +kernel
theorem d_159_221 : decode (zm_code 159) 221 = .ok (.iaload, 1) := by decide +kernel
theorem d_159_222 : decode (zm_code 159) 222 = .ok (.invokestatic 261, 3) := by decide +kernel
theorem d_159_225 : decode (zm_code 159) 225 = .ok (.ifCond .eq 109, 3) := by decide +kernel
theorem d_159_228 : decode (zm_code 159) 228 = .ok (.goto 15, 3) := by decide +kernel
theorem d_159_231 : decode (zm_code 159) 231 = .ok (.aload_n 0, 1) := by decide +kernel
theorem d_159_232 : decode (zm_code 159) 232 = .ok (.getfield 7, 3) := by decide +kernel
theorem d_159_235 : decode (zm_code 159) 235 = .ok (.iload_n 1, 1) := by decide +kernel
theorem d_159_236 : decode (zm_code 159) 236 = .ok (.iaload, 1) := by decide +kernel
theorem d_159_237 : decode (zm_code 159) 237 = .ok (.invokestatic 265, 3) := by decide +kernel
theorem d_159_240 : decode (zm_code 159) 240 = .ok (.ifCond .eq 94, 3) := by decide +kernel
theorem d_159_243 : decode (zm_code 159) 243 = .ok (.iload 5, 2) := by decide +kernel
theorem d_159_245 : decode (zm_code 159) 245 = .ok (.iload 4, 2) := by decide +kernel
theorem d_159_247 : decode (zm_code 159) 247 = .ok (.if_icmp .ne 16, 3) := by decide +kernel
theorem d_159_250 : decode (zm_code 159) 250 = .ok (.aload_n 0, 1) := by decide +kernel
theorem d_159_251 : decode (zm_code 159) 251 = .ok (.getfield 48, 3) := by decide +kernel
theorem d_159_254 : decode (zm_code 159) 254 = .ok (.iconst (-1), 1) := by decide +kernel
theorem d_159_255 : decode (zm_code 159) 255 = .ok (.if_icmp .ne 8, 3) := by decide +kernel
theorem d_159_258 : decode (zm_code 159) 258 = .ok (.aload_n 0, 1) := by decide +kernel
theorem d_159_259 : decode (zm_code 159) 259 = .ok (.iload_n 1, 1) := by decide +kernel
theorem d_159_260 : decode (zm_code 159) 260 = .ok (.putfield 48, 3) := by decide +kernel
theorem d_159_263 : decode (zm_code 159) 263 = .ok (.iload 5, 2) := by decide +kernel
theorem d_159_265 : decode (zm_code 159) 265 = .ok (.iload 4, 2) := by decide +kernel
theorem d_159_267 : decode (zm_code 159) 267 = .ok (.if_icmp .ge 26, 3) := by decide +kernel
theorem d_159_270 : decode (zm_code 159) 270 = .ok (.iload_n 2, 1) := by decide +kernel
theorem d_159_271 : decode (zm_code 159) 271 = .ok (.ifCond .eq 22, 3) := by decide +kernel
theorem d_159_274 : decode (zm_code 159) 274 = .ok (.aload_n 0, 1) := by decide +kernel
theorem d_159_275 : decode (zm_code 159) 275 = .ok (.aload_n 0, 1) := by decide +kernel
theorem d_159_276 : decode (zm_code 159) 276 = .ok (.getfield 32, 3) := by decide +kernel
theorem d_159_279 : decode (zm_code 159) 279 = .ok (.bipush 8, 2) := by decide +kernel
theorem d_159_281 : decode (zm_code 159) 281 = .ok (.lshl, 1) := by decide +kernel
theorem d_159_282 : decode (zm_code 159) 282 = .ok (.aload_n 0, 1) := by decide +kernel
theorem d_159_283 : decode (zm_code 159) 283 = .ok (.getfield 7, 3) := by decide +kernel
theorem d_159_286 : decode (zm_code 159) 286 = .ok (.iload_n 1, 1) := by decide +kernel
theorem d_159_287 : decode (zm_code 159) 287 = .ok (.iaload, 1) := by decide +kernel
theorem d_159_288 : decode (zm_code 159) 288 = .ok (.i2l, 1) := by decide +kernel
theorem d_159_289 : decode (zm_code 159) 289 = .ok (.lor, 1) := by decide +kernel
theorem d_159_290 : decode (zm_code 159) 290 = .ok (.putfield 32, 3) := by decide +kernel
theorem d_159_293 : decode (zm_code 159) 293 = .ok (.iload 5, 2) := by decide +kernel
theorem d_159_295 : decode (zm_code 159) 295 = .ok (.iload 4, 2) := by decide +kernel
theorem d_159_297 : decode (zm_code 159) 297 = .ok (.if_icmp .ge 28, 3) := by decide +kernel
theorem d_159_300 : decode (zm_code 159) 300 = .ok (.iload_n 3, 1) := by decide +kernel
theorem d_159_301 : decode (zm_code 159) 301 = .ok (.ifCond .eq 24, 3) := by decide +kernel
theorem d_159_304 : decode (zm_code 159) 304 = .ok (.aload_n 0, 1) := by decide +kernel
theorem d_159_305 : decode (zm_code 159) 305 = .ok (.bipush 10, 2) := by decide +kernel
theorem d_159_307 : decode (zm_code 159) 307 = .ok (.aload_n 0, 1) := by decide +kernel
theorem d_159_308 : decode (zm_code 159) 308 = .ok (.getfield 29, 3) := by decide +kernel
theorem d_159_311 : decode (zm_code 159) 311 = .ok (.imul, 1) := by decide +kernel
theorem d_159_312 : decode (zm_code 159) 312 = .ok (.aload_n 0, 1) := by decide +kernel
theorem d_159_313 : decode (zm_code 159) 313 = .ok (.getfield 7, 3) := by decide +kernel
theorem d_159_316 : decode (zm_code 159) 316 = .ok (.iload_n 1, 1) := by decide +kernel
theorem d_159_317 : decode (zm_code 159) 317 = .ok (.iaload, 1) := by decide +kernel
theorem d_159_318 : decode (zm_code 159) 318 = .ok (.iadd, 1) := by decide +kernel
theorem d_159_319 : decode (zm_code 159) 319 = .ok (.bipush 48, 2) := by decide +kernel
theorem d_159_321 : decode (zm_code 159) 321 = .ok (.isub, 1) := by decide +kernel
theorem d_159_322 : decode (zm_code 159) 322 = .ok (.putfield 29, 3) := by decide +kernel
theorem d_159_325 : decode (zm_code 159) 325 = .ok (.iinc 5 1, 3) := by decide +kernel
theorem d_159_328 : decode (zm_code 159) 328 = .ok (.iinc 1 1, 3) := by decide +kernel
theorem d_159_331 : decode (zm_code 159) 331 = .ok (.goto (-127), 3) := by decide +kernel
theorem d_159_334 : decode (zm_code 159) 334 = .ok (.aload_n 0, 1) := by decide +kernel
theorem d_159_335 : decode (zm_code 159) 335 = .ok (.iload_n 1, 1) := by decide +kernel
theorem d_159_336 : decode (zm_code 159) 336 = .ok (.putfield 26, 3) := by decide +kernel
theorem d_159_339 : decode (zm_code 159) 339 = .ok (.return_, 1) := by decide +kernel
theorem d_160_0 : decode (zm_code 160) 0 = .ok (.iload_n 0, 1) := by decide +kernel
theorem d_160_1 : decode (zm_code 160) 1 = .ok (.bipush 97, 2) := by decide +kernel
theorem d_160_3 : decode (zm_code 160) 3 = .ok (.if_icmp .lt 13, 3) := by decide +kernel
theorem d_160_6 : decode (zm_code 160) 6 = .ok (.iload_n 0, 1) := by decide +kernel
theorem d_160_7 : decode (zm_code 160) 7 = .ok (.bipush 122, 2) := by decide +kernel
theorem d_160_9 : decode (zm_code 160) 9 = .ok (.if_icmp .gt 7, 3) := by decide +kernel
theorem d_160_12 : decode (zm_code 160) 12 = .ok (.iconst 1, 1) := by decide +kernel
theorem d_160_13 : decode (zm_code 160) 13 = .ok (.goto 4, 3) := by decide +kernel
theorem d_160_16 : decode (zm_code 160) 16 = .ok (.iconst 0, 1) := by decide +kernel
theorem d_160_17 : decode (zm_code 160) 17 = .ok (.ireturn, 1) := by decide +kernel
theorem d_161_0 : decode (zm_code 161) 0 = .ok (.iload_n 0, 1) := by decide +kernel
theorem d_161_1 : decode (zm_code 161) 1 = .ok (.bipush 48, 2) := by decide +kernel
theorem d_161_3 : decode (zm_code 161) 3 = .ok (.if_icmp .lt 13, 3) := by decide +kernel
theorem d_161_6 : decode (zm_code 161) 6 = .ok (.iload_n 0, 1) := by decide +kernel
theorem d_161_7 : decode (zm_code 161) 7 = .ok (.bipush 57, 2) := by decide +kernel
theorem d_161_9 : decode (zm_code 161) 9 = .ok (.if_icmp .gt 7, 3) := by decide +kernel
theorem d_161_12 : decode (zm_code 161) 12 = .ok (.iconst 1, 1) := by decide +kernel
theorem d_161_13 : decode (zm_code 161) 13 = .ok (.goto 4, 3) := by decide +kernel
theorem d_161_16 : decode (zm_code 161) 16 = .ok (.iconst 0, 1) := by decide +kernel
theorem d_161_17 : decode (zm_code 161) 17 = .ok (.ireturn, 1) := by decide +kernel
theorem d_162_0 : decode (zm_code 162) 0 = .ok (.aload_n 0, 1) := by decide +kernel
theorem d_162_1 : decode (zm_code 162) 1 = .ok (.invokevirtual 268, 3) := by decide +kernel
theorem d_162_4 : decode (zm_code 162) 4 = .ok (.aload_n 0, 1) := by decide +kernel
theorem d_162_5 : decode (zm_code 162) 5 = .ok (.getfield 36, 3) := by decide +kernel
theorem d_162_8 : decode (zm_code 162) 8 = .ok (.ifCond .le 4, 3) := by decide +kernel
theorem d_162_11 : decode (zm_code 162) 11 = .ok (.return_, 1) := by decide +kernel
theorem d_162_12 : decode (zm_code 162) 12 = .ok (.aload_n 0, 1) := by decide +kernel
theorem d_162_13 : decode (zm_code 162) 13 = .ok (.ldc2_w 277, 3) := by decide +kernel
theorem d_162_16 : decode (zm_code 162) 16 = .ok (.invokevirtual 351, 3) := by decide +kernel
theorem d_162_19 : decode (zm_code 162) 19 = .ok (.ifCond .eq 10, 3) := by decide +kernel
theorem d_162_22 : decode (zm_code 162) 22 = .ok (.aload_n 0, 1) := by decide +kernel
theorem d_162_23 : decode (zm_code 162) 23 = .ok (.invokevirtual 402, 3) := by decide +kernel
theorem d_162_26 : decode (zm_code 162) 26 = .ok (.goto 114, 3) := by decide +kernel
theorem d_162_29 : decode (zm_code 162) 29 = .ok (.aload_n 0, 1) := by decide +kernel
theorem d_162_30 : decode (zm_code 162) 30 = .ok (.ldc2_w 283, 3) := by decide +kernel
theorem d_162_33 : decode (zm_code 162) 33 = .ok (.invokevirtual 351, 3) := by decide +kernel
theorem d_162_36 : decode (zm_code 162) 36 = .ok (.ifCond .eq 10, 3) := by decide +kernel
theorem d_162_39 : decode (zm_code 162) 39 = .ok (.aload_n 0, 1) := by decide +kernel
theorem d_162_40 : decode (zm_code 162) 40 = .ok (.invokevirtual 405, 3) := by decide +kernel
theorem d_162_43 : decode (zm_code 162) 43 = .ok (.goto 97, 3) := by decide +kernel
theorem d_162_46 : decode (zm_code 162) 46 = .ok (.aload_n 0, 1) := by decide +kernel
theorem d_162_47 : decode (zm_code 162) 47 = .ok (.ldc2_w 285, 3) := by decide +kernel
theorem d_162_50 : decode (zm_code 162) 50 = .ok (.invokevirtual 351, 3) := by decide +kernel
theorem d_162_53 : decode (zm_code 162) 53 = .ok (.ifCond .eq 10, 3) := by decide +kernel
theorem d_162_56 : decode (zm_code 162) 56 = .ok (.aload_n 0, 1) := by decide +kernel
theorem d_162_57 : decode (zm_code 162) 57 = .ok (.invokevirtual 408, 3) := by decide +kernel
theorem d_162_60 : decode (zm_code 162) 60 = .ok (.goto 80, 3) := by decide +kernel
theorem d_162_63 : decode (zm_code 162) 63 = .ok (.aload_n 0, 1) := by decide +kernel
theorem d_162_64 : decode (zm_code 162) 64 = .ok (.ldc2_w 299, 3) := by decide +kernel
theorem d_162_67 : decode (zm_code 162) 67 = .ok (.invokevirtual 351, 3) := by decide +kernel
theorem d_162_70 : decode (zm_code 162) 70 = .ok (.ifCond .eq 10, 3) := by decide +kernel
theorem d_162_73 : decode (zm_code 162) 73 = .ok (.aload_n 0, 1) := by decide +kernel
theorem d_162_74 : decode (zm_code 162) 74 = .ok (.invokevirtual 411, 3) := by decide +kernel
theorem d_162_77 : decode (zm_code 162) 77 = .ok (.goto 63, 3) := by decide +kernel
theorem d_162_80 : decode (zm_code 162) 80 = .ok (.aload_n 0, 1) := by decide +kernel
theorem d_162_81 : decode (zm_code 162) 81 = .ok (.ldc2_w 301, 3) := by decide +kernel
theorem d_162_84 : decode (zm_code 162) 84 = .ok (.invokevirtual 351, 3) := by decide +kernel
theorem d_162_87 : decode (zm_code 162) 87 = .ok (.ifCond .eq 10, 3) := by decide +kernel
theorem d_162_90 : decode (zm_code 162) 90 = .ok (.aload_n 0, 1) := by decide +kernel
theorem d_162_91 : decode (zm_code 162) 91 = .ok (.invokevirtual 414, 3) := by decide +kernel
theorem d_162_94 : decode (zm_code 162) 94 = .ok (.goto 46, 3) := by decide +kernel
theorem d_162_97 : decode (zm_code 162) 97 = .ok (.aload_n 0, 1) := by decide +kernel
theorem d_162_98 : decode (zm_code 162) 98 = .ok (.ldc2_w 303, 3) := by decide +kernel
theorem d_162_101 : decode (zm_code 162) 101 = .ok (.invokevirtual 351, 3) := by decide +kernel
theorem d_162_104 : decode (zm_code 162) 104 = .ok (.ifCond .eq 10, 3) := by decide +kernel
theorem d_162_107 : decode (zm_code 162) 107 = .ok (.aload_n 0, 1) := by decide +kernel
theorem d_162_108 : decode (zm_code 162) 108 = .ok (.invokevirtual 417, 3) := by decide +kernel
theorem d_162_111 : decode (zm_code 162) 111 = .ok (.goto 29, 3) := by decide +kernel
theorem d_162_114 : decode (zm_code 162) 114 = .ok (.aload_n 0, 1) := by decide +kernel
theorem d_162_115 : decode (zm_code 162) 115 = .ok (.ldc2_w 305, 3) := by decide +kernel
theorem d_162_118 : decode (zm_code 162) 118 = .ok (.invokevirtual 351, 3) := by decide +kernel
theorem d_162_121 : decode (zm_code 162) 121 = .ok (.ifCond .eq 10, 3) := by decide +kernel
theorem d_162_124 : decode (zm_code 162) 124 = .ok (.aload_n 0, 1) := by decide +kernel
theorem d_162_125 : decode (zm_code 162) 125 = .ok (.invokevirtual 420, 3) := by decide +kernel
theorem d_162_128 : decode (zm_code 162) 128 = .ok (.goto 12, 3) := by decide +kernel
theorem d_162_131 : decode (zm_code 162) 131 = .ok (.aload_n 0, 1) := by decide +kernel
theorem d_162_132 : decode (zm_code 162) 132 = .ok (.iconst 1, 1) := by decide +kernel
theorem d_162_133 : decode (zm_code 162) 133 = .ok (.aload_n 0, 1) := by decide +kernel
theorem d_162_134 : decode (zm_code 162) 134 = .ok (.getfield 23, 3) := by decide +kernel
theorem d_162_137 : decode (zm_code 162) 137 = .ok (.invokevirtual 257, 3) := by decide +kernel
theorem d_162_140 : decode (zm_code 162) 140 = .ok (.return_, 1) := by decide +kernel
theorem d_163_0 : decode (zm_code 163) 0 = .ok (.aload_n 0, 1) := by decide +kernel
theorem d_163_1 : decode (zm_code 163) 1 = .ok (.getfield 48, 3) := by decide +kernel
theorem d_163_4 : decode (zm_code 163) 4 = .ok (.iconst (-1), 1) := by decide +kernel
theorem d_163_5 : decode (zm_code 163) 5 = .ok (.if_icmp .eq 12, 3) := by decide +kernel
theorem d_163_8 : decode (zm_code 163) 8 = .ok (.aload_n 0, 1) := by decide +kernel
theorem d_163_9 : decode (zm_code 163) 9 = .ok (.iconst 1, 1) := by decide +kernel
theorem d_163_10 : decode (zm_code 163) 10 = .ok (.aload_n 0, 1) := by decide +kernel
theorem d_163_11 : decode (zm_code 163) 11 = .ok (.getfield 48, 3) := by decide +kernel
theorem d_163_14 : decode (zm_code 163) 14 = .ok (.invokevirtual 257, 3) := by decide +kernel
theorem d_163_17 : decode (zm_code 163) 17 = .ok (.return_, 1) := by decide +kernel
theorem d_164_0 : decode (zm_code 164) 0 = .ok (.aload_n 0, 1) := by decide +kernel
theorem d_164_1 : decode (zm_code 164) 1 = .ok (.getfield 36, 3) := by decide +kernel
theorem d_164_4 : decode (zm_code 164) 4 = .ok (.ifCond .le 4, 3) := by decide +kernel
theorem d_164_7 : decode (zm_code 164) 7 = .ok (.return_, 1) := by decide +kernel
theorem d_164_8 : decode (zm_code 164) 8 = .ok (.aload_n 0, 1) := by decide +kernel
theorem d_164_9 : decode (zm_code 164) 9 = .ok (.iload_n 1, 1) := by decide +kernel
theorem d_164_10 : decode (zm_code 164) 10 = .ok (.putfield 36, 3) := by decide +kernel
theorem d_164_13 : decode (zm_code 164) 13 = .ok (.aload_n 0, 1) := by decide +kernel
theorem d_164_14 : decode (zm_code 164) 14 = .ok (.iload_n 2, 1) := by decide +kernel
theorem d_164_15 : decode (zm_code 164) 15 = .ok (.putfield 39, 3) := by decide +kernel
theorem d_164_18 : decode (zm_code 164) 18 = .ok (.return_, 1) := by decide +kernel
theorem d_165_0 : decode (zm_code 165) 0 = .ok (.aload_n 0, 1) := by decide +kernel
theorem d_165_1 : decode (zm_code 165) 1 = .ok (.getfield 20, 3) := by decide +kernel
theorem d_165_4 : decode (zm_code 165) 4 = .ok (.iconst 1, 1) := by decide +kernel
theorem d_165_5 : decode (zm_code 165) 5 = .ok (.if_icmp .ne 16, 3) := by decide +kernel
theorem d_165_8 : decode (zm_code 165) 8 = .ok (.aload_n 0, 1) := by decide +kernel
theorem d_165_9 : decode (zm_code 165) 9 = .ok (.getfield 32, 3) := by decide +kernel
theorem d_165_12 : decode (zm_code 165) 12 = .ok (.lload_n 1, 1) := by decide +kernel
theorem d_165_13 : decode (zm_code 165) 13 = .ok (.lcmp, 1) := by decide +kernel
theorem d_165_14 : decode (zm_code 165) 14 = .ok (.ifCond .ne 7, 3) := by decide +kernel
theorem d_165_17 : decode (zm_code 165) 17 = .ok (.iconst 1, 1) := by decide +kernel
theorem d_165_18 : decode (zm_code 165) 18 = .ok (.goto 4, 3) := by decide +kernel
theorem d_165_21 : decode (zm_code 165) 21 = .ok (.iconst 0, 1) := by decide +kernel
theorem d_165_22 : decode (zm_code 165) 22 = .ok (.ireturn, 1) := by decide +kernel
theorem d_166_0 : decode (zm_code 166) 0 = .ok (.aload_n 0, 1) := by decide +kernel
theorem d_166_1 : decode (zm_code 166) 1 = .ok (.aload_n 0, 1) := by decide +kernel
theorem d_166_2 : decode (zm_code 166) 2 = .ok (.getfield 54, 3) := by decide +kernel
theorem d_166_5 : decode (zm_code 166) 5 = .ok (.aload_n 0, 1) := by decide +kernel
theorem d_166_6 : decode (zm_code 166) 6 = .ok (.getfield 115, 3) := by decide +kernel
theorem d_166_9 : decode (zm_code 166) 9 = .ok (.iaload, 1) := by decide +kernel
theorem d_166_10 : decode (zm_code 166) 10 = .ok (.bipush 8, 2) := by decide +kernel
theorem d_166_12 : decode (zm_code 166) 12 = .ok (.if_icmp .ne 7, 3) := by decide +kernel
theorem d_166_15 : decode (zm_code 166) 15 = .ok (.iconst 1, 1) := by decide +kernel
theorem d_166_16 : decode (zm_code 166) 16 = .ok (.goto 4, 3) := by decide +kernel
theorem d_166_19 : decode (zm_code 166) 19 = .ok (.iconst 0, 1) := by decide +kernel
theorem d_166_20 : decode (zm_code 166) 20 = .ok (.invokevirtual 380, 3) := by decide +kernel
theorem d_166_23 : decode (zm_code 166) 23 = .ok (.ifCond .ne 4, 3) := by decide +kernel
theorem d_166_26 : decode (zm_code 166) 26 = .ok (.return_, 1) := by decide +kernel
theorem d_166_27 : decode (zm_code 166) 27 = .ok (.bipush 8, 2) := by decide +kernel
theorem d_166_29 : decode (zm_code 166) 29 = .ok (.aload_n 0, 1) := by decide +kernel
theorem d_166_30 : decode (zm_code 166) 30 = .ok (.getfield 115, 3) := by decide +kernel
theorem d_166_33 : decode (zm_code 166) 33 = .ok (.imul, 1) := by decide +kernel
theorem d_166_34 : decode (zm_code 166) 34 = .ok (.aload_n 0, 1) := by decide +kernel
theorem d_166_35 : decode (zm_code 166) 35 = .ok (.getfield 54, 3) := by decide +kernel
theorem d_166_38 : decode (zm_code 166) 38 = .ok (.aload_n 0, 1) := by decide +kernel
theorem d_166_39 : decode (zm_code 166) 39 = .ok (.getfield 115, 3) := by decide +kernel
theorem d_166_42 : decode (zm_code 166) 42 = .ok (.iaload, 1) := by decide +kernel
theorem d_166_43 : decode (zm_code 166) 43 = .ok (.iadd, 1) := by decide +kernel
theorem d_166_44 : decode (zm_code 166) 44 = .ok (.istore_n 1, 1) := by decide +kernel
theorem d_166_45 : decode (zm_code 166) 45 = .ok (.aload_n 0, 1) := by decide +kernel
theorem d_166_46 : decode (zm_code 166) 46 = .ok (.getfield 105, 3) := by decide +kernel
theorem d_166_49 : decode (zm_code 166) 49 = .ok (.iload_n 1, 1) := by decide +kernel
theorem d_166_50 : decode (zm_code 166) 50 = .ok (.aload_n 0, 1) := by decide +kernel
theorem d_166_51 : decode (zm_code 166) 51 = .ok (.invokevirtual 384, 3) := by decide +kernel
theorem d_166_54 : decode (zm_code 166) 54 = .ok (.lastore, 1) := by decide +kernel
theorem d_166_55 : decode (zm_code 166) 55 = .ok (.aload_n 0, 1) := by decide +kernel
theorem d_166_56 : decode (zm_code 166) 56 = .ok (.ldc2_w 279, 3) := by decide +kernel
theorem d_166_59 : decode (zm_code 166) 59 = .ok (.invokevirtual 388, 3) := by decide +kernel
theorem d_166_62 : decode (zm_code 166) 62 = .ok (.aload_n 0, 1) := by decide +kernel
theorem d_166_63 : decode (zm_code 166) 63 = .ok (.getfield 57, 3) := by decide +kernel
theorem d_166_66 : decode (zm_code 166) 66 = .ok (.iload_n 1, 1) := by decide +kernel
theorem d_166_67 : decode (zm_code 166) 67 = .ok (.aload_n 0, 1) := by decide +kernel
theorem d_166_68 : decode (zm_code 166) 68 = .ok (.iconst 0, 1) := by decide +kernel
theorem d_166_69 : decode (zm_code 166) 69 = .ok (.bipush 99, 2) := by decide +kernel
theorem d_166_71 : decode (zm_code 166) 71 = .ok (.invokevirtual 392, 3) := by decide +kernel
theorem d_166_74 : decode (zm_code 166) 74 = .ok (.iastore, 1) := by decide +kernel
theorem d_166_75 : decode (zm_code 166) 75 = .ok (.aload_n 0, 1) := by decide +kernel
theorem d_166_76 : decode (zm_code 166) 76 = .ok (.ldc2_w 281, 3) := by decide +kernel
theorem d_166_79 : decode (zm_code 166) 79 = .ok (.invokevirtual 388, 3) := by decide +kernel
theorem d_166_82 : decode (zm_code 166) 82 = .ok (.aload_n 0, 1) := by decide +kernel
theorem d_166_83 : decode (zm_code 166) 83 = .ok (.getfield 60, 3) := by decide +kernel
theorem d_166_86 : decode (zm_code 166) 86 = .ok (.iload_n 1, 1) := by decide +kernel
theorem d_166_87 : decode (zm_code 166) 87 = .ok (.aload_n 0, 1) := by decide +kernel
theorem d_166_88 : decode (zm_code 166) 88 = .ok (.iconst 1, 1) := by decide +kernel
theorem d_166_89 : decode (zm_code 166) 89 = .ok (.bipush 9, 2) := by decide +kernel
theorem d_166_91 : decode (zm_code 166) 91 = .ok (.invokevirtual 392, 3) := by decide +kernel
theorem d_166_94 : decode (zm_code 166) 94 = .ok (.iastore, 1) := by decide +kernel
theorem d_166_95 : decode (zm_code 166) 95 = .ok (.iconst 0, 1) := by decide +kernel
theorem d_166_96 : decode (zm_code 166) 96 = .ok (.istore_n 2, 1) := by decide +kernel
theorem d_166_97 : decode (zm_code 166) 97 = .ok (.iload_n 2, 1) := by decide +kernel
theorem d_166_98 : decode (zm_code 166) 98 = .ok (.bipush 8, 2) := by decide +kernel
theorem d_166_100 : decode (zm_code 166) 100 = .ok (.if_icmp .ge 42, 3) := by decide +kernel
theorem d_166_103 : decode (zm_code 166) 103 = .ok (.aload_n 0, 1) := by decide +kernel
theorem d_166_104 : decode (zm_code 166) 104 = .ok (.getfield 81, 3) := by decide +kernel
theorem d_166_107 : decode (zm_code 166) 107 = .ok (.bipush 8, 2) := by decide +kernel
theorem d_166_109 : decode (zm_code 166) 109 = .ok (.bipush 8, 2) := by decide +kernel
theorem d_166_111 : decode (zm_code 166) 111 = .ok (.aload_n 0, 1) := by decide +kernel
theorem d_166_112 : decode (zm_code 166) 112 = .ok (.getfield 115, 3) := by decide +kernel
theorem d_166_115 : decode (zm_code 166) 115 = .ok (.imul, 1) := by decide +kernel
theorem d_166_116 : decode (zm_code 166) 116 = .ok (.iload_n 2, 1) := by decide +kernel
theorem d_166_117 : decode (zm_code 166) 117 = .ok (.iadd, 1) := by decide +kernel
theorem d_166_118 : decode (zm_code 166) 118 = .ok (.imul, 1) := by decide +kernel
theorem d_166_119 : decode (zm_code 166) 119 = .ok (.aload_n 0, 1) := by decide +kernel
theorem d_166_120 : decode (zm_code 166) 120 = .ok (.getfield 54, 3) := by decide +kernel
theorem d_166_123 : decode (zm_code 166) 123 = .ok (.aload_n 0, 1) := by decide +kernel
theorem d_166_124 : decode (zm_code 166) 124 = .ok (.getfield 115, 3) := by decide +kernel
theorem d_166_127 : decode (zm_code 166) 127 = .ok (.iaload, 1) := by decide +kernel
theorem d_166_128 : decode (zm_code 166) 128 = .ok (.iadd, 1) := by decide +kernel
theorem d_166_129 : decode (zm_code 166) 129 = .ok (.aload_n 0, 1) := by decide +kernel
theorem d_166_130 : decode (zm_code 166) 130 = .ok (.getfield 57, 3) := by decide +kernel
theorem d_166_133 : decode (zm_code 166) 133 = .ok (.iload_n 1, 1) := by decide +kernel
theorem d_166_134 : decode (zm_code 166) 134 = .ok (.iaload, 1) := by decide +kernel
theorem d_166_135 : decode (zm_code 166) 135 = .ok (.iastore, 1) := by decide +kernel
theorem d_166_136 : decode (zm_code 166) 136 = .ok (.iinc 2 1, 3) := by decide +kernel
theorem d_166_139 : decode (zm_code 166) 139 = .ok (.goto (-42), 3) := by decide +kernel
theorem d_166_142 : decode (zm_code 166) 142 = .ok (.aload_n 0, 1) := by decide +kernel
theorem d_166_143 : decode (zm_code 166) 143 = .ok (.getfield 36, 3) := by decide +kernel
theorem d_166_146 : decode (zm_code 166) 146 = .ok (.ifCond .ne 16, 3) := by decide +kernel
theorem d_166_149 : decode (zm_code 166) 149 = .ok (.aload_n 0, 1) := by decide +kernel
theorem d_166_150 : decode (zm_code 166) 150 = .ok (.getfield 54, 3) := by decide +kernel
theorem d_166_153 : decode (zm_code 166) 153 = .ok (.aload_n 0, 1) := by decide +kernel
theorem d_166_154 : decode (zm_code 166) 154 = .ok (.getfield 115, 3) := by decide +kernel
theorem d_166_157 : decode (zm_code 166) 157 = .ok (.dup2, 1) := by decide +kernel
theorem d_166_158 : decode (zm_code 166) 158 = .ok (.iaload, 1) := by decide +kernel
theorem d_166_159 : decode (zm_code 166) 159 = .ok (.iconst 1, 1) := by decide +kernel
theorem d_166_160 : decode (zm_code 166) 160 = .ok (.iadd, 1) := by decide +kernel
theorem d_166_161 : decode (zm_code 166) 161 = .ok (.iastore, 1) := by decide +kernel
theorem d_166_162 : decode (zm_code 166) 162 = .ok (.return_, 1) := by decide +kernel
theorem d_167_0 : decode (zm_code 167) 0 = .ok (.aload_n 0, 1) := by decide +kernel
theorem d_167_1 : decode (zm_code 167) 1 = .ok (.getfield 36, 3) := by decide +kernel
theorem d_167_4 : decode (zm_code 167) 4 = .ok (.ifCond .ne 17, 3) := by decide +kernel
theorem d_167_7 : decode (zm_code 167) 7 = .ok (.iload_n 1, 1) := by decide +kernel
theorem d_167_8 : decode (zm_code 167) 8 = .ok (.ifCond .eq 13, 3) := by decide +kernel
theorem d_167_11 : decode (zm_code 167) 11 = .ok (.aload_n 0, 1) := by decide +kernel
theorem d_167_12 : decode (zm_code 167) 12 = .ok (.bipush 6, 2) := by decide +kernel
theorem d_167_14 : decode (zm_code 167) 14 = .ok (.aload_n 0, 1) := by decide +kernel
theorem d_167_15 : decode (zm_code 167) 15 = .ok (.getfield 23, 3) := by decide +kernel
theorem d_167_18 : decode (zm_code 167) 18 = .ok (.invokevirtual 257, 3) := by decide +kernel
theorem d_167_21 : decode (zm_code 167) 21 = .ok (.aload_n 0, 1) := by decide +kernel
theorem d_167_22 : decode (zm_code 167) 22 = .ok (.getfield 36, 3) := by decide +kernel
theorem d_167_25 : decode (zm_code 167) 25 = .ok (.ifCond .ne 7, 3) := by decide +kernel
theorem d_167_28 : decode (zm_code 167) 28 = .ok (.aload_n 0, 1) := by decide +kernel
theorem d_167_29 : decode (zm_code 167) 29 = .ok (.invokevirtual 274, 3) := by decide +kernel
theorem d_167_32 : decode (zm_code 167) 32 = .ok (.aload_n 0, 1) := by decide +kernel
theorem d_167_33 : decode (zm_code 167) 33 = .ok (.getfield 36, 3) := by decide +kernel
theorem d_167_36 : decode (zm_code 167) 36 = .ok (.ifCond .ne 7, 3) := by decide +kernel
theorem d_167_39 : decode (zm_code 167) 39 = .ok (.iconst 1, 1) := by decide +kernel
theorem d_167_40 : decode (zm_code 167) 40 = .ok (.goto 4, 3) := by decide +kernel
theorem d_167_43 : decode (zm_code 167) 43 = .ok (.iconst 0, 1) := by decide +kernel
theorem d_167_44 : decode (zm_code 167) 44 = .ok (.ireturn, 1) := by decide +kernel
theorem d_168_0 : decode (zm_code 168) 0 = .ok (.aload_n 0, 1) := by decide +kernel
theorem d_168_1 : decode (zm_code 168) 1 = .ok (.invokevirtual 268, 3) := by decide +kernel
theorem d_168_4 : decode (zm_code 168) 4 = .ok (.aload_n 0, 1) := by decide +kernel
theorem d_168_5 : decode (zm_code 168) 5 = .ok (.getfield 36, 3) := by decide +kernel
theorem d_168_8 : decode (zm_code 168) 8 = .ok (.ifCond .le 5, 3) := by decide +kernel
theorem d_168_11 : decode (zm_code 168) 11 = .ok (.lconst 0, 1) := by decide +kernel
theorem d_168_12 : decode (zm_code 168) 12 = .ok (.lreturn, 1) := by decide +kernel
theorem d_168_13 : decode (zm_code 168) 13 = .ok (.aload_n 0, 1) := by decide +kernel
theorem d_168_14 : decode (zm_code 168) 14 = .ok (.getfield 20, 3) := by decide +kernel
theorem d_168_17 : decode (zm_code 168) 17 = .ok (.iconst 1, 1) := by decide +kernel
theorem d_168_18 : decode (zm_code 168) 18 = .ok (.if_icmp .ne 14, 3) := by decide +kernel
theorem d_168_21 : decode (zm_code 168) 21 = .ok (.aload_n 0, 1) := by decide +kernel
theorem d_168_22 : decode (zm_code 168) 22 = .ok (.aload_n 0, 1) := by decide +kernel
theorem d_168_23 : decode (zm_code 168) 23 = .ok (.getfield 32, 3) := by decide +kernel
theorem d_168_26 : decode (zm_code 168) 26 = .ok (.invokevirtual 370, 3) := by decide +kernel
theorem d_168_29 : decode (zm_code 168) 29 = .ok (.ifCond .eq 12, 3) := by decide +kernel
theorem d_168_32 : decode (zm_code 168) 32 = .ok (.aload_n 0, 1) := by decide +kernel
theorem d_168_33 : decode (zm_code 168) 33 = .ok (.iconst 1, 1) := by decide +kernel
theorem d_168_34 : decode (zm_code 168) 34 = .ok (.aload_n 0, 1) := by decide +kernel
theorem d_168_35 : decode (zm_code 168) 35 = .ok (.getfield 23, 3) := by decide +kernel
theorem d_168_38 : decode (zm_code 168) 38 = .ok (.invokevirtual 257, 3) := by decide +kernel
theorem d_168_41 : decode (zm_code 168) 41 = .ok (.iconst 0, 1) := by decide +kernel
theorem d_168_42 : decode (zm_code 168) 42 = .ok (.istore_n 1, 1) := by decide +kernel
theorem d_168_43 : decode (zm_code 168) 43 = .ok (.iload_n 1, 1) := by decide +kernel
theorem d_168_44 : decode (zm_code 168) 44 = .ok (.iconst 1, 1) := by decide +kernel
theorem d_168_45 : decode (zm_code 168) 45 = .ok (.if_icmp .gt 38, 3) := by decide +kernel
theorem d_168_48 : decode (zm_code 168) 48 = .ok (.aload_n 0, 1) := by decide +kernel
theorem d_168_49 : decode (zm_code 168) 49 = .ok (.getfield 36, 3) := by decide +kernel
theorem d_168_52 : decode (zm_code 168) 52 = .ok (.ifCond .ne 31, 3) := by decide +kernel
theorem d_168_55 : decode (zm_code 168) 55 = .ok (.aload_n 0, 1) := by decide +kernel
theorem d_168_56 : decode (zm_code 168) 56 = .ok (.iload_n 1, 1) := by decide +kernel
theorem d_168_57 : decode (zm_code 168) 57 = .ok (.aload_n 0, 1) := by decide +kernel
theorem d_168_58 : decode (zm_code 168) 58 = .ok (.getfield 32, 3) := by decide +kernel
theorem d_168_61 : decode (zm_code 168) 61 = .ok (.invokevirtual 373, 3) := by decide +kernel
theorem d_168_64 : decode (zm_code 168) 64 = .ok (.iconst (-1), 1) := by decide +kernel
theorem d_168_65 : decode (zm_code 168) 65 = .ok (.if_icmp .eq 12, 3) := by decide +kernel
theorem d_168_68 : decode (zm_code 168) 68 = .ok (.aload_n 0, 1) := by decide +kernel
theorem d_168_69 : decode (zm_code 168) 69 = .ok (.iconst 2, 1) := by decide +kernel
theorem d_168_70 : decode (zm_code 168) 70 = .ok (.aload_n 0, 1) := by decide +kernel
theorem d_168_71 : decode (zm_code 168) 71 = .ok (.getfield 23, 3) := by decide +kernel
theorem d_168_74 : decode (zm_code 168) 74 = .ok (.invokevirtual 257, 3) := by decide +kernel
theorem d_168_77 : decode (zm_code 168) 77 = .ok (.iinc 1 1, 3) := by decide +kernel
theorem d_168_80 : decode (zm_code 168) 80 = .ok (.goto (-37), 3) := by decide +kernel
theorem d_168_83 : decode (zm_code 168) 83 = .ok (.aload_n 0, 1) := by decide +kernel
theorem d_168_84 : decode (zm_code 168) 84 = .ok (.getfield 32, 3) := by decide +kernel
theorem d_168_87 : decode (zm_code 168) 87 = .ok (.lstore_n 1, 1) := by decide +kernel
theorem d_168_88 : decode (zm_code 168) 88 = .ok (.aload_n 0, 1) := by decide +kernel
theorem d_168_89 : decode (zm_code 168) 89 = .ok (.getfield 36, 3) := by decide +kernel
theorem d_168_92 : decode (zm_code 168) 92 = .ok (.ifCond .ne 7, 3) := by decide +kernel
theorem d_168_95 : decode (zm_code 168) 95 = .ok (.aload_n 0, 1) := by decide +kernel
theorem d_168_96 : decode (zm_code 168) 96 = .ok (.invokevirtual 274, 3) := by decide +kernel
theorem d_168_99 : decode (zm_code 168) 99 = .ok (.lload_n 1, 1) := by decide +kernel
theorem d_168_100 : decode (zm_code 168) 100 = .ok (.lreturn, 1) := by decide +kernel
theorem d_169_0 : decode (zm_code 169) 0 = .ok (.lload_n 1, 1) := by decide +kernel
theorem d_169_1 : decode (zm_code 169) 1 = .ok (.ldc2_w 277, 3) := by decide +kernel
theorem d_169_4 : decode (zm_code 169) 4 = .ok (.lcmp, 1) := by decide +kernel
theorem d_169_5 : decode (zm_code 169) 5 = .ok (.ifCond .eq 35, 3) := by decide +kernel
theorem d_169_8 : decode (zm_code 169) 8 = .ok (.lload_n 1, 1) := by decide +kernel
theorem d_169_9 : decode (zm_code 169) 9 = .ok (.ldc2_w 279, 3) := by decide +kernel
theorem d_169_12 : decode (zm_code 169) 12 = .ok (.lcmp, 1) := by decide +kernel
theorem d_169_13 : decode (zm_code 169) 13 = .ok (.ifCond .eq 27, 3) := by decide +kernel
theorem d_169_16 : decode (zm_code 169) 16 = .ok (.lload_n 1, 1) := by decide +kernel
theorem d_169_17 : decode (zm_code 169) 17 = .ok (.ldc2_w 281, 3) := by decide +kernel
theorem d_169_20 : decode (zm_code 169) 20 = .ok (.lcmp, 1) := by decide +kernel
theorem d_169_21 : decode (zm_code 169) 21 = .ok (.ifCond .eq 19, 3) := by decide +kernel
theorem d_169_24 : decode (zm_code 169) 24 = .ok (.lload_n 1, 1) := by decide +kernel
theorem d_169_25 : decode (zm_code 169) 25 = .ok (.ldc2_w 283, 3) := by decide +kernel
theorem d_169_28 : decode (zm_code 169) 28 = .ok (.lcmp, 1) := by decide +kernel
theorem d_169_29 : decode (zm_code 169) 29 = .ok (.ifCond .eq 11, 3) := by decide +kernel
theorem d_169_32 : decode (zm_code 169) 32 = .ok (.lload_n 1, 1) := by decide +kernel
theorem d_169_33 : decode (zm_code 169) 33 = .ok (.ldc2_w 285, 3) := by decide +kernel
theorem d_169_36 : decode (zm_code 169) 36 = .ok (.lcmp, 1) := by decide +kernel
theorem d_169_37 : decode (zm_code 169) 37 = .ok (.ifCond .ne 5, 3) := by decide +kernel
theorem d_169_40 : decode (zm_code 169) 40 = .ok (.iconst 1, 1) := by decide +kernel
theorem d_169_41 : decode (zm_code 169) 41 = .ok (.ireturn, 1) := by decide +kernel
theorem d_169_42 : decode (zm_code 169) 42 = .ok (.lload_n 1, 1) := by decide +kernel
theorem d_169_43 : decode (zm_code 169) 43 = .ok (.ldc2_w 287, 3) := by decide +kernel
theorem d_169_46 : decode (zm_code 169) 46 = .ok (.lcmp, 1) := by decide +kernel
theorem d_169_47 : decode (zm_code 169) 47 = .ok (.ifCond .eq 35, 3) := by decide +kernel
theorem d_169_50 : decode (zm_code 169) 50 = .ok (.lload_n 1, 1) := by decide +kernel
theorem d_169_51 : decode (zm_code 169) 51 = .ok (.ldc2_w 289, 3) := by decide +kernel
theorem d_169_54 : decode (zm_code 169) 54 = .ok (.lcmp, 1) := by decide +kernel
theorem d_169_55 : decode (zm_code 169) 55 = .ok (.ifCond .eq 27, 3) := by decide +kernel
theorem d_169_58 : decode (zm_code 169) 58 = .ok (.lload_n 1, 1) := by decide +kernel
theorem d_169_59 : decode (zm_code 169) 59 = .ok (.ldc2_w 291, 3) := by decide +kernel
theorem d_169_62 : decode (zm_code 169) 62 = .ok (.lcmp, 1) := by decide +kernel
theorem d_169_63 : decode (zm_code 169) 63 = .ok (.ifCond .eq 19, 3) := by decide +kernel
theorem d_169_66 : decode (zm_code 169) 66 = .ok (.lload_n 1, 1) := by decide +kernel
theorem d_169_67 : decode (zm_code 169) 67 = .ok (.ldc2_w 293, 3) := by decide +kernel
theorem d_169_70 : decode (zm_code 169) 70 = .ok (.lcmp, 1) := by decide +kernel
theorem d_169_71 : decode (zm_code 169) 71 = .ok (.ifCond .eq 11, 3) := by decide +kernel
theorem d_169_74 : decode (zm_code 169) 74 = .ok (.lload_n 1, 1) := by decide +kernel
theorem d_169_75 : decode (zm_code 169) 75 = .ok (.ldc2_w 295, 3) := by decide +kernel
theorem d_169_78 : decode (zm_code 169) 78 = .ok (.lcmp, 1) := by decide +kernel
theorem d_169_79 : decode (zm_code 169) 79 = .ok (.ifCond .ne 5, 3) := by decide +kernel
theorem d_169_82 : decode (zm_code 169) 82 = .ok (.iconst 1, 1) := by decide +kernel
theorem d_169_83 : decode (zm_code 169) 83 = .ok (.ireturn, 1) := by decide +kernel
theorem d_169_84 : decode (zm_code 169) 84 = .ok (.lload_n 1, 1) := by decide +kernel
theorem d_169_85 : decode (zm_code 169) 85 = .ok (.ldc2_w 297, 3) := by decide +kernel
theorem d_169_88 : decode (zm_code 169) 88 = .ok (.lcmp, 1) := by decide +kernel
theorem d_169_89 : decode (zm_code 169) 89 = .ok (.ifCond .eq 35, 3) := by decide +kernel
theorem d_169_92 : decode (zm_code 169) 92 = .ok (.lload_n 1, 1) := by decide +kernel
theorem d_169_93 : decode (zm_code 169) 93 = .ok (.ldc2_w 299, 3) := by decide +kernel
theorem d_169_96 : decode (zm_code 169) 96 = .ok (.lcmp, 1) := by decide +kernel
theorem d_169_97 : decode (zm_code 169) 97 = .ok (.ifCond .eq 27, 3) := by decide +kernel
theorem d_169_100 : decode (zm_code 169) 100 = .ok (.lload_n 1, 1) := by decide +kernel
theorem d_169_101 : decode (zm_code 169) 101 = .ok (.ldc2_w 301, 3) := by decide +kernel
theorem d_169_104 : decode (zm_code 169) 104 = .ok (.lcmp, 1) := by decide +kernel
theorem d_169_105 : decode (zm_code 169) 105 = .ok (.ifCond .eq 19, 3) := by decide +kernel
theorem d_169_108 : decode (zm_code 169) 108 = .ok (.lload_n 1, 1) := by decide +kernel
theorem d_169_109 : decode (zm_code 169) 109 = .ok (.ldc2_w 303, 3) := by decide +kernel
theorem d_169_112 : decode (zm_code 169) 112 = .ok (.lcmp, 1) := by decide +kernel
theorem d_169_113 : decode (zm_code 169) 113 = .ok (.ifCond .eq 11, 3) := by decide +kernel
theorem d_169_116 : decode (zm_code 169) 116 = .ok (.lload_n 1, 1) := by decide +kernel
theorem d_169_117 : decode (zm_code 169) 117 = .ok (.ldc2_w 305, 3) := by decide +kernel
theorem d_169_120 : decode (zm_code 169) 120 = .ok (.lcmp, 1) := by decide +kernel
theorem d_169_121 : decode (zm_code 169) 121 = .ok (.ifCond .ne 5, 3) := by decide +kernel
theorem d_169_124 : decode (zm_code 169) 124 = .ok (.iconst 1, 1) := by decide +kernel
theorem d_169_125 : decode (zm_code 169) 125 = .ok (.ireturn, 1) := by decide +kernel
theorem d_169_126 : decode (zm_code 169) 126 = .ok (.lload_n 1, 1) := by decide +kernel
theorem d_169_127 : decode (zm_code 169) 127 = .ok (.ldc2_w 307, 3) := by decide +kernel
theorem d_169_130 : decode (zm_code 169) 130 = .ok (.lcmp, 1) := by decide +kernel
theorem d_169_131 : decode (zm_code 169) 131 = .ok (.ifCond .eq 35, 3) := by decide +kernel
theorem d_169_134 : decode (zm_code 169) 134 = .ok (.lload_n 1, 1) := by decide +kernel
theorem d_169_135 : decode (zm_code 169) 135 = .ok (.ldc2_w 309, 3) := by decide +kernel
theorem d_169_138 : decode (zm_code 169) 138 = .ok (.lcmp, 1) := by decide +kernel
theorem d_169_139 : decode (zm_code 169) 139 = .ok (.ifCond .eq 27, 3) := by decide +kernel
theorem d_169_142 : decode (zm_code 169) 142 = .ok (.lload_n 1, 1) := by decide +kernel
theorem d_169_143 : decode (zm_code 169) 143 = .ok (.ldc2_w 311, 3) := by decide +kernel
theorem d_169_146 : decode (zm_code 169) 146 = .ok (.lcmp, 1) := by decide +kernel
theorem d_169_147 : decode (zm_code 169) 147 = .ok (.ifCond .eq 19, 3) := by decide +kernel
theorem d_169_150 : decode (zm_code 169) 150 = .ok (.lload_n 1, 1) := by decide +kernel
theorem d_169_151 : decode (zm_code 169) 151 = .ok (.ldc2_w 313, 3) := by decide +kernel
theorem d_169_154 : decode (zm_code 169) 154 = .ok (.lcmp, 1) := by decide +kernel
theorem d_169_155 : decode (zm_code 169) 155 = .ok (.ifCond .eq 11, 3) := by decide +kernel
theorem d_169_158 : decode (zm_code 169) 158 = .ok (.lload_n 1, 1) := by decide +kernel
theorem d_169_159 : decode (zm_code 169) 159 = .ok (.ldc2_w 315, 3) := by decide +kernel
theorem d_169_162 : decode (zm_code 169) 162 = .ok (.lcmp, 1) := by decide +kernel
theorem d_169_163 : decode (zm_code 169) 163 = .ok (.ifCond .ne 5, 3) := by decide +kernel
theorem d_169_166 : decode (zm_code 169) 166 = .ok (.iconst 1, 1) := by decide +kernel
theorem d_169_167 : decode (zm_code 169) 167 = .ok (.ireturn, 1) := by decide +kernel
theorem d_169_168 : decode (zm_code 169) 168 = .ok (.lload_n 1, 1) := by decide +kernel
theorem d_169_169 : decode (zm_code 169) 169 = .ok (.ldc2_w 317, 3) := by decide +kernel
theorem d_169_172 : decode (zm_code 169) 172 = .ok (.lcmp, 1) := by decide +kernel
theorem d_169_173 : decode (zm_code 169) 173 = .ok (.ifCond .eq 35, 3) := by decide +kernel
theorem d_169_176 : decode (zm_code 169) 176 = .ok (.lload_n 1, 1) := by decide +kernel
theorem d_169_177 : decode (zm_code 169) 177 = .ok (.ldc2_w 319, 3) := by decide +kernel
theorem d_169_180 : decode (zm_code 169) 180 = .ok (.lcmp, 1) := by decide +kernel
theorem d_169_181 : decode (zm_code 169) 181 = .ok (.ifCond .eq 27, 3) := by decide +kernel
theorem d_169_184 : decode (zm_code 169) 184 = .ok (.lload_n 1, 1) := by decide +kernel
theorem d_169_185 : decode (zm_code 169) 185 = .ok (.ldc2_w 321, 3) := by decide +kernel
theorem d_169_188 : decode (zm_code 169) 188 = .ok (.lcmp, 1) := by decide +kernel
theorem d_169_189 : decode (zm_code 169) 189 = .ok (.ifCond .eq 19, 3) := by decide +kernel
theorem d_169_192 : decode (zm_code 169) 192 = .ok (.lload_n 1, 1) := by decide +kernel
theorem d_169_193 : decode (zm_code 169) 193 = .ok (.ldc2_w 323, 3) := by decide +kernel
theorem d_169_196 : decode (zm_code 169) 196 = .ok (.lcmp, 1) := by decide +kernel
theorem d_169_197 : decode (zm_code 169) 197 = .ok (.ifCond .eq 11, 3) := by decide +kernel
theorem d_169_200 : decode (zm_code 169) 200 = .ok (.lload_n 1, 1) := by decide +kernel
theorem d_169_201 : decode (zm_code 169) 201 = .ok (.ldc2_w 325, 3) := by decide +kernel
theorem d_169_204 : decode (zm_code 169) 204 = .ok (.lcmp, 1) := by decide +kernel
theorem d_169_205 : decode (zm_code 169) 205 = .ok (.ifCond .ne 5, 3) := by decide +kernel
theorem d_169_208 : decode (zm_code 169) 208 = .ok (.iconst 1, 1) := by decide +kernel
theorem d_169_209 : decode (zm_code 169) 209 = .ok (.ireturn, 1) := by decide +kernel
theorem d_169_210 : decode (zm_code 169) 210 = .ok (.iconst 0, 1) := by decide +kernel
theorem d_169_211 : decode (zm_code 169) 211 = .ok (.ireturn, 1) := by decide +kernel
theorem d_170_0 : decode (zm_code 170) 0 = .ok (.iconst 0, 1) := by decide +kernel
theorem d_170_1 : decode (zm_code 170) 1 = .ok (.istore 4, 2) := by decide +kernel
theorem d_170_3 : decode (zm_code 170) 3 = .ok (.iload 4, 2) := by decide +kernel
theorem d_170_5 : decode (zm_code 170) 5 = .ok (.aload_n 0, 1) := by decide +kernel
theorem d_170_6 : decode (zm_code 170) 6 = .ok (.aload_n 0, 1) := by decide +kernel
theorem d_170_7 : decode (zm_code 170) 7 = .ok (.getfield 115, 3) := by decide +kernel
theorem d_170_10 : decode (zm_code 170) 10 = .ok (.iload_n 1, 1) := by decide +kernel
theorem d_170_11 : decode (zm_code 170) 11 = .ok (.invokevirtual 327, 3) := by decide +kernel
theorem d_170_14 : decode (zm_code 170) 14 = .ok (.if_icmp .ge 28, 3) := by decide +kernel
theorem d_170_17 : decode (zm_code 170) 17 = .ok (.aload_n 0, 1) := by decide +kernel
theorem d_170_18 : decode (zm_code 170) 18 = .ok (.aload_n 0, 1) := by decide +kernel
theorem d_170_19 : decode (zm_code 170) 19 = .ok (.getfield 115, 3) := by decide +kernel
theorem d_170_22 : decode (zm_code 170) 22 = .ok (.iload_n 1, 1) := by decide +kernel
theorem d_170_23 : decode (zm_code 170) 23 = .ok (.iload 4, 2) := by decide +kernel
theorem d_170_25 : decode (zm_code 170) 25 = .ok (.invokevirtual 331, 3) := by decide +kernel
theorem d_170_28 : decode (zm_code 170) 28 = .ok (.lload_n 2, 1) := by decide +kernel
theorem d_170_29 : decode (zm_code 170) 29 = .ok (.lcmp, 1) := by decide +kernel
theorem d_170_30 : decode (zm_code 170) 30 = .ok (.ifCond .ne 6, 3) := by decide +kernel
theorem d_170_33 : decode (zm_code 170) 33 = .ok (.iload 4, 2) := by decide +kernel
theorem d_170_35 : decode (zm_code 170) 35 = .ok (.ireturn, 1) := by decide +kernel
theorem d_170_36 : decode (zm_code 170) 36 = .ok (.iinc 4 1, 3) := by decide +kernel
theorem d_170_39 : decode (zm_code 170) 39 = .ok (.goto (-36), 3) := by decide +kernel
theorem d_170_42 : decode (zm_code 170) 42 = .ok (.iconst (-1), 1) := by decide +kernel
theorem d_170_43 : decode (zm_code 170) 43 = .ok (.ireturn, 1) := by decide +kernel
theorem d_171_0 : decode (zm_code 171) 0 = .ok (.iload_n 2, 1) := by decide +kernel
theorem d_171_1 : decode (zm_code 171) 1 = .ok (.ifCond .ne 12, 3) := by decide +kernel
theorem d_171_4 : decode (zm_code 171) 4 = .ok (.aload_n 0, 1) := by decide +kernel
theorem d_171_5 : decode (zm_code 171) 5 = .ok (.getfield 54, 3) := by decide +kernel
theorem d_171_8 : decode (zm_code 171) 8 = .ok (.iload_n 1, 1) := by decide +kernel
theorem d_171_9 : decode (zm_code 171) 9 = .ok (.iaload, 1) := by decide +kernel
theorem d_171_10 : decode (zm_code 171) 10 = .ok (.goto 9, 3) := by decide +kernel
theorem d_171_13 : decode (zm_code 171) 13 = .ok (.aload_n 0, 1) := by decide +kernel
theorem d_171_14 : decode (zm_code 171) 14 = .ok (.getfield 69, 3) := by decide +kernel
theorem d_171_17 : decode (zm_code 171) 17 = .ok (.iload_n 1, 1) := by decide +kernel
theorem d_171_18 : decode (zm_code 171) 18 = .ok (.iaload, 1) := by decide +kernel
theorem d_171_19 : decode (zm_code 171) 19 = .ok (.ireturn, 1) := by decide +kernel
theorem d_172_0 : decode (zm_code 172) 0 = .ok (.iload_n 2, 1) := by decide +kernel
theorem d_172_1 : decode (zm_code 172) 1 = .ok (.ifCond .ne 17, 3) := by decide +kernel
theorem d_172_4 : decode (zm_code 172) 4 = .ok (.aload_n 0, 1) := by decide +kernel
theorem d_172_5 : decode (zm_code 172) 5 = .ok (.getfield 105, 3) := by decide +kernel
theorem d_172_8 : decode (zm_code 172) 8 = .ok (.bipush 8, 2) := by decide +kernel
theorem d_172_10 : decode (zm_code 172) 10 = .ok (.iload_n 1, 1) := by decide +kernel
theorem d_172_11 : decode (zm_code 172) 11 = .ok (.imul, 1) := by decide +kernel
theorem d_172_12 : decode (zm_code 172) 12 = .ok (.iload_n 3, 1) := by decide +kernel
theorem d_172_13 : decode (zm_code 172) 13 = .ok (.iadd, 1) := by decide +kernel
theorem d_172_14 : decode (zm_code 172) 14 = .ok (.laload, 1) := by decide +kernel
theorem d_172_15 : decode (zm_code 172) 15 = .ok (.goto 14, 3) := by decide +kernel
theorem d_172_18 : decode (zm_code 172) 18 = .ok (.aload_n 0, 1) := by decide +kernel
theorem d_172_19 : decode (zm_code 172) 19 = .ok (.getfield 109, 3) := by decide +kernel
theorem d_172_22 : decode (zm_code 172) 22 = .ok (.bipush 8, 2) := by decide +kernel
theorem d_172_24 : decode (zm_code 172) 24 = .ok (.iload_n 1, 1) := by decide +kernel
theorem d_172_25 : decode (zm_code 172) 25 = .ok (.imul, 1) := by decide +kernel
theorem d_172_26 : decode (zm_code 172) 26 = .ok (.iload_n 3, 1) := by decide +kernel
theorem d_172_27 : decode (zm_code 172) 27 = .ok (.iadd, 1) := by decide +kernel
theorem d_172_28 : decode (zm_code 172) 28 = .ok (.laload, 1) := by decide +kernel
theorem d_172_29 : decode (zm_code 172) 29 = .ok (.lreturn, 1) := by decide +kernel
theorem d_173_0 : decode (zm_code 173) 0 = .ok (.aload_n 0, 1) := by decide +kernel
theorem d_173_1 : decode (zm_code 173) 1 = .ok (.invokevirtual 268, 3) := by decide +kernel
theorem d_173_4 : decode (zm_code 173) 4 = .ok (.aload_n 0, 1) := by decide +kernel
theorem d_173_5 : decode (zm_code 173) 5 = .ok (.getfield 36, 3) := by decide +kernel
theorem d_173_8 : decode (zm_code 173) 8 = .ok (.ifCond .le 4, 3) := by decide +kernel
theorem d_173_11 : decode (zm_code 173) 11 = .ok (.return_, 1) := by decide +kernel
theorem d_173_12 : decode (zm_code 173) 12 = .ok (.aload_n 0, 1) := by decide +kernel
theorem d_173_13 : decode (zm_code 173) 13 = .ok (.lload_n 1, 1) := by decide +kernel
theorem d_173_14 : decode (zm_code 173) 14 = .ok (.invokevirtual 351, 3) := by decide +kernel
theorem d_173_17 : decode (zm_code 173) 17 = .ok (.ifCond .ne 12, 3) := by decide +kernel
theorem d_173_20 : decode (zm_code 173) 20 = .ok (.aload_n 0, 1) := by decide +kernel
theorem d_173_21 : decode (zm_code 173) 21 = .ok (.iconst 1, 1) := by decide +kernel
theorem d_173_22 : decode (zm_code 173) 22 = .ok (.aload_n 0, 1) := by decide +kernel
theorem d_173_23 : decode (zm_code 173) 23 = .ok (.getfield 23, 3) := by decide +kernel
theorem d_173_26 : decode (zm_code 173) 26 = .ok (.invokevirtual 257, 3) := by decide +kernel
theorem d_173_29 : decode (zm_code 173) 29 = .ok (.aload_n 0, 1) := by decide +kernel
theorem d_173_30 : decode (zm_code 173) 30 = .ok (.getfield 36, 3) := by decide +kernel
theorem d_173_33 : decode (zm_code 173) 33 = .ok (.ifCond .ne 7, 3) := by decide +kernel
theorem d_173_36 : decode (zm_code 173) 36 = .ok (.aload_n 0, 1) := by decide +kernel
theorem d_173_37 : decode (zm_code 173) 37 = .ok (.invokevirtual 274, 3) := by decide +kernel
theorem d_173_40 : decode (zm_code 173) 40 = .ok (.return_, 1) := by decide +kernel
theorem d_174_0 : decode (zm_code 174) 0 = .ok (.aload_n 0, 1) := by decide +kernel
theorem d_174_1 : decode (zm_code 174) 1 = .ok (.invokevirtual 268, 3) := by decide +kernel
theorem d_174_4 : decode (zm_code 174) 4 = .ok (.aload_n 0, 1) := by decide +kernel
theorem d_174_5 : decode (zm_code 174) 5 = .ok (.getfield 36, 3) := by decide +kernel
theorem d_174_8 : decode (zm_code 174) 8 = .ok (.ifCond .le 5, 3) := by decide +kernel
theorem d_174_11 : decode (zm_code 174) 11 = .ok (.iconst 0, 1) := by decide +kernel
theorem d_174_12 : decode (zm_code 174) 12 = .ok (.ireturn, 1) := by decide +kernel
theorem d_174_13 : decode (zm_code 174) 13 = .ok (.aload_n 0, 1) := by decide +kernel
theorem d_174_14 : decode (zm_code 174) 14 = .ok (.getfield 20, 3) := by decide +kernel
theorem d_174_17 : decode (zm_code 174) 17 = .ok (.iconst 2, 1) := by decide +kernel
theorem d_174_18 : decode (zm_code 174) 18 = .ok (.if_icmp .eq 12, 3) := by decide +kernel
theorem d_174_21 : decode (zm_code 174) 21 = .ok (.aload_n 0, 1) := by decide +kernel
theorem d_174_22 : decode (zm_code 174) 22 = .ok (.iconst 1, 1) := by decide +kernel
theorem d_174_23 : decode (zm_code 174) 23 = .ok (.aload_n 0, 1) := by decide +kernel
theorem d_174_24 : decode (zm_code 174) 24 = .ok (.getfield 23, 3) := by decide +kernel
theorem d_174_27 : decode (zm_code 174) 27 = .ok (.invokevirtual 257, 3) := by decide +kernel
theorem d_174_30 : decode (zm_code 174) 30 = .ok (.aload_n 0, 1) := by decide +kernel
theorem d_174_31 : decode (zm_code 174) 31 = .ok (.getfield 36, 3) := by decide +kernel
theorem d_174_34 : decode (zm_code 174) 34 = .ok (.ifCond .ne 24, 3) := by decide +kernel
theorem d_174_37 : decode (zm_code 174) 37 = .ok (.aload_n 0, 1) := by decide +kernel
theorem d_174_38 : decode (zm_code 174) 38 = .ok (.getfield 29, 3) := by decide +kernel
theorem d_174_41 : decode (zm_code 174) 41 = .ok (.iload_n 1, 1) := by decide +kernel
theorem d_174_42 : decode (zm_code 174) 42 = .ok (.iload_n 2, 1) := by decide +kernel
theorem d_174_43 : decode (zm_code 174) 43 = .ok (.invokestatic 335, 3) := by decide +kernel
theorem d_174_46 : decode (zm_code 174) 46 = .ok (.ifCond .ne 12, 3) := by decide +kernel
theorem d_174_49 : decode (zm_code 174) 49 = .ok (.aload_n 0, 1) := by decide +kernel
theorem d_174_50 : decode (zm_code 174) 50 = .ok (.iconst 4, 1) := by decide +kernel
theorem d_174_51 : decode (zm_code 174) 51 = .ok (.aload_n 0, 1) := by decide +kernel
theorem d_174_52 : decode (zm_code 174) 52 = .ok (.getfield 23, 3) := by decide +kernel
theorem d_174_55 : decode (zm_code 174) 55 = .ok (.invokevirtual 257, 3) := by decide +kernel
theorem d_174_58 : decode (zm_code 174) 58 = .ok (.aload_n 0, 1) := by decide +kernel
theorem d_174_59 : decode (zm_code 174) 59 = .ok (.getfield 29, 3) := by decide +kernel
theorem d_174_62 : decode (zm_code 174) 62 = .ok (.istore_n 3, 1) := by decide +kernel
theorem d_174_63 : decode (zm_code 174) 63 = .ok (.aload_n 0, 1) := by decide +kernel
theorem d_174_64 : decode (zm_code 174) 64 = .ok (.getfield 36, 3) := by decide +kernel
theorem d_174_67 : decode (zm_code 174) 67 = .ok (.ifCond .ne 7, 3) := by decide +kernel
theorem d_174_70 : decode (zm_code 174) 70 = .ok (.aload_n 0, 1) := by decide +kernel
theorem d_174_71 : decode (zm_code 174) 71 = .ok (.invokevirtual 274, 3) := by decide +kernel
theorem d_174_74 : decode (zm_code 174) 74 = .ok (.iload_n 3, 1) := by decide +kernel
theorem d_174_75 : decode (zm_code 174) 75 = .ok (.ireturn, 1) := by decide +kernel
theorem d_175_0 : decode (zm_code 175) 0 = .ok (.iload_n 0, 1) := by decide +kernel
theorem d_175_1 : decode (zm_code 175) 1 = .ok (.iload_n 1, 1) := by decide +kernel
theorem d_175_2 : decode (zm_code 175) 2 = .ok (.if_icmp .lt 12, 3) := by decide +kernel
theorem d_175_5 : decode (zm_code 175) 5 = .ok (.iload_n 0, 1) := by decide +kernel
theorem d_175_6 : decode (zm_code 175) 6 = .ok (.iload_n 2, 1) := by decide +kernel
theorem d_175_7 : decode (zm_code 175) 7 = .ok (.if_icmp .gt 7, 3) := by decide +kernel
theorem d_175_10 : decode (zm_code 175) 10 = .ok (.iconst 1, 1) := by decide +kernel
theorem d_175_11 : decode (zm_code 175) 11 = .ok (.goto 4, 3) := by decide +kernel
theorem d_175_14 : decode (zm_code 175) 14 = .ok (.iconst 0, 1) := by decide +kernel
theorem d_175_15 : decode (zm_code 175) 15 = .ok (.ireturn, 1) := by decide +kernel
theorem d_176_0 : decode (zm_code 176) 0 = .ok (.aload_n 0, 1) := by decide +kernel
theorem d_176_1 : decode (zm_code 176) 1 = .ok (.aload_n 0, 1) := by decide +kernel
theorem d_176_2 : decode (zm_code 176) 2 = .ok (.getfield 63, 3) := by decide +kernel
theorem d_176_5 : decode (zm_code 176) 5 = .ok (.aload_n 0, 1) := by decide +kernel
theorem d_176_6 : decode (zm_code 176) 6 = .ok (.getfield 115, 3) := by decide +kernel
theorem d_176_9 : decode (zm_code 176) 9 = .ok (.iaload, 1) := by decide +kernel
theorem d_176_10 : decode (zm_code 176) 10 = .ok (.iconst 5, 1) := by decide +kernel
theorem d_176_11 : decode (zm_code 176) 11 = .ok (.if_icmp .ne 7, 3) := by decide +kernel
theorem d_176_14 : decode (zm_code 176) 14 = .ok (.iconst 1, 1) := by decide +kernel
theorem d_176_15 : decode (zm_code 176) 15 = .ok (.goto 4, 3) := by decide +kernel
theorem d_176_18 : decode (zm_code 176) 18 = .ok (.iconst 0, 1) := by decide +kernel
theorem d_176_19 : decode (zm_code 176) 19 = .ok (.invokevirtual 380, 3) := by decide +kernel
theorem d_176_22 : decode (zm_code 176) 22 = .ok (.ifCond .ne 4, 3) := by decide +kernel
theorem d_176_25 : decode (zm_code 176) 25 = .ok (.return_, 1) := by decide +kernel
theorem d_176_26 : decode (zm_code 176) 26 = .ok (.bipush 8, 2) := by decide +kernel
theorem d_176_28 : decode (zm_code 176) 28 = .ok (.iconst 5, 1) := by decide +kernel
theorem d_176_29 : decode (zm_code 176) 29 = .ok (.aload_n 0, 1) := by decide +kernel
theorem d_176_30 : decode (zm_code 176) 30 = .ok (.getfield 115, 3) := by decide +kernel
theorem d_176_33 : decode (zm_code 176) 33 = .ok (.imul, 1) := by decide +kernel
theorem d_176_34 : decode (zm_code 176) 34 = .ok (.aload_n 0, 1) := by decide +kernel
theorem d_176_35 : decode (zm_code 176) 35 = .ok (.getfield 63, 3) := by decide +kernel
theorem d_176_38 : decode (zm_code 176) 38 = .ok (.aload_n 0, 1) := by decide +kernel
theorem d_176_39 : decode (zm_code 176) 39 = .ok (.getfield 115, 3) := by decide +kernel
theorem d_176_42 : decode (zm_code 176) 42 = .ok (.iaload, 1) := by decide +kernel
theorem d_176_43 : decode (zm_code 176) 43 = .ok (.iadd, 1) := by decide +kernel
theorem d_176_44 : decode (zm_code 176) 44 = .ok (.imul, 1) := by decide +kernel
theorem d_176_45 : decode (zm_code 176) 45 = .ok (.istore_n 1, 1) := by decide +kernel
theorem d_176_46 : decode (zm_code 176) 46 = .ok (.iconst 0, 1) := by decide +kernel
theorem d_176_47 : decode (zm_code 176) 47 = .ok (.istore_n 2, 1) := by decide +kernel
theorem d_176_48 : decode (zm_code 176) 48 = .ok (.iload_n 2, 1) := by decide +kernel
theorem d_176_49 : decode (zm_code 176) 49 = .ok (.bipush 8, 2) := by decide +kernel
theorem d_176_51 : decode (zm_code 176) 51 = .ok (.if_icmp .ge 18, 3) := by decide +kernel
theorem d_176_54 : decode (zm_code 176) 54 = .ok (.aload_n 0, 1) := by decide +kernel
theorem d_176_55 : decode (zm_code 176) 55 = .ok (.getfield 66, 3) := by decide +kernel
theorem d_176_58 : decode (zm_code 176) 58 = .ok (.iload_n 1, 1) := by decide +kernel
theorem d_176_59 : decode (zm_code 176) 59 = .ok (.iload_n 2, 1) := by decide +kernel
theorem d_176_60 : decode (zm_code 176) 60 = .ok (.iadd, 1) := by decide +kernel
theorem d_176_61 : decode (zm_code 176) 61 = .ok (.iconst 0, 1) := by decide +kernel
theorem d_176_62 : decode (zm_code 176) 62 = .ok (.iastore, 1) := by decide +kernel
theorem d_176_63 : decode (zm_code 176) 63 = .ok (.iinc 2 1, 3) := by decide +kernel
theorem d_176_66 : decode (zm_code 176) 66 = .ok (.goto (-18), 3) := by decide +kernel
theorem d_176_69 : decode (zm_code 176) 69 = .ok (.iconst 1, 1) := by decide +kernel
theorem d_176_70 : decode (zm_code 176) 70 = .ok (.istore_n 2, 1) := by decide +kernel
theorem d_176_71 : decode (zm_code 176) 71 = .ok (.iload_n 2, 1) := by decide +kernel
theorem d_176_72 : decode (zm_code 176) 72 = .ok (.ifCond .eq 112, 3) := by decide +kernel
theorem d_176_75 : decode (zm_code 176) 75 = .ok (.aload_n 0, 1) := by decide +kernel
theorem d_176_76 : decode (zm_code 176) 76 = .ok (.iconst 0, 1) := by decide +kernel
theorem d_176_77 : decode (zm_code 176) 77 = .ok (.invokevirtual 377, 3) := by decide +kernel
theorem d_176_80 : decode (zm_code 176) 80 = .ok (.istore_n 3, 1) := by decide +kernel
theorem d_176_81 : decode (zm_code 176) 81 = .ok (.aload_n 0, 1) := by decide +kernel
theorem d_176_82 : decode (zm_code 176) 82 = .ok (.getfield 36, 3) := by decide +kernel
theorem d_176_85 : decode (zm_code 176) 85 = .ok (.ifCond .ne 23, 3) := by decide +kernel
theorem d_176_88 : decode (zm_code 176) 88 = .ok (.aload_n 0, 1) := by decide +kernel
theorem d_176_89 : decode (zm_code 176) 89 = .ok (.getfield 66, 3) := by decide +kernel
theorem d_176_92 : decode (zm_code 176) 92 = .ok (.iload_n 1, 1) := by decide +kernel
theorem d_176_93 : decode (zm_code 176) 93 = .ok (.iload_n 3, 1) := by decide +kernel
theorem d_176_94 : decode (zm_code 176) 94 = .ok (.iadd, 1) := by decide +kernel
theorem d_176_95 : decode (zm_code 176) 95 = .ok (.iaload, 1) := by decide +kernel
theorem d_176_96 : decode (zm_code 176) 96 = .ok (.ifCond .le 12, 3) := by decide +kernel
theorem d_176_99 : decode (zm_code 176) 99 = .ok (.aload_n 0, 1) := by decide +kernel
theorem d_176_100 : decode (zm_code 176) 100 = .ok (.iconst 3, 1) := by decide +kernel
theorem d_176_101 : decode (zm_code 176) 101 = .ok (.aload_n 0, 1) := by decide +kernel
theorem d_176_102 : decode (zm_code 176) 102 = .ok (.getfield 23, 3) := by decide +kernel
theorem d_176_105 : decode (zm_code 176) 105 = .ok (.invokevirtual 257, 3) := by decide +kernel
theorem d_176_108 : decode (zm_code 176) 108 = .ok (.aload_n 0, 1) := by decide +kernel
theorem d_176_109 : decode (zm_code 176) 109 = .ok (.getfield 36, 3) := by decide +kernel
theorem d_176_112 : decode (zm_code 176) 112 = .ok (.ifCond .ne 7, 3) := by decide +kernel
theorem d_176_115 : decode (zm_code 176) 115 = .ok (.aload_n 0, 1) := by decide +kernel
theorem d_176_116 : decode (zm_code 176) 116 = .ok (.invokevirtual 274, 3) := by decide +kernel
theorem d_176_119 : decode (zm_code 176) 119 = .ok (.aload_n 0, 1) := by decide +kernel
theorem d_176_120 : decode (zm_code 176) 120 = .ok (.iconst 1, 1) := by decide +kernel
theorem d_176_121 : decode (zm_code 176) 121 = .ok (.bipush 30, 2) := by decide +kernel
theorem d_176_123 : decode (zm_code 176) 123 = .ok (.invokevirtual 392, 3) := by decide +kernel
theorem d_176_126 : decode (zm_code 176) 126 = .ok (.istore 4, 2) := by decide +kernel
theorem d_176_128 : decode (zm_code 176) 128 = .ok (.aload_n 0, 1) := by decide +kernel
theorem d_176_129 : decode (zm_code 176) 129 = .ok (.getfield 36, 3) := by decide +kernel
theorem d_176_132 : decode (zm_code 176) 132 = .ok (.ifCond .ne 13, 3) := by decide +kernel
theorem d_176_135 : decode (zm_code 176) 135 = .ok (.aload_n 0, 1) := by decide +kernel
theorem d_176_136 : decode (zm_code 176) 136 = .ok (.getfield 66, 3) := by decide +kernel
theorem d_176_139 : decode (zm_code 176) 139 = .ok (.iload_n 1, 1) := by decide +kernel
theorem d_176_140 : decode (zm_code 176) 140 = .ok (.iload_n 3, 1) := by decide +kernel
theorem d_176_141 : decode (zm_code 176) 141 = .ok (.iadd, 1) := by decide +kernel
theorem d_176_142 : decode (zm_code 176) 142 = .ok (.iload 4, 2) := by decide +kernel
theorem d_176_144 : decode (zm_code 176) 144 = .ok (.iastore, 1) := by decide +kernel
theorem d_176_145 : decode (zm_code 176) 145 = .ok (.aload_n 0, 1) := by decide +kernel
theorem d_176_146 : decode (zm_code 176) 146 = .ok (.invokevirtual 268, 3) := by decide +kernel
theorem d_176_149 : decode (zm_code 176) 149 = .ok (.aload_n 0, 1) := by decide +kernel
theorem d_176_150 : decode (zm_code 176) 150 = .ok (.getfield 36, 3) := by decide +kernel
theorem d_176_153 : decode (zm_code 176) 153 = .ok (.ifCond .ne 26, 3) := by decide +kernel
theorem d_176_156 : decode (zm_code 176) 156 = .ok (.aload_n 0, 1) := by decide +kernel
theorem d_176_157 : decode (zm_code 176) 157 = .ok (.getfield 20, 3) := by decide +kernel
theorem d_176_160 : decode (zm_code 176) 160 = .ok (.iconst 1, 1) := by decide +kernel
theorem d_176_161 : decode (zm_code 176) 161 = .ok (.if_icmp .ne 18, 3) := by decide +kernel
theorem d_176_164 : decode (zm_code 176) 164 = .ok (.aload_n 0, 1) := by decide +kernel
theorem d_176_165 : decode (zm_code 176) 165 = .ok (.aload_n 0, 1) := by decide +kernel
theorem d_176_166 : decode (zm_code 176) 166 = .ok (.getfield 32, 3) := by decide +kernel
theorem d_176_169 : decode (zm_code 176) 169 = .ok (.invokevirtual 370, 3) := by decide +kernel
theorem d_176_172 : decode (zm_code 176) 172 = .ok (.ifCond .ne 7, 3) := by decide +kernel
theorem d_176_175 : decode (zm_code 176) 175 = .ok (.iconst 1, 1) := by decide +kernel
theorem d_176_176 : decode (zm_code 176) 176 = .ok (.goto 4, 3) := by decide +kernel
theorem d_176_179 : decode (zm_code 176) 179 = .ok (.iconst 0, 1) := by decide +kernel
theorem d_176_180 : decode (zm_code 176) 180 = .ok (.istore_n 2, 1) := by decide +kernel
theorem d_176_181 : decode (zm_code 176) 181 = .ok (.goto (-110), 3) := by decide +kernel
theorem d_176_184 : decode (zm_code 176) 184 = .ok (.aload_n 0, 1) := by decide +kernel
theorem d_176_185 : decode (zm_code 176) 185 = .ok (.getfield 36, 3) := by decide +kernel
theorem d_176_188 : decode (zm_code 176) 188 = .ok (.ifCond .ne 16, 3) := by decide +kernel
theorem d_176_191 : decode (zm_code 176) 191 = .ok (.aload_n 0, 1) := by decide +kernel
theorem d_176_192 : decode (zm_code 176) 192 = .ok (.getfield 63, 3) := by decide +kernel
theorem d_176_195 : decode (zm_code 176) 195 = .ok (.aload_n 0, 1) := by decide +kernel
theorem d_176_196 : decode (zm_code 176) 196 = .ok (.getfield 115, 3) := by decide +kernel
theorem d_176_199 : decode (zm_code 176) 199 = .ok (.dup2, 1) := by decide +kernel
theorem d_176_200 : decode (zm_code 176) 200 = .ok (.iaload, 1) := by decide +kernel
theorem d_176_201 : decode (zm_code 176) 201 = .ok (.iconst 1, 1) := by decide +kernel
theorem d_176_202 : decode (zm_code 176) 202 = .ok (.iadd, 1) := by decide +kernel
theorem d_176_203 : decode (zm_code 176) 203 = .ok (.iastore, 1) := by decide +kernel
theorem d_176_204 : decode (zm_code 176) 204 = .ok (.return_, 1) := by decide +kernel
theorem d_177_0 : decode (zm_code 177) 0 = .ok (.aload_n 0, 1) := by decide +kernel
theorem d_177_1 : decode (zm_code 177) 1 = .ok (.invokevirtual 268, 3) := by decide +kernel
theorem d_177_4 : decode (zm_code 177) 4 = .ok (.aload_n 0, 1) := by decide +kernel
theorem d_177_5 : decode (zm_code 177) 5 = .ok (.getfield 36, 3) := by decide +kernel
theorem d_177_8 : decode (zm_code 177) 8 = .ok (.ifCond .le 5, 3) := by decide +kernel
theorem d_177_11 : decode (zm_code 177) 11 = .ok (.iconst 0, 1) := by decide +kernel
theorem d_177_12 : decode (zm_code 177) 12 = .ok (.ireturn, 1) := by decide +kernel
theorem d_177_13 : decode (zm_code 177) 13 = .ok (.aload_n 0, 1) := by decide +kernel
theorem d_177_14 : decode (zm_code 177) 14 = .ok (.getfield 20, 3) := by decide +kernel
theorem d_177_17 : decode (zm_code 177) 17 = .ok (.iconst 1, 1) := by decide +kernel
theorem d_177_18 : decode (zm_code 177) 18 = .ok (.if_icmp .ne 14, 3) := by decide +kernel
theorem d_177_21 : decode (zm_code 177) 21 = .ok (.aload_n 0, 1) := by decide +kernel
theorem d_177_22 : decode (zm_code 177) 22 = .ok (.aload_n 0, 1) := by decide +kernel
theorem d_177_23 : decode (zm_code 177) 23 = .ok (.getfield 32, 3) := by decide +kernel
theorem d_177_26 : decode (zm_code 177) 26 = .ok (.invokevirtual 370, 3) := by decide +kernel
theorem d_177_29 : decode (zm_code 177) 29 = .ok (.ifCond .eq 12, 3) := by decide +kernel
theorem d_177_32 : decode (zm_code 177) 32 = .ok (.aload_n 0, 1) := by decide +kernel
theorem d_177_33 : decode (zm_code 177) 33 = .ok (.iconst 1, 1) := by decide +kernel
theorem d_177_34 : decode (zm_code 177) 34 = .ok (.aload_n 0, 1) := by decide +kernel
theorem d_177_35 : decode (zm_code 177) 35 = .ok (.getfield 23, 3) := by decide +kernel
theorem d_177_38 : decode (zm_code 177) 38 = .ok (.invokevirtual 257, 3) := by decide +kernel
theorem d_177_41 : decode (zm_code 177) 41 = .ok (.aload_n 0, 1) := by decide +kernel
theorem d_177_42 : decode (zm_code 177) 42 = .ok (.getfield 36, 3) := by decide +kernel
theorem d_177_45 : decode (zm_code 177) 45 = .ok (.ifCond .le 7, 3) := by decide +kernel
theorem d_177_48 : decode (zm_code 177) 48 = .ok (.iconst 0, 1) := by decide +kernel
theorem d_177_49 : decode (zm_code 177) 49 = .ok (.goto 12, 3) := by decide +kernel
theorem d_177_52 : decode (zm_code 177) 52 = .ok (.aload_n 0, 1) := by decide +kernel
theorem d_177_53 : decode (zm_code 177) 53 = .ok (.iload_n 1, 1) := by decide +kernel
theorem d_177_54 : decode (zm_code 177) 54 = .ok (.aload_n 0, 1) := by decide +kernel
theorem d_177_55 : decode (zm_code 177) 55 = .ok (.getfield 32, 3) := by decide +kernel
theorem d_177_58 : decode (zm_code 177) 58 = .ok (.invokevirtual 373, 3) := by decide +kernel
theorem d_177_61 : decode (zm_code 177) 61 = .ok (.istore_n 2, 1) := by decide +kernel
theorem d_177_62 : decode (zm_code 177) 62 = .ok (.aload_n 0, 1) := by decide +kernel
theorem d_177_63 : decode (zm_code 177) 63 = .ok (.getfield 36, 3) := by decide +kernel
theorem d_177_66 : decode (zm_code 177) 66 = .ok (.ifCond .ne 17, 3) := by decide +kernel
theorem d_177_69 : decode (zm_code 177) 69 = .ok (.iload_n 2, 1) := by decide +kernel
theorem d_177_70 : decode (zm_code 177) 70 = .ok (.iconst (-1), 1) := by decide +kernel
theorem d_177_71 : decode (zm_code 177) 71 = .ok (.if_icmp .ne 12, 3) := by decide +kernel
theorem d_177_74 : decode (zm_code 177) 74 = .ok (.aload_n 0, 1) := by decide +kernel
theorem d_177_75 : decode (zm_code 177) 75 = .ok (.iconst 3, 1) := by decide +kernel
theorem d_177_76 : decode (zm_code 177) 76 = .ok (.aload_n 0, 1) := by decide +kernel
theorem d_177_77 : decode (zm_code 177) 77 = .ok (.getfield 23, 3) := by decide +kernel
theorem d_177_80 : decode (zm_code 177) 80 = .ok (.invokevirtual 257, 3) := by decide +kernel
theorem d_177_83 : decode (zm_code 177) 83 = .ok (.aload_n 0, 1) := by decide +kernel
theorem d_177_84 : decode (zm_code 177) 84 = .ok (.getfield 36, 3) := by decide +kernel
theorem d_177_87 : decode (zm_code 177) 87 = .ok (.ifCond .le 7, 3) := by decide +kernel
theorem d_177_90 : decode (zm_code 177) 90 = .ok (.iconst 0, 1) := by decide +kernel
theorem d_177_91 : decode (zm_code 177) 91 = .ok (.goto 4, 3) := by decide +kernel
theorem d_177_94 : decode (zm_code 177) 94 = .ok (.iload_n 2, 1) := by decide +kernel
theorem d_177_95 : decode (zm_code 177) 95 = .ok (.ireturn, 1) := by decide +kernel
theorem d_178_0 : decode (zm_code 178) 0 = .ok (.aload_n 0, 1) := by decide +kernel
theorem d_178_1 : decode (zm_code 178) 1 = .ok (.aload_n 0, 1) := by decide +kernel
theorem d_178_2 : decode (zm_code 178) 2 = .ok (.getfield 69, 3) := by decide +kernel
theorem d_178_5 : decode (zm_code 178) 5 = .ok (.aload_n 0, 1) := by decide +kernel
theorem d_178_6 : decode (zm_code 178) 6 = .ok (.getfield 115, 3) := by decide +kernel
theorem d_178_9 : decode (zm_code 178) 9 = .ok (.iaload, 1) := by decide +kernel
theorem d_178_10 : decode (zm_code 178) 10 = .ok (.bipush 8, 2) := by decide +kernel
theorem d_178_12 : decode (zm_code 178) 12 = .ok (.if_icmp .ne 7, 3) := by decide +kernel
theorem d_178_15 : decode (zm_code 178) 15 = .ok (.iconst 1, 1) := by decide +kernel
theorem d_178_16 : decode (zm_code 178) 16 = .ok (.goto 4, 3) := by decide +kernel
theorem d_178_19 : decode (zm_code 178) 19 = .ok (.iconst 0, 1) := by decide +kernel
theorem d_178_20 : decode (zm_code 178) 20 = .ok (.invokevirtual 380, 3) := by decide +kernel
theorem d_178_23 : decode (zm_code 178) 23 = .ok (.ifCond .ne 4, 3) := by decide +kernel
theorem d_178_26 : decode (zm_code 178) 26 = .ok (.return_, 1) := by decide +kernel
theorem d_178_27 : decode (zm_code 178) 27 = .ok (.bipush 8, 2) := by decide +kernel
theorem d_178_29 : decode (zm_code 178) 29 = .ok (.aload_n 0, 1) := by decide +kernel
theorem d_178_30 : decode (zm_code 178) 30 = .ok (.getfield 115, 3) := by decide +kernel
theorem d_178_33 : decode (zm_code 178) 33 = .ok (.imul, 1) := by decide +kernel
theorem d_178_34 : decode (zm_code 178) 34 = .ok (.aload_n 0, 1) := by decide +kernel
theorem d_178_35 : decode (zm_code 178) 35 = .ok (.getfield 69, 3) := by decide +kernel
theorem d_178_38 : decode (zm_code 178) 38 = .ok (.aload_n 0, 1) := by decide +kernel
theorem d_178_39 : decode (zm_code 178) 39 = .ok (.getfield 115, 3) := by decide +kernel
theorem d_178_42 : decode (zm_code 178) 42 = .ok (.iaload, 1) := by decide +kernel
theorem d_178_43 : decode (zm_code 178) 43 = .ok (.iadd, 1) := by decide +kernel
theorem d_178_44 : decode (zm_code 178) 44 = .ok (.istore_n 1, 1) := by decide +kernel
theorem d_178_45 : decode (zm_code 178) 45 = .ok (.aload_n 0, 1) := by decide +kernel
theorem d_178_46 : decode (zm_code 178) 46 = .ok (.getfield 109, 3) := by decide +kernel
theorem d_178_49 : decode (zm_code 178) 49 = .ok (.iload_n 1, 1) := by decide +kernel
theorem d_178_50 : decode (zm_code 178) 50 = .ok (.aload_n 0, 1) := by decide +kernel
theorem d_178_51 : decode (zm_code 178) 51 = .ok (.invokevirtual 384, 3) := by decide +kernel
theorem d_178_54 : decode (zm_code 178) 54 = .ok (.lastore, 1) := by decide +kernel
theorem d_178_55 : decode (zm_code 178) 55 = .ok (.aload_n 0, 1) := by decide +kernel
theorem d_178_56 : decode (zm_code 178) 56 = .ok (.ldc2_w 287, 3) := by decide +kernel
theorem d_178_59 : decode (zm_code 178) 59 = .ok (.invokevirtual 388, 3) := by decide +kernel
theorem d_178_62 : decode (zm_code 178) 62 = .ok (.aload_n 0, 1) := by decide +kernel
theorem d_178_63 : decode (zm_code 178) 63 = .ok (.getfield 72, 3) := by decide +kernel
theorem d_178_66 : decode (zm_code 178) 66 = .ok (.iload_n 1, 1) := by decide +kernel
theorem d_178_67 : decode (zm_code 178) 67 = .ok (.aload_n 0, 1) := by decide +kernel
theorem d_178_68 : decode (zm_code 178) 68 = .ok (.iconst 1, 1) := by decide +kernel
theorem d_178_69 : decode (zm_code 178) 69 = .ok (.iconst 5, 1) := by decide +kernel
theorem d_178_70 : decode (zm_code 178) 70 = .ok (.invokevirtual 392, 3) := by decide +kernel
theorem d_178_73 : decode (zm_code 178) 73 = .ok (.iastore, 1) := by decide +kernel
theorem d_178_74 : decode (zm_code 178) 74 = .ok (.aload_n 0, 1) := by decide +kernel
theorem d_178_75 : decode (zm_code 178) 75 = .ok (.ldc2_w 289, 3) := by decide +kernel
theorem d_178_78 : decode (zm_code 178) 78 = .ok (.invokevirtual 388, 3) := by decide +kernel
theorem d_178_81 : decode (zm_code 178) 81 = .ok (.aload_n 0, 1) := by decide +kernel
theorem d_178_82 : decode (zm_code 178) 82 = .ok (.getfield 75, 3) := by decide +kernel
theorem d_178_85 : decode (zm_code 178) 85 = .ok (.iload_n 1, 1) := by decide +kernel
theorem d_178_86 : decode (zm_code 178) 86 = .ok (.aload_n 0, 1) := by decide +kernel
theorem d_178_87 : decode (zm_code 178) 87 = .ok (.iconst 0, 1) := by decide +kernel
theorem d_178_88 : decode (zm_code 178) 88 = .ok (.iconst 3, 1) := by decide +kernel
theorem d_178_89 : decode (zm_code 178) 89 = .ok (.invokevirtual 392, 3) := by decide +kernel
theorem d_178_92 : decode (zm_code 178) 92 = .ok (.iastore, 1) := by decide +kernel
theorem d_178_93 : decode (zm_code 178) 93 = .ok (.aload_n 0, 1) := by decide +kernel
theorem d_178_94 : decode (zm_code 178) 94 = .ok (.invokevirtual 268, 3) := by decide +kernel
theorem d_178_97 : decode (zm_code 178) 97 = .ok (.aload_n 0, 1) := by decide +kernel
theorem d_178_98 : decode (zm_code 178) 98 = .ok (.getfield 36, 3) := by decide +kernel
theorem d_178_101 : decode (zm_code 178) 101 = .ok (.ifCond .le 4, 3) := by decide +kernel
theorem d_178_104 : decode (zm_code 178) 104 = .ok (.return_, 1) := by decide +kernel
theorem d_178_105 : decode (zm_code 178) 105 = .ok (.aload_n 0, 1) := by decide +kernel
theorem d_178_106 : decode (zm_code 178) 106 = .ok (.getfield 78, 3) := by decide +kernel
theorem d_178_109 : decode (zm_code 178) 109 = .ok (.iload_n 1, 1) := by decide +kernel
theorem d_178_110 : decode (zm_code 178) 110 = .ok (.aload_n 0, 1) := by decide +kernel
theorem d_178_111 : decode (zm_code 178) 111 = .ok (.ldc2_w 291, 3) := by decide +kernel
theorem d_178_114 : decode (zm_code 178) 114 = .ok (.invokevirtual 351, 3) := by decide +kernel
theorem d_178_117 : decode (zm_code 178) 117 = .ok (.ifCond .eq 7, 3) := by decide +kernel
theorem d_178_120 : decode (zm_code 178) 120 = .ok (.iconst 0, 1) := by decide +kernel
theorem d_178_121 : decode (zm_code 178) 121 = .ok (.goto 46, 3) := by decide +kernel
theorem d_178_124 : decode (zm_code 178) 124 = .ok (.aload_n 0, 1) := by decide +kernel
theorem d_178_125 : decode (zm_code 178) 125 = .ok (.ldc2_w 293, 3) := by decide +kernel
theorem d_178_128 : decode (zm_code 178) 128 = .ok (.invokevirtual 351, 3) := by decide +kernel
theorem d_178_131 : decode (zm_code 178) 131 = .ok (.ifCond .eq 7, 3) := by decide +kernel
theorem d_178_134 : decode (zm_code 178) 134 = .ok (.iconst 1, 1) := by decide +kernel
theorem d_178_135 : decode (zm_code 178) 135 = .ok (.goto 32, 3) := by decide +kernel
theorem d_178_138 : decode (zm_code 178) 138 = .ok (.aload_n 0, 1) := by decide +kernel
theorem d_178_139 : decode (zm_code 178) 139 = .ok (.ldc2_w 295, 3) := by decide +kernel
theorem d_178_142 : decode (zm_code 178) 142 = .ok (.invokevirtual 351, 3) := by decide +kernel
theorem d_178_145 : decode (zm_code 178) 145 = .ok (.ifCond .eq 7, 3) := by decide +kernel
theorem d_178_148 : decode (zm_code 178) 148 = .ok (.iconst 2, 1) := by decide +kernel
theorem d_178_149 : decode (zm_code 178) 149 = .ok (.goto 18, 3) := by decide +kernel
theorem d_178_152 : decode (zm_code 178) 152 = .ok (.aload_n 0, 1) := by decide +kernel
theorem d_178_153 : decode (zm_code 178) 153 = .ok (.ldc2_w 297, 3) := by decide +kernel
theorem d_178_156 : decode (zm_code 178) 156 = .ok (.invokevirtual 351, 3) := by decide +kernel
theorem d_178_159 : decode (zm_code 178) 159 = .ok (.ifCond .eq 7, 3) := by decide +kernel
theorem d_178_162 : decode (zm_code 178) 162 = .ok (.iconst 3, 1) := by decide +kernel
theorem d_178_163 : decode (zm_code 178) 163 = .ok (.goto 4, 3) := by decide +kernel
theorem d_178_166 : decode (zm_code 178) 166 = .ok (.iconst (-1), 1) := by decide +kernel
theorem d_178_167 : decode (zm_code 178) 167 = .ok (.iastore, 1) := by decide +kernel
theorem d_178_168 : decode (zm_code 178) 168 = .ok (.aload_n 0, 1) := by decide +kernel
theorem d_178_169 : decode (zm_code 178) 169 = .ok (.getfield 78, 3) := by decide +kernel
theorem d_178_172 : decode (zm_code 178) 172 = .ok (.iload_n 1, 1) := by decide +kernel
theorem d_178_173 : decode (zm_code 178) 173 = .ok (.iaload, 1) := by decide +kernel
theorem d_178_174 : decode (zm_code 178) 174 = .ok (.iconst (-1), 1) := by decide +kernel
theorem d_178_175 : decode (zm_code 178) 175 = .ok (.if_icmp .ne 12, 3) := by decide +kernel
theorem d_178_178 : decode (zm_code 178) 178 = .ok (.aload_n 0, 1) := by decide +kernel
theorem d_178_179 : decode (zm_code 178) 179 = .ok (.iconst 1, 1) := by decide +kernel
theorem d_178_180 : decode (zm_code 178) 180 = .ok (.aload_n 0, 1) := by decide +kernel
theorem d_178_181 : decode (zm_code 178) 181 = .ok (.getfield 23, 3) := by decide +kernel
theorem d_178_184 : decode (zm_code 178) 184 = .ok (.invokevirtual 257, 3) := by decide +kernel
theorem d_178_187 : decode (zm_code 178) 187 = .ok (.aload_n 0, 1) := by decide +kernel
theorem d_178_188 : decode (zm_code 178) 188 = .ok (.getfield 36, 3) := by decide +kernel
theorem d_178_191 : decode (zm_code 178) 191 = .ok (.ifCond .le 4, 3) := by decide +kernel
theorem d_178_194 : decode (zm_code 178) 194 = .ok (.return_, 1) := by decide +kernel
theorem d_178_195 : decode (zm_code 178) 195 = .ok (.aload_n 0, 1) := by decide +kernel
theorem d_178_196 : decode (zm_code 178) 196 = .ok (.invokevirtual 274, 3) := by decide +kernel
theorem d_178_199 : decode (zm_code 178) 199 = .ok (.iconst 0, 1) := by decide +kernel
theorem d_178_200 : decode (zm_code 178) 200 = .ok (.istore_n 2, 1) := by decide +kernel
theorem d_178_201 : decode (zm_code 178) 201 = .ok (.iload_n 2, 1) := by decide +kernel
theorem d_178_202 : decode (zm_code 178) 202 = .ok (.bipush 8, 2) := by decide +kernel
theorem d_178_204 : decode (zm_code 178) 204 = .ok (.if_icmp .ge 51, 3) := by decide +kernel
theorem d_178_207 : decode (zm_code 178) 207 = .ok (.aload_n 0, 1) := by decide +kernel
theorem d_178_208 : decode (zm_code 178) 208 = .ok (.getfield 81, 3) := by decide +kernel
theorem d_178_211 : decode (zm_code 178) 211 = .ok (.bipush 8, 2) := by decide +kernel
theorem d_178_213 : decode (zm_code 178) 213 = .ok (.iload_n 1, 1) := by decide +kernel
theorem d_178_214 : decode (zm_code 178) 214 = .ok (.imul, 1) := by decide +kernel
theorem d_178_215 : decode (zm_code 178) 215 = .ok (.iload_n 2, 1) := by decide +kernel
theorem d_178_216 : decode (zm_code 178) 216 = .ok (.iadd, 1) := by decide +kernel
theorem d_178_217 : decode (zm_code 178) 217 = .ok (.iload_n 2, 1) := by decide +kernel
theorem d_178_218 : decode (zm_code 178) 218 = .ok (.aload_n 0, 1) := by decide +kernel
theorem d_178_219 : decode (zm_code 178) 219 = .ok (.getfield 54, 3) := by decide +kernel
theorem d_178_222 : decode (zm_code 178) 222 = .ok (.aload_n 0, 1) := by decide +kernel
theorem d_178_223 : decode (zm_code 178) 223 = .ok (.getfield 115, 3) := by decide +kernel
theorem d_178_226 : decode (zm_code 178) 226 = .ok (.iaload, 1) := by decide +kernel
theorem d_178_227 : decode (zm_code 178) 227 = .ok (.if_icmp .ge 20, 3) := by decide +kernel
theorem d_178_230 : decode (zm_code 178) 230 = .ok (.aload_n 0, 1) := by decide +kernel
theorem d_178_231 : decode (zm_code 178) 231 = .ok (.getfield 57, 3) := by decide +kernel
theorem d_178_234 : decode (zm_code 178) 234 = .ok (.bipush 8, 2) := by decide +kernel
theorem d_178_236 : decode (zm_code 178) 236 = .ok (.aload_n 0, 1) := by decide +kernel
theorem d_178_237 : decode (zm_code 178) 237 = .ok (.getfield 115, 3) := by decide +kernel
theorem d_178_240 : decode (zm_code 178) 240 = .ok (.imul, 1) := by decide +kernel
theorem d_178_241 : decode (zm_code 178) 241 = .ok (.iload_n 2, 1) := by decide +kernel
theorem d_178_242 : decode (zm_code 178) 242 = .ok (.iadd, 1) := by decide +kernel
theorem d_178_243 : decode (zm_code 178) 243 = .ok (.iaload, 1) := by decide +kernel
theorem d_178_244 : decode (zm_code 178) 244 = .ok (.goto 4, 3) := by decide +kernel
theorem d_178_247 : decode (zm_code 178) 247 = .ok (.iconst 0, 1) := by decide +kernel
theorem d_178_248 : decode (zm_code 178) 248 = .ok (.iastore, 1) := by decide +kernel
theorem d_178_249 : decode (zm_code 178) 249 = .ok (.iinc 2 1, 3) := by decide +kernel
theorem d_178_252 : decode (zm_code 178) 252 = .ok (.goto (-51), 3) := by decide +kernel
theorem d_178_255 : decode (zm_code 178) 255 = .ok (.aload_n 0, 1) := by decide +kernel
theorem d_178_256 : decode (zm_code 178) 256 = .ok (.getfield 69, 3) := by decide +kernel
theorem d_178_259 : decode (zm_code 178) 259 = .ok (.aload_n 0, 1) := by decide +kernel
theorem d_178_260 : decode (zm_code 178) 260 = .ok (.getfield 115, 3) := by decide +kernel
theorem d_178_263 : decode (zm_code 178) 263 = .ok (.dup2, 1) := by decide +kernel
theorem d_178_264 : decode (zm_code 178) 264 = .ok (.iaload, 1) := by decide +kernel
theorem d_178_265 : decode (zm_code 178) 265 = .ok (.iconst 1, 1) := by decide +kernel
theorem d_178_266 : decode (zm_code 178) 266 = .ok (.iadd, 1) := by decide +kernel
theorem d_178_267 : decode (zm_code 178) 267 = .ok (.iastore, 1) := by decide +kernel
theorem d_178_268 : decode (zm_code 178) 268 = .ok (.return_, 1) := by decide +kernel
theorem d_179_0 : decode (zm_code 179) 0 = .ok (.aload_n 0, 1) := by decide +kernel
theorem d_179_1 : decode (zm_code 179) 1 = .ok (.iconst 0, 1) := by decide +kernel
theorem d_179_2 : decode (zm_code 179) 2 = .ok (.invokevirtual 380, 3) := by decide +kernel
theorem d_179_5 : decode (zm_code 179) 5 = .ok (.ifCond .ne 4, 3) := by decide +kernel
theorem d_179_8 : decode (zm_code 179) 8 = .ok (.return_, 1) := by decide +kernel
theorem d_179_9 : decode (zm_code 179) 9 = .ok (.aload_n 0, 1) := by decide +kernel
theorem d_179_10 : decode (zm_code 179) 10 = .ok (.iconst 1, 1) := by decide +kernel
theorem d_179_11 : decode (zm_code 179) 11 = .ok (.invokevirtual 395, 3) := by decide +kernel
theorem d_179_14 : decode (zm_code 179) 14 = .ok (.istore_n 1, 1) := by decide +kernel
theorem d_179_15 : decode (zm_code 179) 15 = .ok (.aload_n 0, 1) := by decide +kernel
theorem d_179_16 : decode (zm_code 179) 16 = .ok (.iconst 0, 1) := by decide +kernel
theorem d_179_17 : decode (zm_code 179) 17 = .ok (.invokevirtual 395, 3) := by decide +kernel
theorem d_179_20 : decode (zm_code 179) 20 = .ok (.istore_n 2, 1) := by decide +kernel
theorem d_179_21 : decode (zm_code 179) 21 = .ok (.aload_n 0, 1) := by decide +kernel
theorem d_179_22 : decode (zm_code 179) 22 = .ok (.iconst 0, 1) := by decide +kernel
theorem d_179_23 : decode (zm_code 179) 23 = .ok (.bipush 99, 2) := by decide +kernel
theorem d_179_25 : decode (zm_code 179) 25 = .ok (.invokevirtual 392, 3) := by decide +kernel
theorem d_179_28 : decode (zm_code 179) 28 = .ok (.istore_n 3, 1) := by decide +kernel
theorem d_179_29 : decode (zm_code 179) 29 = .ok (.aload_n 0, 1) := by decide +kernel
theorem d_179_30 : decode (zm_code 179) 30 = .ok (.getfield 36, 3) := by decide +kernel
theorem d_179_33 : decode (zm_code 179) 33 = .ok (.ifCond .ne 23, 3) := by decide +kernel
theorem d_179_36 : decode (zm_code 179) 36 = .ok (.aload_n 0, 1) := by decide +kernel
theorem d_179_37 : decode (zm_code 179) 37 = .ok (.getfield 81, 3) := by decide +kernel
theorem d_179_40 : decode (zm_code 179) 40 = .ok (.bipush 8, 2) := by decide +kernel
theorem d_179_42 : decode (zm_code 179) 42 = .ok (.bipush 8, 2) := by decide +kernel
theorem d_179_44 : decode (zm_code 179) 44 = .ok (.aload_n 0, 1) := by decide +kernel
theorem d_179_45 : decode (zm_code 179) 45 = .ok (.getfield 115, 3) := by decide +kernel
theorem d_179_48 : decode (zm_code 179) 48 = .ok (.imul, 1) := by decide +kernel
theorem d_179_49 : decode (zm_code 179) 49 = .ok (.iload_n 1, 1) := by decide +kernel
theorem d_179_50 : decode (zm_code 179) 50 = .ok (.iadd, 1) := by decide +kernel
theorem d_179_51 : decode (zm_code 179) 51 = .ok (.imul, 1) := by decide +kernel
theorem d_179_52 : decode (zm_code 179) 52 = .ok (.iload_n 2, 1) := by decide +kernel
theorem d_179_53 : decode (zm_code 179) 53 = .ok (.iadd, 1) := by decide +kernel
theorem d_179_54 : decode (zm_code 179) 54 = .ok (.iload_n 3, 1) := by decide +kernel
theorem d_179_55 : decode (zm_code 179) 55 = .ok (.iastore, 1) := by decide +kernel
theorem d_179_56 : decode (zm_code 179) 56 = .ok (.return_, 1) := by decide +kernel
theorem d_180_0 : decode (zm_code 180) 0 = .ok (.aload_n 0, 1) := by decide +kernel
theorem d_180_1 : decode (zm_code 180) 1 = .ok (.iload_n 1, 1) := by decide +kernel
theorem d_180_2 : decode (zm_code 180) 2 = .ok (.invokevirtual 377, 3) := by decide +kernel
theorem d_180_5 : decode (zm_code 180) 5 = .ok (.istore_n 2, 1) := by decide +kernel
theorem d_180_6 : decode (zm_code 180) 6 = .ok (.aload_n 0, 1) := by decide +kernel
theorem d_180_7 : decode (zm_code 180) 7 = .ok (.getfield 36, 3) := by decide +kernel
theorem d_180_10 : decode (zm_code 180) 10 = .ok (.ifCond .ne 7, 3) := by decide +kernel
theorem d_180_13 : decode (zm_code 180) 13 = .ok (.aload_n 0, 1) := by decide +kernel
theorem d_180_14 : decode (zm_code 180) 14 = .ok (.invokevirtual 274, 3) := by decide +kernel
theorem d_180_17 : decode (zm_code 180) 17 = .ok (.aload_n 0, 1) := by decide +kernel
theorem d_180_18 : decode (zm_code 180) 18 = .ok (.getfield 36, 3) := by decide +kernel
theorem d_180_21 : decode (zm_code 180) 21 = .ok (.ifCond .le 7, 3) := by decide +kernel
theorem d_180_24 : decode (zm_code 180) 24 = .ok (.iconst 0, 1) := by decide +kernel
theorem d_180_25 : decode (zm_code 180) 25 = .ok (.goto 4, 3) := by decide +kernel
theorem d_180_28 : decode (zm_code 180) 28 = .ok (.iload_n 2, 1) := by decide +kernel
theorem d_180_29 : decode (zm_code 180) 29 = .ok (.ireturn, 1) := by decide +kernel
theorem d_181_0 : decode (zm_code 181) 0 = .ok (.aload_n 0, 1) := by decide +kernel
theorem d_181_1 : decode (zm_code 181) 1 = .ok (.aload_n 0, 1) := by decide +kernel
theorem d_181_2 : decode (zm_code 181) 2 = .ok (.getfield 87, 3) := by decide +kernel
theorem d_181_5 : decode (zm_code 181) 5 = .ok (.aload_n 0, 1) := by decide +kernel
theorem d_181_6 : decode (zm_code 181) 6 = .ok (.getfield 115, 3) := by decide +kernel
theorem d_181_9 : decode (zm_code 181) 9 = .ok (.iaload, 1) := by decide +kernel
theorem d_181_10 : decode (zm_code 181) 10 = .ok (.iconst (-1), 1) := by decide +kernel
theorem d_181_11 : decode (zm_code 181) 11 = .ok (.if_icmp .eq 7, 3) := by decide +kernel
theorem d_181_14 : decode (zm_code 181) 14 = .ok (.iconst 1, 1) := by decide +kernel
theorem d_181_15 : decode (zm_code 181) 15 = .ok (.goto 4, 3) := by decide +kernel
theorem d_181_18 : decode (zm_code 181) 18 = .ok (.iconst 0, 1) := by decide +kernel
theorem d_181_19 : decode (zm_code 181) 19 = .ok (.invokevirtual 380, 3) := by decide +kernel
theorem d_181_22 : decode (zm_code 181) 22 = .ok (.ifCond .ne 4, 3) := by decide +kernel
theorem d_181_25 : decode (zm_code 181) 25 = .ok (.return_, 1) := by decide +kernel
theorem d_181_26 : decode (zm_code 181) 26 = .ok (.aload_n 0, 1) := by decide +kernel
theorem d_181_27 : decode (zm_code 181) 27 = .ok (.getfield 87, 3) := by decide +kernel
theorem d_181_30 : decode (zm_code 181) 30 = .ok (.aload_n 0, 1) := by decide +kernel
theorem d_181_31 : decode (zm_code 181) 31 = .ok (.getfield 115, 3) := by decide +kernel
theorem d_181_34 : decode (zm_code 181) 34 = .ok (.aload_n 0, 1) := by decide +kernel
theorem d_181_35 : decode (zm_code 181) 35 = .ok (.getfield 112, 3) := by decide +kernel
theorem d_181_38 : decode (zm_code 181) 38 = .ok (.iastore, 1) := by decide +kernel
theorem d_181_39 : decode (zm_code 181) 39 = .ok (.aload_n 0, 1) := by decide +kernel
theorem d_181_40 : decode (zm_code 181) 40 = .ok (.iconst 0, 1) := by decide +kernel
theorem d_181_41 : decode (zm_code 181) 41 = .ok (.invokevirtual 398, 3) := by decide +kernel
theorem d_181_44 : decode (zm_code 181) 44 = .ok (.aload_n 0, 1) := by decide +kernel
theorem d_181_45 : decode (zm_code 181) 45 = .ok (.getfield 90, 3) := by decide +kernel
theorem d_181_48 : decode (zm_code 181) 48 = .ok (.aload_n 0, 1) := by decide +kernel
theorem d_181_49 : decode (zm_code 181) 49 = .ok (.getfield 115, 3) := by decide +kernel
theorem d_181_52 : decode (zm_code 181) 52 = .ok (.aload_n 0, 1) := by decide +kernel
theorem d_181_53 : decode (zm_code 181) 53 = .ok (.getfield 112, 3) := by decide +kernel
theorem d_181_56 : decode (zm_code 181) 56 = .ok (.iastore, 1) := by decide +kernel
theorem d_181_57 : decode (zm_code 181) 57 = .ok (.return_, 1) := by decide +kernel
theorem d_182_0 : decode (zm_code 182) 0 = .ok (.aload_n 0, 1) := by decide +kernel
theorem d_182_1 : decode (zm_code 182) 1 = .ok (.getfield 36, 3) := by decide +kernel
theorem d_182_4 : decode (zm_code 182) 4 = .ok (.ifCond .le 4, 3) := by decide +kernel
theorem d_182_7 : decode (zm_code 182) 7 = .ok (.return_, 1) := by decide +kernel
theorem d_182_8 : decode (zm_code 182) 8 = .ok (.aload_n 0, 1) := by decide +kernel
theorem d_182_9 : decode (zm_code 182) 9 = .ok (.iconst 0, 1) := by decide +kernel
theorem d_182_10 : decode (zm_code 182) 10 = .ok (.putfield 134, 3) := by decide +kernel
theorem d_182_13 : decode (zm_code 182) 13 = .ok (.aload_n 0, 1) := by decide +kernel
theorem d_182_14 : decode (zm_code 182) 14 = .ok (.iconst 0, 1) := by decide +kernel
theorem d_182_15 : decode (zm_code 182) 15 = .ok (.putfield 137, 3) := by decide +kernel
theorem d_182_18 : decode (zm_code 182) 18 = .ok (.aload_n 0, 1) := by decide +kernel
theorem d_182_19 : decode (zm_code 182) 19 = .ok (.iconst 0, 1) := by decide +kernel
theorem d_182_20 : decode (zm_code 182) 20 = .ok (.putfield 143, 3) := by decide +kernel
theorem d_182_23 : decode (zm_code 182) 23 = .ok (.aload_n 0, 1) := by decide +kernel
theorem d_182_24 : decode (zm_code 182) 24 = .ok (.iconst 0, 1) := by decide +kernel
theorem d_182_25 : decode (zm_code 182) 25 = .ok (.putfield 146, 3) := by decide +kernel
theorem d_182_28 : decode (zm_code 182) 28 = .ok (.aload_n 0, 1) := by decide +kernel
theorem d_182_29 : decode (zm_code 182) 29 = .ok (.iload_n 1, 1) := by decide +kernel
theorem d_182_30 : decode (zm_code 182) 30 = .ok (.ifCond .eq 7, 3) := by decide +kernel
theorem d_182_33 : decode (zm_code 182) 33 = .ok (.iconst 1, 1) := by decide +kernel
theorem d_182_34 : decode (zm_code 182) 34 = .ok (.goto 4, 3) := by decide +kernel
theorem d_182_37 : decode (zm_code 182) 37 = .ok (.iconst 0, 1) := by decide +kernel
theorem d_182_38 : decode (zm_code 182) 38 = .ok (.invokevirtual 345, 3) := by decide +kernel
theorem d_182_41 : decode (zm_code 182) 41 = .ok (.iconst 1, 1) := by decide +kernel
theorem d_182_42 : decode (zm_code 182) 42 = .ok (.istore_n 2, 1) := by decide +kernel
theorem d_182_43 : decode (zm_code 182) 43 = .ok (.iload_n 2, 1) := by decide +kernel
theorem d_182_44 : decode (zm_code 182) 44 = .ok (.ifCond .eq 46, 3) := by decide +kernel
theorem d_182_47 : decode (zm_code 182) 47 = .ok (.aload_n 0, 1) := by decide +kernel
theorem d_182_48 : decode (zm_code 182) 48 = .ok (.getfield 146, 3) := by decide +kernel
theorem d_182_51 : decode (zm_code 182) 51 = .ok (.ifCond .ne 14, 3) := by decide +kernel
theorem d_182_54 : decode (zm_code 182) 54 = .ok (.aload_n 0, 1) := by decide +kernel
theorem d_182_55 : decode (zm_code 182) 55 = .ok (.aload_n 0, 1) := by decide +kernel
theorem d_182_56 : decode (zm_code 182) 56 = .ok (.invokevirtual 364, 3) := by decide +kernel
theorem d_182_59 : decode (zm_code 182) 59 = .ok (.putfield 146, 3) := by decide +kernel
theorem d_182_62 : decode (zm_code 182) 62 = .ok (.goto 8, 3) := by decide +kernel
theorem d_182_65 : decode (zm_code 182) 65 = .ok (.aload_n 0, 1) := by decide +kernel
theorem d_182_66 : decode (zm_code 182) 66 = .ok (.invokevirtual 367, 3) := by decide +kernel
theorem d_182_69 : decode (zm_code 182) 69 = .ok (.istore_n 2, 1) := by decide +kernel
theorem d_182_70 : decode (zm_code 182) 70 = .ok (.iload_n 2, 1) := by decide +kernel
theorem d_182_71 : decode (zm_code 182) 71 = .ok (.ifCond .eq 14, 3) := by decide +kernel
theorem d_182_74 : decode (zm_code 182) 74 = .ok (.aload_n 0, 1) := by decide +kernel
theorem d_182_75 : decode (zm_code 182) 75 = .ok (.getfield 36, 3) := by decide +kernel
theorem d_182_78 : decode (zm_code 182) 78 = .ok (.ifCond .ne 7, 3) := by decide +kernel
theorem d_182_81 : decode (zm_code 182) 81 = .ok (.iconst 1, 1) := by decide +kernel
theorem d_182_82 : decode (zm_code 182) 82 = .ok (.goto 4, 3) := by decide +kernel
theorem d_182_85 : decode (zm_code 182) 85 = .ok (.iconst 0, 1) := by decide +kernel
theorem d_182_86 : decode (zm_code 182) 86 = .ok (.istore_n 2, 1) := by decide +kernel
theorem d_182_87 : decode (zm_code 182) 87 = .ok (.goto (-44), 3) := by decide +kernel
theorem d_182_90 : decode (zm_code 182) 90 = .ok (.return_, 1) := by decide +kernel
theorem d_183_0 : decode (zm_code 183) 0 = .ok (.aload_n 0, 1) := by decide +kernel
theorem d_183_1 : decode (zm_code 183) 1 = .ok (.getfield 118, 3) := by decide +kernel
theorem d_183_4 : decode (zm_code 183) 4 = .ok (.aload_n 0, 1) := by decide +kernel
theorem d_183_5 : decode (zm_code 183) 5 = .ok (.getfield 134, 3) := by decide +kernel
theorem d_183_8 : decode (zm_code 183) 8 = .ok (.iload_n 1, 1) := by decide +kernel
theorem d_183_9 : decode (zm_code 183) 9 = .ok (.iastore, 1) := by decide +kernel
theorem d_183_10 : decode (zm_code 183) 10 = .ok (.aload_n 0, 1) := by decide +kernel
theorem d_183_11 : decode (zm_code 183) 11 = .ok (.getfield 121, 3) := by decide +kernel
theorem d_183_14 : decode (zm_code 183) 14 = .ok (.aload_n 0, 1) := by decide +kernel
theorem d_183_15 : decode (zm_code 183) 15 = .ok (.getfield 134, 3) := by decide +kernel
theorem d_183_18 : decode (zm_code 183) 18 = .ok (.iconst 0, 1) := by decide +kernel
theorem d_183_19 : decode (zm_code 183) 19 = .ok (.iastore, 1) := by decide +kernel
theorem d_183_20 : decode (zm_code 183) 20 = .ok (.aload_n 0, 1) := by decide +kernel
theorem d_183_21 : decode (zm_code 183) 21 = .ok (.getfield 124, 3) := by decide +kernel
theorem d_183_24 : decode (zm_code 183) 24 = .ok (.aload_n 0, 1) := by decide +kernel
theorem d_183_25 : decode (zm_code 183) 25 = .ok (.getfield 134, 3) := by decide +kernel
theorem d_183_28 : decode (zm_code 183) 28 = .ok (.iconst 1, 1) := by decide +kernel
theorem d_183_29 : decode (zm_code 183) 29 = .ok (.bastore, 1) := by decide +kernel
theorem d_183_30 : decode (zm_code 183) 30 = .ok (.aload_n 0, 1) := by decide +kernel
theorem d_183_31 : decode (zm_code 183) 31 = .ok (.getfield 131, 3) := by decide +kernel
theorem d_183_34 : decode (zm_code 183) 34 = .ok (.aload_n 0, 1) := by decide +kernel
theorem d_183_35 : decode (zm_code 183) 35 = .ok (.getfield 134, 3) := by decide +kernel
theorem d_183_38 : decode (zm_code 183) 38 = .ok (.aload_n 0, 1) := by decide +kernel
theorem d_183_39 : decode (zm_code 183) 39 = .ok (.getfield 143, 3) := by decide +kernel
theorem d_183_42 : decode (zm_code 183) 42 = .ok (.iastore, 1) := by decide +kernel
theorem d_183_43 : decode (zm_code 183) 43 = .ok (.aload_n 0, 1) := by decide +kernel
theorem d_183_44 : decode (zm_code 183) 44 = .ok (.dup, 1) := by decide +kernel
theorem d_183_45 : decode (zm_code 183) 45 = .ok (.getfield 134, 3) := by decide +kernel
theorem d_183_48 : decode (zm_code 183) 48 = .ok (.iconst 1, 1) := by decide +kernel
theorem d_183_49 : decode (zm_code 183) 49 = .ok (.iadd, 1) := by decide +kernel
theorem d_183_50 : decode (zm_code 183) 50 = .ok (.putfield 134, 3) := by decide +kernel
theorem d_183_53 : decode (zm_code 183) 53 = .ok (.return_, 1) := by decide +kernel
theorem d_184_0 : decode (zm_code 184) 0 = .ok (.aload_n 0, 1) := by decide +kernel
theorem d_184_1 : decode (zm_code 184) 1 = .ok (.invokevirtual 268, 3) := by decide +kernel
theorem d_184_4 : decode (zm_code 184) 4 = .ok (.aload_n 0, 1) := by decide +kernel
theorem d_184_5 : decode (zm_code 184) 5 = .ok (.getfield 36, 3) := by decide +kernel
theorem d_184_8 : decode (zm_code 184) 8 = .ok (.ifCond .le 5, 3) := by decide +kernel
theorem d_184_11 : decode (zm_code 184) 11 = .ok (.iconst 1, 1) := by decide +kernel
theorem d_184_12 : decode (zm_code 184) 12 = .ok (.ireturn, 1) := by decide +kernel
theorem d_184_13 : decode (zm_code 184) 13 = .ok (.aload_n 0, 1) := by decide +kernel
theorem d_184_14 : decode (zm_code 184) 14 = .ok (.getfield 134, 3) := by decide +kernel
theorem d_184_17 : decode (zm_code 184) 17 = .ok (.iconst 1, 1) := by decide +kernel
theorem d_184_18 : decode (zm_code 184) 18 = .ok (.isub, 1) := by decide +kernel
theorem d_184_19 : decode (zm_code 184) 19 = .ok (.istore_n 1, 1) := by decide +kernel
theorem d_184_20 : decode (zm_code 184) 20 = .ok (.aload_n 0, 1) := by decide +kernel
theorem d_184_21 : decode (zm_code 184) 21 = .ok (.getfield 118, 3) := by decide +kernel
theorem d_184_24 : decode (zm_code 184) 24 = .ok (.iload_n 1, 1) := by decide +kernel
theorem d_184_25 : decode (zm_code 184) 25 = .ok (.iaload, 1) := by decide +kernel
theorem d_184_26 : decode (zm_code 184) 26 = .ok (.invokestatic 348, 3) := by decide +kernel
theorem d_184_29 : decode (zm_code 184) 29 = .ok (.ifCond .eq 16, 3) := by decide +kernel
theorem d_184_32 : decode (zm_code 184) 32 = .ok (.aload_n 0, 1) := by decide +kernel
theorem d_184_33 : decode (zm_code 184) 33 = .ok (.getfield 124, 3) := by decide +kernel
theorem d_184_36 : decode (zm_code 184) 36 = .ok (.iload_n 1, 1) := by decide +kernel
theorem d_184_37 : decode (zm_code 184) 37 = .ok (.baload, 1) := by decide +kernel
theorem d_184_38 : decode (zm_code 184) 38 = .ok (.ifCond .eq 7, 3) := by decide +kernel
theorem d_184_41 : decode (zm_code 184) 41 = .ok (.iconst 1, 1) := by decide +kernel
theorem d_184_42 : decode (zm_code 184) 42 = .ok (.goto 4, 3) := by decide +kernel
theorem d_184_45 : decode (zm_code 184) 45 = .ok (.iconst 0, 1) := by decide +kernel
theorem d_184_46 : decode (zm_code 184) 46 = .ok (.istore_n 2, 1) := by decide +kernel
theorem d_184_47 : decode (zm_code 184) 47 = .ok (.iload_n 2, 1) := by decide +kernel
theorem d_184_48 : decode (zm_code 184) 48 = .ok (.ifCond .eq 62, 3) := by decide +kernel
theorem d_184_51 : decode (zm_code 184) 51 = .ok (.aload_n 0, 1) := by decide +kernel
theorem d_184_52 : decode (zm_code 184) 52 = .ok (.ldc2_w 319, 3) := by decide +kernel
theorem d_184_55 : decode (zm_code 184) 55 = .ok (.invokevirtual 351, 3) := by decide +kernel
theorem d_184_58 : decode (zm_code 184) 58 = .ok (.ifCond .eq 52, 3) := by decide +kernel
theorem d_184_61 : decode (zm_code 184) 61 = .ok (.aload_n 0, 1) := by decide +kernel
theorem d_184_62 : decode (zm_code 184) 62 = .ok (.getfield 137, 3) := by decide +kernel
theorem d_184_65 : decode (zm_code 184) 65 = .ok (.bipush 7, 2) := by decide +kernel
theorem d_184_67 : decode (zm_code 184) 67 = .ok (.if_icmp .ne 12, 3) := by decide +kernel
theorem d_184_70 : decode (zm_code 184) 70 = .ok (.aload_n 0, 1) := by decide +kernel
theorem d_184_71 : decode (zm_code 184) 71 = .ok (.iconst 5, 1) := by decide +kernel
theorem d_184_72 : decode (zm_code 184) 72 = .ok (.aload_n 0, 1) := by decide +kernel
theorem d_184_73 : decode (zm_code 184) 73 = .ok (.getfield 23, 3) := by decide +kernel
theorem d_184_76 : decode (zm_code 184) 76 = .ok (.invokevirtual 257, 3) := by decide +kernel
theorem d_184_79 : decode (zm_code 184) 79 = .ok (.aload_n 0, 1) := by decide +kernel
theorem d_184_80 : decode (zm_code 184) 80 = .ok (.getfield 36, 3) := by decide +kernel
theorem d_184_83 : decode (zm_code 184) 83 = .ok (.ifCond .le 5, 3) := by decide +kernel
theorem d_184_86 : decode (zm_code 184) 86 = .ok (.iconst 1, 1) := by decide +kernel
theorem d_184_87 : decode (zm_code 184) 87 = .ok (.ireturn, 1) := by decide +kernel
theorem d_184_88 : decode (zm_code 184) 88 = .ok (.aload_n 0, 1) := by decide +kernel
theorem d_184_89 : decode (zm_code 184) 89 = .ok (.dup, 1) := by decide +kernel
theorem d_184_90 : decode (zm_code 184) 90 = .ok (.getfield 137, 3) := by decide +kernel
theorem d_184_93 : decode (zm_code 184) 93 = .ok (.iconst 1, 1) := by decide +kernel
theorem d_184_94 : decode (zm_code 184) 94 = .ok (.iadd, 1) := by decide +kernel
theorem d_184_95 : decode (zm_code 184) 95 = .ok (.putfield 137, 3) := by decide +kernel
theorem d_184_98 : decode (zm_code 184) 98 = .ok (.aload_n 0, 1) := by decide +kernel
theorem d_184_99 : decode (zm_code 184) 99 = .ok (.bipush 22, 2) := by decide +kernel
theorem d_184_101 : decode (zm_code 184) 101 = .ok (.invokevirtual 355, 3) := by decide +kernel
theorem d_184_104 : decode (zm_code 184) 104 = .ok (.aload_n 0, 1) := by decide +kernel
theorem d_184_105 : decode (zm_code 184) 105 = .ok (.invokevirtual 274, 3) := by decide +kernel
theorem d_184_108 : decode (zm_code 184) 108 = .ok (.iconst 0, 1) := by decide +kernel
theorem d_184_109 : decode (zm_code 184) 109 = .ok (.ireturn, 1) := by decide +kernel
theorem d_184_110 : decode (zm_code 184) 110 = .ok (.aload_n 0, 1) := by decide +kernel
theorem d_184_111 : decode (zm_code 184) 111 = .ok (.getfield 124, 3) := by decide +kernel
theorem d_184_114 : decode (zm_code 184) 114 = .ok (.iload_n 1, 1) := by decide +kernel
theorem d_184_115 : decode (zm_code 184) 115 = .ok (.iconst 0, 1) := by decide +kernel
theorem d_184_116 : decode (zm_code 184) 116 = .ok (.bastore, 1) := by decide +kernel
theorem d_184_117 : decode (zm_code 184) 117 = .ok (.iload_n 2, 1) := by decide +kernel
theorem d_184_118 : decode (zm_code 184) 118 = .ok (.ifCond .eq 19, 3) := by decide +kernel
theorem d_184_121 : decode (zm_code 184) 121 = .ok (.aload_n 0, 1) := by decide +kernel
theorem d_184_122 : decode (zm_code 184) 122 = .ok (.bipush 91, 2) := by decide +kernel
theorem d_184_124 : decode (zm_code 184) 124 = .ok (.invokevirtual 271, 3) := by decide +kernel
theorem d_184_127 : decode (zm_code 184) 127 = .ok (.ifCond .eq 10, 3) := by decide +kernel
theorem d_184_130 : decode (zm_code 184) 130 = .ok (.aload_n 0, 1) := by decide +kernel
theorem d_184_131 : decode (zm_code 184) 131 = .ok (.iconst 5, 1) := by decide +kernel
theorem d_184_132 : decode (zm_code 184) 132 = .ok (.invokevirtual 358, 3) := by decide +kernel
theorem d_184_135 : decode (zm_code 184) 135 = .ok (.iconst 0, 1) := by decide +kernel
theorem d_184_136 : decode (zm_code 184) 136 = .ok (.ireturn, 1) := by decide +kernel
theorem d_184_137 : decode (zm_code 184) 137 = .ok (.iload_n 2, 1) := by decide +kernel
theorem d_184_138 : decode (zm_code 184) 138 = .ok (.ifCond .eq 33, 3) := by decide +kernel
theorem d_184_141 : decode (zm_code 184) 141 = .ok (.aload_n 0, 1) := by decide +kernel
theorem d_184_142 : decode (zm_code 184) 142 = .ok (.ldc2_w 321, 3) := by decide +kernel
theorem d_184_145 : decode (zm_code 184) 145 = .ok (.invokevirtual 351, 3) := by decide +kernel
theorem d_184_148 : decode (zm_code 184) 148 = .ok (.ifCond .eq 23, 3) := by decide +kernel
theorem d_184_151 : decode (zm_code 184) 151 = .ok (.aload_n 0, 1) := by decide +kernel
theorem d_184_152 : decode (zm_code 184) 152 = .ok (.bipush 9, 2) := by decide +kernel
theorem d_184_154 : decode (zm_code 184) 154 = .ok (.iconst 0, 1) := by decide +kernel
theorem d_184_155 : decode (zm_code 184) 155 = .ok (.invokevirtual 342, 3) := by decide +kernel
theorem d_184_158 : decode (zm_code 184) 158 = .ok (.aload_n 0, 1) := by decide +kernel
theorem d_184_159 : decode (zm_code 184) 159 = .ok (.getfield 121, 3) := by decide +kernel
theorem d_184_162 : decode (zm_code 184) 162 = .ok (.iload_n 1, 1) := by decide +kernel
theorem d_184_163 : decode (zm_code 184) 163 = .ok (.iconst 2, 1) := by decide +kernel
theorem d_184_164 : decode (zm_code 184) 164 = .ok (.iastore, 1) := by decide +kernel
theorem d_184_165 : decode (zm_code 184) 165 = .ok (.aload_n 0, 1) := by decide +kernel
theorem d_184_166 : decode (zm_code 184) 166 = .ok (.invokevirtual 274, 3) := by decide +kernel
theorem d_184_169 : decode (zm_code 184) 169 = .ok (.iconst 1, 1) := by decide +kernel
theorem d_184_170 : decode (zm_code 184) 170 = .ok (.ireturn, 1) := by decide +kernel
theorem d_184_171 : decode (zm_code 184) 171 = .ok (.aload_n 0, 1) := by decide +kernel
theorem d_184_172 : decode (zm_code 184) 172 = .ok (.bipush 40, 2) := by decide +kernel
theorem d_184_174 : decode (zm_code 184) 174 = .ok (.invokevirtual 271, 3) := by decide +kernel
theorem d_184_177 : decode (zm_code 184) 177 = .ok (.ifCond .eq 10, 3) := by decide +kernel
theorem d_184_180 : decode (zm_code 184) 180 = .ok (.aload_n 0, 1) := by decide +kernel
theorem d_184_181 : decode (zm_code 184) 181 = .ok (.iconst 2, 1) := by decide +kernel
theorem d_184_182 : decode (zm_code 184) 182 = .ok (.invokevirtual 358, 3) := by decide +kernel
theorem d_184_185 : decode (zm_code 184) 185 = .ok (.iconst 0, 1) := by decide +kernel
theorem d_184_186 : decode (zm_code 184) 186 = .ok (.ireturn, 1) := by decide +kernel
theorem d_184_187 : decode (zm_code 184) 187 = .ok (.aload_n 0, 1) := by decide +kernel
theorem d_184_188 : decode (zm_code 184) 188 = .ok (.ldc2_w 323, 3) := by decide +kernel
theorem d_184_191 : decode (zm_code 184) 191 = .ok (.invokevirtual 351, 3) := by decide +kernel
theorem d_184_194 : decode (zm_code 184) 194 = .ok (.ifCond .ne 13, 3) := by decide +kernel
theorem d_184_197 : decode (zm_code 184) 197 = .ok (.aload_n 0, 1) := by decide +kernel
theorem d_184_198 : decode (zm_code 184) 198 = .ok (.ldc2_w 325, 3) := by decide +kernel
theorem d_184_201 : decode (zm_code 184) 201 = .ok (.invokevirtual 351, 3) := by decide +kernel
theorem d_184_204 : decode (zm_code 184) 204 = .ok (.ifCond .eq 73, 3) := by decide +kernel
theorem d_184_207 : decode (zm_code 184) 207 = .ok (.aload_n 0, 1) := by decide +kernel
theorem d_184_208 : decode (zm_code 184) 208 = .ok (.ldc2_w 323, 3) := by decide +kernel
theorem d_184_211 : decode (zm_code 184) 211 = .ok (.invokevirtual 351, 3) := by decide +kernel
theorem d_184_214 : decode (zm_code 184) 214 = .ok (.ifCond .eq 8, 3) := by decide +kernel
theorem d_184_217 : decode (zm_code 184) 217 = .ok (.bipush 15, 2) := by decide +kernel
theorem d_184_219 : decode (zm_code 184) 219 = .ok (.goto 5, 3) := by decide +kernel
theorem d_184_222 : decode (zm_code 184) 222 = .ok (.bipush 16, 2) := by decide +kernel
theorem d_184_224 : decode (zm_code 184) 224 = .ok (.istore_n 3, 1) := by decide +kernel
theorem d_184_225 : decode (zm_code 184) 225 = .ok (.aload_n 0, 1) := by decide +kernel
theorem d_184_226 : decode (zm_code 184) 226 = .ok (.invokevirtual 274, 3) := by decide +kernel
theorem d_184_229 : decode (zm_code 184) 229 = .ok (.aload_n 0, 1) := by decide +kernel
theorem d_184_230 : decode (zm_code 184) 230 = .ok (.invokevirtual 268, 3) := by decide +kernel
theorem d_184_233 : decode (zm_code 184) 233 = .ok (.aload_n 0, 1) := by decide +kernel
theorem d_184_234 : decode (zm_code 184) 234 = .ok (.bipush 40, 2) := by decide +kernel
theorem d_184_236 : decode (zm_code 184) 236 = .ok (.invokevirtual 271, 3) := by decide +kernel
theorem d_184_239 : decode (zm_code 184) 239 = .ok (.ifCond .ne 12, 3) := by decide +kernel
theorem d_184_242 : decode (zm_code 184) 242 = .ok (.aload_n 0, 1) := by decide +kernel
theorem d_184_243 : decode (zm_code 184) 243 = .ok (.iconst 1, 1) := by decide +kernel
theorem d_184_244 : decode (zm_code 184) 244 = .ok (.aload_n 0, 1) := by decide +kernel
theorem d_184_245 : decode (zm_code 184) 245 = .ok (.getfield 23, 3) := by decide +kernel
theorem d_184_248 : decode (zm_code 184) 248 = .ok (.invokevirtual 257, 3) := by decide +kernel
theorem d_184_251 : decode (zm_code 184) 251 = .ok (.aload_n 0, 1) := by decide +kernel
theorem d_184_252 : decode (zm_code 184) 252 = .ok (.iconst 3, 1) := by decide +kernel
theorem d_184_253 : decode (zm_code 184) 253 = .ok (.invokevirtual 358, 3) := by decide +kernel
theorem d_184_256 : decode (zm_code 184) 256 = .ok (.aload_n 0, 1) := by decide +kernel
theorem d_184_257 : decode (zm_code 184) 257 = .ok (.getfield 36, 3) := by decide +kernel
theorem d_184_260 : decode (zm_code 184) 260 = .ok (.ifCond .ne 15, 3) := by decide +kernel
theorem d_184_263 : decode (zm_code 184) 263 = .ok (.aload_n 0, 1) := by decide +kernel
theorem d_184_264 : decode (zm_code 184) 264 = .ok (.getfield 128, 3) := by decide +kernel
theorem d_184_267 : decode (zm_code 184) 267 = .ok (.aload_n 0, 1) := by decide +kernel
theorem d_184_268 : decode (zm_code 184) 268 = .ok (.getfield 134, 3) := by decide +kernel
theorem d_184_271 : decode (zm_code 184) 271 = .ok (.iconst 1, 1) := by decide +kernel
theorem d_184_272 : decode (zm_code 184) 272 = .ok (.isub, 1) := by decide +kernel
theorem d_184_273 : decode (zm_code 184) 273 = .ok (.iload_n 3, 1) := by decide +kernel
theorem d_184_274 : decode (zm_code 184) 274 = .ok (.iastore, 1) := by decide +kernel
theorem d_184_275 : decode (zm_code 184) 275 = .ok (.iconst 0, 1) := by decide +kernel
theorem d_184_276 : decode (zm_code 184) 276 = .ok (.ireturn, 1) := by decide +kernel
theorem d_184_277 : decode (zm_code 184) 277 = .ok (.aload_n 0, 1) := by decide +kernel
theorem d_184_278 : decode (zm_code 184) 278 = .ok (.getfield 20, 3) := by decide +kernel
theorem d_184_281 : decode (zm_code 184) 281 = .ok (.iconst 2, 1) := by decide +kernel
theorem d_184_282 : decode (zm_code 184) 282 = .ok (.if_icmp .ne 7, 3) := by decide +kernel
theorem d_184_285 : decode (zm_code 184) 285 = .ok (.iconst 0, 1) := by decide +kernel
theorem d_184_286 : decode (zm_code 184) 286 = .ok (.goto 89, 3) := by decide +kernel
theorem d_184_289 : decode (zm_code 184) 289 = .ok (.aload_n 0, 1) := by decide +kernel
theorem d_184_290 : decode (zm_code 184) 290 = .ok (.ldc2_w 307, 3) := by decide +kernel
theorem d_184_293 : decode (zm_code 184) 293 = .ok (.invokevirtual 351, 3) := by decide +kernel
theorem d_184_296 : decode (zm_code 184) 296 = .ok (.ifCond .eq 7, 3) := by decide +kernel
theorem d_184_299 : decode (zm_code 184) 299 = .ok (.iconst 1, 1) := by decide +kernel
theorem d_184_300 : decode (zm_code 184) 300 = .ok (.goto 75, 3) := by decide +kernel
theorem d_184_303 : decode (zm_code 184) 303 = .ok (.aload_n 0, 1) := by decide +kernel
theorem d_184_304 : decode (zm_code 184) 304 = .ok (.ldc2_w 309, 3) := by decide +kernel
theorem d_184_307 : decode (zm_code 184) 307 = .ok (.invokevirtual 351, 3) := by decide +kernel
theorem d_184_310 : decode (zm_code 184) 310 = .ok (.ifCond .eq 7, 3) := by decide +kernel
theorem d_184_313 : decode (zm_code 184) 313 = .ok (.iconst 2, 1) := by decide +kernel
theorem d_184_314 : decode (zm_code 184) 314 = .ok (.goto 61, 3) := by decide +kernel
theorem d_184_317 : decode (zm_code 184) 317 = .ok (.aload_n 0, 1) := by decide +kernel
theorem d_184_318 : decode (zm_code 184) 318 = .ok (.ldc2_w 311, 3) := by decide +kernel
theorem d_184_321 : decode (zm_code 184) 321 = .ok (.invokevirtual 351, 3) := by decide +kernel
theorem d_184_324 : decode (zm_code 184) 324 = .ok (.ifCond .eq 7, 3) := by decide +kernel
theorem d_184_327 : decode (zm_code 184) 327 = .ok (.iconst 3, 1) := by decide +kernel
theorem d_184_328 : decode (zm_code 184) 328 = .ok (.goto 47, 3) := by decide +kernel
theorem d_184_331 : decode (zm_code 184) 331 = .ok (.aload_n 0, 1) := by decide +kernel
theorem d_184_332 : decode (zm_code 184) 332 = .ok (.ldc2_w 279, 3) := by decide +kernel
theorem d_184_335 : decode (zm_code 184) 335 = .ok (.invokevirtual 351, 3) := by decide +kernel
theorem d_184_338 : decode (zm_code 184) 338 = .ok (.ifCond .eq 7, 3) := by decide +kernel
theorem d_184_341 : decode (zm_code 184) 341 = .ok (.iconst 4, 1) := by decide +kernel
theorem d_184_342 : decode (zm_code 184) 342 = .ok (.goto 33, 3) := by decide +kernel
theorem d_184_345 : decode (zm_code 184) 345 = .ok (.aload_n 0, 1) := by decide +kernel
theorem d_184_346 : decode (zm_code 184) 346 = .ok (.ldc2_w 281, 3) := by decide +kernel
theorem d_184_349 : decode (zm_code 184) 349 = .ok (.invokevirtual 351, 3) := by decide +kernel
theorem d_184_352 : decode (zm_code 184) 352 = .ok (.ifCond .eq 7, 3) := by decide +kernel
theorem d_184_355 : decode (zm_code 184) 355 = .ok (.iconst 5, 1) := by decide +kernel
theorem d_184_356 : decode (zm_code 184) 356 = .ok (.goto 19, 3) := by decide +kernel
theorem d_184_359 : decode (zm_code 184) 359 = .ok (.aload_n 0, 1) := by decide +kernel
theorem d_184_360 : decode (zm_code 184) 360 = .ok (.ldc2_w 313, 3) := by decide +kernel
theorem d_184_363 : decode (zm_code 184) 363 = .ok (.invokevirtual 351, 3) := by decide +kernel
theorem d_184_366 : decode (zm_code 184) 366 = .ok (.ifCond .eq 8, 3) := by decide +kernel
theorem d_184_369 : decode (zm_code 184) 369 = .ok (.bipush 6, 2) := by decide +kernel
theorem d_184_371 : decode (zm_code 184) 371 = .ok (.goto 4, 3) := by decide +kernel
theorem d_184_374 : decode (zm_code 184) 374 = .ok (.iconst (-1), 1) := by decide +kernel
theorem d_184_375 : decode (zm_code 184) 375 = .ok (.istore_n 3, 1) := by decide +kernel
theorem d_184_376 : decode (zm_code 184) 376 = .ok (.iload_n 3, 1) := by decide +kernel
theorem d_184_377 : decode (zm_code 184) 377 = .ok (.iconst (-1), 1) := by decide +kernel
theorem d_184_378 : decode (zm_code 184) 378 = .ok (.if_icmp .ne 12, 3) := by decide +kernel
theorem d_184_381 : decode (zm_code 184) 381 = .ok (.aload_n 0, 1) := by decide +kernel
theorem d_184_382 : decode (zm_code 184) 382 = .ok (.iconst 1, 1) := by decide +kernel
theorem d_184_383 : decode (zm_code 184) 383 = .ok (.aload_n 0, 1) := by decide +kernel
theorem d_184_384 : decode (zm_code 184) 384 = .ok (.getfield 23, 3) := by decide +kernel
theorem d_184_387 : decode (zm_code 184) 387 = .ok (.invokevirtual 257, 3) := by decide +kernel
theorem d_184_390 : decode (zm_code 184) 390 = .ok (.aload_n 0, 1) := by decide +kernel
theorem d_184_391 : decode (zm_code 184) 391 = .ok (.getfield 36, 3) := by decide +kernel
theorem d_184_394 : decode (zm_code 184) 394 = .ok (.ifCond .le 5, 3) := by decide +kernel
theorem d_184_397 : decode (zm_code 184) 397 = .ok (.iconst 1, 1) := by decide +kernel
theorem d_184_398 : decode (zm_code 184) 398 = .ok (.ireturn, 1) := by decide +kernel
theorem d_184_399 : decode (zm_code 184) 399 = .ok (.aload_n 0, 1) := by decide +kernel
theorem d_184_400 : decode (zm_code 184) 400 = .ok (.iload_n 3, 1) := by decide +kernel
theorem d_184_401 : decode (zm_code 184) 401 = .ok (.aload_n 0, 1) := by decide +kernel
theorem d_184_402 : decode (zm_code 184) 402 = .ok (.getfield 29, 3) := by decide +kernel
theorem d_184_405 : decode (zm_code 184) 405 = .ok (.invokevirtual 342, 3) := by decide +kernel
theorem d_184_408 : decode (zm_code 184) 408 = .ok (.aload_n 0, 1) := by decide +kernel
theorem d_184_409 : decode (zm_code 184) 409 = .ok (.invokevirtual 274, 3) := by decide +kernel
theorem d_184_412 : decode (zm_code 184) 412 = .ok (.iconst 1, 1) := by decide +kernel
theorem d_184_413 : decode (zm_code 184) 413 = .ok (.ireturn, 1) := by decide +kernel
theorem d_185_0 : decode (zm_code 185) 0 = .ok (.iload_n 0, 1) := by decide +kernel
theorem d_185_1 : decode (zm_code 185) 1 = .ok (.iconst 1, 1) := by decide +kernel
theorem d_185_2 : decode (zm_code 185) 2 = .ok (.if_icmp .eq 8, 3) := by decide +kernel
theorem d_185_5 : decode (zm_code 185) 5 = .ok (.iload_n 0, 1) := by decide +kernel
theorem d_185_6 : decode (zm_code 185) 6 = .ok (.iconst 5, 1) := by decide +kernel
theorem d_185_7 : decode (zm_code 185) 7 = .ok (.if_icmp .ne 7, 3) := by decide +kernel
theorem d_185_10 : decode (zm_code 185) 10 = .ok (.iconst 1, 1) := by decide +kernel
theorem d_185_11 : decode (zm_code 185) 11 = .ok (.goto 4, 3) := by decide +kernel
theorem d_185_14 : decode (zm_code 185) 14 = .ok (.iconst 0, 1) := by decide +kernel
theorem d_185_15 : decode (zm_code 185) 15 = .ok (.ireturn, 1) := by decide +kernel
theorem d_186_0 : decode (zm_code 186) 0 = .ok (.aload_n 0, 1) := by decide +kernel
theorem d_186_1 : decode (zm_code 186) 1 = .ok (.getfield 140, 3) := by decide +kernel
theorem d_186_4 : decode (zm_code 186) 4 = .ok (.aload_n 0, 1) := by decide +kernel
theorem d_186_5 : decode (zm_code 186) 5 = .ok (.getfield 143, 3) := by decide +kernel
theorem d_186_8 : decode (zm_code 186) 8 = .ok (.iload_n 1, 1) := by decide +kernel
theorem d_186_9 : decode (zm_code 186) 9 = .ok (.iastore, 1) := by decide +kernel
theorem d_186_10 : decode (zm_code 186) 10 = .ok (.aload_n 0, 1) := by decide +kernel
theorem d_186_11 : decode (zm_code 186) 11 = .ok (.dup, 1) := by decide +kernel
theorem d_186_12 : decode (zm_code 186) 12 = .ok (.getfield 143, 3) := by decide +kernel
theorem d_186_15 : decode (zm_code 186) 15 = .ok (.iconst 1, 1) := by decide +kernel
theorem d_186_16 : decode (zm_code 186) 16 = .ok (.iadd, 1) := by decide +kernel
theorem d_186_17 : decode (zm_code 186) 17 = .ok (.putfield 143, 3) := by decide +kernel
theorem d_186_20 : decode (zm_code 186) 20 = .ok (.return_, 1) := by decide +kernel
theorem d_187_0 : decode (zm_code 187) 0 = .ok (.aload_n 0, 1) := by decide +kernel
theorem d_187_1 : decode (zm_code 187) 1 = .ok (.getfield 20, 3) := by decide +kernel
theorem d_187_4 : decode (zm_code 187) 4 = .ok (.iconst 3, 1) := by decide +kernel
theorem d_187_5 : decode (zm_code 187) 5 = .ok (.if_icmp .ne 15, 3) := by decide +kernel
theorem d_187_8 : decode (zm_code 187) 8 = .ok (.aload_n 0, 1) := by decide +kernel
theorem d_187_9 : decode (zm_code 187) 9 = .ok (.getfield 29, 3) := by decide +kernel
theorem d_187_12 : decode (zm_code 187) 12 = .ok (.iload_n 1, 1) := by decide +kernel
theorem d_187_13 : decode (zm_code 187) 13 = .ok (.if_icmp .ne 7, 3) := by decide +kernel
theorem d_187_16 : decode (zm_code 187) 16 = .ok (.iconst 1, 1) := by decide +kernel
theorem d_187_17 : decode (zm_code 187) 17 = .ok (.goto 4, 3) := by decide +kernel
theorem d_187_20 : decode (zm_code 187) 20 = .ok (.iconst 0, 1) := by decide +kernel
theorem d_187_21 : decode (zm_code 187) 21 = .ok (.ireturn, 1) := by decide +kernel
theorem d_188_0 : decode (zm_code 188) 0 = .ok (.aload_n 0, 1) := by decide +kernel
theorem d_188_1 : decode (zm_code 188) 1 = .ok (.getfield 137, 3) := by decide +kernel
theorem d_188_4 : decode (zm_code 188) 4 = .ok (.bipush 7, 2) := by decide +kernel
theorem d_188_6 : decode (zm_code 188) 6 = .ok (.if_icmp .ne 12, 3) := by decide +kernel
theorem d_188_9 : decode (zm_code 188) 9 = .ok (.aload_n 0, 1) := by decide +kernel
theorem d_188_10 : decode (zm_code 188) 10 = .ok (.iconst 5, 1) := by decide +kernel
theorem d_188_11 : decode (zm_code 188) 11 = .ok (.aload_n 0, 1) := by decide +kernel
theorem d_188_12 : decode (zm_code 188) 12 = .ok (.getfield 23, 3) := by decide +kernel
theorem d_188_15 : decode (zm_code 188) 15 = .ok (.invokevirtual 257, 3) := by decide +kernel
theorem d_188_18 : decode (zm_code 188) 18 = .ok (.aload_n 0, 1) := by decide +kernel
theorem d_188_19 : decode (zm_code 188) 19 = .ok (.getfield 36, 3) := by decide +kernel
theorem d_188_22 : decode (zm_code 188) 22 = .ok (.ifCond .le 4, 3) := by decide +kernel
theorem d_188_25 : decode (zm_code 188) 25 = .ok (.return_, 1) := by decide +kernel
theorem d_188_26 : decode (zm_code 188) 26 = .ok (.aload_n 0, 1) := by decide +kernel
theorem d_188_27 : decode (zm_code 188) 27 = .ok (.dup, 1) := by decide +kernel
theorem d_188_28 : decode (zm_code 188) 28 = .ok (.getfield 137, 3) := by decide +kernel
theorem d_188_31 : decode (zm_code 188) 31 = .ok (.iconst 1, 1) := by decide +kernel
theorem d_188_32 : decode (zm_code 188) 32 = .ok (.iadd, 1) := by decide +kernel
theorem d_188_33 : decode (zm_code 188) 33 = .ok (.putfield 137, 3) := by decide +kernel
theorem d_188_36 : decode (zm_code 188) 36 = .ok (.aload_n 0, 1) := by decide +kernel
theorem d_188_37 : decode (zm_code 188) 37 = .ok (.invokevirtual 274, 3) := by decide +kernel
theorem d_188_40 : decode (zm_code 188) 40 = .ok (.aload_n 0, 1) := by decide +kernel
theorem d_188_41 : decode (zm_code 188) 41 = .ok (.iload_n 1, 1) := by decide +kernel
theorem d_188_42 : decode (zm_code 188) 42 = .ok (.invokevirtual 345, 3) := by decide +kernel
theorem d_188_45 : decode (zm_code 188) 45 = .ok (.return_, 1) := by decide +kernel
theorem d_189_0 : decode (zm_code 189) 0 = .ok (.aload_n 0, 1) := by decide +kernel
theorem d_189_1 : decode (zm_code 189) 1 = .ok (.getfield 99, 3) := by decide +kernel
theorem d_189_4 : decode (zm_code 189) 4 = .ok (.sipush 1600, 3) := by decide +kernel
theorem d_189_7 : decode (zm_code 189) 7 = .ok (.aload_n 0, 1) := by decide +kernel
theorem d_189_8 : decode (zm_code 189) 8 = .ok (.getfield 115, 3) := by decide +kernel
theorem d_189_11 : decode (zm_code 189) 11 = .ok (.imul, 1) := by decide +kernel
theorem d_189_12 : decode (zm_code 189) 12 = .ok (.aload_n 0, 1) := by decide +kernel
theorem d_189_13 : decode (zm_code 189) 13 = .ok (.getfield 112, 3) := by decide +kernel
theorem d_189_16 : decode (zm_code 189) 16 = .ok (.iadd, 1) := by decide +kernel
theorem d_189_17 : decode (zm_code 189) 17 = .ok (.iload_n 1, 1) := by decide +kernel
theorem d_189_18 : decode (zm_code 189) 18 = .ok (.iastore, 1) := by decide +kernel
theorem d_189_19 : decode (zm_code 189) 19 = .ok (.aload_n 0, 1) := by decide +kernel
theorem d_189_20 : decode (zm_code 189) 20 = .ok (.getfield 102, 3) := by decide +kernel
theorem d_189_23 : decode (zm_code 189) 23 = .ok (.sipush 1600, 3) := by decide +kernel
theorem d_189_26 : decode (zm_code 189) 26 = .ok (.aload_n 0, 1) := by decide +kernel
theorem d_189_27 : decode (zm_code 189) 27 = .ok (.getfield 115, 3) := by decide +kernel
theorem d_189_30 : decode (zm_code 189) 30 = .ok (.imul, 1) := by decide +kernel
theorem d_189_31 : decode (zm_code 189) 31 = .ok (.aload_n 0, 1) := by decide +kernel
theorem d_189_32 : decode (zm_code 189) 32 = .ok (.getfield 112, 3) := by decide +kernel
theorem d_189_35 : decode (zm_code 189) 35 = .ok (.iadd, 1) := by decide +kernel
theorem d_189_36 : decode (zm_code 189) 36 = .ok (.iload_n 2, 1) := by decide +kernel
theorem d_189_37 : decode (zm_code 189) 37 = .ok (.iastore, 1) := by decide +kernel
theorem d_189_38 : decode (zm_code 189) 38 = .ok (.aload_n 0, 1) := by decide +kernel
theorem d_189_39 : decode (zm_code 189) 39 = .ok (.dup, 1) := by decide +kernel
theorem d_189_40 : decode (zm_code 189) 40 = .ok (.getfield 112, 3) := by decide +kernel
theorem d_189_43 : decode (zm_code 189) 43 = .ok (.iconst 1, 1) := by decide +kernel
theorem d_189_44 : decode (zm_code 189) 44 = .ok (.iadd, 1) := by decide +kernel
theorem d_189_45 : decode (zm_code 189) 45 = .ok (.putfield 112, 3) := by decide +kernel
theorem d_189_48 : decode (zm_code 189) 48 = .ok (.return_, 1) := by decide +kernel
theorem d_190_0 : decode (zm_code 190) 0 = .ok (.aload_n 0, 1) := by decide +kernel
theorem d_190_1 : decode (zm_code 190) 1 = .ok (.invokevirtual 268, 3) := by decide +kernel
theorem d_190_4 : decode (zm_code 190) 4 = .ok (.aload_n 0, 1) := by decide +kernel
theorem d_190_5 : decode (zm_code 190) 5 = .ok (.getfield 36, 3) := by decide +kernel
theorem d_190_8 : decode (zm_code 190) 8 = .ok (.ifCond .le 5, 3) := by decide +kernel
theorem d_190_11 : decode (zm_code 190) 11 = .ok (.iconst 0, 1) := by decide +kernel
theorem d_190_12 : decode (zm_code 190) 12 = .ok (.ireturn, 1) := by decide +kernel
theorem d_190_13 : decode (zm_code 190) 13 = .ok (.aload_n 0, 1) := by decide +kernel
theorem d_190_14 : decode (zm_code 190) 14 = .ok (.getfield 134, 3) := by decide +kernel
theorem d_190_17 : decode (zm_code 190) 17 = .ok (.iconst 1, 1) := by decide +kernel
theorem d_190_18 : decode (zm_code 190) 18 = .ok (.isub, 1) := by decide +kernel
theorem d_190_19 : decode (zm_code 190) 19 = .ok (.istore_n 1, 1) := by decide +kernel
theorem d_190_20 : decode (zm_code 190) 20 = .ok (.aload_n 0, 1) := by decide +kernel
theorem d_190_21 : decode (zm_code 190) 21 = .ok (.getfield 118, 3) := by decide +kernel
theorem d_190_24 : decode (zm_code 190) 24 = .ok (.iload_n 1, 1) := by decide +kernel
theorem d_190_25 : decode (zm_code 190) 25 = .ok (.iaload, 1) := by decide +kernel
theorem d_190_26 : decode (zm_code 190) 26 = .ok (.istore_n 2, 1) := by decide +kernel
theorem d_190_27 : decode (zm_code 190) 27 = .ok (.iload_n 2, 1) := by decide +kernel
theorem d_190_28 : decode (zm_code 190) 28 = .ok (.invokestatic 348, 3) := by decide +kernel
theorem d_190_31 : decode (zm_code 190) 31 = .ok (.istore_n 3, 1) := by decide +kernel
theorem d_190_32 : decode (zm_code 190) 32 = .ok (.aload_n 0, 1) := by decide +kernel
theorem d_190_33 : decode (zm_code 190) 33 = .ok (.getfield 121, 3) := by decide +kernel
theorem d_190_36 : decode (zm_code 190) 36 = .ok (.iload_n 1, 1) := by decide +kernel
theorem d_190_37 : decode (zm_code 190) 37 = .ok (.iaload, 1) := by decide +kernel
theorem d_190_38 : decode (zm_code 190) 38 = .ok (.iconst 2, 1) := by decide +kernel
theorem d_190_39 : decode (zm_code 190) 39 = .ok (.if_icmp .ge 149, 3) := by decide +kernel
theorem d_190_42 : decode (zm_code 190) 42 = .ok (.aload_n 0, 1) := by decide +kernel
theorem d_190_43 : decode (zm_code 190) 43 = .ok (.bipush 43, 2) := by decide +kernel
theorem d_190_45 : decode (zm_code 190) 45 = .ok (.invokevirtual 271, 3) := by decide +kernel
theorem d_190_48 : decode (zm_code 190) 48 = .ok (.ifCond .ne 39, 3) := by decide +kernel
theorem d_190_51 : decode (zm_code 190) 51 = .ok (.aload_n 0, 1) := by decide +kernel
theorem d_190_52 : decode (zm_code 190) 52 = .ok (.bipush 45, 2) := by decide +kernel
theorem d_190_54 : decode (zm_code 190) 54 = .ok (.invokevirtual 271, 3) := by decide +kernel
theorem d_190_57 : decode (zm_code 190) 57 = .ok (.ifCond .ne 30, 3) := by decide +kernel
theorem d_190_60 : decode (zm_code 190) 60 = .ok (.aload_n 0, 1) := by decide +kernel
theorem d_190_61 : decode (zm_code 190) 61 = .ok (.bipush 42, 2) := by decide +kernel
theorem d_190_63 : decode (zm_code 190) 63 = .ok (.invokevirtual 271, 3) := by decide +kernel
theorem d_190_66 : decode (zm_code 190) 66 = .ok (.ifCond .ne 21, 3) := by decide +kernel
theorem d_190_69 : decode (zm_code 190) 69 = .ok (.aload_n 0, 1) := by decide +kernel
theorem d_190_70 : decode (zm_code 190) 70 = .ok (.bipush 47, 2) := by decide +kernel
theorem d_190_72 : decode (zm_code 190) 72 = .ok (.invokevirtual 271, 3) := by decide +kernel
theorem d_190_75 : decode (zm_code 190) 75 = .ok (.ifCond .ne 12, 3) := by decide +kernel
theorem d_190_78 : decode (zm_code 190) 78 = .ok (.aload_n 0, 1) := by decide +kernel
theorem d_190_79 : decode (zm_code 190) 79 = .ok (.bipush 37, 2) := by decide +kernel
theorem d_190_81 : decode (zm_code 190) 81 = .ok (.invokevirtual 271, 3) := by decide +kernel
theorem d_190_84 : decode (zm_code 190) 84 = .ok (.ifCond .eq 104, 3) := by decide +kernel
theorem d_190_87 : decode (zm_code 190) 87 = .ok (.aload_n 0, 1) := by decide +kernel
theorem d_190_88 : decode (zm_code 190) 88 = .ok (.aload_n 0, 1) := by decide +kernel
theorem d_190_89 : decode (zm_code 190) 89 = .ok (.bipush 43, 2) := by decide +kernel
theorem d_190_91 : decode (zm_code 190) 91 = .ok (.invokevirtual 271, 3) := by decide +kernel
theorem d_190_94 : decode (zm_code 190) 94 = .ok (.ifCond .ne 12, 3) := by decide +kernel
theorem d_190_97 : decode (zm_code 190) 97 = .ok (.aload_n 0, 1) := by decide +kernel
theorem d_190_98 : decode (zm_code 190) 98 = .ok (.bipush 45, 2) := by decide +kernel
theorem d_190_100 : decode (zm_code 190) 100 = .ok (.invokevirtual 271, 3) := by decide +kernel
theorem d_190_103 : decode (zm_code 190) 103 = .ok (.ifCond .eq 7, 3) := by decide +kernel
theorem d_190_106 : decode (zm_code 190) 106 = .ok (.iconst 5, 1) := by decide +kernel
theorem d_190_107 : decode (zm_code 190) 107 = .ok (.goto 5, 3) := by decide +kernel
theorem d_190_110 : decode (zm_code 190) 110 = .ok (.bipush 6, 2) := by decide +kernel
theorem d_190_112 : decode (zm_code 190) 112 = .ok (.invokevirtual 361, 3) := by decide +kernel
theorem d_190_115 : decode (zm_code 190) 115 = .ok (.aload_n 0, 1) := by decide +kernel
theorem d_190_116 : decode (zm_code 190) 116 = .ok (.aload_n 0, 1) := by decide +kernel
theorem d_190_117 : decode (zm_code 190) 117 = .ok (.bipush 43, 2) := by decide +kernel
theorem d_190_119 : decode (zm_code 190) 119 = .ok (.invokevirtual 271, 3) := by decide +kernel
theorem d_190_122 : decode (zm_code 190) 122 = .ok (.ifCond .eq 8, 3) := by decide +kernel
theorem d_190_125 : decode (zm_code 190) 125 = .ok (.bipush 10, 2) := by decide +kernel
theorem d_190_127 : decode (zm_code 190) 127 = .ok (.goto 47, 3) := by decide +kernel
theorem d_190_130 : decode (zm_code 190) 130 = .ok (.aload_n 0, 1) := by decide +kernel
theorem d_190_131 : decode (zm_code 190) 131 = .ok (.bipush 45, 2) := by decide +kernel
theorem d_190_133 : decode (zm_code 190) 133 = .ok (.invokevirtual 271, 3) := by decide +kernel
theorem d_190_136 : decode (zm_code 190) 136 = .ok (.ifCond .eq 8, 3) := by decide +kernel
theorem d_190_139 : decode (zm_code 190) 139 = .ok (.bipush 11, 2) := by decide +kernel
theorem d_190_141 : decode (zm_code 190) 141 = .ok (.goto 33, 3) := by decide +kernel
theorem d_190_144 : decode (zm_code 190) 144 = .ok (.aload_n 0, 1) := by decide +kernel
theorem d_190_145 : decode (zm_code 190) 145 = .ok (.bipush 42, 2) := by decide +kernel
theorem d_190_147 : decode (zm_code 190) 147 = .ok (.invokevirtual 271, 3) := by decide +kernel
theorem d_190_150 : decode (zm_code 190) 150 = .ok (.ifCond .eq 8, 3) := by decide +kernel
theorem d_190_153 : decode (zm_code 190) 153 = .ok (.bipush 12, 2) := by decide +kernel
theorem d_190_155 : decode (zm_code 190) 155 = .ok (.goto 19, 3) := by decide +kernel
theorem d_190_158 : decode (zm_code 190) 158 = .ok (.aload_n 0, 1) := by decide +kernel
theorem d_190_159 : decode (zm_code 190) 159 = .ok (.bipush 47, 2) := by decide +kernel
theorem d_190_161 : decode (zm_code 190) 161 = .ok (.invokevirtual 271, 3) := by decide +kernel
theorem d_190_164 : decode (zm_code 190) 164 = .ok (.ifCond .eq 8, 3) := by decide +kernel
theorem d_190_167 : decode (zm_code 190) 167 = .ok (.bipush 13, 2) := by decide +kernel
theorem d_190_169 : decode (zm_code 190) 169 = .ok (.goto 5, 3) := by decide +kernel
theorem d_190_172 : decode (zm_code 190) 172 = .ok (.bipush 14, 2) := by decide +kernel
theorem d_190_174 : decode (zm_code 190) 174 = .ok (.invokevirtual 355, 3) := by decide +kernel
theorem d_190_177 : decode (zm_code 190) 177 = .ok (.aload_n 0, 1) := by decide +kernel
theorem d_190_178 : decode (zm_code 190) 178 = .ok (.invokevirtual 274, 3) := by decide +kernel
theorem d_190_181 : decode (zm_code 190) 181 = .ok (.aload_n 0, 1) := by decide +kernel
theorem d_190_182 : decode (zm_code 190) 182 = .ok (.iconst 0, 1) := by decide +kernel
theorem d_190_183 : decode (zm_code 190) 183 = .ok (.putfield 146, 3) := by decide +kernel
theorem d_190_186 : decode (zm_code 190) 186 = .ok (.iconst 1, 1) := by decide +kernel
theorem d_190_187 : decode (zm_code 190) 187 = .ok (.ireturn, 1) := by decide +kernel
theorem d_190_188 : decode (zm_code 190) 188 = .ok (.iload_n 3, 1) := by decide +kernel
theorem d_190_189 : decode (zm_code 190) 189 = .ok (.ifCond .eq 96, 3) := by decide +kernel
theorem d_190_192 : decode (zm_code 190) 192 = .ok (.aload_n 0, 1) := by decide +kernel
theorem d_190_193 : decode (zm_code 190) 193 = .ok (.getfield 121, 3) := by decide +kernel
theorem d_190_196 : decode (zm_code 190) 196 = .ok (.iload_n 1, 1) := by decide +kernel
theorem d_190_197 : decode (zm_code 190) 197 = .ok (.iaload, 1) := by decide +kernel
theorem d_190_198 : decode (zm_code 190) 198 = .ok (.ifCond .ne 87, 3) := by decide +kernel
theorem d_190_201 : decode (zm_code 190) 201 = .ok (.aload_n 0, 1) := by decide +kernel
theorem d_190_202 : decode (zm_code 190) 202 = .ok (.bipush 60, 2) := by decide +kernel
theorem d_190_204 : decode (zm_code 190) 204 = .ok (.invokevirtual 271, 3) := by decide +kernel
theorem d_190_207 : decode (zm_code 190) 207 = .ok (.ifCond .ne 21, 3) := by decide +kernel
theorem d_190_210 : decode (zm_code 190) 210 = .ok (.aload_n 0, 1) := by decide +kernel
theorem d_190_211 : decode (zm_code 190) 211 = .ok (.bipush 62, 2) := by decide +kernel
theorem d_190_213 : decode (zm_code 190) 213 = .ok (.invokevirtual 271, 3) := by decide +kernel
theorem d_190_216 : decode (zm_code 190) 216 = .ok (.ifCond .ne 12, 3) := by decide +kernel
theorem d_190_219 : decode (zm_code 190) 219 = .ok (.aload_n 0, 1) := by decide +kernel
theorem d_190_220 : decode (zm_code 190) 220 = .ok (.bipush 61, 2) := by decide +kernel
theorem d_190_222 : decode (zm_code 190) 222 = .ok (.invokevirtual 271, 3) := by decide +kernel
theorem d_190_225 : decode (zm_code 190) 225 = .ok (.ifCond .eq 60, 3) := by decide +kernel
theorem d_190_228 : decode (zm_code 190) 228 = .ok (.aload_n 0, 1) := by decide +kernel
theorem d_190_229 : decode (zm_code 190) 229 = .ok (.iconst 5, 1) := by decide +kernel
theorem d_190_230 : decode (zm_code 190) 230 = .ok (.invokevirtual 361, 3) := by decide +kernel
theorem d_190_233 : decode (zm_code 190) 233 = .ok (.aload_n 0, 1) := by decide +kernel
theorem d_190_234 : decode (zm_code 190) 234 = .ok (.aload_n 0, 1) := by decide +kernel
theorem d_190_235 : decode (zm_code 190) 235 = .ok (.bipush 60, 2) := by decide +kernel
theorem d_190_237 : decode (zm_code 190) 237 = .ok (.invokevirtual 271, 3) := by decide +kernel
theorem d_190_240 : decode (zm_code 190) 240 = .ok (.ifCond .eq 8, 3) := by decide +kernel
theorem d_190_243 : decode (zm_code 190) 243 = .ok (.bipush 17, 2) := by decide +kernel
theorem d_190_245 : decode (zm_code 190) 245 = .ok (.goto 19, 3) := by decide +kernel
theorem d_190_248 : decode (zm_code 190) 248 = .ok (.aload_n 0, 1) := by decide +kernel
theorem d_190_249 : decode (zm_code 190) 249 = .ok (.bipush 62, 2) := by decide +kernel
theorem d_190_251 : decode (zm_code 190) 251 = .ok (.invokevirtual 271, 3) := by decide +kernel
theorem d_190_254 : decode (zm_code 190) 254 = .ok (.ifCond .eq 8, 3) := by decide +kernel
theorem d_190_257 : decode (zm_code 190) 257 = .ok (.bipush 18, 2) := by decide +kernel
theorem d_190_259 : decode (zm_code 190) 259 = .ok (.goto 5, 3) := by decide +kernel
theorem d_190_262 : decode (zm_code 190) 262 = .ok (.bipush 19, 2) := by decide +kernel
theorem d_190_264 : decode (zm_code 190) 264 = .ok (.invokevirtual 355, 3) := by decide +kernel
theorem d_190_267 : decode (zm_code 190) 267 = .ok (.aload_n 0, 1) := by decide +kernel
theorem d_190_268 : decode (zm_code 190) 268 = .ok (.getfield 121, 3) := by decide +kernel
theorem d_190_271 : decode (zm_code 190) 271 = .ok (.iload_n 1, 1) := by decide +kernel
theorem d_190_272 : decode (zm_code 190) 272 = .ok (.iconst 1, 1) := by decide +kernel
theorem d_190_273 : decode (zm_code 190) 273 = .ok (.iastore, 1) := by decide +kernel
theorem d_190_274 : decode (zm_code 190) 274 = .ok (.aload_n 0, 1) := by decide +kernel
theorem d_190_275 : decode (zm_code 190) 275 = .ok (.invokevirtual 274, 3) := by decide +kernel
theorem d_190_278 : decode (zm_code 190) 278 = .ok (.aload_n 0, 1) := by decide +kernel
theorem d_190_279 : decode (zm_code 190) 279 = .ok (.iconst 0, 1) := by decide +kernel
theorem d_190_280 : decode (zm_code 190) 280 = .ok (.putfield 146, 3) := by decide +kernel
theorem d_190_283 : decode (zm_code 190) 283 = .ok (.iconst 1, 1) := by decide +kernel
theorem d_190_284 : decode (zm_code 190) 284 = .ok (.ireturn, 1) := by decide +kernel
theorem d_190_285 : decode (zm_code 190) 285 = .ok (.iload_n 3, 1) := by decide +kernel
theorem d_190_286 : decode (zm_code 190) 286 = .ok (.ifCond .eq 114, 3) := by decide +kernel
theorem d_190_289 : decode (zm_code 190) 289 = .ok (.aload_n 0, 1) := by decide +kernel
theorem d_190_290 : decode (zm_code 190) 290 = .ok (.ldc2_w 317, 3) := by decide +kernel
theorem d_190_293 : decode (zm_code 190) 293 = .ok (.invokevirtual 351, 3) := by decide +kernel
theorem d_190_296 : decode (zm_code 190) 296 = .ok (.ifCond .ne 13, 3) := by decide +kernel
theorem d_190_299 : decode (zm_code 190) 299 = .ok (.aload_n 0, 1) := by decide +kernel
theorem d_190_300 : decode (zm_code 190) 300 = .ok (.ldc2_w 315, 3) := by decide +kernel
theorem d_190_303 : decode (zm_code 190) 303 = .ok (.invokevirtual 351, 3) := by decide +kernel
theorem d_190_306 : decode (zm_code 190) 306 = .ok (.ifCond .eq 94, 3) := by decide +kernel
theorem d_190_309 : decode (zm_code 190) 309 = .ok (.aload_n 0, 1) := by decide +kernel
theorem d_190_310 : decode (zm_code 190) 310 = .ok (.getfield 121, 3) := by decide +kernel
theorem d_190_313 : decode (zm_code 190) 313 = .ok (.iload_n 1, 1) := by decide +kernel
theorem d_190_314 : decode (zm_code 190) 314 = .ok (.iaload, 1) := by decide +kernel
theorem d_190_315 : decode (zm_code 190) 315 = .ok (.ifCond .ne 12, 3) := by decide +kernel
theorem d_190_318 : decode (zm_code 190) 318 = .ok (.aload_n 0, 1) := by decide +kernel
theorem d_190_319 : decode (zm_code 190) 319 = .ok (.iconst 1, 1) := by decide +kernel
theorem d_190_320 : decode (zm_code 190) 320 = .ok (.aload_n 0, 1) := by decide +kernel
theorem d_190_321 : decode (zm_code 190) 321 = .ok (.getfield 23, 3) := by decide +kernel
theorem d_190_324 : decode (zm_code 190) 324 = .ok (.invokevirtual 257, 3) := by decide +kernel
theorem d_190_327 : decode (zm_code 190) 327 = .ok (.aload_n 0, 1) := by decide +kernel
theorem d_190_328 : decode (zm_code 190) 328 = .ok (.getfield 36, 3) := by decide +kernel
theorem d_190_331 : decode (zm_code 190) 331 = .ok (.ifCond .le 5, 3) := by decide +kernel
theorem d_190_334 : decode (zm_code 190) 334 = .ok (.iconst 0, 1) := by decide +kernel
theorem d_190_335 : decode (zm_code 190) 335 = .ok (.ireturn, 1) := by decide +kernel
theorem d_190_336 : decode (zm_code 190) 336 = .ok (.aload_n 0, 1) := by decide +kernel
theorem d_190_337 : decode (zm_code 190) 337 = .ok (.ldc2_w 317, 3) := by decide +kernel
theorem d_190_340 : decode (zm_code 190) 340 = .ok (.invokevirtual 351, 3) := by decide +kernel
theorem d_190_343 : decode (zm_code 190) 343 = .ok (.istore 4, 2) := by decide +kernel
theorem d_190_345 : decode (zm_code 190) 345 = .ok (.aload_n 0, 1) := by decide +kernel
theorem d_190_346 : decode (zm_code 190) 346 = .ok (.iload 4, 2) := by decide +kernel
theorem d_190_348 : decode (zm_code 190) 348 = .ok (.ifCond .eq 7, 3) := by decide +kernel
theorem d_190_351 : decode (zm_code 190) 351 = .ok (.iconst 2, 1) := by decide +kernel
theorem d_190_352 : decode (zm_code 190) 352 = .ok (.goto 4, 3) := by decide +kernel
theorem d_190_355 : decode (zm_code 190) 355 = .ok (.iconst 1, 1) := by decide +kernel
theorem d_190_356 : decode (zm_code 190) 356 = .ok (.invokevirtual 361, 3) := by decide +kernel
theorem d_190_359 : decode (zm_code 190) 359 = .ok (.aload_n 0, 1) := by decide +kernel
theorem d_190_360 : decode (zm_code 190) 360 = .ok (.iload 4, 2) := by decide +kernel
theorem d_190_362 : decode (zm_code 190) 362 = .ok (.ifCond .eq 8, 3) := by decide +kernel
theorem d_190_365 : decode (zm_code 190) 365 = .ok (.bipush 20, 2) := by decide +kernel
theorem d_190_367 : decode (zm_code 190) 367 = .ok (.goto 5, 3) := by decide +kernel
theorem d_190_370 : decode (zm_code 190) 370 = .ok (.bipush 21, 2) := by decide +kernel
theorem d_190_372 : decode (zm_code 190) 372 = .ok (.invokevirtual 355, 3) := by decide +kernel
theorem d_190_375 : decode (zm_code 190) 375 = .ok (.aload_n 0, 1) := by decide +kernel
theorem d_190_376 : decode (zm_code 190) 376 = .ok (.getfield 121, 3) := by decide +kernel
theorem d_190_379 : decode (zm_code 190) 379 = .ok (.iload_n 1, 1) := by decide +kernel
theorem d_190_380 : decode (zm_code 190) 380 = .ok (.iconst 0, 1) := by decide +kernel
theorem d_190_381 : decode (zm_code 190) 381 = .ok (.iastore, 1) := by decide +kernel
theorem d_190_382 : decode (zm_code 190) 382 = .ok (.aload_n 0, 1) := by decide +kernel
theorem d_190_383 : decode (zm_code 190) 383 = .ok (.getfield 124, 3) := by decide +kernel
theorem d_190_386 : decode (zm_code 190) 386 = .ok (.iload_n 1, 1) := by decide +kernel
theorem d_190_387 : decode (zm_code 190) 387 = .ok (.iconst 1, 1) := by decide +kernel
theorem d_190_388 : decode (zm_code 190) 388 = .ok (.bastore, 1) := by decide +kernel
theorem d_190_389 : decode (zm_code 190) 389 = .ok (.aload_n 0, 1) := by decide +kernel
theorem d_190_390 : decode (zm_code 190) 390 = .ok (.invokevirtual 274, 3) := by decide +kernel
theorem d_190_393 : decode (zm_code 190) 393 = .ok (.aload_n 0, 1) := by decide +kernel
theorem d_190_394 : decode (zm_code 190) 394 = .ok (.iconst 0, 1) := by decide +kernel
theorem d_190_395 : decode (zm_code 190) 395 = .ok (.putfield 146, 3) := by decide +kernel
theorem d_190_398 : decode (zm_code 190) 398 = .ok (.iconst 1, 1) := by decide +kernel
theorem d_190_399 : decode (zm_code 190) 399 = .ok (.ireturn, 1) := by decide +kernel
theorem d_190_400 : decode (zm_code 190) 400 = .ok (.iload_n 3, 1) := by decide +kernel
theorem d_190_401 : decode (zm_code 190) 401 = .ok (.ifCond .eq 21, 3) := by decide +kernel
theorem d_190_404 : decode (zm_code 190) 404 = .ok (.aload_n 0, 1) := by decide +kernel
theorem d_190_405 : decode (zm_code 190) 405 = .ok (.getfield 121, 3) := by decide +kernel
theorem d_190_408 : decode (zm_code 190) 408 = .ok (.iload_n 1, 1) := by decide +kernel
theorem d_190_409 : decode (zm_code 190) 409 = .ok (.iaload, 1) := by decide +kernel
theorem d_190_410 : decode (zm_code 190) 410 = .ok (.ifCond .ne 12, 3) := by decide +kernel
theorem d_190_413 : decode (zm_code 190) 413 = .ok (.aload_n 0, 1) := by decide +kernel
theorem d_190_414 : decode (zm_code 190) 414 = .ok (.iconst 1, 1) := by decide +kernel
theorem d_190_415 : decode (zm_code 190) 415 = .ok (.aload_n 0, 1) := by decide +kernel
theorem d_190_416 : decode (zm_code 190) 416 = .ok (.getfield 23, 3) := by decide +kernel
theorem d_190_419 : decode (zm_code 190) 419 = .ok (.invokevirtual 257, 3) := by decide +kernel
theorem d_190_422 : decode (zm_code 190) 422 = .ok (.iload_n 2, 1) := by decide +kernel
theorem d_190_423 : decode (zm_code 190) 423 = .ok (.iconst 2, 1) := by decide +kernel
theorem d_190_424 : decode (zm_code 190) 424 = .ok (.if_icmp .ge 17, 3) := by decide +kernel
theorem d_190_427 : decode (zm_code 190) 427 = .ok (.aload_n 0, 1) := by decide +kernel
theorem d_190_428 : decode (zm_code 190) 428 = .ok (.getfield 36, 3) := by decide +kernel
theorem d_190_431 : decode (zm_code 190) 431 = .ok (.ifCond .ne 8, 3) := by decide +kernel
theorem d_190_434 : decode (zm_code 190) 434 = .ok (.aload_n 0, 1) := by decide +kernel
theorem d_190_435 : decode (zm_code 190) 435 = .ok (.iconst 1, 1) := by decide +kernel
theorem d_190_436 : decode (zm_code 190) 436 = .ok (.invokevirtual 361, 3) := by decide +kernel
theorem d_190_439 : decode (zm_code 190) 439 = .ok (.iconst 0, 1) := by decide +kernel
theorem d_190_440 : decode (zm_code 190) 440 = .ok (.ireturn, 1) := by decide +kernel
theorem d_190_441 : decode (zm_code 190) 441 = .ok (.iload_n 2, 1) := by decide +kernel
theorem d_190_442 : decode (zm_code 190) 442 = .ok (.iconst 3, 1) := by decide +kernel
theorem d_190_443 : decode (zm_code 190) 443 = .ok (.if_icmp .ne 53, 3) := by decide +kernel
theorem d_190_446 : decode (zm_code 190) 446 = .ok (.aload_n 0, 1) := by decide +kernel
theorem d_190_447 : decode (zm_code 190) 447 = .ok (.bipush 44, 2) := by decide +kernel
theorem d_190_449 : decode (zm_code 190) 449 = .ok (.invokevirtual 271, 3) := by decide +kernel
theorem d_190_452 : decode (zm_code 190) 452 = .ok (.ifCond .ne 12, 3) := by decide +kernel
theorem d_190_455 : decode (zm_code 190) 455 = .ok (.aload_n 0, 1) := by decide +kernel
theorem d_190_456 : decode (zm_code 190) 456 = .ok (.iconst 1, 1) := by decide +kernel
theorem d_190_457 : decode (zm_code 190) 457 = .ok (.aload_n 0, 1) := by decide +kernel
theorem d_190_458 : decode (zm_code 190) 458 = .ok (.getfield 23, 3) := by decide +kernel
theorem d_190_461 : decode (zm_code 190) 461 = .ok (.invokevirtual 257, 3) := by decide +kernel
theorem d_190_464 : decode (zm_code 190) 464 = .ok (.aload_n 0, 1) := by decide +kernel
theorem d_190_465 : decode (zm_code 190) 465 = .ok (.getfield 36, 3) := by decide +kernel
theorem d_190_468 : decode (zm_code 190) 468 = .ok (.ifCond .le 5, 3) := by decide +kernel
theorem d_190_471 : decode (zm_code 190) 471 = .ok (.iconst 0, 1) := by decide +kernel
theorem d_190_472 : decode (zm_code 190) 472 = .ok (.ireturn, 1) := by decide +kernel
theorem d_190_473 : decode (zm_code 190) 473 = .ok (.aload_n 0, 1) := by decide +kernel
theorem d_190_474 : decode (zm_code 190) 474 = .ok (.iconst 1, 1) := by decide +kernel
theorem d_190_475 : decode (zm_code 190) 475 = .ok (.invokevirtual 361, 3) := by decide +kernel
theorem d_190_478 : decode (zm_code 190) 478 = .ok (.aload_n 0, 1) := by decide +kernel
theorem d_190_479 : decode (zm_code 190) 479 = .ok (.getfield 118, 3) := by decide +kernel
theorem d_190_482 : decode (zm_code 190) 482 = .ok (.iload_n 1, 1) := by decide +kernel
theorem d_190_483 : decode (zm_code 190) 483 = .ok (.iconst 4, 1) := by decide +kernel
theorem d_190_484 : decode (zm_code 190) 484 = .ok (.iastore, 1) := by decide +kernel
theorem d_190_485 : decode (zm_code 190) 485 = .ok (.aload_n 0, 1) := by decide +kernel
theorem d_190_486 : decode (zm_code 190) 486 = .ok (.invokevirtual 274, 3) := by decide +kernel
theorem d_190_489 : decode (zm_code 190) 489 = .ok (.aload_n 0, 1) := by decide +kernel
theorem d_190_490 : decode (zm_code 190) 490 = .ok (.iconst 0, 1) := by decide +kernel
theorem d_190_491 : decode (zm_code 190) 491 = .ok (.putfield 146, 3) := by decide +kernel
theorem d_190_494 : decode (zm_code 190) 494 = .ok (.iconst 1, 1) := by decide +kernel
theorem d_190_495 : decode (zm_code 190) 495 = .ok (.ireturn, 1) := by decide +kernel
theorem d_190_496 : decode (zm_code 190) 496 = .ok (.aload_n 0, 1) := by decide +kernel
theorem d_190_497 : decode (zm_code 190) 497 = .ok (.iload_n 2, 1) := by decide +kernel
theorem d_190_498 : decode (zm_code 190) 498 = .ok (.iconst 5, 1) := by decide +kernel
theorem d_190_499 : decode (zm_code 190) 499 = .ok (.if_icmp .ne 8, 3) := by decide +kernel
theorem d_190_502 : decode (zm_code 190) 502 = .ok (.bipush 93, 2) := by decide +kernel
theorem d_190_504 : decode (zm_code 190) 504 = .ok (.goto 5, 3) := by decide +kernel
theorem d_190_507 : decode (zm_code 190) 507 = .ok (.bipush 41, 2) := by decide +kernel
theorem d_190_509 : decode (zm_code 190) 509 = .ok (.invokevirtual 271, 3) := by decide +kernel
theorem d_190_512 : decode (zm_code 190) 512 = .ok (.ifCond .ne 12, 3) := by decide +kernel
theorem d_190_515 : decode (zm_code 190) 515 = .ok (.aload_n 0, 1) := by decide +kernel
theorem d_190_516 : decode (zm_code 190) 516 = .ok (.iconst 1, 1) := by decide +kernel
theorem d_190_517 : decode (zm_code 190) 517 = .ok (.aload_n 0, 1) := by decide +kernel
theorem d_190_518 : decode (zm_code 190) 518 = .ok (.getfield 23, 3) := by decide +kernel
theorem d_190_521 : decode (zm_code 190) 521 = .ok (.invokevirtual 257, 3) := by decide +kernel
theorem d_190_524 : decode (zm_code 190) 524 = .ok (.aload_n 0, 1) := by decide +kernel
theorem d_190_525 : decode (zm_code 190) 525 = .ok (.getfield 36, 3) := by decide +kernel
theorem d_190_528 : decode (zm_code 190) 528 = .ok (.ifCond .le 5, 3) := by decide +kernel
theorem d_190_531 : decode (zm_code 190) 531 = .ok (.iconst 0, 1) := by decide +kernel
theorem d_190_532 : decode (zm_code 190) 532 = .ok (.ireturn, 1) := by decide +kernel
theorem d_190_533 : decode (zm_code 190) 533 = .ok (.aload_n 0, 1) := by decide +kernel
theorem d_190_534 : decode (zm_code 190) 534 = .ok (.iconst 1, 1) := by decide +kernel
theorem d_190_535 : decode (zm_code 190) 535 = .ok (.invokevirtual 361, 3) := by decide +kernel
theorem d_190_538 : decode (zm_code 190) 538 = .ok (.aload_n 0, 1) := by decide +kernel
theorem d_190_539 : decode (zm_code 190) 539 = .ok (.dup, 1) := by decide +kernel
theorem d_190_540 : decode (zm_code 190) 540 = .ok (.getfield 134, 3) := by decide +kernel
theorem d_190_543 : decode (zm_code 190) 543 = .ok (.iconst 1, 1) := by decide +kernel
theorem d_190_544 : decode (zm_code 190) 544 = .ok (.isub, 1) := by decide +kernel
theorem d_190_545 : decode (zm_code 190) 545 = .ok (.putfield 134, 3) := by decide +kernel
theorem d_190_548 : decode (zm_code 190) 548 = .ok (.aload_n 0, 1) := by decide +kernel
theorem d_190_549 : decode (zm_code 190) 549 = .ok (.dup, 1) := by decide +kernel
theorem d_190_550 : decode (zm_code 190) 550 = .ok (.getfield 137, 3) := by decide +kernel
theorem d_190_553 : decode (zm_code 190) 553 = .ok (.iconst 1, 1) := by decide +kernel
theorem d_190_554 : decode (zm_code 190) 554 = .ok (.isub, 1) := by decide +kernel
theorem d_190_555 : decode (zm_code 190) 555 = .ok (.putfield 137, 3) := by decide +kernel
theorem d_190_558 : decode (zm_code 190) 558 = .ok (.iload_n 2, 1) := by decide +kernel
theorem d_190_559 : decode (zm_code 190) 559 = .ok (.iconst 4, 1) := by decide +kernel
theorem d_190_560 : decode (zm_code 190) 560 = .ok (.if_icmp .ne 14, 3) := by decide +kernel
theorem d_190_563 : decode (zm_code 190) 563 = .ok (.aload_n 0, 1) := by decide +kernel
theorem d_190_564 : decode (zm_code 190) 564 = .ok (.aload_n 0, 1) := by decide +kernel
theorem d_190_565 : decode (zm_code 190) 565 = .ok (.getfield 128, 3) := by decide +kernel
theorem d_190_568 : decode (zm_code 190) 568 = .ok (.iload_n 1, 1) := by decide +kernel
theorem d_190_569 : decode (zm_code 190) 569 = .ok (.iaload, 1) := by decide +kernel
theorem d_190_570 : decode (zm_code 190) 570 = .ok (.iconst 0, 1) := by decide +kernel
theorem d_190_571 : decode (zm_code 190) 571 = .ok (.invokevirtual 342, 3) := by decide +kernel
theorem d_190_574 : decode (zm_code 190) 574 = .ok (.iload_n 2, 1) := by decide +kernel
theorem d_190_575 : decode (zm_code 190) 575 = .ok (.iconst 5, 1) := by decide +kernel
theorem d_190_576 : decode (zm_code 190) 576 = .ok (.if_icmp .ne 15, 3) := by decide +kernel
theorem d_190_579 : decode (zm_code 190) 579 = .ok (.aload_n 0, 1) := by decide +kernel
theorem d_190_580 : decode (zm_code 190) 580 = .ok (.getfield 121, 3) := by decide +kernel
theorem d_190_583 : decode (zm_code 190) 583 = .ok (.aload_n 0, 1) := by decide +kernel
theorem d_190_584 : decode (zm_code 190) 584 = .ok (.getfield 134, 3) := by decide +kernel
theorem d_190_587 : decode (zm_code 190) 587 = .ok (.iconst 1, 1) := by decide +kernel
theorem d_190_588 : decode (zm_code 190) 588 = .ok (.isub, 1) := by decide +kernel
theorem d_190_589 : decode (zm_code 190) 589 = .ok (.iconst 2, 1) := by decide +kernel
theorem d_190_590 : decode (zm_code 190) 590 = .ok (.iastore, 1) := by decide +kernel
theorem d_190_591 : decode (zm_code 190) 591 = .ok (.aload_n 0, 1) := by decide +kernel
theorem d_190_592 : decode (zm_code 190) 592 = .ok (.invokevirtual 274, 3) := by decide +kernel
theorem d_190_595 : decode (zm_code 190) 595 = .ok (.iconst 1, 1) := by decide +kernel
theorem d_190_596 : decode (zm_code 190) 596 = .ok (.ireturn, 1) := by decide +kernel
theorem d_191_0 : decode (zm_code 191) 0 = .ok (.aload_n 0, 1) := by decide +kernel
theorem d_191_1 : decode (zm_code 191) 1 = .ok (.getfield 143, 3) := by decide +kernel
theorem d_191_4 : decode (zm_code 191) 4 = .ok (.aload_n 0, 1) := by decide +kernel
theorem d_191_5 : decode (zm_code 191) 5 = .ok (.getfield 131, 3) := by decide +kernel
theorem d_191_8 : decode (zm_code 191) 8 = .ok (.aload_n 0, 1) := by decide +kernel
theorem d_191_9 : decode (zm_code 191) 9 = .ok (.getfield 134, 3) := by decide +kernel
theorem d_191_12 : decode (zm_code 191) 12 = .ok (.iconst 1, 1) := by decide +kernel
theorem d_191_13 : decode (zm_code 191) 13 = .ok (.isub, 1) := by decide +kernel
theorem d_191_14 : decode (zm_code 191) 14 = .ok (.iaload, 1) := by decide +kernel
theorem d_191_15 : decode (zm_code 191) 15 = .ok (.if_icmp .le 72, 3) := by decide +kernel
theorem d_191_18 : decode (zm_code 191) 18 = .ok (.aload_n 0, 1) := by decide +kernel
theorem d_191_19 : decode (zm_code 191) 19 = .ok (.getfield 140, 3) := by decide +kernel
theorem d_191_22 : decode (zm_code 191) 22 = .ok (.aload_n 0, 1) := by decide +kernel
theorem d_191_23 : decode (zm_code 191) 23 = .ok (.getfield 143, 3) := by decide +kernel
theorem d_191_26 : decode (zm_code 191) 26 = .ok (.iconst 1, 1) := by decide +kernel
theorem d_191_27 : decode (zm_code 191) 27 = .ok (.isub, 1) := by decide +kernel
theorem d_191_28 : decode (zm_code 191) 28 = .ok (.iaload, 1) := by decide +kernel
theorem d_191_29 : decode (zm_code 191) 29 = .ok (.invokestatic 339, 3) := by decide +kernel
theorem d_191_32 : decode (zm_code 191) 32 = .ok (.iload_n 1, 1) := by decide +kernel
theorem d_191_33 : decode (zm_code 191) 33 = .ok (.if_icmp .lt 54, 3) := by decide +kernel
theorem d_191_36 : decode (zm_code 191) 36 = .ok (.aload_n 0, 1) := by decide +kernel
theorem d_191_37 : decode (zm_code 191) 37 = .ok (.dup, 1) := by decide +kernel
theorem d_191_38 : decode (zm_code 191) 38 = .ok (.getfield 143, 3) := by decide +kernel
theorem d_191_41 : decode (zm_code 191) 41 = .ok (.iconst 1, 1) := by decide +kernel
theorem d_191_42 : decode (zm_code 191) 42 = .ok (.isub, 1) := by decide +kernel
theorem d_191_43 : decode (zm_code 191) 43 = .ok (.putfield 143, 3) := by decide +kernel
theorem d_191_46 : decode (zm_code 191) 46 = .ok (.aload_n 0, 1) := by decide +kernel
theorem d_191_47 : decode (zm_code 191) 47 = .ok (.aload_n 0, 1) := by decide +kernel
theorem d_191_48 : decode (zm_code 191) 48 = .ok (.getfield 140, 3) := by decide +kernel
theorem d_191_51 : decode (zm_code 191) 51 = .ok (.aload_n 0, 1) := by decide +kernel
theorem d_191_52 : decode (zm_code 191) 52 = .ok (.getfield 143, 3) := by decide +kernel
theorem d_191_55 : decode (zm_code 191) 55 = .ok (.iaload, 1) := by decide +kernel
theorem d_191_56 : decode (zm_code 191) 56 = .ok (.iconst 0, 1) := by decide +kernel
theorem d_191_57 : decode (zm_code 191) 57 = .ok (.invokevirtual 342, 3) := by decide +kernel
theorem d_191_60 : decode (zm_code 191) 60 = .ok (.aload_n 0, 1) := by decide +kernel
theorem d_191_61 : decode (zm_code 191) 61 = .ok (.getfield 140, 3) := by decide +kernel
theorem d_191_64 : decode (zm_code 191) 64 = .ok (.aload_n 0, 1) := by decide +kernel
theorem d_191_65 : decode (zm_code 191) 65 = .ok (.getfield 143, 3) := by decide +kernel
theorem d_191_68 : decode (zm_code 191) 68 = .ok (.iaload, 1) := by decide +kernel
theorem d_191_69 : decode (zm_code 191) 69 = .ok (.bipush 22, 2) := by decide +kernel
theorem d_191_71 : decode (zm_code 191) 71 = .ok (.if_icmp .ne (-71), 3) := by decide +kernel
theorem d_191_74 : decode (zm_code 191) 74 = .ok (.aload_n 0, 1) := by decide +kernel
theorem d_191_75 : decode (zm_code 191) 75 = .ok (.dup, 1) := by decide +kernel
theorem d_191_76 : decode (zm_code 191) 76 = .ok (.getfield 137, 3) := by decide +kernel
theorem d_191_79 : decode (zm_code 191) 79 = .ok (.iconst 1, 1) := by decide +kernel
theorem d_191_80 : decode (zm_code 191) 80 = .ok (.isub, 1) := by decide +kernel
theorem d_191_81 : decode (zm_code 191) 81 = .ok (.putfield 137, 3) := by decide +kernel
theorem d_191_84 : decode (zm_code 191) 84 = .ok (.goto (-84), 3) := by decide +kernel
theorem d_191_87 : decode (zm_code 191) 87 = .ok (.return_, 1) := by decide +kernel
theorem d_192_0 : decode (zm_code 192) 0 = .ok (.iload_n 0, 1) := by decide +kernel
theorem d_192_1 : decode (zm_code 192) 1 = .ok (.bipush 21, 2) := by decide +kernel
theorem d_192_3 : decode (zm_code 192) 3 = .ok (.if_icmp .ne 7, 3) := by decide +kernel
theorem d_192_6 : decode (zm_code 192) 6 = .ok (.iconst 1, 1) := by decide +kernel
theorem d_192_7 : decode (zm_code 192) 7 = .ok (.goto 63, 3) := by decide +kernel
theorem d_192_10 : decode (zm_code 192) 10 = .ok (.iload_n 0, 1) := by decide +kernel
theorem d_192_11 : decode (zm_code 192) 11 = .ok (.bipush 20, 2) := by decide +kernel
theorem d_192_13 : decode (zm_code 192) 13 = .ok (.if_icmp .ne 7, 3) := by decide +kernel
theorem d_192_16 : decode (zm_code 192) 16 = .ok (.iconst 2, 1) := by decide +kernel
theorem d_192_17 : decode (zm_code 192) 17 = .ok (.goto 53, 3) := by decide +kernel
theorem d_192_20 : decode (zm_code 192) 20 = .ok (.iload_n 0, 1) := by decide +kernel
theorem d_192_21 : decode (zm_code 192) 21 = .ok (.bipush 22, 2) := by decide +kernel
theorem d_192_23 : decode (zm_code 192) 23 = .ok (.if_icmp .ne 7, 3) := by decide +kernel
theorem d_192_26 : decode (zm_code 192) 26 = .ok (.iconst 3, 1) := by decide +kernel
theorem d_192_27 : decode (zm_code 192) 27 = .ok (.goto 43, 3) := by decide +kernel
theorem d_192_30 : decode (zm_code 192) 30 = .ok (.iload_n 0, 1) := by decide +kernel
theorem d_192_31 : decode (zm_code 192) 31 = .ok (.bipush 17, 2) := by decide +kernel
theorem d_192_33 : decode (zm_code 192) 33 = .ok (.if_icmp .eq 15, 3) := by decide +kernel
theorem d_192_36 : decode (zm_code 192) 36 = .ok (.iload_n 0, 1) := by decide +kernel
theorem d_192_37 : decode (zm_code 192) 37 = .ok (.bipush 18, 2) := by decide +kernel
theorem d_192_39 : decode (zm_code 192) 39 = .ok (.if_icmp .eq 9, 3) := by decide +kernel
theorem d_192_42 : decode (zm_code 192) 42 = .ok (.iload_n 0, 1) := by decide +kernel
theorem d_192_43 : decode (zm_code 192) 43 = .ok (.bipush 19, 2) := by decide +kernel
theorem d_192_45 : decode (zm_code 192) 45 = .ok (.if_icmp .ne 7, 3) := by decide +kernel
theorem d_192_48 : decode (zm_code 192) 48 = .ok (.iconst 4, 1) := by decide +kernel
theorem d_192_49 : decode (zm_code 192) 49 = .ok (.goto 21, 3) := by decide +kernel
theorem d_192_52 : decode (zm_code 192) 52 = .ok (.iload_n 0, 1) := by decide +kernel
theorem d_192_53 : decode (zm_code 192) 53 = .ok (.bipush 10, 2) := by decide +kernel
theorem d_192_55 : decode (zm_code 192) 55 = .ok (.if_icmp .eq 9, 3) := by decide +kernel
theorem d_192_58 : decode (zm_code 192) 58 = .ok (.iload_n 0, 1) := by decide +kernel
theorem d_192_59 : decode (zm_code 192) 59 = .ok (.bipush 11, 2) := by decide +kernel
theorem d_192_61 : decode (zm_code 192) 61 = .ok (.if_icmp .ne 7, 3) := by decide +kernel
theorem d_192_64 : decode (zm_code 192) 64 = .ok (.iconst 5, 1) := by decide +kernel
theorem d_192_65 : decode (zm_code 192) 65 = .ok (.goto 5, 3) := by decide +kernel
theorem d_192_68 : decode (zm_code 192) 68 = .ok (.bipush 6, 2) := by decide +kernel
theorem d_192_70 : decode (zm_code 192) 70 = .ok (.ireturn, 1) := by decide +kernel
theorem d_193_0 : decode (zm_code 193) 0 = .ok (.aload_n 0, 1) := by decide +kernel
theorem d_193_1 : decode (zm_code 193) 1 = .ok (.aload_n 0, 1) := by decide +kernel
theorem d_193_2 : decode (zm_code 193) 2 = .ok (.getfield 93, 3) := by decide +kernel
theorem d_193_5 : decode (zm_code 193) 5 = .ok (.aload_n 0, 1) := by decide +kernel
theorem d_193_6 : decode (zm_code 193) 6 = .ok (.getfield 115, 3) := by decide +kernel
theorem d_193_9 : decode (zm_code 193) 9 = .ok (.iaload, 1) := by decide +kernel
theorem d_193_10 : decode (zm_code 193) 10 = .ok (.iconst (-1), 1) := by decide +kernel
theorem d_193_11 : decode (zm_code 193) 11 = .ok (.if_icmp .eq 7, 3) := by decide +kernel
theorem d_193_14 : decode (zm_code 193) 14 = .ok (.iconst 1, 1) := by decide +kernel
theorem d_193_15 : decode (zm_code 193) 15 = .ok (.goto 4, 3) := by decide +kernel
theorem d_193_18 : decode (zm_code 193) 18 = .ok (.iconst 0, 1) := by decide +kernel
theorem d_193_19 : decode (zm_code 193) 19 = .ok (.invokevirtual 380, 3) := by decide +kernel
theorem d_193_22 : decode (zm_code 193) 22 = .ok (.ifCond .ne 4, 3) := by decide +kernel
theorem d_193_25 : decode (zm_code 193) 25 = .ok (.return_, 1) := by decide +kernel
theorem d_193_26 : decode (zm_code 193) 26 = .ok (.aload_n 0, 1) := by decide +kernel
theorem d_193_27 : decode (zm_code 193) 27 = .ok (.getfield 93, 3) := by decide +kernel
theorem d_193_30 : decode (zm_code 193) 30 = .ok (.aload_n 0, 1) := by decide +kernel
theorem d_193_31 : decode (zm_code 193) 31 = .ok (.getfield 115, 3) := by decide +kernel
theorem d_193_34 : decode (zm_code 193) 34 = .ok (.aload_n 0, 1) := by decide +kernel
theorem d_193_35 : decode (zm_code 193) 35 = .ok (.getfield 112, 3) := by decide +kernel
theorem d_193_38 : decode (zm_code 193) 38 = .ok (.iastore, 1) := by decide +kernel
theorem d_193_39 : decode (zm_code 193) 39 = .ok (.aload_n 0, 1) := by decide +kernel
theorem d_193_40 : decode (zm_code 193) 40 = .ok (.iconst 1, 1) := by decide +kernel
theorem d_193_41 : decode (zm_code 193) 41 = .ok (.invokevirtual 398, 3) := by decide +kernel
theorem d_193_44 : decode (zm_code 193) 44 = .ok (.aload_n 0, 1) := by decide +kernel
theorem d_193_45 : decode (zm_code 193) 45 = .ok (.getfield 96, 3) := by decide +kernel
theorem d_193_48 : decode (zm_code 193) 48 = .ok (.aload_n 0, 1) := by decide +kernel
theorem d_193_49 : decode (zm_code 193) 49 = .ok (.getfield 115, 3) := by decide +kernel
theorem d_193_52 : decode (zm_code 193) 52 = .ok (.aload_n 0, 1) := by decide +kernel
theorem d_193_53 : decode (zm_code 193) 53 = .ok (.getfield 112, 3) := by decide +kernel
theorem d_193_56 : decode (zm_code 193) 56 = .ok (.iastore, 1) := by decide +kernel
theorem d_193_57 : decode (zm_code 193) 57 = .ok (.return_, 1) := by decide +kernel
theorem d_194_0 : decode (zm_code 194) 0 = .ok (.aload_n 0, 1) := by decide +kernel
theorem d_194_1 : decode (zm_code 194) 1 = .ok (.iconst 0, 1) := by decide +kernel
theorem d_194_2 : decode (zm_code 194) 2 = .ok (.invokevirtual 380, 3) := by decide +kernel
theorem d_194_5 : decode (zm_code 194) 5 = .ok (.ifCond .ne 4, 3) := by decide +kernel
theorem d_194_8 : decode (zm_code 194) 8 = .ok (.return_, 1) := by decide +kernel
theorem d_194_9 : decode (zm_code 194) 9 = .ok (.aload_n 0, 1) := by decide +kernel
theorem d_194_10 : decode (zm_code 194) 10 = .ok (.iconst 0, 1) := by decide +kernel
theorem d_194_11 : decode (zm_code 194) 11 = .ok (.sipush 999, 3) := by decide +kernel
theorem d_194_14 : decode (zm_code 194) 14 = .ok (.invokevirtual 392, 3) := by decide +kernel
theorem d_194_17 : decode (zm_code 194) 17 = .ok (.istore_n 1, 1) := by decide +kernel
theorem d_194_18 : decode (zm_code 194) 18 = .ok (.aload_n 0, 1) := by decide +kernel
theorem d_194_19 : decode (zm_code 194) 19 = .ok (.getfield 36, 3) := by decide +kernel
theorem d_194_22 : decode (zm_code 194) 22 = .ok (.ifCond .ne 13, 3) := by decide +kernel
theorem d_194_25 : decode (zm_code 194) 25 = .ok (.aload_n 0, 1) := by decide +kernel
theorem d_194_26 : decode (zm_code 194) 26 = .ok (.getfield 84, 3) := by decide +kernel
theorem d_194_29 : decode (zm_code 194) 29 = .ok (.aload_n 0, 1) := by decide +kernel
theorem d_194_30 : decode (zm_code 194) 30 = .ok (.getfield 115, 3) := by decide +kernel
theorem d_194_33 : decode (zm_code 194) 33 = .ok (.iload_n 1, 1) := by decide +kernel
theorem d_194_34 : decode (zm_code 194) 34 = .ok (.iastore, 1) := by decide +kernel
theorem d_194_35 : decode (zm_code 194) 35 = .ok (.return_, 1) := by decide +kernel
theorem d_195_0 : decode (zm_code 195) 0 = .ok (.aload_n 0, 1) := by decide +kernel
theorem d_195_1 : decode (zm_code 195) 1 = .ok (.invokevirtual 268, 3) := by decide +kernel
theorem d_195_4 : decode (zm_code 195) 4 = .ok (.aload_n 0, 1) := by decide +kernel
theorem d_195_5 : decode (zm_code 195) 5 = .ok (.getfield 36, 3) := by decide +kernel
theorem d_195_8 : decode (zm_code 195) 8 = .ok (.ifCond .le 4, 3) := by decide +kernel
theorem d_195_11 : decode (zm_code 195) 11 = .ok (.return_, 1) := by decide +kernel
theorem d_195_12 : decode (zm_code 195) 12 = .ok (.aload_n 0, 1) := by decide +kernel
theorem d_195_13 : decode (zm_code 195) 13 = .ok (.getfield 26, 3) := by decide +kernel
theorem d_195_16 : decode (zm_code 195) 16 = .ok (.istore_n 2, 1) := by decide +kernel
theorem d_195_17 : decode (zm_code 195) 17 = .ok (.iload_n 2, 1) := by decide +kernel
theorem d_195_18 : decode (zm_code 195) 18 = .ok (.aload_n 0, 1) := by decide +kernel
theorem d_195_19 : decode (zm_code 195) 19 = .ok (.getfield 17, 3) := by decide +kernel
theorem d_195_22 : decode (zm_code 195) 22 = .ok (.if_icmp .ge 31, 3) := by decide +kernel
theorem d_195_25 : decode (zm_code 195) 25 = .ok (.aload_n 0, 1) := by decide +kernel
theorem d_195_26 : decode (zm_code 195) 26 = .ok (.getfield 7, 3) := by decide +kernel
theorem d_195_29 : decode (zm_code 195) 29 = .ok (.iload_n 2, 1) := by decide +kernel
theorem d_195_30 : decode (zm_code 195) 30 = .ok (.iaload, 1) := by decide +kernel
theorem d_195_31 : decode (zm_code 195) 31 = .ok (.bipush 32, 2) := by decide +kernel
theorem d_195_33 : decode (zm_code 195) 33 = .ok (.if_icmp .eq 14, 3) := by decide +kernel
theorem d_195_36 : decode (zm_code 195) 36 = .ok (.aload_n 0, 1) := by decide +kernel
theorem d_195_37 : decode (zm_code 195) 37 = .ok (.getfield 7, 3) := by decide +kernel
theorem d_195_40 : decode (zm_code 195) 40 = .ok (.iload_n 2, 1) := by decide +kernel
theorem d_195_41 : decode (zm_code 195) 41 = .ok (.iaload, 1) := by decide +kernel
theorem d_195_42 : decode (zm_code 195) 42 = .ok (.bipush 10, 2) := by decide +kernel
theorem d_195_44 : decode (zm_code 195) 44 = .ok (.if_icmp .ne 9, 3) := by decide +kernel
theorem d_195_47 : decode (zm_code 195) 47 = .ok (.iinc 2 1, 3) := by decide +kernel
theorem d_195_50 : decode (zm_code 195) 50 = .ok (.goto (-33), 3) := by decide +kernel
theorem d_195_53 : decode (zm_code 195) 53 = .ok (.aload_n 0, 1) := by decide +kernel
theorem d_195_54 : decode (zm_code 195) 54 = .ok (.bipush 59, 2) := by decide +kernel
theorem d_195_56 : decode (zm_code 195) 56 = .ok (.invokevirtual 271, 3) := by decide +kernel
theorem d_195_59 : decode (zm_code 195) 59 = .ok (.ifCond .eq 24, 3) := by decide +kernel
theorem d_195_62 : decode (zm_code 195) 62 = .ok (.iload_n 1, 1) := by decide +kernel
theorem d_195_63 : decode (zm_code 195) 63 = .ok (.bipush 80, 2) := by decide +kernel
theorem d_195_65 : decode (zm_code 195) 65 = .ok (.if_icmp .ne 18, 3) := by decide +kernel
theorem d_195_68 : decode (zm_code 195) 68 = .ok (.iload_n 2, 1) := by decide +kernel
theorem d_195_69 : decode (zm_code 195) 69 = .ok (.aload_n 0, 1) := by decide +kernel
theorem d_195_70 : decode (zm_code 195) 70 = .ok (.getfield 17, 3) := by decide +kernel
theorem d_195_73 : decode (zm_code 195) 73 = .ok (.if_icmp .ge 10, 3) := by decide +kernel
theorem d_195_76 : decode (zm_code 195) 76 = .ok (.aload_n 0, 1) := by decide +kernel
theorem d_195_77 : decode (zm_code 195) 77 = .ok (.bipush 6, 2) := by decide +kernel
theorem d_195_79 : decode (zm_code 195) 79 = .ok (.iload_n 2, 1) := by decide +kernel
theorem d_195_80 : decode (zm_code 195) 80 = .ok (.invokevirtual 257, 3) := by decide +kernel
theorem d_195_83 : decode (zm_code 195) 83 = .ok (.aload_n 0, 1) := by decide +kernel
theorem d_195_84 : decode (zm_code 195) 84 = .ok (.bipush 59, 2) := by decide +kernel
theorem d_195_86 : decode (zm_code 195) 86 = .ok (.invokevirtual 423, 3) := by decide +kernel
theorem d_195_89 : decode (zm_code 195) 89 = .ok (.return_, 1) := by decide +kernel
theorem d_196_0 : decode (zm_code 196) 0 = .ok (.aload_n 0, 1) := by decide +kernel
theorem d_196_1 : decode (zm_code 196) 1 = .ok (.invokevirtual 268, 3) := by decide +kernel
theorem d_196_4 : decode (zm_code 196) 4 = .ok (.aload_n 0, 1) := by decide +kernel
theorem d_196_5 : decode (zm_code 196) 5 = .ok (.iload_n 1, 1) := by decide +kernel
theorem d_196_6 : decode (zm_code 196) 6 = .ok (.invokevirtual 271, 3) := by decide +kernel
theorem d_196_9 : decode (zm_code 196) 9 = .ok (.ifCond .ne 12, 3) := by decide +kernel
theorem d_196_12 : decode (zm_code 196) 12 = .ok (.aload_n 0, 1) := by decide +kernel
theorem d_196_13 : decode (zm_code 196) 13 = .ok (.iconst 1, 1) := by decide +kernel
theorem d_196_14 : decode (zm_code 196) 14 = .ok (.aload_n 0, 1) := by decide +kernel
theorem d_196_15 : decode (zm_code 196) 15 = .ok (.getfield 23, 3) := by decide +kernel
theorem d_196_18 : decode (zm_code 196) 18 = .ok (.invokevirtual 257, 3) := by decide +kernel
theorem d_196_21 : decode (zm_code 196) 21 = .ok (.aload_n 0, 1) := by decide +kernel
theorem d_196_22 : decode (zm_code 196) 22 = .ok (.getfield 36, 3) := by decide +kernel
theorem d_196_25 : decode (zm_code 196) 25 = .ok (.ifCond .ne 7, 3) := by decide +kernel
theorem d_196_28 : decode (zm_code 196) 28 = .ok (.aload_n 0, 1) := by decide +kernel
theorem d_196_29 : decode (zm_code 196) 29 = .ok (.invokevirtual 274, 3) := by decide +kernel
theorem d_196_32 : decode (zm_code 196) 32 = .ok (.return_, 1) := by decide +kernel
theorem d_197_0 : decode (zm_code 197) 0 = .ok (.aload_n 0, 1) := by decide +kernel
theorem d_197_1 : decode (zm_code 197) 1 = .ok (.getfield 153, 3) := by decide +kernel
theorem d_197_4 : decode (zm_code 197) 4 = .ok (.iconst 0, 1) := by decide +kernel
theorem d_197_5 : decode (zm_code 197) 5 = .ok (.iconst 0, 1) := by decide +kernel
theorem d_197_6 : decode (zm_code 197) 6 = .ok (.iastore, 1) := by decide +kernel
theorem d_197_7 : decode (zm_code 197) 7 = .ok (.aload_n 0, 1) := by decide +kernel
theorem d_197_8 : decode (zm_code 197) 8 = .ok (.getfield 156, 3) := by decide +kernel
theorem d_197_11 : decode (zm_code 197) 11 = .ok (.iconst 0, 1) := by decide +kernel
theorem d_197_12 : decode (zm_code 197) 12 = .ok (.iconst 0, 1) := by decide +kernel
theorem d_197_13 : decode (zm_code 197) 13 = .ok (.iastore, 1) := by decide +kernel
theorem d_197_14 : decode (zm_code 197) 14 = .ok (.aload_n 0, 1) := by decide +kernel
theorem d_197_15 : decode (zm_code 197) 15 = .ok (.getfield 168, 3) := by decide +kernel
theorem d_197_18 : decode (zm_code 197) 18 = .ok (.iconst 0, 1) := by decide +kernel
theorem d_197_19 : decode (zm_code 197) 19 = .ok (.iconst 0, 1) := by decide +kernel
theorem d_197_20 : decode (zm_code 197) 20 = .ok (.iastore, 1) := by decide +kernel
theorem d_197_21 : decode (zm_code 197) 21 = .ok (.aload_n 0, 1) := by decide +kernel
theorem d_197_22 : decode (zm_code 197) 22 = .ok (.iconst 0, 1) := by decide +kernel
theorem d_197_23 : decode (zm_code 197) 23 = .ok (.putfield 186, 3) := by decide +kernel
theorem d_197_26 : decode (zm_code 197) 26 = .ok (.aload_n 0, 1) := by decide +kernel
theorem d_197_27 : decode (zm_code 197) 27 = .ok (.iconst 0, 1) := by decide +kernel
theorem d_197_28 : decode (zm_code 197) 28 = .ok (.putfield 225, 3) := by decide +kernel
theorem d_197_31 : decode (zm_code 197) 31 = .ok (.iconst 0, 1) := by decide +kernel
theorem d_197_32 : decode (zm_code 197) 32 = .ok (.istore_n 1, 1) := by decide +kernel
theorem d_197_33 : decode (zm_code 197) 33 = .ok (.iload_n 1, 1) := by decide +kernel
theorem d_197_34 : decode (zm_code 197) 34 = .ok (.bipush 40, 2) := by decide +kernel
theorem d_197_36 : decode (zm_code 197) 36 = .ok (.if_icmp .ge 65, 3) := by decide +kernel
theorem d_197_39 : decode (zm_code 197) 39 = .ok (.aload_n 0, 1) := by decide +kernel
theorem d_197_40 : decode (zm_code 197) 40 = .ok (.getfield 159, 3) := by decide +kernel
theorem d_197_43 : decode (zm_code 197) 43 = .ok (.iload_n 1, 1) := by decide +kernel
theorem d_197_44 : decode (zm_code 197) 44 = .ok (.iload_n 1, 1) := by decide +kernel
theorem d_197_45 : decode (zm_code 197) 45 = .ok (.bipush 8, 2) := by decide +kernel
theorem d_197_47 : decode (zm_code 197) 47 = .ok (.idiv, 1) := by decide +kernel
theorem d_197_48 : decode (zm_code 197) 48 = .ok (.aload_n 0, 1) := by decide +kernel
theorem d_197_49 : decode (zm_code 197) 49 = .ok (.getfield 63, 3) := by decide +kernel
theorem d_197_52 : decode (zm_code 197) 52 = .ok (.aload_n 0, 1) := by decide +kernel
theorem d_197_53 : decode (zm_code 197) 53 = .ok (.getfield 51, 3) := by decide +kernel
theorem d_197_56 : decode (zm_code 197) 56 = .ok (.iaload, 1) := by decide +kernel
theorem d_197_57 : decode (zm_code 197) 57 = .ok (.if_icmp .ge 36, 3) := by decide +kernel
theorem d_197_60 : decode (zm_code 197) 60 = .ok (.iload_n 1, 1) := by decide +kernel
theorem d_197_61 : decode (zm_code 197) 61 = .ok (.bipush 8, 2) := by decide +kernel
theorem d_197_63 : decode (zm_code 197) 63 = .ok (.irem, 1) := by decide +kernel
theorem d_197_64 : decode (zm_code 197) 64 = .ok (.aload_n 0, 1) := by decide +kernel
theorem d_197_65 : decode (zm_code 197) 65 = .ok (.getfield 54, 3) := by decide +kernel
theorem d_197_68 : decode (zm_code 197) 68 = .ok (.aload_n 0, 1) := by decide +kernel
theorem d_197_69 : decode (zm_code 197) 69 = .ok (.getfield 51, 3) := by decide +kernel
theorem d_197_72 : decode (zm_code 197) 72 = .ok (.iaload, 1) := by decide +kernel
theorem d_197_73 : decode (zm_code 197) 73 = .ok (.if_icmp .ge 20, 3) := by decide +kernel
theorem d_197_76 : decode (zm_code 197) 76 = .ok (.aload_n 0, 1) := by decide +kernel
theorem d_197_77 : decode (zm_code 197) 77 = .ok (.getfield 66, 3) := by decide +kernel
theorem d_197_80 : decode (zm_code 197) 80 = .ok (.bipush 40, 2) := by decide +kernel
theorem d_197_82 : decode (zm_code 197) 82 = .ok (.aload_n 0, 1) := by decide +kernel
theorem d_197_83 : decode (zm_code 197) 83 = .ok (.getfield 51, 3) := by decide +kernel
theorem d_197_86 : decode (zm_code 197) 86 = .ok (.imul, 1) := by decide +kernel
theorem d_197_87 : decode (zm_code 197) 87 = .ok (.iload_n 1, 1) := by decide +kernel
theorem d_197_88 : decode (zm_code 197) 88 = .ok (.iadd, 1) := by decide +kernel
theorem d_197_89 : decode (zm_code 197) 89 = .ok (.iaload, 1) := by decide +kernel
theorem d_197_90 : decode (zm_code 197) 90 = .ok (.goto 4, 3) := by decide +kernel
theorem d_197_93 : decode (zm_code 197) 93 = .ok (.iconst 0, 1) := by decide +kernel
theorem d_197_94 : decode (zm_code 197) 94 = .ok (.iastore, 1) := by decide +kernel
theorem d_197_95 : decode (zm_code 197) 95 = .ok (.iinc 1 1, 3) := by decide +kernel
theorem d_197_98 : decode (zm_code 197) 98 = .ok (.goto (-65), 3) := by decide +kernel
theorem d_197_101 : decode (zm_code 197) 101 = .ok (.iconst 0, 1) := by decide +kernel
theorem d_197_102 : decode (zm_code 197) 102 = .ok (.istore_n 1, 1) := by decide +kernel
theorem d_197_103 : decode (zm_code 197) 103 = .ok (.iload_n 1, 1) := by decide +kernel
theorem d_197_104 : decode (zm_code 197) 104 = .ok (.bipush 8, 2) := by decide +kernel
theorem d_197_106 : decode (zm_code 197) 106 = .ok (.if_icmp .ge 24, 3) := by decide +kernel
theorem d_197_109 : decode (zm_code 197) 109 = .ok (.aload_n 0, 1) := by decide +kernel
theorem d_197_110 : decode (zm_code 197) 110 = .ok (.getfield 162, 3) := by decide +kernel
theorem d_197_113 : decode (zm_code 197) 113 = .ok (.iload_n 1, 1) := by decide +kernel
theorem d_197_114 : decode (zm_code 197) 114 = .ok (.aload_n 0, 1) := by decide +kernel
theorem d_197_115 : decode (zm_code 197) 115 = .ok (.getfield 84, 3) := by decide +kernel
theorem d_197_118 : decode (zm_code 197) 118 = .ok (.aload_n 0, 1) := by decide +kernel
theorem d_197_119 : decode (zm_code 197) 119 = .ok (.getfield 51, 3) := by decide +kernel
theorem d_197_122 : decode (zm_code 197) 122 = .ok (.iaload, 1) := by decide +kernel
theorem d_197_123 : decode (zm_code 197) 123 = .ok (.iastore, 1) := by decide +kernel
theorem d_197_124 : decode (zm_code 197) 124 = .ok (.iinc 1 1, 3) := by decide +kernel
theorem d_197_127 : decode (zm_code 197) 127 = .ok (.goto (-24), 3) := by decide +kernel
theorem d_197_130 : decode (zm_code 197) 130 = .ok (.iconst 0, 1) := by decide +kernel
theorem d_197_131 : decode (zm_code 197) 131 = .ok (.istore_n 1, 1) := by decide +kernel
theorem d_197_132 : decode (zm_code 197) 132 = .ok (.iload_n 1, 1) := by decide +kernel
theorem d_197_133 : decode (zm_code 197) 133 = .ok (.bipush 64, 2) := by decide +kernel
theorem d_197_135 : decode (zm_code 197) 135 = .ok (.if_icmp .ge 16, 3) := by decide +kernel
theorem d_197_138 : decode (zm_code 197) 138 = .ok (.aload_n 0, 1) := by decide +kernel
theorem d_197_139 : decode (zm_code 197) 139 = .ok (.getfield 165, 3) := by decide +kernel
theorem d_197_142 : decode (zm_code 197) 142 = .ok (.iload_n 1, 1) := by decide +kernel
theorem d_197_143 : decode (zm_code 197) 143 = .ok (.iconst 0, 1) := by decide +kernel
theorem d_197_144 : decode (zm_code 197) 144 = .ok (.iastore, 1) := by decide +kernel
theorem d_197_145 : decode (zm_code 197) 145 = .ok (.iinc 1 1, 3) := by decide +kernel
theorem d_197_148 : decode (zm_code 197) 148 = .ok (.goto (-16), 3) := by decide +kernel
theorem d_197_151 : decode (zm_code 197) 151 = .ok (.return_, 1) := by decide +kernel
theorem d_198_0 : decode (zm_code 198) 0 = .ok (.iload_n 1, 1) := by decide +kernel
theorem d_198_1 : decode (zm_code 198) 1 = .ok (.ifCond .ne 10, 3) := by decide +kernel
theorem d_198_4 : decode (zm_code 198) 4 = .ok (.aload_n 0, 1) := by decide +kernel
theorem d_198_5 : decode (zm_code 198) 5 = .ok (.getfield 42, 3) := by decide +kernel
theorem d_198_8 : decode (zm_code 198) 8 = .ok (.goto 16, 3) := by decide +kernel
theorem d_198_11 : decode (zm_code 198) 11 = .ok (.iload_n 1, 1) := by decide +kernel
theorem d_198_12 : decode (zm_code 198) 12 = .ok (.iconst 1, 1) := by decide +kernel
theorem d_198_13 : decode (zm_code 198) 13 = .ok (.if_icmp .ne 10, 3) := by decide +kernel
theorem d_198_16 : decode (zm_code 198) 16 = .ok (.aload_n 0, 1) := by decide +kernel
theorem d_198_17 : decode (zm_code 198) 17 = .ok (.getfield 45, 3) := by decide +kernel
theorem d_198_20 : decode (zm_code 198) 20 = .ok (.goto 4, 3) := by decide +kernel
theorem d_198_23 : decode (zm_code 198) 23 = .ok (.iconst (-1), 1) := by decide +kernel
theorem d_198_24 : decode (zm_code 198) 24 = .ok (.ireturn, 1) := by decide +kernel
theorem d_199_0 : decode (zm_code 199) 0 = .ok (.iload_n 1, 1) := by decide +kernel
theorem d_199_1 : decode (zm_code 199) 1 = .ok (.iconst 0, 1) := by decide +kernel
theorem d_199_2 : decode (zm_code 199) 2 = .ok (.iconst 5, 1) := by decide +kernel
theorem d_199_3 : decode (zm_code 199) 3 = .ok (.invokestatic 335, 3) := by decide +kernel
theorem d_199_6 : decode (zm_code 199) 6 = .ok (.ifCond .eq 12, 3) := by decide +kernel
theorem d_199_9 : decode (zm_code 199) 9 = .ok (.aload_n 0, 1) := by decide +kernel
theorem d_199_10 : decode (zm_code 199) 10 = .ok (.getfield 150, 3) := by decide +kernel
theorem d_199_13 : decode (zm_code 199) 13 = .ok (.iload_n 1, 1) := by decide +kernel
theorem d_199_14 : decode (zm_code 199) 14 = .ok (.iaload, 1) := by decide +kernel
theorem d_199_15 : decode (zm_code 199) 15 = .ok (.goto 4, 3) := by decide +kernel
theorem d_199_18 : decode (zm_code 199) 18 = .ok (.iconst (-1), 1) := by decide +kernel
theorem d_199_19 : decode (zm_code 199) 19 = .ok (.ireturn, 1) := by decide +kernel
theorem d_200_0 : decode (zm_code 200) 0 = .ok (.aload_n 0, 1) := by decide +kernel
theorem d_200_1 : decode (zm_code 200) 1 = .ok (.getfield 186, 3) := by decide +kernel
theorem d_200_4 : decode (zm_code 200) 4 = .ok (.ifCond .ne 17, 3) := by decide +kernel
theorem d_200_7 : decode (zm_code 200) 7 = .ok (.aload_n 0, 1) := by decide +kernel
theorem d_200_8 : decode (zm_code 200) 8 = .ok (.iconst 4, 1) := by decide +kernel
theorem d_200_9 : decode (zm_code 200) 9 = .ok (.invokevirtual 249, 3) := by decide +kernel
theorem d_200_12 : decode (zm_code 200) 12 = .ok (.ifCond .lt 7, 3) := by decide +kernel
theorem d_200_15 : decode (zm_code 200) 15 = .ok (.iconst 1, 1) := by decide +kernel
theorem d_200_16 : decode (zm_code 200) 16 = .ok (.goto 4, 3) := by decide +kernel
theorem d_200_19 : decode (zm_code 200) 19 = .ok (.iconst 0, 1) := by decide +kernel
theorem d_200_20 : decode (zm_code 200) 20 = .ok (.ireturn, 1) := by decide +kernel
theorem d_200_21 : decode (zm_code 200) 21 = .ok (.aload_n 0, 1) := by decide +kernel
theorem d_200_22 : decode (zm_code 200) 22 = .ok (.dup, 1) := by decide +kernel
theorem d_200_23 : decode (zm_code 200) 23 = .ok (.getfield 186, 3) := by decide +kernel
theorem d_200_26 : decode (zm_code 200) 26 = .ok (.iconst 1, 1) := by decide +kernel
theorem d_200_27 : decode (zm_code 200) 27 = .ok (.isub, 1) := by decide +kernel
theorem d_200_28 : decode (zm_code 200) 28 = .ok (.putfield 186, 3) := by decide +kernel
theorem d_200_31 : decode (zm_code 200) 31 = .ok (.aload_n 0, 1) := by decide +kernel
theorem d_200_32 : decode (zm_code 200) 32 = .ok (.iconst 0, 1) := by decide +kernel
theorem d_200_33 : decode (zm_code 200) 33 = .ok (.aload_n 0, 1) := by decide +kernel
theorem d_200_34 : decode (zm_code 200) 34 = .ok (.aload_n 0, 1) := by decide +kernel
theorem d_200_35 : decode (zm_code 200) 35 = .ok (.getfield 186, 3) := by decide +kernel
theorem d_200_38 : decode (zm_code 200) 38 = .ok (.invokevirtual 434, 3) := by decide +kernel
theorem d_200_41 : decode (zm_code 200) 41 = .ok (.invokevirtual 437, 3) := by decide +kernel
theorem d_200_44 : decode (zm_code 200) 44 = .ok (.iconst 1, 1) := by decide +kernel
theorem d_200_45 : decode (zm_code 200) 45 = .ok (.ireturn, 1) := by decide +kernel
theorem d_201_0 : decode (zm_code 201) 0 = .ok (.iconst 2, 1) := by decide +kernel
theorem d_201_1 : decode (zm_code 201) 1 = .ok (.aload_n 0, 1) := by decide +kernel
theorem d_201_2 : decode (zm_code 201) 2 = .ok (.getfield 183, 3) := by decide +kernel
theorem d_201_5 : decode (zm_code 201) 5 = .ok (.iload_n 1, 1) := by decide +kernel
theorem d_201_6 : decode (zm_code 201) 6 = .ok (.iadd, 1) := by decide +kernel
theorem d_201_7 : decode (zm_code 201) 7 = .ok (.bipush 20, 2) := by decide +kernel
theorem d_201_9 : decode (zm_code 201) 9 = .ok (.irem, 1) := by decide +kernel
theorem d_201_10 : decode (zm_code 201) 10 = .ok (.iadd, 1) := by decide +kernel
theorem d_201_11 : decode (zm_code 201) 11 = .ok (.ireturn, 1) := by decide +kernel
theorem d_202_0 : decode (zm_code 202) 0 = .ok (.aload_n 0, 1) := by decide +kernel
theorem d_202_1 : decode (zm_code 202) 1 = .ok (.getfield 153, 3) := by decide +kernel
theorem d_202_4 : decode (zm_code 202) 4 = .ok (.iload_n 1, 1) := by decide +kernel
theorem d_202_5 : decode (zm_code 202) 5 = .ok (.aload_n 0, 1) := by decide +kernel
theorem d_202_6 : decode (zm_code 202) 6 = .ok (.getfield 153, 3) := by decide +kernel
theorem d_202_9 : decode (zm_code 202) 9 = .ok (.iload_n 2, 1) := by decide +kernel
theorem d_202_10 : decode (zm_code 202) 10 = .ok (.iaload, 1) := by decide +kernel
theorem d_202_11 : decode (zm_code 202) 11 = .ok (.iastore, 1) := by decide +kernel
theorem d_202_12 : decode (zm_code 202) 12 = .ok (.aload_n 0, 1) := by decide +kernel
theorem d_202_13 : decode (zm_code 202) 13 = .ok (.getfield 156, 3) := by decide +kernel
theorem d_202_16 : decode (zm_code 202) 16 = .ok (.iload_n 1, 1) := by decide +kernel
theorem d_202_17 : decode (zm_code 202) 17 = .ok (.aload_n 0, 1) := by decide +kernel
theorem d_202_18 : decode (zm_code 202) 18 = .ok (.getfield 156, 3) := by decide +kernel
theorem d_202_21 : decode (zm_code 202) 21 = .ok (.iload_n 2, 1) := by decide +kernel
theorem d_202_22 : decode (zm_code 202) 22 = .ok (.iaload, 1) := by decide +kernel
theorem d_202_23 : decode (zm_code 202) 23 = .ok (.iastore, 1) := by decide +kernel
theorem d_202_24 : decode (zm_code 202) 24 = .ok (.iconst 0, 1) := by decide +kernel
theorem d_202_25 : decode (zm_code 202) 25 = .ok (.istore_n 3, 1) := by decide +kernel
theorem d_202_26 : decode (zm_code 202) 26 = .ok (.iload_n 3, 1) := by decide +kernel
theorem d_202_27 : decode (zm_code 202) 27 = .ok (.bipush 40, 2) := by decide +kernel
theorem d_202_29 : decode (zm_code 202) 29 = .ok (.if_icmp .ge 31, 3) := by decide +kernel
theorem d_202_32 : decode (zm_code 202) 32 = .ok (.aload_n 0, 1) := by decide +kernel
theorem d_202_33 : decode (zm_code 202) 33 = .ok (.getfield 159, 3) := by decide +kernel
theorem d_202_36 : decode (zm_code 202) 36 = .ok (.bipush 40, 2) := by decide +kernel
theorem d_202_38 : decode (zm_code 202) 38 = .ok (.iload_n 1, 1) := by decide +kernel
theorem d_202_39 : decode (zm_code 202) 39 = .ok (.imul, 1) := by decide +kernel
theorem d_202_40 : decode (zm_code 202) 40 = .ok (.iload_n 3, 1) := by decide +kernel
theorem d_202_41 : decode (zm_code 202) 41 = .ok (.iadd, 1) := by decide +kernel
theorem d_202_42 : decode (zm_code 202) 42 = .ok (.aload_n 0, 1) := by decide +kernel
theorem d_202_43 : decode (zm_code 202) 43 = .ok (.getfield 159, 3) := by decide +kernel
theorem d_202_46 : decode (zm_code 202) 46 = .ok (.bipush 40, 2) := by decide +kernel
theorem d_202_48 : decode (zm_code 202) 48 = .ok (.iload_n 2, 1) := by decide +kernel
theorem d_202_49 : decode (zm_code 202) 49 = .ok (.imul, 1) := by decide +kernel
theorem d_202_50 : decode (zm_code 202) 50 = .ok (.iload_n 3, 1) := by decide +kernel
theorem d_202_51 : decode (zm_code 202) 51 = .ok (.iadd, 1) := by decide +kernel
theorem d_202_52 : decode (zm_code 202) 52 = .ok (.iaload, 1) := by decide +kernel
theorem d_202_53 : decode (zm_code 202) 53 = .ok (.iastore, 1) := by decide +kernel
theorem d_202_54 : decode (zm_code 202) 54 = .ok (.iinc 3 1, 3) := by decide +kernel
theorem d_202_57 : decode (zm_code 202) 57 = .ok (.goto (-31), 3) := by decide +kernel
theorem d_202_60 : decode (zm_code 202) 60 = .ok (.iconst 0, 1) := by decide +kernel
theorem d_202_61 : decode (zm_code 202) 61 = .ok (.istore_n 3, 1) := by decide +kernel
theorem d_202_62 : decode (zm_code 202) 62 = .ok (.iload_n 3, 1) := by decide +kernel
theorem d_202_63 : decode (zm_code 202) 63 = .ok (.bipush 8, 2) := by decide +kernel
theorem d_202_65 : decode (zm_code 202) 65 = .ok (.if_icmp .ge 31, 3) := by decide +kernel
theorem d_202_68 : decode (zm_code 202) 68 = .ok (.aload_n 0, 1) := by decide +kernel
theorem d_202_69 : decode (zm_code 202) 69 = .ok (.getfield 162, 3) := by decide +kernel
theorem d_202_72 : decode (zm_code 202) 72 = .ok (.bipush 8, 2) := by decide +kernel
theorem d_202_74 : decode (zm_code 202) 74 = .ok (.iload_n 1, 1) := by decide +kernel
theorem d_202_75 : decode (zm_code 202) 75 = .ok (.imul, 1) := by decide +kernel
theorem d_202_76 : decode (zm_code 202) 76 = .ok (.iload_n 3, 1) := by decide +kernel
theorem d_202_77 : decode (zm_code 202) 77 = .ok (.iadd, 1) := by decide +kernel
theorem d_202_78 : decode (zm_code 202) 78 = .ok (.aload_n 0, 1) := by decide +kernel
theorem d_202_79 : decode (zm_code 202) 79 = .ok (.getfield 162, 3) := by decide +kernel
theorem d_202_82 : decode (zm_code 202) 82 = .ok (.bipush 8, 2) := by decide +kernel
theorem d_202_84 : decode (zm_code 202) 84 = .ok (.iload_n 2, 1) := by decide +kernel
theorem d_202_85 : decode (zm_code 202) 85 = .ok (.imul, 1) := by decide +kernel
theorem d_202_86 : decode (zm_code 202) 86 = .ok (.iload_n 3, 1) := by decide +kernel
theorem d_202_87 : decode (zm_code 202) 87 = .ok (.iadd, 1) := by decide +kernel
theorem d_202_88 : decode (zm_code 202) 88 = .ok (.iaload, 1) := by decide +kernel
theorem d_202_89 : decode (zm_code 202) 89 = .ok (.iastore, 1) := by decide +kernel
theorem d_202_90 : decode (zm_code 202) 90 = .ok (.iinc 3 1, 3) := by decide +kernel
theorem d_202_93 : decode (zm_code 202) 93 = .ok (.goto (-31), 3) := by decide +kernel
theorem d_202_96 : decode (zm_code 202) 96 = .ok (.iconst 0, 1) := by decide +kernel
theorem d_202_97 : decode (zm_code 202) 97 = .ok (.istore_n 3, 1) := by decide +kernel
theorem d_202_98 : decode (zm_code 202) 98 = .ok (.iload_n 3, 1) := by decide +kernel
theorem d_202_99 : decode (zm_code 202) 99 = .ok (.bipush 64, 2) := by decide +kernel
theorem d_202_101 : decode (zm_code 202) 101 = .ok (.if_icmp .ge 31, 3) := by decide +kernel
theorem d_202_104 : decode (zm_code 202) 104 = .ok (.aload_n 0, 1) := by decide +kernel
theorem d_202_105 : decode (zm_code 202) 105 = .ok (.getfield 165, 3) := by decide +kernel
theorem d_202_108 : decode (zm_code 202) 108 = .ok (.bipush 64, 2) := by decide +kernel
theorem d_202_110 : decode (zm_code 202) 110 = .ok (.iload_n 1, 1) := by decide +kernel
theorem d_202_111 : decode (zm_code 202) 111 = .ok (.imul, 1) := by decide +kernel
theorem d_202_112 : decode (zm_code 202) 112 = .ok (.iload_n 3, 1) := by decide +kernel
theorem d_202_113 : decode (zm_code 202) 113 = .ok (.iadd, 1) := by decide +kernel
theorem d_202_114 : decode (zm_code 202) 114 = .ok (.aload_n 0, 1) := by decide +kernel
theorem d_202_115 : decode (zm_code 202) 115 = .ok (.getfield 165, 3) := by decide +kernel
theorem d_202_118 : decode (zm_code 202) 118 = .ok (.bipush 64, 2) := by decide +kernel
theorem d_202_120 : decode (zm_code 202) 120 = .ok (.iload_n 2, 1) := by decide +kernel
theorem d_202_121 : decode (zm_code 202) 121 = .ok (.imul, 1) := by decide +kernel
theorem d_202_122 : decode (zm_code 202) 122 = .ok (.iload_n 3, 1) := by decide +kernel
theorem d_202_123 : decode (zm_code 202) 123 = .ok (.iadd, 1) := by decide +kernel
theorem d_202_124 : decode (zm_code 202) 124 = .ok (.iaload, 1) := by decide +kernel
theorem d_202_125 : decode (zm_code 202) 125 = .ok (.iastore, 1) := by decide +kernel
theorem d_202_126 : decode (zm_code 202) 126 = .ok (.iinc 3 1, 3) := by decide +kernel
theorem d_202_129 : decode (zm_code 202) 129 = .ok (.goto (-31), 3) := by decide +kernel
theorem d_202_132 : decode (zm_code 202) 132 = .ok (.aload_n 0, 1) := by decide +kernel
theorem d_202_133 : decode (zm_code 202) 133 = .ok (.getfield 168, 3) := by decide +kernel
theorem d_202_136 : decode (zm_code 202) 136 = .ok (.iload_n 1, 1) := by decide +kernel
theorem d_202_137 : decode (zm_code 202) 137 = .ok (.aload_n 0, 1) := by decide +kernel
theorem d_202_138 : decode (zm_code 202) 138 = .ok (.getfield 168, 3) := by decide +kernel
theorem d_202_141 : decode (zm_code 202) 141 = .ok (.iload_n 2, 1) := by decide +kernel
theorem d_202_142 : decode (zm_code 202) 142 = .ok (.iaload, 1) := by decide +kernel
theorem d_202_143 : decode (zm_code 202) 143 = .ok (.iastore, 1) := by decide +kernel
theorem d_202_144 : decode (zm_code 202) 144 = .ok (.iconst 0, 1) := by decide +kernel
theorem d_202_145 : decode (zm_code 202) 145 = .ok (.istore_n 3, 1) := by decide +kernel
theorem d_202_146 : decode (zm_code 202) 146 = .ok (.iload_n 3, 1) := by decide +kernel
theorem d_202_147 : decode (zm_code 202) 147 = .ok (.aload_n 0, 1) := by decide +kernel
theorem d_202_148 : decode (zm_code 202) 148 = .ok (.getfield 168, 3) := by decide +kernel
theorem d_202_151 : decode (zm_code 202) 151 = .ok (.iload_n 2, 1) := by decide +kernel
theorem d_202_152 : decode (zm_code 202) 152 = .ok (.iaload, 1) := by decide +kernel
theorem d_202_153 : decode (zm_code 202) 153 = .ok (.if_icmp .ge 97, 3) := by decide +kernel
theorem d_202_156 : decode (zm_code 202) 156 = .ok (.aload_n 0, 1) := by decide +kernel
theorem d_202_157 : decode (zm_code 202) 157 = .ok (.getfield 171, 3) := by decide +kernel
theorem d_202_160 : decode (zm_code 202) 160 = .ok (.bipush 60, 2) := by decide +kernel
theorem d_202_162 : decode (zm_code 202) 162 = .ok (.iload_n 1, 1) := by decide +kernel
theorem d_202_163 : decode (zm_code 202) 163 = .ok (.imul, 1) := by decide +kernel
theorem d_202_164 : decode (zm_code 202) 164 = .ok (.iload_n 3, 1) := by decide +kernel
theorem d_202_165 : decode (zm_code 202) 165 = .ok (.iadd, 1) := by decide +kernel
theorem d_202_166 : decode (zm_code 202) 166 = .ok (.aload_n 0, 1) := by decide +kernel
theorem d_202_167 : decode (zm_code 202) 167 = .ok (.getfield 171, 3) := by decide +kernel
theorem d_202_170 : decode (zm_code 202) 170 = .ok (.bipush 60, 2) := by decide +kernel
theorem d_202_172 : decode (zm_code 202) 172 = .ok (.iload_n 2, 1) := by decide +kernel
theorem d_202_173 : decode (zm_code 202) 173 = .ok (.imul, 1) := by decide +kernel
theorem d_202_174 : decode (zm_code 202) 174 = .ok (.iload_n 3, 1) := by decide +kernel
theorem d_202_175 : decode (zm_code 202) 175 = .ok (.iadd, 1) := by decide +kernel
theorem d_202_176 : decode (zm_code 202) 176 = .ok (.iaload, 1) := by decide +kernel
theorem d_202_177 : decode (zm_code 202) 177 = .ok (.iastore, 1) := by decide +kernel
theorem d_202_178 : decode (zm_code 202) 178 = .ok (.aload_n 0, 1) := by decide +kernel
theorem d_202_179 : decode (zm_code 202) 179 = .ok (.getfield 174, 3) := by decide +kernel
theorem d_202_182 : decode (zm_code 202) 182 = .ok (.bipush 60, 2) := by decide +kernel
theorem d_202_184 : decode (zm_code 202) 184 = .ok (.iload_n 1, 1) := by decide +kernel
theorem d_202_185 : decode (zm_code 202) 185 = .ok (.imul, 1) := by decide +kernel
theorem d_202_186 : decode (zm_code 202) 186 = .ok (.iload_n 3, 1) := by decide +kernel
theorem d_202_187 : decode (zm_code 202) 187 = .ok (.iadd, 1) := by decide +kernel
theorem d_202_188 : decode (zm_code 202) 188 = .ok (.aload_n 0, 1) := by decide +kernel
theorem d_202_189 : decode (zm_code 202) 189 = .ok (.getfield 174, 3) := by decide +kernel
theorem d_202_192 : decode (zm_code 202) 192 = .ok (.bipush 60, 2) := by decide +kernel
theorem d_202_194 : decode (zm_code 202) 194 = .ok (.iload_n 2, 1) := by decide +kernel
theorem d_202_195 : decode (zm_code 202) 195 = .ok (.imul, 1) := by decide +kernel
theorem d_202_196 : decode (zm_code 202) 196 = .ok (.iload_n 3, 1) := by decide +kernel
theorem d_202_197 : decode (zm_code 202) 197 = .ok (.iadd, 1) := by decide +kernel
theorem d_202_198 : decode (zm_code 202) 198 = .ok (.iaload, 1) := by decide +kernel
theorem d_202_199 : decode (zm_code 202) 199 = .ok (.iastore, 1) := by decide +kernel
theorem d_202_200 : decode (zm_code 202) 200 = .ok (.aload_n 0, 1) := by decide +kernel
theorem d_202_201 : decode (zm_code 202) 201 = .ok (.getfield 177, 3) := by decide +kernel
theorem d_202_204 : decode (zm_code 202) 204 = .ok (.bipush 60, 2) := by decide +kernel
theorem d_202_206 : decode (zm_code 202) 206 = .ok (.iload_n 1, 1) := by decide +kernel
theorem d_202_207 : decode (zm_code 202) 207 = .ok (.imul, 1) := by decide +kernel
theorem d_202_208 : decode (zm_code 202) 208 = .ok (.iload_n 3, 1) := by decide +kernel
theorem d_202_209 : decode (zm_code 202) 209 = .ok (.iadd, 1) := by decide +kernel
theorem d_202_210 : decode (zm_code 202) 210 = .ok (.aload_n 0, 1) := by decide +kernel
theorem d_202_211 : decode (zm_code 202) 211 = .ok (.getfield 177, 3) := by decide +kernel
theorem d_202_214 : decode (zm_code 202) 214 = .ok (.bipush 60, 2) := by decide +kernel
theorem d_202_216 : decode (zm_code 202) 216 = .ok (.iload_n 2, 1) := by decide +kernel
theorem d_202_217 : decode (zm_code 202) 217 = .ok (.imul, 1) := by decide +kernel
theorem d_202_218 : decode (zm_code 202) 218 = .ok (.iload_n 3, 1) := by decide +kernel
theorem d_202_219 : decode (zm_code 202) 219 = .ok (.iadd, 1) := by decide +kernel
theorem d_202_220 : decode (zm_code 202) 220 = .ok (.iaload, 1) := by decide +kernel
theorem d_202_221 : decode (zm_code 202) 221 = .ok (.iastore, 1) := by decide +kernel
theorem d_202_222 : decode (zm_code 202) 222 = .ok (.aload_n 0, 1) := by decide +kernel
theorem d_202_223 : decode (zm_code 202) 223 = .ok (.getfield 180, 3) := by decide +kernel
theorem d_202_226 : decode (zm_code 202) 226 = .ok (.bipush 60, 2) := by decide +kernel
theorem d_202_228 : decode (zm_code 202) 228 = .ok (.iload_n 1, 1) := by decide +kernel
theorem d_202_229 : decode (zm_code 202) 229 = .ok (.imul, 1) := by decide +kernel
theorem d_202_230 : decode (zm_code 202) 230 = .ok (.iload_n 3, 1) := by decide +kernel
theorem d_202_231 : decode (zm_code 202) 231 = .ok (.iadd, 1) := by decide +kernel
theorem d_202_232 : decode (zm_code 202) 232 = .ok (.aload_n 0, 1) := by decide +kernel
theorem d_202_233 : decode (zm_code 202) 233 = .ok (.getfield 180, 3) := by decide +kernel
theorem d_202_236 : decode (zm_code 202) 236 = .ok (.bipush 60, 2) := by decide +kernel
theorem d_202_238 : decode (zm_code 202) 238 = .ok (.iload_n 2, 1) := by decide +kernel
theorem d_202_239 : decode (zm_code 202) 239 = .ok (.imul, 1) := by decide +kernel
theorem d_202_240 : decode (zm_code 202) 240 = .ok (.iload_n 3, 1) := by decide +kernel
theorem d_202_241 : decode (zm_code 202) 241 = .ok (.iadd, 1) := by decide +kernel
theorem d_202_242 : decode (zm_code 202) 242 = .ok (.iaload, 1) := by decide +kernel
theorem d_202_243 : decode (zm_code 202) 243 = .ok (.iastore, 1) := by decide +kernel
theorem d_202_244 : decode (zm_code 202) 244 = .ok (.iinc 3 1, 3) := by decide +kernel
theorem d_202_247 : decode (zm_code 202) 247 = .ok (.goto (-101), 3) := by decide +kernel
theorem d_202_250 : decode (zm_code 202) 250 = .ok (.return_, 1) := by decide +kernel
theorem d_203_0 : decode (zm_code 203) 0 = .ok (.iconst 0, 1) := by decide +kernel
theorem d_203_1 : decode (zm_code 203) 1 = .ok (.istore_n 2, 1) := by decide +kernel
theorem d_203_2 : decode (zm_code 203) 2 = .ok (.iload_n 1, 1) := by decide +kernel
theorem d_203_3 : decode (zm_code 203) 3 = .ok (.tableswitch 198 0 11 #[61, 71, 81, 91, 98, 104, 111, 117, 149, 180, 187, 192], 61) := by decide +kernel
theorem d_203_64 : decode (zm_code 203) 64 = .ok (.aload_n 0, 1) := by decide +kernel
theorem d_203_65 : decode (zm_code 203) 65 = .ok (.getfield 54, 3) := by decide +kernel
theorem d_203_68 : decode (zm_code 203) 68 = .ok (.aload_n 0, 1) := by decide +kernel
theorem d_203_69 : decode (zm_code 203) 69 = .ok (.getfield 51, 3) := by decide +kernel
theorem d_203_72 : decode (zm_code 203) 72 = .ok (.iaload, 1) := by decide +kernel
theorem d_203_73 : decode (zm_code 203) 73 = .ok (.ireturn, 1) := by decide +kernel
theorem d_203_74 : decode (zm_code 203) 74 = .ok (.aload_n 0, 1) := by decide +kernel
theorem d_203_75 : decode (zm_code 203) 75 = .ok (.getfield 63, 3) := by decide +kernel
theorem d_203_78 : decode (zm_code 203) 78 = .ok (.aload_n 0, 1) := by decide +kernel
theorem d_203_79 : decode (zm_code 203) 79 = .ok (.getfield 51, 3) := by decide +kernel
theorem d_203_82 : decode (zm_code 203) 82 = .ok (.iaload, 1) := by decide +kernel
theorem d_203_83 : decode (zm_code 203) 83 = .ok (.ireturn, 1) := by decide +kernel
theorem d_203_84 : decode (zm_code 203) 84 = .ok (.aload_n 0, 1) := by decide +kernel
theorem d_203_85 : decode (zm_code 203) 85 = .ok (.getfield 69, 3) := by decide +kernel
theorem d_203_88 : decode (zm_code 203) 88 = .ok (.aload_n 0, 1) := by decide +kernel
theorem d_203_89 : decode (zm_code 203) 89 = .ok (.getfield 51, 3) := by decide +kernel
theorem d_203_92 : decode (zm_code 203) 92 = .ok (.iaload, 1) := by decide +kernel
theorem d_203_93 : decode (zm_code 203) 93 = .ok (.ireturn, 1) := by decide +kernel
theorem d_203_94 : decode (zm_code 203) 94 = .ok (.aload_n 0, 1) := by decide +kernel
theorem d_203_95 : decode (zm_code 203) 95 = .ok (.getfield 153, 3) := by decide +kernel
theorem d_203_98 : decode (zm_code 203) 98 = .ok (.iconst 0, 1) := by decide +kernel
theorem d_203_99 : decode (zm_code 203) 99 = .ok (.iaload, 1) := by decide +kernel
theorem d_203_100 : decode (zm_code 203) 100 = .ok (.ireturn, 1) := by decide +kernel
theorem d_203_101 : decode (zm_code 203) 101 = .ok (.aload_n 0, 1) := by decide +kernel
theorem d_203_102 : decode (zm_code 203) 102 = .ok (.iconst 0, 1) := by decide +kernel
theorem d_203_103 : decode (zm_code 203) 103 = .ok (.invokevirtual 501, 3) := by decide +kernel
theorem d_203_106 : decode (zm_code 203) 106 = .ok (.ireturn, 1) := by decide +kernel
theorem d_203_107 : decode (zm_code 203) 107 = .ok (.aload_n 0, 1) := by decide +kernel
theorem d_203_108 : decode (zm_code 203) 108 = .ok (.getfield 156, 3) := by decide +kernel
theorem d_203_111 : decode (zm_code 203) 111 = .ok (.iconst 0, 1) := by decide +kernel
theorem d_203_112 : decode (zm_code 203) 112 = .ok (.iaload, 1) := by decide +kernel
theorem d_203_113 : decode (zm_code 203) 113 = .ok (.ireturn, 1) := by decide +kernel
theorem d_203_114 : decode (zm_code 203) 114 = .ok (.aload_n 0, 1) := by decide +kernel
theorem d_203_115 : decode (zm_code 203) 115 = .ok (.iconst 0, 1) := by decide +kernel
theorem d_203_116 : decode (zm_code 203) 116 = .ok (.invokevirtual 515, 3) := by decide +kernel
theorem d_203_119 : decode (zm_code 203) 119 = .ok (.ireturn, 1) := by decide +kernel
theorem d_203_120 : decode (zm_code 203) 120 = .ok (.iconst 0, 1) := by decide +kernel
theorem d_203_121 : decode (zm_code 203) 121 = .ok (.istore_n 3, 1) := by decide +kernel
theorem d_203_122 : decode (zm_code 203) 122 = .ok (.iload_n 3, 1) := by decide +kernel
theorem d_203_123 : decode (zm_code 203) 123 = .ok (.aload_n 0, 1) := by decide +kernel
theorem d_203_124 : decode (zm_code 203) 124 = .ok (.getfield 69, 3) := by decide +kernel
theorem d_203_127 : decode (zm_code 203) 127 = .ok (.aload_n 0, 1) := by decide +kernel
theorem d_203_128 : decode (zm_code 203) 128 = .ok (.getfield 51, 3) := by decide +kernel
theorem d_203_131 : decode (zm_code 203) 131 = .ok (.iaload, 1) := by decide +kernel
theorem d_203_132 : decode (zm_code 203) 132 = .ok (.if_icmp .ge 18, 3) := by decide +kernel
theorem d_203_135 : decode (zm_code 203) 135 = .ok (.iload_n 2, 1) := by decide +kernel
theorem d_203_136 : decode (zm_code 203) 136 = .ok (.aload_n 0, 1) := by decide +kernel
theorem d_203_137 : decode (zm_code 203) 137 = .ok (.getfield 162, 3) := by decide +kernel
theorem d_203_140 : decode (zm_code 203) 140 = .ok (.iload_n 3, 1) := by decide +kernel
theorem d_203_141 : decode (zm_code 203) 141 = .ok (.iaload, 1) := by decide +kernel
theorem d_203_142 : decode (zm_code 203) 142 = .ok (.iadd, 1) := by decide +kernel
theorem d_203_143 : decode (zm_code 203) 143 = .ok (.istore_n 2, 1) := by decide +kernel
theorem d_203_144 : decode (zm_code 203) 144 = .ok (.iinc 3 1, 3) := by decide +kernel
theorem d_203_147 : decode (zm_code 203) 147 = .ok (.goto (-25), 3) := by decide +kernel
theorem d_203_150 : decode (zm_code 203) 150 = .ok (.iload_n 2, 1) := by decide +kernel
theorem d_203_151 : decode (zm_code 203) 151 = .ok (.ireturn, 1) := by decide +kernel
theorem d_203_152 : decode (zm_code 203) 152 = .ok (.iconst 0, 1) := by decide +kernel
theorem d_203_153 : decode (zm_code 203) 153 = .ok (.istore_n 3, 1) := by decide +kernel
theorem d_203_154 : decode (zm_code 203) 154 = .ok (.iload_n 3, 1) := by decide +kernel
theorem d_203_155 : decode (zm_code 203) 155 = .ok (.aload_n 0, 1) := by decide +kernel
theorem d_203_156 : decode (zm_code 203) 156 = .ok (.getfield 69, 3) := by decide +kernel
theorem d_203_159 : decode (zm_code 203) 159 = .ok (.aload_n 0, 1) := by decide +kernel
theorem d_203_160 : decode (zm_code 203) 160 = .ok (.getfield 51, 3) := by decide +kernel
theorem d_203_163 : decode (zm_code 203) 163 = .ok (.iaload, 1) := by decide +kernel
theorem d_203_164 : decode (zm_code 203) 164 = .ok (.if_icmp .ge 17, 3) := by decide +kernel
theorem d_203_167 : decode (zm_code 203) 167 = .ok (.iload_n 2, 1) := by decide +kernel
theorem d_203_168 : decode (zm_code 203) 168 = .ok (.aload_n 0, 1) := by decide +kernel
theorem d_203_169 : decode (zm_code 203) 169 = .ok (.iload_n 3, 1) := by decide +kernel
theorem d_203_170 : decode (zm_code 203) 170 = .ok (.invokevirtual 518, 3) := by decide +kernel
theorem d_203_173 : decode (zm_code 203) 173 = .ok (.iadd, 1) := by decide +kernel
theorem d_203_174 : decode (zm_code 203) 174 = .ok (.istore_n 2, 1) := by decide +kernel
theorem d_203_175 : decode (zm_code 203) 175 = .ok (.iinc 3 1, 3) := by decide +kernel
theorem d_203_178 : decode (zm_code 203) 178 = .ok (.goto (-24), 3) := by decide +kernel
theorem d_203_181 : decode (zm_code 203) 181 = .ok (.iload_n 2, 1) := by decide +kernel
theorem d_203_182 : decode (zm_code 203) 182 = .ok (.ireturn, 1) := by decide +kernel
theorem d_203_183 : decode (zm_code 203) 183 = .ok (.aload_n 0, 1) := by decide +kernel
theorem d_203_184 : decode (zm_code 203) 184 = .ok (.getfield 168, 3) := by decide +kernel
theorem d_203_187 : decode (zm_code 203) 187 = .ok (.iconst 0, 1) := by decide +kernel
theorem d_203_188 : decode (zm_code 203) 188 = .ok (.iaload, 1) := by decide +kernel
theorem d_203_189 : decode (zm_code 203) 189 = .ok (.ireturn, 1) := by decide +kernel
theorem d_203_190 : decode (zm_code 203) 190 = .ok (.aload_n 0, 1) := by decide +kernel
theorem d_203_191 : decode (zm_code 203) 191 = .ok (.getfield 186, 3) := by decide +kernel
theorem d_203_194 : decode (zm_code 203) 194 = .ok (.ireturn, 1) := by decide +kernel
theorem d_203_195 : decode (zm_code 203) 195 = .ok (.aload_n 0, 1) := by decide +kernel
theorem d_203_196 : decode (zm_code 203) 196 = .ok (.getfield 189, 3) := by decide +kernel
theorem d_203_199 : decode (zm_code 203) 199 = .ok (.l2i, 1) := by decide +kernel
theorem d_203_200 : decode (zm_code 203) 200 = .ok (.ireturn, 1) := by decide +kernel
theorem d_203_201 : decode (zm_code 203) 201 = .ok (.iconst (-1), 1) := by decide +kernel
theorem d_203_202 : decode (zm_code 203) 202 = .ok (.ireturn, 1) := by decide +kernel
theorem d_204_0 : decode (zm_code 204) 0 = .ok (.iconst 0, 1) := by decide +kernel
theorem d_204_1 : decode (zm_code 204) 1 = .ok (.istore_n 2, 1) := by decide +kernel
theorem d_204_2 : decode (zm_code 204) 2 = .ok (.iconst 0, 1) := by decide +kernel
theorem d_204_3 : decode (zm_code 204) 3 = .ok (.istore_n 3, 1) := by decide +kernel
theorem d_204_4 : decode (zm_code 204) 4 = .ok (.iload_n 3, 1) := by decide +kernel
theorem d_204_5 : decode (zm_code 204) 5 = .ok (.aload_n 0, 1) := by decide +kernel
theorem d_204_6 : decode (zm_code 204) 6 = .ok (.getfield 63, 3) := by decide +kernel
theorem d_204_9 : decode (zm_code 204) 9 = .ok (.aload_n 0, 1) := by decide +kernel
theorem d_204_10 : decode (zm_code 204) 10 = .ok (.getfield 51, 3) := by decide +kernel
theorem d_204_13 : decode (zm_code 204) 13 = .ok (.iaload, 1) := by decide +kernel
theorem d_204_14 : decode (zm_code 204) 14 = .ok (.if_icmp .ge 18, 3) := by decide +kernel
theorem d_204_17 : decode (zm_code 204) 17 = .ok (.iload_n 2, 1) := by decide +kernel
theorem d_204_18 : decode (zm_code 204) 18 = .ok (.aload_n 0, 1) := by decide +kernel
theorem d_204_19 : decode (zm_code 204) 19 = .ok (.iload_n 1, 1) := by decide +kernel
theorem d_204_20 : decode (zm_code 204) 20 = .ok (.iload_n 3, 1) := by decide +kernel
theorem d_204_21 : decode (zm_code 204) 21 = .ok (.invokevirtual 464, 3) := by decide +kernel
theorem d_204_24 : decode (zm_code 204) 24 = .ok (.iadd, 1) := by decide +kernel
theorem d_204_25 : decode (zm_code 204) 25 = .ok (.istore_n 2, 1) := by decide +kernel
theorem d_204_26 : decode (zm_code 204) 26 = .ok (.iinc 3 1, 3) := by decide +kernel
theorem d_204_29 : decode (zm_code 204) 29 = .ok (.goto (-25), 3) := by decide +kernel
theorem d_204_32 : decode (zm_code 204) 32 = .ok (.iload_n 2, 1) := by decide +kernel
theorem d_204_33 : decode (zm_code 204) 33 = .ok (.ireturn, 1) := by decide +kernel
theorem d_205_0 : decode (zm_code 205) 0 = .ok (.iconst 0, 1) := by decide +kernel
theorem d_205_1 : decode (zm_code 205) 1 = .ok (.istore_n 3, 1) := by decide +kernel
theorem d_205_2 : decode (zm_code 205) 2 = .ok (.iconst 0, 1) := by decide +kernel
theorem d_205_3 : decode (zm_code 205) 3 = .ok (.istore 4, 2) := by decide +kernel
theorem d_205_5 : decode (zm_code 205) 5 = .ok (.iload 4, 2) := by decide +kernel
theorem d_205_7 : decode (zm_code 205) 7 = .ok (.aload_n 0, 1) := by decide +kernel
theorem d_205_8 : decode (zm_code 205) 8 = .ok (.getfield 54, 3) := by decide +kernel
theorem d_205_11 : decode (zm_code 205) 11 = .ok (.aload_n 0, 1) := by decide +kernel
theorem d_205_12 : decode (zm_code 205) 12 = .ok (.getfield 51, 3) := by decide +kernel
theorem d_205_15 : decode (zm_code 205) 15 = .ok (.iaload, 1) := by decide +kernel
theorem d_205_16 : decode (zm_code 205) 16 = .ok (.if_icmp .ge 20, 3) := by decide +kernel
theorem d_205_19 : decode (zm_code 205) 19 = .ok (.iload_n 3, 1) := by decide +kernel
theorem d_205_20 : decode (zm_code 205) 20 = .ok (.aload_n 0, 1) := by decide +kernel
theorem d_205_21 : decode (zm_code 205) 21 = .ok (.iload_n 1, 1) := by decide +kernel
theorem d_205_22 : decode (zm_code 205) 22 = .ok (.iload_n 2, 1) := by decide +kernel
theorem d_205_23 : decode (zm_code 205) 23 = .ok (.iload 4, 2) := by decide +kernel
theorem d_205_25 : decode (zm_code 205) 25 = .ok (.invokevirtual 460, 3) := by decide +kernel
theorem d_205_28 : decode (zm_code 205) 28 = .ok (.iadd, 1) := by decide +kernel
theorem d_205_29 : decode (zm_code 205) 29 = .ok (.istore_n 3, 1) := by decide +kernel
theorem d_205_30 : decode (zm_code 205) 30 = .ok (.iinc 4 1, 3) := by decide +kernel
theorem d_205_33 : decode (zm_code 205) 33 = .ok (.goto (-28), 3) := by decide +kernel
theorem d_205_36 : decode (zm_code 205) 36 = .ok (.iload_n 3, 1) := by decide +kernel
theorem d_205_37 : decode (zm_code 205) 37 = .ok (.ireturn, 1) := by decide +kernel
theorem d_206_0 : decode (zm_code 206) 0 = .ok (.aload_n 0, 1) := by decide +kernel
theorem d_206_1 : decode (zm_code 206) 1 = .ok (.getfield 159, 3) := by decide +kernel
theorem d_206_4 : decode (zm_code 206) 4 = .ok (.bipush 40, 2) := by decide +kernel
theorem d_206_6 : decode (zm_code 206) 6 = .ok (.iload_n 1, 1) := by decide +kernel
theorem d_206_7 : decode (zm_code 206) 7 = .ok (.imul, 1) := by decide +kernel
theorem d_206_8 : decode (zm_code 206) 8 = .ok (.bipush 8, 2) := by decide +kernel
theorem d_206_10 : decode (zm_code 206) 10 = .ok (.iload_n 2, 1) := by decide +kernel
theorem d_206_11 : decode (zm_code 206) 11 = .ok (.imul, 1) := by decide +kernel
theorem d_206_12 : decode (zm_code 206) 12 = .ok (.iadd, 1) := by decide +kernel
theorem d_206_13 : decode (zm_code 206) 13 = .ok (.iload_n 3, 1) := by decide +kernel
theorem d_206_14 : decode (zm_code 206) 14 = .ok (.iadd, 1) := by decide +kernel
theorem d_206_15 : decode (zm_code 206) 15 = .ok (.iaload, 1) := by decide +kernel
theorem d_206_16 : decode (zm_code 206) 16 = .ok (.ireturn, 1) := by decide +kernel
theorem d_207_0 : decode (zm_code 207) 0 = .ok (.aload_n 0, 1) := by decide +kernel
theorem d_207_1 : decode (zm_code 207) 1 = .ok (.getfield 87, 3) := by decide +kernel
theorem d_207_4 : decode (zm_code 207) 4 = .ok (.aload_n 0, 1) := by decide +kernel
theorem d_207_5 : decode (zm_code 207) 5 = .ok (.getfield 51, 3) := by decide +kernel
theorem d_207_8 : decode (zm_code 207) 8 = .ok (.iaload, 1) := by decide +kernel
theorem d_207_9 : decode (zm_code 207) 9 = .ok (.iconst (-1), 1) := by decide +kernel
theorem d_207_10 : decode (zm_code 207) 10 = .ok (.if_icmp .ne 5, 3) := by decide +kernel
theorem d_207_13 : decode (zm_code 207) 13 = .ok (.iconst 0, 1) := by decide +kernel
theorem d_207_14 : decode (zm_code 207) 14 = .ok (.ireturn, 1) := by decide +kernel
theorem d_207_15 : decode (zm_code 207) 15 = .ok (.aload_n 0, 1) := by decide +kernel
theorem d_207_16 : decode (zm_code 207) 16 = .ok (.iload_n 1, 1) := by decide +kernel
theorem d_207_17 : decode (zm_code 207) 17 = .ok (.invokevirtual 504, 3) := by decide +kernel
theorem d_207_20 : decode (zm_code 207) 20 = .ok (.aload_n 0, 1) := by decide +kernel
theorem d_207_21 : decode (zm_code 207) 21 = .ok (.aload_n 0, 1) := by decide +kernel
theorem d_207_22 : decode (zm_code 207) 22 = .ok (.getfield 87, 3) := by decide +kernel
theorem d_207_25 : decode (zm_code 207) 25 = .ok (.aload_n 0, 1) := by decide +kernel
theorem d_207_26 : decode (zm_code 207) 26 = .ok (.getfield 51, 3) := by decide +kernel
theorem d_207_29 : decode (zm_code 207) 29 = .ok (.iaload, 1) := by decide +kernel
theorem d_207_30 : decode (zm_code 207) 30 = .ok (.aload_n 0, 1) := by decide +kernel
theorem d_207_31 : decode (zm_code 207) 31 = .ok (.getfield 90, 3) := by decide +kernel
theorem d_207_34 : decode (zm_code 207) 34 = .ok (.aload_n 0, 1) := by decide +kernel
theorem d_207_35 : decode (zm_code 207) 35 = .ok (.getfield 51, 3) := by decide +kernel
theorem d_207_38 : decode (zm_code 207) 38 = .ok (.iaload, 1) := by decide +kernel
theorem d_207_39 : decode (zm_code 207) 39 = .ok (.invokevirtual 507, 3) := by decide +kernel
theorem d_207_42 : decode (zm_code 207) 42 = .ok (.lstore_n 2, 1) := by decide +kernel
theorem d_207_43 : decode (zm_code 207) 43 = .ok (.lload_n 2, 1) := by decide +kernel
theorem d_207_44 : decode (zm_code 207) 44 = .ok (.lconst 0, 1) := by decide +kernel
theorem d_207_45 : decode (zm_code 207) 45 = .ok (.lcmp, 1) := by decide +kernel
theorem d_207_46 : decode (zm_code 207) 46 = .ok (.ifCond .ge 7, 3) := by decide +kernel
theorem d_207_49 : decode (zm_code 207) 49 = .ok (.iconst 0, 1) := by decide +kernel
theorem d_207_50 : decode (zm_code 207) 50 = .ok (.goto 18, 3) := by decide +kernel
theorem d_207_53 : decode (zm_code 207) 53 = .ok (.lload_n 2, 1) := by decide +kernel
theorem d_207_54 : decode (zm_code 207) 54 = .ok (.ldc2_w 510, 3) := by decide +kernel
theorem d_207_57 : decode (zm_code 207) 57 = .ok (.lcmp, 1) := by decide +kernel
theorem d_207_58 : decode (zm_code 207) 58 = .ok (.ifCond .le 8, 3) := by decide +kernel
theorem d_207_61 : decode (zm_code 207) 61 = .ok (.bipush 99, 2) := by decide +kernel
theorem d_207_63 : decode (zm_code 207) 63 = .ok (.goto 5, 3) := by decide +kernel
theorem d_207_66 : decode (zm_code 207) 66 = .ok (.lload_n 2, 1) := by decide +kernel
theorem d_207_67 : decode (zm_code 207) 67 = .ok (.l2i, 1) := by decide +kernel
theorem d_207_68 : decode (zm_code 207) 68 = .ok (.ireturn, 1) := by decide +kernel
theorem d_208_0 : decode (zm_code 208) 0 = .ok (.aload_n 0, 1) := by decide +kernel
theorem d_208_1 : decode (zm_code 208) 1 = .ok (.aload_n 0, 1) := by decide +kernel
theorem d_208_2 : decode (zm_code 208) 2 = .ok (.getfield 153, 3) := by decide +kernel
theorem d_208_5 : decode (zm_code 208) 5 = .ok (.iload_n 1, 1) := by decide +kernel
theorem d_208_6 : decode (zm_code 208) 6 = .ok (.iaload, 1) := by decide +kernel
theorem d_208_7 : decode (zm_code 208) 7 = .ok (.putfield 195, 3) := by decide +kernel
theorem d_208_10 : decode (zm_code 208) 10 = .ok (.aload_n 0, 1) := by decide +kernel
theorem d_208_11 : decode (zm_code 208) 11 = .ok (.aload_n 0, 1) := by decide +kernel
theorem d_208_12 : decode (zm_code 208) 12 = .ok (.iload_n 1, 1) := by decide +kernel
theorem d_208_13 : decode (zm_code 208) 13 = .ok (.invokevirtual 501, 3) := by decide +kernel
theorem d_208_16 : decode (zm_code 208) 16 = .ok (.putfield 198, 3) := by decide +kernel
theorem d_208_19 : decode (zm_code 208) 19 = .ok (.aload_n 0, 1) := by decide +kernel
theorem d_208_20 : decode (zm_code 208) 20 = .ok (.aload_n 0, 1) := by decide +kernel
theorem d_208_21 : decode (zm_code 208) 21 = .ok (.getfield 156, 3) := by decide +kernel
theorem d_208_24 : decode (zm_code 208) 24 = .ok (.iload_n 1, 1) := by decide +kernel
theorem d_208_25 : decode (zm_code 208) 25 = .ok (.iaload, 1) := by decide +kernel
theorem d_208_26 : decode (zm_code 208) 26 = .ok (.putfield 201, 3) := by decide +kernel
theorem d_208_29 : decode (zm_code 208) 29 = .ok (.aload_n 0, 1) := by decide +kernel
theorem d_208_30 : decode (zm_code 208) 30 = .ok (.iconst 0, 1) := by decide +kernel
theorem d_208_31 : decode (zm_code 208) 31 = .ok (.putfield 204, 3) := by decide +kernel
theorem d_208_34 : decode (zm_code 208) 34 = .ok (.aload_n 0, 1) := by decide +kernel
theorem d_208_35 : decode (zm_code 208) 35 = .ok (.iconst 0, 1) := by decide +kernel
theorem d_208_36 : decode (zm_code 208) 36 = .ok (.putfield 207, 3) := by decide +kernel
theorem d_208_39 : decode (zm_code 208) 39 = .ok (.aload_n 0, 1) := by decide +kernel
theorem d_208_40 : decode (zm_code 208) 40 = .ok (.iconst 0, 1) := by decide +kernel
theorem d_208_41 : decode (zm_code 208) 41 = .ok (.putfield 210, 3) := by decide +kernel
theorem d_208_44 : decode (zm_code 208) 44 = .ok (.return_, 1) := by decide +kernel
theorem d_209_0 : decode (zm_code 209) 0 = .ok (.iconst 0, 1) := by decide +kernel
theorem d_209_1 : decode (zm_code 209) 1 = .ok (.istore_n 3, 1) := by decide +kernel
theorem d_209_2 : decode (zm_code 209) 2 = .ok (.sipush 1600, 3) := by decide +kernel
theorem d_209_5 : decode (zm_code 209) 5 = .ok (.aload_n 0, 1) := by decide +kernel
theorem d_209_6 : decode (zm_code 209) 6 = .ok (.getfield 51, 3) := by decide +kernel
theorem d_209_9 : decode (zm_code 209) 9 = .ok (.imul, 1) := by decide +kernel
theorem d_209_10 : decode (zm_code 209) 10 = .ok (.iload_n 1, 1) := by decide +kernel
theorem d_209_11 : decode (zm_code 209) 11 = .ok (.iadd, 1) := by decide +kernel
theorem d_209_12 : decode (zm_code 209) 12 = .ok (.istore 4, 2) := by decide +kernel
theorem d_209_14 : decode (zm_code 209) 14 = .ok (.iload 4, 2) := by decide +kernel
theorem d_209_16 : decode (zm_code 209) 16 = .ok (.sipush 1600, 3) := by decide +kernel
theorem d_209_19 : decode (zm_code 209) 19 = .ok (.aload_n 0, 1) := by decide +kernel
theorem d_209_20 : decode (zm_code 209) 20 = .ok (.getfield 51, 3) := by decide +kernel
theorem d_209_23 : decode (zm_code 209) 23 = .ok (.imul, 1) := by decide +kernel
theorem d_209_24 : decode (zm_code 209) 24 = .ok (.iload_n 2, 1) := by decide +kernel
theorem d_209_25 : decode (zm_code 209) 25 = .ok (.iadd, 1) := by decide +kernel
theorem d_209_26 : decode (zm_code 209) 26 = .ok (.if_icmp .ge 108, 3) := by decide +kernel
theorem d_209_29 : decode (zm_code 209) 29 = .ok (.aload_n 0, 1) := by decide +kernel
theorem d_209_30 : decode (zm_code 209) 30 = .ok (.getfield 99, 3) := by decide +kernel
theorem d_209_33 : decode (zm_code 209) 33 = .ok (.iload 4, 2) := by decide +kernel
theorem d_209_35 : decode (zm_code 209) 35 = .ok (.iaload, 1) := by decide +kernel
theorem d_209_36 : decode (zm_code 209) 36 = .ok (.istore 5, 2) := by decide +kernel
theorem d_209_38 : decode (zm_code 209) 38 = .ok (.iload 5, 2) := by decide +kernel
theorem d_209_40 : decode (zm_code 209) 40 = .ok (.bipush 9, 2) := by decide +kernel
theorem d_209_42 : decode (zm_code 209) 42 = .ok (.if_icmp .gt 28, 3) := by decide +kernel
theorem d_209_45 : decode (zm_code 209) 45 = .ok (.aload_n 0, 1) := by decide +kernel
theorem d_209_46 : decode (zm_code 209) 46 = .ok (.getfield 192, 3) := by decide +kernel
theorem d_209_49 : decode (zm_code 209) 49 = .ok (.iload_n 3, 1) := by decide +kernel
theorem d_209_50 : decode (zm_code 209) 50 = .ok (.aload_n 0, 1) := by decide +kernel
theorem d_209_51 : decode (zm_code 209) 51 = .ok (.iload 5, 2) := by decide +kernel
theorem d_209_53 : decode (zm_code 209) 53 = .ok (.aload_n 0, 1) := by decide +kernel
theorem d_209_54 : decode (zm_code 209) 54 = .ok (.getfield 102, 3) := by decide +kernel
theorem d_209_57 : decode (zm_code 209) 57 = .ok (.iload 4, 2) := by decide +kernel
theorem d_209_59 : decode (zm_code 209) 59 = .ok (.iaload, 1) := by decide +kernel
theorem d_209_60 : decode (zm_code 209) 60 = .ok (.invokevirtual 452, 3) := by decide +kernel
theorem d_209_63 : decode (zm_code 209) 63 = .ok (.lastore, 1) := by decide +kernel
theorem d_209_64 : decode (zm_code 209) 64 = .ok (.iinc 3 1, 3) := by decide +kernel
theorem d_209_67 : decode (zm_code 209) 67 = .ok (.goto 61, 3) := by decide +kernel
theorem d_209_70 : decode (zm_code 209) 70 = .ok (.iload 5, 2) := by decide +kernel
theorem d_209_72 : decode (zm_code 209) 72 = .ok (.bipush 22, 2) := by decide +kernel
theorem d_209_74 : decode (zm_code 209) 74 = .ok (.if_icmp .ne 24, 3) := by decide +kernel
theorem d_209_77 : decode (zm_code 209) 77 = .ok (.aload_n 0, 1) := by decide +kernel
theorem d_209_78 : decode (zm_code 209) 78 = .ok (.getfield 192, 3) := by decide +kernel
theorem d_209_81 : decode (zm_code 209) 81 = .ok (.iload_n 3, 1) := by decide +kernel
theorem d_209_82 : decode (zm_code 209) 82 = .ok (.iconst 1, 1) := by decide +kernel
theorem d_209_83 : decode (zm_code 209) 83 = .ok (.isub, 1) := by decide +kernel
theorem d_209_84 : decode (zm_code 209) 84 = .ok (.lconst 1, 1) := by decide +kernel
theorem d_209_85 : decode (zm_code 209) 85 = .ok (.aload_n 0, 1) := by decide +kernel
theorem d_209_86 : decode (zm_code 209) 86 = .ok (.getfield 192, 3) := by decide +kernel
theorem d_209_89 : decode (zm_code 209) 89 = .ok (.iload_n 3, 1) := by decide +kernel
theorem d_209_90 : decode (zm_code 209) 90 = .ok (.iconst 1, 1) := by decide +kernel
theorem d_209_91 : decode (zm_code 209) 91 = .ok (.isub, 1) := by decide +kernel
theorem d_209_92 : decode (zm_code 209) 92 = .ok (.laload, 1) := by decide +kernel
theorem d_209_93 : decode (zm_code 209) 93 = .ok (.lsub, 1) := by decide +kernel
theorem d_209_94 : decode (zm_code 209) 94 = .ok (.lastore, 1) := by decide +kernel
theorem d_209_95 : decode (zm_code 209) 95 = .ok (.goto 33, 3) := by decide +kernel
theorem d_209_98 : decode (zm_code 209) 98 = .ok (.iinc 3 (-1), 3) := by decide +kernel
theorem d_209_101 : decode (zm_code 209) 101 = .ok (.aload_n 0, 1) := by decide +kernel
theorem d_209_102 : decode (zm_code 209) 102 = .ok (.getfield 192, 3) := by decide +kernel
theorem d_209_105 : decode (zm_code 209) 105 = .ok (.iload_n 3, 1) := by decide +kernel
theorem d_209_106 : decode (zm_code 209) 106 = .ok (.iconst 1, 1) := by decide +kernel
theorem d_209_107 : decode (zm_code 209) 107 = .ok (.isub, 1) := by decide +kernel
theorem d_209_108 : decode (zm_code 209) 108 = .ok (.iload 5, 2) := by decide +kernel
theorem d_209_110 : decode (zm_code 209) 110 = .ok (.aload_n 0, 1) := by decide +kernel
theorem d_209_111 : decode (zm_code 209) 111 = .ok (.getfield 192, 3) := by decide +kernel
theorem d_209_114 : decode (zm_code 209) 114 = .ok (.iload_n 3, 1) := by decide +kernel
theorem d_209_115 : decode (zm_code 209) 115 = .ok (.iconst 1, 1) := by decide +kernel
theorem d_209_116 : decode (zm_code 209) 116 = .ok (.isub, 1) := by decide +kernel
theorem d_209_117 : decode (zm_code 209) 117 = .ok (.laload, 1) := by decide +kernel
theorem d_209_118 : decode (zm_code 209) 118 = .ok (.aload_n 0, 1) := by decide +kernel
theorem d_209_119 : decode (zm_code 209) 119 = .ok (.getfield 192, 3) := by decide +kernel
theorem d_209_122 : decode (zm_code 209) 122 = .ok (.iload_n 3, 1) := by decide +kernel
theorem d_209_123 : decode (zm_code 209) 123 = .ok (.laload, 1) := by decide +kernel
theorem d_209_124 : decode (zm_code 209) 124 = .ok (.invokestatic 456, 3) := by decide +kernel
theorem d_209_127 : decode (zm_code 209) 127 = .ok (.lastore, 1) := by decide +kernel
theorem d_209_128 : decode (zm_code 209) 128 = .ok (.iinc 4 1, 3) := by decide +kernel
theorem d_209_131 : decode (zm_code 209) 131 = .ok (.goto (-117), 3) := by decide +kernel
theorem d_209_134 : decode (zm_code 209) 134 = .ok (.aload_n 0, 1) := by decide +kernel
theorem d_209_135 : decode (zm_code 209) 135 = .ok (.getfield 192, 3) := by decide +kernel
theorem d_209_138 : decode (zm_code 209) 138 = .ok (.iconst 0, 1) := by decide +kernel
theorem d_209_139 : decode (zm_code 209) 139 = .ok (.laload, 1) := by decide +kernel
theorem d_209_140 : decode (zm_code 209) 140 = .ok (.lreturn, 1) := by decide +kernel
theorem d_210_0 : decode (zm_code 210) 0 = .ok (.iload_n 1, 1) := by decide +kernel
theorem d_210_1 : decode (zm_code 210) 1 = .ok (.tableswitch 82 0 6 #[43, 46, 52, 58, 64, 70, 76], 43) := by decide +kernel
theorem d_210_44 : decode (zm_code 210) 44 = .ok (.iload_n 2, 1) := by decide +kernel
theorem d_210_45 : decode (zm_code 210) 45 = .ok (.i2l, 1) := by decide +kernel
theorem d_210_46 : decode (zm_code 210) 46 = .ok (.lreturn, 1) := by decide +kernel
theorem d_210_47 : decode (zm_code 210) 47 = .ok (.aload_n 0, 1) := by decide +kernel
theorem d_210_48 : decode (zm_code 210) 48 = .ok (.getfield 195, 3) := by decide +kernel
theorem d_210_51 : decode (zm_code 210) 51 = .ok (.i2l, 1) := by decide +kernel
theorem d_210_52 : decode (zm_code 210) 52 = .ok (.lreturn, 1) := by decide +kernel
theorem d_210_53 : decode (zm_code 210) 53 = .ok (.aload_n 0, 1) := by decide +kernel
theorem d_210_54 : decode (zm_code 210) 54 = .ok (.getfield 198, 3) := by decide +kernel
theorem d_210_57 : decode (zm_code 210) 57 = .ok (.i2l, 1) := by decide +kernel
theorem d_210_58 : decode (zm_code 210) 58 = .ok (.lreturn, 1) := by decide +kernel
theorem d_210_59 : decode (zm_code 210) 59 = .ok (.aload_n 0, 1) := by decide +kernel
theorem d_210_60 : decode (zm_code 210) 60 = .ok (.getfield 201, 3) := by decide +kernel
theorem d_210_63 : decode (zm_code 210) 63 = .ok (.i2l, 1) := by decide +kernel
theorem d_210_64 : decode (zm_code 210) 64 = .ok (.lreturn, 1) := by decide +kernel
theorem d_210_65 : decode (zm_code 210) 65 = .ok (.aload_n 0, 1) := by decide +kernel
theorem d_210_66 : decode (zm_code 210) 66 = .ok (.getfield 204, 3) := by decide +kernel
theorem d_210_69 : decode (zm_code 210) 69 = .ok (.i2l, 1) := by decide +kernel
theorem d_210_70 : decode (zm_code 210) 70 = .ok (.lreturn, 1) := by decide +kernel
theorem d_210_71 : decode (zm_code 210) 71 = .ok (.aload_n 0, 1) := by decide +kernel
theorem d_210_72 : decode (zm_code 210) 72 = .ok (.getfield 207, 3) := by decide +kernel
theorem d_210_75 : decode (zm_code 210) 75 = .ok (.i2l, 1) := by decide +kernel
theorem d_210_76 : decode (zm_code 210) 76 = .ok (.lreturn, 1) := by decide +kernel
theorem d_210_77 : decode (zm_code 210) 77 = .ok (.aload_n 0, 1) := by decide +kernel
theorem d_210_78 : decode (zm_code 210) 78 = .ok (.getfield 210, 3) := by decide +kernel
theorem d_210_81 : decode (zm_code 210) 81 = .ok (.i2l, 1) := by decide +kernel
theorem d_210_82 : decode (zm_code 210) 82 = .ok (.lreturn, 1) := by decide +kernel
theorem d_210_83 : decode (zm_code 210) 83 = .ok (.lconst 1, 1) := by decide +kernel
theorem d_210_84 : decode (zm_code 210) 84 = .ok (.lreturn, 1) := by decide +kernel
theorem d_211_0 : decode (zm_code 211) 0 = .ok (.iload_n 0, 1) := by decide +kernel
theorem d_211_1 : decode (zm_code 211) 1 = .ok (.tableswitch 176 10 20 #[59, 66, 73, 80, 89, 112, 124, 136, 148, 160, 172], 59) := by decide +kernel
theorem d_211_60 : decode (zm_code 211) 60 = .ok (.lload_n 1, 1) := by decide +kernel
theorem d_211_61 : decode (zm_code 211) 61 = .ok (.lload_n 3, 1) := by decide +kernel
theorem d_211_62 : decode (zm_code 211) 62 = .ok (.ladd, 1) := by decide +kernel
theorem d_211_63 : decode (zm_code 211) 63 = .ok (.invokestatic 444, 3) := by decide +kernel
theorem d_211_66 : decode (zm_code 211) 66 = .ok (.lreturn, 1) := by decide +kernel
theorem d_211_67 : decode (zm_code 211) 67 = .ok (.lload_n 1, 1) := by decide +kernel
theorem d_211_68 : decode (zm_code 211) 68 = .ok (.lload_n 3, 1) := by decide +kernel
theorem d_211_69 : decode (zm_code 211) 69 = .ok (.lsub, 1) := by decide +kernel
theorem d_211_70 : decode (zm_code 211) 70 = .ok (.invokestatic 444, 3) := by decide +kernel
theorem d_211_73 : decode (zm_code 211) 73 = .ok (.lreturn, 1) := by decide +kernel
theorem d_211_74 : decode (zm_code 211) 74 = .ok (.lload_n 1, 1) := by decide +kernel
theorem d_211_75 : decode (zm_code 211) 75 = .ok (.lload_n 3, 1) := by decide +kernel
theorem d_211_76 : decode (zm_code 211) 76 = .ok (.lmul, 1) := by decide +kernel
theorem d_211_77 : decode (zm_code 211) 77 = .ok (.invokestatic 444, 3) := by decide +kernel
theorem d_211_80 : decode (zm_code 211) 80 = .ok (.lreturn, 1) := by decide +kernel
theorem d_211_81 : decode (zm_code 211) 81 = .ok (.lload_n 1, 1) := by decide +kernel
theorem d_211_82 : decode (zm_code 211) 82 = .ok (.lload_n 3, 1) := by decide +kernel
theorem d_211_83 : decode (zm_code 211) 83 = .ok (.invokestatic 448, 3) := by decide +kernel
theorem d_211_86 : decode (zm_code 211) 86 = .ok (.invokestatic 444, 3) := by decide +kernel
theorem d_211_89 : decode (zm_code 211) 89 = .ok (.lreturn, 1) := by decide +kernel
theorem d_211_90 : decode (zm_code 211) 90 = .ok (.lload_n 3, 1) := by decide +kernel
theorem d_211_91 : decode (zm_code 211) 91 = .ok (.lconst 0, 1) := by decide +kernel
theorem d_211_92 : decode (zm_code 211) 92 = .ok (.lcmp, 1) := by decide +kernel
theorem d_211_93 : decode (zm_code 211) 93 = .ok (.ifCond .ne 7, 3) := by decide +kernel
theorem d_211_96 : decode (zm_code 211) 96 = .ok (.lconst 0, 1) := by decide +kernel
theorem d_211_97 : decode (zm_code 211) 97 = .ok (.goto 15, 3) := by decide +kernel
theorem d_211_100 : decode (zm_code 211) 100 = .ok (.lload_n 1, 1) := by decide +kernel
theorem d_211_101 : decode (zm_code 211) 101 = .ok (.lload_n 3, 1) := by decide +kernel
theorem d_211_102 : decode (zm_code 211) 102 = .ok (.lload_n 1, 1) := by decide +kernel
theorem d_211_103 : decode (zm_code 211) 103 = .ok (.lload_n 3, 1) := by decide +kernel
theorem d_211_104 : decode (zm_code 211) 104 = .ok (.invokestatic 448, 3) := by decide +kernel
theorem d_211_107 : decode (zm_code 211) 107 = .ok (.lmul, 1) := by decide +kernel
theorem d_211_108 : decode (zm_code 211) 108 = .ok (.lsub, 1) := by decide +kernel
theorem d_211_109 : decode (zm_code 211) 109 = .ok (.invokestatic 444, 3) := by decide +kernel
theorem d_211_112 : decode (zm_code 211) 112 = .ok (.lreturn, 1) := by decide +kernel
theorem d_211_113 : decode (zm_code 211) 113 = .ok (.lload_n 1, 1) := by decide +kernel
theorem d_211_114 : decode (zm_code 211) 114 = .ok (.lload_n 3, 1) := by decide +kernel
theorem d_211_115 : decode (zm_code 211) 115 = .ok (.lcmp, 1) := by decide +kernel
theorem d_211_116 : decode (zm_code 211) 116 = .ok (.ifCond .ge 7, 3) := by decide +kernel
theorem d_211_119 : decode (zm_code 211) 119 = .ok (.lload_n 1, 1) := by decide +kernel
theorem d_211_120 : decode (zm_code 211) 120 = .ok (.goto 4, 3) := by decide +kernel
theorem d_211_123 : decode (zm_code 211) 123 = .ok (.lload_n 3, 1) := by decide +kernel
theorem d_211_124 : decode (zm_code 211) 124 = .ok (.lreturn, 1) := by decide +kernel
theorem d_211_125 : decode (zm_code 211) 125 = .ok (.lload_n 1, 1) := by decide +kernel
theorem d_211_126 : decode (zm_code 211) 126 = .ok (.lload_n 3, 1) := by decide +kernel
theorem d_211_127 : decode (zm_code 211) 127 = .ok (.lcmp, 1) := by decide +kernel
theorem d_211_128 : decode (zm_code 211) 128 = .ok (.ifCond .le 7, 3) := by decide +kernel
theorem d_211_131 : decode (zm_code 211) 131 = .ok (.lload_n 1, 1) := by decide +kernel
theorem d_211_132 : decode (zm_code 211) 132 = .ok (.goto 4, 3) := by decide +kernel
theorem d_211_135 : decode (zm_code 211) 135 = .ok (.lload_n 3, 1) := by decide +kernel
theorem d_211_136 : decode (zm_code 211) 136 = .ok (.lreturn, 1) := by decide +kernel
theorem d_211_137 : decode (zm_code 211) 137 = .ok (.lload_n 1, 1) := by decide +kernel
theorem d_211_138 : decode (zm_code 211) 138 = .ok (.lload_n 3, 1) := by decide +kernel
theorem d_211_139 : decode (zm_code 211) 139 = .ok (.lcmp, 1) := by decide +kernel
theorem d_211_140 : decode (zm_code 211) 140 = .ok (.ifCond .ge 7, 3) := by decide +kernel
theorem d_211_143 : decode (zm_code 211) 143 = .ok (.lconst 1, 1) := by decide +kernel
theorem d_211_144 : decode (zm_code 211) 144 = .ok (.goto 4, 3) := by decide +kernel
theorem d_211_147 : decode (zm_code 211) 147 = .ok (.lconst 0, 1) := by decide +kernel
theorem d_211_148 : decode (zm_code 211) 148 = .ok (.lreturn, 1) := by decide +kernel
theorem d_211_149 : decode (zm_code 211) 149 = .ok (.lload_n 1, 1) := by decide +kernel
theorem d_211_150 : decode (zm_code 211) 150 = .ok (.lload_n 3, 1) := by decide +kernel
theorem d_211_151 : decode (zm_code 211) 151 = .ok (.lcmp, 1) := by decide +kernel
theorem d_211_152 : decode (zm_code 211) 152 = .ok (.ifCond .le 7, 3) := by decide +kernel
theorem d_211_155 : decode (zm_code 211) 155 = .ok (.lconst 1, 1) := by decide +kernel
theorem d_211_156 : decode (zm_code 211) 156 = .ok (.goto 4, 3) := by decide +kernel
theorem d_211_159 : decode (zm_code 211) 159 = .ok (.lconst 0, 1) := by decide +kernel
theorem d_211_160 : decode (zm_code 211) 160 = .ok (.lreturn, 1) := by decide +kernel
theorem d_211_161 : decode (zm_code 211) 161 = .ok (.lload_n 1, 1) := by decide +kernel
theorem d_211_162 : decode (zm_code 211) 162 = .ok (.lload_n 3, 1) := by decide +kernel
theorem d_211_163 : decode (zm_code 211) 163 = .ok (.lcmp, 1) := by decide +kernel
theorem d_211_164 : decode (zm_code 211) 164 = .ok (.ifCond .ne 7, 3) := by decide +kernel
theorem d_211_167 : decode (zm_code 211) 167 = .ok (.lconst 1, 1) := by decide +kernel
theorem d_211_168 : decode (zm_code 211) 168 = .ok (.goto 4, 3) := by decide +kernel
theorem d_211_171 : decode (zm_code 211) 171 = .ok (.lconst 0, 1) := by decide +kernel
theorem d_211_172 : decode (zm_code 211) 172 = .ok (.lreturn, 1) := by decide +kernel
theorem d_211_173 : decode (zm_code 211) 173 = .ok (.lload_n 1, 1) := by decide +kernel
theorem d_211_174 : decode (zm_code 211) 174 = .ok (.lload_n 3, 1) := by decide +kernel
theorem d_211_175 : decode (zm_code 211) 175 = .ok (.land, 1) := by decide +kernel
theorem d_211_176 : decode (zm_code 211) 176 = .ok (.lreturn, 1) := by decide +kernel
theorem d_211_177 : decode (zm_code 211) 177 = .ok (.lload_n 1, 1) := by decide +kernel
theorem d_211_178 : decode (zm_code 211) 178 = .ok (.lload_n 3, 1) := by decide +kernel
theorem d_211_179 : decode (zm_code 211) 179 = .ok (.lor, 1) := by decide +kernel
theorem d_211_180 : decode (zm_code 211) 180 = .ok (.lreturn, 1) := by decide +kernel
theorem d_212_0 : decode (zm_code 212) 0 = .ok (.lload_n 0, 1) := by decide +kernel
theorem d_212_1 : decode (zm_code 212) 1 = .ok (.ldc2_w 440, 3) := by decide +kernel
theorem d_212_4 : decode (zm_code 212) 4 = .ok (.lcmp, 1) := by decide +kernel
theorem d_212_5 : decode (zm_code 212) 5 = .ok (.ifCond .le 9, 3) := by decide +kernel
theorem d_212_8 : decode (zm_code 212) 8 = .ok (.ldc2_w 440, 3) := by decide +kernel
theorem d_212_11 : decode (zm_code 212) 11 = .ok (.goto 18, 3) := by decide +kernel
theorem d_212_14 : decode (zm_code 212) 14 = .ok (.lload_n 0, 1) := by decide +kernel
theorem d_212_15 : decode (zm_code 212) 15 = .ok (.ldc2_w 442, 3) := by decide +kernel
theorem d_212_18 : decode (zm_code 212) 18 = .ok (.lcmp, 1) := by decide +kernel
theorem d_212_19 : decode (zm_code 212) 19 = .ok (.ifCond .ge 9, 3) := by decide +kernel
theorem d_212_22 : decode (zm_code 212) 22 = .ok (.ldc2_w 442, 3) := by decide +kernel
theorem d_212_25 : decode (zm_code 212) 25 = .ok (.goto 4, 3) := by decide +kernel
theorem d_212_28 : decode (zm_code 212) 28 = .ok (.lload_n 0, 1) := by decide +kernel
theorem d_212_29 : decode (zm_code 212) 29 = .ok (.lreturn, 1) := by decide +kernel
theorem d_213_0 : decode (zm_code 213) 0 = .ok (.lload_n 2, 1) := by decide +kernel
theorem d_213_1 : decode (zm_code 213) 1 = .ok (.lconst 0, 1) := by decide +kernel
theorem d_213_2 : decode (zm_code 213) 2 = .ok (.lcmp, 1) := by decide +kernel
theorem d_213_3 : decode (zm_code 213) 3 = .ok (.ifCond .ne 5, 3) := by decide +kernel
theorem d_213_6 : decode (zm_code 213) 6 = .ok (.lconst 0, 1) := by decide +kernel
theorem d_213_7 : decode (zm_code 213) 7 = .ok (.lreturn, 1) := by decide +kernel
theorem d_213_8 : decode (zm_code 213) 8 = .ok (.lload_n 0, 1) := by decide +kernel
theorem d_213_9 : decode (zm_code 213) 9 = .ok (.lload_n 2, 1) := by decide +kernel
theorem d_213_10 : decode (zm_code 213) 10 = .ok (.ldiv, 1) := by decide +kernel
theorem d_213_11 : decode (zm_code 213) 11 = .ok (.lstore 4, 2) := by decide +kernel
theorem d_213_13 : decode (zm_code 213) 13 = .ok (.lload_n 0, 1) := by decide +kernel
theorem d_213_14 : decode (zm_code 213) 14 = .ok (.lload_n 2, 1) := by decide +kernel
theorem d_213_15 : decode (zm_code 213) 15 = .ok (.lrem, 1) := by decide +kernel
theorem d_213_16 : decode (zm_code 213) 16 = .ok (.lconst 0, 1) := by decide +kernel
theorem d_213_17 : decode (zm_code 213) 17 = .ok (.lcmp, 1) := by decide +kernel
theorem d_213_18 : decode (zm_code 213) 18 = .ok (.ifCond .eq 35, 3) := by decide +kernel
theorem d_213_21 : decode (zm_code 213) 21 = .ok (.lload_n 0, 1) := by decide +kernel
theorem d_213_22 : decode (zm_code 213) 22 = .ok (.lconst 0, 1) := by decide +kernel
theorem d_213_23 : decode (zm_code 213) 23 = .ok (.lcmp, 1) := by decide +kernel
theorem d_213_24 : decode (zm_code 213) 24 = .ok (.ifCond .ge 7, 3) := by decide +kernel
theorem d_213_27 : decode (zm_code 213) 27 = .ok (.iconst 1, 1) := by decide +kernel
theorem d_213_28 : decode (zm_code 213) 28 = .ok (.goto 4, 3) := by decide +kernel
theorem d_213_31 : decode (zm_code 213) 31 = .ok (.iconst 0, 1) := by decide +kernel
theorem d_213_32 : decode (zm_code 213) 32 = .ok (.lload_n 2, 1) := by decide +kernel
theorem d_213_33 : decode (zm_code 213) 33 = .ok (.lconst 0, 1) := by decide +kernel
theorem d_213_34 : decode (zm_code 213) 34 = .ok (.lcmp, 1) := by decide +kernel
theorem d_213_35 : decode (zm_code 213) 35 = .ok (.ifCond .ge 7, 3) := by decide +kernel
theorem d_213_38 : decode (zm_code 213) 38 = .ok (.iconst 1, 1) := by decide +kernel
theorem d_213_39 : decode (zm_code 213) 39 = .ok (.goto 4, 3) := by decide +kernel
theorem d_213_42 : decode (zm_code 213) 42 = .ok (.iconst 0, 1) := by decide +kernel
theorem d_213_43 : decode (zm_code 213) 43 = .ok (.if_icmp .eq 10, 3) := by decide +kernel
theorem d_213_46 : decode (zm_code 213) 46 = .ok (.lload 4, 2) := by decide +kernel
theorem d_213_48 : decode (zm_code 213) 48 = .ok (.lconst 1, 1) := by decide +kernel
theorem d_213_49 : decode (zm_code 213) 49 = .ok (.lsub, 1) := by decide +kernel
theorem d_213_50 : decode (zm_code 213) 50 = .ok (.goto 5, 3) := by decide +kernel
theorem d_213_53 : decode (zm_code 213) 53 = .ok (.lload 4, 2) := by decide +kernel
theorem d_213_55 : decode (zm_code 213) 55 = .ok (.lreturn, 1) := by decide +kernel
theorem d_214_0 : decode (zm_code 214) 0 = .ok (.iconst 0, 1) := by decide +kernel
theorem d_214_1 : decode (zm_code 214) 1 = .ok (.istore_n 2, 1) := by decide +kernel
theorem d_214_2 : decode (zm_code 214) 2 = .ok (.iconst 0, 1) := by decide +kernel
theorem d_214_3 : decode (zm_code 214) 3 = .ok (.istore_n 3, 1) := by decide +kernel
theorem d_214_4 : decode (zm_code 214) 4 = .ok (.iload_n 3, 1) := by decide +kernel
theorem d_214_5 : decode (zm_code 214) 5 = .ok (.aload_n 0, 1) := by decide +kernel
theorem d_214_6 : decode (zm_code 214) 6 = .ok (.getfield 54, 3) := by decide +kernel
theorem d_214_9 : decode (zm_code 214) 9 = .ok (.aload_n 0, 1) := by decide +kernel
theorem d_214_10 : decode (zm_code 214) 10 = .ok (.getfield 51, 3) := by decide +kernel
theorem d_214_13 : decode (zm_code 214) 13 = .ok (.iaload, 1) := by decide +kernel
theorem d_214_14 : decode (zm_code 214) 14 = .ok (.if_icmp .ge 19, 3) := by decide +kernel
theorem d_214_17 : decode (zm_code 214) 17 = .ok (.iload_n 2, 1) := by decide +kernel
theorem d_214_18 : decode (zm_code 214) 18 = .ok (.aload_n 0, 1) := by decide +kernel
theorem d_214_19 : decode (zm_code 214) 19 = .ok (.iconst 0, 1) := by decide +kernel
theorem d_214_20 : decode (zm_code 214) 20 = .ok (.iload_n 1, 1) := by decide +kernel
theorem d_214_21 : decode (zm_code 214) 21 = .ok (.iload_n 3, 1) := by decide +kernel
theorem d_214_22 : decode (zm_code 214) 22 = .ok (.invokevirtual 512, 3) := by decide +kernel
theorem d_214_25 : decode (zm_code 214) 25 = .ok (.iadd, 1) := by decide +kernel
theorem d_214_26 : decode (zm_code 214) 26 = .ok (.istore_n 2, 1) := by decide +kernel
theorem d_214_27 : decode (zm_code 214) 27 = .ok (.iinc 3 1, 3) := by decide +kernel
theorem d_214_30 : decode (zm_code 214) 30 = .ok (.goto (-26), 3) := by decide +kernel
theorem d_214_33 : decode (zm_code 214) 33 = .ok (.iload_n 2, 1) := by decide +kernel
theorem d_214_34 : decode (zm_code 214) 34 = .ok (.ireturn, 1) := by decide +kernel
theorem d_215_0 : decode (zm_code 215) 0 = .ok (.aload_n 0, 1) := by decide +kernel
theorem d_215_1 : decode (zm_code 215) 1 = .ok (.getfield 165, 3) := by decide +kernel
theorem d_215_4 : decode (zm_code 215) 4 = .ok (.bipush 64, 2) := by decide +kernel
theorem d_215_6 : decode (zm_code 215) 6 = .ok (.iload_n 1, 1) := by decide +kernel
theorem d_215_7 : decode (zm_code 215) 7 = .ok (.imul, 1) := by decide +kernel
theorem d_215_8 : decode (zm_code 215) 8 = .ok (.bipush 8, 2) := by decide +kernel
theorem d_215_10 : decode (zm_code 215) 10 = .ok (.iload_n 2, 1) := by decide +kernel
theorem d_215_11 : decode (zm_code 215) 11 = .ok (.imul, 1) := by decide +kernel
theorem d_215_12 : decode (zm_code 215) 12 = .ok (.iadd, 1) := by decide +kernel
theorem d_215_13 : decode (zm_code 215) 13 = .ok (.iload_n 3, 1) := by decide +kernel
theorem d_215_14 : decode (zm_code 215) 14 = .ok (.iadd, 1) := by decide +kernel
theorem d_215_15 : decode (zm_code 215) 15 = .ok (.iaload, 1) := by decide +kernel
theorem d_215_16 : decode (zm_code 215) 16 = .ok (.ireturn, 1) := by decide +kernel
theorem d_216_0 : decode (zm_code 216) 0 = .ok (.iload_n 1, 1) := by decide +kernel
theorem d_216_1 : decode (zm_code 216) 1 = .ok (.iconst 0, 1) := by decide +kernel
theorem d_216_2 : decode (zm_code 216) 2 = .ok (.iconst 1, 1) := by decide +kernel
theorem d_216_3 : decode (zm_code 216) 3 = .ok (.invokestatic 335, 3) := by decide +kernel
theorem d_216_6 : decode (zm_code 216) 6 = .ok (.ifCond .eq 31, 3) := by decide +kernel
theorem d_216_9 : decode (zm_code 216) 9 = .ok (.iload_n 2, 1) := by decide +kernel
theorem d_216_10 : decode (zm_code 216) 10 = .ok (.iconst 0, 1) := by decide +kernel
theorem d_216_11 : decode (zm_code 216) 11 = .ok (.aload_n 0, 1) := by decide +kernel
theorem d_216_12 : decode (zm_code 216) 12 = .ok (.aload_n 0, 1) := by decide +kernel
theorem d_216_13 : decode (zm_code 216) 13 = .ok (.getfield 51, 3) := by decide +kernel
theorem d_216_16 : decode (zm_code 216) 16 = .ok (.iload_n 1, 1) := by decide +kernel
theorem d_216_17 : decode (zm_code 216) 17 = .ok (.invokevirtual 327, 3) := by decide +kernel
theorem d_216_20 : decode (zm_code 216) 20 = .ok (.iconst 1, 1) := by decide +kernel
theorem d_216_21 : decode (zm_code 216) 21 = .ok (.isub, 1) := by decide +kernel
theorem d_216_22 : decode (zm_code 216) 22 = .ok (.invokestatic 335, 3) := by decide +kernel
theorem d_216_25 : decode (zm_code 216) 25 = .ok (.ifCond .eq 12, 3) := by decide +kernel
theorem d_216_28 : decode (zm_code 216) 28 = .ok (.iload_n 3, 1) := by decide +kernel
theorem d_216_29 : decode (zm_code 216) 29 = .ok (.iconst 0, 1) := by decide +kernel
theorem d_216_30 : decode (zm_code 216) 30 = .ok (.iconst 5, 1) := by decide +kernel
theorem d_216_31 : decode (zm_code 216) 31 = .ok (.invokestatic 335, 3) := by decide +kernel
theorem d_216_34 : decode (zm_code 216) 34 = .ok (.ifCond .ne 5, 3) := by decide +kernel
theorem d_216_37 : decode (zm_code 216) 37 = .ok (.iconst (-1), 1) := by decide +kernel
theorem d_216_38 : decode (zm_code 216) 38 = .ok (.ireturn, 1) := by decide +kernel
theorem d_216_39 : decode (zm_code 216) 39 = .ok (.aload_n 0, 1) := by decide +kernel
theorem d_216_40 : decode (zm_code 216) 40 = .ok (.aload_n 0, 1) := by decide +kernel
theorem d_216_41 : decode (zm_code 216) 41 = .ok (.getfield 51, 3) := by decide +kernel
theorem d_216_44 : decode (zm_code 216) 44 = .ok (.iload_n 1, 1) := by decide +kernel
theorem d_216_45 : decode (zm_code 216) 45 = .ok (.iload_n 2, 1) := by decide +kernel
theorem d_216_46 : decode (zm_code 216) 46 = .ok (.invokevirtual 331, 3) := by decide +kernel
theorem d_216_49 : decode (zm_code 216) 49 = .ok (.lstore 4, 2) := by decide +kernel
theorem d_216_51 : decode (zm_code 216) 51 = .ok (.iconst 0, 1) := by decide +kernel
theorem d_216_52 : decode (zm_code 216) 52 = .ok (.istore 6, 2) := by decide +kernel
theorem d_216_54 : decode (zm_code 216) 54 = .ok (.lload 4, 2) := by decide +kernel
theorem d_216_56 : decode (zm_code 216) 56 = .ok (.lstore 7, 2) := by decide +kernel
theorem d_216_58 : decode (zm_code 216) 58 = .ok (.lload 7, 2) := by decide +kernel
theorem d_216_60 : decode (zm_code 216) 60 = .ok (.lconst 0, 1) := by decide +kernel
theorem d_216_61 : decode (zm_code 216) 61 = .ok (.lcmp, 1) := by decide +kernel
theorem d_216_62 : decode (zm_code 216) 62 = .ok (.ifCond .le 16, 3) := by decide +kernel
theorem d_216_65 : decode (zm_code 216) 65 = .ok (.iinc 6 1, 3) := by decide +kernel
theorem d_216_68 : decode (zm_code 216) 68 = .ok (.lload 7, 2) := by decide +kernel
theorem d_216_70 : decode (zm_code 216) 70 = .ok (.bipush 8, 2) := by decide +kernel
theorem d_216_72 : decode (zm_code 216) 72 = .ok (.lshr, 1) := by decide +kernel
theorem d_216_73 : decode (zm_code 216) 73 = .ok (.lstore 7, 2) := by decide +kernel
theorem d_216_75 : decode (zm_code 216) 75 = .ok (.goto (-17), 3) := by decide +kernel
theorem d_216_78 : decode (zm_code 216) 78 = .ok (.iload_n 3, 1) := by decide +kernel
theorem d_216_79 : decode (zm_code 216) 79 = .ok (.iload 6, 2) := by decide +kernel
theorem d_216_81 : decode (zm_code 216) 81 = .ok (.if_icmp .lt 7, 3) := by decide +kernel
theorem d_216_84 : decode (zm_code 216) 84 = .ok (.iconst 0, 1) := by decide +kernel
theorem d_216_85 : decode (zm_code 216) 85 = .ok (.goto 25, 3) := by decide +kernel
theorem d_216_88 : decode (zm_code 216) 88 = .ok (.lload 4, 2) := by decide +kernel
theorem d_216_90 : decode (zm_code 216) 90 = .ok (.bipush 8, 2) := by decide +kernel
theorem d_216_92 : decode (zm_code 216) 92 = .ok (.iload 6, 2) := by decide +kernel
theorem d_216_94 : decode (zm_code 216) 94 = .ok (.iconst 1, 1) := by decide +kernel
theorem d_216_95 : decode (zm_code 216) 95 = .ok (.isub, 1) := by decide +kernel
theorem d_216_96 : decode (zm_code 216) 96 = .ok (.iload_n 3, 1) := by decide +kernel
theorem d_216_97 : decode (zm_code 216) 97 = .ok (.isub, 1) := by decide +kernel
theorem d_216_98 : decode (zm_code 216) 98 = .ok (.imul, 1) := by decide +kernel
theorem d_216_99 : decode (zm_code 216) 99 = .ok (.lshr, 1) := by decide +kernel
theorem d_216_100 : decode (zm_code 216) 100 = .ok (.ldc2_w 521, 3) := by decide +kernel
theorem d_216_103 : decode (zm_code 216) 103 = .ok (.land, 1) := by decide +kernel
theorem d_216_104 : decode (zm_code 216) 104 = .ok (.l2i, 1) := by decide +kernel
theorem d_216_105 : decode (zm_code 216) 105 = .ok (.bipush 97, 2) := by decide +kernel
theorem d_216_107 : decode (zm_code 216) 107 = .ok (.isub, 1) := by decide +kernel
theorem d_216_108 : decode (zm_code 216) 108 = .ok (.iconst 1, 1) := by decide +kernel
theorem d_216_109 : decode (zm_code 216) 109 = .ok (.iadd, 1) := by decide +kernel
theorem d_216_110 : decode (zm_code 216) 110 = .ok (.ireturn, 1) := by decide +kernel
theorem d_217_0 : decode (zm_code 217) 0 = .ok (.aload_n 0, 1) := by decide +kernel
theorem d_217_1 : decode (zm_code 217) 1 = .ok (.iload_n 1, 1) := by decide +kernel
theorem d_217_2 : decode (zm_code 217) 2 = .ok (.invokevirtual 523, 3) := by decide +kernel
theorem d_217_5 : decode (zm_code 217) 5 = .ok (.ifCond .ne 5, 3) := by decide +kernel
theorem d_217_8 : decode (zm_code 217) 8 = .ok (.iconst (-1), 1) := by decide +kernel
theorem d_217_9 : decode (zm_code 217) 9 = .ok (.ireturn, 1) := by decide +kernel
theorem d_217_10 : decode (zm_code 217) 10 = .ok (.iconst 0, 1) := by decide +kernel
theorem d_217_11 : decode (zm_code 217) 11 = .ok (.istore_n 3, 1) := by decide +kernel
theorem d_217_12 : decode (zm_code 217) 12 = .ok (.iload_n 2, 1) := by decide +kernel
theorem d_217_13 : decode (zm_code 217) 13 = .ok (.tableswitch 124 0 3 #[31, 46, 52, 88], 31) := by decide +kernel
theorem d_217_44 : decode (zm_code 217) 44 = .ok (.aload_n 0, 1) := by decide +kernel
theorem d_217_45 : decode (zm_code 217) 45 = .ok (.getfield 57, 3) := by decide +kernel
theorem d_217_48 : decode (zm_code 217) 48 = .ok (.bipush 8, 2) := by decide +kernel
theorem d_217_50 : decode (zm_code 217) 50 = .ok (.aload_n 0, 1) := by decide +kernel
theorem d_217_51 : decode (zm_code 217) 51 = .ok (.getfield 51, 3) := by decide +kernel
theorem d_217_54 : decode (zm_code 217) 54 = .ok (.imul, 1) := by decide +kernel
theorem d_217_55 : decode (zm_code 217) 55 = .ok (.iload_n 1, 1) := by decide +kernel
theorem d_217_56 : decode (zm_code 217) 56 = .ok (.iadd, 1) := by decide +kernel
theorem d_217_57 : decode (zm_code 217) 57 = .ok (.iaload, 1) := by decide +kernel
theorem d_217_58 : decode (zm_code 217) 58 = .ok (.ireturn, 1) := by decide +kernel
theorem d_217_59 : decode (zm_code 217) 59 = .ok (.aload_n 0, 1) := by decide +kernel
theorem d_217_60 : decode (zm_code 217) 60 = .ok (.iload_n 1, 1) := by decide +kernel
theorem d_217_61 : decode (zm_code 217) 61 = .ok (.invokevirtual 476, 3) := by decide +kernel
theorem d_217_64 : decode (zm_code 217) 64 = .ok (.ireturn, 1) := by decide +kernel
theorem d_217_65 : decode (zm_code 217) 65 = .ok (.iconst 0, 1) := by decide +kernel
theorem d_217_66 : decode (zm_code 217) 66 = .ok (.istore 4, 2) := by decide +kernel
theorem d_217_68 : decode (zm_code 217) 68 = .ok (.iload 4, 2) := by decide +kernel
theorem d_217_70 : decode (zm_code 217) 70 = .ok (.aload_n 0, 1) := by decide +kernel
theorem d_217_71 : decode (zm_code 217) 71 = .ok (.getfield 63, 3) := by decide +kernel
theorem d_217_74 : decode (zm_code 217) 74 = .ok (.aload_n 0, 1) := by decide +kernel
theorem d_217_75 : decode (zm_code 217) 75 = .ok (.getfield 51, 3) := by decide +kernel
theorem d_217_78 : decode (zm_code 217) 78 = .ok (.iaload, 1) := by decide +kernel
theorem d_217_79 : decode (zm_code 217) 79 = .ok (.if_icmp .ge 20, 3) := by decide +kernel
theorem d_217_82 : decode (zm_code 217) 82 = .ok (.iload_n 3, 1) := by decide +kernel
theorem d_217_83 : decode (zm_code 217) 83 = .ok (.aload_n 0, 1) := by decide +kernel
theorem d_217_84 : decode (zm_code 217) 84 = .ok (.iconst 0, 1) := by decide +kernel
theorem d_217_85 : decode (zm_code 217) 85 = .ok (.iload 4, 2) := by decide +kernel
theorem d_217_87 : decode (zm_code 217) 87 = .ok (.iload_n 1, 1) := by decide +kernel
theorem d_217_88 : decode (zm_code 217) 88 = .ok (.invokevirtual 460, 3) := by decide +kernel
theorem d_217_91 : decode (zm_code 217) 91 = .ok (.iadd, 1) := by decide +kernel
theorem d_217_92 : decode (zm_code 217) 92 = .ok (.istore_n 3, 1) := by decide +kernel
theorem d_217_93 : decode (zm_code 217) 93 = .ok (.iinc 4 1, 3) := by decide +kernel
theorem d_217_96 : decode (zm_code 217) 96 = .ok (.goto (-28), 3) := by decide +kernel
theorem d_217_99 : decode (zm_code 217) 99 = .ok (.iload_n 3, 1) := by decide +kernel
theorem d_217_100 : decode (zm_code 217) 100 = .ok (.ireturn, 1) := by decide +kernel
theorem d_217_101 : decode (zm_code 217) 101 = .ok (.iconst 0, 1) := by decide +kernel
theorem d_217_102 : decode (zm_code 217) 102 = .ok (.istore 4, 2) := by decide +kernel
theorem d_217_104 : decode (zm_code 217) 104 = .ok (.iload 4, 2) := by decide +kernel
theorem d_217_106 : decode (zm_code 217) 106 = .ok (.aload_n 0, 1) := by decide +kernel
theorem d_217_107 : decode (zm_code 217) 107 = .ok (.getfield 69, 3) := by decide +kernel
theorem d_217_110 : decode (zm_code 217) 110 = .ok (.aload_n 0, 1) := by decide +kernel
theorem d_217_111 : decode (zm_code 217) 111 = .ok (.getfield 51, 3) := by decide +kernel
theorem d_217_114 : decode (zm_code 217) 114 = .ok (.iaload, 1) := by decide +kernel
theorem d_217_115 : decode (zm_code 217) 115 = .ok (.if_icmp .ge 20, 3) := by decide +kernel
theorem d_217_118 : decode (zm_code 217) 118 = .ok (.iload_n 3, 1) := by decide +kernel
theorem d_217_119 : decode (zm_code 217) 119 = .ok (.aload_n 0, 1) := by decide +kernel
theorem d_217_120 : decode (zm_code 217) 120 = .ok (.iconst 0, 1) := by decide +kernel
theorem d_217_121 : decode (zm_code 217) 121 = .ok (.iload 4, 2) := by decide +kernel
theorem d_217_123 : decode (zm_code 217) 123 = .ok (.iload_n 1, 1) := by decide +kernel
theorem d_217_124 : decode (zm_code 217) 124 = .ok (.invokevirtual 512, 3) := by decide +kernel
theorem d_217_127 : decode (zm_code 217) 127 = .ok (.iadd, 1) := by decide +kernel
theorem d_217_128 : decode (zm_code 217) 128 = .ok (.istore_n 3, 1) := by decide +kernel
theorem d_217_129 : decode (zm_code 217) 129 = .ok (.iinc 4 1, 3) := by decide +kernel
theorem d_217_132 : decode (zm_code 217) 132 = .ok (.goto (-28), 3) := by decide +kernel
theorem d_217_135 : decode (zm_code 217) 135 = .ok (.iload_n 3, 1) := by decide +kernel
theorem d_217_136 : decode (zm_code 217) 136 = .ok (.ireturn, 1) := by decide +kernel
theorem d_217_137 : decode (zm_code 217) 137 = .ok (.iconst (-1), 1) := by decide +kernel
theorem d_217_138 : decode (zm_code 217) 138 = .ok (.ireturn, 1) := by decide +kernel
theorem d_218_0 : decode (zm_code 218) 0 = .ok (.iload_n 1, 1) := by decide +kernel
theorem d_218_1 : decode (zm_code 218) 1 = .ok (.ifCond .lt 20, 3) := by decide +kernel
theorem d_218_4 : decode (zm_code 218) 4 = .ok (.iload_n 1, 1) := by decide +kernel
theorem d_218_5 : decode (zm_code 218) 5 = .ok (.aload_n 0, 1) := by decide +kernel
theorem d_218_6 : decode (zm_code 218) 6 = .ok (.getfield 54, 3) := by decide +kernel
theorem d_218_9 : decode (zm_code 218) 9 = .ok (.aload_n 0, 1) := by decide +kernel
theorem d_218_10 : decode (zm_code 218) 10 = .ok (.getfield 51, 3) := by decide +kernel
theorem d_218_13 : decode (zm_code 218) 13 = .ok (.iaload, 1) := by decide +kernel
theorem d_218_14 : decode (zm_code 218) 14 = .ok (.if_icmp .ge 7, 3) := by decide +kernel
theorem d_218_17 : decode (zm_code 218) 17 = .ok (.iconst 1, 1) := by decide +kernel
theorem d_218_18 : decode (zm_code 218) 18 = .ok (.goto 4, 3) := by decide +kernel
theorem d_218_21 : decode (zm_code 218) 21 = .ok (.iconst 0, 1) := by decide +kernel
theorem d_218_22 : decode (zm_code 218) 22 = .ok (.ireturn, 1) := by decide +kernel
theorem d_219_0 : decode (zm_code 219) 0 = .ok (.aload_n 0, 1) := by decide +kernel
theorem d_219_1 : decode (zm_code 219) 1 = .ok (.getfield 60, 3) := by decide +kernel
theorem d_219_4 : decode (zm_code 219) 4 = .ok (.bipush 8, 2) := by decide +kernel
theorem d_219_6 : decode (zm_code 219) 6 = .ok (.aload_n 0, 1) := by decide +kernel
theorem d_219_7 : decode (zm_code 219) 7 = .ok (.getfield 51, 3) := by decide +kernel
theorem d_219_10 : decode (zm_code 219) 10 = .ok (.imul, 1) := by decide +kernel
theorem d_219_11 : decode (zm_code 219) 11 = .ok (.iload_n 1, 1) := by decide +kernel
theorem d_219_12 : decode (zm_code 219) 12 = .ok (.iadd, 1) := by decide +kernel
theorem d_219_13 : decode (zm_code 219) 13 = .ok (.iaload, 1) := by decide +kernel
theorem d_219_14 : decode (zm_code 219) 14 = .ok (.ireturn, 1) := by decide +kernel
theorem d_220_0 : decode (zm_code 220) 0 = .ok (.aload_n 0, 1) := by decide +kernel
theorem d_220_1 : decode (zm_code 220) 1 = .ok (.iload_n 1, 1) := by decide +kernel
theorem d_220_2 : decode (zm_code 220) 2 = .ok (.invokevirtual 526, 3) := by decide +kernel
theorem d_220_5 : decode (zm_code 220) 5 = .ok (.ifCond .ne 7, 3) := by decide +kernel
theorem d_220_8 : decode (zm_code 220) 8 = .ok (.iconst (-1), 1) := by decide +kernel
theorem d_220_9 : decode (zm_code 220) 9 = .ok (.goto 36, 3) := by decide +kernel
theorem d_220_12 : decode (zm_code 220) 12 = .ok (.iload_n 2, 1) := by decide +kernel
theorem d_220_13 : decode (zm_code 220) 13 = .ok (.iconst (-1), 1) := by decide +kernel
theorem d_220_14 : decode (zm_code 220) 14 = .ok (.if_icmp .ne 12, 3) := by decide +kernel
theorem d_220_17 : decode (zm_code 220) 17 = .ok (.aload_n 0, 1) := by decide +kernel
theorem d_220_18 : decode (zm_code 220) 18 = .ok (.iconst 0, 1) := by decide +kernel
theorem d_220_19 : decode (zm_code 220) 19 = .ok (.iload_n 1, 1) := by decide +kernel
theorem d_220_20 : decode (zm_code 220) 20 = .ok (.invokevirtual 464, 3) := by decide +kernel
theorem d_220_23 : decode (zm_code 220) 23 = .ok (.goto 22, 3) := by decide +kernel
theorem d_220_26 : decode (zm_code 220) 26 = .ok (.aload_n 0, 1) := by decide +kernel
theorem d_220_27 : decode (zm_code 220) 27 = .ok (.iload_n 2, 1) := by decide +kernel
theorem d_220_28 : decode (zm_code 220) 28 = .ok (.invokevirtual 523, 3) := by decide +kernel
theorem d_220_31 : decode (zm_code 220) 31 = .ok (.ifCond .eq 13, 3) := by decide +kernel
theorem d_220_34 : decode (zm_code 220) 34 = .ok (.aload_n 0, 1) := by decide +kernel
theorem d_220_35 : decode (zm_code 220) 35 = .ok (.iconst 0, 1) := by decide +kernel
theorem d_220_36 : decode (zm_code 220) 36 = .ok (.iload_n 1, 1) := by decide +kernel
theorem d_220_37 : decode (zm_code 220) 37 = .ok (.iload_n 2, 1) := by decide +kernel
theorem d_220_38 : decode (zm_code 220) 38 = .ok (.invokevirtual 460, 3) := by decide +kernel
theorem d_220_41 : decode (zm_code 220) 41 = .ok (.goto 4, 3) := by decide +kernel
theorem d_220_44 : decode (zm_code 220) 44 = .ok (.iconst (-1), 1) := by decide +kernel
theorem d_220_45 : decode (zm_code 220) 45 = .ok (.ireturn, 1) := by decide +kernel
theorem d_221_0 : decode (zm_code 221) 0 = .ok (.iload_n 1, 1) := by decide +kernel
theorem d_221_1 : decode (zm_code 221) 1 = .ok (.ifCond .lt 20, 3) := by decide +kernel
theorem d_221_4 : decode (zm_code 221) 4 = .ok (.iload_n 1, 1) := by decide +kernel
theorem d_221_5 : decode (zm_code 221) 5 = .ok (.aload_n 0, 1) := by decide +kernel
theorem d_221_6 : decode (zm_code 221) 6 = .ok (.getfield 63, 3) := by decide +kernel
theorem d_221_9 : decode (zm_code 221) 9 = .ok (.aload_n 0, 1) := by decide +kernel
theorem d_221_10 : decode (zm_code 221) 10 = .ok (.getfield 51, 3) := by decide +kernel
theorem d_221_13 : decode (zm_code 221) 13 = .ok (.iaload, 1) := by decide +kernel
theorem d_221_14 : decode (zm_code 221) 14 = .ok (.if_icmp .ge 7, 3) := by decide +kernel
theorem d_221_17 : decode (zm_code 221) 17 = .ok (.iconst 1, 1) := by decide +kernel
theorem d_221_18 : decode (zm_code 221) 18 = .ok (.goto 4, 3) := by decide +kernel
theorem d_221_21 : decode (zm_code 221) 21 = .ok (.iconst 0, 1) := by decide +kernel
theorem d_221_22 : decode (zm_code 221) 22 = .ok (.ireturn, 1) := by decide +kernel
theorem d_222_0 : decode (zm_code 222) 0 = .ok (.aload_n 0, 1) := by decide +kernel
theorem d_222_1 : decode (zm_code 222) 1 = .ok (.iload_n 1, 1) := by decide +kernel
theorem d_222_2 : decode (zm_code 222) 2 = .ok (.invokevirtual 529, 3) := by decide +kernel
theorem d_222_5 : decode (zm_code 222) 5 = .ok (.ifCond .ne 5, 3) := by decide +kernel
theorem d_222_8 : decode (zm_code 222) 8 = .ok (.iconst (-1), 1) := by decide +kernel
theorem d_222_9 : decode (zm_code 222) 9 = .ok (.ireturn, 1) := by decide +kernel
theorem d_222_10 : decode (zm_code 222) 10 = .ok (.iconst 0, 1) := by decide +kernel
theorem d_222_11 : decode (zm_code 222) 11 = .ok (.istore_n 3, 1) := by decide +kernel
theorem d_222_12 : decode (zm_code 222) 12 = .ok (.iload_n 2, 1) := by decide +kernel
theorem d_222_13 : decode (zm_code 222) 13 = .ok (.tableswitch 160 0 6 #[43, 58, 73, 88, 95, 101, 145], 43) := by decide +kernel
theorem d_222_56 : decode (zm_code 222) 56 = .ok (.aload_n 0, 1) := by decide +kernel
theorem d_222_57 : decode (zm_code 222) 57 = .ok (.getfield 72, 3) := by decide +kernel
theorem d_222_60 : decode (zm_code 222) 60 = .ok (.bipush 8, 2) := by decide +kernel
theorem d_222_62 : decode (zm_code 222) 62 = .ok (.aload_n 0, 1) := by decide +kernel
theorem d_222_63 : decode (zm_code 222) 63 = .ok (.getfield 51, 3) := by decide +kernel
theorem d_222_66 : decode (zm_code 222) 66 = .ok (.imul, 1) := by decide +kernel
theorem d_222_67 : decode (zm_code 222) 67 = .ok (.iload_n 1, 1) := by decide +kernel
theorem d_222_68 : decode (zm_code 222) 68 = .ok (.iadd, 1) := by decide +kernel
theorem d_222_69 : decode (zm_code 222) 69 = .ok (.iaload, 1) := by decide +kernel
theorem d_222_70 : decode (zm_code 222) 70 = .ok (.ireturn, 1) := by decide +kernel
theorem d_222_71 : decode (zm_code 222) 71 = .ok (.aload_n 0, 1) := by decide +kernel
theorem d_222_72 : decode (zm_code 222) 72 = .ok (.getfield 75, 3) := by decide +kernel
theorem d_222_75 : decode (zm_code 222) 75 = .ok (.bipush 8, 2) := by decide +kernel
theorem d_222_77 : decode (zm_code 222) 77 = .ok (.aload_n 0, 1) := by decide +kernel
theorem d_222_78 : decode (zm_code 222) 78 = .ok (.getfield 51, 3) := by decide +kernel
theorem d_222_81 : decode (zm_code 222) 81 = .ok (.imul, 1) := by decide +kernel
theorem d_222_82 : decode (zm_code 222) 82 = .ok (.iload_n 1, 1) := by decide +kernel
theorem d_222_83 : decode (zm_code 222) 83 = .ok (.iadd, 1) := by decide +kernel
theorem d_222_84 : decode (zm_code 222) 84 = .ok (.iaload, 1) := by decide +kernel
theorem d_222_85 : decode (zm_code 222) 85 = .ok (.ireturn, 1) := by decide +kernel
theorem d_222_86 : decode (zm_code 222) 86 = .ok (.aload_n 0, 1) := by decide +kernel
theorem d_222_87 : decode (zm_code 222) 87 = .ok (.getfield 78, 3) := by decide +kernel
theorem d_222_90 : decode (zm_code 222) 90 = .ok (.bipush 8, 2) := by decide +kernel
theorem d_222_92 : decode (zm_code 222) 92 = .ok (.aload_n 0, 1) := by decide +kernel
theorem d_222_93 : decode (zm_code 222) 93 = .ok (.getfield 51, 3) := by decide +kernel
theorem d_222_96 : decode (zm_code 222) 96 = .ok (.imul, 1) := by decide +kernel
theorem d_222_97 : decode (zm_code 222) 97 = .ok (.iload_n 1, 1) := by decide +kernel
theorem d_222_98 : decode (zm_code 222) 98 = .ok (.iadd, 1) := by decide +kernel
theorem d_222_99 : decode (zm_code 222) 99 = .ok (.iaload, 1) := by decide +kernel
theorem d_222_100 : decode (zm_code 222) 100 = .ok (.ireturn, 1) := by decide +kernel
theorem d_222_101 : decode (zm_code 222) 101 = .ok (.aload_n 0, 1) := by decide +kernel
theorem d_222_102 : decode (zm_code 222) 102 = .ok (.getfield 162, 3) := by decide +kernel
theorem d_222_105 : decode (zm_code 222) 105 = .ok (.iload_n 1, 1) := by decide +kernel
theorem d_222_106 : decode (zm_code 222) 106 = .ok (.iaload, 1) := by decide +kernel
theorem d_222_107 : decode (zm_code 222) 107 = .ok (.ireturn, 1) := by decide +kernel
theorem d_222_108 : decode (zm_code 222) 108 = .ok (.aload_n 0, 1) := by decide +kernel
theorem d_222_109 : decode (zm_code 222) 109 = .ok (.iload_n 1, 1) := by decide +kernel
theorem d_222_110 : decode (zm_code 222) 110 = .ok (.invokevirtual 518, 3) := by decide +kernel
theorem d_222_113 : decode (zm_code 222) 113 = .ok (.ireturn, 1) := by decide +kernel
theorem d_222_114 : decode (zm_code 222) 114 = .ok (.iconst 0, 1) := by decide +kernel
theorem d_222_115 : decode (zm_code 222) 115 = .ok (.istore 4, 2) := by decide +kernel
theorem d_222_117 : decode (zm_code 222) 117 = .ok (.iload 4, 2) := by decide +kernel
theorem d_222_119 : decode (zm_code 222) 119 = .ok (.aload_n 0, 1) := by decide +kernel
theorem d_222_120 : decode (zm_code 222) 120 = .ok (.getfield 54, 3) := by decide +kernel
theorem d_222_123 : decode (zm_code 222) 123 = .ok (.aload_n 0, 1) := by decide +kernel
theorem d_222_124 : decode (zm_code 222) 124 = .ok (.getfield 51, 3) := by decide +kernel
theorem d_222_127 : decode (zm_code 222) 127 = .ok (.iaload, 1) := by decide +kernel
theorem d_222_128 : decode (zm_code 222) 128 = .ok (.if_icmp .ge 28, 3) := by decide +kernel
theorem d_222_131 : decode (zm_code 222) 131 = .ok (.iload_n 3, 1) := by decide +kernel
theorem d_222_132 : decode (zm_code 222) 132 = .ok (.aload_n 0, 1) := by decide +kernel
theorem d_222_133 : decode (zm_code 222) 133 = .ok (.iconst 0, 1) := by decide +kernel
theorem d_222_134 : decode (zm_code 222) 134 = .ok (.iload_n 1, 1) := by decide +kernel
theorem d_222_135 : decode (zm_code 222) 135 = .ok (.iload 4, 2) := by decide +kernel
theorem d_222_137 : decode (zm_code 222) 137 = .ok (.invokevirtual 512, 3) := by decide +kernel
theorem d_222_140 : decode (zm_code 222) 140 = .ok (.aload_n 0, 1) := by decide +kernel
theorem d_222_141 : decode (zm_code 222) 141 = .ok (.iload_n 1, 1) := by decide +kernel
theorem d_222_142 : decode (zm_code 222) 142 = .ok (.iload 4, 2) := by decide +kernel
theorem d_222_144 : decode (zm_code 222) 144 = .ok (.invokevirtual 473, 3) := by decide +kernel
theorem d_222_147 : decode (zm_code 222) 147 = .ok (.imul, 1) := by decide +kernel
theorem d_222_148 : decode (zm_code 222) 148 = .ok (.iadd, 1) := by decide +kernel
theorem d_222_149 : decode (zm_code 222) 149 = .ok (.istore_n 3, 1) := by decide +kernel
theorem d_222_150 : decode (zm_code 222) 150 = .ok (.iinc 4 1, 3) := by decide +kernel
theorem d_222_153 : decode (zm_code 222) 153 = .ok (.goto (-36), 3) := by decide +kernel
theorem d_222_156 : decode (zm_code 222) 156 = .ok (.iload_n 3, 1) := by decide +kernel
theorem d_222_157 : decode (zm_code 222) 157 = .ok (.ireturn, 1) := by decide +kernel
theorem d_222_158 : decode (zm_code 222) 158 = .ok (.aload_n 0, 1) := by decide +kernel
theorem d_222_159 : decode (zm_code 222) 159 = .ok (.invokevirtual 532, 3) := by decide +kernel
theorem d_222_162 : decode (zm_code 222) 162 = .ok (.aload_n 0, 1) := by decide +kernel
theorem d_222_163 : decode (zm_code 222) 163 = .ok (.iconst 0, 1) := by decide +kernel
theorem d_222_164 : decode (zm_code 222) 164 = .ok (.iload_n 1, 1) := by decide +kernel
theorem d_222_165 : decode (zm_code 222) 165 = .ok (.invokevirtual 494, 3) := by decide +kernel
theorem d_222_168 : decode (zm_code 222) 168 = .ok (.aload_n 0, 1) := by decide +kernel
theorem d_222_169 : decode (zm_code 222) 169 = .ok (.getfield 219, 3) := by decide +kernel
theorem d_222_172 : decode (zm_code 222) 172 = .ok (.ireturn, 1) := by decide +kernel
theorem d_222_173 : decode (zm_code 222) 173 = .ok (.iconst (-1), 1) := by decide +kernel
theorem d_222_174 : decode (zm_code 222) 174 = .ok (.ireturn, 1) := by decide +kernel
theorem d_223_0 : decode (zm_code 223) 0 = .ok (.iload_n 1, 1) := by decide +kernel
theorem d_223_1 : decode (zm_code 223) 1 = .ok (.ifCond .lt 20, 3) := by decide +kernel
theorem d_223_4 : decode (zm_code 223) 4 = .ok (.iload_n 1, 1) := by decide +kernel
theorem d_223_5 : decode (zm_code 223) 5 = .ok (.aload_n 0, 1) := by decide +kernel
theorem d_223_6 : decode (zm_code 223) 6 = .ok (.getfield 69, 3) := by decide +kernel
theorem d_223_9 : decode (zm_code 223) 9 = .ok (.aload_n 0, 1) := by decide +kernel
theorem d_223_10 : decode (zm_code 223) 10 = .ok (.getfield 51, 3) := by decide +kernel
theorem d_223_13 : decode (zm_code 223) 13 = .ok (.iaload, 1) := by decide +kernel
theorem d_223_14 : decode (zm_code 223) 14 = .ok (.if_icmp .ge 7, 3) := by decide +kernel
theorem d_223_17 : decode (zm_code 223) 17 = .ok (.iconst 1, 1) := by decide +kernel
theorem d_223_18 : decode (zm_code 223) 18 = .ok (.goto 4, 3) := by decide +kernel
theorem d_223_21 : decode (zm_code 223) 21 = .ok (.iconst 0, 1) := by decide +kernel
theorem d_223_22 : decode (zm_code 223) 22 = .ok (.ireturn, 1) := by decide +kernel
theorem d_224_0 : decode (zm_code 224) 0 = .ok (.aload_n 0, 1) := by decide +kernel
theorem d_224_1 : decode (zm_code 224) 1 = .ok (.getfield 81, 3) := by decide +kernel
theorem d_224_4 : decode (zm_code 224) 4 = .ok (.bipush 8, 2) := by decide +kernel
theorem d_224_6 : decode (zm_code 224) 6 = .ok (.bipush 8, 2) := by decide +kernel
theorem d_224_8 : decode (zm_code 224) 8 = .ok (.aload_n 0, 1) := by decide +kernel
theorem d_224_9 : decode (zm_code 224) 9 = .ok (.getfield 51, 3) := by decide +kernel
theorem d_224_12 : decode (zm_code 224) 12 = .ok (.imul, 1) := by decide +kernel
theorem d_224_13 : decode (zm_code 224) 13 = .ok (.iload_n 1, 1) := by decide +kernel
theorem d_224_14 : decode (zm_code 224) 14 = .ok (.iadd, 1) := by decide +kernel
theorem d_224_15 : decode (zm_code 224) 15 = .ok (.imul, 1) := by decide +kernel
theorem d_224_16 : decode (zm_code 224) 16 = .ok (.iload_n 2, 1) := by decide +kernel
theorem d_224_17 : decode (zm_code 224) 17 = .ok (.iadd, 1) := by decide +kernel
theorem d_224_18 : decode (zm_code 224) 18 = .ok (.iaload, 1) := by decide +kernel
theorem d_224_19 : decode (zm_code 224) 19 = .ok (.ireturn, 1) := by decide +kernel
theorem d_225_0 : decode (zm_code 225) 0 = .ok (.iconst 0, 1) := by decide +kernel
theorem d_225_1 : decode (zm_code 225) 1 = .ok (.istore_n 1, 1) := by decide +kernel
theorem d_225_2 : decode (zm_code 225) 2 = .ok (.iload_n 1, 1) := by decide +kernel
theorem d_225_3 : decode (zm_code 225) 3 = .ok (.iconst 5, 1) := by decide +kernel
theorem d_225_4 : decode (zm_code 225) 4 = .ok (.if_icmp .ge 16, 3) := by decide +kernel
theorem d_225_7 : decode (zm_code 225) 7 = .ok (.aload_n 0, 1) := by decide +kernel
theorem d_225_8 : decode (zm_code 225) 8 = .ok (.getfield 213, 3) := by decide +kernel
theorem d_225_11 : decode (zm_code 225) 11 = .ok (.iload_n 1, 1) := by decide +kernel
theorem d_225_12 : decode (zm_code 225) 12 = .ok (.iload_n 1, 1) := by decide +kernel
theorem d_225_13 : decode (zm_code 225) 13 = .ok (.iastore, 1) := by decide +kernel
theorem d_225_14 : decode (zm_code 225) 14 = .ok (.iinc 1 1, 3) := by decide +kernel
theorem d_225_17 : decode (zm_code 225) 17 = .ok (.goto (-15), 3) := by decide +kernel
theorem d_225_20 : decode (zm_code 225) 20 = .ok (.return_, 1) := by decide +kernel
theorem d_226_0 : decode (zm_code 226) 0 = .ok (.aload_n 0, 1) := by decide +kernel
theorem d_226_1 : decode (zm_code 226) 1 = .ok (.iconst 0, 1) := by decide +kernel
theorem d_226_2 : decode (zm_code 226) 2 = .ok (.putfield 219, 3) := by decide +kernel
theorem d_226_5 : decode (zm_code 226) 5 = .ok (.iconst 0, 1) := by decide +kernel
theorem d_226_6 : decode (zm_code 226) 6 = .ok (.istore_n 3, 1) := by decide +kernel
theorem d_226_7 : decode (zm_code 226) 7 = .ok (.iload_n 3, 1) := by decide +kernel
theorem d_226_8 : decode (zm_code 226) 8 = .ok (.bipush 8, 2) := by decide +kernel
theorem d_226_10 : decode (zm_code 226) 10 = .ok (.if_icmp .ge 16, 3) := by decide +kernel
theorem d_226_13 : decode (zm_code 226) 13 = .ok (.aload_n 0, 1) := by decide +kernel
theorem d_226_14 : decode (zm_code 226) 14 = .ok (.getfield 216, 3) := by decide +kernel
theorem d_226_17 : decode (zm_code 226) 17 = .ok (.iload_n 3, 1) := by decide +kernel
theorem d_226_18 : decode (zm_code 226) 18 = .ok (.iconst 0, 1) := by decide +kernel
theorem d_226_19 : decode (zm_code 226) 19 = .ok (.iastore, 1) := by decide +kernel
theorem d_226_20 : decode (zm_code 226) 20 = .ok (.iinc 3 1, 3) := by decide +kernel
theorem d_226_23 : decode (zm_code 226) 23 = .ok (.goto (-16), 3) := by decide +kernel
theorem d_226_26 : decode (zm_code 226) 26 = .ok (.aload_n 0, 1) := by decide +kernel
theorem d_226_27 : decode (zm_code 226) 27 = .ok (.iload_n 1, 1) := by decide +kernel
theorem d_226_28 : decode (zm_code 226) 28 = .ok (.invokevirtual 467, 3) := by decide +kernel
theorem d_226_31 : decode (zm_code 226) 31 = .ok (.istore_n 3, 1) := by decide +kernel
theorem d_226_32 : decode (zm_code 226) 32 = .ok (.iload_n 3, 1) := by decide +kernel
theorem d_226_33 : decode (zm_code 226) 33 = .ok (.aload_n 0, 1) := by decide +kernel
theorem d_226_34 : decode (zm_code 226) 34 = .ok (.iload_n 1, 1) := by decide +kernel
theorem d_226_35 : decode (zm_code 226) 35 = .ok (.iload_n 2, 1) := by decide +kernel
theorem d_226_36 : decode (zm_code 226) 36 = .ok (.invokevirtual 470, 3) := by decide +kernel
theorem d_226_39 : decode (zm_code 226) 39 = .ok (.if_icmp .ge 77, 3) := by decide +kernel
theorem d_226_42 : decode (zm_code 226) 42 = .ok (.iconst 0, 1) := by decide +kernel
theorem d_226_43 : decode (zm_code 226) 43 = .ok (.istore 4, 2) := by decide +kernel
theorem d_226_45 : decode (zm_code 226) 45 = .ok (.iload 4, 2) := by decide +kernel
theorem d_226_47 : decode (zm_code 226) 47 = .ok (.aload_n 0, 1) := by decide +kernel
theorem d_226_48 : decode (zm_code 226) 48 = .ok (.getfield 54, 3) := by decide +kernel
theorem d_226_51 : decode (zm_code 226) 51 = .ok (.aload_n 0, 1) := by decide +kernel
theorem d_226_52 : decode (zm_code 226) 52 = .ok (.getfield 51, 3) := by decide +kernel
theorem d_226_55 : decode (zm_code 226) 55 = .ok (.iaload, 1) := by decide +kernel
theorem d_226_56 : decode (zm_code 226) 56 = .ok (.if_icmp .ge 54, 3) := by decide +kernel
theorem d_226_59 : decode (zm_code 226) 59 = .ok (.aload_n 0, 1) := by decide +kernel
theorem d_226_60 : decode (zm_code 226) 60 = .ok (.getfield 216, 3) := by decide +kernel
theorem d_226_63 : decode (zm_code 226) 63 = .ok (.iload 4, 2) := by decide +kernel
theorem d_226_65 : decode (zm_code 226) 65 = .ok (.dup2, 1) := by decide +kernel
theorem d_226_66 : decode (zm_code 226) 66 = .ok (.iaload, 1) := by decide +kernel
theorem d_226_67 : decode (zm_code 226) 67 = .ok (.aload_n 0, 1) := by decide +kernel
theorem d_226_68 : decode (zm_code 226) 68 = .ok (.iload_n 1, 1) := by decide +kernel
theorem d_226_69 : decode (zm_code 226) 69 = .ok (.aload_n 0, 1) := by decide +kernel
theorem d_226_70 : decode (zm_code 226) 70 = .ok (.getfield 213, 3) := by decide +kernel
theorem d_226_73 : decode (zm_code 226) 73 = .ok (.iload_n 3, 1) := by decide +kernel
theorem d_226_74 : decode (zm_code 226) 74 = .ok (.iaload, 1) := by decide +kernel
theorem d_226_75 : decode (zm_code 226) 75 = .ok (.iload 4, 2) := by decide +kernel
theorem d_226_77 : decode (zm_code 226) 77 = .ok (.invokevirtual 460, 3) := by decide +kernel
theorem d_226_80 : decode (zm_code 226) 80 = .ok (.iadd, 1) := by decide +kernel
theorem d_226_81 : decode (zm_code 226) 81 = .ok (.iastore, 1) := by decide +kernel
theorem d_226_82 : decode (zm_code 226) 82 = .ok (.aload_n 0, 1) := by decide +kernel
theorem d_226_83 : decode (zm_code 226) 83 = .ok (.dup, 1) := by decide +kernel
theorem d_226_84 : decode (zm_code 226) 84 = .ok (.getfield 219, 3) := by decide +kernel
theorem d_226_87 : decode (zm_code 226) 87 = .ok (.aload_n 0, 1) := by decide +kernel
theorem d_226_88 : decode (zm_code 226) 88 = .ok (.iload_n 1, 1) := by decide +kernel
theorem d_226_89 : decode (zm_code 226) 89 = .ok (.aload_n 0, 1) := by decide +kernel
theorem d_226_90 : decode (zm_code 226) 90 = .ok (.getfield 213, 3) := by decide +kernel
theorem d_226_93 : decode (zm_code 226) 93 = .ok (.iload_n 3, 1) := by decide +kernel
theorem d_226_94 : decode (zm_code 226) 94 = .ok (.iaload, 1) := by decide +kernel
theorem d_226_95 : decode (zm_code 226) 95 = .ok (.iload 4, 2) := by decide +kernel
theorem d_226_97 : decode (zm_code 226) 97 = .ok (.invokevirtual 460, 3) := by decide +kernel
theorem d_226_100 : decode (zm_code 226) 100 = .ok (.iadd, 1) := by decide +kernel
theorem d_226_101 : decode (zm_code 226) 101 = .ok (.putfield 219, 3) := by decide +kernel
theorem d_226_104 : decode (zm_code 226) 104 = .ok (.iinc 4 1, 3) := by decide +kernel
theorem d_226_107 : decode (zm_code 226) 107 = .ok (.goto (-62), 3) := by decide +kernel
theorem d_226_110 : decode (zm_code 226) 110 = .ok (.iinc 3 1, 3) := by decide +kernel
theorem d_226_113 : decode (zm_code 226) 113 = .ok (.goto (-81), 3) := by decide +kernel
theorem d_226_116 : decode (zm_code 226) 116 = .ok (.return_, 1) := by decide +kernel
theorem d_227_0 : decode (zm_code 227) 0 = .ok (.iconst 0, 1) := by decide +kernel
theorem d_227_1 : decode (zm_code 227) 1 = .ok (.istore_n 2, 1) := by decide +kernel
theorem d_227_2 : decode (zm_code 227) 2 = .ok (.iload_n 2, 1) := by decide +kernel
theorem d_227_3 : decode (zm_code 227) 3 = .ok (.aload_n 0, 1) := by decide +kernel
theorem d_227_4 : decode (zm_code 227) 4 = .ok (.getfield 63, 3) := by decide +kernel
theorem d_227_7 : decode (zm_code 227) 7 = .ok (.aload_n 0, 1) := by decide +kernel
theorem d_227_8 : decode (zm_code 227) 8 = .ok (.getfield 51, 3) := by decide +kernel
theorem d_227_11 : decode (zm_code 227) 11 = .ok (.iaload, 1) := by decide +kernel
theorem d_227_12 : decode (zm_code 227) 12 = .ok (.if_icmp .ge 23, 3) := by decide +kernel
theorem d_227_15 : decode (zm_code 227) 15 = .ok (.aload_n 0, 1) := by decide +kernel
theorem d_227_16 : decode (zm_code 227) 16 = .ok (.iload_n 1, 1) := by decide +kernel
theorem d_227_17 : decode (zm_code 227) 17 = .ok (.aload_n 0, 1) := by decide +kernel
theorem d_227_18 : decode (zm_code 227) 18 = .ok (.getfield 213, 3) := by decide +kernel
theorem d_227_21 : decode (zm_code 227) 21 = .ok (.iload_n 2, 1) := by decide +kernel
theorem d_227_22 : decode (zm_code 227) 22 = .ok (.iaload, 1) := by decide +kernel
theorem d_227_23 : decode (zm_code 227) 23 = .ok (.invokevirtual 464, 3) := by decide +kernel
theorem d_227_26 : decode (zm_code 227) 26 = .ok (.ifCond .ne 9, 3) := by decide +kernel
theorem d_227_29 : decode (zm_code 227) 29 = .ok (.iinc 2 1, 3) := by decide +kernel
theorem d_227_32 : decode (zm_code 227) 32 = .ok (.goto (-30), 3) := by decide +kernel
theorem d_227_35 : decode (zm_code 227) 35 = .ok (.iload_n 2, 1) := by decide +kernel
theorem d_227_36 : decode (zm_code 227) 36 = .ok (.ireturn, 1) := by decide +kernel
theorem d_228_0 : decode (zm_code 228) 0 = .ok (.aload_n 0, 1) := by decide +kernel
theorem d_228_1 : decode (zm_code 228) 1 = .ok (.iload_n 1, 1) := by decide +kernel
theorem d_228_2 : decode (zm_code 228) 2 = .ok (.invokevirtual 467, 3) := by decide +kernel
theorem d_228_5 : decode (zm_code 228) 5 = .ok (.aload_n 0, 1) := by decide +kernel
theorem d_228_6 : decode (zm_code 228) 6 = .ok (.getfield 72, 3) := by decide +kernel
theorem d_228_9 : decode (zm_code 228) 9 = .ok (.bipush 8, 2) := by decide +kernel
theorem d_228_11 : decode (zm_code 228) 11 = .ok (.aload_n 0, 1) := by decide +kernel
theorem d_228_12 : decode (zm_code 228) 12 = .ok (.getfield 51, 3) := by decide +kernel
theorem d_228_15 : decode (zm_code 228) 15 = .ok (.imul, 1) := by decide +kernel
theorem d_228_16 : decode (zm_code 228) 16 = .ok (.iload_n 2, 1) := by decide +kernel
theorem d_228_17 : decode (zm_code 228) 17 = .ok (.iadd, 1) := by decide +kernel
theorem d_228_18 : decode (zm_code 228) 18 = .ok (.iaload, 1) := by decide +kernel
theorem d_228_19 : decode (zm_code 228) 19 = .ok (.iadd, 1) := by decide +kernel
theorem d_228_20 : decode (zm_code 228) 20 = .ok (.istore_n 3, 1) := by decide +kernel
theorem d_228_21 : decode (zm_code 228) 21 = .ok (.iload_n 3, 1) := by decide +kernel
theorem d_228_22 : decode (zm_code 228) 22 = .ok (.aload_n 0, 1) := by decide +kernel
theorem d_228_23 : decode (zm_code 228) 23 = .ok (.getfield 63, 3) := by decide +kernel
theorem d_228_26 : decode (zm_code 228) 26 = .ok (.aload_n 0, 1) := by decide +kernel
theorem d_228_27 : decode (zm_code 228) 27 = .ok (.getfield 51, 3) := by decide +kernel
theorem d_228_30 : decode (zm_code 228) 30 = .ok (.iaload, 1) := by decide +kernel
theorem d_228_31 : decode (zm_code 228) 31 = .ok (.if_icmp .le 15, 3) := by decide +kernel
theorem d_228_34 : decode (zm_code 228) 34 = .ok (.aload_n 0, 1) := by decide +kernel
theorem d_228_35 : decode (zm_code 228) 35 = .ok (.getfield 63, 3) := by decide +kernel
theorem d_228_38 : decode (zm_code 228) 38 = .ok (.aload_n 0, 1) := by decide +kernel
theorem d_228_39 : decode (zm_code 228) 39 = .ok (.getfield 51, 3) := by decide +kernel
theorem d_228_42 : decode (zm_code 228) 42 = .ok (.iaload, 1) := by decide +kernel
theorem d_228_43 : decode (zm_code 228) 43 = .ok (.goto 4, 3) := by decide +kernel
theorem d_228_46 : decode (zm_code 228) 46 = .ok (.iload_n 3, 1) := by decide +kernel
theorem d_228_47 : decode (zm_code 228) 47 = .ok (.ireturn, 1) := by decide +kernel
theorem d_229_0 : decode (zm_code 229) 0 = .ok (.aload_n 0, 1) := by decide +kernel
theorem d_229_1 : decode (zm_code 229) 1 = .ok (.iload_n 1, 1) := by decide +kernel
theorem d_229_2 : decode (zm_code 229) 2 = .ok (.invokevirtual 529, 3) := by decide +kernel
theorem d_229_5 : decode (zm_code 229) 5 = .ok (.ifCond .eq 11, 3) := by decide +kernel
theorem d_229_8 : decode (zm_code 229) 8 = .ok (.aload_n 0, 1) := by decide +kernel
theorem d_229_9 : decode (zm_code 229) 9 = .ok (.iload_n 2, 1) := by decide +kernel
theorem d_229_10 : decode (zm_code 229) 10 = .ok (.invokevirtual 523, 3) := by decide +kernel
theorem d_229_13 : decode (zm_code 229) 13 = .ok (.ifCond .ne 5, 3) := by decide +kernel
theorem d_229_16 : decode (zm_code 229) 16 = .ok (.iconst (-1), 1) := by decide +kernel
theorem d_229_17 : decode (zm_code 229) 17 = .ok (.ireturn, 1) := by decide +kernel
theorem d_229_18 : decode (zm_code 229) 18 = .ok (.aload_n 0, 1) := by decide +kernel
theorem d_229_19 : decode (zm_code 229) 19 = .ok (.invokevirtual 532, 3) := by decide +kernel
theorem d_229_22 : decode (zm_code 229) 22 = .ok (.aload_n 0, 1) := by decide +kernel
theorem d_229_23 : decode (zm_code 229) 23 = .ok (.iconst 0, 1) := by decide +kernel
theorem d_229_24 : decode (zm_code 229) 24 = .ok (.iload_n 1, 1) := by decide +kernel
theorem d_229_25 : decode (zm_code 229) 25 = .ok (.invokevirtual 494, 3) := by decide +kernel
theorem d_229_28 : decode (zm_code 229) 28 = .ok (.iload_n 3, 1) := by decide +kernel
theorem d_229_29 : decode (zm_code 229) 29 = .ok (.ifCond .ne 12, 3) := by decide +kernel
theorem d_229_32 : decode (zm_code 229) 32 = .ok (.aload_n 0, 1) := by decide +kernel
theorem d_229_33 : decode (zm_code 229) 33 = .ok (.iload_n 1, 1) := by decide +kernel
theorem d_229_34 : decode (zm_code 229) 34 = .ok (.iload_n 2, 1) := by decide +kernel
theorem d_229_35 : decode (zm_code 229) 35 = .ok (.invokevirtual 473, 3) := by decide +kernel
theorem d_229_38 : decode (zm_code 229) 38 = .ok (.goto 33, 3) := by decide +kernel
theorem d_229_41 : decode (zm_code 229) 41 = .ok (.iload_n 3, 1) := by decide +kernel
theorem d_229_42 : decode (zm_code 229) 42 = .ok (.iconst 1, 1) := by decide +kernel
theorem d_229_43 : decode (zm_code 229) 43 = .ok (.if_icmp .ne 13, 3) := by decide +kernel
theorem d_229_46 : decode (zm_code 229) 46 = .ok (.aload_n 0, 1) := by decide +kernel
theorem d_229_47 : decode (zm_code 229) 47 = .ok (.iconst 0, 1) := by decide +kernel
theorem d_229_48 : decode (zm_code 229) 48 = .ok (.iload_n 1, 1) := by decide +kernel
theorem d_229_49 : decode (zm_code 229) 49 = .ok (.iload_n 2, 1) := by decide +kernel
theorem d_229_50 : decode (zm_code 229) 50 = .ok (.invokevirtual 512, 3) := by decide +kernel
theorem d_229_53 : decode (zm_code 229) 53 = .ok (.goto 18, 3) := by decide +kernel
theorem d_229_56 : decode (zm_code 229) 56 = .ok (.iload_n 3, 1) := by decide +kernel
theorem d_229_57 : decode (zm_code 229) 57 = .ok (.iconst 2, 1) := by decide +kernel
theorem d_229_58 : decode (zm_code 229) 58 = .ok (.if_icmp .ne 12, 3) := by decide +kernel
theorem d_229_61 : decode (zm_code 229) 61 = .ok (.aload_n 0, 1) := by decide +kernel
theorem d_229_62 : decode (zm_code 229) 62 = .ok (.getfield 216, 3) := by decide +kernel
theorem d_229_65 : decode (zm_code 229) 65 = .ok (.iload_n 2, 1) := by decide +kernel
theorem d_229_66 : decode (zm_code 229) 66 = .ok (.iaload, 1) := by decide +kernel
theorem d_229_67 : decode (zm_code 229) 67 = .ok (.goto 4, 3) := by decide +kernel
theorem d_229_70 : decode (zm_code 229) 70 = .ok (.iconst (-1), 1) := by decide +kernel
theorem d_229_71 : decode (zm_code 229) 71 = .ok (.ireturn, 1) := by decide +kernel
theorem d_230_0 : decode (zm_code 230) 0 = .ok (.aload_n 0, 1) := by decide +kernel
theorem d_230_1 : decode (zm_code 230) 1 = .ok (.iload_n 1, 1) := by decide +kernel
theorem d_230_2 : decode (zm_code 230) 2 = .ok (.invokevirtual 535, 3) := by decide +kernel
theorem d_230_5 : decode (zm_code 230) 5 = .ok (.ifCond .eq 29, 3) := by decide +kernel
theorem d_230_8 : decode (zm_code 230) 8 = .ok (.aload_n 0, 1) := by decide +kernel
theorem d_230_9 : decode (zm_code 230) 9 = .ok (.iload_n 2, 1) := by decide +kernel
theorem d_230_10 : decode (zm_code 230) 10 = .ok (.invokevirtual 523, 3) := by decide +kernel
theorem d_230_13 : decode (zm_code 230) 13 = .ok (.ifCond .eq 21, 3) := by decide +kernel
theorem d_230_16 : decode (zm_code 230) 16 = .ok (.sipush 1000, 3) := by decide +kernel
theorem d_230_19 : decode (zm_code 230) 19 = .ok (.aload_n 0, 1) := by decide +kernel
theorem d_230_20 : decode (zm_code 230) 20 = .ok (.getfield 216, 3) := by decide +kernel
theorem d_230_23 : decode (zm_code 230) 23 = .ok (.iload_n 2, 1) := by decide +kernel
theorem d_230_24 : decode (zm_code 230) 24 = .ok (.iaload, 1) := by decide +kernel
theorem d_230_25 : decode (zm_code 230) 25 = .ok (.imul, 1) := by decide +kernel
theorem d_230_26 : decode (zm_code 230) 26 = .ok (.aload_n 0, 1) := by decide +kernel
theorem d_230_27 : decode (zm_code 230) 27 = .ok (.getfield 219, 3) := by decide +kernel
theorem d_230_30 : decode (zm_code 230) 30 = .ok (.idiv, 1) := by decide +kernel
theorem d_230_31 : decode (zm_code 230) 31 = .ok (.goto 4, 3) := by decide +kernel
theorem d_230_34 : decode (zm_code 230) 34 = .ok (.iconst (-1), 1) := by decide +kernel
theorem d_230_35 : decode (zm_code 230) 35 = .ok (.ireturn, 1) := by decide +kernel
theorem d_231_0 : decode (zm_code 231) 0 = .ok (.aload_n 0, 1) := by decide +kernel
theorem d_231_1 : decode (zm_code 231) 1 = .ok (.iload_n 1, 1) := by decide +kernel
theorem d_231_2 : decode (zm_code 231) 2 = .ok (.invokevirtual 529, 3) := by decide +kernel
theorem d_231_5 : decode (zm_code 231) 5 = .ok (.ifCond .ne 5, 3) := by decide +kernel
theorem d_231_8 : decode (zm_code 231) 8 = .ok (.iconst 0, 1) := by decide +kernel
theorem d_231_9 : decode (zm_code 231) 9 = .ok (.ireturn, 1) := by decide +kernel
theorem d_231_10 : decode (zm_code 231) 10 = .ok (.aload_n 0, 1) := by decide +kernel
theorem d_231_11 : decode (zm_code 231) 11 = .ok (.invokevirtual 532, 3) := by decide +kernel
theorem d_231_14 : decode (zm_code 231) 14 = .ok (.aload_n 0, 1) := by decide +kernel
theorem d_231_15 : decode (zm_code 231) 15 = .ok (.iconst 0, 1) := by decide +kernel
theorem d_231_16 : decode (zm_code 231) 16 = .ok (.iload_n 1, 1) := by decide +kernel
theorem d_231_17 : decode (zm_code 231) 17 = .ok (.invokevirtual 494, 3) := by decide +kernel
theorem d_231_20 : decode (zm_code 231) 20 = .ok (.aload_n 0, 1) := by decide +kernel
theorem d_231_21 : decode (zm_code 231) 21 = .ok (.getfield 219, 3) := by decide +kernel
theorem d_231_24 : decode (zm_code 231) 24 = .ok (.ifCond .le 7, 3) := by decide +kernel
theorem d_231_27 : decode (zm_code 231) 27 = .ok (.iconst 1, 1) := by decide +kernel
theorem d_231_28 : decode (zm_code 231) 28 = .ok (.goto 4, 3) := by decide +kernel
theorem d_231_31 : decode (zm_code 231) 31 = .ok (.iconst 0, 1) := by decide +kernel
theorem d_231_32 : decode (zm_code 231) 32 = .ok (.ireturn, 1) := by decide +kernel
theorem d_232_0 : decode (zm_code 232) 0 = .ok (.aload_n 0, 1) := by decide +kernel
theorem d_232_1 : decode (zm_code 232) 1 = .ok (.iload_n 1, 1) := by decide +kernel
theorem d_232_2 : decode (zm_code 232) 2 = .ok (.invokevirtual 535, 3) := by decide +kernel
theorem d_232_5 : decode (zm_code 232) 5 = .ok (.ifCond .eq 36, 3) := by decide +kernel
theorem d_232_8 : decode (zm_code 232) 8 = .ok (.aload_n 0, 1) := by decide +kernel
theorem d_232_9 : decode (zm_code 232) 9 = .ok (.iload_n 2, 1) := by decide +kernel
theorem d_232_10 : decode (zm_code 232) 10 = .ok (.invokevirtual 523, 3) := by decide +kernel
theorem d_232_13 : decode (zm_code 232) 13 = .ok (.ifCond .eq 28, 3) := by decide +kernel
theorem d_232_16 : decode (zm_code 232) 16 = .ok (.aload_n 0, 1) := by decide +kernel
theorem d_232_17 : decode (zm_code 232) 17 = .ok (.iload_n 1, 1) := by decide +kernel
theorem d_232_18 : decode (zm_code 232) 18 = .ok (.iload_n 2, 1) := by decide +kernel
theorem d_232_19 : decode (zm_code 232) 19 = .ok (.invokevirtual 489, 3) := by decide +kernel
theorem d_232_22 : decode (zm_code 232) 22 = .ok (.aload_n 0, 1) := by decide +kernel
theorem d_232_23 : decode (zm_code 232) 23 = .ok (.getfield 219, 3) := by decide +kernel
theorem d_232_26 : decode (zm_code 232) 26 = .ok (.i2l, 1) := by decide +kernel
theorem d_232_27 : decode (zm_code 232) 27 = .ok (.aload_n 0, 1) := by decide +kernel
theorem d_232_28 : decode (zm_code 232) 28 = .ok (.iload_n 1, 1) := by decide +kernel
theorem d_232_29 : decode (zm_code 232) 29 = .ok (.invokevirtual 482, 3) := by decide +kernel
theorem d_232_32 : decode (zm_code 232) 32 = .ok (.invokestatic 485, 3) := by decide +kernel
theorem d_232_35 : decode (zm_code 232) 35 = .ok (.invokestatic 538, 3) := by decide +kernel
theorem d_232_38 : decode (zm_code 232) 38 = .ok (.goto 4, 3) := by decide +kernel
theorem d_232_41 : decode (zm_code 232) 41 = .ok (.iconst (-1), 1) := by decide +kernel
theorem d_232_42 : decode (zm_code 232) 42 = .ok (.ireturn, 1) := by decide +kernel
theorem d_233_0 : decode (zm_code 233) 0 = .ok (.aload_n 0, 1) := by decide +kernel
theorem d_233_1 : decode (zm_code 233) 1 = .ok (.getfield 78, 3) := by decide +kernel
theorem d_233_4 : decode (zm_code 233) 4 = .ok (.bipush 8, 2) := by decide +kernel
theorem d_233_6 : decode (zm_code 233) 6 = .ok (.aload_n 0, 1) := by decide +kernel
theorem d_233_7 : decode (zm_code 233) 7 = .ok (.getfield 51, 3) := by decide +kernel
theorem d_233_10 : decode (zm_code 233) 10 = .ok (.imul, 1) := by decide +kernel
theorem d_233_11 : decode (zm_code 233) 11 = .ok (.iload_n 1, 1) := by decide +kernel
theorem d_233_12 : decode (zm_code 233) 12 = .ok (.iadd, 1) := by decide +kernel
theorem d_233_13 : decode (zm_code 233) 13 = .ok (.iaload, 1) := by decide +kernel
theorem d_233_14 : decode (zm_code 233) 14 = .ok (.istore_n 3, 1) := by decide +kernel
theorem d_233_15 : decode (zm_code 233) 15 = .ok (.aload_n 0, 1) := by decide +kernel
theorem d_233_16 : decode (zm_code 233) 16 = .ok (.iload_n 1, 1) := by decide +kernel
theorem d_233_17 : decode (zm_code 233) 17 = .ok (.iload_n 2, 1) := by decide +kernel
theorem d_233_18 : decode (zm_code 233) 18 = .ok (.iload_n 3, 1) := by decide +kernel
theorem d_233_19 : decode (zm_code 233) 19 = .ok (.invokevirtual 479, 3) := by decide +kernel
theorem d_233_22 : decode (zm_code 233) 22 = .ok (.istore 4, 2) := by decide +kernel
theorem d_233_24 : decode (zm_code 233) 24 = .ok (.lconst 0, 1) := by decide +kernel
theorem d_233_25 : decode (zm_code 233) 25 = .ok (.lstore 5, 2) := by decide +kernel
theorem d_233_27 : decode (zm_code 233) 27 = .ok (.lconst 0, 1) := by decide +kernel
theorem d_233_28 : decode (zm_code 233) 28 = .ok (.lstore 7, 2) := by decide +kernel
theorem d_233_30 : decode (zm_code 233) 30 = .ok (.iconst 0, 1) := by decide +kernel
theorem d_233_31 : decode (zm_code 233) 31 = .ok (.istore 9, 2) := by decide +kernel
theorem d_233_33 : decode (zm_code 233) 33 = .ok (.iload 9, 2) := by decide +kernel
theorem d_233_35 : decode (zm_code 233) 35 = .ok (.aload_n 0, 1) := by decide +kernel
theorem d_233_36 : decode (zm_code 233) 36 = .ok (.getfield 54, 3) := by decide +kernel
theorem d_233_39 : decode (zm_code 233) 39 = .ok (.aload_n 0, 1) := by decide +kernel
theorem d_233_40 : decode (zm_code 233) 40 = .ok (.getfield 51, 3) := by decide +kernel
theorem d_233_43 : decode (zm_code 233) 43 = .ok (.iaload, 1) := by decide +kernel
theorem d_233_44 : decode (zm_code 233) 44 = .ok (.if_icmp .ge 69, 3) := by decide +kernel
theorem d_233_47 : decode (zm_code 233) 47 = .ok (.lload 5, 2) := by decide +kernel
theorem d_233_49 : decode (zm_code 233) 49 = .ok (.aload_n 0, 1) := by decide +kernel
theorem d_233_50 : decode (zm_code 233) 50 = .ok (.iload_n 1, 1) := by decide +kernel
theorem d_233_51 : decode (zm_code 233) 51 = .ok (.iload 9, 2) := by decide +kernel
theorem d_233_53 : decode (zm_code 233) 53 = .ok (.iload_n 3, 1) := by decide +kernel
theorem d_233_54 : decode (zm_code 233) 54 = .ok (.invokevirtual 479, 3) := by decide +kernel
theorem d_233_57 : decode (zm_code 233) 57 = .ok (.iload 4, 2) := by decide +kernel
theorem d_233_59 : decode (zm_code 233) 59 = .ok (.if_icmp .ge 14, 3) := by decide +kernel
theorem d_233_62 : decode (zm_code 233) 62 = .ok (.aload_n 0, 1) := by decide +kernel
theorem d_233_63 : decode (zm_code 233) 63 = .ok (.getfield 216, 3) := by decide +kernel
theorem d_233_66 : decode (zm_code 233) 66 = .ok (.iload 9, 2) := by decide +kernel
theorem d_233_68 : decode (zm_code 233) 68 = .ok (.iaload, 1) := by decide +kernel
theorem d_233_69 : decode (zm_code 233) 69 = .ok (.i2l, 1) := by decide +kernel
theorem d_233_70 : decode (zm_code 233) 70 = .ok (.goto 4, 3) := by decide +kernel
theorem d_233_73 : decode (zm_code 233) 73 = .ok (.lconst 0, 1) := by decide +kernel
theorem d_233_74 : decode (zm_code 233) 74 = .ok (.ladd, 1) := by decide +kernel
theorem d_233_75 : decode (zm_code 233) 75 = .ok (.lstore 5, 2) := by decide +kernel
theorem d_233_77 : decode (zm_code 233) 77 = .ok (.lload 7, 2) := by decide +kernel
theorem d_233_79 : decode (zm_code 233) 79 = .ok (.aload_n 0, 1) := by decide +kernel
theorem d_233_80 : decode (zm_code 233) 80 = .ok (.iload_n 1, 1) := by decide +kernel
theorem d_233_81 : decode (zm_code 233) 81 = .ok (.iload 9, 2) := by decide +kernel
theorem d_233_83 : decode (zm_code 233) 83 = .ok (.iload_n 3, 1) := by decide +kernel
theorem d_233_84 : decode (zm_code 233) 84 = .ok (.invokevirtual 479, 3) := by decide +kernel
theorem d_233_87 : decode (zm_code 233) 87 = .ok (.iload 4, 2) := by decide +kernel
theorem d_233_89 : decode (zm_code 233) 89 = .ok (.if_icmp .ne 14, 3) := by decide +kernel
theorem d_233_92 : decode (zm_code 233) 92 = .ok (.aload_n 0, 1) := by decide +kernel
theorem d_233_93 : decode (zm_code 233) 93 = .ok (.getfield 216, 3) := by decide +kernel
theorem d_233_96 : decode (zm_code 233) 96 = .ok (.iload 9, 2) := by decide +kernel
theorem d_233_98 : decode (zm_code 233) 98 = .ok (.iaload, 1) := by decide +kernel
theorem d_233_99 : decode (zm_code 233) 99 = .ok (.i2l, 1) := by decide +kernel
theorem d_233_100 : decode (zm_code 233) 100 = .ok (.goto 4, 3) := by decide +kernel
theorem d_233_103 : decode (zm_code 233) 103 = .ok (.lconst 0, 1) := by decide +kernel
theorem d_233_104 : decode (zm_code 233) 104 = .ok (.ladd, 1) := by decide +kernel
theorem d_233_105 : decode (zm_code 233) 105 = .ok (.lstore 7, 2) := by decide +kernel
theorem d_233_107 : decode (zm_code 233) 107 = .ok (.iinc 9 1, 3) := by decide +kernel
theorem d_233_110 : decode (zm_code 233) 110 = .ok (.goto (-77), 3) := by decide +kernel
theorem d_233_113 : decode (zm_code 233) 113 = .ok (.aload_n 0, 1) := by decide +kernel
theorem d_233_114 : decode (zm_code 233) 114 = .ok (.getfield 216, 3) := by decide +kernel
theorem d_233_117 : decode (zm_code 233) 117 = .ok (.iload_n 2, 1) := by decide +kernel
theorem d_233_118 : decode (zm_code 233) 118 = .ok (.iaload, 1) := by decide +kernel
theorem d_233_119 : decode (zm_code 233) 119 = .ok (.ifCond .ne 5, 3) := by decide +kernel
theorem d_233_122 : decode (zm_code 233) 122 = .ok (.lconst 0, 1) := by decide +kernel
theorem d_233_123 : decode (zm_code 233) 123 = .ok (.lreturn, 1) := by decide +kernel
theorem d_233_124 : decode (zm_code 233) 124 = .ok (.lload 5, 2) := by decide +kernel
theorem d_233_126 : decode (zm_code 233) 126 = .ok (.lload 7, 2) := by decide +kernel
theorem d_233_128 : decode (zm_code 233) 128 = .ok (.ladd, 1) := by decide +kernel
theorem d_233_129 : decode (zm_code 233) 129 = .ok (.aload_n 0, 1) := by decide +kernel
theorem d_233_130 : decode (zm_code 233) 130 = .ok (.iload_n 1, 1) := by decide +kernel
theorem d_233_131 : decode (zm_code 233) 131 = .ok (.invokevirtual 482, 3) := by decide +kernel
theorem d_233_134 : decode (zm_code 233) 134 = .ok (.invokestatic 485, 3) := by decide +kernel
theorem d_233_137 : decode (zm_code 233) 137 = .ok (.lload 5, 2) := by decide +kernel
theorem d_233_139 : decode (zm_code 233) 139 = .ok (.aload_n 0, 1) := by decide +kernel
theorem d_233_140 : decode (zm_code 233) 140 = .ok (.iload_n 1, 1) := by decide +kernel
theorem d_233_141 : decode (zm_code 233) 141 = .ok (.invokevirtual 482, 3) := by decide +kernel
theorem d_233_144 : decode (zm_code 233) 144 = .ok (.invokestatic 485, 3) := by decide +kernel
theorem d_233_147 : decode (zm_code 233) 147 = .ok (.lsub, 1) := by decide +kernel
theorem d_233_148 : decode (zm_code 233) 148 = .ok (.lload 7, 2) := by decide +kernel
theorem d_233_150 : decode (zm_code 233) 150 = .ok (.ldiv, 1) := by decide +kernel
theorem d_233_151 : decode (zm_code 233) 151 = .ok (.aload_n 0, 1) := by decide +kernel
theorem d_233_152 : decode (zm_code 233) 152 = .ok (.getfield 216, 3) := by decide +kernel
theorem d_233_155 : decode (zm_code 233) 155 = .ok (.iload_n 2, 1) := by decide +kernel
theorem d_233_156 : decode (zm_code 233) 156 = .ok (.iaload, 1) := by decide +kernel
theorem d_233_157 : decode (zm_code 233) 157 = .ok (.i2l, 1) := by decide +kernel
theorem d_233_158 : decode (zm_code 233) 158 = .ok (.lmul, 1) := by decide +kernel
theorem d_233_159 : decode (zm_code 233) 159 = .ok (.lreturn, 1) := by decide +kernel
theorem d_234_0 : decode (zm_code 234) 0 = .ok (.iload_n 3, 1) := by decide +kernel
theorem d_234_1 : decode (zm_code 234) 1 = .ok (.iconst 1, 1) := by decide +kernel
theorem d_234_2 : decode (zm_code 234) 2 = .ok (.if_icmp .ne 12, 3) := by decide +kernel
theorem d_234_5 : decode (zm_code 234) 5 = .ok (.aload_n 0, 1) := by decide +kernel
theorem d_234_6 : decode (zm_code 234) 6 = .ok (.iload_n 1, 1) := by decide +kernel
theorem d_234_7 : decode (zm_code 234) 7 = .ok (.iload_n 2, 1) := by decide +kernel
theorem d_234_8 : decode (zm_code 234) 8 = .ok (.invokevirtual 473, 3) := by decide +kernel
theorem d_234_11 : decode (zm_code 234) 11 = .ok (.goto 31, 3) := by decide +kernel
theorem d_234_14 : decode (zm_code 234) 14 = .ok (.iload_n 3, 1) := by decide +kernel
theorem d_234_15 : decode (zm_code 234) 15 = .ok (.iconst 2, 1) := by decide +kernel
theorem d_234_16 : decode (zm_code 234) 16 = .ok (.if_icmp .ne 11, 3) := by decide +kernel
theorem d_234_19 : decode (zm_code 234) 19 = .ok (.aload_n 0, 1) := by decide +kernel
theorem d_234_20 : decode (zm_code 234) 20 = .ok (.iload_n 2, 1) := by decide +kernel
theorem d_234_21 : decode (zm_code 234) 21 = .ok (.invokevirtual 476, 3) := by decide +kernel
theorem d_234_24 : decode (zm_code 234) 24 = .ok (.goto 18, 3) := by decide +kernel
theorem d_234_27 : decode (zm_code 234) 27 = .ok (.iload_n 3, 1) := by decide +kernel
theorem d_234_28 : decode (zm_code 234) 28 = .ok (.iconst 3, 1) := by decide +kernel
theorem d_234_29 : decode (zm_code 234) 29 = .ok (.if_icmp .ne 12, 3) := by decide +kernel
theorem d_234_32 : decode (zm_code 234) 32 = .ok (.aload_n 0, 1) := by decide +kernel
theorem d_234_33 : decode (zm_code 234) 33 = .ok (.iload_n 2, 1) := by decide +kernel
theorem d_234_34 : decode (zm_code 234) 34 = .ok (.invokevirtual 476, 3) := by decide +kernel
theorem d_234_37 : decode (zm_code 234) 37 = .ok (.ineg, 1) := by decide +kernel
theorem d_234_38 : decode (zm_code 234) 38 = .ok (.goto 4, 3) := by decide +kernel
theorem d_234_41 : decode (zm_code 234) 41 = .ok (.iconst 0, 1) := by decide +kernel
theorem d_234_42 : decode (zm_code 234) 42 = .ok (.ireturn, 1) := by decide +kernel
theorem d_235_0 : decode (zm_code 235) 0 = .ok (.iconst 1, 1) := by decide +kernel
theorem d_235_1 : decode (zm_code 235) 1 = .ok (.aload_n 0, 1) := by decide +kernel
theorem d_235_2 : decode (zm_code 235) 2 = .ok (.getfield 75, 3) := by decide +kernel
theorem d_235_5 : decode (zm_code 235) 5 = .ok (.bipush 8, 2) := by decide +kernel
theorem d_235_7 : decode (zm_code 235) 7 = .ok (.aload_n 0, 1) := by decide +kernel
theorem d_235_8 : decode (zm_code 235) 8 = .ok (.getfield 51, 3) := by decide +kernel
theorem d_235_11 : decode (zm_code 235) 11 = .ok (.imul, 1) := by decide +kernel
theorem d_235_12 : decode (zm_code 235) 12 = .ok (.iload_n 1, 1) := by decide +kernel
theorem d_235_13 : decode (zm_code 235) 13 = .ok (.iadd, 1) := by decide +kernel
theorem d_235_14 : decode (zm_code 235) 14 = .ok (.iaload, 1) := by decide +kernel
theorem d_235_15 : decode (zm_code 235) 15 = .ok (.iadd, 1) := by decide +kernel
theorem d_235_16 : decode (zm_code 235) 16 = .ok (.ireturn, 1) := by decide +kernel
theorem d_236_0 : decode (zm_code 236) 0 = .ok (.lconst 1, 1) := by decide +kernel
theorem d_236_1 : decode (zm_code 236) 1 = .ok (.lstore_n 3, 1) := by decide +kernel
theorem d_236_2 : decode (zm_code 236) 2 = .ok (.iconst 0, 1) := by decide +kernel
theorem d_236_3 : decode (zm_code 236) 3 = .ok (.istore 5, 2) := by decide +kernel
theorem d_236_5 : decode (zm_code 236) 5 = .ok (.iload 5, 2) := by decide +kernel
theorem d_236_7 : decode (zm_code 236) 7 = .ok (.iload_n 2, 1) := by decide +kernel
theorem d_236_8 : decode (zm_code 236) 8 = .ok (.if_icmp .ge 13, 3) := by decide +kernel
theorem d_236_11 : decode (zm_code 236) 11 = .ok (.lload_n 3, 1) := by decide +kernel
theorem d_236_12 : decode (zm_code 236) 12 = .ok (.lload_n 0, 1) := by decide +kernel
theorem d_236_13 : decode (zm_code 236) 13 = .ok (.lmul, 1) := by decide +kernel
theorem d_236_14 : decode (zm_code 236) 14 = .ok (.lstore_n 3, 1) := by decide +kernel
theorem d_236_15 : decode (zm_code 236) 15 = .ok (.iinc 5 1, 3) := by decide +kernel
theorem d_236_18 : decode (zm_code 236) 18 = .ok (.goto (-13), 3) := by decide +kernel
theorem d_236_21 : decode (zm_code 236) 21 = .ok (.lload_n 3, 1) := by decide +kernel
theorem d_236_22 : decode (zm_code 236) 22 = .ok (.lreturn, 1) := by decide +kernel
theorem d_237_0 : decode (zm_code 237) 0 = .ok (.lload_n 0, 1) := by decide +kernel
theorem d_237_1 : decode (zm_code 237) 1 = .ok (.lload_n 2, 1) := by decide +kernel
theorem d_237_2 : decode (zm_code 237) 2 = .ok (.ldiv, 1) := by decide +kernel
theorem d_237_3 : decode (zm_code 237) 3 = .ok (.ldc2_w 492, 3) := by decide +kernel
theorem d_237_6 : decode (zm_code 237) 6 = .ok (.lmul, 1) := by decide +kernel
theorem d_237_7 : decode (zm_code 237) 7 = .ok (.lload_n 0, 1) := by decide +kernel
theorem d_237_8 : decode (zm_code 237) 8 = .ok (.lload_n 2, 1) := by decide +kernel
theorem d_237_9 : decode (zm_code 237) 9 = .ok (.lrem, 1) := by decide +kernel
theorem d_237_10 : decode (zm_code 237) 10 = .ok (.ldc2_w 492, 3) := by decide +kernel
theorem d_237_13 : decode (zm_code 237) 13 = .ok (.lmul, 1) := by decide +kernel
theorem d_237_14 : decode (zm_code 237) 14 = .ok (.lload_n 2, 1) := by decide +kernel
theorem d_237_15 : decode (zm_code 237) 15 = .ok (.ldiv, 1) := by decide +kernel
theorem d_237_16 : decode (zm_code 237) 16 = .ok (.ladd, 1) := by decide +kernel
theorem d_237_17 : decode (zm_code 237) 17 = .ok (.l2i, 1) := by decide +kernel
theorem d_237_18 : decode (zm_code 237) 18 = .ok (.ireturn, 1) := by decide +kernel
theorem d_238_0 : decode (zm_code 238) 0 = .ok (.aload_n 0, 1) := by decide +kernel
theorem d_238_1 : decode (zm_code 238) 1 = .ok (.iload_n 1, 1) := by decide +kernel
theorem d_238_2 : decode (zm_code 238) 2 = .ok (.invokevirtual 535, 3) := by decide +kernel
theorem d_238_5 : decode (zm_code 238) 5 = .ok (.ifCond .eq 27, 3) := by decide +kernel
theorem d_238_8 : decode (zm_code 238) 8 = .ok (.aload_n 0, 1) := by decide +kernel
theorem d_238_9 : decode (zm_code 238) 9 = .ok (.iload_n 1, 1) := by decide +kernel
theorem d_238_10 : decode (zm_code 238) 10 = .ok (.invokevirtual 497, 3) := by decide +kernel
theorem d_238_13 : decode (zm_code 238) 13 = .ok (.aload_n 0, 1) := by decide +kernel
theorem d_238_14 : decode (zm_code 238) 14 = .ok (.getfield 219, 3) := by decide +kernel
theorem d_238_17 : decode (zm_code 238) 17 = .ok (.i2l, 1) := by decide +kernel
theorem d_238_18 : decode (zm_code 238) 18 = .ok (.aload_n 0, 1) := by decide +kernel
theorem d_238_19 : decode (zm_code 238) 19 = .ok (.iload_n 1, 1) := by decide +kernel
theorem d_238_20 : decode (zm_code 238) 20 = .ok (.invokevirtual 482, 3) := by decide +kernel
theorem d_238_23 : decode (zm_code 238) 23 = .ok (.invokestatic 485, 3) := by decide +kernel
theorem d_238_26 : decode (zm_code 238) 26 = .ok (.invokestatic 538, 3) := by decide +kernel
theorem d_238_29 : decode (zm_code 238) 29 = .ok (.goto 4, 3) := by decide +kernel
theorem d_238_32 : decode (zm_code 238) 32 = .ok (.iconst (-1), 1) := by decide +kernel
theorem d_238_33 : decode (zm_code 238) 33 = .ok (.ireturn, 1) := by decide +kernel
theorem d_239_0 : decode (zm_code 239) 0 = .ok (.lconst 0, 1) := by decide +kernel
theorem d_239_1 : decode (zm_code 239) 1 = .ok (.lstore_n 2, 1) := by decide +kernel
theorem d_239_2 : decode (zm_code 239) 2 = .ok (.iconst 0, 1) := by decide +kernel
theorem d_239_3 : decode (zm_code 239) 3 = .ok (.istore 4, 2) := by decide +kernel
theorem d_239_5 : decode (zm_code 239) 5 = .ok (.iload 4, 2) := by decide +kernel
theorem d_239_7 : decode (zm_code 239) 7 = .ok (.aload_n 0, 1) := by decide +kernel
theorem d_239_8 : decode (zm_code 239) 8 = .ok (.getfield 54, 3) := by decide +kernel
theorem d_239_11 : decode (zm_code 239) 11 = .ok (.aload_n 0, 1) := by decide +kernel
theorem d_239_12 : decode (zm_code 239) 12 = .ok (.getfield 51, 3) := by decide +kernel
theorem d_239_15 : decode (zm_code 239) 15 = .ok (.iaload, 1) := by decide +kernel
theorem d_239_16 : decode (zm_code 239) 16 = .ok (.if_icmp .ge 28, 3) := by decide +kernel
theorem d_239_19 : decode (zm_code 239) 19 = .ok (.lload_n 2, 1) := by decide +kernel
theorem d_239_20 : decode (zm_code 239) 20 = .ok (.aload_n 0, 1) := by decide +kernel
theorem d_239_21 : decode (zm_code 239) 21 = .ok (.iload_n 1, 1) := by decide +kernel
theorem d_239_22 : decode (zm_code 239) 22 = .ok (.iload 4, 2) := by decide +kernel
theorem d_239_24 : decode (zm_code 239) 24 = .ok (.invokevirtual 473, 3) := by decide +kernel
theorem d_239_27 : decode (zm_code 239) 27 = .ok (.i2l, 1) := by decide +kernel
theorem d_239_28 : decode (zm_code 239) 28 = .ok (.aload_n 0, 1) := by decide +kernel
theorem d_239_29 : decode (zm_code 239) 29 = .ok (.iload_n 1, 1) := by decide +kernel
theorem d_239_30 : decode (zm_code 239) 30 = .ok (.iload 4, 2) := by decide +kernel
theorem d_239_32 : decode (zm_code 239) 32 = .ok (.invokevirtual 489, 3) := by decide +kernel
theorem d_239_35 : decode (zm_code 239) 35 = .ok (.lmul, 1) := by decide +kernel
theorem d_239_36 : decode (zm_code 239) 36 = .ok (.ladd, 1) := by decide +kernel
theorem d_239_37 : decode (zm_code 239) 37 = .ok (.lstore_n 2, 1) := by decide +kernel
theorem d_239_38 : decode (zm_code 239) 38 = .ok (.iinc 4 1, 3) := by decide +kernel
theorem d_239_41 : decode (zm_code 239) 41 = .ok (.goto (-36), 3) := by decide +kernel
theorem d_239_44 : decode (zm_code 239) 44 = .ok (.lload_n 2, 1) := by decide +kernel
theorem d_239_45 : decode (zm_code 239) 45 = .ok (.lreturn, 1) := by decide +kernel
theorem d_240_0 : decode (zm_code 240) 0 = .ok (.aload_n 0, 1) := by decide +kernel
theorem d_240_1 : decode (zm_code 240) 1 = .ok (.iload_n 1, 1) := by decide +kernel
theorem d_240_2 : decode (zm_code 240) 2 = .ok (.invokevirtual 529, 3) := by decide +kernel
theorem d_240_5 : decode (zm_code 240) 5 = .ok (.ifCond .eq 13, 3) := by decide +kernel
theorem d_240_8 : decode (zm_code 240) 8 = .ok (.iload_n 2, 1) := by decide +kernel
theorem d_240_9 : decode (zm_code 240) 9 = .ok (.iconst 0, 1) := by decide +kernel
theorem d_240_10 : decode (zm_code 240) 10 = .ok (.bipush 99, 2) := by decide +kernel
theorem d_240_12 : decode (zm_code 240) 12 = .ok (.invokestatic 335, 3) := by decide +kernel
theorem d_240_15 : decode (zm_code 240) 15 = .ok (.ifCond .ne 5, 3) := by decide +kernel
theorem d_240_18 : decode (zm_code 240) 18 = .ok (.iconst (-1), 1) := by decide +kernel
theorem d_240_19 : decode (zm_code 240) 19 = .ok (.ireturn, 1) := by decide +kernel
theorem d_240_20 : decode (zm_code 240) 20 = .ok (.aload_n 0, 1) := by decide +kernel
theorem d_240_21 : decode (zm_code 240) 21 = .ok (.invokevirtual 532, 3) := by decide +kernel
theorem d_240_24 : decode (zm_code 240) 24 = .ok (.aload_n 0, 1) := by decide +kernel
theorem d_240_25 : decode (zm_code 240) 25 = .ok (.iload_n 1, 1) := by decide +kernel
theorem d_240_26 : decode (zm_code 240) 26 = .ok (.iload_n 2, 1) := by decide +kernel
theorem d_240_27 : decode (zm_code 240) 27 = .ok (.invokevirtual 545, 3) := by decide +kernel
theorem d_240_30 : decode (zm_code 240) 30 = .ok (.ifCond .eq 7, 3) := by decide +kernel
theorem d_240_33 : decode (zm_code 240) 33 = .ok (.iconst 1, 1) := by decide +kernel
theorem d_240_34 : decode (zm_code 240) 34 = .ok (.goto 4, 3) := by decide +kernel
theorem d_240_37 : decode (zm_code 240) 37 = .ok (.iconst 0, 1) := by decide +kernel
theorem d_240_38 : decode (zm_code 240) 38 = .ok (.ireturn, 1) := by decide +kernel
theorem d_241_0 : decode (zm_code 241) 0 = .ok (.aload_n 0, 1) := by decide +kernel
theorem d_241_1 : decode (zm_code 241) 1 = .ok (.iconst 0, 1) := by decide +kernel
theorem d_241_2 : decode (zm_code 241) 2 = .ok (.iload_n 1, 1) := by decide +kernel
theorem d_241_3 : decode (zm_code 241) 3 = .ok (.invokevirtual 542, 3) := by decide +kernel
theorem d_241_6 : decode (zm_code 241) 6 = .ok (.istore_n 3, 1) := by decide +kernel
theorem d_241_7 : decode (zm_code 241) 7 = .ok (.iload_n 3, 1) := by decide +kernel
theorem d_241_8 : decode (zm_code 241) 8 = .ok (.iconst (-1), 1) := by decide +kernel
theorem d_241_9 : decode (zm_code 241) 9 = .ok (.if_icmp .eq 22, 3) := by decide +kernel
theorem d_241_12 : decode (zm_code 241) 12 = .ok (.iload_n 2, 1) := by decide +kernel
theorem d_241_13 : decode (zm_code 241) 13 = .ok (.iload_n 3, 1) := by decide +kernel
theorem d_241_14 : decode (zm_code 241) 14 = .ok (.if_icmp .gt 17, 3) := by decide +kernel
theorem d_241_17 : decode (zm_code 241) 17 = .ok (.iload_n 2, 1) := by decide +kernel
theorem d_241_18 : decode (zm_code 241) 18 = .ok (.aload_n 0, 1) := by decide +kernel
theorem d_241_19 : decode (zm_code 241) 19 = .ok (.getfield 162, 3) := by decide +kernel
theorem d_241_22 : decode (zm_code 241) 22 = .ok (.iload_n 1, 1) := by decide +kernel
theorem d_241_23 : decode (zm_code 241) 23 = .ok (.iaload, 1) := by decide +kernel
theorem d_241_24 : decode (zm_code 241) 24 = .ok (.if_icmp .gt 7, 3) := by decide +kernel
theorem d_241_27 : decode (zm_code 241) 27 = .ok (.iconst 1, 1) := by decide +kernel
theorem d_241_28 : decode (zm_code 241) 28 = .ok (.goto 4, 3) := by decide +kernel
theorem d_241_31 : decode (zm_code 241) 31 = .ok (.iconst 0, 1) := by decide +kernel
theorem d_241_32 : decode (zm_code 241) 32 = .ok (.ireturn, 1) := by decide +kernel
theorem d_242_0 : decode (zm_code 242) 0 = .ok (.aload_n 0, 1) := by decide +kernel
theorem d_242_1 : decode (zm_code 242) 1 = .ok (.iload_n 1, 1) := by decide +kernel
theorem d_242_2 : decode (zm_code 242) 2 = .ok (.iload_n 2, 1) := by decide +kernel
theorem d_242_3 : decode (zm_code 242) 3 = .ok (.invokevirtual 494, 3) := by decide +kernel
theorem d_242_6 : decode (zm_code 242) 6 = .ok (.aload_n 0, 1) := by decide +kernel
theorem d_242_7 : decode (zm_code 242) 7 = .ok (.getfield 219, 3) := by decide +kernel
theorem d_242_10 : decode (zm_code 242) 10 = .ok (.ifCond .ne 7, 3) := by decide +kernel
theorem d_242_13 : decode (zm_code 242) 13 = .ok (.iconst (-1), 1) := by decide +kernel
theorem d_242_14 : decode (zm_code 242) 14 = .ok (.goto 23, 3) := by decide +kernel
theorem d_242_17 : decode (zm_code 242) 17 = .ok (.aload_n 0, 1) := by decide +kernel
theorem d_242_18 : decode (zm_code 242) 18 = .ok (.iload_n 2, 1) := by decide +kernel
theorem d_242_19 : decode (zm_code 242) 19 = .ok (.invokevirtual 497, 3) := by decide +kernel
theorem d_242_22 : decode (zm_code 242) 22 = .ok (.aload_n 0, 1) := by decide +kernel
theorem d_242_23 : decode (zm_code 242) 23 = .ok (.getfield 219, 3) := by decide +kernel
theorem d_242_26 : decode (zm_code 242) 26 = .ok (.i2l, 1) := by decide +kernel
theorem d_242_27 : decode (zm_code 242) 27 = .ok (.aload_n 0, 1) := by decide +kernel
theorem d_242_28 : decode (zm_code 242) 28 = .ok (.iload_n 2, 1) := by decide +kernel
theorem d_242_29 : decode (zm_code 242) 29 = .ok (.invokevirtual 482, 3) := by decide +kernel
theorem d_242_32 : decode (zm_code 242) 32 = .ok (.invokestatic 485, 3) := by decide +kernel
theorem d_242_35 : decode (zm_code 242) 35 = .ok (.ldiv, 1) := by decide +kernel
theorem d_242_36 : decode (zm_code 242) 36 = .ok (.l2i, 1) := by decide +kernel
theorem d_242_37 : decode (zm_code 242) 37 = .ok (.ireturn, 1) := by decide +kernel
theorem d_243_0 : decode (zm_code 243) 0 = .ok (.iload_n 1, 1) := by decide +kernel
theorem d_243_1 : decode (zm_code 243) 1 = .ok (.iconst 0, 1) := by decide +kernel
theorem d_243_2 : decode (zm_code 243) 2 = .ok (.iconst 1, 1) := by decide +kernel
theorem d_243_3 : decode (zm_code 243) 3 = .ok (.invokestatic 335, 3) := by decide +kernel
theorem d_243_6 : decode (zm_code 243) 6 = .ok (.ifCond .ne 5, 3) := by decide +kernel
theorem d_243_9 : decode (zm_code 243) 9 = .ok (.iconst (-1), 1) := by decide +kernel
theorem d_243_10 : decode (zm_code 243) 10 = .ok (.ireturn, 1) := by decide +kernel
theorem d_243_11 : decode (zm_code 243) 11 = .ok (.aload_n 0, 1) := by decide +kernel
theorem d_243_12 : decode (zm_code 243) 12 = .ok (.invokevirtual 532, 3) := by decide +kernel
theorem d_243_15 : decode (zm_code 243) 15 = .ok (.iconst 0, 1) := by decide +kernel
theorem d_243_16 : decode (zm_code 243) 16 = .ok (.istore_n 2, 1) := by decide +kernel
theorem d_243_17 : decode (zm_code 243) 17 = .ok (.iconst 0, 1) := by decide +kernel
theorem d_243_18 : decode (zm_code 243) 18 = .ok (.istore_n 3, 1) := by decide +kernel
theorem d_243_19 : decode (zm_code 243) 19 = .ok (.iconst 1, 1) := by decide +kernel
theorem d_243_20 : decode (zm_code 243) 20 = .ok (.istore 4, 2) := by decide +kernel
theorem d_243_22 : decode (zm_code 243) 22 = .ok (.iload 4, 2) := by decide +kernel
theorem d_243_24 : decode (zm_code 243) 24 = .ok (.bipush 99, 2) := by decide +kernel
theorem d_243_26 : decode (zm_code 243) 26 = .ok (.if_icmp .gt 72, 3) := by decide +kernel
theorem d_243_29 : decode (zm_code 243) 29 = .ok (.iconst 0, 1) := by decide +kernel
theorem d_243_30 : decode (zm_code 243) 30 = .ok (.istore 5, 2) := by decide +kernel
theorem d_243_32 : decode (zm_code 243) 32 = .ok (.iconst 0, 1) := by decide +kernel
theorem d_243_33 : decode (zm_code 243) 33 = .ok (.istore 6, 2) := by decide +kernel
theorem d_243_35 : decode (zm_code 243) 35 = .ok (.iload 6, 2) := by decide +kernel
theorem d_243_37 : decode (zm_code 243) 37 = .ok (.aload_n 0, 1) := by decide +kernel
theorem d_243_38 : decode (zm_code 243) 38 = .ok (.getfield 69, 3) := by decide +kernel
theorem d_243_41 : decode (zm_code 243) 41 = .ok (.aload_n 0, 1) := by decide +kernel
theorem d_243_42 : decode (zm_code 243) 42 = .ok (.getfield 51, 3) := by decide +kernel
theorem d_243_45 : decode (zm_code 243) 45 = .ok (.iaload, 1) := by decide +kernel
theorem d_243_46 : decode (zm_code 243) 46 = .ok (.if_icmp .ge 31, 3) := by decide +kernel
theorem d_243_49 : decode (zm_code 243) 49 = .ok (.iload 5, 2) := by decide +kernel
theorem d_243_51 : decode (zm_code 243) 51 = .ok (.aload_n 0, 1) := by decide +kernel
theorem d_243_52 : decode (zm_code 243) 52 = .ok (.iload 6, 2) := by decide +kernel
theorem d_243_54 : decode (zm_code 243) 54 = .ok (.iload 4, 2) := by decide +kernel
theorem d_243_56 : decode (zm_code 243) 56 = .ok (.invokevirtual 545, 3) := by decide +kernel
theorem d_243_59 : decode (zm_code 243) 59 = .ok (.ifCond .eq 8, 3) := by decide +kernel
theorem d_243_62 : decode (zm_code 243) 62 = .ok (.iload 4, 2) := by decide +kernel
theorem d_243_64 : decode (zm_code 243) 64 = .ok (.goto 4, 3) := by decide +kernel
theorem d_243_67 : decode (zm_code 243) 67 = .ok (.iconst 0, 1) := by decide +kernel
theorem d_243_68 : decode (zm_code 243) 68 = .ok (.iadd, 1) := by decide +kernel
theorem d_243_69 : decode (zm_code 243) 69 = .ok (.istore 5, 2) := by decide +kernel
theorem d_243_71 : decode (zm_code 243) 71 = .ok (.iinc 6 1, 3) := by decide +kernel
theorem d_243_74 : decode (zm_code 243) 74 = .ok (.goto (-39), 3) := by decide +kernel
theorem d_243_77 : decode (zm_code 243) 77 = .ok (.iload 5, 2) := by decide +kernel
theorem d_243_79 : decode (zm_code 243) 79 = .ok (.iload_n 3, 1) := by decide +kernel
theorem d_243_80 : decode (zm_code 243) 80 = .ok (.if_icmp .gt 6, 3) := by decide +kernel
theorem d_243_83 : decode (zm_code 243) 83 = .ok (.goto 9, 3) := by decide +kernel
theorem d_243_86 : decode (zm_code 243) 86 = .ok (.iload 5, 2) := by decide +kernel
theorem d_243_88 : decode (zm_code 243) 88 = .ok (.istore_n 3, 1) := by decide +kernel
theorem d_243_89 : decode (zm_code 243) 89 = .ok (.iload 4, 2) := by decide +kernel
theorem d_243_91 : decode (zm_code 243) 91 = .ok (.istore_n 2, 1) := by decide +kernel
theorem d_243_92 : decode (zm_code 243) 92 = .ok (.iinc 4 1, 3) := by decide +kernel
theorem d_243_95 : decode (zm_code 243) 95 = .ok (.goto (-73), 3) := by decide +kernel
theorem d_243_98 : decode (zm_code 243) 98 = .ok (.iload_n 1, 1) := by decide +kernel
theorem d_243_99 : decode (zm_code 243) 99 = .ok (.ifCond .ne 7, 3) := by decide +kernel
theorem d_243_102 : decode (zm_code 243) 102 = .ok (.iload_n 2, 1) := by decide +kernel
theorem d_243_103 : decode (zm_code 243) 103 = .ok (.goto 4, 3) := by decide +kernel
theorem d_243_106 : decode (zm_code 243) 106 = .ok (.iload_n 3, 1) := by decide +kernel
theorem d_243_107 : decode (zm_code 243) 107 = .ok (.ireturn, 1) := by decide +kernel
theorem d_244_0 : decode (zm_code 244) 0 = .ok (.aload_n 0, 1) := by decide +kernel
theorem d_244_1 : decode (zm_code 244) 1 = .ok (.iload_n 1, 1) := by decide +kernel
theorem d_244_2 : decode (zm_code 244) 2 = .ok (.invokevirtual 529, 3) := by decide +kernel
theorem d_244_5 : decode (zm_code 244) 5 = .ok (.ifCond .eq 24, 3) := by decide +kernel
theorem d_244_8 : decode (zm_code 244) 8 = .ok (.aload_n 0, 1) := by decide +kernel
theorem d_244_9 : decode (zm_code 244) 9 = .ok (.iconst 0, 1) := by decide +kernel
theorem d_244_10 : decode (zm_code 244) 10 = .ok (.invokevirtual 501, 3) := by decide +kernel
theorem d_244_13 : decode (zm_code 244) 13 = .ok (.ifCond .eq 16, 3) := by decide +kernel
theorem d_244_16 : decode (zm_code 244) 16 = .ok (.iload_n 2, 1) := by decide +kernel
theorem d_244_17 : decode (zm_code 244) 17 = .ok (.iconst (-1), 1) := by decide +kernel
theorem d_244_18 : decode (zm_code 244) 18 = .ok (.if_icmp .eq 13, 3) := by decide +kernel
theorem d_244_21 : decode (zm_code 244) 21 = .ok (.aload_n 0, 1) := by decide +kernel
theorem d_244_22 : decode (zm_code 244) 22 = .ok (.iload_n 2, 1) := by decide +kernel
theorem d_244_23 : decode (zm_code 244) 23 = .ok (.invokevirtual 526, 3) := by decide +kernel
theorem d_244_26 : decode (zm_code 244) 26 = .ok (.ifCond .ne 5, 3) := by decide +kernel
theorem d_244_29 : decode (zm_code 244) 29 = .ok (.iconst (-1), 1) := by decide +kernel
theorem d_244_30 : decode (zm_code 244) 30 = .ok (.ireturn, 1) := by decide +kernel
theorem d_244_31 : decode (zm_code 244) 31 = .ok (.iconst 1, 1) := by decide +kernel
theorem d_244_32 : decode (zm_code 244) 32 = .ok (.istore_n 3, 1) := by decide +kernel
theorem d_244_33 : decode (zm_code 244) 33 = .ok (.iconst 0, 1) := by decide +kernel
theorem d_244_34 : decode (zm_code 244) 34 = .ok (.istore 4, 2) := by decide +kernel
theorem d_244_36 : decode (zm_code 244) 36 = .ok (.iload 4, 2) := by decide +kernel
theorem d_244_38 : decode (zm_code 244) 38 = .ok (.aload_n 0, 1) := by decide +kernel
theorem d_244_39 : decode (zm_code 244) 39 = .ok (.getfield 63, 3) := by decide +kernel
theorem d_244_42 : decode (zm_code 244) 42 = .ok (.aload_n 0, 1) := by decide +kernel
theorem d_244_43 : decode (zm_code 244) 43 = .ok (.getfield 51, 3) := by decide +kernel
theorem d_244_46 : decode (zm_code 244) 46 = .ok (.iaload, 1) := by decide +kernel
theorem d_244_47 : decode (zm_code 244) 47 = .ok (.if_icmp .ge 21, 3) := by decide +kernel
theorem d_244_50 : decode (zm_code 244) 50 = .ok (.iload_n 3, 1) := by decide +kernel
theorem d_244_51 : decode (zm_code 244) 51 = .ok (.aload_n 0, 1) := by decide +kernel
theorem d_244_52 : decode (zm_code 244) 52 = .ok (.getfield 63, 3) := by decide +kernel
theorem d_244_55 : decode (zm_code 244) 55 = .ok (.aload_n 0, 1) := by decide +kernel
theorem d_244_56 : decode (zm_code 244) 56 = .ok (.getfield 51, 3) := by decide +kernel
theorem d_244_59 : decode (zm_code 244) 59 = .ok (.iaload, 1) := by decide +kernel
theorem d_244_60 : decode (zm_code 244) 60 = .ok (.imul, 1) := by decide +kernel
theorem d_244_61 : decode (zm_code 244) 61 = .ok (.istore_n 3, 1) := by decide +kernel
theorem d_244_62 : decode (zm_code 244) 62 = .ok (.iinc 4 1, 3) := by decide +kernel
theorem d_244_65 : decode (zm_code 244) 65 = .ok (.goto (-29), 3) := by decide +kernel
theorem d_244_68 : decode (zm_code 244) 68 = .ok (.iconst (-1), 1) := by decide +kernel
theorem d_244_69 : decode (zm_code 244) 69 = .ok (.istore 4, 2) := by decide +kernel
theorem d_244_71 : decode (zm_code 244) 71 = .ok (.iconst 0, 1) := by decide +kernel
theorem d_244_72 : decode (zm_code 244) 72 = .ok (.istore 5, 2) := by decide +kernel
theorem d_244_74 : decode (zm_code 244) 74 = .ok (.iload 5, 2) := by decide +kernel
theorem d_244_76 : decode (zm_code 244) 76 = .ok (.iload_n 3, 1) := by decide +kernel
theorem d_244_77 : decode (zm_code 244) 77 = .ok (.if_icmp .ge 101, 3) := by decide +kernel
theorem d_244_80 : decode (zm_code 244) 80 = .ok (.aload_n 0, 1) := by decide +kernel
theorem d_244_81 : decode (zm_code 244) 81 = .ok (.iload 5, 2) := by decide +kernel
theorem d_244_83 : decode (zm_code 244) 83 = .ok (.invokevirtual 549, 3) := by decide +kernel
theorem d_244_86 : decode (zm_code 244) 86 = .ok (.ifCond .ne 6, 3) := by decide +kernel
theorem d_244_89 : decode (zm_code 244) 89 = .ok (.goto 83, 3) := by decide +kernel
theorem d_244_92 : decode (zm_code 244) 92 = .ok (.aload_n 0, 1) := by decide +kernel
theorem d_244_93 : decode (zm_code 244) 93 = .ok (.iconst 0, 1) := by decide +kernel
theorem d_244_94 : decode (zm_code 244) 94 = .ok (.iload_n 1, 1) := by decide +kernel
theorem d_244_95 : decode (zm_code 244) 95 = .ok (.invokevirtual 494, 3) := by decide +kernel
theorem d_244_98 : decode (zm_code 244) 98 = .ok (.aload_n 0, 1) := by decide +kernel
theorem d_244_99 : decode (zm_code 244) 99 = .ok (.iload_n 1, 1) := by decide +kernel
theorem d_244_100 : decode (zm_code 244) 100 = .ok (.invokevirtual 497, 3) := by decide +kernel
theorem d_244_103 : decode (zm_code 244) 103 = .ok (.aload_n 0, 1) := by decide +kernel
theorem d_244_104 : decode (zm_code 244) 104 = .ok (.getfield 219, 3) := by decide +kernel
theorem d_244_107 : decode (zm_code 244) 107 = .ok (.i2l, 1) := by decide +kernel
theorem d_244_108 : decode (zm_code 244) 108 = .ok (.aload_n 0, 1) := by decide +kernel
theorem d_244_109 : decode (zm_code 244) 109 = .ok (.iload_n 1, 1) := by decide +kernel
theorem d_244_110 : decode (zm_code 244) 110 = .ok (.invokevirtual 482, 3) := by decide +kernel
theorem d_244_113 : decode (zm_code 244) 113 = .ok (.invokestatic 485, 3) := by decide +kernel
theorem d_244_116 : decode (zm_code 244) 116 = .ok (.invokestatic 538, 3) := by decide +kernel
theorem d_244_119 : decode (zm_code 244) 119 = .ok (.istore 6, 2) := by decide +kernel
theorem d_244_121 : decode (zm_code 244) 121 = .ok (.iload 6, 2) := by decide +kernel
theorem d_244_123 : decode (zm_code 244) 123 = .ok (.iload 4, 2) := by decide +kernel
theorem d_244_125 : decode (zm_code 244) 125 = .ok (.if_icmp .gt 6, 3) := by decide +kernel
theorem d_244_128 : decode (zm_code 244) 128 = .ok (.goto 44, 3) := by decide +kernel
theorem d_244_131 : decode (zm_code 244) 131 = .ok (.iload 6, 2) := by decide +kernel
theorem d_244_133 : decode (zm_code 244) 133 = .ok (.istore 4, 2) := by decide +kernel
theorem d_244_135 : decode (zm_code 244) 135 = .ok (.iconst 0, 1) := by decide +kernel
theorem d_244_136 : decode (zm_code 244) 136 = .ok (.istore 7, 2) := by decide +kernel
theorem d_244_138 : decode (zm_code 244) 138 = .ok (.iload 7, 2) := by decide +kernel
theorem d_244_140 : decode (zm_code 244) 140 = .ok (.aload_n 0, 1) := by decide +kernel
theorem d_244_141 : decode (zm_code 244) 141 = .ok (.getfield 63, 3) := by decide +kernel
theorem d_244_144 : decode (zm_code 244) 144 = .ok (.aload_n 0, 1) := by decide +kernel
theorem d_244_145 : decode (zm_code 244) 145 = .ok (.getfield 51, 3) := by decide +kernel
theorem d_244_148 : decode (zm_code 244) 148 = .ok (.iaload, 1) := by decide +kernel
theorem d_244_149 : decode (zm_code 244) 149 = .ok (.if_icmp .ge 23, 3) := by decide +kernel
theorem d_244_152 : decode (zm_code 244) 152 = .ok (.aload_n 0, 1) := by decide +kernel
theorem d_244_153 : decode (zm_code 244) 153 = .ok (.getfield 222, 3) := by decide +kernel
theorem d_244_156 : decode (zm_code 244) 156 = .ok (.iload 7, 2) := by decide +kernel
theorem d_244_158 : decode (zm_code 244) 158 = .ok (.aload_n 0, 1) := by decide +kernel
theorem d_244_159 : decode (zm_code 244) 159 = .ok (.getfield 213, 3) := by decide +kernel
theorem d_244_162 : decode (zm_code 244) 162 = .ok (.iload 7, 2) := by decide +kernel
theorem d_244_164 : decode (zm_code 244) 164 = .ok (.iaload, 1) := by decide +kernel
theorem d_244_165 : decode (zm_code 244) 165 = .ok (.iastore, 1) := by decide +kernel
theorem d_244_166 : decode (zm_code 244) 166 = .ok (.iinc 7 1, 3) := by decide +kernel
theorem d_244_169 : decode (zm_code 244) 169 = .ok (.goto (-31), 3) := by decide +kernel
theorem d_244_172 : decode (zm_code 244) 172 = .ok (.iinc 5 1, 3) := by decide +kernel
theorem d_244_175 : decode (zm_code 244) 175 = .ok (.goto (-101), 3) := by decide +kernel
theorem d_244_178 : decode (zm_code 244) 178 = .ok (.iload_n 2, 1) := by decide +kernel
theorem d_244_179 : decode (zm_code 244) 179 = .ok (.iconst (-1), 1) := by decide +kernel
theorem d_244_180 : decode (zm_code 244) 180 = .ok (.if_icmp .ne 8, 3) := by decide +kernel
theorem d_244_183 : decode (zm_code 244) 183 = .ok (.iload 4, 2) := by decide +kernel
theorem d_244_185 : decode (zm_code 244) 185 = .ok (.goto 9, 3) := by decide +kernel
theorem d_244_188 : decode (zm_code 244) 188 = .ok (.aload_n 0, 1) := by decide +kernel
theorem d_244_189 : decode (zm_code 244) 189 = .ok (.getfield 222, 3) := by decide +kernel
theorem d_244_192 : decode (zm_code 244) 192 = .ok (.iload_n 2, 1) := by decide +kernel
theorem d_244_193 : decode (zm_code 244) 193 = .ok (.iaload, 1) := by decide +kernel
theorem d_244_194 : decode (zm_code 244) 194 = .ok (.ireturn, 1) := by decide +kernel
theorem d_245_0 : decode (zm_code 245) 0 = .ok (.iload_n 1, 1) := by decide +kernel
theorem d_245_1 : decode (zm_code 245) 1 = .ok (.istore_n 2, 1) := by decide +kernel
theorem d_245_2 : decode (zm_code 245) 2 = .ok (.aload_n 0, 1) := by decide +kernel
theorem d_245_3 : decode (zm_code 245) 3 = .ok (.getfield 63, 3) := by decide +kernel
theorem d_245_6 : decode (zm_code 245) 6 = .ok (.aload_n 0, 1) := by decide +kernel
theorem d_245_7 : decode (zm_code 245) 7 = .ok (.getfield 51, 3) := by decide +kernel
theorem d_245_10 : decode (zm_code 245) 10 = .ok (.iaload, 1) := by decide +kernel
theorem d_245_11 : decode (zm_code 245) 11 = .ok (.iconst 1, 1) := by decide +kernel
theorem d_245_12 : decode (zm_code 245) 12 = .ok (.isub, 1) := by decide +kernel
theorem d_245_13 : decode (zm_code 245) 13 = .ok (.istore_n 3, 1) := by decide +kernel
theorem d_245_14 : decode (zm_code 245) 14 = .ok (.iload_n 3, 1) := by decide +kernel
theorem d_245_15 : decode (zm_code 245) 15 = .ok (.ifCond .lt 38, 3) := by decide +kernel
theorem d_245_18 : decode (zm_code 245) 18 = .ok (.aload_n 0, 1) := by decide +kernel
theorem d_245_19 : decode (zm_code 245) 19 = .ok (.getfield 213, 3) := by decide +kernel
theorem d_245_22 : decode (zm_code 245) 22 = .ok (.iload_n 3, 1) := by decide +kernel
theorem d_245_23 : decode (zm_code 245) 23 = .ok (.iload_n 2, 1) := by decide +kernel
theorem d_245_24 : decode (zm_code 245) 24 = .ok (.aload_n 0, 1) := by decide +kernel
theorem d_245_25 : decode (zm_code 245) 25 = .ok (.getfield 63, 3) := by decide +kernel
theorem d_245_28 : decode (zm_code 245) 28 = .ok (.aload_n 0, 1) := by decide +kernel
theorem d_245_29 : decode (zm_code 245) 29 = .ok (.getfield 51, 3) := by decide +kernel
theorem d_245_32 : decode (zm_code 245) 32 = .ok (.iaload, 1) := by decide +kernel
theorem d_245_33 : decode (zm_code 245) 33 = .ok (.irem, 1) := by decide +kernel
theorem d_245_34 : decode (zm_code 245) 34 = .ok (.iastore, 1) := by decide +kernel
theorem d_245_35 : decode (zm_code 245) 35 = .ok (.iload_n 2, 1) := by decide +kernel
theorem d_245_36 : decode (zm_code 245) 36 = .ok (.aload_n 0, 1) := by decide +kernel
theorem d_245_37 : decode (zm_code 245) 37 = .ok (.getfield 63, 3) := by decide +kernel
theorem d_245_40 : decode (zm_code 245) 40 = .ok (.aload_n 0, 1) := by decide +kernel
theorem d_245_41 : decode (zm_code 245) 41 = .ok (.getfield 51, 3) := by decide +kernel
theorem d_245_44 : decode (zm_code 245) 44 = .ok (.iaload, 1) := by decide +kernel
theorem d_245_45 : decode (zm_code 245) 45 = .ok (.idiv, 1) := by decide +kernel
theorem d_245_46 : decode (zm_code 245) 46 = .ok (.istore_n 2, 1) := by decide +kernel
theorem d_245_47 : decode (zm_code 245) 47 = .ok (.iinc 3 (-1), 3) := by decide +kernel
theorem d_245_50 : decode (zm_code 245) 50 = .ok (.goto (-36), 3) := by decide +kernel
theorem d_245_53 : decode (zm_code 245) 53 = .ok (.iconst 0, 1) := by decide +kernel
theorem d_245_54 : decode (zm_code 245) 54 = .ok (.istore_n 3, 1) := by decide +kernel
theorem d_245_55 : decode (zm_code 245) 55 = .ok (.iconst 0, 1) := by decide +kernel
theorem d_245_56 : decode (zm_code 245) 56 = .ok (.istore 4, 2) := by decide +kernel
theorem d_245_58 : decode (zm_code 245) 58 = .ok (.iload 4, 2) := by decide +kernel
theorem d_245_60 : decode (zm_code 245) 60 = .ok (.aload_n 0, 1) := by decide +kernel
theorem d_245_61 : decode (zm_code 245) 61 = .ok (.getfield 63, 3) := by decide +kernel
theorem d_245_64 : decode (zm_code 245) 64 = .ok (.aload_n 0, 1) := by decide +kernel
theorem d_245_65 : decode (zm_code 245) 65 = .ok (.getfield 51, 3) := by decide +kernel
theorem d_245_68 : decode (zm_code 245) 68 = .ok (.iaload, 1) := by decide +kernel
theorem d_245_69 : decode (zm_code 245) 69 = .ok (.if_icmp .ge 21, 3) := by decide +kernel
theorem d_245_72 : decode (zm_code 245) 72 = .ok (.iload_n 3, 1) := by decide +kernel
theorem d_245_73 : decode (zm_code 245) 73 = .ok (.iconst 1, 1) := by decide +kernel
theorem d_245_74 : decode (zm_code 245) 74 = .ok (.aload_n 0, 1) := by decide +kernel
theorem d_245_75 : decode (zm_code 245) 75 = .ok (.getfield 213, 3) := by decide +kernel
theorem d_245_78 : decode (zm_code 245) 78 = .ok (.iload 4, 2) := by decide +kernel
theorem d_245_80 : decode (zm_code 245) 80 = .ok (.iaload, 1) := by decide +kernel
theorem d_245_81 : decode (zm_code 245) 81 = .ok (.ishl, 1) := by decide +kernel
theorem d_245_82 : decode (zm_code 245) 82 = .ok (.ior, 1) := by decide +kernel
theorem d_245_83 : decode (zm_code 245) 83 = .ok (.istore_n 3, 1) := by decide +kernel
theorem d_245_84 : decode (zm_code 245) 84 = .ok (.iinc 4 1, 3) := by decide +kernel
theorem d_245_87 : decode (zm_code 245) 87 = .ok (.goto (-29), 3) := by decide +kernel
theorem d_245_90 : decode (zm_code 245) 90 = .ok (.iload_n 3, 1) := by decide +kernel
theorem d_245_91 : decode (zm_code 245) 91 = .ok (.iconst 1, 1) := by decide +kernel
theorem d_245_92 : decode (zm_code 245) 92 = .ok (.aload_n 0, 1) := by decide +kernel
theorem d_245_93 : decode (zm_code 245) 93 = .ok (.getfield 63, 3) := by decide +kernel
theorem d_245_96 : decode (zm_code 245) 96 = .ok (.aload_n 0, 1) := by decide +kernel
theorem d_245_97 : decode (zm_code 245) 97 = .ok (.getfield 51, 3) := by decide +kernel
theorem d_245_100 : decode (zm_code 245) 100 = .ok (.iaload, 1) := by decide +kernel
theorem d_245_101 : decode (zm_code 245) 101 = .ok (.ishl, 1) := by decide +kernel
theorem d_245_102 : decode (zm_code 245) 102 = .ok (.iconst 1, 1) := by decide +kernel
theorem d_245_103 : decode (zm_code 245) 103 = .ok (.isub, 1) := by decide +kernel
theorem d_245_104 : decode (zm_code 245) 104 = .ok (.if_icmp .ne 7, 3) := by decide +kernel
theorem d_245_107 : decode (zm_code 245) 107 = .ok (.iconst 1, 1) := by decide +kernel
theorem d_245_108 : decode (zm_code 245) 108 = .ok (.goto 4, 3) := by decide +kernel
theorem d_245_111 : decode (zm_code 245) 111 = .ok (.iconst 0, 1) := by decide +kernel
theorem d_245_112 : decode (zm_code 245) 112 = .ok (.ireturn, 1) := by decide +kernel
theorem d_246_0 : decode (zm_code 246) 0 = .ok (.aload_n 0, 1) := by decide +kernel
theorem d_246_1 : decode (zm_code 246) 1 = .ok (.iload_n 1, 1) := by decide +kernel
theorem d_246_2 : decode (zm_code 246) 2 = .ok (.invokevirtual 535, 3) := by decide +kernel
theorem d_246_5 : decode (zm_code 246) 5 = .ok (.ifCond .eq 17, 3) := by decide +kernel
theorem d_246_8 : decode (zm_code 246) 8 = .ok (.aload_n 0, 1) := by decide +kernel
theorem d_246_9 : decode (zm_code 246) 9 = .ok (.getfield 162, 3) := by decide +kernel
theorem d_246_12 : decode (zm_code 246) 12 = .ok (.iload_n 1, 1) := by decide +kernel
theorem d_246_13 : decode (zm_code 246) 13 = .ok (.iaload, 1) := by decide +kernel
theorem d_246_14 : decode (zm_code 246) 14 = .ok (.aload_n 0, 1) := by decide +kernel
theorem d_246_15 : decode (zm_code 246) 15 = .ok (.iconst 0, 1) := by decide +kernel
theorem d_246_16 : decode (zm_code 246) 16 = .ok (.invokevirtual 515, 3) := by decide +kernel
theorem d_246_19 : decode (zm_code 246) 19 = .ok (.if_icmp .ge 9, 3) := by decide +kernel
theorem d_246_22 : decode (zm_code 246) 22 = .ok (.aload_n 0, 1) := by decide +kernel
theorem d_246_23 : decode (zm_code 246) 23 = .ok (.iconst 2, 1) := by decide +kernel
theorem d_246_24 : decode (zm_code 246) 24 = .ok (.invokevirtual 249, 3) := by decide +kernel
theorem d_246_27 : decode (zm_code 246) 27 = .ok (.ireturn, 1) := by decide +kernel
theorem d_246_28 : decode (zm_code 246) 28 = .ok (.aload_n 0, 1) := by decide +kernel
theorem d_246_29 : decode (zm_code 246) 29 = .ok (.invokevirtual 573, 3) := by decide +kernel
theorem d_246_32 : decode (zm_code 246) 32 = .ok (.aload_n 0, 1) := by decide +kernel
theorem d_246_33 : decode (zm_code 246) 33 = .ok (.iload_n 1, 1) := by decide +kernel
theorem d_246_34 : decode (zm_code 246) 34 = .ok (.invokevirtual 576, 3) := by decide +kernel
theorem d_246_37 : decode (zm_code 246) 37 = .ok (.ireturn, 1) := by decide +kernel
theorem d_247_0 : decode (zm_code 247) 0 = .ok (.aload_n 0, 1) := by decide +kernel
theorem d_247_1 : decode (zm_code 247) 1 = .ok (.getfield 186, 3) := by decide +kernel
theorem d_247_4 : decode (zm_code 247) 4 = .ok (.bipush 20, 2) := by decide +kernel
theorem d_247_6 : decode (zm_code 247) 6 = .ok (.if_icmp .ne 26, 3) := by decide +kernel
theorem d_247_9 : decode (zm_code 247) 9 = .ok (.aload_n 0, 1) := by decide +kernel
theorem d_247_10 : decode (zm_code 247) 10 = .ok (.aload_n 0, 1) := by decide +kernel
theorem d_247_11 : decode (zm_code 247) 11 = .ok (.getfield 183, 3) := by decide +kernel
theorem d_247_14 : decode (zm_code 247) 14 = .ok (.iconst 1, 1) := by decide +kernel
theorem d_247_15 : decode (zm_code 247) 15 = .ok (.iadd, 1) := by decide +kernel
theorem d_247_16 : decode (zm_code 247) 16 = .ok (.bipush 20, 2) := by decide +kernel
theorem d_247_18 : decode (zm_code 247) 18 = .ok (.irem, 1) := by decide +kernel
theorem d_247_19 : decode (zm_code 247) 19 = .ok (.putfield 183, 3) := by decide +kernel
theorem d_247_22 : decode (zm_code 247) 22 = .ok (.aload_n 0, 1) := by decide +kernel
theorem d_247_23 : decode (zm_code 247) 23 = .ok (.dup, 1) := by decide +kernel
theorem d_247_24 : decode (zm_code 247) 24 = .ok (.getfield 186, 3) := by decide +kernel
theorem d_247_27 : decode (zm_code 247) 27 = .ok (.iconst 1, 1) := by decide +kernel
theorem d_247_28 : decode (zm_code 247) 28 = .ok (.isub, 1) := by decide +kernel
theorem d_247_29 : decode (zm_code 247) 29 = .ok (.putfield 186, 3) := by decide +kernel
theorem d_247_32 : decode (zm_code 247) 32 = .ok (.aload_n 0, 1) := by decide +kernel
theorem d_247_33 : decode (zm_code 247) 33 = .ok (.aload_n 0, 1) := by decide +kernel
theorem d_247_34 : decode (zm_code 247) 34 = .ok (.aload_n 0, 1) := by decide +kernel
theorem d_247_35 : decode (zm_code 247) 35 = .ok (.getfield 186, 3) := by decide +kernel
theorem d_247_38 : decode (zm_code 247) 38 = .ok (.invokevirtual 434, 3) := by decide +kernel
theorem d_247_41 : decode (zm_code 247) 41 = .ok (.iconst 0, 1) := by decide +kernel
theorem d_247_42 : decode (zm_code 247) 42 = .ok (.invokevirtual 437, 3) := by decide +kernel
theorem d_247_45 : decode (zm_code 247) 45 = .ok (.aload_n 0, 1) := by decide +kernel
theorem d_247_46 : decode (zm_code 247) 46 = .ok (.dup, 1) := by decide +kernel
theorem d_247_47 : decode (zm_code 247) 47 = .ok (.getfield 186, 3) := by decide +kernel
theorem d_247_50 : decode (zm_code 247) 50 = .ok (.iconst 1, 1) := by decide +kernel
theorem d_247_51 : decode (zm_code 247) 51 = .ok (.iadd, 1) := by decide +kernel
theorem d_247_52 : decode (zm_code 247) 52 = .ok (.putfield 186, 3) := by decide +kernel
theorem d_247_55 : decode (zm_code 247) 55 = .ok (.return_, 1) := by decide +kernel
theorem d_248_0 : decode (zm_code 248) 0 = .ok (.aload_n 0, 1) := by decide +kernel
theorem d_248_1 : decode (zm_code 248) 1 = .ok (.iconst 0, 1) := by decide +kernel
theorem d_248_2 : decode (zm_code 248) 2 = .ok (.invokevirtual 515, 3) := by decide +kernel
theorem d_248_5 : decode (zm_code 248) 5 = .ok (.istore_n 2, 1) := by decide +kernel
theorem d_248_6 : decode (zm_code 248) 6 = .ok (.aload_n 0, 1) := by decide +kernel
theorem d_248_7 : decode (zm_code 248) 7 = .ok (.getfield 78, 3) := by decide +kernel
theorem d_248_10 : decode (zm_code 248) 10 = .ok (.bipush 8, 2) := by decide +kernel
theorem d_248_12 : decode (zm_code 248) 12 = .ok (.aload_n 0, 1) := by decide +kernel
theorem d_248_13 : decode (zm_code 248) 13 = .ok (.getfield 51, 3) := by decide +kernel
theorem d_248_16 : decode (zm_code 248) 16 = .ok (.imul, 1) := by decide +kernel
theorem d_248_17 : decode (zm_code 248) 17 = .ok (.iload_n 1, 1) := by decide +kernel
theorem d_248_18 : decode (zm_code 248) 18 = .ok (.iadd, 1) := by decide +kernel
theorem d_248_19 : decode (zm_code 248) 19 = .ok (.iaload, 1) := by decide +kernel
theorem d_248_20 : decode (zm_code 248) 20 = .ok (.istore_n 3, 1) := by decide +kernel
theorem d_248_21 : decode (zm_code 248) 21 = .ok (.aload_n 0, 1) := by decide +kernel
theorem d_248_22 : decode (zm_code 248) 22 = .ok (.iload_n 1, 1) := by decide +kernel
theorem d_248_23 : decode (zm_code 248) 23 = .ok (.invokevirtual 563, 3) := by decide +kernel
theorem d_248_26 : decode (zm_code 248) 26 = .ok (.istore 4, 2) := by decide +kernel
theorem d_248_28 : decode (zm_code 248) 28 = .ok (.iconst 1, 1) := by decide +kernel
theorem d_248_29 : decode (zm_code 248) 29 = .ok (.istore 5, 2) := by decide +kernel
theorem d_248_31 : decode (zm_code 248) 31 = .ok (.iload 5, 2) := by decide +kernel
theorem d_248_33 : decode (zm_code 248) 33 = .ok (.aload_n 0, 1) := by decide +kernel
theorem d_248_34 : decode (zm_code 248) 34 = .ok (.iload_n 1, 1) := by decide +kernel
theorem d_248_35 : decode (zm_code 248) 35 = .ok (.invokevirtual 482, 3) := by decide +kernel
theorem d_248_38 : decode (zm_code 248) 38 = .ok (.if_icmp .ge 45, 3) := by decide +kernel
theorem d_248_41 : decode (zm_code 248) 41 = .ok (.aload_n 0, 1) := by decide +kernel
theorem d_248_42 : decode (zm_code 248) 42 = .ok (.iload_n 1, 1) := by decide +kernel
theorem d_248_43 : decode (zm_code 248) 43 = .ok (.invokevirtual 563, 3) := by decide +kernel
theorem d_248_46 : decode (zm_code 248) 46 = .ok (.istore 6, 2) := by decide +kernel
theorem d_248_48 : decode (zm_code 248) 48 = .ok (.aload_n 0, 1) := by decide +kernel
theorem d_248_49 : decode (zm_code 248) 49 = .ok (.iload_n 1, 1) := by decide +kernel
theorem d_248_50 : decode (zm_code 248) 50 = .ok (.iload 6, 2) := by decide +kernel
theorem d_248_52 : decode (zm_code 248) 52 = .ok (.bipush 8, 2) := by decide +kernel
theorem d_248_54 : decode (zm_code 248) 54 = .ok (.irem, 1) := by decide +kernel
theorem d_248_55 : decode (zm_code 248) 55 = .ok (.iload_n 3, 1) := by decide +kernel
theorem d_248_56 : decode (zm_code 248) 56 = .ok (.invokevirtual 479, 3) := by decide +kernel
theorem d_248_59 : decode (zm_code 248) 59 = .ok (.aload_n 0, 1) := by decide +kernel
theorem d_248_60 : decode (zm_code 248) 60 = .ok (.iload_n 1, 1) := by decide +kernel
theorem d_248_61 : decode (zm_code 248) 61 = .ok (.iload 4, 2) := by decide +kernel
theorem d_248_63 : decode (zm_code 248) 63 = .ok (.bipush 8, 2) := by decide +kernel
theorem d_248_65 : decode (zm_code 248) 65 = .ok (.irem, 1) := by decide +kernel
theorem d_248_66 : decode (zm_code 248) 66 = .ok (.iload_n 3, 1) := by decide +kernel
theorem d_248_67 : decode (zm_code 248) 67 = .ok (.invokevirtual 479, 3) := by decide +kernel
theorem d_248_70 : decode (zm_code 248) 70 = .ok (.if_icmp .le 7, 3) := by decide +kernel
theorem d_248_73 : decode (zm_code 248) 73 = .ok (.iload 6, 2) := by decide +kernel
theorem d_248_75 : decode (zm_code 248) 75 = .ok (.istore 4, 2) := by decide +kernel
theorem d_248_77 : decode (zm_code 248) 77 = .ok (.iinc 5 1, 3) := by decide +kernel
theorem d_248_80 : decode (zm_code 248) 80 = .ok (.goto (-49), 3) := by decide +kernel
theorem d_248_83 : decode (zm_code 248) 83 = .ok (.aload_n 0, 1) := by decide +kernel
theorem d_248_84 : decode (zm_code 248) 84 = .ok (.iload_n 1, 1) := by decide +kernel
theorem d_248_85 : decode (zm_code 248) 85 = .ok (.iload 4, 2) := by decide +kernel
theorem d_248_87 : decode (zm_code 248) 87 = .ok (.bipush 8, 2) := by decide +kernel
theorem d_248_89 : decode (zm_code 248) 89 = .ok (.irem, 1) := by decide +kernel
theorem d_248_90 : decode (zm_code 248) 90 = .ok (.invokevirtual 566, 3) := by decide +kernel
theorem d_248_93 : decode (zm_code 248) 93 = .ok (.ifCond .eq 10, 3) := by decide +kernel
theorem d_248_96 : decode (zm_code 248) 96 = .ok (.aload_n 0, 1) := by decide +kernel
theorem d_248_97 : decode (zm_code 248) 97 = .ok (.iload_n 1, 1) := by decide +kernel
theorem d_248_98 : decode (zm_code 248) 98 = .ok (.invokevirtual 563, 3) := by decide +kernel
theorem d_248_101 : decode (zm_code 248) 101 = .ok (.istore 4, 2) := by decide +kernel
theorem d_248_103 : decode (zm_code 248) 103 = .ok (.iload 4, 2) := by decide +kernel
theorem d_248_105 : decode (zm_code 248) 105 = .ok (.bipush 8, 2) := by decide +kernel
theorem d_248_107 : decode (zm_code 248) 107 = .ok (.irem, 1) := by decide +kernel
theorem d_248_108 : decode (zm_code 248) 108 = .ok (.istore 5, 2) := by decide +kernel
theorem d_248_110 : decode (zm_code 248) 110 = .ok (.aload_n 0, 1) := by decide +kernel
theorem d_248_111 : decode (zm_code 248) 111 = .ok (.getfield 159, 3) := by decide +kernel
theorem d_248_114 : decode (zm_code 248) 114 = .ok (.iload 4, 2) := by decide +kernel
theorem d_248_116 : decode (zm_code 248) 116 = .ok (.dup2, 1) := by decide +kernel
theorem d_248_117 : decode (zm_code 248) 117 = .ok (.iaload, 1) := by decide +kernel
theorem d_248_118 : decode (zm_code 248) 118 = .ok (.iconst 1, 1) := by decide +kernel
theorem d_248_119 : decode (zm_code 248) 119 = .ok (.isub, 1) := by decide +kernel
theorem d_248_120 : decode (zm_code 248) 120 = .ok (.iastore, 1) := by decide +kernel
theorem d_248_121 : decode (zm_code 248) 121 = .ok (.aload_n 0, 1) := by decide +kernel
theorem d_248_122 : decode (zm_code 248) 122 = .ok (.getfield 165, 3) := by decide +kernel
theorem d_248_125 : decode (zm_code 248) 125 = .ok (.bipush 8, 2) := by decide +kernel
theorem d_248_127 : decode (zm_code 248) 127 = .ok (.iload_n 1, 1) := by decide +kernel
theorem d_248_128 : decode (zm_code 248) 128 = .ok (.imul, 1) := by decide +kernel
theorem d_248_129 : decode (zm_code 248) 129 = .ok (.iload 5, 2) := by decide +kernel
theorem d_248_131 : decode (zm_code 248) 131 = .ok (.iadd, 1) := by decide +kernel
theorem d_248_132 : decode (zm_code 248) 132 = .ok (.dup2, 1) := by decide +kernel
theorem d_248_133 : decode (zm_code 248) 133 = .ok (.iaload, 1) := by decide +kernel
theorem d_248_134 : decode (zm_code 248) 134 = .ok (.iconst 1, 1) := by decide +kernel
theorem d_248_135 : decode (zm_code 248) 135 = .ok (.iadd, 1) := by decide +kernel
theorem d_248_136 : decode (zm_code 248) 136 = .ok (.iastore, 1) := by decide +kernel
theorem d_248_137 : decode (zm_code 248) 137 = .ok (.aload_n 0, 1) := by decide +kernel
theorem d_248_138 : decode (zm_code 248) 138 = .ok (.getfield 162, 3) := by decide +kernel
theorem d_248_141 : decode (zm_code 248) 141 = .ok (.iload_n 1, 1) := by decide +kernel
theorem d_248_142 : decode (zm_code 248) 142 = .ok (.dup2, 1) := by decide +kernel
theorem d_248_143 : decode (zm_code 248) 143 = .ok (.iaload, 1) := by decide +kernel
theorem d_248_144 : decode (zm_code 248) 144 = .ok (.iload_n 2, 1) := by decide +kernel
theorem d_248_145 : decode (zm_code 248) 145 = .ok (.isub, 1) := by decide +kernel
theorem d_248_146 : decode (zm_code 248) 146 = .ok (.iastore, 1) := by decide +kernel
theorem d_248_147 : decode (zm_code 248) 147 = .ok (.aload_n 0, 1) := by decide +kernel
theorem d_248_148 : decode (zm_code 248) 148 = .ok (.iload_n 1, 1) := by decide +kernel
theorem d_248_149 : decode (zm_code 248) 149 = .ok (.iload 5, 2) := by decide +kernel
theorem d_248_151 : decode (zm_code 248) 151 = .ok (.iload_n 2, 1) := by decide +kernel
theorem d_248_152 : decode (zm_code 248) 152 = .ok (.invokevirtual 569, 3) := by decide +kernel
theorem d_248_155 : decode (zm_code 248) 155 = .ok (.aload_n 0, 1) := by decide +kernel
theorem d_248_156 : decode (zm_code 248) 156 = .ok (.getfield 156, 3) := by decide +kernel
theorem d_248_159 : decode (zm_code 248) 159 = .ok (.iconst 0, 1) := by decide +kernel
theorem d_248_160 : decode (zm_code 248) 160 = .ok (.dup2, 1) := by decide +kernel
theorem d_248_161 : decode (zm_code 248) 161 = .ok (.iaload, 1) := by decide +kernel
theorem d_248_162 : decode (zm_code 248) 162 = .ok (.iconst 1, 1) := by decide +kernel
theorem d_248_163 : decode (zm_code 248) 163 = .ok (.iadd, 1) := by decide +kernel
theorem d_248_164 : decode (zm_code 248) 164 = .ok (.iastore, 1) := by decide +kernel
theorem d_248_165 : decode (zm_code 248) 165 = .ok (.iload 5, 2) := by decide +kernel
theorem d_248_167 : decode (zm_code 248) 167 = .ok (.ireturn, 1) := by decide +kernel
theorem d_249_0 : decode (zm_code 249) 0 = .ok (.aload_n 0, 1) := by decide +kernel
theorem d_249_1 : decode (zm_code 249) 1 = .ok (.aload_n 0, 1) := by decide +kernel
theorem d_249_2 : decode (zm_code 249) 2 = .ok (.getfield 219, 3) := by decide +kernel
theorem d_249_5 : decode (zm_code 249) 5 = .ok (.invokevirtual 560, 3) := by decide +kernel
theorem d_249_8 : decode (zm_code 249) 8 = .ok (.istore_n 2, 1) := by decide +kernel
theorem d_249_9 : decode (zm_code 249) 9 = .ok (.aload_n 0, 1) := by decide +kernel
theorem d_249_10 : decode (zm_code 249) 10 = .ok (.iconst 0, 1) := by decide +kernel
theorem d_249_11 : decode (zm_code 249) 11 = .ok (.invokevirtual 467, 3) := by decide +kernel
theorem d_249_14 : decode (zm_code 249) 14 = .ok (.istore_n 3, 1) := by decide +kernel
theorem d_249_15 : decode (zm_code 249) 15 = .ok (.iload_n 3, 1) := by decide +kernel
theorem d_249_16 : decode (zm_code 249) 16 = .ok (.aload_n 0, 1) := by decide +kernel
theorem d_249_17 : decode (zm_code 249) 17 = .ok (.iconst 0, 1) := by decide +kernel
theorem d_249_18 : decode (zm_code 249) 18 = .ok (.iload_n 1, 1) := by decide +kernel
theorem d_249_19 : decode (zm_code 249) 19 = .ok (.invokevirtual 470, 3) := by decide +kernel
theorem d_249_22 : decode (zm_code 249) 22 = .ok (.if_icmp .ge 63, 3) := by decide +kernel
theorem d_249_25 : decode (zm_code 249) 25 = .ok (.iconst 0, 1) := by decide +kernel
theorem d_249_26 : decode (zm_code 249) 26 = .ok (.istore 4, 2) := by decide +kernel
theorem d_249_28 : decode (zm_code 249) 28 = .ok (.iload 4, 2) := by decide +kernel
theorem d_249_30 : decode (zm_code 249) 30 = .ok (.aload_n 0, 1) := by decide +kernel
theorem d_249_31 : decode (zm_code 249) 31 = .ok (.getfield 54, 3) := by decide +kernel
theorem d_249_34 : decode (zm_code 249) 34 = .ok (.aload_n 0, 1) := by decide +kernel
theorem d_249_35 : decode (zm_code 249) 35 = .ok (.getfield 51, 3) := by decide +kernel
theorem d_249_38 : decode (zm_code 249) 38 = .ok (.iaload, 1) := by decide +kernel
theorem d_249_39 : decode (zm_code 249) 39 = .ok (.if_icmp .ge 40, 3) := by decide +kernel
theorem d_249_42 : decode (zm_code 249) 42 = .ok (.iload_n 2, 1) := by decide +kernel
theorem d_249_43 : decode (zm_code 249) 43 = .ok (.aload_n 0, 1) := by decide +kernel
theorem d_249_44 : decode (zm_code 249) 44 = .ok (.iconst 0, 1) := by decide +kernel
theorem d_249_45 : decode (zm_code 249) 45 = .ok (.iload_n 3, 1) := by decide +kernel
theorem d_249_46 : decode (zm_code 249) 46 = .ok (.iload 4, 2) := by decide +kernel
theorem d_249_48 : decode (zm_code 249) 48 = .ok (.invokevirtual 460, 3) := by decide +kernel
theorem d_249_51 : decode (zm_code 249) 51 = .ok (.if_icmp .ge 11, 3) := by decide +kernel
theorem d_249_54 : decode (zm_code 249) 54 = .ok (.bipush 8, 2) := by decide +kernel
theorem d_249_56 : decode (zm_code 249) 56 = .ok (.iload_n 3, 1) := by decide +kernel
theorem d_249_57 : decode (zm_code 249) 57 = .ok (.imul, 1) := by decide +kernel
theorem d_249_58 : decode (zm_code 249) 58 = .ok (.iload 4, 2) := by decide +kernel
theorem d_249_60 : decode (zm_code 249) 60 = .ok (.iadd, 1) := by decide +kernel
theorem d_249_61 : decode (zm_code 249) 61 = .ok (.ireturn, 1) := by decide +kernel
theorem d_249_62 : decode (zm_code 249) 62 = .ok (.iload_n 2, 1) := by decide +kernel
theorem d_249_63 : decode (zm_code 249) 63 = .ok (.aload_n 0, 1) := by decide +kernel
theorem d_249_64 : decode (zm_code 249) 64 = .ok (.iconst 0, 1) := by decide +kernel
theorem d_249_65 : decode (zm_code 249) 65 = .ok (.iload_n 3, 1) := by decide +kernel
theorem d_249_66 : decode (zm_code 249) 66 = .ok (.iload 4, 2) := by decide +kernel
theorem d_249_68 : decode (zm_code 249) 68 = .ok (.invokevirtual 460, 3) := by decide +kernel
theorem d_249_71 : decode (zm_code 249) 71 = .ok (.isub, 1) := by decide +kernel
theorem d_249_72 : decode (zm_code 249) 72 = .ok (.istore_n 2, 1) := by decide +kernel
theorem d_249_73 : decode (zm_code 249) 73 = .ok (.iinc 4 1, 3) := by decide +kernel
theorem d_249_76 : decode (zm_code 249) 76 = .ok (.goto (-48), 3) := by decide +kernel
theorem d_249_79 : decode (zm_code 249) 79 = .ok (.iinc 3 1, 3) := by decide +kernel
theorem d_249_82 : decode (zm_code 249) 82 = .ok (.goto (-67), 3) := by decide +kernel
theorem d_249_85 : decode (zm_code 249) 85 = .ok (.iconst (-1), 1) := by decide +kernel
theorem d_249_86 : decode (zm_code 249) 86 = .ok (.ireturn, 1) := by decide +kernel
theorem d_250_0 : decode (zm_code 250) 0 = .ok (.aload_n 0, 1) := by decide +kernel
theorem d_250_1 : decode (zm_code 250) 1 = .ok (.ldc2_w 552, 3) := by decide +kernel
theorem d_250_4 : decode (zm_code 250) 4 = .ok (.aload_n 0, 1) := by decide +kernel
theorem d_250_5 : decode (zm_code 250) 5 = .ok (.getfield 189, 3) := by decide +kernel
theorem d_250_8 : decode (zm_code 250) 8 = .ok (.lmul, 1) := by decide +kernel
theorem d_250_9 : decode (zm_code 250) 9 = .ok (.ldc2_w 554, 3) := by decide +kernel
theorem d_250_12 : decode (zm_code 250) 12 = .ok (.ladd, 1) := by decide +kernel
theorem d_250_13 : decode (zm_code 250) 13 = .ok (.ldc2_w 556, 3) := by decide +kernel
theorem d_250_16 : decode (zm_code 250) 16 = .ok (.lrem, 1) := by decide +kernel
theorem d_250_17 : decode (zm_code 250) 17 = .ok (.putfield 189, 3) := by decide +kernel
theorem d_250_20 : decode (zm_code 250) 20 = .ok (.aload_n 0, 1) := by decide +kernel
theorem d_250_21 : decode (zm_code 250) 21 = .ok (.getfield 189, 3) := by decide +kernel
theorem d_250_24 : decode (zm_code 250) 24 = .ok (.ldc2_w 558, 3) := by decide +kernel
theorem d_250_27 : decode (zm_code 250) 27 = .ok (.ldiv, 1) := by decide +kernel
theorem d_250_28 : decode (zm_code 250) 28 = .ok (.iload_n 1, 1) := by decide +kernel
theorem d_250_29 : decode (zm_code 250) 29 = .ok (.i2l, 1) := by decide +kernel
theorem d_250_30 : decode (zm_code 250) 30 = .ok (.lrem, 1) := by decide +kernel
theorem d_250_31 : decode (zm_code 250) 31 = .ok (.l2i, 1) := by decide +kernel
theorem d_250_32 : decode (zm_code 250) 32 = .ok (.ireturn, 1) := by decide +kernel
theorem d_251_0 : decode (zm_code 251) 0 = .ok (.aload_n 0, 1) := by decide +kernel
theorem d_251_1 : decode (zm_code 251) 1 = .ok (.getfield 93, 3) := by decide +kernel
theorem d_251_4 : decode (zm_code 251) 4 = .ok (.aload_n 0, 1) := by decide +kernel
theorem d_251_5 : decode (zm_code 251) 5 = .ok (.getfield 51, 3) := by decide +kernel
theorem d_251_8 : decode (zm_code 251) 8 = .ok (.iaload, 1) := by decide +kernel
theorem d_251_9 : decode (zm_code 251) 9 = .ok (.iconst (-1), 1) := by decide +kernel
theorem d_251_10 : decode (zm_code 251) 10 = .ok (.if_icmp .ne 5, 3) := by decide +kernel
theorem d_251_13 : decode (zm_code 251) 13 = .ok (.iconst 0, 1) := by decide +kernel
theorem d_251_14 : decode (zm_code 251) 14 = .ok (.ireturn, 1) := by decide +kernel
theorem d_251_15 : decode (zm_code 251) 15 = .ok (.lconst 0, 1) := by decide +kernel
theorem d_251_16 : decode (zm_code 251) 16 = .ok (.lstore_n 3, 1) := by decide +kernel
theorem d_251_17 : decode (zm_code 251) 17 = .ok (.iconst 0, 1) := by decide +kernel
theorem d_251_18 : decode (zm_code 251) 18 = .ok (.istore 5, 2) := by decide +kernel
theorem d_251_20 : decode (zm_code 251) 20 = .ok (.iload 5, 2) := by decide +kernel
theorem d_251_22 : decode (zm_code 251) 22 = .ok (.aload_n 0, 1) := by decide +kernel
theorem d_251_23 : decode (zm_code 251) 23 = .ok (.getfield 54, 3) := by decide +kernel
theorem d_251_26 : decode (zm_code 251) 26 = .ok (.aload_n 0, 1) := by decide +kernel
theorem d_251_27 : decode (zm_code 251) 27 = .ok (.getfield 51, 3) := by decide +kernel
theorem d_251_30 : decode (zm_code 251) 30 = .ok (.iaload, 1) := by decide +kernel
theorem d_251_31 : decode (zm_code 251) 31 = .ok (.if_icmp .ge 28, 3) := by decide +kernel
theorem d_251_34 : decode (zm_code 251) 34 = .ok (.lload_n 3, 1) := by decide +kernel
theorem d_251_35 : decode (zm_code 251) 35 = .ok (.aload_n 0, 1) := by decide +kernel
theorem d_251_36 : decode (zm_code 251) 36 = .ok (.iload_n 1, 1) := by decide +kernel
theorem d_251_37 : decode (zm_code 251) 37 = .ok (.iload 5, 2) := by decide +kernel
theorem d_251_39 : decode (zm_code 251) 39 = .ok (.invokevirtual 473, 3) := by decide +kernel
theorem d_251_42 : decode (zm_code 251) 42 = .ok (.aload_n 0, 1) := by decide +kernel
theorem d_251_43 : decode (zm_code 251) 43 = .ok (.getfield 216, 3) := by decide +kernel
theorem d_251_46 : decode (zm_code 251) 46 = .ok (.iload 5, 2) := by decide +kernel
theorem d_251_48 : decode (zm_code 251) 48 = .ok (.iaload, 1) := by decide +kernel
theorem d_251_49 : decode (zm_code 251) 49 = .ok (.imul, 1) := by decide +kernel
theorem d_251_50 : decode (zm_code 251) 50 = .ok (.i2l, 1) := by decide +kernel
theorem d_251_51 : decode (zm_code 251) 51 = .ok (.ladd, 1) := by decide +kernel
theorem d_251_52 : decode (zm_code 251) 52 = .ok (.lstore_n 3, 1) := by decide +kernel
theorem d_251_53 : decode (zm_code 251) 53 = .ok (.iinc 5 1, 3) := by decide +kernel
theorem d_251_56 : decode (zm_code 251) 56 = .ok (.goto (-36), 3) := by decide +kernel
theorem d_251_59 : decode (zm_code 251) 59 = .ok (.aload_n 0, 1) := by decide +kernel
theorem d_251_60 : decode (zm_code 251) 60 = .ok (.iconst 0, 1) := by decide +kernel
theorem d_251_61 : decode (zm_code 251) 61 = .ok (.invokevirtual 504, 3) := by decide +kernel
theorem d_251_64 : decode (zm_code 251) 64 = .ok (.aload_n 0, 1) := by decide +kernel
theorem d_251_65 : decode (zm_code 251) 65 = .ok (.aload_n 0, 1) := by decide +kernel
theorem d_251_66 : decode (zm_code 251) 66 = .ok (.iload_n 1, 1) := by decide +kernel
theorem d_251_67 : decode (zm_code 251) 67 = .ok (.iload_n 2, 1) := by decide +kernel
theorem d_251_68 : decode (zm_code 251) 68 = .ok (.invokevirtual 473, 3) := by decide +kernel
theorem d_251_71 : decode (zm_code 251) 71 = .ok (.putfield 204, 3) := by decide +kernel
theorem d_251_74 : decode (zm_code 251) 74 = .ok (.aload_n 0, 1) := by decide +kernel
theorem d_251_75 : decode (zm_code 251) 75 = .ok (.aload_n 0, 1) := by decide +kernel
theorem d_251_76 : decode (zm_code 251) 76 = .ok (.iload_n 2, 1) := by decide +kernel
theorem d_251_77 : decode (zm_code 251) 77 = .ok (.invokevirtual 476, 3) := by decide +kernel
theorem d_251_80 : decode (zm_code 251) 80 = .ok (.putfield 207, 3) := by decide +kernel
theorem d_251_83 : decode (zm_code 251) 83 = .ok (.aload_n 0, 1) := by decide +kernel
theorem d_251_84 : decode (zm_code 251) 84 = .ok (.lload_n 3, 1) := by decide +kernel
theorem d_251_85 : decode (zm_code 251) 85 = .ok (.aload_n 0, 1) := by decide +kernel
theorem d_251_86 : decode (zm_code 251) 86 = .ok (.getfield 219, 3) := by decide +kernel
theorem d_251_89 : decode (zm_code 251) 89 = .ok (.i2l, 1) := by decide +kernel
theorem d_251_90 : decode (zm_code 251) 90 = .ok (.ldiv, 1) := by decide +kernel
theorem d_251_91 : decode (zm_code 251) 91 = .ok (.l2i, 1) := by decide +kernel
theorem d_251_92 : decode (zm_code 251) 92 = .ok (.putfield 210, 3) := by decide +kernel
theorem d_251_95 : decode (zm_code 251) 95 = .ok (.aload_n 0, 1) := by decide +kernel
theorem d_251_96 : decode (zm_code 251) 96 = .ok (.aload_n 0, 1) := by decide +kernel
theorem d_251_97 : decode (zm_code 251) 97 = .ok (.getfield 93, 3) := by decide +kernel
theorem d_251_100 : decode (zm_code 251) 100 = .ok (.aload_n 0, 1) := by decide +kernel
theorem d_251_101 : decode (zm_code 251) 101 = .ok (.getfield 51, 3) := by decide +kernel
theorem d_251_104 : decode (zm_code 251) 104 = .ok (.iaload, 1) := by decide +kernel
theorem d_251_105 : decode (zm_code 251) 105 = .ok (.aload_n 0, 1) := by decide +kernel
theorem d_251_106 : decode (zm_code 251) 106 = .ok (.getfield 96, 3) := by decide +kernel
theorem d_251_109 : decode (zm_code 251) 109 = .ok (.aload_n 0, 1) := by decide +kernel
theorem d_251_110 : decode (zm_code 251) 110 = .ok (.getfield 51, 3) := by decide +kernel
theorem d_251_113 : decode (zm_code 251) 113 = .ok (.iaload, 1) := by decide +kernel
theorem d_251_114 : decode (zm_code 251) 114 = .ok (.invokevirtual 507, 3) := by decide +kernel
theorem d_251_117 : decode (zm_code 251) 117 = .ok (.lconst 1, 1) := by decide +kernel
theorem d_251_118 : decode (zm_code 251) 118 = .ok (.lcmp, 1) := by decide +kernel
theorem d_251_119 : decode (zm_code 251) 119 = .ok (.ifCond .ne 7, 3) := by decide +kernel
theorem d_251_122 : decode (zm_code 251) 122 = .ok (.iconst 1, 1) := by decide +kernel
theorem d_251_123 : decode (zm_code 251) 123 = .ok (.goto 4, 3) := by decide +kernel
theorem d_251_126 : decode (zm_code 251) 126 = .ok (.iconst 0, 1) := by decide +kernel
theorem d_251_127 : decode (zm_code 251) 127 = .ok (.ireturn, 1) := by decide +kernel
theorem d_252_0 : decode (zm_code 252) 0 = .ok (.aload_n 0, 1) := by decide +kernel
theorem d_252_1 : decode (zm_code 252) 1 = .ok (.getfield 168, 3) := by decide +kernel
theorem d_252_4 : decode (zm_code 252) 4 = .ok (.iconst 0, 1) := by decide +kernel
theorem d_252_5 : decode (zm_code 252) 5 = .ok (.iaload, 1) := by decide +kernel
theorem d_252_6 : decode (zm_code 252) 6 = .ok (.bipush 60, 2) := by decide +kernel
theorem d_252_8 : decode (zm_code 252) 8 = .ok (.if_icmp .ne 93, 3) := by decide +kernel
theorem d_252_11 : decode (zm_code 252) 11 = .ok (.iconst 0, 1) := by decide +kernel
theorem d_252_12 : decode (zm_code 252) 12 = .ok (.istore 4, 2) := by decide +kernel
theorem d_252_14 : decode (zm_code 252) 14 = .ok (.iload 4, 2) := by decide +kernel
theorem d_252_16 : decode (zm_code 252) 16 = .ok (.bipush 59, 2) := by decide +kernel
theorem d_252_18 : decode (zm_code 252) 18 = .ok (.if_icmp .ge 73, 3) := by decide +kernel
theorem d_252_21 : decode (zm_code 252) 21 = .ok (.aload_n 0, 1) := by decide +kernel
theorem d_252_22 : decode (zm_code 252) 22 = .ok (.getfield 171, 3) := by decide +kernel
theorem d_252_25 : decode (zm_code 252) 25 = .ok (.iload 4, 2) := by decide +kernel
theorem d_252_27 : decode (zm_code 252) 27 = .ok (.aload_n 0, 1) := by decide +kernel
theorem d_252_28 : decode (zm_code 252) 28 = .ok (.getfield 171, 3) := by decide +kernel
theorem d_252_31 : decode (zm_code 252) 31 = .ok (.iload 4, 2) := by decide +kernel
theorem d_252_33 : decode (zm_code 252) 33 = .ok (.iconst 1, 1) := by decide +kernel
theorem d_252_34 : decode (zm_code 252) 34 = .ok (.iadd, 1) := by decide +kernel
theorem d_252_35 : decode (zm_code 252) 35 = .ok (.iaload, 1) := by decide +kernel
theorem d_252_36 : decode (zm_code 252) 36 = .ok (.iastore, 1) := by decide +kernel
theorem d_252_37 : decode (zm_code 252) 37 = .ok (.aload_n 0, 1) := by decide +kernel
theorem d_252_38 : decode (zm_code 252) 38 = .ok (.getfield 174, 3) := by decide +kernel
theorem d_252_41 : decode (zm_code 252) 41 = .ok (.iload 4, 2) := by decide +kernel
theorem d_252_43 : decode (zm_code 252) 43 = .ok (.aload_n 0, 1) := by decide +kernel
theorem d_252_44 : decode (zm_code 252) 44 = .ok (.getfield 174, 3) := by decide +kernel
theorem d_252_47 : decode (zm_code 252) 47 = .ok (.iload 4, 2) := by decide +kernel
theorem d_252_49 : decode (zm_code 252) 49 = .ok (.iconst 1, 1) := by decide +kernel
theorem d_252_50 : decode (zm_code 252) 50 = .ok (.iadd, 1) := by decide +kernel
theorem d_252_51 : decode (zm_code 252) 51 = .ok (.iaload, 1) := by decide +kernel
theorem d_252_52 : decode (zm_code 252) 52 = .ok (.iastore, 1) := by decide +kernel
theorem d_252_53 : decode (zm_code 252) 53 = .ok (.aload_n 0, 1) := by decide +kernel
theorem d_252_54 : decode (zm_code 252) 54 = .ok (.getfield 177, 3) := by decide +kernel
theorem d_252_57 : decode (zm_code 252) 57 = .ok (.iload 4, 2) := by decide +kernel
theorem d_252_59 : decode (zm_code 252) 59 = .ok (.aload_n 0, 1) := by decide +kernel
theorem d_252_60 : decode (zm_code 252) 60 = .ok (.getfield 177, 3) := by decide +kernel
theorem d_252_63 : decode (zm_code 252) 63 = .ok (.iload 4, 2) := by decide +kernel
theorem d_252_65 : decode (zm_code 252) 65 = .ok (.iconst 1, 1) := by decide +kernel
theorem d_252_66 : decode (zm_code 252) 66 = .ok (.iadd, 1) := by decide +kernel
theorem d_252_67 : decode (zm_code 252) 67 = .ok (.iaload, 1) := by decide +kernel
theorem d_252_68 : decode (zm_code 252) 68 = .ok (.iastore, 1) := by decide +kernel
theorem d_252_69 : decode (zm_code 252) 69 = .ok (.aload_n 0, 1) := by decide +kernel
theorem d_252_70 : decode (zm_code 252) 70 = .ok (.getfield 180, 3) := by decide +kernel
theorem d_252_73 : decode (zm_code 252) 73 = .ok (.iload 4, 2) := by decide +kernel
theorem d_252_75 : decode (zm_code 252) 75 = .ok (.aload_n 0, 1) := by decide +kernel
theorem d_252_76 : decode (zm_code 252) 76 = .ok (.getfield 180, 3) := by decide +kernel
theorem d_252_79 : decode (zm_code 252) 79 = .ok (.iload 4, 2) := by decide +kernel
theorem d_252_81 : decode (zm_code 252) 81 = .ok (.iconst 1, 1) := by decide +kernel
theorem d_252_82 : decode (zm_code 252) 82 = .ok (.iadd, 1) := by decide +kernel
theorem d_252_83 : decode (zm_code 252) 83 = .ok (.iaload, 1) := by decide +kernel
theorem d_252_84 : decode (zm_code 252) 84 = .ok (.iastore, 1) := by decide +kernel
theorem d_252_85 : decode (zm_code 252) 85 = .ok (.iinc 4 1, 3) := by decide +kernel
theorem d_252_88 : decode (zm_code 252) 88 = .ok (.goto (-74), 3) := by decide +kernel
theorem d_252_91 : decode (zm_code 252) 91 = .ok (.aload_n 0, 1) := by decide +kernel
theorem d_252_92 : decode (zm_code 252) 92 = .ok (.getfield 168, 3) := by decide +kernel
theorem d_252_95 : decode (zm_code 252) 95 = .ok (.iconst 0, 1) := by decide +kernel
theorem d_252_96 : decode (zm_code 252) 96 = .ok (.dup2, 1) := by decide +kernel
theorem d_252_97 : decode (zm_code 252) 97 = .ok (.iaload, 1) := by decide +kernel
theorem d_252_98 : decode (zm_code 252) 98 = .ok (.iconst 1, 1) := by decide +kernel
theorem d_252_99 : decode (zm_code 252) 99 = .ok (.isub, 1) := by decide +kernel
theorem d_252_100 : decode (zm_code 252) 100 = .ok (.iastore, 1) := by decide +kernel
theorem d_252_101 : decode (zm_code 252) 101 = .ok (.aload_n 0, 1) := by decide +kernel
theorem d_252_102 : decode (zm_code 252) 102 = .ok (.getfield 168, 3) := by decide +kernel
theorem d_252_105 : decode (zm_code 252) 105 = .ok (.iconst 0, 1) := by decide +kernel
theorem d_252_106 : decode (zm_code 252) 106 = .ok (.iaload, 1) := by decide +kernel
theorem d_252_107 : decode (zm_code 252) 107 = .ok (.istore 4, 2) := by decide +kernel
theorem d_252_109 : decode (zm_code 252) 109 = .ok (.aload_n 0, 1) := by decide +kernel
theorem d_252_110 : decode (zm_code 252) 110 = .ok (.getfield 171, 3) := by decide +kernel
theorem d_252_113 : decode (zm_code 252) 113 = .ok (.iload 4, 2) := by decide +kernel
theorem d_252_115 : decode (zm_code 252) 115 = .ok (.iload_n 1, 1) := by decide +kernel
theorem d_252_116 : decode (zm_code 252) 116 = .ok (.iastore, 1) := by decide +kernel
theorem d_252_117 : decode (zm_code 252) 117 = .ok (.aload_n 0, 1) := by decide +kernel
theorem d_252_118 : decode (zm_code 252) 118 = .ok (.getfield 174, 3) := by decide +kernel
theorem d_252_121 : decode (zm_code 252) 121 = .ok (.iload 4, 2) := by decide +kernel
theorem d_252_123 : decode (zm_code 252) 123 = .ok (.iload_n 2, 1) := by decide +kernel
theorem d_252_124 : decode (zm_code 252) 124 = .ok (.iastore, 1) := by decide +kernel
theorem d_252_125 : decode (zm_code 252) 125 = .ok (.aload_n 0, 1) := by decide +kernel
theorem d_252_126 : decode (zm_code 252) 126 = .ok (.getfield 177, 3) := by decide +kernel
theorem d_252_129 : decode (zm_code 252) 129 = .ok (.iload 4, 2) := by decide +kernel
theorem d_252_131 : decode (zm_code 252) 131 = .ok (.aload_n 0, 1) := by decide +kernel
theorem d_252_132 : decode (zm_code 252) 132 = .ok (.getfield 153, 3) := by decide +kernel
theorem d_252_135 : decode (zm_code 252) 135 = .ok (.iconst 0, 1) := by decide +kernel
theorem d_252_136 : decode (zm_code 252) 136 = .ok (.iaload, 1) := by decide +kernel
theorem d_252_137 : decode (zm_code 252) 137 = .ok (.iastore, 1) := by decide +kernel
theorem d_252_138 : decode (zm_code 252) 138 = .ok (.aload_n 0, 1) := by decide +kernel
theorem d_252_139 : decode (zm_code 252) 139 = .ok (.getfield 180, 3) := by decide +kernel
theorem d_252_142 : decode (zm_code 252) 142 = .ok (.iload 4, 2) := by decide +kernel
theorem d_252_144 : decode (zm_code 252) 144 = .ok (.iload_n 3, 1) := by decide +kernel
theorem d_252_145 : decode (zm_code 252) 145 = .ok (.iastore, 1) := by decide +kernel
theorem d_252_146 : decode (zm_code 252) 146 = .ok (.aload_n 0, 1) := by decide +kernel
theorem d_252_147 : decode (zm_code 252) 147 = .ok (.getfield 168, 3) := by decide +kernel
theorem d_252_150 : decode (zm_code 252) 150 = .ok (.iconst 0, 1) := by decide +kernel
theorem d_252_151 : decode (zm_code 252) 151 = .ok (.dup2, 1) := by decide +kernel
theorem d_252_152 : decode (zm_code 252) 152 = .ok (.iaload, 1) := by decide +kernel
theorem d_252_153 : decode (zm_code 252) 153 = .ok (.iconst 1, 1) := by decide +kernel
theorem d_252_154 : decode (zm_code 252) 154 = .ok (.iadd, 1) := by decide +kernel
theorem d_252_155 : decode (zm_code 252) 155 = .ok (.iastore, 1) := by decide +kernel
theorem d_252_156 : decode (zm_code 252) 156 = .ok (.return_, 1) := by decide +kernel
theorem d_253_0 : decode (zm_code 253) 0 = .ok (.aload_n 0, 1) := by decide +kernel
theorem d_253_1 : decode (zm_code 253) 1 = .ok (.getfield 153, 3) := by decide +kernel
theorem d_253_4 : decode (zm_code 253) 4 = .ok (.iconst 0, 1) := by decide +kernel
theorem d_253_5 : decode (zm_code 253) 5 = .ok (.iaload, 1) := by decide +kernel
theorem d_253_6 : decode (zm_code 253) 6 = .ok (.bipush 99, 2) := by decide +kernel
theorem d_253_8 : decode (zm_code 253) 8 = .ok (.if_icmp .ne 9, 3) := by decide +kernel
theorem d_253_11 : decode (zm_code 253) 11 = .ok (.aload_n 0, 1) := by decide +kernel
theorem d_253_12 : decode (zm_code 253) 12 = .ok (.iconst 3, 1) := by decide +kernel
theorem d_253_13 : decode (zm_code 253) 13 = .ok (.invokevirtual 249, 3) := by decide +kernel
theorem d_253_16 : decode (zm_code 253) 16 = .ok (.ireturn, 1) := by decide +kernel
theorem d_253_17 : decode (zm_code 253) 17 = .ok (.aload_n 0, 1) := by decide +kernel
theorem d_253_18 : decode (zm_code 253) 18 = .ok (.invokevirtual 573, 3) := by decide +kernel
theorem d_253_21 : decode (zm_code 253) 21 = .ok (.aload_n 0, 1) := by decide +kernel
theorem d_253_22 : decode (zm_code 253) 22 = .ok (.getfield 153, 3) := by decide +kernel
theorem d_253_25 : decode (zm_code 253) 25 = .ok (.iconst 0, 1) := by decide +kernel
theorem d_253_26 : decode (zm_code 253) 26 = .ok (.dup2, 1) := by decide +kernel
theorem d_253_27 : decode (zm_code 253) 27 = .ok (.iaload, 1) := by decide +kernel
theorem d_253_28 : decode (zm_code 253) 28 = .ok (.iconst 1, 1) := by decide +kernel
theorem d_253_29 : decode (zm_code 253) 29 = .ok (.iadd, 1) := by decide +kernel
theorem d_253_30 : decode (zm_code 253) 30 = .ok (.iastore, 1) := by decide +kernel
theorem d_253_31 : decode (zm_code 253) 31 = .ok (.aload_n 0, 1) := by decide +kernel
theorem d_253_32 : decode (zm_code 253) 32 = .ok (.getfield 153, 3) := by decide +kernel
theorem d_253_35 : decode (zm_code 253) 35 = .ok (.iconst 0, 1) := by decide +kernel
theorem d_253_36 : decode (zm_code 253) 36 = .ok (.iaload, 1) := by decide +kernel
theorem d_253_37 : decode (zm_code 253) 37 = .ok (.ireturn, 1) := by decide +kernel
theorem d_254_0 : decode (zm_code 254) 0 = .ok (.aload_n 0, 1) := by decide +kernel
theorem d_254_1 : decode (zm_code 254) 1 = .ok (.iload_n 1, 1) := by decide +kernel
theorem d_254_2 : decode (zm_code 254) 2 = .ok (.invokevirtual 526, 3) := by decide +kernel
theorem d_254_5 : decode (zm_code 254) 5 = .ok (.ifCond .eq 35, 3) := by decide +kernel
theorem d_254_8 : decode (zm_code 254) 8 = .ok (.aload_n 0, 1) := by decide +kernel
theorem d_254_9 : decode (zm_code 254) 9 = .ok (.iload_n 2, 1) := by decide +kernel
theorem d_254_10 : decode (zm_code 254) 10 = .ok (.invokevirtual 523, 3) := by decide +kernel
theorem d_254_13 : decode (zm_code 254) 13 = .ok (.ifCond .eq 27, 3) := by decide +kernel
theorem d_254_16 : decode (zm_code 254) 16 = .ok (.iload_n 3, 1) := by decide +kernel
theorem d_254_17 : decode (zm_code 254) 17 = .ok (.iconst 1, 1) := by decide +kernel
theorem d_254_18 : decode (zm_code 254) 18 = .ok (.bipush 30, 2) := by decide +kernel
theorem d_254_20 : decode (zm_code 254) 20 = .ok (.invokestatic 335, 3) := by decide +kernel
theorem d_254_23 : decode (zm_code 254) 23 = .ok (.ifCond .eq 17, 3) := by decide +kernel
theorem d_254_26 : decode (zm_code 254) 26 = .ok (.aload_n 0, 1) := by decide +kernel
theorem d_254_27 : decode (zm_code 254) 27 = .ok (.iconst 0, 1) := by decide +kernel
theorem d_254_28 : decode (zm_code 254) 28 = .ok (.iload_n 1, 1) := by decide +kernel
theorem d_254_29 : decode (zm_code 254) 29 = .ok (.iload_n 2, 1) := by decide +kernel
theorem d_254_30 : decode (zm_code 254) 30 = .ok (.invokevirtual 460, 3) := by decide +kernel
theorem d_254_33 : decode (zm_code 254) 33 = .ok (.bipush 99, 2) := by decide +kernel
theorem d_254_35 : decode (zm_code 254) 35 = .ok (.iload_n 3, 1) := by decide +kernel
theorem d_254_36 : decode (zm_code 254) 36 = .ok (.isub, 1) := by decide +kernel
theorem d_254_37 : decode (zm_code 254) 37 = .ok (.if_icmp .le 9, 3) := by decide +kernel
theorem d_254_40 : decode (zm_code 254) 40 = .ok (.aload_n 0, 1) := by decide +kernel
theorem d_254_41 : decode (zm_code 254) 41 = .ok (.iconst 3, 1) := by decide +kernel
theorem d_254_42 : decode (zm_code 254) 42 = .ok (.invokevirtual 249, 3) := by decide +kernel
theorem d_254_45 : decode (zm_code 254) 45 = .ok (.ireturn, 1) := by decide +kernel
theorem d_254_46 : decode (zm_code 254) 46 = .ok (.aload_n 0, 1) := by decide +kernel
theorem d_254_47 : decode (zm_code 254) 47 = .ok (.invokevirtual 573, 3) := by decide +kernel
theorem d_254_50 : decode (zm_code 254) 50 = .ok (.aload_n 0, 1) := by decide +kernel
theorem d_254_51 : decode (zm_code 254) 51 = .ok (.getfield 159, 3) := by decide +kernel
theorem d_254_54 : decode (zm_code 254) 54 = .ok (.bipush 8, 2) := by decide +kernel
theorem d_254_56 : decode (zm_code 254) 56 = .ok (.iload_n 1, 1) := by decide +kernel
theorem d_254_57 : decode (zm_code 254) 57 = .ok (.imul, 1) := by decide +kernel
theorem d_254_58 : decode (zm_code 254) 58 = .ok (.iload_n 2, 1) := by decide +kernel
theorem d_254_59 : decode (zm_code 254) 59 = .ok (.iadd, 1) := by decide +kernel
theorem d_254_60 : decode (zm_code 254) 60 = .ok (.dup2, 1) := by decide +kernel
theorem d_254_61 : decode (zm_code 254) 61 = .ok (.iaload, 1) := by decide +kernel
theorem d_254_62 : decode (zm_code 254) 62 = .ok (.iload_n 3, 1) := by decide +kernel
theorem d_254_63 : decode (zm_code 254) 63 = .ok (.iadd, 1) := by decide +kernel
theorem d_254_64 : decode (zm_code 254) 64 = .ok (.iastore, 1) := by decide +kernel
theorem d_254_65 : decode (zm_code 254) 65 = .ok (.aload_n 0, 1) := by decide +kernel
theorem d_254_66 : decode (zm_code 254) 66 = .ok (.iconst 0, 1) := by decide +kernel
theorem d_254_67 : decode (zm_code 254) 67 = .ok (.iload_n 1, 1) := by decide +kernel
theorem d_254_68 : decode (zm_code 254) 68 = .ok (.iload_n 2, 1) := by decide +kernel
theorem d_254_69 : decode (zm_code 254) 69 = .ok (.invokevirtual 460, 3) := by decide +kernel
theorem d_254_72 : decode (zm_code 254) 72 = .ok (.ireturn, 1) := by decide +kernel
theorem d_255_0 : decode (zm_code 255) 0 = .ok (.aload_n 0, 1) := by decide +kernel
theorem d_255_1 : decode (zm_code 255) 1 = .ok (.iload_n 1, 1) := by decide +kernel
theorem d_255_2 : decode (zm_code 255) 2 = .ok (.invokevirtual 529, 3) := by decide +kernel
theorem d_255_5 : decode (zm_code 255) 5 = .ok (.ifCond .eq 45, 3) := by decide +kernel
theorem d_255_8 : decode (zm_code 255) 8 = .ok (.aload_n 0, 1) := by decide +kernel
theorem d_255_9 : decode (zm_code 255) 9 = .ok (.iload_n 2, 1) := by decide +kernel
theorem d_255_10 : decode (zm_code 255) 10 = .ok (.invokevirtual 523, 3) := by decide +kernel
theorem d_255_13 : decode (zm_code 255) 13 = .ok (.ifCond .eq 37, 3) := by decide +kernel
theorem d_255_16 : decode (zm_code 255) 16 = .ok (.aload_n 0, 1) := by decide +kernel
theorem d_255_17 : decode (zm_code 255) 17 = .ok (.getfield 63, 3) := by decide +kernel
theorem d_255_20 : decode (zm_code 255) 20 = .ok (.aload_n 0, 1) := by decide +kernel
theorem d_255_21 : decode (zm_code 255) 21 = .ok (.getfield 51, 3) := by decide +kernel
theorem d_255_24 : decode (zm_code 255) 24 = .ok (.iaload, 1) := by decide +kernel
theorem d_255_25 : decode (zm_code 255) 25 = .ok (.ifCond .eq 25, 3) := by decide +kernel
theorem d_255_28 : decode (zm_code 255) 28 = .ok (.aload_n 0, 1) := by decide +kernel
theorem d_255_29 : decode (zm_code 255) 29 = .ok (.iconst 0, 1) := by decide +kernel
theorem d_255_30 : decode (zm_code 255) 30 = .ok (.iload_n 1, 1) := by decide +kernel
theorem d_255_31 : decode (zm_code 255) 31 = .ok (.iload_n 2, 1) := by decide +kernel
theorem d_255_32 : decode (zm_code 255) 32 = .ok (.invokevirtual 512, 3) := by decide +kernel
theorem d_255_35 : decode (zm_code 255) 35 = .ok (.ifCond .eq 15, 3) := by decide +kernel
theorem d_255_38 : decode (zm_code 255) 38 = .ok (.aload_n 0, 1) := by decide +kernel
theorem d_255_39 : decode (zm_code 255) 39 = .ok (.iconst 0, 1) := by decide +kernel
theorem d_255_40 : decode (zm_code 255) 40 = .ok (.iconst 0, 1) := by decide +kernel
theorem d_255_41 : decode (zm_code 255) 41 = .ok (.iload_n 2, 1) := by decide +kernel
theorem d_255_42 : decode (zm_code 255) 42 = .ok (.invokevirtual 460, 3) := by decide +kernel
theorem d_255_45 : decode (zm_code 255) 45 = .ok (.bipush 99, 2) := by decide +kernel
theorem d_255_47 : decode (zm_code 255) 47 = .ok (.if_icmp .ne 17, 3) := by decide +kernel
theorem d_255_50 : decode (zm_code 255) 50 = .ok (.aload_n 0, 1) := by decide +kernel
theorem d_255_51 : decode (zm_code 255) 51 = .ok (.iconst 3, 1) := by decide +kernel
theorem d_255_52 : decode (zm_code 255) 52 = .ok (.invokevirtual 249, 3) := by decide +kernel
theorem d_255_55 : decode (zm_code 255) 55 = .ok (.ifCond .lt 7, 3) := by decide +kernel
theorem d_255_58 : decode (zm_code 255) 58 = .ok (.iconst 1, 1) := by decide +kernel
theorem d_255_59 : decode (zm_code 255) 59 = .ok (.goto 4, 3) := by decide +kernel
theorem d_255_62 : decode (zm_code 255) 62 = .ok (.iconst 0, 1) := by decide +kernel
theorem d_255_63 : decode (zm_code 255) 63 = .ok (.ireturn, 1) := by decide +kernel
theorem d_255_64 : decode (zm_code 255) 64 = .ok (.aload_n 0, 1) := by decide +kernel
theorem d_255_65 : decode (zm_code 255) 65 = .ok (.invokevirtual 573, 3) := by decide +kernel
theorem d_255_68 : decode (zm_code 255) 68 = .ok (.aload_n 0, 1) := by decide +kernel
theorem d_255_69 : decode (zm_code 255) 69 = .ok (.getfield 165, 3) := by decide +kernel
theorem d_255_72 : decode (zm_code 255) 72 = .ok (.bipush 8, 2) := by decide +kernel
theorem d_255_74 : decode (zm_code 255) 74 = .ok (.iload_n 1, 1) := by decide +kernel
theorem d_255_75 : decode (zm_code 255) 75 = .ok (.imul, 1) := by decide +kernel
theorem d_255_76 : decode (zm_code 255) 76 = .ok (.iload_n 2, 1) := by decide +kernel
theorem d_255_77 : decode (zm_code 255) 77 = .ok (.iadd, 1) := by decide +kernel
theorem d_255_78 : decode (zm_code 255) 78 = .ok (.dup2, 1) := by decide +kernel
theorem d_255_79 : decode (zm_code 255) 79 = .ok (.iaload, 1) := by decide +kernel
theorem d_255_80 : decode (zm_code 255) 80 = .ok (.iconst 1, 1) := by decide +kernel
theorem d_255_81 : decode (zm_code 255) 81 = .ok (.isub, 1) := by decide +kernel
theorem d_255_82 : decode (zm_code 255) 82 = .ok (.iastore, 1) := by decide +kernel
theorem d_255_83 : decode (zm_code 255) 83 = .ok (.aload_n 0, 1) := by decide +kernel
theorem d_255_84 : decode (zm_code 255) 84 = .ok (.getfield 159, 3) := by decide +kernel
theorem d_255_87 : decode (zm_code 255) 87 = .ok (.iload_n 2, 1) := by decide +kernel
theorem d_255_88 : decode (zm_code 255) 88 = .ok (.dup2, 1) := by decide +kernel
theorem d_255_89 : decode (zm_code 255) 89 = .ok (.iaload, 1) := by decide +kernel
theorem d_255_90 : decode (zm_code 255) 90 = .ok (.iconst 1, 1) := by decide +kernel
theorem d_255_91 : decode (zm_code 255) 91 = .ok (.iadd, 1) := by decide +kernel
theorem d_255_92 : decode (zm_code 255) 92 = .ok (.iastore, 1) := by decide +kernel
theorem d_255_93 : decode (zm_code 255) 93 = .ok (.iconst 1, 1) := by decide +kernel
theorem d_255_94 : decode (zm_code 255) 94 = .ok (.ireturn, 1) := by decide +kernel
theorem d_256_0 : decode (zm_code 256) 0 = .ok (.aload_n 0, 1) := by decide +kernel
theorem d_256_1 : decode (zm_code 256) 1 = .ok (.iload_n 1, 1) := by decide +kernel
theorem d_256_2 : decode (zm_code 256) 2 = .ok (.invokevirtual 529, 3) := by decide +kernel
theorem d_256_5 : decode (zm_code 256) 5 = .ok (.ifCond .eq 58, 3) := by decide +kernel
theorem d_256_8 : decode (zm_code 256) 8 = .ok (.aload_n 0, 1) := by decide +kernel
theorem d_256_9 : decode (zm_code 256) 9 = .ok (.iload_n 3, 1) := by decide +kernel
theorem d_256_10 : decode (zm_code 256) 10 = .ok (.invokevirtual 529, 3) := by decide +kernel
theorem d_256_13 : decode (zm_code 256) 13 = .ok (.ifCond .eq 50, 3) := by decide +kernel
theorem d_256_16 : decode (zm_code 256) 16 = .ok (.iload_n 1, 1) := by decide +kernel
theorem d_256_17 : decode (zm_code 256) 17 = .ok (.iload_n 3, 1) := by decide +kernel
theorem d_256_18 : decode (zm_code 256) 18 = .ok (.if_icmp .eq 45, 3) := by decide +kernel
theorem d_256_21 : decode (zm_code 256) 21 = .ok (.aload_n 0, 1) := by decide +kernel
theorem d_256_22 : decode (zm_code 256) 22 = .ok (.iload_n 2, 1) := by decide +kernel
theorem d_256_23 : decode (zm_code 256) 23 = .ok (.invokevirtual 523, 3) := by decide +kernel
theorem d_256_26 : decode (zm_code 256) 26 = .ok (.ifCond .eq 37, 3) := by decide +kernel
theorem d_256_29 : decode (zm_code 256) 29 = .ok (.aload_n 0, 1) := by decide +kernel
theorem d_256_30 : decode (zm_code 256) 30 = .ok (.iload 4, 2) := by decide +kernel
theorem d_256_32 : decode (zm_code 256) 32 = .ok (.invokevirtual 523, 3) := by decide +kernel
theorem d_256_35 : decode (zm_code 256) 35 = .ok (.ifCond .eq 28, 3) := by decide +kernel
theorem d_256_38 : decode (zm_code 256) 38 = .ok (.aload_n 0, 1) := by decide +kernel
theorem d_256_39 : decode (zm_code 256) 39 = .ok (.iconst 0, 1) := by decide +kernel
theorem d_256_40 : decode (zm_code 256) 40 = .ok (.iload_n 1, 1) := by decide +kernel
theorem d_256_41 : decode (zm_code 256) 41 = .ok (.iload_n 2, 1) := by decide +kernel
theorem d_256_42 : decode (zm_code 256) 42 = .ok (.invokevirtual 512, 3) := by decide +kernel
theorem d_256_45 : decode (zm_code 256) 45 = .ok (.ifCond .le 18, 3) := by decide +kernel
theorem d_256_48 : decode (zm_code 256) 48 = .ok (.aload_n 0, 1) := by decide +kernel
theorem d_256_49 : decode (zm_code 256) 49 = .ok (.iconst 0, 1) := by decide +kernel
theorem d_256_50 : decode (zm_code 256) 50 = .ok (.iload_n 3, 1) := by decide +kernel
theorem d_256_51 : decode (zm_code 256) 51 = .ok (.iload 4, 2) := by decide +kernel
theorem d_256_53 : decode (zm_code 256) 53 = .ok (.invokevirtual 512, 3) := by decide +kernel
theorem d_256_56 : decode (zm_code 256) 56 = .ok (.ifCond .le 7, 3) := by decide +kernel
theorem d_256_59 : decode (zm_code 256) 59 = .ok (.iconst 1, 1) := by decide +kernel
theorem d_256_60 : decode (zm_code 256) 60 = .ok (.goto 4, 3) := by decide +kernel
theorem d_256_63 : decode (zm_code 256) 63 = .ok (.iconst 0, 1) := by decide +kernel
theorem d_256_64 : decode (zm_code 256) 64 = .ok (.istore 5, 2) := by decide +kernel
theorem d_256_66 : decode (zm_code 256) 66 = .ok (.iload 5, 2) := by decide +kernel
theorem d_256_68 : decode (zm_code 256) 68 = .ok (.ifCond .ne 17, 3) := by decide +kernel
theorem d_256_71 : decode (zm_code 256) 71 = .ok (.aload_n 0, 1) := by decide +kernel
theorem d_256_72 : decode (zm_code 256) 72 = .ok (.iconst 3, 1) := by decide +kernel
theorem d_256_73 : decode (zm_code 256) 73 = .ok (.invokevirtual 249, 3) := by decide +kernel
theorem d_256_76 : decode (zm_code 256) 76 = .ok (.ifCond .lt 7, 3) := by decide +kernel
theorem d_256_79 : decode (zm_code 256) 79 = .ok (.iconst 1, 1) := by decide +kernel
theorem d_256_80 : decode (zm_code 256) 80 = .ok (.goto 4, 3) := by decide +kernel
theorem d_256_83 : decode (zm_code 256) 83 = .ok (.iconst 0, 1) := by decide +kernel
theorem d_256_84 : decode (zm_code 256) 84 = .ok (.ireturn, 1) := by decide +kernel
theorem d_256_85 : decode (zm_code 256) 85 = .ok (.aload_n 0, 1) := by decide +kernel
theorem d_256_86 : decode (zm_code 256) 86 = .ok (.invokevirtual 573, 3) := by decide +kernel
theorem d_256_89 : decode (zm_code 256) 89 = .ok (.aload_n 0, 1) := by decide +kernel
theorem d_256_90 : decode (zm_code 256) 90 = .ok (.getfield 165, 3) := by decide +kernel
theorem d_256_93 : decode (zm_code 256) 93 = .ok (.bipush 8, 2) := by decide +kernel
theorem d_256_95 : decode (zm_code 256) 95 = .ok (.iload_n 1, 1) := by decide +kernel
theorem d_256_96 : decode (zm_code 256) 96 = .ok (.imul, 1) := by decide +kernel
theorem d_256_97 : decode (zm_code 256) 97 = .ok (.iload_n 2, 1) := by decide +kernel
theorem d_256_98 : decode (zm_code 256) 98 = .ok (.iadd, 1) := by decide +kernel
theorem d_256_99 : decode (zm_code 256) 99 = .ok (.dup2, 1) := by decide +kernel
theorem d_256_100 : decode (zm_code 256) 100 = .ok (.iaload, 1) := by decide +kernel
theorem d_256_101 : decode (zm_code 256) 101 = .ok (.iconst 1, 1) := by decide +kernel
theorem d_256_102 : decode (zm_code 256) 102 = .ok (.isub, 1) := by decide +kernel
theorem d_256_103 : decode (zm_code 256) 103 = .ok (.iastore, 1) := by decide +kernel
theorem d_256_104 : decode (zm_code 256) 104 = .ok (.aload_n 0, 1) := by decide +kernel
theorem d_256_105 : decode (zm_code 256) 105 = .ok (.getfield 165, 3) := by decide +kernel
theorem d_256_108 : decode (zm_code 256) 108 = .ok (.bipush 8, 2) := by decide +kernel
theorem d_256_110 : decode (zm_code 256) 110 = .ok (.iload_n 3, 1) := by decide +kernel
theorem d_256_111 : decode (zm_code 256) 111 = .ok (.imul, 1) := by decide +kernel
theorem d_256_112 : decode (zm_code 256) 112 = .ok (.iload_n 2, 1) := by decide +kernel
theorem d_256_113 : decode (zm_code 256) 113 = .ok (.iadd, 1) := by decide +kernel
theorem d_256_114 : decode (zm_code 256) 114 = .ok (.dup2, 1) := by decide +kernel
theorem d_256_115 : decode (zm_code 256) 115 = .ok (.iaload, 1) := by decide +kernel
theorem d_256_116 : decode (zm_code 256) 116 = .ok (.iconst 1, 1) := by decide +kernel
theorem d_256_117 : decode (zm_code 256) 117 = .ok (.iadd, 1) := by decide +kernel
theorem d_256_118 : decode (zm_code 256) 118 = .ok (.iastore, 1) := by decide +kernel
theorem d_256_119 : decode (zm_code 256) 119 = .ok (.aload_n 0, 1) := by decide +kernel
theorem d_256_120 : decode (zm_code 256) 120 = .ok (.getfield 165, 3) := by decide +kernel
theorem d_256_123 : decode (zm_code 256) 123 = .ok (.bipush 8, 2) := by decide +kernel
theorem d_256_125 : decode (zm_code 256) 125 = .ok (.iload_n 3, 1) := by decide +kernel
theorem d_256_126 : decode (zm_code 256) 126 = .ok (.imul, 1) := by decide +kernel
theorem d_256_127 : decode (zm_code 256) 127 = .ok (.iload 4, 2) := by decide +kernel
theorem d_256_129 : decode (zm_code 256) 129 = .ok (.iadd, 1) := by decide +kernel
theorem d_256_130 : decode (zm_code 256) 130 = .ok (.dup2, 1) := by decide +kernel
theorem d_256_131 : decode (zm_code 256) 131 = .ok (.iaload, 1) := by decide +kernel
theorem d_256_132 : decode (zm_code 256) 132 = .ok (.iconst 1, 1) := by decide +kernel
theorem d_256_133 : decode (zm_code 256) 133 = .ok (.isub, 1) := by decide +kernel
theorem d_256_134 : decode (zm_code 256) 134 = .ok (.iastore, 1) := by decide +kernel
theorem d_256_135 : decode (zm_code 256) 135 = .ok (.aload_n 0, 1) := by decide +kernel
theorem d_256_136 : decode (zm_code 256) 136 = .ok (.getfield 165, 3) := by decide +kernel
theorem d_256_139 : decode (zm_code 256) 139 = .ok (.bipush 8, 2) := by decide +kernel
theorem d_256_141 : decode (zm_code 256) 141 = .ok (.iload_n 1, 1) := by decide +kernel
theorem d_256_142 : decode (zm_code 256) 142 = .ok (.imul, 1) := by decide +kernel
theorem d_256_143 : decode (zm_code 256) 143 = .ok (.iload 4, 2) := by decide +kernel
theorem d_256_145 : decode (zm_code 256) 145 = .ok (.iadd, 1) := by decide +kernel
theorem d_256_146 : decode (zm_code 256) 146 = .ok (.dup2, 1) := by decide +kernel
theorem d_256_147 : decode (zm_code 256) 147 = .ok (.iaload, 1) := by decide +kernel
theorem d_256_148 : decode (zm_code 256) 148 = .ok (.iconst 1, 1) := by decide +kernel
theorem d_256_149 : decode (zm_code 256) 149 = .ok (.iadd, 1) := by decide +kernel
theorem d_256_150 : decode (zm_code 256) 150 = .ok (.iastore, 1) := by decide +kernel
theorem d_256_151 : decode (zm_code 256) 151 = .ok (.iconst 1, 1) := by decide +kernel
theorem d_256_152 : decode (zm_code 256) 152 = .ok (.ireturn, 1) := by decide +kernel
theorem d_257_0 : decode (zm_code 257) 0 = .ok (.iload_n 1, 1) := by decide +kernel
theorem d_257_1 : decode (zm_code 257) 1 = .ok (.iconst 1, 1) := by decide +kernel
theorem d_257_2 : decode (zm_code 257) 2 = .ok (.bipush 20, 2) := by decide +kernel
theorem d_257_4 : decode (zm_code 257) 4 = .ok (.invokestatic 335, 3) := by decide +kernel
theorem d_257_7 : decode (zm_code 257) 7 = .ok (.ifCond .ne 9, 3) := by decide +kernel
theorem d_257_10 : decode (zm_code 257) 10 = .ok (.aload_n 0, 1) := by decide +kernel
theorem d_257_11 : decode (zm_code 257) 11 = .ok (.iconst 3, 1) := by decide +kernel
theorem d_257_12 : decode (zm_code 257) 12 = .ok (.invokevirtual 249, 3) := by decide +kernel
theorem d_257_15 : decode (zm_code 257) 15 = .ok (.ireturn, 1) := by decide +kernel
theorem d_257_16 : decode (zm_code 257) 16 = .ok (.aload_n 0, 1) := by decide +kernel
theorem d_257_17 : decode (zm_code 257) 17 = .ok (.invokevirtual 573, 3) := by decide +kernel
theorem d_257_20 : decode (zm_code 257) 20 = .ok (.aload_n 0, 1) := by decide +kernel
theorem d_257_21 : decode (zm_code 257) 21 = .ok (.invokevirtual 532, 3) := by decide +kernel
theorem d_257_24 : decode (zm_code 257) 24 = .ok (.iconst 0, 1) := by decide +kernel
theorem d_257_25 : decode (zm_code 257) 25 = .ok (.istore_n 2, 1) := by decide +kernel
theorem d_257_26 : decode (zm_code 257) 26 = .ok (.iconst 1, 1) := by decide +kernel
theorem d_257_27 : decode (zm_code 257) 27 = .ok (.istore_n 3, 1) := by decide +kernel
theorem d_257_28 : decode (zm_code 257) 28 = .ok (.iconst 0, 1) := by decide +kernel
theorem d_257_29 : decode (zm_code 257) 29 = .ok (.istore 4, 2) := by decide +kernel
theorem d_257_31 : decode (zm_code 257) 31 = .ok (.iload 4, 2) := by decide +kernel
theorem d_257_33 : decode (zm_code 257) 33 = .ok (.iload_n 1, 1) := by decide +kernel
theorem d_257_34 : decode (zm_code 257) 34 = .ok (.if_icmp .ge 88, 3) := by decide +kernel
theorem d_257_37 : decode (zm_code 257) 37 = .ok (.iload_n 3, 1) := by decide +kernel
theorem d_257_38 : decode (zm_code 257) 38 = .ok (.ifCond .eq 84, 3) := by decide +kernel
theorem d_257_41 : decode (zm_code 257) 41 = .ok (.iconst 0, 1) := by decide +kernel
theorem d_257_42 : decode (zm_code 257) 42 = .ok (.istore_n 3, 1) := by decide +kernel
theorem d_257_43 : decode (zm_code 257) 43 = .ok (.iconst 0, 1) := by decide +kernel
theorem d_257_44 : decode (zm_code 257) 44 = .ok (.istore 5, 2) := by decide +kernel
theorem d_257_46 : decode (zm_code 257) 46 = .ok (.iload 5, 2) := by decide +kernel
theorem d_257_48 : decode (zm_code 257) 48 = .ok (.aload_n 0, 1) := by decide +kernel
theorem d_257_49 : decode (zm_code 257) 49 = .ok (.getfield 69, 3) := by decide +kernel
theorem d_257_52 : decode (zm_code 257) 52 = .ok (.aload_n 0, 1) := by decide +kernel
theorem d_257_53 : decode (zm_code 257) 53 = .ok (.getfield 51, 3) := by decide +kernel
theorem d_257_56 : decode (zm_code 257) 56 = .ok (.iaload, 1) := by decide +kernel
theorem d_257_57 : decode (zm_code 257) 57 = .ok (.if_icmp .ge 38, 3) := by decide +kernel
theorem d_257_60 : decode (zm_code 257) 60 = .ok (.aload_n 0, 1) := by decide +kernel
theorem d_257_61 : decode (zm_code 257) 61 = .ok (.iload 5, 2) := by decide +kernel
theorem d_257_63 : decode (zm_code 257) 63 = .ok (.aload_n 0, 1) := by decide +kernel
theorem d_257_64 : decode (zm_code 257) 64 = .ok (.iconst 0, 1) := by decide +kernel
theorem d_257_65 : decode (zm_code 257) 65 = .ok (.invokevirtual 515, 3) := by decide +kernel
theorem d_257_68 : decode (zm_code 257) 68 = .ok (.invokevirtual 545, 3) := by decide +kernel
theorem d_257_71 : decode (zm_code 257) 71 = .ok (.ifCond .ne 6, 3) := by decide +kernel
theorem d_257_74 : decode (zm_code 257) 74 = .ok (.goto 15, 3) := by decide +kernel
theorem d_257_77 : decode (zm_code 257) 77 = .ok (.aload_n 0, 1) := by decide +kernel
theorem d_257_78 : decode (zm_code 257) 78 = .ok (.iload 5, 2) := by decide +kernel
theorem d_257_80 : decode (zm_code 257) 80 = .ok (.invokevirtual 576, 3) := by decide +kernel
theorem d_257_83 : decode (zm_code 257) 83 = .ok (.pop, 1) := by decide +kernel
theorem d_257_84 : decode (zm_code 257) 84 = .ok (.iinc 2 1, 3) := by decide +kernel
theorem d_257_87 : decode (zm_code 257) 87 = .ok (.iconst 1, 1) := by decide +kernel
theorem d_257_88 : decode (zm_code 257) 88 = .ok (.istore_n 3, 1) := by decide +kernel
theorem d_257_89 : decode (zm_code 257) 89 = .ok (.iinc 5 1, 3) := by decide +kernel
theorem d_257_92 : decode (zm_code 257) 92 = .ok (.goto (-46), 3) := by decide +kernel
theorem d_257_95 : decode (zm_code 257) 95 = .ok (.aload_n 0, 1) := by decide +kernel
theorem d_257_96 : decode (zm_code 257) 96 = .ok (.getfield 153, 3) := by decide +kernel
theorem d_257_99 : decode (zm_code 257) 99 = .ok (.iconst 0, 1) := by decide +kernel
theorem d_257_100 : decode (zm_code 257) 100 = .ok (.iaload, 1) := by decide +kernel
theorem d_257_101 : decode (zm_code 257) 101 = .ok (.bipush 99, 2) := by decide +kernel
theorem d_257_103 : decode (zm_code 257) 103 = .ok (.if_icmp .ge 13, 3) := by decide +kernel
theorem d_257_106 : decode (zm_code 257) 106 = .ok (.aload_n 0, 1) := by decide +kernel
theorem d_257_107 : decode (zm_code 257) 107 = .ok (.getfield 153, 3) := by decide +kernel
theorem d_257_110 : decode (zm_code 257) 110 = .ok (.iconst 0, 1) := by decide +kernel
theorem d_257_111 : decode (zm_code 257) 111 = .ok (.dup2, 1) := by decide +kernel
theorem d_257_112 : decode (zm_code 257) 112 = .ok (.iaload, 1) := by decide +kernel
theorem d_257_113 : decode (zm_code 257) 113 = .ok (.iconst 1, 1) := by decide +kernel
theorem d_257_114 : decode (zm_code 257) 114 = .ok (.iadd, 1) := by decide +kernel
theorem d_257_115 : decode (zm_code 257) 115 = .ok (.iastore, 1) := by decide +kernel
theorem d_257_116 : decode (zm_code 257) 116 = .ok (.iinc 4 1, 3) := by decide +kernel
theorem d_257_119 : decode (zm_code 257) 119 = .ok (.goto (-88), 3) := by decide +kernel
theorem d_257_122 : decode (zm_code 257) 122 = .ok (.iload_n 2, 1) := by decide +kernel
theorem d_257_123 : decode (zm_code 257) 123 = .ok (.ireturn, 1) := by decide +kernel
theorem d_258_0 : decode (zm_code 258) 0 = .ok (.iload_n 1, 1) := by decide +kernel
theorem d_258_1 : decode (zm_code 258) 1 = .ok (.ifCond .ge 17, 3) := by decide +kernel
theorem d_258_4 : decode (zm_code 258) 4 = .ok (.aload_n 0, 1) := by decide +kernel
theorem d_258_5 : decode (zm_code 258) 5 = .ok (.iconst 5, 1) := by decide +kernel
theorem d_258_6 : decode (zm_code 258) 6 = .ok (.invokevirtual 249, 3) := by decide +kernel
theorem d_258_9 : decode (zm_code 258) 9 = .ok (.ifCond .lt 7, 3) := by decide +kernel
theorem d_258_12 : decode (zm_code 258) 12 = .ok (.iconst 1, 1) := by decide +kernel
theorem d_258_13 : decode (zm_code 258) 13 = .ok (.goto 4, 3) := by decide +kernel
theorem d_258_16 : decode (zm_code 258) 16 = .ok (.iconst 0, 1) := by decide +kernel
theorem d_258_17 : decode (zm_code 258) 17 = .ok (.ireturn, 1) := by decide +kernel
theorem d_258_18 : decode (zm_code 258) 18 = .ok (.aload_n 0, 1) := by decide +kernel
theorem d_258_19 : decode (zm_code 258) 19 = .ok (.iload_n 1, 1) := by decide +kernel
theorem d_258_20 : decode (zm_code 258) 20 = .ok (.i2l, 1) := by decide +kernel
theorem d_258_21 : decode (zm_code 258) 21 = .ok (.putfield 189, 3) := by decide +kernel
theorem d_258_24 : decode (zm_code 258) 24 = .ok (.iconst 1, 1) := by decide +kernel
theorem d_258_25 : decode (zm_code 258) 25 = .ok (.ireturn, 1) := by decide +kernel
theorem d_259_0 : decode (zm_code 259) 0 = .ok (.iload_n 1, 1) := by decide +kernel
theorem d_259_1 : decode (zm_code 259) 1 = .ok (.iconst 0, 1) := by decide +kernel
theorem d_259_2 : decode (zm_code 259) 2 = .ok (.aload_n 0, 1) := by decide +kernel
theorem d_259_3 : decode (zm_code 259) 3 = .ok (.getfield 168, 3) := by decide +kernel
theorem d_259_6 : decode (zm_code 259) 6 = .ok (.iconst 0, 1) := by decide +kernel
theorem d_259_7 : decode (zm_code 259) 7 = .ok (.iaload, 1) := by decide +kernel
theorem d_259_8 : decode (zm_code 259) 8 = .ok (.iconst 1, 1) := by decide +kernel
theorem d_259_9 : decode (zm_code 259) 9 = .ok (.isub, 1) := by decide +kernel
theorem d_259_10 : decode (zm_code 259) 10 = .ok (.invokestatic 335, 3) := by decide +kernel
theorem d_259_13 : decode (zm_code 259) 13 = .ok (.ifCond .eq 12, 3) := by decide +kernel
theorem d_259_16 : decode (zm_code 259) 16 = .ok (.iload_n 2, 1) := by decide +kernel
theorem d_259_17 : decode (zm_code 259) 17 = .ok (.iconst 0, 1) := by decide +kernel
theorem d_259_18 : decode (zm_code 259) 18 = .ok (.iconst 3, 1) := by decide +kernel
theorem d_259_19 : decode (zm_code 259) 19 = .ok (.invokestatic 335, 3) := by decide +kernel
theorem d_259_22 : decode (zm_code 259) 22 = .ok (.ifCond .ne 5, 3) := by decide +kernel
theorem d_259_25 : decode (zm_code 259) 25 = .ok (.iconst (-1), 1) := by decide +kernel
theorem d_259_26 : decode (zm_code 259) 26 = .ok (.ireturn, 1) := by decide +kernel
theorem d_259_27 : decode (zm_code 259) 27 = .ok (.iload_n 2, 1) := by decide +kernel
theorem d_259_28 : decode (zm_code 259) 28 = .ok (.ifCond .ne 12, 3) := by decide +kernel
theorem d_259_31 : decode (zm_code 259) 31 = .ok (.aload_n 0, 1) := by decide +kernel
theorem d_259_32 : decode (zm_code 259) 32 = .ok (.getfield 171, 3) := by decide +kernel
theorem d_259_35 : decode (zm_code 259) 35 = .ok (.iload_n 1, 1) := by decide +kernel
theorem d_259_36 : decode (zm_code 259) 36 = .ok (.iaload, 1) := by decide +kernel
theorem d_259_37 : decode (zm_code 259) 37 = .ok (.goto 37, 3) := by decide +kernel
theorem d_259_40 : decode (zm_code 259) 40 = .ok (.iload_n 2, 1) := by decide +kernel
theorem d_259_41 : decode (zm_code 259) 41 = .ok (.iconst 1, 1) := by decide +kernel
theorem d_259_42 : decode (zm_code 259) 42 = .ok (.if_icmp .ne 12, 3) := by decide +kernel
theorem d_259_45 : decode (zm_code 259) 45 = .ok (.aload_n 0, 1) := by decide +kernel
theorem d_259_46 : decode (zm_code 259) 46 = .ok (.getfield 174, 3) := by decide +kernel
theorem d_259_49 : decode (zm_code 259) 49 = .ok (.iload_n 1, 1) := by decide +kernel
theorem d_259_50 : decode (zm_code 259) 50 = .ok (.iaload, 1) := by decide +kernel
theorem d_259_51 : decode (zm_code 259) 51 = .ok (.goto 23, 3) := by decide +kernel
theorem d_259_54 : decode (zm_code 259) 54 = .ok (.iload_n 2, 1) := by decide +kernel
theorem d_259_55 : decode (zm_code 259) 55 = .ok (.iconst 2, 1) := by decide +kernel
theorem d_259_56 : decode (zm_code 259) 56 = .ok (.if_icmp .ne 12, 3) := by decide +kernel
theorem d_259_59 : decode (zm_code 259) 59 = .ok (.aload_n 0, 1) := by decide +kernel
theorem d_259_60 : decode (zm_code 259) 60 = .ok (.getfield 177, 3) := by decide +kernel
theorem d_259_63 : decode (zm_code 259) 63 = .ok (.iload_n 1, 1) := by decide +kernel
theorem d_259_64 : decode (zm_code 259) 64 = .ok (.iaload, 1) := by decide +kernel
theorem d_259_65 : decode (zm_code 259) 65 = .ok (.goto 9, 3) := by decide +kernel
theorem d_259_68 : decode (zm_code 259) 68 = .ok (.aload_n 0, 1) := by decide +kernel
theorem d_259_69 : decode (zm_code 259) 69 = .ok (.getfield 180, 3) := by decide +kernel
theorem d_259_72 : decode (zm_code 259) 72 = .ok (.iload_n 1, 1) := by decide +kernel
theorem d_259_73 : decode (zm_code 259) 73 = .ok (.iaload, 1) := by decide +kernel
theorem d_259_74 : decode (zm_code 259) 74 = .ok (.ireturn, 1) := by decide +kernel
theorem d_260_0 : decode (zm_code 260) 0 = .ok (.aload_n 0, 1) := by decide +kernel
theorem d_260_1 : decode (zm_code 260) 1 = .ok (.getfield 13, 3) := by decide +kernel
theorem d_260_4 : decode (zm_code 260) 4 = .ok (.istore_n 1, 1) := by decide +kernel
theorem d_260_5 : decode (zm_code 260) 5 = .ok (.aload_n 0, 1) := by decide +kernel
theorem d_260_6 : decode (zm_code 260) 6 = .ok (.iconst 0, 1) := by decide +kernel
theorem d_260_7 : decode (zm_code 260) 7 = .ok (.putfield 13, 3) := by decide +kernel
theorem d_260_10 : decode (zm_code 260) 10 = .ok (.iload_n 1, 1) := by decide +kernel
theorem d_260_11 : decode (zm_code 260) 11 = .ok (.ifCond .le 19, 3) := by decide +kernel
theorem d_260_14 : decode (zm_code 260) 14 = .ok (.iload_n 1, 1) := by decide +kernel
theorem d_260_15 : decode (zm_code 260) 15 = .ok (.iconst 2, 1) := by decide +kernel
theorem d_260_16 : decode (zm_code 260) 16 = .ok (.irem, 1) := by decide +kernel
theorem d_260_17 : decode (zm_code 260) 17 = .ok (.ifCond .ne 13, 3) := by decide +kernel
theorem d_260_20 : decode (zm_code 260) 20 = .ok (.iload_n 1, 1) := by decide +kernel
theorem d_260_21 : decode (zm_code 260) 21 = .ok (.bipush 40, 2) := by decide +kernel
theorem d_260_23 : decode (zm_code 260) 23 = .ok (.if_icmp .gt 7, 3) := by decide +kernel
theorem d_260_26 : decode (zm_code 260) 26 = .ok (.iconst 1, 1) := by decide +kernel
theorem d_260_27 : decode (zm_code 260) 27 = .ok (.goto 4, 3) := by decide +kernel
theorem d_260_30 : decode (zm_code 260) 30 = .ok (.iconst 0, 1) := by decide +kernel
theorem d_260_31 : decode (zm_code 260) 31 = .ok (.istore_n 2, 1) := by decide +kernel
theorem d_260_32 : decode (zm_code 260) 32 = .ok (.iconst 0, 1) := by decide +kernel
theorem d_260_33 : decode (zm_code 260) 33 = .ok (.istore_n 3, 1) := by decide +kernel
theorem d_260_34 : decode (zm_code 260) 34 = .ok (.iload_n 3, 1) := by decide +kernel
theorem d_260_35 : decode (zm_code 260) 35 = .ok (.iload_n 1, 1) := by decide +kernel
theorem d_260_36 : decode (zm_code 260) 36 = .ok (.if_icmp .ge 47, 3) := by decide +kernel
theorem d_260_39 : decode (zm_code 260) 39 = .ok (.iload_n 2, 1) := by decide +kernel
theorem d_260_40 : decode (zm_code 260) 40 = .ok (.ifCond .eq 43, 3) := by decide +kernel
theorem d_260_43 : decode (zm_code 260) 43 = .ok (.aload_n 0, 1) := by decide +kernel
theorem d_260_44 : decode (zm_code 260) 44 = .ok (.aload_n 0, 1) := by decide +kernel
theorem d_260_45 : decode (zm_code 260) 45 = .ok (.getfield 7, 3) := by decide +kernel
theorem d_260_48 : decode (zm_code 260) 48 = .ok (.iload_n 3, 1) := by decide +kernel
theorem d_260_49 : decode (zm_code 260) 49 = .ok (.iaload, 1) := by decide +kernel
theorem d_260_50 : decode (zm_code 260) 50 = .ok (.invokevirtual 529, 3) := by decide +kernel
theorem d_260_53 : decode (zm_code 260) 53 = .ok (.ifCond .eq 22, 3) := by decide +kernel
theorem d_260_56 : decode (zm_code 260) 56 = .ok (.aload_n 0, 1) := by decide +kernel
theorem d_260_57 : decode (zm_code 260) 57 = .ok (.aload_n 0, 1) := by decide +kernel
theorem d_260_58 : decode (zm_code 260) 58 = .ok (.getfield 7, 3) := by decide +kernel
theorem d_260_61 : decode (zm_code 260) 61 = .ok (.iload_n 3, 1) := by decide +kernel
theorem d_260_62 : decode (zm_code 260) 62 = .ok (.iconst 1, 1) := by decide +kernel
theorem d_260_63 : decode (zm_code 260) 63 = .ok (.iadd, 1) := by decide +kernel
theorem d_260_64 : decode (zm_code 260) 64 = .ok (.iaload, 1) := by decide +kernel
theorem d_260_65 : decode (zm_code 260) 65 = .ok (.invokevirtual 523, 3) := by decide +kernel
theorem d_260_68 : decode (zm_code 260) 68 = .ok (.ifCond .eq 7, 3) := by decide +kernel
theorem d_260_71 : decode (zm_code 260) 71 = .ok (.iconst 1, 1) := by decide +kernel
theorem d_260_72 : decode (zm_code 260) 72 = .ok (.goto 4, 3) := by decide +kernel
theorem d_260_75 : decode (zm_code 260) 75 = .ok (.iconst 0, 1) := by decide +kernel
theorem d_260_76 : decode (zm_code 260) 76 = .ok (.istore_n 2, 1) := by decide +kernel
theorem d_260_77 : decode (zm_code 260) 77 = .ok (.iinc 3 2, 3) := by decide +kernel
theorem d_260_80 : decode (zm_code 260) 80 = .ok (.goto (-46), 3) := by decide +kernel
theorem d_260_83 : decode (zm_code 260) 83 = .ok (.iload_n 2, 1) := by decide +kernel
theorem d_260_84 : decode (zm_code 260) 84 = .ok (.ifCond .ne 9, 3) := by decide +kernel
theorem d_260_87 : decode (zm_code 260) 87 = .ok (.aload_n 0, 1) := by decide +kernel
theorem d_260_88 : decode (zm_code 260) 88 = .ok (.iconst 5, 1) := by decide +kernel
theorem d_260_89 : decode (zm_code 260) 89 = .ok (.invokevirtual 249, 3) := by decide +kernel
theorem d_260_92 : decode (zm_code 260) 92 = .ok (.ireturn, 1) := by decide +kernel
theorem d_260_93 : decode (zm_code 260) 93 = .ok (.aload_n 0, 1) := by decide +kernel
theorem d_260_94 : decode (zm_code 260) 94 = .ok (.iconst 1, 1) := by decide +kernel
theorem d_260_95 : decode (zm_code 260) 95 = .ok (.iconst 0, 1) := by decide +kernel
theorem d_260_96 : decode (zm_code 260) 96 = .ok (.invokevirtual 437, 3) := by decide +kernel
theorem d_260_99 : decode (zm_code 260) 99 = .ok (.aload_n 0, 1) := by decide +kernel
theorem d_260_100 : decode (zm_code 260) 100 = .ok (.invokevirtual 532, 3) := by decide +kernel
theorem d_260_103 : decode (zm_code 260) 103 = .ok (.iconst 0, 1) := by decide +kernel
theorem d_260_104 : decode (zm_code 260) 104 = .ok (.istore_n 3, 1) := by decide +kernel
theorem d_260_105 : decode (zm_code 260) 105 = .ok (.iconst 2, 1) := by decide +kernel
theorem d_260_106 : decode (zm_code 260) 106 = .ok (.iload_n 3, 1) := by decide +kernel
theorem d_260_107 : decode (zm_code 260) 107 = .ok (.imul, 1) := by decide +kernel
theorem d_260_108 : decode (zm_code 260) 108 = .ok (.iload_n 1, 1) := by decide +kernel
theorem d_260_109 : decode (zm_code 260) 109 = .ok (.if_icmp .ge 34, 3) := by decide +kernel
theorem d_260_112 : decode (zm_code 260) 112 = .ok (.aload_n 0, 1) := by decide +kernel
theorem d_260_113 : decode (zm_code 260) 113 = .ok (.aload_n 0, 1) := by decide +kernel
theorem d_260_114 : decode (zm_code 260) 114 = .ok (.getfield 7, 3) := by decide +kernel
theorem d_260_117 : decode (zm_code 260) 117 = .ok (.iconst 2, 1) := by decide +kernel
theorem d_260_118 : decode (zm_code 260) 118 = .ok (.iload_n 3, 1) := by decide +kernel
theorem d_260_119 : decode (zm_code 260) 119 = .ok (.imul, 1) := by decide +kernel
theorem d_260_120 : decode (zm_code 260) 120 = .ok (.iaload, 1) := by decide +kernel
theorem d_260_121 : decode (zm_code 260) 121 = .ok (.aload_n 0, 1) := by decide +kernel
theorem d_260_122 : decode (zm_code 260) 122 = .ok (.getfield 7, 3) := by decide +kernel
theorem d_260_125 : decode (zm_code 260) 125 = .ok (.iconst 2, 1) := by decide +kernel
theorem d_260_126 : decode (zm_code 260) 126 = .ok (.iload_n 3, 1) := by decide +kernel
theorem d_260_127 : decode (zm_code 260) 127 = .ok (.imul, 1) := by decide +kernel
theorem d_260_128 : decode (zm_code 260) 128 = .ok (.iconst 1, 1) := by decide +kernel
theorem d_260_129 : decode (zm_code 260) 129 = .ok (.iadd, 1) := by decide +kernel
theorem d_260_130 : decode (zm_code 260) 130 = .ok (.iaload, 1) := by decide +kernel
theorem d_260_131 : decode (zm_code 260) 131 = .ok (.invokevirtual 579, 3) := by decide +kernel
theorem d_260_134 : decode (zm_code 260) 134 = .ok (.ifCond .eq 9, 3) := by decide +kernel
theorem d_260_137 : decode (zm_code 260) 137 = .ok (.iinc 3 1, 3) := by decide +kernel
theorem d_260_140 : decode (zm_code 260) 140 = .ok (.goto (-35), 3) := by decide +kernel
theorem d_260_143 : decode (zm_code 260) 143 = .ok (.aload_n 0, 1) := by decide +kernel
theorem d_260_144 : decode (zm_code 260) 144 = .ok (.iconst 1, 1) := by decide +kernel
theorem d_260_145 : decode (zm_code 260) 145 = .ok (.putfield 225, 3) := by decide +kernel
theorem d_260_148 : decode (zm_code 260) 148 = .ok (.iconst 0, 1) := by decide +kernel
theorem d_260_149 : decode (zm_code 260) 149 = .ok (.istore 4, 2) := by decide +kernel
theorem d_260_151 : decode (zm_code 260) 151 = .ok (.iload 4, 2) := by decide +kernel
theorem d_260_153 : decode (zm_code 260) 153 = .ok (.bipush 40, 2) := by decide +kernel
theorem d_260_155 : decode (zm_code 260) 155 = .ok (.if_icmp .ge 26, 3) := by decide +kernel
theorem d_260_158 : decode (zm_code 260) 158 = .ok (.aload_n 0, 1) := by decide +kernel
theorem d_260_159 : decode (zm_code 260) 159 = .ok (.getfield 228, 3) := by decide +kernel
theorem d_260_162 : decode (zm_code 260) 162 = .ok (.iload 4, 2) := by decide +kernel
theorem d_260_164 : decode (zm_code 260) 164 = .ok (.aload_n 0, 1) := by decide +kernel
theorem d_260_165 : decode (zm_code 260) 165 = .ok (.getfield 159, 3) := by decide +kernel
theorem d_260_168 : decode (zm_code 260) 168 = .ok (.bipush 40, 2) := by decide +kernel
theorem d_260_170 : decode (zm_code 260) 170 = .ok (.iload 4, 2) := by decide +kernel
theorem d_260_172 : decode (zm_code 260) 172 = .ok (.iadd, 1) := by decide +kernel
theorem d_260_173 : decode (zm_code 260) 173 = .ok (.iaload, 1) := by decide +kernel
theorem d_260_174 : decode (zm_code 260) 174 = .ok (.iastore, 1) := by decide +kernel
theorem d_260_175 : decode (zm_code 260) 175 = .ok (.iinc 4 1, 3) := by decide +kernel
theorem d_260_178 : decode (zm_code 260) 178 = .ok (.goto (-27), 3) := by decide +kernel
theorem d_260_181 : decode (zm_code 260) 181 = .ok (.iload_n 3, 1) := by decide +kernel
theorem d_260_182 : decode (zm_code 260) 182 = .ok (.ireturn, 1) := by decide +kernel
theorem d_261_0 : decode (zm_code 261) 0 = .ok (.aload_n 0, 1) := by decide +kernel
theorem d_261_1 : decode (zm_code 261) 1 = .ok (.iconst 1, 1) := by decide +kernel
theorem d_261_2 : decode (zm_code 261) 2 = .ok (.invokevirtual 467, 3) := by decide +kernel
theorem d_261_5 : decode (zm_code 261) 5 = .ok (.istore_n 3, 1) := by decide +kernel
theorem d_261_6 : decode (zm_code 261) 6 = .ok (.iload_n 3, 1) := by decide +kernel
theorem d_261_7 : decode (zm_code 261) 7 = .ok (.aload_n 0, 1) := by decide +kernel
theorem d_261_8 : decode (zm_code 261) 8 = .ok (.iconst 1, 1) := by decide +kernel
theorem d_261_9 : decode (zm_code 261) 9 = .ok (.iload_n 1, 1) := by decide +kernel
theorem d_261_10 : decode (zm_code 261) 10 = .ok (.invokevirtual 470, 3) := by decide +kernel
theorem d_261_13 : decode (zm_code 261) 13 = .ok (.if_icmp .ge 42, 3) := by decide +kernel
theorem d_261_16 : decode (zm_code 261) 16 = .ok (.aload_n 0, 1) := by decide +kernel
theorem d_261_17 : decode (zm_code 261) 17 = .ok (.iconst 1, 1) := by decide +kernel
theorem d_261_18 : decode (zm_code 261) 18 = .ok (.iload_n 3, 1) := by decide +kernel
theorem d_261_19 : decode (zm_code 261) 19 = .ok (.iload_n 2, 1) := by decide +kernel
theorem d_261_20 : decode (zm_code 261) 20 = .ok (.invokevirtual 460, 3) := by decide +kernel
theorem d_261_23 : decode (zm_code 261) 23 = .ok (.ifCond .ne 6, 3) := by decide +kernel
theorem d_261_26 : decode (zm_code 261) 26 = .ok (.goto 23, 3) := by decide +kernel
theorem d_261_29 : decode (zm_code 261) 29 = .ok (.aload_n 0, 1) := by decide +kernel
theorem d_261_30 : decode (zm_code 261) 30 = .ok (.getfield 159, 3) := by decide +kernel
theorem d_261_33 : decode (zm_code 261) 33 = .ok (.bipush 40, 2) := by decide +kernel
theorem d_261_35 : decode (zm_code 261) 35 = .ok (.bipush 8, 2) := by decide +kernel
theorem d_261_37 : decode (zm_code 261) 37 = .ok (.iload_n 3, 1) := by decide +kernel
theorem d_261_38 : decode (zm_code 261) 38 = .ok (.imul, 1) := by decide +kernel
theorem d_261_39 : decode (zm_code 261) 39 = .ok (.iadd, 1) := by decide +kernel
theorem d_261_40 : decode (zm_code 261) 40 = .ok (.iload_n 2, 1) := by decide +kernel
theorem d_261_41 : decode (zm_code 261) 41 = .ok (.iadd, 1) := by decide +kernel
theorem d_261_42 : decode (zm_code 261) 42 = .ok (.dup2, 1) := by decide +kernel
theorem d_261_43 : decode (zm_code 261) 43 = .ok (.iaload, 1) := by decide +kernel
theorem d_261_44 : decode (zm_code 261) 44 = .ok (.iconst 1, 1) := by decide +kernel
theorem d_261_45 : decode (zm_code 261) 45 = .ok (.isub, 1) := by decide +kernel
theorem d_261_46 : decode (zm_code 261) 46 = .ok (.iastore, 1) := by decide +kernel
theorem d_261_47 : decode (zm_code 261) 47 = .ok (.iconst 1, 1) := by decide +kernel
theorem d_261_48 : decode (zm_code 261) 48 = .ok (.ireturn, 1) := by decide +kernel
theorem d_261_49 : decode (zm_code 261) 49 = .ok (.iinc 3 1, 3) := by decide +kernel
theorem d_261_52 : decode (zm_code 261) 52 = .ok (.goto (-46), 3) := by decide +kernel
theorem d_261_55 : decode (zm_code 261) 55 = .ok (.iconst 0, 1) := by decide +kernel
theorem d_261_56 : decode (zm_code 261) 56 = .ok (.ireturn, 1) := by decide +kernel
theorem d_262_0 : decode (zm_code 262) 0 = .ok (.aload_n 0, 1) := by decide +kernel
theorem d_262_1 : decode (zm_code 262) 1 = .ok (.getfield 225, 3) := by decide +kernel
theorem d_262_4 : decode (zm_code 262) 4 = .ok (.ifCond .eq 33, 3) := by decide +kernel
theorem d_262_7 : decode (zm_code 262) 7 = .ok (.aload_n 0, 1) := by decide +kernel
theorem d_262_8 : decode (zm_code 262) 8 = .ok (.iload_n 1, 1) := by decide +kernel
theorem d_262_9 : decode (zm_code 262) 9 = .ok (.invokevirtual 526, 3) := by decide +kernel
theorem d_262_12 : decode (zm_code 262) 12 = .ok (.ifCond .eq 25, 3) := by decide +kernel
theorem d_262_15 : decode (zm_code 262) 15 = .ok (.aload_n 0, 1) := by decide +kernel
theorem d_262_16 : decode (zm_code 262) 16 = .ok (.iload_n 2, 1) := by decide +kernel
theorem d_262_17 : decode (zm_code 262) 17 = .ok (.invokevirtual 523, 3) := by decide +kernel
theorem d_262_20 : decode (zm_code 262) 20 = .ok (.ifCond .eq 17, 3) := by decide +kernel
theorem d_262_23 : decode (zm_code 262) 23 = .ok (.aload_n 0, 1) := by decide +kernel
theorem d_262_24 : decode (zm_code 262) 24 = .ok (.getfield 228, 3) := by decide +kernel
theorem d_262_27 : decode (zm_code 262) 27 = .ok (.bipush 8, 2) := by decide +kernel
theorem d_262_29 : decode (zm_code 262) 29 = .ok (.iload_n 1, 1) := by decide +kernel
theorem d_262_30 : decode (zm_code 262) 30 = .ok (.imul, 1) := by decide +kernel
theorem d_262_31 : decode (zm_code 262) 31 = .ok (.iload_n 2, 1) := by decide +kernel
theorem d_262_32 : decode (zm_code 262) 32 = .ok (.iadd, 1) := by decide +kernel
theorem d_262_33 : decode (zm_code 262) 33 = .ok (.iaload, 1) := by decide +kernel
theorem d_262_34 : decode (zm_code 262) 34 = .ok (.goto 4, 3) := by decide +kernel
theorem d_262_37 : decode (zm_code 262) 37 = .ok (.iconst (-1), 1) := by decide +kernel
theorem d_262_38 : decode (zm_code 262) 38 = .ok (.ireturn, 1) := by decide +kernel
theorem d_263_0 : decode (zm_code 263) 0 = .ok (.aload_n 0, 1) := by decide +kernel
theorem d_263_1 : decode (zm_code 263) 1 = .ok (.iload_n 1, 1) := by decide +kernel
theorem d_263_2 : decode (zm_code 263) 2 = .ok (.invokevirtual 529, 3) := by decide +kernel
theorem d_263_5 : decode (zm_code 263) 5 = .ok (.ifCond .eq 20, 3) := by decide +kernel
theorem d_263_8 : decode (zm_code 263) 8 = .ok (.aload_n 0, 1) := by decide +kernel
theorem d_263_9 : decode (zm_code 263) 9 = .ok (.iload_n 1, 1) := by decide +kernel
theorem d_263_10 : decode (zm_code 263) 10 = .ok (.invokevirtual 518, 3) := by decide +kernel
theorem d_263_13 : decode (zm_code 263) 13 = .ok (.ifCond .eq 12, 3) := by decide +kernel
theorem d_263_16 : decode (zm_code 263) 16 = .ok (.iload_n 2, 1) := by decide +kernel
theorem d_263_17 : decode (zm_code 263) 17 = .ok (.iconst 0, 1) := by decide +kernel
theorem d_263_18 : decode (zm_code 263) 18 = .ok (.iconst 2, 1) := by decide +kernel
theorem d_263_19 : decode (zm_code 263) 19 = .ok (.invokestatic 335, 3) := by decide +kernel
theorem d_263_22 : decode (zm_code 263) 22 = .ok (.ifCond .ne 5, 3) := by decide +kernel
theorem d_263_25 : decode (zm_code 263) 25 = .ok (.iconst (-1), 1) := by decide +kernel
theorem d_263_26 : decode (zm_code 263) 26 = .ok (.ireturn, 1) := by decide +kernel
theorem d_263_27 : decode (zm_code 263) 27 = .ok (.aload_n 0, 1) := by decide +kernel
theorem d_263_28 : decode (zm_code 263) 28 = .ok (.invokevirtual 591, 3) := by decide +kernel
theorem d_263_31 : decode (zm_code 263) 31 = .ok (.iload_n 2, 1) := by decide +kernel
theorem d_263_32 : decode (zm_code 263) 32 = .ok (.ifCond .ne 12, 3) := by decide +kernel
theorem d_263_35 : decode (zm_code 263) 35 = .ok (.aload_n 0, 1) := by decide +kernel
theorem d_263_36 : decode (zm_code 263) 36 = .ok (.getfield 237, 3) := by decide +kernel
theorem d_263_39 : decode (zm_code 263) 39 = .ok (.iload_n 1, 1) := by decide +kernel
theorem d_263_40 : decode (zm_code 263) 40 = .ok (.iaload, 1) := by decide +kernel
theorem d_263_41 : decode (zm_code 263) 41 = .ok (.goto 23, 3) := by decide +kernel
theorem d_263_44 : decode (zm_code 263) 44 = .ok (.iload_n 2, 1) := by decide +kernel
theorem d_263_45 : decode (zm_code 263) 45 = .ok (.iconst 1, 1) := by decide +kernel
theorem d_263_46 : decode (zm_code 263) 46 = .ok (.if_icmp .ne 12, 3) := by decide +kernel
theorem d_263_49 : decode (zm_code 263) 49 = .ok (.aload_n 0, 1) := by decide +kernel
theorem d_263_50 : decode (zm_code 263) 50 = .ok (.getfield 231, 3) := by decide +kernel
theorem d_263_53 : decode (zm_code 263) 53 = .ok (.iload_n 1, 1) := by decide +kernel
theorem d_263_54 : decode (zm_code 263) 54 = .ok (.iaload, 1) := by decide +kernel
theorem d_263_55 : decode (zm_code 263) 55 = .ok (.goto 9, 3) := by decide +kernel
theorem d_263_58 : decode (zm_code 263) 58 = .ok (.aload_n 0, 1) := by decide +kernel
theorem d_263_59 : decode (zm_code 263) 59 = .ok (.getfield 240, 3) := by decide +kernel
theorem d_263_62 : decode (zm_code 263) 62 = .ok (.iload_n 1, 1) := by decide +kernel
theorem d_263_63 : decode (zm_code 263) 63 = .ok (.iaload, 1) := by decide +kernel
theorem d_263_64 : decode (zm_code 263) 64 = .ok (.ireturn, 1) := by decide +kernel
theorem d_264_0 : decode (zm_code 264) 0 = .ok (.iconst 0, 1) := by decide +kernel
theorem d_264_1 : decode (zm_code 264) 1 = .ok (.istore_n 1, 1) := by decide +kernel
theorem d_264_2 : decode (zm_code 264) 2 = .ok (.iconst 0, 1) := by decide +kernel
theorem d_264_3 : decode (zm_code 264) 3 = .ok (.istore_n 2, 1) := by decide +kernel
theorem d_264_4 : decode (zm_code 264) 4 = .ok (.iload_n 2, 1) := by decide +kernel
theorem d_264_5 : decode (zm_code 264) 5 = .ok (.aload_n 0, 1) := by decide +kernel
theorem d_264_6 : decode (zm_code 264) 6 = .ok (.getfield 69, 3) := by decide +kernel
theorem d_264_9 : decode (zm_code 264) 9 = .ok (.aload_n 0, 1) := by decide +kernel
theorem d_264_10 : decode (zm_code 264) 10 = .ok (.getfield 51, 3) := by decide +kernel
theorem d_264_13 : decode (zm_code 264) 13 = .ok (.iaload, 1) := by decide +kernel
theorem d_264_14 : decode (zm_code 264) 14 = .ok (.if_icmp .ge 40, 3) := by decide +kernel
theorem d_264_17 : decode (zm_code 264) 17 = .ok (.aload_n 0, 1) := by decide +kernel
theorem d_264_18 : decode (zm_code 264) 18 = .ok (.getfield 231, 3) := by decide +kernel
theorem d_264_21 : decode (zm_code 264) 21 = .ok (.iload_n 2, 1) := by decide +kernel
theorem d_264_22 : decode (zm_code 264) 22 = .ok (.aload_n 0, 1) := by decide +kernel
theorem d_264_23 : decode (zm_code 264) 23 = .ok (.iload_n 2, 1) := by decide +kernel
theorem d_264_24 : decode (zm_code 264) 24 = .ok (.invokevirtual 582, 3) := by decide +kernel
theorem d_264_27 : decode (zm_code 264) 27 = .ok (.iastore, 1) := by decide +kernel
theorem d_264_28 : decode (zm_code 264) 28 = .ok (.iload_n 1, 1) := by decide +kernel
theorem d_264_29 : decode (zm_code 264) 29 = .ok (.aload_n 0, 1) := by decide +kernel
theorem d_264_30 : decode (zm_code 264) 30 = .ok (.getfield 231, 3) := by decide +kernel
theorem d_264_33 : decode (zm_code 264) 33 = .ok (.iload_n 2, 1) := by decide +kernel
theorem d_264_34 : decode (zm_code 264) 34 = .ok (.iaload, 1) := by decide +kernel
theorem d_264_35 : decode (zm_code 264) 35 = .ok (.iconst (-1), 1) := by decide +kernel
theorem d_264_36 : decode (zm_code 264) 36 = .ok (.if_icmp .ne 7, 3) := by decide +kernel
theorem d_264_39 : decode (zm_code 264) 39 = .ok (.iconst 0, 1) := by decide +kernel
theorem d_264_40 : decode (zm_code 264) 40 = .ok (.goto 6, 3) := by decide +kernel
theorem d_264_43 : decode (zm_code 264) 43 = .ok (.iconst 1, 1) := by decide +kernel
theorem d_264_44 : decode (zm_code 264) 44 = .ok (.iload_n 2, 1) := by decide +kernel
theorem d_264_45 : decode (zm_code 264) 45 = .ok (.ishl, 1) := by decide +kernel
theorem d_264_46 : decode (zm_code 264) 46 = .ok (.ior, 1) := by decide +kernel
theorem d_264_47 : decode (zm_code 264) 47 = .ok (.istore_n 1, 1) := by decide +kernel
theorem d_264_48 : decode (zm_code 264) 48 = .ok (.iinc 2 1, 3) := by decide +kernel
theorem d_264_51 : decode (zm_code 264) 51 = .ok (.goto (-47), 3) := by decide +kernel
theorem d_264_54 : decode (zm_code 264) 54 = .ok (.iconst 1, 1) := by decide +kernel
theorem d_264_55 : decode (zm_code 264) 55 = .ok (.istore_n 2, 1) := by decide +kernel
theorem d_264_56 : decode (zm_code 264) 56 = .ok (.iload_n 1, 1) := by decide +kernel
theorem d_264_57 : decode (zm_code 264) 57 = .ok (.ifCond .eq 137, 3) := by decide +kernel
theorem d_264_60 : decode (zm_code 264) 60 = .ok (.iconst 0, 1) := by decide +kernel
theorem d_264_61 : decode (zm_code 264) 61 = .ok (.istore_n 3, 1) := by decide +kernel
theorem d_264_62 : decode (zm_code 264) 62 = .ok (.iconst 0, 1) := by decide +kernel
theorem d_264_63 : decode (zm_code 264) 63 = .ok (.istore 4, 2) := by decide +kernel
theorem d_264_65 : decode (zm_code 264) 65 = .ok (.iload 4, 2) := by decide +kernel
theorem d_264_67 : decode (zm_code 264) 67 = .ok (.aload_n 0, 1) := by decide +kernel
theorem d_264_68 : decode (zm_code 264) 68 = .ok (.getfield 69, 3) := by decide +kernel
theorem d_264_71 : decode (zm_code 264) 71 = .ok (.aload_n 0, 1) := by decide +kernel
theorem d_264_72 : decode (zm_code 264) 72 = .ok (.getfield 51, 3) := by decide +kernel
theorem d_264_75 : decode (zm_code 264) 75 = .ok (.iaload, 1) := by decide +kernel
theorem d_264_76 : decode (zm_code 264) 76 = .ok (.if_icmp .ge 33, 3) := by decide +kernel
theorem d_264_79 : decode (zm_code 264) 79 = .ok (.iload_n 1, 1) := by decide +kernel
theorem d_264_80 : decode (zm_code 264) 80 = .ok (.iload 4, 2) := by decide +kernel
theorem d_264_82 : decode (zm_code 264) 82 = .ok (.ishr, 1) := by decide +kernel
theorem d_264_83 : decode (zm_code 264) 83 = .ok (.iconst 1, 1) := by decide +kernel
theorem d_264_84 : decode (zm_code 264) 84 = .ok (.iand, 1) := by decide +kernel
theorem d_264_85 : decode (zm_code 264) 85 = .ok (.iconst 1, 1) := by decide +kernel
theorem d_264_86 : decode (zm_code 264) 86 = .ok (.if_icmp .ne 17, 3) := by decide +kernel
theorem d_264_89 : decode (zm_code 264) 89 = .ok (.aload_n 0, 1) := by decide +kernel
theorem d_264_90 : decode (zm_code 264) 90 = .ok (.getfield 234, 3) := by decide +kernel
theorem d_264_93 : decode (zm_code 264) 93 = .ok (.iload 4, 2) := by decide +kernel
theorem d_264_95 : decode (zm_code 264) 95 = .ok (.aload_n 0, 1) := by decide +kernel
theorem d_264_96 : decode (zm_code 264) 96 = .ok (.iload 4, 2) := by decide +kernel
theorem d_264_98 : decode (zm_code 264) 98 = .ok (.iload_n 1, 1) := by decide +kernel
theorem d_264_99 : decode (zm_code 264) 99 = .ok (.invokevirtual 585, 3) := by decide +kernel
theorem d_264_102 : decode (zm_code 264) 102 = .ok (.iastore, 1) := by decide +kernel
theorem d_264_103 : decode (zm_code 264) 103 = .ok (.iinc 4 1, 3) := by decide +kernel
theorem d_264_106 : decode (zm_code 264) 106 = .ok (.goto (-41), 3) := by decide +kernel
theorem d_264_109 : decode (zm_code 264) 109 = .ok (.iconst 0, 1) := by decide +kernel
theorem d_264_110 : decode (zm_code 264) 110 = .ok (.istore 4, 2) := by decide +kernel
theorem d_264_112 : decode (zm_code 264) 112 = .ok (.iload 4, 2) := by decide +kernel
theorem d_264_114 : decode (zm_code 264) 114 = .ok (.aload_n 0, 1) := by decide +kernel
theorem d_264_115 : decode (zm_code 264) 115 = .ok (.getfield 69, 3) := by decide +kernel
theorem d_264_118 : decode (zm_code 264) 118 = .ok (.aload_n 0, 1) := by decide +kernel
theorem d_264_119 : decode (zm_code 264) 119 = .ok (.getfield 51, 3) := by decide +kernel
theorem d_264_122 : decode (zm_code 264) 122 = .ok (.iaload, 1) := by decide +kernel
theorem d_264_123 : decode (zm_code 264) 123 = .ok (.if_icmp .ge 59, 3) := by decide +kernel
theorem d_264_126 : decode (zm_code 264) 126 = .ok (.iload_n 1, 1) := by decide +kernel
theorem d_264_127 : decode (zm_code 264) 127 = .ok (.iload 4, 2) := by decide +kernel
theorem d_264_129 : decode (zm_code 264) 129 = .ok (.ishr, 1) := by decide +kernel
theorem d_264_130 : decode (zm_code 264) 130 = .ok (.iconst 1, 1) := by decide +kernel
theorem d_264_131 : decode (zm_code 264) 131 = .ok (.iand, 1) := by decide +kernel
theorem d_264_132 : decode (zm_code 264) 132 = .ok (.ifCond .eq 44, 3) := by decide +kernel
theorem d_264_135 : decode (zm_code 264) 135 = .ok (.aload_n 0, 1) := by decide +kernel
theorem d_264_136 : decode (zm_code 264) 136 = .ok (.iload 4, 2) := by decide +kernel
theorem d_264_138 : decode (zm_code 264) 138 = .ok (.invokevirtual 588, 3) := by decide +kernel
theorem d_264_141 : decode (zm_code 264) 141 = .ok (.ifCond .ne 6, 3) := by decide +kernel
theorem d_264_144 : decode (zm_code 264) 144 = .ok (.goto 32, 3) := by decide +kernel
theorem d_264_147 : decode (zm_code 264) 147 = .ok (.aload_n 0, 1) := by decide +kernel
theorem d_264_148 : decode (zm_code 264) 148 = .ok (.getfield 237, 3) := by decide +kernel
theorem d_264_151 : decode (zm_code 264) 151 = .ok (.iload 4, 2) := by decide +kernel
theorem d_264_153 : decode (zm_code 264) 153 = .ok (.aload_n 0, 1) := by decide +kernel
theorem d_264_154 : decode (zm_code 264) 154 = .ok (.getfield 234, 3) := by decide +kernel
theorem d_264_157 : decode (zm_code 264) 157 = .ok (.iload 4, 2) := by decide +kernel
theorem d_264_159 : decode (zm_code 264) 159 = .ok (.iaload, 1) := by decide +kernel
theorem d_264_160 : decode (zm_code 264) 160 = .ok (.iastore, 1) := by decide +kernel
theorem d_264_161 : decode (zm_code 264) 161 = .ok (.aload_n 0, 1) := by decide +kernel
theorem d_264_162 : decode (zm_code 264) 162 = .ok (.getfield 240, 3) := by decide +kernel
theorem d_264_165 : decode (zm_code 264) 165 = .ok (.iload 4, 2) := by decide +kernel
theorem d_264_167 : decode (zm_code 264) 167 = .ok (.iload_n 2, 1) := by decide +kernel
theorem d_264_168 : decode (zm_code 264) 168 = .ok (.iastore, 1) := by decide +kernel
theorem d_264_169 : decode (zm_code 264) 169 = .ok (.iload_n 3, 1) := by decide +kernel
theorem d_264_170 : decode (zm_code 264) 170 = .ok (.iconst 1, 1) := by decide +kernel
theorem d_264_171 : decode (zm_code 264) 171 = .ok (.iload 4, 2) := by decide +kernel
theorem d_264_173 : decode (zm_code 264) 173 = .ok (.ishl, 1) := by decide +kernel
theorem d_264_174 : decode (zm_code 264) 174 = .ok (.ior, 1) := by decide +kernel
theorem d_264_175 : decode (zm_code 264) 175 = .ok (.istore_n 3, 1) := by decide +kernel
theorem d_264_176 : decode (zm_code 264) 176 = .ok (.iinc 4 1, 3) := by decide +kernel
theorem d_264_179 : decode (zm_code 264) 179 = .ok (.goto (-67), 3) := by decide +kernel
theorem d_264_182 : decode (zm_code 264) 182 = .ok (.iload_n 1, 1) := by decide +kernel
theorem d_264_183 : decode (zm_code 264) 183 = .ok (.iload_n 3, 1) := by decide +kernel
theorem d_264_184 : decode (zm_code 264) 184 = .ok (.iconst (-1), 1) := by decide +kernel
theorem d_264_185 : decode (zm_code 264) 185 = .ok (.ixor, 1) := by decide +kernel
theorem d_264_186 : decode (zm_code 264) 186 = .ok (.iand, 1) := by decide +kernel
theorem d_264_187 : decode (zm_code 264) 187 = .ok (.istore_n 1, 1) := by decide +kernel
theorem d_264_188 : decode (zm_code 264) 188 = .ok (.iinc 2 1, 3) := by decide +kernel
theorem d_264_191 : decode (zm_code 264) 191 = .ok (.goto (-135), 3) := by decide +kernel
theorem d_264_194 : decode (zm_code 264) 194 = .ok (.return_, 1) := by decide +kernel
theorem d_265_0 : decode (zm_code 265) 0 = .ok (.iconst (-1), 1) := by decide +kernel
theorem d_265_1 : decode (zm_code 265) 1 = .ok (.istore_n 2, 1) := by decide +kernel
theorem d_265_2 : decode (zm_code 265) 2 = .ok (.iconst 0, 1) := by decide +kernel
theorem d_265_3 : decode (zm_code 265) 3 = .ok (.istore_n 3, 1) := by decide +kernel
theorem d_265_4 : decode (zm_code 265) 4 = .ok (.iload_n 3, 1) := by decide +kernel
theorem d_265_5 : decode (zm_code 265) 5 = .ok (.aload_n 0, 1) := by decide +kernel
theorem d_265_6 : decode (zm_code 265) 6 = .ok (.getfield 54, 3) := by decide +kernel
theorem d_265_9 : decode (zm_code 265) 9 = .ok (.aload_n 0, 1) := by decide +kernel
theorem d_265_10 : decode (zm_code 265) 10 = .ok (.getfield 51, 3) := by decide +kernel
theorem d_265_13 : decode (zm_code 265) 13 = .ok (.iaload, 1) := by decide +kernel
theorem d_265_14 : decode (zm_code 265) 14 = .ok (.if_icmp .ge 41, 3) := by decide +kernel
theorem d_265_17 : decode (zm_code 265) 17 = .ok (.aload_n 0, 1) := by decide +kernel
theorem d_265_18 : decode (zm_code 265) 18 = .ok (.iconst 0, 1) := by decide +kernel
theorem d_265_19 : decode (zm_code 265) 19 = .ok (.iload_n 1, 1) := by decide +kernel
theorem d_265_20 : decode (zm_code 265) 20 = .ok (.iload_n 3, 1) := by decide +kernel
theorem d_265_21 : decode (zm_code 265) 21 = .ok (.invokevirtual 512, 3) := by decide +kernel
theorem d_265_24 : decode (zm_code 265) 24 = .ok (.ifCond .le 25, 3) := by decide +kernel
theorem d_265_27 : decode (zm_code 265) 27 = .ok (.iload_n 2, 1) := by decide +kernel
theorem d_265_28 : decode (zm_code 265) 28 = .ok (.iconst (-1), 1) := by decide +kernel
theorem d_265_29 : decode (zm_code 265) 29 = .ok (.if_icmp .eq 18, 3) := by decide +kernel
theorem d_265_32 : decode (zm_code 265) 32 = .ok (.aload_n 0, 1) := by decide +kernel
theorem d_265_33 : decode (zm_code 265) 33 = .ok (.iload_n 1, 1) := by decide +kernel
theorem d_265_34 : decode (zm_code 265) 34 = .ok (.iload_n 3, 1) := by decide +kernel
theorem d_265_35 : decode (zm_code 265) 35 = .ok (.invokevirtual 473, 3) := by decide +kernel
theorem d_265_38 : decode (zm_code 265) 38 = .ok (.aload_n 0, 1) := by decide +kernel
theorem d_265_39 : decode (zm_code 265) 39 = .ok (.iload_n 1, 1) := by decide +kernel
theorem d_265_40 : decode (zm_code 265) 40 = .ok (.iload_n 2, 1) := by decide +kernel
theorem d_265_41 : decode (zm_code 265) 41 = .ok (.invokevirtual 473, 3) := by decide +kernel
theorem d_265_44 : decode (zm_code 265) 44 = .ok (.if_icmp .ge 5, 3) := by decide +kernel
theorem d_265_47 : decode (zm_code 265) 47 = .ok (.iload_n 3, 1) := by decide +kernel
theorem d_265_48 : decode (zm_code 265) 48 = .ok (.istore_n 2, 1) := by decide +kernel
theorem d_265_49 : decode (zm_code 265) 49 = .ok (.iinc 3 1, 3) := by decide +kernel
theorem d_265_52 : decode (zm_code 265) 52 = .ok (.goto (-48), 3) := by decide +kernel
theorem d_265_55 : decode (zm_code 265) 55 = .ok (.iload_n 2, 1) := by decide +kernel
theorem d_265_56 : decode (zm_code 265) 56 = .ok (.ireturn, 1) := by decide +kernel
theorem d_266_0 : decode (zm_code 266) 0 = .ok (.iload_n 1, 1) := by decide +kernel
theorem d_266_1 : decode (zm_code 266) 1 = .ok (.istore_n 3, 1) := by decide +kernel
theorem d_266_2 : decode (zm_code 266) 2 = .ok (.iconst 0, 1) := by decide +kernel
theorem d_266_3 : decode (zm_code 266) 3 = .ok (.istore 4, 2) := by decide +kernel
theorem d_266_5 : decode (zm_code 266) 5 = .ok (.iload 4, 2) := by decide +kernel
theorem d_266_7 : decode (zm_code 266) 7 = .ok (.aload_n 0, 1) := by decide +kernel
theorem d_266_8 : decode (zm_code 266) 8 = .ok (.getfield 69, 3) := by decide +kernel
theorem d_266_11 : decode (zm_code 266) 11 = .ok (.aload_n 0, 1) := by decide +kernel
theorem d_266_12 : decode (zm_code 266) 12 = .ok (.getfield 51, 3) := by decide +kernel
theorem d_266_15 : decode (zm_code 266) 15 = .ok (.iaload, 1) := by decide +kernel
theorem d_266_16 : decode (zm_code 266) 16 = .ok (.if_icmp .ge 48, 3) := by decide +kernel
theorem d_266_19 : decode (zm_code 266) 19 = .ok (.iload_n 2, 1) := by decide +kernel
theorem d_266_20 : decode (zm_code 266) 20 = .ok (.iload 4, 2) := by decide +kernel
theorem d_266_22 : decode (zm_code 266) 22 = .ok (.ishr, 1) := by decide +kernel
theorem d_266_23 : decode (zm_code 266) 23 = .ok (.iconst 1, 1) := by decide +kernel
theorem d_266_24 : decode (zm_code 266) 24 = .ok (.iand, 1) := by decide +kernel
theorem d_266_25 : decode (zm_code 266) 25 = .ok (.iconst 1, 1) := by decide +kernel
theorem d_266_26 : decode (zm_code 266) 26 = .ok (.if_icmp .ne 32, 3) := by decide +kernel
theorem d_266_29 : decode (zm_code 266) 29 = .ok (.aload_n 0, 1) := by decide +kernel
theorem d_266_30 : decode (zm_code 266) 30 = .ok (.iload_n 1, 1) := by decide +kernel
theorem d_266_31 : decode (zm_code 266) 31 = .ok (.aload_n 0, 1) := by decide +kernel
theorem d_266_32 : decode (zm_code 266) 32 = .ok (.getfield 231, 3) := by decide +kernel
theorem d_266_35 : decode (zm_code 266) 35 = .ok (.iload 4, 2) := by decide +kernel
theorem d_266_37 : decode (zm_code 266) 37 = .ok (.iaload, 1) := by decide +kernel
theorem d_266_38 : decode (zm_code 266) 38 = .ok (.invokevirtual 473, 3) := by decide +kernel
theorem d_266_41 : decode (zm_code 266) 41 = .ok (.aload_n 0, 1) := by decide +kernel
theorem d_266_42 : decode (zm_code 266) 42 = .ok (.iload_n 1, 1) := by decide +kernel
theorem d_266_43 : decode (zm_code 266) 43 = .ok (.aload_n 0, 1) := by decide +kernel
theorem d_266_44 : decode (zm_code 266) 44 = .ok (.getfield 231, 3) := by decide +kernel
theorem d_266_47 : decode (zm_code 266) 47 = .ok (.iload_n 3, 1) := by decide +kernel
theorem d_266_48 : decode (zm_code 266) 48 = .ok (.iaload, 1) := by decide +kernel
theorem d_266_49 : decode (zm_code 266) 49 = .ok (.invokevirtual 473, 3) := by decide +kernel
theorem d_266_52 : decode (zm_code 266) 52 = .ok (.if_icmp .le 6, 3) := by decide +kernel
theorem d_266_55 : decode (zm_code 266) 55 = .ok (.iload 4, 2) := by decide +kernel
theorem d_266_57 : decode (zm_code 266) 57 = .ok (.istore_n 3, 1) := by decide +kernel
theorem d_266_58 : decode (zm_code 266) 58 = .ok (.iinc 4 1, 3) := by decide +kernel
theorem d_266_61 : decode (zm_code 266) 61 = .ok (.goto (-56), 3) := by decide +kernel
theorem d_266_64 : decode (zm_code 266) 64 = .ok (.iload_n 3, 1) := by decide +kernel
theorem d_266_65 : decode (zm_code 266) 65 = .ok (.ireturn, 1) := by decide +kernel
theorem d_267_0 : decode (zm_code 267) 0 = .ok (.aload_n 0, 1) := by decide +kernel
theorem d_267_1 : decode (zm_code 267) 1 = .ok (.getfield 234, 3) := by decide +kernel
theorem d_267_4 : decode (zm_code 267) 4 = .ok (.iload_n 1, 1) := by decide +kernel
theorem d_267_5 : decode (zm_code 267) 5 = .ok (.iaload, 1) := by decide +kernel
theorem d_267_6 : decode (zm_code 267) 6 = .ok (.istore_n 2, 1) := by decide +kernel
theorem d_267_7 : decode (zm_code 267) 7 = .ok (.iconst 0, 1) := by decide +kernel
theorem d_267_8 : decode (zm_code 267) 8 = .ok (.istore_n 3, 1) := by decide +kernel
theorem d_267_9 : decode (zm_code 267) 9 = .ok (.iload_n 3, 1) := by decide +kernel
theorem d_267_10 : decode (zm_code 267) 10 = .ok (.bipush 8, 2) := by decide +kernel
theorem d_267_12 : decode (zm_code 267) 12 = .ok (.if_icmp .ge 21, 3) := by decide +kernel
theorem d_267_15 : decode (zm_code 267) 15 = .ok (.iload_n 2, 1) := by decide +kernel
theorem d_267_16 : decode (zm_code 267) 16 = .ok (.iload_n 1, 1) := by decide +kernel
theorem d_267_17 : decode (zm_code 267) 17 = .ok (.if_icmp .eq 16, 3) := by decide +kernel
theorem d_267_20 : decode (zm_code 267) 20 = .ok (.aload_n 0, 1) := by decide +kernel
theorem d_267_21 : decode (zm_code 267) 21 = .ok (.getfield 234, 3) := by decide +kernel
theorem d_267_24 : decode (zm_code 267) 24 = .ok (.iload_n 2, 1) := by decide +kernel
theorem d_267_25 : decode (zm_code 267) 25 = .ok (.iaload, 1) := by decide +kernel
theorem d_267_26 : decode (zm_code 267) 26 = .ok (.istore_n 2, 1) := by decide +kernel
theorem d_267_27 : decode (zm_code 267) 27 = .ok (.iinc 3 1, 3) := by decide +kernel
theorem d_267_30 : decode (zm_code 267) 30 = .ok (.goto (-21), 3) := by decide +kernel
theorem d_267_33 : decode (zm_code 267) 33 = .ok (.iload_n 2, 1) := by decide +kernel
theorem d_267_34 : decode (zm_code 267) 34 = .ok (.iload_n 1, 1) := by decide +kernel
theorem d_267_35 : decode (zm_code 267) 35 = .ok (.if_icmp .ne 7, 3) := by decide +kernel
theorem d_267_38 : decode (zm_code 267) 38 = .ok (.iconst 1, 1) := by decide +kernel
theorem d_267_39 : decode (zm_code 267) 39 = .ok (.goto 4, 3) := by decide +kernel
theorem d_267_42 : decode (zm_code 267) 42 = .ok (.iconst 0, 1) := by decide +kernel
theorem d_267_43 : decode (zm_code 267) 43 = .ok (.ireturn, 1) := by decide +kernel
theorem d_268_0 : decode (zm_code 268) 0 = .ok (.aload_n 0, 1) := by decide +kernel
theorem d_268_1 : decode (zm_code 268) 1 = .ok (.iconst 0, 1) := by decide +kernel
theorem d_268_2 : decode (zm_code 268) 2 = .ok (.putfield 246, 3) := by decide +kernel
theorem d_268_5 : decode (zm_code 268) 5 = .ok (.aload_n 0, 1) := by decide +kernel
theorem d_268_6 : decode (zm_code 268) 6 = .ok (.aload_n 0, 1) := by decide +kernel
theorem d_268_7 : decode (zm_code 268) 7 = .ok (.getfield 153, 3) := by decide +kernel
theorem d_268_10 : decode (zm_code 268) 10 = .ok (.iconst 0, 1) := by decide +kernel
theorem d_268_11 : decode (zm_code 268) 11 = .ok (.iaload, 1) := by decide +kernel
theorem d_268_12 : decode (zm_code 268) 12 = .ok (.invokevirtual 594, 3) := by decide +kernel
theorem d_268_15 : decode (zm_code 268) 15 = .ok (.aload_n 0, 1) := by decide +kernel
theorem d_268_16 : decode (zm_code 268) 16 = .ok (.aload_n 0, 1) := by decide +kernel
theorem d_268_17 : decode (zm_code 268) 17 = .ok (.getfield 156, 3) := by decide +kernel
theorem d_268_20 : decode (zm_code 268) 20 = .ok (.iconst 0, 1) := by decide +kernel
theorem d_268_21 : decode (zm_code 268) 21 = .ok (.iaload, 1) := by decide +kernel
theorem d_268_22 : decode (zm_code 268) 22 = .ok (.invokevirtual 597, 3) := by decide +kernel
theorem d_268_25 : decode (zm_code 268) 25 = .ok (.iconst 0, 1) := by decide +kernel
theorem d_268_26 : decode (zm_code 268) 26 = .ok (.istore_n 1, 1) := by decide +kernel
theorem d_268_27 : decode (zm_code 268) 27 = .ok (.iload_n 1, 1) := by decide +kernel
theorem d_268_28 : decode (zm_code 268) 28 = .ok (.aload_n 0, 1) := by decide +kernel
theorem d_268_29 : decode (zm_code 268) 29 = .ok (.getfield 63, 3) := by decide +kernel
theorem d_268_32 : decode (zm_code 268) 32 = .ok (.aload_n 0, 1) := by decide +kernel
theorem d_268_33 : decode (zm_code 268) 33 = .ok (.getfield 51, 3) := by decide +kernel
theorem d_268_36 : decode (zm_code 268) 36 = .ok (.iaload, 1) := by decide +kernel
theorem d_268_37 : decode (zm_code 268) 37 = .ok (.if_icmp .ge 41, 3) := by decide +kernel
theorem d_268_40 : decode (zm_code 268) 40 = .ok (.iconst 0, 1) := by decide +kernel
theorem d_268_41 : decode (zm_code 268) 41 = .ok (.istore_n 2, 1) := by decide +kernel
theorem d_268_42 : decode (zm_code 268) 42 = .ok (.iload_n 2, 1) := by decide +kernel
theorem d_268_43 : decode (zm_code 268) 43 = .ok (.aload_n 0, 1) := by decide +kernel
theorem d_268_44 : decode (zm_code 268) 44 = .ok (.getfield 54, 3) := by decide +kernel
theorem d_268_47 : decode (zm_code 268) 47 = .ok (.aload_n 0, 1) := by decide +kernel
theorem d_268_48 : decode (zm_code 268) 48 = .ok (.getfield 51, 3) := by decide +kernel
theorem d_268_51 : decode (zm_code 268) 51 = .ok (.iaload, 1) := by decide +kernel
theorem d_268_52 : decode (zm_code 268) 52 = .ok (.if_icmp .ge 20, 3) := by decide +kernel
theorem d_268_55 : decode (zm_code 268) 55 = .ok (.aload_n 0, 1) := by decide +kernel
theorem d_268_56 : decode (zm_code 268) 56 = .ok (.aload_n 0, 1) := by decide +kernel
theorem d_268_57 : decode (zm_code 268) 57 = .ok (.iconst 0, 1) := by decide +kernel
theorem d_268_58 : decode (zm_code 268) 58 = .ok (.iload_n 1, 1) := by decide +kernel
theorem d_268_59 : decode (zm_code 268) 59 = .ok (.iload_n 2, 1) := by decide +kernel
theorem d_268_60 : decode (zm_code 268) 60 = .ok (.invokevirtual 460, 3) := by decide +kernel
theorem d_268_63 : decode (zm_code 268) 63 = .ok (.invokevirtual 594, 3) := by decide +kernel
theorem d_268_66 : decode (zm_code 268) 66 = .ok (.iinc 2 1, 3) := by decide +kernel
theorem d_268_69 : decode (zm_code 268) 69 = .ok (.goto (-27), 3) := by decide +kernel
theorem d_268_72 : decode (zm_code 268) 72 = .ok (.iinc 1 1, 3) := by decide +kernel
theorem d_268_75 : decode (zm_code 268) 75 = .ok (.goto (-48), 3) := by decide +kernel
theorem d_268_78 : decode (zm_code 268) 78 = .ok (.iconst 0, 1) := by decide +kernel
theorem d_268_79 : decode (zm_code 268) 79 = .ok (.istore_n 1, 1) := by decide +kernel
theorem d_268_80 : decode (zm_code 268) 80 = .ok (.iload_n 1, 1) := by decide +kernel
theorem d_268_81 : decode (zm_code 268) 81 = .ok (.aload_n 0, 1) := by decide +kernel
theorem d_268_82 : decode (zm_code 268) 82 = .ok (.getfield 69, 3) := by decide +kernel
theorem d_268_85 : decode (zm_code 268) 85 = .ok (.aload_n 0, 1) := by decide +kernel
theorem d_268_86 : decode (zm_code 268) 86 = .ok (.getfield 51, 3) := by decide +kernel
theorem d_268_89 : decode (zm_code 268) 89 = .ok (.iaload, 1) := by decide +kernel
theorem d_268_90 : decode (zm_code 268) 90 = .ok (.if_icmp .ge 51, 3) := by decide +kernel
theorem d_268_93 : decode (zm_code 268) 93 = .ok (.aload_n 0, 1) := by decide +kernel
theorem d_268_94 : decode (zm_code 268) 94 = .ok (.aload_n 0, 1) := by decide +kernel
theorem d_268_95 : decode (zm_code 268) 95 = .ok (.getfield 162, 3) := by decide +kernel
theorem d_268_98 : decode (zm_code 268) 98 = .ok (.iload_n 1, 1) := by decide +kernel
theorem d_268_99 : decode (zm_code 268) 99 = .ok (.iaload, 1) := by decide +kernel
theorem d_268_100 : decode (zm_code 268) 100 = .ok (.invokevirtual 597, 3) := by decide +kernel
theorem d_268_103 : decode (zm_code 268) 103 = .ok (.iconst 0, 1) := by decide +kernel
theorem d_268_104 : decode (zm_code 268) 104 = .ok (.istore_n 2, 1) := by decide +kernel
theorem d_268_105 : decode (zm_code 268) 105 = .ok (.iload_n 2, 1) := by decide +kernel
theorem d_268_106 : decode (zm_code 268) 106 = .ok (.aload_n 0, 1) := by decide +kernel
theorem d_268_107 : decode (zm_code 268) 107 = .ok (.getfield 54, 3) := by decide +kernel
theorem d_268_110 : decode (zm_code 268) 110 = .ok (.aload_n 0, 1) := by decide +kernel
theorem d_268_111 : decode (zm_code 268) 111 = .ok (.getfield 51, 3) := by decide +kernel
theorem d_268_114 : decode (zm_code 268) 114 = .ok (.iaload, 1) := by decide +kernel
theorem d_268_115 : decode (zm_code 268) 115 = .ok (.if_icmp .ge 20, 3) := by decide +kernel
theorem d_268_118 : decode (zm_code 268) 118 = .ok (.aload_n 0, 1) := by decide +kernel
theorem d_268_119 : decode (zm_code 268) 119 = .ok (.aload_n 0, 1) := by decide +kernel
theorem d_268_120 : decode (zm_code 268) 120 = .ok (.iconst 0, 1) := by decide +kernel
theorem d_268_121 : decode (zm_code 268) 121 = .ok (.iload_n 1, 1) := by decide +kernel
theorem d_268_122 : decode (zm_code 268) 122 = .ok (.iload_n 2, 1) := by decide +kernel
theorem d_268_123 : decode (zm_code 268) 123 = .ok (.invokevirtual 512, 3) := by decide +kernel
theorem d_268_126 : decode (zm_code 268) 126 = .ok (.invokevirtual 597, 3) := by decide +kernel
theorem d_268_129 : decode (zm_code 268) 129 = .ok (.iinc 2 1, 3) := by decide +kernel
theorem d_268_132 : decode (zm_code 268) 132 = .ok (.goto (-27), 3) := by decide +kernel
theorem d_268_135 : decode (zm_code 268) 135 = .ok (.iinc 1 1, 3) := by decide +kernel
theorem d_268_138 : decode (zm_code 268) 138 = .ok (.goto (-58), 3) := by decide +kernel
theorem d_268_141 : decode (zm_code 268) 141 = .ok (.bipush 109, 2) := by decide +kernel
theorem d_268_143 : decode (zm_code 268) 143 = .ok (.istore_n 1, 1) := by decide +kernel
theorem d_268_144 : decode (zm_code 268) 144 = .ok (.iconst 0, 1) := by decide +kernel
theorem d_268_145 : decode (zm_code 268) 145 = .ok (.istore_n 2, 1) := by decide +kernel
theorem d_268_146 : decode (zm_code 268) 146 = .ok (.iload_n 2, 1) := by decide +kernel
theorem d_268_147 : decode (zm_code 268) 147 = .ok (.aload_n 0, 1) := by decide +kernel
theorem d_268_148 : decode (zm_code 268) 148 = .ok (.getfield 246, 3) := by decide +kernel
theorem d_268_151 : decode (zm_code 268) 151 = .ok (.if_icmp .ge 24, 3) := by decide +kernel
theorem d_268_154 : decode (zm_code 268) 154 = .ok (.iconst 5, 1) := by decide +kernel
theorem d_268_155 : decode (zm_code 268) 155 = .ok (.iload_n 1, 1) := by decide +kernel
theorem d_268_156 : decode (zm_code 268) 156 = .ok (.imul, 1) := by decide +kernel
theorem d_268_157 : decode (zm_code 268) 157 = .ok (.aload_n 0, 1) := by decide +kernel
theorem d_268_158 : decode (zm_code 268) 158 = .ok (.getfield 243, 3) := by decide +kernel
theorem d_268_161 : decode (zm_code 268) 161 = .ok (.iload_n 2, 1) := by decide +kernel
theorem d_268_162 : decode (zm_code 268) 162 = .ok (.iaload, 1) := by decide +kernel
theorem d_268_163 : decode (zm_code 268) 163 = .ok (.iadd, 1) := by decide +kernel
theorem d_268_164 : decode (zm_code 268) 164 = .ok (.sipush 251, 3) := by decide +kernel
theorem d_268_167 : decode (zm_code 268) 167 = .ok (.irem, 1) := by decide +kernel
theorem d_268_168 : decode (zm_code 268) 168 = .ok (.istore_n 1, 1) := by decide +kernel
theorem d_268_169 : decode (zm_code 268) 169 = .ok (.iinc 2 1, 3) := by decide +kernel
theorem d_268_172 : decode (zm_code 268) 172 = .ok (.goto (-26), 3) := by decide +kernel
theorem d_268_175 : decode (zm_code 268) 175 = .ok (.aload_n 0, 1) := by decide +kernel
theorem d_268_176 : decode (zm_code 268) 176 = .ok (.iload_n 1, 1) := by decide +kernel
theorem d_268_177 : decode (zm_code 268) 177 = .ok (.invokevirtual 594, 3) := by decide +kernel
theorem d_268_180 : decode (zm_code 268) 180 = .ok (.aload_n 0, 1) := by decide +kernel
theorem d_268_181 : decode (zm_code 268) 181 = .ok (.getfield 246, 3) := by decide +kernel
theorem d_268_184 : decode (zm_code 268) 184 = .ok (.ireturn, 1) := by decide +kernel
theorem d_269_0 : decode (zm_code 269) 0 = .ok (.aload_n 0, 1) := by decide +kernel
theorem d_269_1 : decode (zm_code 269) 1 = .ok (.getfield 243, 3) := by decide +kernel
theorem d_269_4 : decode (zm_code 269) 4 = .ok (.aload_n 0, 1) := by decide +kernel
theorem d_269_5 : decode (zm_code 269) 5 = .ok (.getfield 246, 3) := by decide +kernel
theorem d_269_8 : decode (zm_code 269) 8 = .ok (.iload_n 1, 1) := by decide +kernel
theorem d_269_9 : decode (zm_code 269) 9 = .ok (.sipush 255, 3) := by decide +kernel
theorem d_269_12 : decode (zm_code 269) 12 = .ok (.iand, 1) := by decide +kernel
theorem d_269_13 : decode (zm_code 269) 13 = .ok (.iastore, 1) := by decide +kernel
theorem d_269_14 : decode (zm_code 269) 14 = .ok (.aload_n 0, 1) := by decide +kernel
theorem d_269_15 : decode (zm_code 269) 15 = .ok (.dup, 1) := by decide +kernel
theorem d_269_16 : decode (zm_code 269) 16 = .ok (.getfield 246, 3) := by decide +kernel
theorem d_269_19 : decode (zm_code 269) 19 = .ok (.iconst 1, 1) := by decide +kernel
theorem d_269_20 : decode (zm_code 269) 20 = .ok (.iadd, 1) := by decide +kernel
theorem d_269_21 : decode (zm_code 269) 21 = .ok (.putfield 246, 3) := by decide +kernel
theorem d_269_24 : decode (zm_code 269) 24 = .ok (.return_, 1) := by decide +kernel
theorem d_270_0 : decode (zm_code 270) 0 = .ok (.aload_n 0, 1) := by decide +kernel
theorem d_270_1 : decode (zm_code 270) 1 = .ok (.iload_n 1, 1) := by decide +kernel
theorem d_270_2 : decode (zm_code 270) 2 = .ok (.bipush 8, 2) := by decide +kernel
theorem d_270_4 : decode (zm_code 270) 4 = .ok (.ishr, 1) := by decide +kernel
theorem d_270_5 : decode (zm_code 270) 5 = .ok (.invokevirtual 594, 3) := by decide +kernel
theorem d_270_8 : decode (zm_code 270) 8 = .ok (.aload_n 0, 1) := by decide +kernel
theorem d_270_9 : decode (zm_code 270) 9 = .ok (.iload_n 1, 1) := by decide +kernel
theorem d_270_10 : decode (zm_code 270) 10 = .ok (.invokevirtual 594, 3) := by decide +kernel
theorem d_270_13 : decode (zm_code 270) 13 = .ok (.return_, 1) := by decide +kernel
theorem d_271_0 : decode (zm_code 271) 0 = .ok (.iload_n 1, 1) := by decide +kernel
theorem d_271_1 : decode (zm_code 271) 1 = .ok (.iconst 0, 1) := by decide +kernel
theorem d_271_2 : decode (zm_code 271) 2 = .ok (.aload_n 0, 1) := by decide +kernel
theorem d_271_3 : decode (zm_code 271) 3 = .ok (.getfield 246, 3) := by decide +kernel
theorem d_271_6 : decode (zm_code 271) 6 = .ok (.iconst 1, 1) := by decide +kernel
theorem d_271_7 : decode (zm_code 271) 7 = .ok (.isub, 1) := by decide +kernel
theorem d_271_8 : decode (zm_code 271) 8 = .ok (.invokestatic 335, 3) := by decide +kernel
theorem d_271_11 : decode (zm_code 271) 11 = .ok (.ifCond .eq 12, 3) := by decide +kernel
theorem d_271_14 : decode (zm_code 271) 14 = .ok (.aload_n 0, 1) := by decide +kernel
theorem d_271_15 : decode (zm_code 271) 15 = .ok (.getfield 243, 3) := by decide +kernel
theorem d_271_18 : decode (zm_code 271) 18 = .ok (.iload_n 1, 1) := by decide +kernel
theorem d_271_19 : decode (zm_code 271) 19 = .ok (.iaload, 1) := by decide +kernel
theorem d_271_20 : decode (zm_code 271) 20 = .ok (.goto 4, 3) := by decide +kernel
theorem d_271_23 : decode (zm_code 271) 23 = .ok (.iconst (-1), 1) := by decide +kernel
theorem d_271_24 : decode (zm_code 271) 24 = .ok (.ireturn, 1) := by decide +kernel
theorem d_272_0 : decode (zm_code 272) 0 = .ok (.aload_n 0, 1) := by decide +kernel
theorem d_272_1 : decode (zm_code 272) 1 = .ok (.getfield 13, 3) := by decide +kernel
theorem d_272_4 : decode (zm_code 272) 4 = .ok (.istore_n 1, 1) := by decide +kernel
theorem d_272_5 : decode (zm_code 272) 5 = .ok (.aload_n 0, 1) := by decide +kernel
theorem d_272_6 : decode (zm_code 272) 6 = .ok (.iconst 0, 1) := by decide +kernel
theorem d_272_7 : decode (zm_code 272) 7 = .ok (.putfield 13, 3) := by decide +kernel
theorem d_272_10 : decode (zm_code 272) 10 = .ok (.aload_n 0, 1) := by decide +kernel
theorem d_272_11 : decode (zm_code 272) 11 = .ok (.iload_n 1, 1) := by decide +kernel
theorem d_272_12 : decode (zm_code 272) 12 = .ok (.invokevirtual 603, 3) := by decide +kernel
theorem d_272_15 : decode (zm_code 272) 15 = .ok (.ifCond .ne 17, 3) := by decide +kernel
theorem d_272_18 : decode (zm_code 272) 18 = .ok (.aload_n 0, 1) := by decide +kernel
theorem d_272_19 : decode (zm_code 272) 19 = .ok (.iconst 5, 1) := by decide +kernel
theorem d_272_20 : decode (zm_code 272) 20 = .ok (.invokevirtual 249, 3) := by decide +kernel
theorem d_272_23 : decode (zm_code 272) 23 = .ok (.ifCond .lt 7, 3) := by decide +kernel
theorem d_272_26 : decode (zm_code 272) 26 = .ok (.iconst 1, 1) := by decide +kernel
theorem d_272_27 : decode (zm_code 272) 27 = .ok (.goto 4, 3) := by decide +kernel
theorem d_272_30 : decode (zm_code 272) 30 = .ok (.iconst 0, 1) := by decide +kernel
theorem d_272_31 : decode (zm_code 272) 31 = .ok (.ireturn, 1) := by decide +kernel
theorem d_272_32 : decode (zm_code 272) 32 = .ok (.aload_n 0, 1) := by decide +kernel
theorem d_272_33 : decode (zm_code 272) 33 = .ok (.iconst 0, 1) := by decide +kernel
theorem d_272_34 : decode (zm_code 272) 34 = .ok (.iconst 1, 1) := by decide +kernel
theorem d_272_35 : decode (zm_code 272) 35 = .ok (.invokevirtual 437, 3) := by decide +kernel
theorem d_272_38 : decode (zm_code 272) 38 = .ok (.aload_n 0, 1) := by decide +kernel
theorem d_272_39 : decode (zm_code 272) 39 = .ok (.iconst 0, 1) := by decide +kernel
theorem d_272_40 : decode (zm_code 272) 40 = .ok (.putfield 186, 3) := by decide +kernel
theorem d_272_43 : decode (zm_code 272) 43 = .ok (.iconst 1, 1) := by decide +kernel
theorem d_272_44 : decode (zm_code 272) 44 = .ok (.ireturn, 1) := by decide +kernel
theorem d_273_0 : decode (zm_code 273) 0 = .ok (.aload_n 0, 1) := by decide +kernel
theorem d_273_1 : decode (zm_code 273) 1 = .ok (.getfield 63, 3) := by decide +kernel
theorem d_273_4 : decode (zm_code 273) 4 = .ok (.aload_n 0, 1) := by decide +kernel
theorem d_273_5 : decode (zm_code 273) 5 = .ok (.getfield 51, 3) := by decide +kernel
theorem d_273_8 : decode (zm_code 273) 8 = .ok (.iaload, 1) := by decide +kernel
theorem d_273_9 : decode (zm_code 273) 9 = .ok (.aload_n 0, 1) := by decide +kernel
theorem d_273_10 : decode (zm_code 273) 10 = .ok (.getfield 54, 3) := by decide +kernel
theorem d_273_13 : decode (zm_code 273) 13 = .ok (.aload_n 0, 1) := by decide +kernel
theorem d_273_14 : decode (zm_code 273) 14 = .ok (.getfield 51, 3) := by decide +kernel
theorem d_273_17 : decode (zm_code 273) 17 = .ok (.iaload, 1) := by decide +kernel
theorem d_273_18 : decode (zm_code 273) 18 = .ok (.imul, 1) := by decide +kernel
theorem d_273_19 : decode (zm_code 273) 19 = .ok (.istore_n 2, 1) := by decide +kernel
theorem d_273_20 : decode (zm_code 273) 20 = .ok (.iconst 2, 1) := by decide +kernel
theorem d_273_21 : decode (zm_code 273) 21 = .ok (.iconst 2, 1) := by decide +kernel
theorem d_273_22 : decode (zm_code 273) 22 = .ok (.aload_n 0, 1) := by decide +kernel
theorem d_273_23 : decode (zm_code 273) 23 = .ok (.getfield 54, 3) := by decide +kernel
theorem d_273_26 : decode (zm_code 273) 26 = .ok (.aload_n 0, 1) := by decide +kernel
theorem d_273_27 : decode (zm_code 273) 27 = .ok (.getfield 51, 3) := by decide +kernel
theorem d_273_30 : decode (zm_code 273) 30 = .ok (.iaload, 1) := by decide +kernel
theorem d_273_31 : decode (zm_code 273) 31 = .ok (.imul, 1) := by decide +kernel
theorem d_273_32 : decode (zm_code 273) 32 = .ok (.iadd, 1) := by decide +kernel
theorem d_273_33 : decode (zm_code 273) 33 = .ok (.istore_n 3, 1) := by decide +kernel
theorem d_273_34 : decode (zm_code 273) 34 = .ok (.iload_n 1, 1) := by decide +kernel
theorem d_273_35 : decode (zm_code 273) 35 = .ok (.iconst 4, 1) := by decide +kernel
theorem d_273_36 : decode (zm_code 273) 36 = .ok (.iload_n 2, 1) := by decide +kernel
theorem d_273_37 : decode (zm_code 273) 37 = .ok (.iadd, 1) := by decide +kernel
theorem d_273_38 : decode (zm_code 273) 38 = .ok (.iload_n 3, 1) := by decide +kernel
theorem d_273_39 : decode (zm_code 273) 39 = .ok (.aload_n 0, 1) := by decide +kernel
theorem d_273_40 : decode (zm_code 273) 40 = .ok (.getfield 69, 3) := by decide +kernel
theorem d_273_43 : decode (zm_code 273) 43 = .ok (.aload_n 0, 1) := by decide +kernel
theorem d_273_44 : decode (zm_code 273) 44 = .ok (.getfield 51, 3) := by decide +kernel
theorem d_273_47 : decode (zm_code 273) 47 = .ok (.iaload, 1) := by decide +kernel
theorem d_273_48 : decode (zm_code 273) 48 = .ok (.imul, 1) := by decide +kernel
theorem d_273_49 : decode (zm_code 273) 49 = .ok (.iadd, 1) := by decide +kernel
theorem d_273_50 : decode (zm_code 273) 50 = .ok (.if_icmp .ne 25, 3) := by decide +kernel
theorem d_273_53 : decode (zm_code 273) 53 = .ok (.aload_n 0, 1) := by decide +kernel
theorem d_273_54 : decode (zm_code 273) 54 = .ok (.getfield 7, 3) := by decide +kernel
theorem d_273_57 : decode (zm_code 273) 57 = .ok (.iconst 0, 1) := by decide +kernel
theorem d_273_58 : decode (zm_code 273) 58 = .ok (.iaload, 1) := by decide +kernel
theorem d_273_59 : decode (zm_code 273) 59 = .ok (.bipush 99, 2) := by decide +kernel
theorem d_273_61 : decode (zm_code 273) 61 = .ok (.if_icmp .gt 14, 3) := by decide +kernel
theorem d_273_64 : decode (zm_code 273) 64 = .ok (.aload_n 0, 1) := by decide +kernel
theorem d_273_65 : decode (zm_code 273) 65 = .ok (.iconst 1, 1) := by decide +kernel
theorem d_273_66 : decode (zm_code 273) 66 = .ok (.invokevirtual 600, 3) := by decide +kernel
theorem d_273_69 : decode (zm_code 273) 69 = .ok (.sipush 9999, 3) := by decide +kernel
theorem d_273_72 : decode (zm_code 273) 72 = .ok (.if_icmp .le 5, 3) := by decide +kernel
theorem d_273_75 : decode (zm_code 273) 75 = .ok (.iconst 0, 1) := by decide +kernel
theorem d_273_76 : decode (zm_code 273) 76 = .ok (.ireturn, 1) := by decide +kernel
theorem d_273_77 : decode (zm_code 273) 77 = .ok (.bipush 109, 2) := by decide +kernel
theorem d_273_79 : decode (zm_code 273) 79 = .ok (.istore 4, 2) := by decide +kernel
theorem d_273_81 : decode (zm_code 273) 81 = .ok (.iconst 0, 1) := by decide +kernel
theorem d_273_82 : decode (zm_code 273) 82 = .ok (.istore 5, 2) := by decide +kernel
theorem d_273_84 : decode (zm_code 273) 84 = .ok (.iload 5, 2) := by decide +kernel
theorem d_273_86 : decode (zm_code 273) 86 = .ok (.iload_n 1, 1) := by decide +kernel
theorem d_273_87 : decode (zm_code 273) 87 = .ok (.iconst 1, 1) := by decide +kernel
theorem d_273_88 : decode (zm_code 273) 88 = .ok (.isub, 1) := by decide +kernel
theorem d_273_89 : decode (zm_code 273) 89 = .ok (.if_icmp .ge 27, 3) := by decide +kernel
theorem d_273_92 : decode (zm_code 273) 92 = .ok (.iconst 5, 1) := by decide +kernel
theorem d_273_93 : decode (zm_code 273) 93 = .ok (.iload 4, 2) := by decide +kernel
theorem d_273_95 : decode (zm_code 273) 95 = .ok (.imul, 1) := by decide +kernel
theorem d_273_96 : decode (zm_code 273) 96 = .ok (.aload_n 0, 1) := by decide +kernel
theorem d_273_97 : decode (zm_code 273) 97 = .ok (.getfield 7, 3) := by decide +kernel
theorem d_273_100 : decode (zm_code 273) 100 = .ok (.iload 5, 2) := by decide +kernel
theorem d_273_102 : decode (zm_code 273) 102 = .ok (.iaload, 1) := by decide +kernel
theorem d_273_103 : decode (zm_code 273) 103 = .ok (.iadd, 1) := by decide +kernel
theorem d_273_104 : decode (zm_code 273) 104 = .ok (.sipush 251, 3) := by decide +kernel
theorem d_273_107 : decode (zm_code 273) 107 = .ok (.irem, 1) := by decide +kernel
theorem d_273_108 : decode (zm_code 273) 108 = .ok (.istore 4, 2) := by decide +kernel
theorem d_273_110 : decode (zm_code 273) 110 = .ok (.iinc 5 1, 3) := by decide +kernel
theorem d_273_113 : decode (zm_code 273) 113 = .ok (.goto (-29), 3) := by decide +kernel
theorem d_273_116 : decode (zm_code 273) 116 = .ok (.aload_n 0, 1) := by decide +kernel
theorem d_273_117 : decode (zm_code 273) 117 = .ok (.getfield 7, 3) := by decide +kernel
theorem d_273_120 : decode (zm_code 273) 120 = .ok (.iload_n 1, 1) := by decide +kernel
theorem d_273_121 : decode (zm_code 273) 121 = .ok (.iconst 1, 1) := by decide +kernel
theorem d_273_122 : decode (zm_code 273) 122 = .ok (.isub, 1) := by decide +kernel
theorem d_273_123 : decode (zm_code 273) 123 = .ok (.iaload, 1) := by decide +kernel
theorem d_273_124 : decode (zm_code 273) 124 = .ok (.iload 4, 2) := by decide +kernel
theorem d_273_126 : decode (zm_code 273) 126 = .ok (.if_icmp .eq 5, 3) := by decide +kernel
theorem d_273_129 : decode (zm_code 273) 129 = .ok (.iconst 0, 1) := by decide +kernel
theorem d_273_130 : decode (zm_code 273) 130 = .ok (.ireturn, 1) := by decide +kernel
theorem d_273_131 : decode (zm_code 273) 131 = .ok (.aload_n 0, 1) := by decide +kernel
theorem d_273_132 : decode (zm_code 273) 132 = .ok (.iconst 1, 1) := by decide +kernel
theorem d_273_133 : decode (zm_code 273) 133 = .ok (.iconst 0, 1) := by decide +kernel
theorem d_273_134 : decode (zm_code 273) 134 = .ok (.invokevirtual 437, 3) := by decide +kernel
theorem d_273_137 : decode (zm_code 273) 137 = .ok (.aload_n 0, 1) := by decide +kernel
theorem d_273_138 : decode (zm_code 273) 138 = .ok (.getfield 153, 3) := by decide +kernel
theorem d_273_141 : decode (zm_code 273) 141 = .ok (.iconst 1, 1) := by decide +kernel
theorem d_273_142 : decode (zm_code 273) 142 = .ok (.aload_n 0, 1) := by decide +kernel
theorem d_273_143 : decode (zm_code 273) 143 = .ok (.getfield 7, 3) := by decide +kernel
theorem d_273_146 : decode (zm_code 273) 146 = .ok (.iconst 0, 1) := by decide +kernel
theorem d_273_147 : decode (zm_code 273) 147 = .ok (.iaload, 1) := by decide +kernel
theorem d_273_148 : decode (zm_code 273) 148 = .ok (.iastore, 1) := by decide +kernel
theorem d_273_149 : decode (zm_code 273) 149 = .ok (.aload_n 0, 1) := by decide +kernel
theorem d_273_150 : decode (zm_code 273) 150 = .ok (.getfield 156, 3) := by decide +kernel
theorem d_273_153 : decode (zm_code 273) 153 = .ok (.iconst 1, 1) := by decide +kernel
theorem d_273_154 : decode (zm_code 273) 154 = .ok (.aload_n 0, 1) := by decide +kernel
theorem d_273_155 : decode (zm_code 273) 155 = .ok (.iconst 1, 1) := by decide +kernel
theorem d_273_156 : decode (zm_code 273) 156 = .ok (.invokevirtual 600, 3) := by decide +kernel
theorem d_273_159 : decode (zm_code 273) 159 = .ok (.iastore, 1) := by decide +kernel
theorem d_273_160 : decode (zm_code 273) 160 = .ok (.aload_n 0, 1) := by decide +kernel
theorem d_273_161 : decode (zm_code 273) 161 = .ok (.getfield 168, 3) := by decide +kernel
theorem d_273_164 : decode (zm_code 273) 164 = .ok (.iconst 1, 1) := by decide +kernel
theorem d_273_165 : decode (zm_code 273) 165 = .ok (.iconst 0, 1) := by decide +kernel
theorem d_273_166 : decode (zm_code 273) 166 = .ok (.iastore, 1) := by decide +kernel
theorem d_273_167 : decode (zm_code 273) 167 = .ok (.iconst 0, 1) := by decide +kernel
theorem d_273_168 : decode (zm_code 273) 168 = .ok (.istore 5, 2) := by decide +kernel
theorem d_273_170 : decode (zm_code 273) 170 = .ok (.iload 5, 2) := by decide +kernel
theorem d_273_172 : decode (zm_code 273) 172 = .ok (.iload_n 2, 1) := by decide +kernel
theorem d_273_173 : decode (zm_code 273) 173 = .ok (.if_icmp .ge 70, 3) := by decide +kernel
theorem d_273_176 : decode (zm_code 273) 176 = .ok (.aload_n 0, 1) := by decide +kernel
theorem d_273_177 : decode (zm_code 273) 177 = .ok (.getfield 159, 3) := by decide +kernel
theorem d_273_180 : decode (zm_code 273) 180 = .ok (.bipush 40, 2) := by decide +kernel
theorem d_273_182 : decode (zm_code 273) 182 = .ok (.bipush 8, 2) := by decide +kernel
theorem d_273_184 : decode (zm_code 273) 184 = .ok (.iload 5, 2) := by decide +kernel
theorem d_273_186 : decode (zm_code 273) 186 = .ok (.aload_n 0, 1) := by decide +kernel
theorem d_273_187 : decode (zm_code 273) 187 = .ok (.getfield 54, 3) := by decide +kernel
theorem d_273_190 : decode (zm_code 273) 190 = .ok (.aload_n 0, 1) := by decide +kernel
theorem d_273_191 : decode (zm_code 273) 191 = .ok (.getfield 51, 3) := by decide +kernel
theorem d_273_194 : decode (zm_code 273) 194 = .ok (.iaload, 1) := by decide +kernel
theorem d_273_195 : decode (zm_code 273) 195 = .ok (.idiv, 1) := by decide +kernel
theorem d_273_196 : decode (zm_code 273) 196 = .ok (.imul, 1) := by decide +kernel
theorem d_273_197 : decode (zm_code 273) 197 = .ok (.iadd, 1) := by decide +kernel
theorem d_273_198 : decode (zm_code 273) 198 = .ok (.iload 5, 2) := by decide +kernel
theorem d_273_200 : decode (zm_code 273) 200 = .ok (.aload_n 0, 1) := by decide +kernel
theorem d_273_201 : decode (zm_code 273) 201 = .ok (.getfield 54, 3) := by decide +kernel
theorem d_273_204 : decode (zm_code 273) 204 = .ok (.aload_n 0, 1) := by decide +kernel
theorem d_273_205 : decode (zm_code 273) 205 = .ok (.getfield 51, 3) := by decide +kernel
theorem d_273_208 : decode (zm_code 273) 208 = .ok (.iaload, 1) := by decide +kernel
theorem d_273_209 : decode (zm_code 273) 209 = .ok (.irem, 1) := by decide +kernel
theorem d_273_210 : decode (zm_code 273) 210 = .ok (.iadd, 1) := by decide +kernel
theorem d_273_211 : decode (zm_code 273) 211 = .ok (.aload_n 0, 1) := by decide +kernel
theorem d_273_212 : decode (zm_code 273) 212 = .ok (.getfield 7, 3) := by decide +kernel
theorem d_273_215 : decode (zm_code 273) 215 = .ok (.iconst 3, 1) := by decide +kernel
theorem d_273_216 : decode (zm_code 273) 216 = .ok (.iload 5, 2) := by decide +kernel
theorem d_273_218 : decode (zm_code 273) 218 = .ok (.iadd, 1) := by decide +kernel
theorem d_273_219 : decode (zm_code 273) 219 = .ok (.iaload, 1) := by decide +kernel
theorem d_273_220 : decode (zm_code 273) 220 = .ok (.iastore, 1) := by decide +kernel
theorem d_273_221 : decode (zm_code 273) 221 = .ok (.aload_n 0, 1) := by decide +kernel
theorem d_273_222 : decode (zm_code 273) 222 = .ok (.getfield 7, 3) := by decide +kernel
theorem d_273_225 : decode (zm_code 273) 225 = .ok (.iconst 3, 1) := by decide +kernel
theorem d_273_226 : decode (zm_code 273) 226 = .ok (.iload 5, 2) := by decide +kernel
theorem d_273_228 : decode (zm_code 273) 228 = .ok (.iadd, 1) := by decide +kernel
theorem d_273_229 : decode (zm_code 273) 229 = .ok (.iaload, 1) := by decide +kernel
theorem d_273_230 : decode (zm_code 273) 230 = .ok (.bipush 99, 2) := by decide +kernel
theorem d_273_232 : decode (zm_code 273) 232 = .ok (.if_icmp .le 5, 3) := by decide +kernel
theorem d_273_235 : decode (zm_code 273) 235 = .ok (.iconst 0, 1) := by decide +kernel
theorem d_273_236 : decode (zm_code 273) 236 = .ok (.ireturn, 1) := by decide +kernel
theorem d_273_237 : decode (zm_code 273) 237 = .ok (.iinc 5 1, 3) := by decide +kernel
theorem d_273_240 : decode (zm_code 273) 240 = .ok (.goto (-70), 3) := by decide +kernel
theorem d_273_243 : decode (zm_code 273) 243 = .ok (.iconst 0, 1) := by decide +kernel
theorem d_273_244 : decode (zm_code 273) 244 = .ok (.istore 5, 2) := by decide +kernel
theorem d_273_246 : decode (zm_code 273) 246 = .ok (.iload 5, 2) := by decide +kernel
theorem d_273_248 : decode (zm_code 273) 248 = .ok (.aload_n 0, 1) := by decide +kernel
theorem d_273_249 : decode (zm_code 273) 249 = .ok (.getfield 69, 3) := by decide +kernel
theorem d_273_252 : decode (zm_code 273) 252 = .ok (.aload_n 0, 1) := by decide +kernel
theorem d_273_253 : decode (zm_code 273) 253 = .ok (.getfield 51, 3) := by decide +kernel
theorem d_273_256 : decode (zm_code 273) 256 = .ok (.iaload, 1) := by decide +kernel
theorem d_273_257 : decode (zm_code 273) 257 = .ok (.if_icmp .ge 122, 3) := by decide +kernel
theorem d_273_260 : decode (zm_code 273) 260 = .ok (.iconst 3, 1) := by decide +kernel
theorem d_273_261 : decode (zm_code 273) 261 = .ok (.iload_n 2, 1) := by decide +kernel
theorem d_273_262 : decode (zm_code 273) 262 = .ok (.iadd, 1) := by decide +kernel
theorem d_273_263 : decode (zm_code 273) 263 = .ok (.iload_n 3, 1) := by decide +kernel
theorem d_273_264 : decode (zm_code 273) 264 = .ok (.iload 5, 2) := by decide +kernel
theorem d_273_266 : decode (zm_code 273) 266 = .ok (.imul, 1) := by decide +kernel
theorem d_273_267 : decode (zm_code 273) 267 = .ok (.iadd, 1) := by decide +kernel
theorem d_273_268 : decode (zm_code 273) 268 = .ok (.istore 6, 2) := by decide +kernel
theorem d_273_270 : decode (zm_code 273) 270 = .ok (.aload_n 0, 1) := by decide +kernel
theorem d_273_271 : decode (zm_code 273) 271 = .ok (.getfield 162, 3) := by decide +kernel
theorem d_273_274 : decode (zm_code 273) 274 = .ok (.bipush 8, 2) := by decide +kernel
theorem d_273_276 : decode (zm_code 273) 276 = .ok (.iload 5, 2) := by decide +kernel
theorem d_273_278 : decode (zm_code 273) 278 = .ok (.iadd, 1) := by decide +kernel
theorem d_273_279 : decode (zm_code 273) 279 = .ok (.aload_n 0, 1) := by decide +kernel
theorem d_273_280 : decode (zm_code 273) 280 = .ok (.iload 6, 2) := by decide +kernel
theorem d_273_282 : decode (zm_code 273) 282 = .ok (.invokevirtual 600, 3) := by decide +kernel
theorem d_273_285 : decode (zm_code 273) 285 = .ok (.iastore, 1) := by decide +kernel
theorem d_273_286 : decode (zm_code 273) 286 = .ok (.aload_n 0, 1) := by decide +kernel
theorem d_273_287 : decode (zm_code 273) 287 = .ok (.iload 6, 2) := by decide +kernel
theorem d_273_289 : decode (zm_code 273) 289 = .ok (.invokevirtual 600, 3) := by decide +kernel
theorem d_273_292 : decode (zm_code 273) 292 = .ok (.sipush 999, 3) := by decide +kernel
theorem d_273_295 : decode (zm_code 273) 295 = .ok (.if_icmp .le 5, 3) := by decide +kernel
theorem d_273_298 : decode (zm_code 273) 298 = .ok (.iconst 0, 1) := by decide +kernel
theorem d_273_299 : decode (zm_code 273) 299 = .ok (.ireturn, 1) := by decide +kernel
theorem d_273_300 : decode (zm_code 273) 300 = .ok (.iconst 0, 1) := by decide +kernel
theorem d_273_301 : decode (zm_code 273) 301 = .ok (.istore 7, 2) := by decide +kernel
theorem d_273_303 : decode (zm_code 273) 303 = .ok (.iload 7, 2) := by decide +kernel
theorem d_273_305 : decode (zm_code 273) 305 = .ok (.aload_n 0, 1) := by decide +kernel
theorem d_273_306 : decode (zm_code 273) 306 = .ok (.getfield 54, 3) := by decide +kernel
theorem d_273_309 : decode (zm_code 273) 309 = .ok (.aload_n 0, 1) := by decide +kernel
theorem d_273_310 : decode (zm_code 273) 310 = .ok (.getfield 51, 3) := by decide +kernel
theorem d_273_313 : decode (zm_code 273) 313 = .ok (.iaload, 1) := by decide +kernel
theorem d_273_314 : decode (zm_code 273) 314 = .ok (.if_icmp .ge 59, 3) := by decide +kernel
theorem d_273_317 : decode (zm_code 273) 317 = .ok (.aload_n 0, 1) := by decide +kernel
theorem d_273_318 : decode (zm_code 273) 318 = .ok (.getfield 165, 3) := by decide +kernel
theorem d_273_321 : decode (zm_code 273) 321 = .ok (.bipush 64, 2) := by decide +kernel
theorem d_273_323 : decode (zm_code 273) 323 = .ok (.bipush 8, 2) := by decide +kernel
theorem d_273_325 : decode (zm_code 273) 325 = .ok (.iload 5, 2) := by decide +kernel
theorem d_273_327 : decode (zm_code 273) 327 = .ok (.imul, 1) := by decide +kernel
theorem d_273_328 : decode (zm_code 273) 328 = .ok (.iadd, 1) := by decide +kernel
theorem d_273_329 : decode (zm_code 273) 329 = .ok (.iload 7, 2) := by decide +kernel
theorem d_273_331 : decode (zm_code 273) 331 = .ok (.iadd, 1) := by decide +kernel
theorem d_273_332 : decode (zm_code 273) 332 = .ok (.aload_n 0, 1) := by decide +kernel
theorem d_273_333 : decode (zm_code 273) 333 = .ok (.iload 6, 2) := by decide +kernel
theorem d_273_335 : decode (zm_code 273) 335 = .ok (.iconst 2, 1) := by decide +kernel
theorem d_273_336 : decode (zm_code 273) 336 = .ok (.iadd, 1) := by decide +kernel
theorem d_273_337 : decode (zm_code 273) 337 = .ok (.iconst 2, 1) := by decide +kernel
theorem d_273_338 : decode (zm_code 273) 338 = .ok (.iload 7, 2) := by decide +kernel
theorem d_273_340 : decode (zm_code 273) 340 = .ok (.imul, 1) := by decide +kernel
theorem d_273_341 : decode (zm_code 273) 341 = .ok (.iadd, 1) := by decide +kernel
theorem d_273_342 : decode (zm_code 273) 342 = .ok (.invokevirtual 600, 3) := by decide +kernel
theorem d_273_345 : decode (zm_code 273) 345 = .ok (.iastore, 1) := by decide +kernel
theorem d_273_346 : decode (zm_code 273) 346 = .ok (.aload_n 0, 1) := by decide +kernel
theorem d_273_347 : decode (zm_code 273) 347 = .ok (.iload 6, 2) := by decide +kernel
theorem d_273_349 : decode (zm_code 273) 349 = .ok (.iconst 2, 1) := by decide +kernel
theorem d_273_350 : decode (zm_code 273) 350 = .ok (.iadd, 1) := by decide +kernel
theorem d_273_351 : decode (zm_code 273) 351 = .ok (.iconst 2, 1) := by decide +kernel
theorem d_273_352 : decode (zm_code 273) 352 = .ok (.iload 7, 2) := by decide +kernel
theorem d_273_354 : decode (zm_code 273) 354 = .ok (.imul, 1) := by decide +kernel
theorem d_273_355 : decode (zm_code 273) 355 = .ok (.iadd, 1) := by decide +kernel
theorem d_273_356 : decode (zm_code 273) 356 = .ok (.invokevirtual 600, 3) := by decide +kernel
theorem d_273_359 : decode (zm_code 273) 359 = .ok (.sipush 9999, 3) := by decide +kernel
theorem d_273_362 : decode (zm_code 273) 362 = .ok (.if_icmp .le 5, 3) := by decide +kernel
theorem d_273_365 : decode (zm_code 273) 365 = .ok (.iconst 0, 1) := by decide +kernel
theorem d_273_366 : decode (zm_code 273) 366 = .ok (.ireturn, 1) := by decide +kernel
theorem d_273_367 : decode (zm_code 273) 367 = .ok (.iinc 7 1, 3) := by decide +kernel
theorem d_273_370 : decode (zm_code 273) 370 = .ok (.goto (-67), 3) := by decide +kernel
theorem d_273_373 : decode (zm_code 273) 373 = .ok (.iinc 5 1, 3) := by decide +kernel
theorem d_273_376 : decode (zm_code 273) 376 = .ok (.goto (-130), 3) := by decide +kernel
theorem d_273_379 : decode (zm_code 273) 379 = .ok (.iconst 1, 1) := by decide +kernel
theorem d_273_380 : decode (zm_code 273) 380 = .ok (.ireturn, 1) := by decide +kernel
theorem d_274_0 : decode (zm_code 274) 0 = .ok (.aload_n 0, 1) := by decide +kernel
theorem d_274_1 : decode (zm_code 274) 1 = .ok (.getfield 7, 3) := by decide +kernel
theorem d_274_4 : decode (zm_code 274) 4 = .ok (.iload_n 1, 1) := by decide +kernel
theorem d_274_5 : decode (zm_code 274) 5 = .ok (.iaload, 1) := by decide +kernel
theorem d_274_6 : decode (zm_code 274) 6 = .ok (.bipush 8, 2) := by decide +kernel
theorem d_274_8 : decode (zm_code 274) 8 = .ok (.ishl, 1) := by decide +kernel
theorem d_274_9 : decode (zm_code 274) 9 = .ok (.aload_n 0, 1) := by decide +kernel
theorem d_274_10 : decode (zm_code 274) 10 = .ok (.getfield 7, 3) := by decide +kernel
theorem d_274_13 : decode (zm_code 274) 13 = .ok (.iload_n 1, 1) := by decide +kernel
theorem d_274_14 : decode (zm_code 274) 14 = .ok (.iconst 1, 1) := by decide +kernel
theorem d_274_15 : decode (zm_code 274) 15 = .ok (.iadd, 1) := by decide +kernel
theorem d_274_16 : decode (zm_code 274) 16 = .ok (.iaload, 1) := by decide +kernel
theorem d_274_17 : decode (zm_code 274) 17 = .ok (.ior, 1) := by decide +kernel
theorem d_274_18 : decode (zm_code 274) 18 = .ok (.ireturn, 1) := by decide +kernel
