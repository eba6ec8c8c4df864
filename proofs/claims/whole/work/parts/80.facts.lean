/-! THE PLAIN MACHINE: what the tables say, checked -/
def zs_wpL : List (List Nat) := [[2217, 2219, 2221, 2223, 2225, 2227, 2229, 2231, 2233, 2235, 2237, 2239, 3001, 3003, 3005, 3007, 3009, 3011], [2141, 2143, 2145], [1125, 1127, 1129, 1131, 1133, 1135, 1137, 1139, 1141, 1143, 1145, 1147, 1149, 1151, 1153, 1155, 1157, 1159, 1161, 1163], [2083, 2085, 2087, 2089, 2091, 2093], [2024, 2026, 2028, 2030], [2177, 2179], [2115, 2117, 2119, 2121, 2123, 2125, 2127], [2190, 2192], [2160, 2162, 2164], [2000, 2002, 2004, 2006, 2008, 2010, 2012, 2014], [1041, 1043], [2056, 2058, 2060, 2062, 2064], [5205, 5207, 5209, 5211, 5213, 5215, 5217, 5219, 5221, 5223, 5225, 5227, 5229, 5231, 5233, 5235, 5237, 5239, 6001, 6003, 6005, 6007, 6009, 6011, 6013, 6015, 6017, 6019, 6021, 6023, 6025, 6027, 6029, 6031, 6033, 6035, 6037, 6039, 6041, 6043, 6045, 6047, 6049, 6051, 6053, 6055, 6057, 6059, 6061, 6063, 6065, 6067, 6069, 6071, 6073, 6075, 6077, 6079, 6081, 6083, 6085, 6087, 6089, 6091, 6093, 6095, 6097, 6099, 6101, 6103, 6105, 6107, 6109, 6111, 6113, 6115, 6117, 6119]]
def zs_tab (j : Nat) : List Cond := match j with
  | 0 => k2_sels lw_privs
  | 1 => tables_1_1
  | 2 => tables_1_2
  | 3 => tables_1_3
  | 4 => tables_1_4
  | 5 => tables_1_5
  | 6 => tables_1_6
  | 7 => tables_1_7
  | 8 => tables_1_8
  | _ => []
def zs_wd (p : Nat) : Option Cond := (zs_tab (p / 1000))[p % 1000]?
def zm_C (c : Nat) : vw_C := zm_cl.getD c ("", zm_T0, 0)
def zm_T (c : Nat) : u_T := (zm_C c).2.1
def zs_fchk (c k : Nat) : Bool := decide ((zm_T c k).2.2.2 = decide (zm_ft c k = 3)) && (decide ((zm_T c k).1 = zm_cn c) && (match zm_ft c k with
  | 0 => decide (parseFieldDescriptor (zm_T c k).2.2.1 = some .int)
  | 1 => decide (parseFieldDescriptor (zm_T c k).2.2.1 = some .boolean)
  | 2 => decide (parseFieldDescriptor (zm_T c k).2.2.1 = some .long)
  | 3 => (match parseFieldDescriptor (zm_T c k).2.2.1 with | some (.array _) => true | some (.object _) => true | _ => false)
  | 4 => (match parseFieldDescriptor (zm_T c k).2.2.1 with | some (.object _) => true | _ => false)
  | _ => false))
theorem zs_fchk_all : (List.range 13).all (fun c => (List.range (zm_fn c)).all (fun k => zs_fchk c k)) = true := by decide +kernel
theorem zs_cl_all : (List.range 13).all (fun c => decide ((zm_C c).1 = zm_cn c ∧ (zm_C c).2.2 = zm_fn c)) = true := by decide +kernel
theorem zs_wp_all : (List.range 13).all (fun c => decide ((zs_wpL.getD c []).map (fun p => zs_wd p) = (u_ws (zm_cn c) (zm_T c) (zm_fn c)).map some)) = true := by decide +kernel
theorem zs_nm_all : (List.range 13).all (fun c => decide ((List.range (zm_fn c)).map (fun k => (zm_T c k).2.1)).Nodup) = true := by decide +kernel
theorem zs_fld_all : zm_fldL.zipIdx.all (fun l => l.1.all (fun q => decide (zs_wd q.2.2.2 = some (.fieldLink (zm_cn l.2) q.1 (zm_cn q.2.1) (zm_T q.2.1 q.2.2.1).2.1 (zm_T q.2.1 q.2.2.1).2.2.1) ∧ q.2.1 < 13 ∧ q.2.2.1 < zm_fn q.2.1))) = true := by decide +kernel
theorem zs_g_initialized : lw_tbl.all (fun w => match w with | .initialized _ => goodWord w | _ => true) = true := by decide +kernel
theorem zs_g_classLink : lw_tbl.all (fun w => match w with | .classLink _ _ _ => goodWord w | _ => true) = true := by decide +kernel
theorem zs_g_instantiable : lw_tbl.all (fun w => match w with | .instantiable _ _ => goodWord w | _ => true) = true := by decide +kernel
theorem zs_g_methodLink : lw_tbl.all (fun w => match w with | .methodLink _ _ _ => goodWord w | _ => true) = true := by decide +kernel
theorem zs_g_instanceMethod : lw_tbl.all (fun w => match w with | .instanceMethod _ => goodWord w | _ => true) = true := by decide +kernel
theorem zs_g_code : lw_tbl.all (fun w => match w with | .code _ _ _ _ => goodWord w | _ => true) = true := by decide +kernel
theorem zs_g_fieldLink : lw_tbl.all (fun w => match w with | .fieldLink _ _ _ _ _ => goodWord w | _ => true) = true := by decide +kernel
theorem zs_g_laysFinal : lw_tbl.all (fun w => match w with | .laysFinal _ _ _ _ => goodWord w | _ => true) = true := by decide +kernel
theorem zs_g_lays : lw_tbl.all (fun w => match w with | .lays _ _ _ _ => goodWord w | _ => true) = true := by decide +kernel
theorem zs_g_selects : lw_tbl.all (fun w => match w with | .selects _ _ _ => goodWord w | _ => true) = true := by decide +kernel
theorem zs_g_constantLong : lw_tbl.all (fun w => match w with | .constantLong _ _ _ => goodWord w | _ => true) = true := by decide +kernel
theorem zs_g_static : lw_tbl.all (fun w => match w with | .static _ => goodWord w | _ => true) = true := by decide +kernel
theorem zs_g_arrayClass : lw_tbl.all (fun w => match w with | .arrayClass _ => goodWord w | _ => true) = true := by decide +kernel
def zm_mn (y : Nat) : MethodName := (zm_nL.getD y (⟨"", "", ""⟩, 0)).1
def zm_mp (y : Nat) : Nat := (zm_nL.getD y (⟨"", "", ""⟩, 0)).2
def zs_rt (r : Nat) : Option FieldType := match r with | 0 => some .int | 1 => some .boolean | 2 => some .long | _ => none
/-- the own methods, but the law's: code word, class, plain name, how many arguments, room for locals -/
def zs_mchk (y : Nat) : Bool := decide ((zm_mn y).cls = zm_cn (zm_own y) ∧ Jvm.plainName (zm_mn y).cls = true ∧ zm_mx y ≤ 21 ∧ (zm_mn y).cls ≠ "java/lang/invoke/MethodHandle" ∧ (zm_mn y).cls ≠ "java/lang/invoke/VarHandle") && (decide (zm_ret y = 4) == decide ((zm_mn y).name = "<init>"))
abbrev zs_cf (r : (MethodName × Nat) × (Nat × ByteArray × Nat × Nat × Nat)) : Option Cond := some (.code r.1.1 r.2.2.1 r.2.2.2.1 (zs_rt r.2.2.2.2.2))
set_option maxRecDepth 100000 in
theorem zs_c0 : zm_nL0.map (fun q => zs_wd q.2) = (zm_nL0.zip zm_mL0).map zs_cf := rfl
set_option maxRecDepth 100000 in
theorem zs_c1 : zm_nL1.map (fun q => zs_wd q.2) = (zm_nL1.zip zm_mL1).map zs_cf := rfl
set_option maxRecDepth 100000 in
theorem zs_c2 : zm_nL2.map (fun q => zs_wd q.2) = (zm_nL2.zip zm_mL2).map zs_cf := rfl
set_option maxRecDepth 100000 in
theorem zs_c3 : zm_nL3.map (fun q => zs_wd q.2) = (zm_nL3.zip zm_mL3).map zs_cf := rfl
set_option maxRecDepth 100000 in
theorem zs_c4 : zm_nL4.map (fun q => zs_wd q.2) = (zm_nL4.zip zm_mL4).map zs_cf := rfl

theorem zs_m_all : (List.range 275).all zs_mchk = true := by decide +kernel
def zs_calchk (own : Nat) (q : Nat × Nat × Nat × Nat × Nat × Nat × Nat) : Bool := match q with
  | (ix, kd, y, p1, p2, p3, p4) => match kd with
    | 0 => decide (zs_wd p1 = some (.methodLink (zm_cn own) ix (zm_mn y)) ∧ zs_wd p2 = some (.instanceMethod (zm_mn y)) ∧ zs_wd p3 = some (.initialized (zm_mn y).cls) ∧ zs_wd p4 = some (.selects (zm_mn y).cls (zm_mn y) (zm_mn y)) ∧ (parseMethodDescriptor (zm_mn y).desc).map (fun d => d.parameters.length + 1) = some (zm_na y) ∧ y < 275)
    | 1 => decide (zs_wd p1 = some (.methodLink (zm_cn own) ix (zm_mn y)) ∧ zs_wd p2 = some (.static (zm_mn y)) ∧ zs_wd p3 = some (.initialized (zm_mn y).cls) ∧ (parseMethodDescriptor (zm_mn y).desc).map (fun d => d.parameters.length) = some (zm_na y) ∧ y < 275)
    | 2 => decide (zs_wd p1 = some (.methodLink (zm_cn own) ix (zm_mn y)) ∧ zs_wd p2 = some (.instanceMethod (zm_mn y)) ∧ zs_wd p3 = some (.initialized (zm_mn y).cls) ∧ (zm_mn y).name = "<init>" ∧ (parseMethodDescriptor (zm_mn y).desc).map (fun d => d.parameters.length + 1) = some (zm_na y) ∧ y < 275)
    | 3 => decide (zs_wd p1 = some (.methodLinkNest (zm_cn own) ix (zm_mn y) "BranTub") ∧ zs_wd p2 = some (.static (zm_mn y)) ∧ zs_wd p3 = some (.initialized (zm_mn y).cls) ∧ (parseMethodDescriptor (zm_mn y).desc).map (fun d => d.parameters.length) = some (zm_na y) ∧ y < 275)
    | 4 => decide (zs_wd p1 = some (.methodLinkNest (zm_cn own) ix (zm_mn y) "BranTub") ∧ zs_wd p2 = some (.instanceMethod (zm_mn y)) ∧ zs_wd p3 = some (.initialized (zm_mn y).cls) ∧ (zm_mn y).name = "<init>" ∧ (parseMethodDescriptor (zm_mn y).desc).map (fun d => d.parameters.length + 1) = some (zm_na y) ∧ y < 275)
    | 5 => decide (zs_wd p1 = some (.methodLink (zm_cn own) ix Lib.objectInit))
    | 6 => decide (zs_wd p1 = some (.methodLink (zm_cn own) ix ⟨"java/lang/String", "length", "()I"⟩))
    | 7 => decide (zs_wd p1 = some (.methodLink (zm_cn own) ix ⟨"java/lang/String", "charAt", "(I)C"⟩))
    | 8 => decide (zs_wd p1 = some (.methodLink (zm_cn own) ix Lib.Math.min.name) ∧ zs_wd p2 = some (.static Lib.Math.min.name) ∧ zs_wd p3 = some (.initialized "java/lang/Math") ∧ zs_wd p4 = some (.code Lib.Math.min.name Lib.Math.min.code 2 (some .int)))
    | 9 => decide (zs_wd p1 = some (.methodLink (zm_cn own) ix Lib.Math.max.name) ∧ zs_wd p2 = some (.static Lib.Math.max.name) ∧ zs_wd p3 = some (.initialized "java/lang/Math") ∧ zs_wd p4 = some (.code Lib.Math.max.name Lib.Math.max.code 2 (some .int)))
    | 10 => decide (zs_wd p1 = some (.methodLink (zm_cn own) ix Lib.MathLoose.min_long.x) ∧ zs_wd p2 = some (.static Lib.MathLoose.min_long.x) ∧ zs_wd p3 = some (.initialized "java/lang/Math") ∧ zs_wd p4 = some (.code Lib.MathLoose.min_long.x Lib.MathLoose.min_long.code 4 (some .long)))
    | 11 => decide (zs_wd p1 = some (.methodLink (zm_cn own) ix Lib.MathLoose.max_long.x) ∧ zs_wd p2 = some (.static Lib.MathLoose.max_long.x) ∧ zs_wd p3 = some (.initialized "java/lang/Math") ∧ zs_wd p4 = some (.code Lib.MathLoose.max_long.x Lib.MathLoose.max_long.code 4 (some .long)))
    | 12 => decide (zs_wd p1 = some (.methodLink (zm_cn own) ix ⟨"java/lang/Math", "floorDiv", "(II)I"⟩) ∧ zs_wd p2 = some (.static ⟨"java/lang/Math", "floorDiv", "(II)I"⟩) ∧ zs_wd p3 = some (.initialized "java/lang/Math") ∧ zs_wd p4 = some (.code ⟨"java/lang/Math", "floorDiv", "(II)I"⟩ prog_15_method_47_code 3 (some .int)))
    | 13 => decide (zs_wd p1 = some (.methodLink (zm_cn own) ix ⟨"java/lang/Math", "floorMod", "(II)I"⟩) ∧ zs_wd p2 = some (.static ⟨"java/lang/Math", "floorMod", "(II)I"⟩) ∧ zs_wd p3 = some (.initialized "java/lang/Math") ∧ zs_wd p4 = some (.code ⟨"java/lang/Math", "floorMod", "(II)I"⟩ prog_15_method_50_code 3 (some .int)))
    | _ => true
theorem zs_cal_0 : zm_cal0.all (zs_calchk 0) = true := by decide +kernel
theorem zs_cal_1 : zm_cal1.all (zs_calchk 1) = true := by decide +kernel
theorem zs_cal_2 : zm_cal2.all (zs_calchk 2) = true := by decide +kernel
theorem zs_cal_3 : zm_cal3.all (zs_calchk 3) = true := by decide +kernel
theorem zs_cal_4 : zm_cal4.all (zs_calchk 4) = true := by decide +kernel
theorem zs_cal_5 : zm_cal5.all (zs_calchk 5) = true := by decide +kernel
theorem zs_cal_6 : zm_cal6.all (zs_calchk 6) = true := by decide +kernel
theorem zs_cal_7 : zm_cal7.all (zs_calchk 7) = true := by decide +kernel
theorem zs_cal_8 : zm_cal8.all (zs_calchk 8) = true := by decide +kernel
theorem zs_cal_9 : zm_cal9.all (zs_calchk 9) = true := by decide +kernel
theorem zs_cal_10 : zm_cal10.all (zs_calchk 10) = true := by decide +kernel
theorem zs_cal_11 : zm_cal11.all (zs_calchk 11) = true := by decide +kernel
theorem zs_cal_12 : zm_cal12.all (zs_calchk 12) = true := by decide +kernel
theorem zs_cal_13 : zm_cal13.all (zs_calchk 13) = true := by decide +kernel
theorem zs_cal_14 : zm_cal14.all (zs_calchk 14) = true := by decide +kernel

theorem zs_new_all : zm_newL.zipIdx.all (fun l => l.1.all (fun q => decide (zs_wd q.2.2.1 = some (.classLink (zm_cn l.2) q.1 (zm_cn q.2.1)) ∧ zs_wd q.2.2.2.1 = some (.instantiable (zm_cn q.2.1) (zm_fn q.2.1)) ∧ zs_wd q.2.2.2.2 = some (.initialized (zm_cn q.2.1)) ∧ q.2.1 < 13))) = true := by decide +kernel
theorem zs_lng_all : zm_lngL.zipIdx.all (fun l => l.1.all (fun q => decide (zs_wd q.2.2 = some (.constantLong (zm_cn l.2) q.1 (Int64.ofInt q.2.1)) ∧ zm_i64 q.2.1))) = true := by decide +kernel
/-- final references: made before they are asked -/
theorem zs_fr_all : (List.range zm_NX).all (fun a => match zm_lay a with
  | .inl c => (List.range (zm_fn c)).all (fun k => if zm_ft c k = 3 then decide (3 < zm_fr a k ∧ zm_fr a k < zm_NX) else true)
  | .inr (t, n) => if t = 3 then (List.range n).all (fun k => decide (3 < zm_fr a k ∧ zm_fr a k < zm_NX)) else true) = true := by decide +kernel

