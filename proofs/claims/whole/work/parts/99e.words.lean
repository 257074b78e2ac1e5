/-! ===== what the Statement gives of the start ===== -/
def GN : List Cond := flatC (Jvm.Cond.and given_1 narrow_1)
def sb_l : List Nat := [63, 71, 79, 89, 98, 106, 113, 121, 129, 138, 146, 389, 399, 407, 416, 425, 435, 444, 452, 461, 470, 481, 29, 153, 170, 186, 214, 232, 262, 279, 295, 310, 332, 350, 373]
def sb (j : Nat) : Nat := sb_l.getD j 0
def sr_l : List Nat := [547, 616, 617, 622, 627, 628, 629, 630, 635, 636, 637, 1028, 1029, 1030, 1031, 1032, 1033, 1034, 1270, 1287, 1292, 1297, 502, 668, 686, 696, 708, 713, 737, 742, 747, 813, 894, 906, 988]
def tmS (j : Nat) : Term := .string (am_stw j).1 (am_stw j).2.1
def tmV (j : Nat) : Term := .field (tmS j) "java/lang/String" "value" "[B"
set_option maxRecDepth 100000 in
theorem sx_all : ((List.range 35).all fun j => decide (GN[sb j]? = some (.exactly (tmS j) "java/lang/String"))) = true := by decide +kernel
set_option maxRecDepth 100000 in
theorem sr_all : ((List.range 35).all fun j => decide (lw_tbl[sr_l.getD j 0]? = some (.stringRef (am_stw j).1 (am_stw j).2.1 (am_stw j).2.2))) = true := by decide +kernel
set_option maxRecDepth 100000 in
theorem sc_all : ((List.range 22).all fun j => decide (GN[sb j + 1]? = some (.eq (.field (tmS j) "java/lang/String" "coder" "B") (.int 0)))) = true := by decide +kernel
set_option maxRecDepth 100000 in
theorem sa_all : ((List.range 22).all fun j => decide (GN[sb j + 2]? = some (.arrayOf (tmV j) .byte))) = true := by decide +kernel
set_option maxRecDepth 100000 in
theorem sl_all : ((List.range 22).all fun j => decide (GN[sb j + 3]? = some (.eq (.length (tmV j)) (.int (Int32.ofNat (am_txt j).length))))) = true := by decide +kernel
set_option maxRecDepth 100000 in
theorem se_all : ((List.range 22).all fun j => (List.range (am_txt j).length).all fun i => decide (GN[sb j + 4 + i]? = some (.eq (.elem (tmV j) (.int (Int32.ofNat i))) (.int ((am_txt j).getD i 0))))) = true := by decide +kernel
set_option maxRecDepth 100000 in
theorem sn_all : ((List.range 22).all fun j => decide ((am_txt j).length < 100)) = true := by decide +kernel
theorem all_at {n : Nat} {f : Nat → Bool} (h : ((List.range n).all f) = true) {j : Nat} (hj : j < n) : f j = true := List.all_eq_true.mp h j (List.mem_range.mpr hj)
theorem gn_at {args : Array Value} {s : State} (hgv : (Jvm.Cond.and given_1 narrow_1).before args s = true) {i : Nat} {w : Cond} (h : GN[i]? = some w) : w.before args s = true := flat_of_before _ hgv w (List.mem_of_getElem? h)
theorem tb_at {args : Array Value} {s : State} (hts : ∀ w ∈ lw_tbl, w.before args s = true) {i : Nat} {w : Cond} (h : lw_tbl[i]? = some w) : w.before args s = true := hts w (List.mem_of_getElem? h)
/-- a String constant -/
theorem str_ref {args : Array Value} {s : State} (hgv : (Jvm.Cond.and given_1 narrow_1).before args s = true) {j : Nat} (hj : j < 35) : ∃ a, (tmS j).eval args s none [] s = some (.ref a) := by
  obtain ⟨a, c, cA, kA, q1, -⟩ := Cond.exactly_spec (args := args) (first := s) (o := none) (s := s) (idx := []) (t := tmS j) (cls := "java/lang/String") (gn_at hgv (of_decide_eq_true (all_at sx_all hj)))
  exact ⟨a, q1⟩
/-- .. and what it holds -/
theorem str_one {args : Array Value} {s : State} {A : Nat → Prop} (hgv : (Jvm.Cond.and given_1 narrow_1).before args s = true) (hA : ∀ a : Nat, a < s.heap.size → ¬ A a) {j : Nat} (hj : j < 22) {a : Nat} (ha : (tmS j).eval args s none [] s = some (.ref a)) : va_O "java/lang/String" a A s s.heap ∧ va_OF "java/lang/String" "coder" "B" (.int 0) a A s s.heap ∧ ∃ v, va_OF "java/lang/String" "value" "[B" (.ref v) a A s s.heap ∧ va_T .byte v (am_txt j).length (fun i => .int ((am_txt j).getD i 0)) A s s.heap := by
  have hn : (am_txt j).length < 100 := of_decide_eq_true (all_at sn_all hj)
  obtain ⟨adK, adV, hS, hK⟩ := vk_Sof (args := args) (s := s) (N := 1) (tm := fun _ => tmS j) (len := [(am_txt j).length]) (byt := [am_txt j]) (A := A)
    (fun i hi => by
      have : i = 0 := by omega
      subst this
      show (am_txt j).length < 2 ^ 31
      omega)
    (fun i _ => gn_at hgv (of_decide_eq_true (all_at sx_all (show j < 35 by omega))))
    (fun i _ => gn_at hgv (of_decide_eq_true (all_at sc_all hj)))
    (fun i _ => gn_at hgv (of_decide_eq_true (all_at sa_all hj)))
    (fun i hi => by
      have : i = 0 := by omega
      subst this
      exact gn_at hgv (of_decide_eq_true (all_at sl_all hj)))
    (fun i hi k hk => by
      have : i = 0 := by omega
      subst this
      exact gn_at hgv (of_decide_eq_true (all_at (all_at se_all hj) hk)))
    (fun i k hi hk e => by omega) hA
  have e0 := hK 0 (by omega)
  rw [ha] at e0
  have e : a = adK 0 := by cases e0; rfl
  obtain ⟨h1, h2, h3, h4⟩ := hS.1 0 (by omega)
  rw [← e] at h1 h2 h3
  exact ⟨h1, h2, adV 0, h3, h4⟩
theorem ux_in {C : String} {T : u_T} {N : Nat} {l : List Nat} (h : ((List.range N).all fun k => decide (lw_tbl[l.getD k 0]? = some (u_lay C T k))) = true) : ∀ w ∈ u_ws C T N, w ∈ lw_tbl := by
  intro w hw
  obtain ⟨k, hk, rfl⟩ := List.mem_map.mp hw
  exact List.mem_of_getElem? (of_decide_eq_true (all_at h (List.mem_range.mp hk)))
def ux_l0 : List Nat := [238, 240, 242, 244, 246, 248, 250, 252, 254, 256, 258, 260]
set_option maxRecDepth 100000 in
theorem ux_0 : ((List.range 12).all fun k => decide (lw_tbl[ux_l0.getD k 0]? = some (u_lay RX0 TX0 k))) = true := by decide +kernel
set_option maxRecDepth 100000 in
theorem un_0 : lw_tbl[215]? = some (.instantiable RX0 12) := by decide +kernel
theorem uk_0 {args : Array Value} {s : State} (hts : ∀ w ∈ lw_tbl, w.before args s = true) : ∃ (cC : ClassId) (iS : Nat → Nat), u_Kn s RX0 TX0 12 cC iS := u_known hts (ux_in ux_0) (tb_at hts un_0)
def ux_l1 : List Nat := [326, 328]
set_option maxRecDepth 100000 in
theorem ux_1 : ((List.range 2).all fun k => decide (lw_tbl[ux_l1.getD k 0]? = some (u_lay RX1 TX1 k))) = true := by decide +kernel
set_option maxRecDepth 100000 in
theorem un_1 : lw_tbl[319]? = some (.instantiable RX1 2) := by decide +kernel
theorem uk_1 {args : Array Value} {s : State} (hts : ∀ w ∈ lw_tbl, w.before args s = true) : ∃ (cC : ClassId) (iS : Nat → Nat), u_Kn s RX1 TX1 2 cC iS := u_known hts (ux_in ux_1) (tb_at hts un_1)
def ux_l2 : List Nat := [289, 291, 293, 295, 297, 299, 301, 303, 305, 307, 309, 311, 313, 315]
set_option maxRecDepth 100000 in
theorem ux_2 : ((List.range 14).all fun k => decide (lw_tbl[ux_l2.getD k 0]? = some (u_lay RX2 TX2 k))) = true := by decide +kernel
set_option maxRecDepth 100000 in
theorem un_2 : lw_tbl[265]? = some (.instantiable RX2 14) := by decide +kernel
theorem uk_2 {args : Array Value} {s : State} (hts : ∀ w ∈ lw_tbl, w.before args s = true) : ∃ (cC : ClassId) (iS : Nat → Nat), u_Kn s RX2 TX2 14 cC iS := u_known hts (ux_in ux_2) (tb_at hts un_2)
def ux_l3 : List Nat := [188, 190, 192, 194, 196, 198, 200, 202, 204, 206, 208, 210]
set_option maxRecDepth 100000 in
theorem ux_3 : ((List.range 12).all fun k => decide (lw_tbl[ux_l3.getD k 0]? = some (u_lay RX3 TX3 k))) = true := by decide +kernel
set_option maxRecDepth 100000 in
theorem un_3 : lw_tbl[143]? = some (.instantiable RX3 12) := by decide +kernel
theorem uk_3 {args : Array Value} {s : State} (hts : ∀ w ∈ lw_tbl, w.before args s = true) : ∃ (cC : ClassId) (iS : Nat → Nat), u_Kn s RX3 TX3 12 cC iS := u_known hts (ux_in ux_3) (tb_at hts un_3)
def ux_l4 : List Nat := [122, 124, 126, 128, 130, 132, 134, 136, 138]
set_option maxRecDepth 100000 in
theorem ux_4 : ((List.range 9).all fun k => decide (lw_tbl[ux_l4.getD k 0]? = some (u_lay RX4 TX4 k))) = true := by decide +kernel
set_option maxRecDepth 100000 in
theorem un_4 : lw_tbl[106]? = some (.instantiable RX4 9) := by decide +kernel
theorem uk_4 {args : Array Value} {s : State} (hts : ∀ w ∈ lw_tbl, w.before args s = true) : ∃ (cC : ClassId) (iS : Nat → Nat), u_Kn s RX4 TX4 9 cC iS := u_known hts (ux_in ux_4) (tb_at hts un_4)
def ux_l5 : List Nat := [341, 343]
set_option maxRecDepth 100000 in
theorem ux_5 : ((List.range 2).all fun k => decide (lw_tbl[ux_l5.getD k 0]? = some (u_lay RX5 TX5 k))) = true := by decide +kernel
set_option maxRecDepth 100000 in
theorem un_5 : lw_tbl[332]? = some (.instantiable RX5 2) := by decide +kernel
theorem uk_5 {args : Array Value} {s : State} (hts : ∀ w ∈ lw_tbl, w.before args s = true) : ∃ (cC : ClassId) (iS : Nat → Nat), u_Kn s RX5 TX5 2 cC iS := u_known hts (ux_in ux_5) (tb_at hts un_5)
def ux_l6 : List Nat := [358, 360, 362, 364, 366, 368, 370, 372, 374, 376, 378, 380]
set_option maxRecDepth 100000 in
theorem ux_6 : ((List.range 12).all fun k => decide (lw_tbl[ux_l6.getD k 0]? = some (u_lay RX6 TX6 k))) = true := by decide +kernel
set_option maxRecDepth 100000 in
theorem un_6 : lw_tbl[98]? = some (.instantiable RX6 12) := by decide +kernel
theorem uk_6 {args : Array Value} {s : State} (hts : ∀ w ∈ lw_tbl, w.before args s = true) : ∃ (cC : ClassId) (iS : Nat → Nat), u_Kn s RX6 TX6 12 cC iS := u_known hts (ux_in ux_6) (tb_at hts un_6)
def ux_l7 : List Nat := [1098, 1100, 1102, 1104, 1106, 1108, 1110, 1112, 1114, 1116, 1118, 1120, 1122, 1124, 1126, 1128, 1130, 1132, 1134, 1136, 1138, 1140, 1142, 1144, 1146, 1148, 1150, 1152, 1154, 1156, 1158, 1160, 1162, 1164, 1166, 1168, 1170, 1172, 1174, 1176, 1178, 1180, 1182, 1184, 1186, 1188, 1190, 1192, 1194, 1196, 1198, 1200, 1202, 1204, 1206, 1208, 1210, 1212, 1214, 1216, 1218, 1220, 1222]
set_option maxRecDepth 100000 in
theorem ux_7 : ((List.range 63).all fun k => decide (lw_tbl[ux_l7.getD k 0]? = some (u_lay RX7 TX7 k))) = true := by decide +kernel
set_option maxRecDepth 100000 in
theorem un_7 : lw_tbl[1021]? = some (.instantiable RX7 63) := by decide +kernel
theorem uk_7 {args : Array Value} {s : State} (hts : ∀ w ∈ lw_tbl, w.before args s = true) : ∃ (cC : ClassId) (iS : Nat → Nat), u_Kn s RX7 TX7 63 cC iS := u_known hts (ux_in ux_7) (tb_at hts un_7)
set_option maxRecDepth 100000 in
theorem ua_int : lw_tbl[213]? = some (.arrayClass .int) := by decide +kernel
set_option maxRecDepth 100000 in
theorem ua_byte : lw_tbl[141]? = some (.arrayClass .byte) := by decide +kernel
set_option maxRecDepth 100000 in
theorem ua_boolean : lw_tbl[263]? = some (.arrayClass .boolean) := by decide +kernel
set_option maxRecDepth 100000 in
theorem ua_long : lw_tbl[1526]? = some (.arrayClass .long) := by decide +kernel
set_option maxRecDepth 100000 in
theorem ua_aint : lw_tbl[271]? = some (.arrayOver (.array .int)) := by decide +kernel
set_option maxRecDepth 100000 in
theorem ua_str : lw_tbl[1027]? = some (.arrayOver (.object "java/lang/String")) := by decide +kernel
theorem ar_c {args : Array Value} {s : State} {ty : FieldType} (h : (Cond.arrayClass ty).before args s = true) (ho : ∀ C, ty ≠ .object C) : ∃ cA : ClassId, ArrOfT s cA ty ∧ va_RA s cA ty := by
  obtain ⟨cA, kA, comp, h1, h2, h3⟩ := Cond.arrayClass_spec h
  refine ⟨cA, fun n z => ⟨fun k h => (by cases h), kA, h2, comp, h3⟩, ?_⟩
  cases ty with
  | object C => exact absurd rfl (ho C)
  | _ => exact h1
theorem ar_sp {args : Array Value} {s : State} {t : FieldType} (h : (Cond.arrayOver (.array t)).before args s = true) : ∃ (comp cA : ClassId) (kA : Class), s.vm.classes[cA]? = some kA ∧ kA.kind = .array comp (.array t) ∧ s.vm.findClass ("[" ++ (FieldType.array t).toString) = some cA := by
  simp only [Cond.before, Cond.holds, Cond.value, beq_iff_eq] at h
  cases e : s.vm.findClass (FieldType.array t).toString with
  | none => simp [e] at h
  | some comp =>
    simp only [e, Option.bind_some, Option.bind_eq_some_iff, Option.map_eq_some_iff] at h
    obtain ⟨cA, h1, kA, h2, h3⟩ := h
    obtain ⟨hlt, h4, -⟩ := Array.findIdx?_eq_some_iff_getElem.mp h1
    rw [(Array.getElem?_eq_some_iff.mp h2).2] at h4
    cases e2 : kA.kind with
    | array comp' ty =>
      rw [e2] at h3 h4
      simp at h3 h4
      exact ⟨comp, cA, kA, h2, by rw [e2, h4, h3.1], h3.2⟩
    | _ => rw [e2] at h3; simp at h3
theorem ar_a {args : Array Value} {s : State} {t : FieldType} (h : (Cond.arrayOver (.array t)).before args s = true) : ∃ cA : ClassId, ArrOfT s cA (.array t) ∧ va_RA s cA (.array t) := by
  obtain ⟨comp, cA, kA, h2, h3, h4⟩ := ar_sp h
  exact ⟨cA, fun n z => ⟨fun k h => (by cases h), kA, h2, comp, h3⟩, h4⟩
theorem ar_o {args : Array Value} {s : State} {C : String} (h : (Cond.arrayOver (.object C)).before args s = true) : ∃ cA : ClassId, ArrOfT s cA (.object C) ∧ va_RA s cA (.object C) := by
  obtain ⟨comp, cA, kA, h1, h2, h3, h4, h5⟩ := Cond.arrayOver_spec h
  exact ⟨cA, fun n z => ⟨fun k h => (by cases h), kA, h3, comp, h4⟩, kA, comp, h3, h4, h1, h5⟩
set_option maxRecDepth 100000 in
theorem nw_all : (am_nw.all fun w => decide (w ∈ lw_tbl) && w.onTables) = true := by decide +kernel
set_option maxRecDepth 100000 in
theorem z1_us : lw_tbl[489]? = some (.laysStatic Bundle.tN "UNASSIGNED_STACK" Bundle.steD) := by decide +kernel
set_option maxRecDepth 100000 in
theorem z2_us : lw_tbl[85]? = some (.initialized Bundle.tN) := by decide +kernel
set_option maxRecDepth 100000 in
theorem z3_us : GN[4]? = some (.isRef (.static Bundle.tN "UNASSIGNED_STACK" Bundle.steD)) := by decide +kernel
set_option maxRecDepth 100000 in
theorem z1_ss : lw_tbl[491]? = some (.laysStatic Bundle.tN "SUPPRESSED_SENTINEL" Bundle.listD) := by decide +kernel
set_option maxRecDepth 100000 in
theorem z2_ss : lw_tbl[85]? = some (.initialized Bundle.tN) := by decide +kernel
set_option maxRecDepth 100000 in
theorem z3_ss : GN[5]? = some (.isRef (.static Bundle.tN "SUPPRESSED_SENTINEL" Bundle.listD)) := by decide +kernel
set_option maxRecDepth 100000 in
theorem z1_cs : lw_tbl[561]? = some (.laysStatic "java/lang/String" "COMPACT_STRINGS" "Z") := by decide +kernel
set_option maxRecDepth 100000 in
theorem z2_cs : lw_tbl[89]? = some (.initialized "java/lang/String") := by decide +kernel
set_option maxRecDepth 100000 in
theorem z3_cs : GN[6]? = some (.eq (.static "java/lang/String" "COMPACT_STRINGS" "Z") (.int 1)) := by decide +kernel
set_option maxRecDepth 100000 in
theorem z1_si : lw_tbl[577]? = some (.laysStatic "jdk/internal/util/Preconditions" "SIOOBE_FORMATTER" "Ljava/util/function/BiFunction;") := by decide +kernel
set_option maxRecDepth 100000 in
theorem z2_si : lw_tbl[91]? = some (.initialized "jdk/internal/util/Preconditions") := by decide +kernel
set_option maxRecDepth 100000 in
theorem z3_si : GN[7]? = some (.isRef (.static "jdk/internal/util/Preconditions" "SIOOBE_FORMATTER" "Ljava/util/function/BiFunction;")) := by decide +kernel
set_option maxRecDepth 100000 in
theorem nc_1 : GN[28]? = some (.not (.castable "java/lang/IllegalArgumentException" "java/util/NoSuchElementException")) := by decide +kernel
set_option maxRecDepth 100000 in
theorem nc_2 : GN[19]? = some (.not (.castable "java/util/NoSuchElementException" "java/lang/IllegalArgumentException")) := by decide +kernel
