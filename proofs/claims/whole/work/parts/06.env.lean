/-! ===== what holds at a method's entry, besides the abstract heap ===== -/
def am_nw : List Cond := [.methodLinkNest "SoundHarbour" 9 ⟨"SoundHarbour$Reader", "<init>", "()V"⟩ "SoundHarbour", .methodLinkNest "SoundHarbour" 18 ⟨"SoundHarbour$Port", "<init>", "()V"⟩ "SoundHarbour", .methodLinkNest "SoundHarbour" 47 ⟨"SoundHarbour$NameRows", "<init>", "()V"⟩ "SoundHarbour", .methodLinkNest "SoundHarbour" 54 ⟨"SoundHarbour$Span", "<init>", "()V"⟩ "SoundHarbour", .castable "java/util/NoSuchElementException" "java/util/NoSuchElementException", .castable "java/lang/IllegalArgumentException" "java/lang/IllegalArgumentException", .declares ⟨"java/lang/RuntimeException", "<init>", "(Ljava/lang/String;)V"⟩, .declares ⟨"java/lang/Exception", "<init>", "(Ljava/lang/String;)V"⟩, .declares ⟨"java/lang/Throwable", "<init>", "(Ljava/lang/String;)V"⟩]
def am_K (n0 : Nat) (old : Nat → Nat) (D : va_G) (cA : Nat → ClassId) (L : Nat) (xs : Nat → Int32) (U : State) : Prop :=
  va_K D am_cl (am_tys cA) U ∧ n0 ≤ U.heap.size ∧ va_X (old am_scr) L xs U U.heap ∧ old am_scr < n0 ∧
  (∀ j, j < 22 → va_O "java/lang/String" (old (am_big + j)) (am_A n0) U U.heap ∧ va_OF "java/lang/String" "coder" "B" (.int 0) (old (am_big + j)) (am_A n0) U U.heap ∧
    ∃ v, va_OF "java/lang/String" "value" "[B" (.ref v) (old (am_big + j)) (am_A n0) U U.heap ∧ va_T .byte v (am_txt j).length (fun i => .int ((am_txt j).getD i 0)) (am_A n0) U U.heap) ∧
  (∀ j, j < 35 → vk_R (am_stw j).1 (am_stw j).2.1 (am_stw j).2.2 (old (am_big + j)) U) ∧
  (∀ w ∈ am_nw, va_Nw w U) ∧
  vx_Zq Bundle.tN "UNASSIGNED_STACK" Bundle.steD (am_A n0) U U.heap ∧ vx_Zq Bundle.tN "SUPPRESSED_SENTINEL" Bundle.listD (am_A n0) U U.heap ∧
  va_Nc "java/lang/IllegalArgumentException" "java/util/NoSuchElementException" U ∧ va_Nc "java/util/NoSuchElementException" "java/lang/IllegalArgumentException" U ∧
  (va_Z "java/lang/String" "COMPACT_STRINGS" "Z" (.int 1) (am_A n0) U U.heap ∧ va_Zq "jdk/internal/util/Preconditions" "SIOOBE_FORMATTER" "Ljava/util/function/BiFunction;" (am_A n0) U U.heap) ∧ va_AO "java/lang/String" U ∧ va_AOA .int U
theorem am_nw_warm {s U : State} (hW : s.WarmedH U.vm) (h : ∀ w ∈ am_nw, va_Nw w s) : ∀ w ∈ am_nw, va_Nw w U := by
  intro w hw
  have h1 := h w hw
  simp only [am_nw, List.mem_cons, List.not_mem_nil, or_false] at hw
  rcases hw with rfl | rfl | rfl | rfl | rfl | rfl | rfl | rfl | rfl
  · exact va_Nw.warmM hW h1
  · exact va_Nw.warmM hW h1
  · exact va_Nw.warmM hW h1
  · exact va_Nw.warmM hW h1
  · exact va_Nw.warmC hW h1
  · exact va_Nw.warmC hW h1
  · exact va_Nw.warmD hW h1
  · exact va_Nw.warmD hW h1
  · exact va_Nw.warmD hW h1
theorem am_AOA_moved {t : FieldType} {u U : State} (hvm : u.vm.Alike U.vm) (h : va_AOA t u) : va_AOA t U := by
  have h1 : (Cond.arrayOver (.array t)).before #[] (u.setVm U.vm) = true := by rw [Cond.arrayOver_setVmC hvm]; exact h
  exact h1
theorem am_K.move {n0 : Nat} {old : Nat → Nat} {D : va_G} {cA : Nat → ClassId} {L : Nat} {xs : Nat → Int32} {s U : State} (hK : am_K n0 old D cA L xs s) (hW : s.WarmedH U.vm) {locs : List Loc} (hS : va_S (am_A n0) s.heap U.heap locs) : am_K n0 old D cA L xs U := by
  obtain ⟨k1, k2, k3, k4, k5, k6, k7, k8, k9, k10, k11, k12, k13, k14⟩ := hK
  have hA := hW.alike
  have hq : ∀ a : Nat, a < s.heap.size → ¬ am_A n0 a → U.heap[a]? = s.heap[a]? := hS.2.1
  refine ⟨va_K.moved hA k1, Nat.le_trans k2 hS.1, va_X.moved hA (va_X.kept k3 (hq _ (Nat.lt_of_lt_of_le k4 k2) (Nat.not_le.mpr k4))), k4, fun j hj => ?_, fun j hj => vk_R.warm hW (k6 j hj), am_nw_warm hW k7, vx_Zq.moved hA (vx_Zq.kept k8 hq), vx_Zq.moved hA (vx_Zq.kept k9 hq), va_Nc.moved hA k10, va_Nc.moved hA k11, ⟨va_Z.moved hA (va_Z.kept k12.1 hq), va_Zq.moved hA (va_Zq.kept k12.2 hq)⟩, va_AO.moved hA k13, am_AOA_moved hA k14⟩
  obtain ⟨e1, e2, v, e3, e4⟩ := k5 j hj
  exact ⟨va_O.moved hA (e1.kept hq), va_OF.moved hA (e2.kept hq), v, va_OF.moved hA (e3.kept hq), va_T.moved hA (e4.kept hq)⟩
/-- all good words -/
def am_W : List Cond := lw_tbl.filter goodWord
theorem am_W_of {j : Nat} {w : Cond} (h : am_w j w = true) : w ∈ am_W := by
  simp only [am_w, Bool.and_eq_true, decide_eq_true_eq] at h
  exact List.mem_filter.mpr ⟨List.mem_of_getElem? h.1, h.2⟩
theorem am_W_good {ws : List Cond} (h : ∀ w ∈ ws, w ∈ am_W) : GoodIn am_W ws := fun w hw => ⟨h w hw, good_of_word (List.mem_filter.mp (h w hw)).2⟩
/-- a method's body: the machine, its code, its words -/
def am_B (p : Program) (s : State) (m : MethodId) (args : Array Value) (meth : Method) (c : Code) (mi : Nat) : Prop :=
  p.tables.exec = Jvm.exec ∧ c.code = am_code mi ∧ c.maxLocals = am_ml mi ∧ s.vm.findClass (am_own mi) = some m.cls ∧ (∀ w ∈ am_W, w.before args s = true) ∧ meth.sig.returnType = am_ret mi ∧ meth.locks = false ∧ (mi ≠ 0 → meth.name = (am_y mi).name) ∧ c.exceptionTable.toList = tableOf (am_hh mi)
def am_ct (S : am_S) (g : Nat) : Nat := S.length + g
def am_csz (c : am_C) : Nat := match c with
  | .inl (_, n) => n
  | .inr (.inl (_, n, _)) => n
  | .inr (.inr (_, fl)) => fl.length
def am_sz (S : am_S) (g : Nat) : Nat := (S.map am_csz).sum + 6 * g
