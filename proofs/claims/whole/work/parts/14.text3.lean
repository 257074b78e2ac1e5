section AMT3
variable {l : Launch} {n0 : Nat} {old : Nat → Nat} {D : va_G} {cA : Nat → ClassId} {L : Nat} {xs : Nat → Int32}
set_option maxRecDepth 100000 in
theorem am_dPre : decode prog_26_method_11_code 0 = .ok (.iload_n 0, 1) ∧ decode prog_26_method_11_code 1 = .ok (.ifCond .lt 8, 3) ∧ decode prog_26_method_11_code 4 = .ok (.iload_n 0, 1) ∧ decode prog_26_method_11_code 5 = .ok (.iload_n 1, 1) ∧ decode prog_26_method_11_code 6 = .ok (.if_icmp .lt 10, 3) ∧ decode prog_26_method_11_code 16 = .ok (.iload_n 0, 1) ∧ decode prog_26_method_11_code 17 = .ok (.ireturn, 1) := by decide +kernel
theorem am_mPre {i n : Int32} {w : Value} (h0 : ¬ i < 0) (h1 : i < n) (hw : w.category = 1) : am_Ji n0 old D cA L xs l am_yPre prog_26_method_11_code 3 (some .int) 1 10 [.int i, .int n, w] i := by
  refine Met.ofW (cc := prog_26_method_11_code) (maxL := 3) (ret := some .int) (by decide) rfl ?_
  intro p e s m args below meth c s₁ B hml hv
  obtain ⟨rfl, hK⟩ := hv
  have hx := B.exec
  have hb := B.bytes
  have hr := B.returns
  have hlocks := B.notSynchronized
  have hlen : (lg_sl ([.int i, .int n, w])).length ≤ 3 := by
    cases w <;> first | exact Nat.le_of_ble_eq_true rfl | (simp [Value.category] at hw; done)
  have hl := lv_entry ([.int i, .int n, w]) (n := 3) hlen
  rw [lg_entry_eq]
  generalize (lg_sl ([.int i, .int n, w]) ++ List.replicate (3 - (lg_sl ([.int i, .int n, w])).length) Slot.unset).toArray = ls at hl ⊢
  have hl : lv_has ls 3 [(0, .int i), (1, .int n), (2, w)] := hl
  obtain ⟨d0, d1, d4, d5, d6, d16, d17⟩ := am_dPre
  refine lv_iload_n hx hb d0 rfl (lv_at hl 0 rfl) ?_
  refine lv_if_lt (tgt := 9) hx hb d1 (by decide) (fun q => absurd q h0) (fun _ => ?_)
  refine lv_iload_n hx hb d4 rfl (lv_at hl 0 rfl) ?_
  refine lv_iload_n hx hb d5 rfl (lv_at hl 1 rfl) ?_
  refine lv_icmp_lt (tgt := 16) hx hb d6 (by decide) (fun _ => ?_) (fun q => absurd h1 q)
  refine lv_iload_n hx hb d16 rfl (lv_at hl 0 rfl) ?_
  exact W.iret hx hb hr (fun t ht _ => ⟨⟨_, (), rfl, rfl, trivial⟩, by rw [ht]; exact Nat.le_refl _, fun q _ _ => by rw [ht]⟩) (fun q hq => nomatch hq) d17
set_option maxRecDepth 100000 in
theorem am_dCk : decode prog_18_method_155_code 0 = .ok (.iload_n 0, 1) ∧ decode prog_18_method_155_code 1 = .ok (.iload_n 1, 1) ∧ decode prog_18_method_155_code 2 = .ok (.getstatic 1053, 3) ∧ decode prog_18_method_155_code 5 = .ok (.invokestatic 1059, 3) ∧ decode prog_18_method_155_code 8 = .ok (.pop, 1) ∧ decode prog_18_method_155_code 9 = .ok (.return_, 1) := by decide +kernel
abbrev am_Jv (n0 : Nat) (old : Nat → Nat) (D : va_G) (cA : Nat → ClassId) (L : Nat) (xs : Nat → Int32) (l : Launch) (y : MethodName) (cc : ByteArray) (ml : Nat) (rt : Option FieldType) (fr lo : Nat) (as : List Value) : Prop :=
  Met l y (Cond.code y cc ml rt :: am_W) { frames := fr, cells := 0, slots := 0, locals := lo } (va_Pc as (fun U => am_K n0 old D cA L xs U)) (va_Qv (fun (_ : Unit) => True) (fun _ _ => True) (fun _ => False)) 0 0 (fun _ => False)
theorem am_mCk {i n : Int32} (h0 : ¬ i < 0) (h1 : i < n) : am_Jv n0 old D cA L xs l am_yCk prog_18_method_155_code 2 none 2 40 [.int i, .int n] := by
  refine Met.ofW (cc := prog_18_method_155_code) (maxL := 2) (ret := none) (by decide) rfl ?_
  intro p e s m args below meth c s₁ B hml hv
  obtain ⟨rfl, hK⟩ := hv
  have hx := B.exec
  have hb := B.bytes
  have hr := B.returns
  have hts := atoms_spec (ws := Cond.code am_yCk prog_18_method_155_code 2 none :: am_W) B.pre
  have hts : ∀ w ∈ am_W, w.before _ s = true := fun w h => hts w (List.mem_cons_of_mem _ h)
  have hown : s.vm.findClass "java/lang/String" = some m.cls := findClass_of_methodNamed B.named
  have hlocks := B.notSynchronized
  have hS : va_S (am_A n0) s.heap s.heap [] := va_S.rf
  have hl := lv_entry ([.int i, .int n]) (n := 2) (Nat.le_of_ble_eq_true rfl)
  rw [lg_entry_eq]
  generalize (lg_sl ([.int i, .int n]) ++ List.replicate (2 - (lg_sl ([.int i, .int n])).length) Slot.unset).toArray = ls at hl ⊢
  have hl : lv_has ls 2 [(0, .int i), (1, .int n)] := hl
  have hK' := hK
  obtain ⟨-, -, -, -, k5, -, -, -, -, -, -, k12, -⟩ := hK
  obtain ⟨d0, d1, d2, d5, d8, d9⟩ := am_dCk
  obtain ⟨w, hw, hZ⟩ : ∃ w : Value, w.category = 1 ∧ va_Z "jdk/internal/util/Preconditions" "SIOOBE_FORMATTER" "Ljava/util/function/BiFunction;" w (am_A n0) s s.heap := by
    rcases k12.2 with h | ⟨t, h⟩
    · exact ⟨_, rfl, h⟩
    · exact ⟨_, rfl, h⟩
  refine lv_iload_n hx hb d0 rfl (lv_at hl 0 rfl) ?_
  refine lv_iload_n hx hb d1 rfl (lv_at hl 1 rfl) ?_
  refine va_gets hx hb hZ hS hown (hts _ (am_twi 15 rfl)) (fun _ q => q) d2 ?_
  refine va_calli (va_runS (As := [.int i, .int n, w]) (rest := []) ⟨hx, hb, hml, hown, hts⟩ (am_mPre h0 h1 hw) (va_cwS 3 hts (am_W_good (fun u hu => by
      simp only [va_wsS, List.mem_append, List.mem_cons, List.not_mem_nil, or_false] at hu
      rcases hu with (rfl | rfl | rfl) | rfl | hu
      · exact am_twi 16 rfl
      · exact am_twi 17 rfl
      · exact am_twi 18 rfl
      · exact am_cPre
      · exact hu)) rfl rfl rfl (by decide +kernel) ⟨Nat.le_of_ble_eq_true rfl, Nat.le_of_ble_eq_true rfl⟩)
      ⟨am_blind, fun U hU hW => ⟨rfl, am_K.move hK' hW (locs := []) (by rw [hU]; exact va_S.rf)⟩⟩ rfl rfl hl.1 rfl (lv_room (Nat.le_of_ble_eq_true rfl)) d5 ⟨Nat.le_refl _, Nat.le_refl _⟩)
    (va_S.rf (A := fun _ => False)) (fun q _ h => h) (fun q h => h) (fun r u t H1 locs ht hvm hw hB hz1 hk1 hS1 => ?_)
  refine lv_pop hx hb d8 rfl ?_
  exact W.vret hx hb hr (fun t ht _ => ⟨⟨(), rfl, trivial, trivial⟩, by rw [ht]; exact hS1.1, fun q h1 h2 => by rw [ht]; exact hS1.2.1 q h1 h2⟩) (fun q hq => (hS1.2.2 q hq).elim) d9
set_option maxRecDepth 100000 in
theorem am_dL1 : decode prog_19_method_2_code 0 = .ok (.iload_n 1, 1) ∧ decode prog_19_method_2_code 1 = .ok (.aload_n 0, 1) ∧ decode prog_19_method_2_code 2 = .ok (.arraylength, 1) ∧ decode prog_19_method_2_code 3 = .ok (.invokestatic 9, 3) ∧ decode prog_19_method_2_code 6 = .ok (.aload_n 0, 1) ∧ decode prog_19_method_2_code 7 = .ok (.iload_n 1, 1) ∧ decode prog_19_method_2_code 8 = .ok (.baload, 1) ∧ decode prog_19_method_2_code 9 = .ok (.sipush 255, 3) ∧ decode prog_19_method_2_code 12 = .ok (.iand, 1) ∧ decode prog_19_method_2_code 13 = .ok (.i2c, 1) ∧ decode prog_19_method_2_code 14 = .ok (.ireturn, 1) := by decide +kernel
/-- the contents' signs are small -/
theorem am_txt_ok : ∀ j, j < 22 → ∀ x ∈ am_txt j, ((x &&& 255).toUInt32 % 65536).toInt32 = x ∧ narrow .char (.int x) = .int x := by decide +kernel
theorem am_txt_len : ∀ j, j < 22 → (am_txt j).length < 100 := by decide +kernel
/-- the array of a constant's bytes is at v -/
def am_KV (n0 : Nat) (old : Nat → Nat) (D : va_G) (cA : Nat → ClassId) (L : Nat) (xs : Nat → Int32) (j v : Nat) (U : State) : Prop := am_K n0 old D cA L xs U ∧ va_T .byte v (am_txt j).length (fun i => .int ((am_txt j).getD i 0)) (am_A n0) U U.heap
theorem am_mL1 {j v : Nat} (hj : j < 22) {i : Int32} (h0 : ¬ i < 0) (h1 : i.toNatClampNeg < (am_txt j).length) :
    Met l am_yL1 (Cond.code am_yL1 prog_19_method_2_code 2 (some .char) :: am_W) { frames := 3, cells := 0, slots := 0, locals := 70 } (va_Pc [.ref v, .int i] (fun U => am_KV n0 old D cA L xs j v U)) (va_Qi (fun r (_ : Unit) => r = (am_txt j).getD i.toNatClampNeg 0) (fun _ _ => True) (fun _ => False)) 0 0 (fun _ => False) := by
  refine Met.ofW (cc := prog_19_method_2_code) (maxL := 2) (ret := some .char) (by decide) rfl ?_
  intro p e s m args below meth c s₁ B hml hv
  obtain ⟨rfl, hK, hT⟩ := hv
  have hx := B.exec
  have hb := B.bytes
  have hr := B.returns
  have hts := atoms_spec (ws := Cond.code am_yL1 prog_19_method_2_code 2 (some .char) :: am_W) B.pre
  have hts : ∀ w ∈ am_W, w.before _ s = true := fun w h => hts w (List.mem_cons_of_mem _ h)
  have hown : s.vm.findClass "java/lang/StringLatin1" = some m.cls := findClass_of_methodNamed B.named
  have hlocks := B.notSynchronized
  have hS : va_S (am_A n0) s.heap s.heap [] := va_S.rf
  have hl := lv_entry ([.ref v, .int i]) (n := 2) (Nat.le_of_ble_eq_true rfl)
  rw [lg_entry_eq]
  generalize (lg_sl ([.ref v, .int i]) ++ List.replicate (2 - (lg_sl ([.ref v, .int i])).length) Slot.unset).toArray = ls at hl ⊢
  have hl : lv_has ls 2 [(0, .ref v), (1, .int i)] := hl
  obtain ⟨d0, d1, d2, d3, d6, d7, d8, d9, d12, d13, d14⟩ := am_dL1
  have hlen := am_txt_len j hj
  obtain ⟨k, hk, hik⟩ := nI_of h0
  have hkn : i.toNatClampNeg = k := by rw [hik]; exact nI_clamp hk
  have hlt : i < Int32.ofNat (am_txt j).length := by rw [hik]; exact nI_lt (by omega) (by omega)
  have hin : vp_in i (am_txt j).length := fun q => q.elim h0 (fun w => by omega)
  refine lv_iload_n hx hb d0 rfl (lv_at hl 1 rfl) ?_
  refine lv_aload_n hx hb d1 rfl (lv_at hl 0 rfl) ?_
  refine va_tlen hx hb hT hS rfl d2 ?_
  refine va_callv (va_runS (As := [.int i, .int (Int32.ofNat (am_txt j).length)]) (rest := []) ⟨hx, hb, hml, hown, hts⟩ (am_mCk h0 hlt) (va_cwS 2 hts (am_W_good (fun u hu => by
      simp only [va_wsS, List.mem_append, List.mem_cons, List.not_mem_nil, or_false] at hu
      rcases hu with (rfl | rfl | rfl) | rfl | hu
      · exact am_twi 13 rfl
      · exact am_twi 14 rfl
      · exact am_twi 6 rfl
      · exact am_cCk
      · exact hu)) rfl rfl rfl (by decide +kernel) ⟨Nat.le_of_ble_eq_true rfl, Nat.le_of_ble_eq_true rfl⟩)
      ⟨am_blind, fun U hU hW => ⟨rfl, am_K.move hK hW (locs := []) (by rw [hU]; exact va_S.rf)⟩⟩ rfl rfl hl.1 rfl (lv_room (Nat.le_of_ble_eq_true rfl)) d3 ⟨Nat.le_refl _, Nat.le_refl _⟩)
    (va_S.rf (A := fun _ => False)) (fun q _ h => h) (fun q h => h) (fun u t H1 locs ht hvm hw hB hz1 hk1 hS1 => ?_)
  refine lv_aload_n hx hb d6 rfl (lv_at hl 0 rfl) ?_
  refine lv_iload_n hx hb d7 rfl (lv_at hl 1 rfl) ?_
  refine va_tb hx hb hT (am_SA hS1) hin rfl d8 ?_
  refine lv_sipush (v := 255) hx hb d9 (by decide) ?_
  refine lv_iand hx hb d12 ?_
  have hmem : (am_txt j).getD i.toNatClampNeg 0 ∈ am_txt j := by
    rw [List.getD_eq_getElem?_getD, List.getElem?_eq_getElem h1]
    exact List.getElem_mem h1
  obtain ⟨e1, e2⟩ := am_txt_ok j hj _ hmem
  refine lv_i2c (v := (am_txt j).getD i.toNatClampNeg 0) hx hb d13 e1 ?_
  exact W.zret (ty := .char) hx hb hr e2 (fun t ht _ => ⟨⟨_, (), rfl, rfl, trivial⟩, by rw [ht]; exact hS1.1, fun q h1 h2 => by rw [ht]; exact hS1.2.1 q h1 h2⟩) (fun q hq => (hS1.2.2 q hq).elim) d14
set_option maxRecDepth 100000 in
theorem am_dAt : decode prog_18_method_56_code 0 = .ok (.aload_n 0, 1) ∧ decode prog_18_method_56_code 1 = .ok (.invokevirtual 492, 3) ∧ decode prog_18_method_56_code 4 = .ok (.ifCond .eq 12, 3) ∧ decode prog_18_method_56_code 7 = .ok (.aload_n 0, 1) ∧ decode prog_18_method_56_code 8 = .ok (.getfield 9, 3) ∧ decode prog_18_method_56_code 11 = .ok (.iload_n 1, 1) ∧ decode prog_18_method_56_code 12 = .ok (.invokestatic 495, 3) ∧ decode prog_18_method_56_code 15 = .ok (.ireturn, 1) := by decide +kernel
theorem am_mAt {j : Nat} (hj : j < 22) {i : Int32} (h0 : ¬ i < 0) (h1 : i.toNatClampNeg < (am_txt j).length) : am_Ji n0 old D cA L xs l am_strAt prog_18_method_56_code 2 (some .char) 4 100 [.ref (old (am_big + j)), .int i] ((am_txt j).getD i.toNatClampNeg 0) := by
  refine Met.ofW (cc := prog_18_method_56_code) (maxL := 2) (ret := some .char) (by decide) rfl ?_
  intro p e s m args below meth c s₁ B hml hv
  obtain ⟨rfl, hK⟩ := hv
  have hx := B.exec
  have hb := B.bytes
  have hr := B.returns
  have hts := atoms_spec (ws := Cond.code am_strAt prog_18_method_56_code 2 (some .char) :: am_W) B.pre
  have hts : ∀ w ∈ am_W, w.before _ s = true := fun w h => hts w (List.mem_cons_of_mem _ h)
  have hown : s.vm.findClass "java/lang/String" = some m.cls := findClass_of_methodNamed B.named
  have hlocks := B.notSynchronized
  have hS : va_S (am_A n0) s.heap s.heap [] := va_S.rf
  have hl := lv_entry ([.ref (old (am_big + j)), .int i]) (n := 2) (Nat.le_of_ble_eq_true rfl)
  rw [lg_entry_eq]
  generalize (lg_sl ([.ref (old (am_big + j)), .int i]) ++ List.replicate (2 - (lg_sl ([.ref (old (am_big + j)), .int i])).length) Slot.unset).toArray = ls at hl ⊢
  have hl : lv_has ls 2 [(0, .ref (old (am_big + j))), (1, .int i)] := hl
  have hK' := hK
  obtain ⟨-, -, -, -, k5, -, -, -, -, -, -, k12, -⟩ := hK
  obtain ⟨d0, d1, d4, d7, d8, d11, d12, d15⟩ := am_dAt
  obtain ⟨hO, -, v, hV, hT⟩ := k5 j hj
  have hmem : (am_txt j).getD i.toNatClampNeg 0 ∈ am_txt j := by
    rw [List.getD_eq_getElem?_getD, List.getElem?_eq_getElem h1]
    exact List.getElem_mem h1
  obtain ⟨-, e2⟩ := am_txt_ok j hj _ hmem
  refine lv_aload_n hx hb d0 rfl (lv_at hl 0 rfl) ?_
  refine va_calli (va_runV (As := []) (rest := []) ⟨hx, hb, hml, hown, hts⟩ (am_mLat hj) (cwV 0 hts (am_W_good (fun w hw => by
      simp only [wsV, List.mem_append, List.mem_cons, List.not_mem_nil, or_false] at hw
      rcases hw with (rfl | rfl | rfl | rfl) | rfl | hw
      · exact am_twi 7 rfl
      · exact am_twi 8 rfl
      · exact am_twi 9 rfl
      · exact am_twi 6 rfl
      · exact am_cLat
      · exact hw)) rfl rfl rfl (by decide +kernel) ⟨Nat.le_of_ble_eq_true rfl, Nat.le_of_ble_eq_true rfl⟩)
      ⟨am_blind, (by obtain ⟨cell, h1, h2, h3, -⟩ := hO; exact ⟨cell, h1, h2, h3⟩), fun U hU hW => ⟨rfl, am_K.move hK' hW (locs := []) (by rw [hU]; exact va_S.rf)⟩⟩ rfl rfl hl.1 rfl (lv_room (Nat.le_of_ble_eq_true rfl)) d1 ⟨Nat.le_refl _, Nat.le_refl _⟩)
    (va_S.rf (A := fun _ => False)) (fun q _ h => h) (fun q h => h) (fun r u t H1 locs ht hvm hw hB hz1 hk1 hS1 => ?_)
  subst hw
  refine lv_if_eq (tgt := 16) hx hb d4 (by decide) (fun w => absurd w (by decide)) (fun _ => ?_)
  refine lv_aload_n hx hb d7 rfl (lv_at hl 0 rfl) ?_
  refine vk_getf hx hb hV (am_SA hS1) hown (hts _ (am_twi 2 rfl)) (fun _ q => q) d8 ?_
  refine lv_iload_n hx hb d11 rfl (lv_at hl 1 rfl) ?_
  refine va_calli (va_runS (As := [.ref v, .int i]) (rest := []) ⟨hx, hb, hml, hown, hts⟩ (am_mL1 (n0 := n0) (old := old) (D := D) (cA := cA) (L := L) (xs := xs) hj h0 h1) (va_cwS 2 hts (am_W_good (fun u hu => by
      simp only [va_wsS, List.mem_append, List.mem_cons, List.not_mem_nil, or_false] at hu
      rcases hu with (rfl | rfl | rfl) | rfl | hu
      · exact am_twi 10 rfl
      · exact am_twi 11 rfl
      · exact am_twi 12 rfl
      · exact am_cL1
      · exact hu)) rfl rfl rfl (by decide +kernel) ⟨Nat.le_of_ble_eq_true rfl, Nat.le_of_ble_eq_true rfl⟩)
      ⟨(by
        intro a U g mk h
        exact ⟨h.1, am_K.move (U := U.calling g mk a) h.2.1 (State.WarmedH.refl U) (locs := []) (show va_S (am_A n0) U.heap U.heap [] from va_S.rf), va_T.moved (u := U) (U := U.calling g mk a) (Vm.Alike.refl _) h.2.2⟩),
       fun U hU hW => ⟨rfl, am_K.move hK' hW (locs := locs) (by rw [hU]; exact am_SA hS1), va_T.moved hW.alike (by rw [hU]; exact hT.kept (am_SA (n0 := n0) hS1).2.1)⟩⟩ rfl rfl hl.1 rfl (lv_room (Nat.le_of_ble_eq_true rfl)) d12 ⟨Nat.le_refl _, Nat.le_refl _⟩)
    hS1 (fun q _ h => h) (fun q h => h) (fun r u t H2 locs2 ht hvm hw hB hz1 hk1 hS2 => ?_)
  subst hw
  exact W.zret (ty := .char) hx hb hr e2 (fun t ht _ => ⟨⟨_, (), rfl, rfl, trivial⟩, by rw [ht]; exact hS2.1, fun q h1 h2 => by rw [ht]; exact hS2.2.1 q h1 h2⟩) (fun q hq => (hS2.2.2 q hq).elim) d15
end AMT3
