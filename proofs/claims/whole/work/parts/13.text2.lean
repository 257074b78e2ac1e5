/-! ===== their contracts ===== -/
section AMT
variable {l : Launch} {n0 : Nat} {old : Nat → Nat} {D : va_G} {cA : Nat → ClassId} {L : Nat} {xs : Nat → Int32}
abbrev am_Ji (n0 : Nat) (old : Nat → Nat) (D : va_G) (cA : Nat → ClassId) (L : Nat) (xs : Nat → Int32) (l : Launch) (y : MethodName) (cc : ByteArray) (ml : Nat) (rt : Option FieldType) (fr lo : Nat) (as : List Value) (val : Int32) : Prop :=
  Met l y (Cond.code y cc ml rt :: am_W) { frames := fr, cells := 0, slots := 0, locals := lo } (va_Pc as (fun U => am_K n0 old D cA L xs U)) (va_Qi (fun r (_ : Unit) => r = val) (fun _ _ => True) (fun _ => False)) 0 0 (fun _ => False)
theorem am_SA {n0 : Nat} {H0 H : Heap} {locs : List Loc} (hS : va_S (fun _ => False) H0 H locs) : va_S (am_A n0) H0 H locs := ⟨hS.1, fun q h1 _ => hS.2.1 q h1 id, fun l hl => (hS.2.2 l hl).elim⟩
theorem am_blind {as : List Value} : FrameBlind (va_Pc as (fun U => am_K n0 old D cA L xs U)) := by
  intro a U g mk h
  exact ⟨h.1, am_K.move (U := U.calling g mk a) h.2 (State.WarmedH.refl U) (locs := []) (show va_S (am_A n0) U.heap U.heap [] from va_S.rf)⟩
theorem am_head {ws : List Cond} {w : Cond} (h : w ∈ am_W) : ∀ u ∈ w :: am_W, u ∈ am_W := fun u hu => by
  rcases List.mem_cons.mp hu with rfl | hu
  · exact h
  · exact hu
set_option maxRecDepth 100000 in
theorem am_dCod : decode prog_18_method_152_code 0 = .ok (.getstatic 38, 3) ∧ decode prog_18_method_152_code 3 = .ok (.ifCond .eq 10, 3) ∧ decode prog_18_method_152_code 6 = .ok (.aload_n 0, 1) ∧ decode prog_18_method_152_code 7 = .ok (.getfield 15, 3) ∧ decode prog_18_method_152_code 10 = .ok (.goto 4, 3) ∧ decode prog_18_method_152_code 14 = .ok (.ireturn, 1) := by decide +kernel
theorem am_mCod {j : Nat} (hj : j < 22) : am_Ji n0 old D cA L xs l am_yCod prog_18_method_152_code 1 (some .byte) 1 10 [.ref (old (am_big + j))] 0 := by
  refine Met.ofW (cc := prog_18_method_152_code) (maxL := 1) (ret := some .byte) (by decide) rfl ?_
  intro p e s m args below meth c s₁ B hml hv
  obtain ⟨rfl, hK⟩ := hv
  have hx := B.exec
  have hb := B.bytes
  have hr := B.returns
  have hts := atoms_spec (ws := Cond.code am_yCod prog_18_method_152_code 1 (some .byte) :: am_W) B.pre
  have hts : ∀ w ∈ am_W, w.before _ s = true := fun w h => hts w (List.mem_cons_of_mem _ h)
  have hown : s.vm.findClass "java/lang/String" = some m.cls := findClass_of_methodNamed B.named
  have hlocks := B.notSynchronized
  have hS : va_S (am_A n0) s.heap s.heap [] := va_S.rf
  have hl := lv_entry ([.ref (old (am_big + j))]) (n := 1) (Nat.le_of_ble_eq_true rfl)
  rw [lg_entry_eq]
  generalize (lg_sl ([.ref (old (am_big + j))]) ++ List.replicate (1 - (lg_sl ([.ref (old (am_big + j))])).length) Slot.unset).toArray = ls at hl ⊢
  have hl : lv_has ls 1 [(0, .ref (old (am_big + j)))] := hl
  obtain ⟨-, -, -, -, k5, -, -, -, -, -, -, k12, -⟩ := hK
  obtain ⟨d0, d3, d6, d7, d10, d14⟩ := am_dCod
  refine va_gets hx hb k12.1 hS hown (hts _ (am_twi 0 rfl)) (fun _ q => q) d0 ?_
  refine lv_if_eq (tgt := 13) hx hb d3 (by decide) (fun w => absurd w (by decide)) (fun _ => ?_)
  refine lv_aload_n hx hb d6 rfl (lv_at hl 0 rfl) ?_
  refine vk_getf hx hb (k5 j hj).2.1 hS hown (hts _ (am_twi 1 rfl)) (fun _ q => q) d7 ?_
  refine lv_goto (tgt := 14) hx hb d10 (by decide) ?_
  exact W.zret (ty := .byte) hx hb hr (by decide) (fun t ht _ => ⟨⟨0, (), rfl, rfl, trivial⟩, by rw [ht]; exact Nat.le_refl _, fun q _ _ => by rw [ht]⟩) (fun q hq => nomatch hq) d14
set_option maxRecDepth 100000 in
theorem am_dLat : decode prog_18_method_154_code 0 = .ok (.getstatic 38, 3) ∧ decode prog_18_method_154_code 3 = .ok (.ifCond .eq 14, 3) ∧ decode prog_18_method_154_code 6 = .ok (.aload_n 0, 1) ∧ decode prog_18_method_154_code 7 = .ok (.getfield 15, 3) ∧ decode prog_18_method_154_code 10 = .ok (.ifCond .ne 7, 3) ∧ decode prog_18_method_154_code 13 = .ok (.iconst 1, 1) ∧ decode prog_18_method_154_code 14 = .ok (.goto 4, 3) ∧ decode prog_18_method_154_code 18 = .ok (.ireturn, 1) := by decide +kernel
theorem am_mLat {j : Nat} (hj : j < 22) : am_Ji n0 old D cA L xs l am_yLat prog_18_method_154_code 1 (some .boolean) 1 10 [.ref (old (am_big + j))] 1 := by
  refine Met.ofW (cc := prog_18_method_154_code) (maxL := 1) (ret := some .boolean) (by decide) rfl ?_
  intro p e s m args below meth c s₁ B hml hv
  obtain ⟨rfl, hK⟩ := hv
  have hx := B.exec
  have hb := B.bytes
  have hr := B.returns
  have hts := atoms_spec (ws := Cond.code am_yLat prog_18_method_154_code 1 (some .boolean) :: am_W) B.pre
  have hts : ∀ w ∈ am_W, w.before _ s = true := fun w h => hts w (List.mem_cons_of_mem _ h)
  have hown : s.vm.findClass "java/lang/String" = some m.cls := findClass_of_methodNamed B.named
  have hlocks := B.notSynchronized
  have hS : va_S (am_A n0) s.heap s.heap [] := va_S.rf
  have hl := lv_entry ([.ref (old (am_big + j))]) (n := 1) (Nat.le_of_ble_eq_true rfl)
  rw [lg_entry_eq]
  generalize (lg_sl ([.ref (old (am_big + j))]) ++ List.replicate (1 - (lg_sl ([.ref (old (am_big + j))])).length) Slot.unset).toArray = ls at hl ⊢
  have hl : lv_has ls 1 [(0, .ref (old (am_big + j)))] := hl
  obtain ⟨-, -, -, -, k5, -, -, -, -, -, -, k12, -⟩ := hK
  obtain ⟨d0, d3, d6, d7, d10, d13, d14, d18⟩ := am_dLat
  refine va_gets hx hb k12.1 hS hown (hts _ (am_twi 0 rfl)) (fun _ q => q) d0 ?_
  refine lv_if_eq (tgt := 17) hx hb d3 (by decide) (fun w => absurd w (by decide)) (fun _ => ?_)
  refine lv_aload_n hx hb d6 rfl (lv_at hl 0 rfl) ?_
  refine vk_getf hx hb (k5 j hj).2.1 hS hown (hts _ (am_twi 1 rfl)) (fun _ q => q) d7 ?_
  refine lv_if_ne (tgt := 17) hx hb d10 (by decide) (fun w => absurd rfl w) (fun _ => ?_)
  refine lv_iconst (v := 1) hx hb d13 (by decide) ?_
  refine lv_goto (tgt := 18) hx hb d14 (by decide) ?_
  exact W.zret (ty := .boolean) hx hb hr (by decide) (fun t ht _ => ⟨⟨1, (), rfl, rfl, trivial⟩, by rw [ht]; exact Nat.le_refl _, fun q _ _ => by rw [ht]⟩) (fun q hq => nomatch hq) d18
set_option maxRecDepth 100000 in
theorem am_dLen : decode prog_18_method_54_code 0 = .ok (.aload_n 0, 1) ∧ decode prog_18_method_54_code 1 = .ok (.getfield 9, 3) ∧ decode prog_18_method_54_code 4 = .ok (.arraylength, 1) ∧ decode prog_18_method_54_code 5 = .ok (.aload_n 0, 1) ∧ decode prog_18_method_54_code 6 = .ok (.invokevirtual 335, 3) ∧ decode prog_18_method_54_code 9 = .ok (.ishr, 1) ∧ decode prog_18_method_54_code 10 = .ok (.ireturn, 1) := by decide +kernel
theorem am_mLen {j : Nat} (hj : j < 22) : am_Ji n0 old D cA L xs l am_strLen prog_18_method_54_code 1 (some .int) 2 40 [.ref (old (am_big + j))] (Int32.ofNat (am_txt j).length) := by
  refine Met.ofW (cc := prog_18_method_54_code) (maxL := 1) (ret := some .int) (by decide) rfl ?_
  intro p e s m args below meth c s₁ B hml hv
  obtain ⟨rfl, hK⟩ := hv
  have hx := B.exec
  have hb := B.bytes
  have hr := B.returns
  have hts := atoms_spec (ws := Cond.code am_strLen prog_18_method_54_code 1 (some .int) :: am_W) B.pre
  have hts : ∀ w ∈ am_W, w.before _ s = true := fun w h => hts w (List.mem_cons_of_mem _ h)
  have hown : s.vm.findClass "java/lang/String" = some m.cls := findClass_of_methodNamed B.named
  have hlocks := B.notSynchronized
  have hS : va_S (am_A n0) s.heap s.heap [] := va_S.rf
  have hl := lv_entry ([.ref (old (am_big + j))]) (n := 1) (Nat.le_of_ble_eq_true rfl)
  rw [lg_entry_eq]
  generalize (lg_sl ([.ref (old (am_big + j))]) ++ List.replicate (1 - (lg_sl ([.ref (old (am_big + j))])).length) Slot.unset).toArray = ls at hl ⊢
  have hl : lv_has ls 1 [(0, .ref (old (am_big + j)))] := hl
  have hK' := hK
  obtain ⟨-, -, -, -, k5, -, -, -, -, -, -, k12, -⟩ := hK
  obtain ⟨d0, d1, d4, d5, d6, d9, d10⟩ := am_dLen
  obtain ⟨hO, -, v, hV, hT⟩ := k5 j hj
  refine lv_aload_n hx hb d0 rfl (lv_at hl 0 rfl) ?_
  refine vk_getf hx hb hV hS hown (hts _ (am_twi 2 rfl)) (fun _ q => q) d1 ?_
  refine va_tlen hx hb hT hS rfl d4 ?_
  refine lv_aload_n hx hb d5 rfl (lv_at hl 0 rfl) ?_
  refine va_calli (va_runV (As := []) (rest := [.int (Int32.ofNat (am_txt j).length)]) ⟨hx, hb, hml, hown, hts⟩ (am_mCod hj) (cwV 0 hts (am_W_good (fun w hw => by
      simp only [wsV, List.mem_append, List.mem_cons, List.not_mem_nil, or_false] at hw
      rcases hw with (rfl | rfl | rfl | rfl) | rfl | hw
      · exact am_twi 3 rfl
      · exact am_twi 4 rfl
      · exact am_twi 5 rfl
      · exact am_twi 6 rfl
      · exact am_cCod
      · exact hw)) rfl rfl rfl (by decide +kernel) ⟨Nat.le_of_ble_eq_true rfl, Nat.le_of_ble_eq_true rfl⟩)
      ⟨am_blind, (by obtain ⟨cell, h1, h2, h3, -⟩ := hO; exact ⟨cell, h1, h2, h3⟩), fun U hU hW => ⟨rfl, am_K.move hK' hW (locs := []) (by rw [hU]; exact va_S.rf)⟩⟩ rfl rfl hl.1 rfl (lv_room (Nat.le_of_ble_eq_true rfl)) d6 ⟨Nat.le_refl _, Nat.le_refl _⟩)
    (va_S.rf (A := fun _ => False)) (fun q _ h => h) (fun q h => h) (fun r u t H1 locs ht hvm hw hB hz1 hk1 hS1 => ?_)
  subst hw
  refine lv_ishr hx hb d9 ?_
  refine W.iret hx hb hr (fun t ht _ => ⟨⟨_, (), rfl, ?_, trivial⟩, by rw [ht]; exact hS1.1, fun q h1 h2 => by rw [ht]; exact hS1.2.1 q h1 h2⟩) (fun q hq => (hS1.2.2 q hq).elim) d10
  rw [sb_shr0]
end AMT
