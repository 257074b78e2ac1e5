/-! ===== the ops that touch the heap ===== -/
theorem am_cl_get {a b : Nat} (h : b < am_N a) : ∃ (C : String) (T : u_T) (N : Nat), am_cl[a]? = some (C, T, N) ∧ am_T a = T ∧ am_N a = N ∧ am_Cn a = C := by
  cases hq : am_cl[a]? with
  | none => simp [am_N, List.getD_eq_getElem?_getD, hq] at h
  | some q =>
    obtain ⟨C, T, N⟩ := q
    refine ⟨C, T, N, rfl, ?_, ?_, ?_⟩ <;> simp [am_T, am_N, am_Cn, List.getD_eq_getElem?_getD, hq]
set_option maxRecDepth 100000 in
theorem am_cw0 : ((u_ws RX0 TX0 12 ++ [Cond.instantiable RX0 12, Cond.initialized RX0]).all fun w => decide (w ∈ lw_tbl) && goodWord w) = true := by decide +kernel
set_option maxRecDepth 100000 in
theorem am_cw1 : ((u_ws RX1 TX1 2 ++ [Cond.instantiable RX1 2, Cond.initialized RX1]).all fun w => decide (w ∈ lw_tbl) && goodWord w) = true := by decide +kernel
set_option maxRecDepth 100000 in
theorem am_cw2 : ((u_ws RX2 TX2 14 ++ [Cond.instantiable RX2 14, Cond.initialized RX2]).all fun w => decide (w ∈ lw_tbl) && goodWord w) = true := by decide +kernel
set_option maxRecDepth 100000 in
theorem am_cw3 : ((u_ws RX3 TX3 12 ++ [Cond.instantiable RX3 12, Cond.initialized RX3]).all fun w => decide (w ∈ lw_tbl) && goodWord w) = true := by decide +kernel
set_option maxRecDepth 100000 in
theorem am_cw4 : ((u_ws RX4 TX4 9 ++ [Cond.instantiable RX4 9, Cond.initialized RX4]).all fun w => decide (w ∈ lw_tbl) && goodWord w) = true := by decide +kernel
set_option maxRecDepth 100000 in
theorem am_cw5 : ((u_ws RX5 TX5 2 ++ [Cond.instantiable RX5 2, Cond.initialized RX5]).all fun w => decide (w ∈ lw_tbl) && goodWord w) = true := by decide +kernel
set_option maxRecDepth 100000 in
theorem am_cw6 : ((u_ws RX6 TX6 12 ++ [Cond.instantiable RX6 12, Cond.initialized RX6]).all fun w => decide (w ∈ lw_tbl) && goodWord w) = true := by decide +kernel
set_option maxRecDepth 100000 in
theorem am_cw7 : ((u_ws RX7 TX7 63 ++ [Cond.instantiable RX7 63, Cond.initialized RX7]).all fun w => decide (w ∈ lw_tbl) && goodWord w) = true := by decide +kernel
theorem am_in_of {ws : List Cond} (h : (ws.all fun w => decide (w ∈ lw_tbl) && goodWord w) = true) : ∀ w ∈ ws, w ∈ am_W := fun w hw => by
  have := List.all_eq_true.mp h w hw
  simp only [Bool.and_eq_true, decide_eq_true_eq] at this
  exact List.mem_filter.mpr this
/-- what is known of each kind of object -/
def am_CC (C : String) (T : u_T) (N : Nat) : Prop := (∀ w ∈ u_ws C T N, w ∈ am_W) ∧ Cond.instantiable C N ∈ am_W ∧ Cond.initialized C ∈ am_W ∧ (∀ a, a < N → ∀ b, b < N → a ≠ b → (T a).2.1 ≠ (T b).2.1) ∧ ∃ ty : Nat → FieldType, ∀ k, k < N → parseFieldDescriptor (T k).2.2.1 = some (ty k)
theorem am_CC_of {C : String} {T : u_T} {N : Nat} (h : ((u_ws C T N ++ [Cond.instantiable C N, Cond.initialized C]).all fun w => decide (w ∈ lw_tbl) && goodWord w) = true) (hn : ∀ a, a < N → ∀ b, b < N → a ≠ b → (T a).2.1 ≠ (T b).2.1) {ty : Nat → FieldType} (ht : ∀ k, k < N → parseFieldDescriptor (T k).2.2.1 = some (ty k)) : am_CC C T N :=
  ⟨fun w hw => am_in_of h w (List.mem_append_left _ hw), am_in_of h _ (List.mem_append_right _ List.mem_cons_self), am_in_of h _ (List.mem_append_right _ (List.mem_cons_of_mem _ List.mem_cons_self)), hn, ty, ht⟩
theorem am_cc {a : Nat} {C : String} {T : u_T} {N : Nat} (h : am_cl[a]? = some (C, T, N)) : am_CC C T N := by
  match a, h with
  | 0, h => cases h; exact am_CC_of am_cw0 nmX0 tyX0_ok
  | 1, h => cases h; exact am_CC_of am_cw1 nmX1 tyX1_ok
  | 2, h => cases h; exact am_CC_of am_cw2 nmX2 tyX2_ok
  | 3, h => cases h; exact am_CC_of am_cw3 nmX3 tyX3_ok
  | 4, h => cases h; exact am_CC_of am_cw4 nmX4 tyX4_ok
  | 5, h => cases h; exact am_CC_of am_cw5 nmX5 tyX5_ok
  | 6, h => cases h; exact am_CC_of am_cw6 nmX6 tyX6_ok
  | 7, h => cases h; exact am_CC_of am_cw7 nmX7 tyX7_ok
  | a + 8, h => simp [am_cl] at h
theorem am_same {S : am_S} {k : Nat} {c : am_C} (h : S[k]? = some c) : S.set k c = S := by
  apply List.ext_getElem?
  intro i
  by_cases hi : i = k
  · subst hi
    rw [List.getElem?_set_self (List.getElem?_eq_some_iff.mp h).1, h]
  · rw [List.getElem?_set_ne (Ne.symm hi)]
theorem am_set_ne {h : am_M} {k j x i} (hi : i ≠ k) : am_set h k j x i = h i := by unfold am_set va_up; rw [if_neg hi]
theorem am_set_self {h : am_M} {k j x} : am_set h k j x k = upd (h k) j x := by unfold am_set va_up; rw [if_pos rfl]
theorem am_setL_ne {o : am_L} {k j x i} (hi : i ≠ k) : am_setL o k j x i = o i := by unfold am_setL va_up; rw [if_neg hi]
theorem am_setL_self {o : am_L} {k j x} : am_setL o k j x k = vp_updL (o k) j x := by unfold am_setL va_up; rw [if_pos rfl]
/-- a cell that is written: the same shape, other numbers -/
theorem am_P_put {D : va_G} {r : Nat → Nat} {cA : Nat → ClassId} {S : am_S} {h h' : am_M} {o o' : am_L} {k : Nat} {c : am_C} {E : va_E} {H1 : Heap} (hk : S[k]? = some c) (hE : am_e r cA h' o' k c = E) (hh : ∀ j, j ≠ k → h' j = h j) (ho : ∀ j, j ≠ k → o' j = o j)
    (hP : va_P D am_cl ((am_ws r cA S h o).set k (r k, E)) H1) : va_P D am_cl (am_ws r cA S h' o') H1 := by
  rw [am_ws_set (c := c) (am_same hk).symm (List.getElem?_eq_some_iff.mp hk).1 hh ho, hE]
  exact hP
/-- a cell of another shape -/
theorem am_P_putS {D : va_G} {r : Nat → Nat} {cA : Nat → ClassId} {S : am_S} {h : am_M} {o : am_L} {k : Nat} {c : am_C} {E : va_E} {H1 : Heap} (hk : k < S.length) (hE : am_e r cA h o k c = E)
    (hP : va_P D am_cl ((am_ws r cA S h o).set k (r k, E)) H1) : va_P D am_cl (am_ws r cA (S.set k c) h o) H1 := by
  rw [am_ws_set (c := c) rfl hk (fun _ _ => rfl) (fun _ _ => rfl), hE]
  exact hP
theorem am_e_fld {r : Nat → Nat} {cA : Nat → ClassId} {h : am_M} {o : am_L} {k ci b : Nat} {fl : List (Option Value)} {x : Int32} (hf : fl[b]? = some none) : am_e r cA (am_set h k b x) o k (.inr (.inr (ci, fl))) = .inr (ci, (fl.mapIdx (am_f r h k)).set b (.int x)) := by
  simp only [am_e]
  congr 2
  apply List.ext_getElem?
  intro j
  by_cases hj : j = b
  · subst hj
    rw [List.getElem?_set_self (by rw [List.length_mapIdx]; exact (List.getElem?_eq_some_iff.mp hf).1), List.getElem?_mapIdx, hf]
    simp [am_f, am_set_self, upd]
  · rw [List.getElem?_set_ne (Ne.symm hj), List.getElem?_mapIdx, List.getElem?_mapIdx]
    cases fl[j]? with
    | none => rfl
    | some f => cases f <;> simp [am_f, am_set_self, upd, hj]
theorem am_e_ref {r : Nat → Nat} {cA : Nat → ClassId} {h : am_M} {o : am_L} {k ci b : Nat} {fl : List (Option Value)} {x : Nat} (hb : b < fl.length) : am_e r cA h o k (.inr (.inr (ci, fl.set b (some (.ref x))))) = .inr (ci, (fl.mapIdx (am_f r h k)).set b (.ref (r x))) := by
  simp only [am_e]
  congr 2
  apply List.ext_getElem?
  intro j
  by_cases hj : j = b
  · subst hj
    rw [List.getElem?_set_self (by rw [List.length_mapIdx]; exact hb), List.getElem?_mapIdx, List.getElem?_set_self hb]
    rfl
  · rw [List.getElem?_set_ne (Ne.symm hj), List.getElem?_mapIdx, List.getElem?_mapIdx, List.getElem?_set_ne (Ne.symm hj)]
theorem am_idx {n : Nat} {i : Int32} {k : Nat} (h : ¬ (i < 0 ∨ n ≤ i.toNatClampNeg ∨ am_big ≤ k)) : vp_in i n ∧ k < am_big := ⟨fun q => h (q.elim Or.inl (fun w => Or.inr (Or.inl w))), Nat.not_le.mp fun q => h (Or.inr (Or.inr q))⟩
theorem am_bit_of {x : Int32} (h : am_bit x = true) : narrow .boolean (.int x) = .int x ∧ fits .boolean (.int x) = true := by
  simp only [am_bit, Bool.or_eq_true, decide_eq_true_eq] at h
  rcases h with rfl | rfl <;> decide
section AMH
variable {p : Program} {l : Launch} {e : Env} {R : Room} {s : State} {m : MethodId} {args : Array Value} {below : List Frame} {meth : Method} {c : Code} {Q : State → Prop} {n0 : Nat} {old : Nat → Nat} {D : va_G} {cA : Nat → ClassId} {L : Nat} {xs : Nat → Int32} {mi c0 z0 g pc pc' : Nat} {lv lv' : am_V} {st st' : List Value} {S S' : am_S} {h h' : am_M} {o o' : am_L} {a b c' : Nat} {v : Int32}
theorem am_s13 (B : am_B p s m args meth c mi) (K : am_K n0 old D cA L xs s) (ok : am_okE mi pc (13, a, b, c', v) = true) (hs : am_step L xs 13 a b c' v lv st S h o g = some (.inl (pc', lv', st', S', h', o')))
    (kk : am_G p l e R s m args below meth c Q n0 old D cA mi c0 z0 g pc' lv' st' S' h' o') : am_G p l e R s m args below meth c Q n0 old D cA mi c0 z0 g pc lv st S h o := by
  intro H locs ls hP hS hl hbg hc0 hz0
  obtain ⟨hx, hb, hml, hown, hts, hr, hlk, hnm, htab⟩ := B
  obtain ⟨i, n, hd, rfl, hi⟩ := am_okE_spec ok (by decide)
  simp only [am_okI] at hi
  simp only [am_step] at hs
  split at hs
  · rename_i k r
    split at hs
    · rename_i ci fl hk
      split at hs
      · rename_i hg
        obtain ⟨rfl, hkb⟩ := hg
        split at hi
        · rename_i x
          simp only [Bool.and_eq_true, decide_eq_true_eq] at hi
          obtain ⟨hw, hN, rfl⟩ := hi
          obtain ⟨C, T, N, hcl, hT, hNN, hC⟩ := am_cl_get hN
          rw [hT] at hw
          rw [hNN] at hN
          obtain ⟨hin, -, -, -, -⟩ := am_cc hcl
          have he := am_ws_get (r := am_r n0 old) (cA := cA) (h := h) (o := o) hk
          split at hs
          · rename_i hf
            simp only [Option.some.injEq, Sum.inl.injEq, Prod.mk.injEq] at hs
            obtain ⟨rfl, rfl, rfl, rfl, rfl, rfl⟩ := hs
            exact va_get hx hb hts hin hown K.1 hP k he hcl b hN (hts _ (am_W_of hw)) (fun _ q => q) (v := .int (h k b)) (by rw [List.getElem?_mapIdx, hf]; rfl) hd (kk H locs ls hP hS hl hbg hc0 hz0)
          · rename_i w hf
            simp only [Option.some.injEq, Sum.inl.injEq, Prod.mk.injEq] at hs
            obtain ⟨rfl, rfl, rfl, rfl, rfl, rfl⟩ := hs
            exact va_get hx hb hts hin hown K.1 hP k he hcl b hN (hts _ (am_W_of hw)) (fun _ q => q) (v := am_v (am_r n0 old) w) (by rw [List.getElem?_mapIdx, hf]; rfl) hd (kk H locs ls hP hS hl hbg hc0 hz0)
          · cases hs
        · cases hi
      · cases hs
    · cases hs
  · cases hs
theorem am_s14 (B : am_B p s m args meth c mi) (K : am_K n0 old D cA L xs s) (ok : am_okE mi pc (14, a, b, c', v) = true) (hs : am_step L xs 14 a b c' v lv st S h o g = some (.inl (pc', lv', st', S', h', o')))
    (kk : am_G p l e R s m args below meth c Q n0 old D cA mi c0 z0 g pc' lv' st' S' h' o') : am_G p l e R s m args below meth c Q n0 old D cA mi c0 z0 g pc lv st S h o := by
  intro H locs ls hP hS hl hbg hc0 hz0
  obtain ⟨hx, hb, hml, hown, hts, hr, hlk, hnm, htab⟩ := B
  obtain ⟨i, n, hd, rfl, hi⟩ := am_okE_spec ok (by decide)
  simp only [am_okI] at hi
  simp only [am_step] at hs
  split at hs
  · rename_i x k r
    split at hs
    · rename_i ci fl hk
      split at hs
      · rename_i hg
        obtain ⟨rfl, hkb, hf⟩ := hg
        simp only [Option.some.injEq, Sum.inl.injEq, Prod.mk.injEq] at hs
        obtain ⟨rfl, rfl, rfl, rfl, rfl, rfl⟩ := hs
        split at hi
        · simp only [Bool.and_eq_true, decide_eq_true_eq] at hi
          obtain ⟨hw, hN, hI, rfl⟩ := hi
          obtain ⟨C, T, N, hcl, hT, hNN, hC⟩ := am_cl_get hN
          rw [hT] at hw hI
          rw [hNN] at hN
          obtain ⟨hin, -, -, hnmx, ty, hty⟩ := am_cc hcl
          have he := am_ws_get (r := am_r n0 old) (cA := cA) (h := h) (o := o) hk
          exact va_put hx hb hts hin ty hty hnmx hown K.1 hP (am_D hbg) hS k he hcl b hN (hts _ (am_W_of hw)) (fun _ q => q) (by rw [hI]) (ty := .int) (by rw [hI]; decide) rfl rfl (by rw [List.length_mapIdx]; exact (List.getElem?_eq_some_iff.mp hf).1) hd
            (fun H1 locs1 hP1 _ hS1 => kk H1 locs1 ls (am_P_put hk (am_e_fld hf) (fun _ => am_set_ne) (fun _ _ => rfl) hP1) hS1 hl hbg hc0 hz0)
        · cases hi
      · cases hs
    · cases hs
  · cases hs
theorem am_s15 (B : am_B p s m args meth c mi) (K : am_K n0 old D cA L xs s) (ok : am_okE mi pc (15, a, b, c', v) = true) (hs : am_step L xs 15 a b c' v lv st S h o g = some (.inl (pc', lv', st', S', h', o')))
    (kk : am_G p l e R s m args below meth c Q n0 old D cA mi c0 z0 g pc' lv' st' S' h' o') : am_G p l e R s m args below meth c Q n0 old D cA mi c0 z0 g pc lv st S h o := by
  intro H locs ls hP hS hl hbg hc0 hz0
  obtain ⟨hx, hb, hml, hown, hts, hr, hlk, hnm, htab⟩ := B
  obtain ⟨i, n, hd, rfl, hi⟩ := am_okE_spec ok (by decide)
  simp only [am_okI] at hi
  simp only [am_step] at hs
  split at hs
  · rename_i x k r
    split at hs
    · rename_i ci fl hk
      split at hs
      · rename_i hg
        obtain ⟨rfl, hkb, hf, hbit⟩ := hg
        simp only [Option.some.injEq, Sum.inl.injEq, Prod.mk.injEq] at hs
        obtain ⟨rfl, rfl, rfl, rfl, rfl, rfl⟩ := hs
        split at hi
        · simp only [Bool.and_eq_true, decide_eq_true_eq] at hi
          obtain ⟨hw, hN, hI, rfl⟩ := hi
          obtain ⟨C, T, N, hcl, hT, hNN, hC⟩ := am_cl_get hN
          rw [hT] at hw hI
          rw [hNN] at hN
          obtain ⟨hin, -, -, hnmx, ty, hty⟩ := am_cc hcl
          have he := am_ws_get (r := am_r n0 old) (cA := cA) (h := h) (o := o) hk
          exact va_put hx hb hts hin ty hty hnmx hown K.1 hP (am_D hbg) hS k he hcl b hN (hts _ (am_W_of hw)) (fun _ q => q) (by rw [hI]) (ty := .boolean) (by rw [hI]; decide) (am_bit_of hbit).1 (am_bit_of hbit).2 (by rw [List.length_mapIdx]; exact (List.getElem?_eq_some_iff.mp hf).1) hd
            (fun H1 locs1 hP1 _ hS1 => kk H1 locs1 ls (am_P_put hk (am_e_fld hf) (fun _ => am_set_ne) (fun _ _ => rfl) hP1) hS1 hl hbg hc0 hz0)
        · cases hi
      · cases hs
    · cases hs
  · cases hs
theorem am_s16 (B : am_B p s m args meth c mi) (hm0 : mi ≠ 0) (K : am_K n0 old D cA L xs s) (ok : am_okE mi pc (16, a, b, c', v) = true) (hs : am_step L xs 16 a b c' v lv st S h o g = some (.inl (pc', lv', st', S', h', o')))
    (kk : am_G p l e R s m args below meth c Q n0 old D cA mi c0 z0 g pc' lv' st' S' h' o') : am_G p l e R s m args below meth c Q n0 old D cA mi c0 z0 g pc lv st S h o := by
  intro H locs ls hP hS hl hbg hc0 hz0
  obtain ⟨hx, hb, hml, hown, hts, hr, hlk, hnm, htab⟩ := B
  obtain ⟨i, n, hd, rfl, hi⟩ := am_okE_spec ok (by decide)
  simp only [am_okI] at hi
  simp only [am_step] at hs
  split at hs
  · rename_i x k r
    split at hs
    · rename_i ci fl hk
      split at hs
      · rename_i hg
        obtain ⟨rfl, hkb, hf⟩ := hg
        simp only [Option.some.injEq, Sum.inl.injEq, Prod.mk.injEq] at hs
        obtain ⟨rfl, rfl, rfl, rfl, rfl, rfl⟩ := hs
        split at hi
        · simp only [Bool.and_eq_true, decide_eq_true_eq] at hi
          obtain ⟨hw, hN, hfin, hdecl, hinit, hdesc, rfl⟩ := hi
          obtain ⟨C, T, N, hcl, hT, hNN, hC⟩ := am_cl_get hN
          rw [hT] at hw hfin hdecl hdesc
          rw [hNN] at hN
          obtain ⟨hin, -, -, hnmx, ty, hty⟩ := am_cc hcl
          have he := am_ws_get (r := am_r n0 old) (cA := cA) (h := h) (o := o) hk
          have hkl := (List.getElem?_eq_some_iff.mp hk).1
          have hty2 := hty b hN
          have hq : narrow (ty b) (.ref (am_r n0 old x)) = .ref (am_r n0 old x) ∧ fits (ty b) (.ref (am_r n0 old x)) = true := by
            rw [hty2] at hdesc
            generalize ty b = t at hdesc
            cases t <;> first | (cases hdesc; done) | exact ⟨rfl, rfl⟩
          exact va_putF hx hb hts hin ty hty hnmx hown K.1 hP (am_D hbg) hS k he hcl b hN (hts _ (am_W_of hw)) (fun _ q => q) hfin ((hnm hm0).trans hinit) hdecl hty2 hq.1 hq.2 (by rw [List.length_mapIdx]; exact hf) hd
            (fun H1 locs1 hP1 _ hS1 => by
              have k1 := kk H1 locs1 ls (am_P_putS hkl (am_e_ref hf) hP1) hS1 hl (by rw [List.length_set]; exact hbg)
              have e1 : am_ct (S.set k (.inr (.inr (ci, fl.set b (some (.ref x)))))) g = am_ct S g := by simp [am_ct]
              have e2 : am_sz (S.set k (.inr (.inr (ci, fl.set b (some (.ref x)))))) g = am_sz S g := by
                simp only [am_sz, List.map_set]
                congr 2
                apply List.ext_getElem?
                intro j
                by_cases hj : j = k
                · subst hj
                  rw [List.getElem?_set_self (by rw [List.length_map]; exact hkl), List.getElem?_map, hk]
                  simp [am_csz]
                · rw [List.getElem?_set_ne (Ne.symm hj)]
              rw [e1, e2] at k1
              exact k1 hc0 hz0)
        · cases hi
      · cases hs
    · cases hs
  · cases hs
end AMH
