/-! ===== arrays, constants, the JDK's own small methods ===== -/
set_option maxRecDepth 100000 in
theorem am_jw : (([.static Lib.Math.max.name, .initialized "java/lang/Math", .code Lib.Math.max.name Lib.Math.max.code 2 (some .int), .static Lib.Math.min.name, .code Lib.Math.min.name Lib.Math.min.code 2 (some .int), .static Lib.Math.abs.name, .code Lib.Math.abs.name Lib.Math.abs.code 1 (some .int), .native arraycopyName, .static arraycopyName, .initialized "java/lang/System", .instanceMethod Lib.objectInit, .code Lib.objectInit ⟨#[0xb1]⟩ 1 none] : List Cond).all fun w => decide (w ∈ lw_tbl) && goodWord w) = true := by decide +kernel
theorem am_jwi (k : Nat) {w : Cond} (hk : ([.static Lib.Math.max.name, .initialized "java/lang/Math", .code Lib.Math.max.name Lib.Math.max.code 2 (some .int), .static Lib.Math.min.name, .code Lib.Math.min.name Lib.Math.min.code 2 (some .int), .static Lib.Math.abs.name, .code Lib.Math.abs.name Lib.Math.abs.code 1 (some .int), .native arraycopyName, .static arraycopyName, .initialized "java/lang/System", .instanceMethod Lib.objectInit, .code Lib.objectInit ⟨#[0xb1]⟩ 1 none] : List Cond)[k]? = some w) : w ∈ am_W := am_in_of am_jw w (List.mem_of_getElem? hk)
section AMH2
variable {p : Program} {l : Launch} {e : Env} {R : Room} {s : State} {m : MethodId} {args : Array Value} {below : List Frame} {meth : Method} {c : Code} {Q : State → Prop} {n0 : Nat} {old : Nat → Nat} {D : va_G} {cA : Nat → ClassId} {L : Nat} {xs : Nat → Int32} {mi c0 z0 g pc pc' : Nat} {lv lv' : am_V} {st st' : List Value} {S S' : am_S} {h h' : am_M} {o o' : am_L} {a b c' : Nat} {v : Int32}
theorem am_s17 (B : am_B p s m args meth c mi) (K : am_K n0 old D cA L xs s) (ok : am_okE mi pc (17, a, b, c', v) = true) (hs : am_step L xs 17 a b c' v lv st S h o g = some (.inl (pc', lv', st', S', h', o')))
    (kk : am_G p l e R s m args below meth c Q n0 old D cA mi c0 z0 g pc' lv' st' S' h' o') : am_G p l e R s m args below meth c Q n0 old D cA mi c0 z0 g pc lv st S h o := by
  intro H locs ls hP hS hl hbg hc0 hz0
  obtain ⟨hx, hb, hml, hown, hts, hr, hlk, hnm, htab⟩ := B
  obtain ⟨i, n, hd, rfl, hi⟩ := am_okE_spec ok (by decide)
  simp only [am_okI] at hi
  simp only [am_step] at hs
  simp only [Bool.and_eq_true, decide_eq_true_eq] at hi
  obtain ⟨rfl, rfl⟩ := hi
  split at hs
  · rename_i i k r
    split at hs
    · rename_i hk
      subst hk
      split at hs
      · cases hs
      · rename_i hin
        simp only [Option.some.injEq, Sum.inl.injEq, Prod.mk.injEq] at hs
        obtain ⟨rfl, rfl, rfl, rfl, rfl, rfl⟩ := hs
        have k1 := kk H locs ls hP hS hl hbg hc0 hz0
        exact va_sld (A := am_A n0) hx hb K.2.2.1 (Nat.lt_of_lt_of_le K.2.2.2.1 K.2.1) (Nat.not_le.mpr K.2.2.2.1) hS hin hd k1
    · split at hs
      · rename_i n hk
        split at hs
        · cases hs
        · rename_i hin
          simp only [Option.some.injEq, Sum.inl.injEq, Prod.mk.injEq] at hs
          obtain ⟨rfl, rfl, rfl, rfl, rfl, rfl⟩ := hs
          have k1 := kk H locs ls hP hS hl hbg hc0 hz0
          have he := am_ws_get (r := am_r n0 old) (cA := cA) (h := h) (o := o) hk
          exact va_iald hx hb K.1 hP k 0 he rfl (am_idx hin).1 hd k1
      · cases hs
  · cases hs
theorem am_s18 (B : am_B p s m args meth c mi) (K : am_K n0 old D cA L xs s) (ok : am_okE mi pc (18, a, b, c', v) = true) (hs : am_step L xs 18 a b c' v lv st S h o g = some (.inl (pc', lv', st', S', h', o')))
    (kk : am_G p l e R s m args below meth c Q n0 old D cA mi c0 z0 g pc' lv' st' S' h' o') : am_G p l e R s m args below meth c Q n0 old D cA mi c0 z0 g pc lv st S h o := by
  intro H locs ls hP hS hl hbg hc0 hz0
  obtain ⟨hx, hb, hml, hown, hts, hr, hlk, hnm, htab⟩ := B
  obtain ⟨i, n, hd, rfl, hi⟩ := am_okE_spec ok (by decide)
  simp only [am_okI] at hi
  simp only [am_step] at hs
  simp only [Bool.and_eq_true, decide_eq_true_eq] at hi
  obtain ⟨rfl, rfl⟩ := hi
  split at hs
  · rename_i i k r
    split at hs
    · rename_i n hk
      split at hs
      · cases hs
      · rename_i hin
        simp only [Option.some.injEq, Sum.inl.injEq, Prod.mk.injEq] at hs
        obtain ⟨rfl, rfl, rfl, rfl, rfl, rfl⟩ := hs
        have k1 := kk H locs ls hP hS hl hbg hc0 hz0
        have he := am_ws_get (r := am_r n0 old) (cA := cA) (h := h) (o := o) hk
        exact va_bald hx hb K.1 hP k 1 he rfl (am_idx hin).1 hd k1
    · rename_i n hk
      split at hs
      · cases hs
      · rename_i hin
        simp only [Option.some.injEq, Sum.inl.injEq, Prod.mk.injEq] at hs
        obtain ⟨rfl, rfl, rfl, rfl, rfl, rfl⟩ := hs
        have k1 := kk H locs ls hP hS hl hbg hc0 hz0
        have he := am_ws_get (r := am_r n0 old) (cA := cA) (h := h) (o := o) hk
        exact va_zald hx hb K.1 hP k 2 he rfl (am_idx hin).1 hd k1
    · cases hs
  · cases hs
theorem am_s20 (B : am_B p s m args meth c mi) (K : am_K n0 old D cA L xs s) (ok : am_okE mi pc (20, a, b, c', v) = true) (hs : am_step L xs 20 a b c' v lv st S h o g = some (.inl (pc', lv', st', S', h', o')))
    (kk : am_G p l e R s m args below meth c Q n0 old D cA mi c0 z0 g pc' lv' st' S' h' o') : am_G p l e R s m args below meth c Q n0 old D cA mi c0 z0 g pc lv st S h o := by
  intro H locs ls hP hS hl hbg hc0 hz0
  obtain ⟨hx, hb, hml, hown, hts, hr, hlk, hnm, htab⟩ := B
  obtain ⟨i, n, hd, rfl, hi⟩ := am_okE_spec ok (by decide)
  simp only [am_okI] at hi
  simp only [am_step] at hs
  simp only [Bool.and_eq_true, decide_eq_true_eq] at hi
  obtain ⟨rfl, rfl⟩ := hi
  split at hs
  · rename_i i k r
    split at hs
    · rename_i t n f hk
      split at hs
      · cases hs
      · rename_i hin
        split at hs
        · rename_i y hy
          simp only [Option.some.injEq, Sum.inl.injEq, Prod.mk.injEq] at hs
          obtain ⟨rfl, rfl, rfl, rfl, rfl, rfl⟩ := hs
          have k1 := kk H locs ls hP hS hl hbg hc0 hz0
          have he := am_ws_get (r := am_r n0 old) (cA := cA) (h := h) (o := o) hk
          have hin2 : vp_in i n := fun q => hin (q.elim Or.inl (fun w => Or.inr (Or.inl w)))
          have hlt : i.toNatClampNeg < n := Nat.not_le.mp fun q => hin2 (Or.inr q)
          have hcell : H[am_r n0 old k]? = some (vp_cell (cA t) (n, .inr (.inr (.inr (.inr (fun j => (f j).map (am_r n0 old))))))) := hP k _ he
          have hT : t = 4 ∨ t = 5 := Classical.byContradiction fun q => hin (Or.inr (Or.inr (Or.inr q)))
          rcases hT with rfl | rfl
          · exact W.aald (v := .ref (am_r n0 old y)) (ty := .array .int) hx hb hcell ((K.1.2 4 _ rfl).1 n (fun j => va_rf ((f j).map (am_r n0 old)))) rfl (fun q => by cases q) (by show ¬ (i < 0 ∨ (arrV _ _ _).slots.size ≤ _); rw [arrV_size]; exact hin2) (by show (arrV _ _ _).slots[_]? = _; rw [arrV_read _ _ hlt]; show some (va_rf ((f i.toNatClampNeg).map (am_r n0 old))) = _; rw [hy]; rfl) rfl rfl hd k1
          · exact W.aald (v := .ref (am_r n0 old y)) (ty := .object "java/lang/String") hx hb hcell ((K.1.2 5 _ rfl).1 n (fun j => va_rf ((f j).map (am_r n0 old)))) rfl (fun q => by cases q) (by show ¬ (i < 0 ∨ (arrV _ _ _).slots.size ≤ _); rw [arrV_size]; exact hin2) (by show (arrV _ _ _).slots[_]? = _; rw [arrV_read _ _ hlt]; show some (va_rf ((f i.toNatClampNeg).map (am_r n0 old))) = _; rw [hy]; rfl) rfl rfl hd k1
        · cases hs
    · cases hs
  · cases hs
theorem am_s21 (B : am_B p s m args meth c mi) (K : am_K n0 old D cA L xs s) (ok : am_okE mi pc (21, a, b, c', v) = true) (hs : am_step L xs 21 a b c' v lv st S h o g = some (.inl (pc', lv', st', S', h', o')))
    (kk : am_G p l e R s m args below meth c Q n0 old D cA mi c0 z0 g pc' lv' st' S' h' o') : am_G p l e R s m args below meth c Q n0 old D cA mi c0 z0 g pc lv st S h o := by
  intro H locs ls hP hS hl hbg hc0 hz0
  obtain ⟨hx, hb, hml, hown, hts, hr, hlk, hnm, htab⟩ := B
  obtain ⟨i, n, hd, rfl, hi⟩ := am_okE_spec ok (by decide)
  simp only [am_okI] at hi
  simp only [am_step] at hs
  simp only [Bool.and_eq_true, decide_eq_true_eq] at hi
  obtain ⟨rfl, rfl⟩ := hi
  split at hs
  · rename_i i k r
    split at hs
    · rename_i n hk
      split at hs
      · cases hs
      · rename_i hin
        simp only [Option.some.injEq, Sum.inl.injEq, Prod.mk.injEq] at hs
        obtain ⟨rfl, rfl, rfl, rfl, rfl, rfl⟩ := hs
        have k1 := kk H locs ls hP hS hl hbg hc0 hz0
        have he := am_ws_get (r := am_r n0 old) (cA := cA) (h := h) (o := o) hk
        exact va_lald hx hb K.1 hP k 3 he rfl (am_idx hin).1 hd k1
    · cases hs
  · cases hs
theorem am_s22 (B : am_B p s m args meth c mi) (K : am_K n0 old D cA L xs s) (ok : am_okE mi pc (22, a, b, c', v) = true) (hs : am_step L xs 22 a b c' v lv st S h o g = some (.inl (pc', lv', st', S', h', o')))
    (kk : am_G p l e R s m args below meth c Q n0 old D cA mi c0 z0 g pc' lv' st' S' h' o') : am_G p l e R s m args below meth c Q n0 old D cA mi c0 z0 g pc lv st S h o := by
  intro H locs ls hP hS hl hbg hc0 hz0
  obtain ⟨hx, hb, hml, hown, hts, hr, hlk, hnm, htab⟩ := B
  obtain ⟨i, n, hd, rfl, hi⟩ := am_okE_spec ok (by decide)
  simp only [am_okI] at hi
  simp only [am_step] at hs
  simp only [Bool.and_eq_true, decide_eq_true_eq] at hi
  obtain ⟨rfl, rfl⟩ := hi
  split at hs
  · rename_i x i k r
    split at hs
    · rename_i n hk
      split at hs
      · cases hs
      · rename_i hin
        simp only [Option.some.injEq, Sum.inl.injEq, Prod.mk.injEq] at hs
        obtain ⟨rfl, rfl, rfl, rfl, rfl, rfl⟩ := hs
        have he := am_ws_get (r := am_r n0 old) (cA := cA) (h := h) (o := o) hk
        exact va_iast hx hb K.1 hP (am_D hbg) hS k 0 he rfl (am_idx hin).1 hd (fun H1 locs1 hP1 _ hS1 => kk H1 locs1 ls (am_P_put hk (by simp [am_e, am_set_self]) (fun _ => am_set_ne) (fun _ _ => rfl) hP1) hS1 hl hbg hc0 hz0)
    · cases hs
  · cases hs
theorem am_s23 (B : am_B p s m args meth c mi) (K : am_K n0 old D cA L xs s) (ok : am_okE mi pc (23, a, b, c', v) = true) (hs : am_step L xs 23 a b c' v lv st S h o g = some (.inl (pc', lv', st', S', h', o')))
    (kk : am_G p l e R s m args below meth c Q n0 old D cA mi c0 z0 g pc' lv' st' S' h' o') : am_G p l e R s m args below meth c Q n0 old D cA mi c0 z0 g pc lv st S h o := by
  intro H locs ls hP hS hl hbg hc0 hz0
  obtain ⟨hx, hb, hml, hown, hts, hr, hlk, hnm, htab⟩ := B
  obtain ⟨i, n, hd, rfl, hi⟩ := am_okE_spec ok (by decide)
  simp only [am_okI] at hi
  simp only [am_step] at hs
  simp only [Bool.and_eq_true, decide_eq_true_eq] at hi
  obtain ⟨rfl, rfl⟩ := hi
  split at hs
  · rename_i x i k r
    split at hs
    · rename_i n hk
      split at hs
      · cases hs
      · rename_i hin
        simp only [Option.some.injEq, Sum.inl.injEq, Prod.mk.injEq] at hs
        obtain ⟨rfl, rfl, rfl, rfl, rfl, rfl⟩ := hs
        have he := am_ws_get (r := am_r n0 old) (cA := cA) (h := h) (o := o) hk
        exact va_bast hx hb K.1 hP (am_D hbg) hS k 1 he rfl (am_idx hin).1 hd (fun H1 locs1 hP1 _ hS1 => kk H1 locs1 ls (am_P_put hk (by simp [am_e, am_set_self]) (fun _ => am_set_ne) (fun _ _ => rfl) hP1) hS1 hl hbg hc0 hz0)
    · rename_i n hk
      split at hs
      · cases hs
      · rename_i hin
        simp only [Option.some.injEq, Sum.inl.injEq, Prod.mk.injEq] at hs
        obtain ⟨rfl, rfl, rfl, rfl, rfl, rfl⟩ := hs
        have he := am_ws_get (r := am_r n0 old) (cA := cA) (h := h) (o := o) hk
        exact va_zast hx hb K.1 hP (am_D hbg) hS k 2 he rfl (am_idx hin).1 hd (fun H1 locs1 hP1 _ hS1 => kk H1 locs1 ls (am_P_put hk (by simp [am_e, am_set_self]) (fun _ => am_set_ne) (fun _ _ => rfl) hP1) hS1 hl hbg hc0 hz0)
    · cases hs
  · cases hs
theorem am_s25 (B : am_B p s m args meth c mi) (K : am_K n0 old D cA L xs s) (ok : am_okE mi pc (25, a, b, c', v) = true) (hs : am_step L xs 25 a b c' v lv st S h o g = some (.inl (pc', lv', st', S', h', o')))
    (kk : am_G p l e R s m args below meth c Q n0 old D cA mi c0 z0 g pc' lv' st' S' h' o') : am_G p l e R s m args below meth c Q n0 old D cA mi c0 z0 g pc lv st S h o := by
  intro H locs ls hP hS hl hbg hc0 hz0
  obtain ⟨hx, hb, hml, hown, hts, hr, hlk, hnm, htab⟩ := B
  obtain ⟨i, n, hd, rfl, hi⟩ := am_okE_spec ok (by decide)
  simp only [am_okI] at hi
  simp only [am_step] at hs
  simp only [Bool.and_eq_true, decide_eq_true_eq] at hi
  obtain ⟨rfl, rfl⟩ := hi
  split at hs
  · rename_i y i k r
    split at hs
    · rename_i n f hk
      split at hs
      · cases hs
      · rename_i hin
        simp only [Option.some.injEq, Sum.inl.injEq, Prod.mk.injEq] at hs
        obtain ⟨rfl, rfl, rfl, rfl, rfl, rfl⟩ := hs
        have he := am_ws_get (r := am_r n0 old) (cA := cA) (h := h) (o := o) hk
        have hin2 : vp_in i n := fun q => hin (q.elim Or.inl (fun w => Or.inr (Or.inl w)))
        have hy1 : am_big ≤ y := Nat.not_lt.mp fun q => hin (Or.inr (Or.inr (Or.inr (Or.inl q))))
        have hy2 : y < am_big + 22 := Nat.not_le.mp fun q => hin (Or.inr (Or.inr (Or.inr (Or.inr q))))
        have hkl := (List.getElem?_eq_some_iff.mp hk).1
        have hyr : am_r n0 old y = old y := by unfold am_r; rw [if_neg (by omega)]
        obtain ⟨e1, -⟩ := K.2.2.2.2.1 (y - am_big) (by omega)
        rw [show am_big + (y - am_big) = y by omega] at e1
        obtain ⟨cell, g1, g2, g3, g4⟩ := e1.kept hS.2.1
        obtain ⟨kC, hkC, -⟩ := Vm.findClass_spec g3
        have hany : va_Any "java/lang/String" s H (am_r n0 old y) := ⟨cell, by rw [hyr]; exact g1, g2, ⟨kC, hkC⟩, fun comp hc => by
          cases Option.some.inj (hc.symm.trans g3)
          exact va_asg _ _⟩
        exact va_astqM hx hb K.1 hP (am_D hbg) hS k 5 he rfl hany hin2 hd (fun H1 locs1 hP1 _ hS1 => by
          have k1 := kk H1 locs1 ls (am_P_putS hkl (by
            simp only [am_e]
            congr 7
            funext j
            by_cases hj : j = i.toNatClampNeg
            · subst hj; simp [va_up]
            · simp [va_up, hj]) hP1) hS1 hl (by rw [List.length_set]; exact hbg)
          have e1 : am_ct (S.set k (.inr (.inl (5, n, va_up f i.toNatClampNeg (some y))))) g = am_ct S g := by simp [am_ct]
          have e2 : am_sz (S.set k (.inr (.inl (5, n, va_up f i.toNatClampNeg (some y))))) g = am_sz S g := by
            simp only [am_sz, List.map_set]
            congr 2
            apply List.ext_getElem?
            intro j
            by_cases hj : j = k
            · subst hj
              rw [List.getElem?_set_self (by rw [List.length_map]; exact hkl), List.getElem?_map, hk]
              simp [am_csz]
            · rw [List.getElem?_set_ne (Ne.symm hj)]
          rw [e1, e2] at k1
          exact k1 hc0 hz0)
    · cases hs
  · cases hs
theorem am_s26 (B : am_B p s m args meth c mi) (K : am_K n0 old D cA L xs s) (ok : am_okE mi pc (26, a, b, c', v) = true) (hs : am_step L xs 26 a b c' v lv st S h o g = some (.inl (pc', lv', st', S', h', o')))
    (kk : am_G p l e R s m args below meth c Q n0 old D cA mi c0 z0 g pc' lv' st' S' h' o') : am_G p l e R s m args below meth c Q n0 old D cA mi c0 z0 g pc lv st S h o := by
  intro H locs ls hP hS hl hbg hc0 hz0
  obtain ⟨hx, hb, hml, hown, hts, hr, hlk, hnm, htab⟩ := B
  obtain ⟨i, n, hd, rfl, hi⟩ := am_okE_spec ok (by decide)
  simp only [am_okI] at hi
  simp only [am_step] at hs
  simp only [Bool.and_eq_true, decide_eq_true_eq] at hi
  obtain ⟨rfl, rfl⟩ := hi
  split at hs
  · rename_i x i k r
    split at hs
    · rename_i n hk
      split at hs
      · cases hs
      · rename_i hin
        simp only [Option.some.injEq, Sum.inl.injEq, Prod.mk.injEq] at hs
        obtain ⟨rfl, rfl, rfl, rfl, rfl, rfl⟩ := hs
        have he := am_ws_get (r := am_r n0 old) (cA := cA) (h := h) (o := o) hk
        exact va_last hx hb K.1 hP (am_D hbg) hS k 3 he rfl (am_idx hin).1 hd (fun H1 locs1 hP1 _ hS1 => kk H1 locs1 ls (am_P_put hk (by simp [am_e, am_setL_self]) (fun _ _ => rfl) (fun _ => am_setL_ne) hP1) hS1 hl hbg hc0 hz0)
    · cases hs
  · cases hs
theorem am_s27 (B : am_B p s m args meth c mi) (K : am_K n0 old D cA L xs s) (ok : am_okE mi pc (27, a, b, c', v) = true) (hs : am_step L xs 27 a b c' v lv st S h o g = some (.inl (pc', lv', st', S', h', o')))
    (kk : am_G p l e R s m args below meth c Q n0 old D cA mi c0 z0 g pc' lv' st' S' h' o') : am_G p l e R s m args below meth c Q n0 old D cA mi c0 z0 g pc lv st S h o := by
  intro H locs ls hP hS hl hbg hc0 hz0
  obtain ⟨hx, hb, hml, hown, hts, hr, hlk, hnm, htab⟩ := B
  obtain ⟨i, n, hd, rfl, hi⟩ := am_okE_spec ok (by decide)
  simp only [am_okI] at hi
  simp only [am_step] at hs
  simp only [Bool.and_eq_true, decide_eq_true_eq] at hi
  obtain ⟨rfl, rfl⟩ := hi
  split at hs
  · rename_i k r
    split at hs
    · rename_i hk
      subst hk
      simp only [Option.some.injEq, Sum.inl.injEq, Prod.mk.injEq] at hs
      obtain ⟨rfl, rfl, rfl, rfl, rfl, rfl⟩ := hs
      have k1 := kk H locs ls hP hS hl hbg hc0 hz0
      exact va_slen (A := am_A n0) hx hb K.2.2.1 (Nat.lt_of_lt_of_le K.2.2.2.1 K.2.1) (Nat.not_le.mpr K.2.2.2.1) hS hd k1
    · split at hs
      · cases hs
      · split at hs
        · rename_i t n hk
          split at hs
          · rename_i ht
            simp only [Option.some.injEq, Sum.inl.injEq, Prod.mk.injEq] at hs
            obtain ⟨rfl, rfl, rfl, rfl, rfl, rfl⟩ := hs
            have k1 := kk H locs ls hP hS hl hbg hc0 hz0
            have he := am_ws_get (r := am_r n0 old) (cA := cA) (h := h) (o := o) hk
            match t, ht, he with
            | 0, _, he => exact va_alen hx hb K.1 hP k 0 he rfl rfl hd k1
            | 1, _, he => exact va_alen hx hb K.1 hP k 1 he rfl rfl hd k1
            | 2, _, he => exact va_alen hx hb K.1 hP k 2 he rfl rfl hd k1
            | 3, _, he => exact va_alen hx hb K.1 hP k 3 he rfl rfl hd k1
          · cases hs
        · rename_i t n f hk
          split at hs
          · rename_i hT
            simp only [Option.some.injEq, Sum.inl.injEq, Prod.mk.injEq] at hs
            obtain ⟨rfl, rfl, rfl, rfl, rfl, rfl⟩ := hs
            have k1 := kk H locs ls hP hS hl hbg hc0 hz0
            have he := am_ws_get (r := am_r n0 old) (cA := cA) (h := h) (o := o) hk
            rcases hT with rfl | rfl
            · exact va_alen hx hb K.1 hP k 4 he rfl rfl hd k1
            · exact va_alen hx hb K.1 hP k 5 he rfl rfl hd k1
          · cases hs
        · cases hs
  · cases hs
theorem am_s46 (B : am_B p s m args meth c mi) (K : am_K n0 old D cA L xs s) (ok : am_okE mi pc (46, a, b, c', v) = true) (hs : am_step L xs 46 a b c' v lv st S h o g = some (.inl (pc', lv', st', S', h', o')))
    (kk : am_G p l e R s m args below meth c Q n0 old D cA mi c0 z0 g pc' lv' st' S' h' o') : am_G p l e R s m args below meth c Q n0 old D cA mi c0 z0 g pc lv st S h o := by
  intro H locs ls hP hS hl hbg hc0 hz0
  obtain ⟨hx, hb, hml, hown, hts, hr, hlk, hnm, htab⟩ := B
  obtain ⟨i, n, hd, rfl, hi⟩ := am_okE_spec ok (by decide)
  simp only [am_okI] at hi
  simp only [am_step] at hs
  simp only [Option.some.injEq, Sum.inl.injEq, Prod.mk.injEq] at hs
  obtain ⟨rfl, rfl, rfl, rfl, rfl, rfl⟩ := hs
  have k1 := kk H locs ls hP hS hl hbg hc0 hz0
  simp only [Bool.and_eq_true, decide_eq_true_eq] at hi
  obtain ⟨h22, how, hi⟩ := hi
  have hZ := K.2.2.2.2.2.1 a (by omega)
  rw [how] at hZ
  have hyr : am_v (am_r n0 old) (.ref (am_big + a)) = .ref (old (am_big + a)) := by show Value.ref (am_r n0 old (am_big + a)) = _; unfold am_r; rw [if_neg (by omega)]
  rw [List.map_cons, hyr] at k1
  split at hi
  · simp only [Bool.and_eq_true, decide_eq_true_eq] at hi
    obtain ⟨rfl, rfl⟩ := hi
    exact va_ldcS hx hb hown hZ hd k1
  · simp only [Bool.and_eq_true, decide_eq_true_eq] at hi
    obtain ⟨rfl, rfl⟩ := hi
    intro T hT X
    obtain ⟨t, a1, b1⟩ := k1 T hT X
    exact ⟨t, X.ldcStringW hx hown (text := (am_stw a).2.2) (a := old (am_big + a)) hZ.1 hZ.2 (g := F0 m pc ls (st.map (am_v (am_r n0 old)))) rfl (by rw [hb]; exact hd) t a1, b1⟩
  · cases hi
theorem am_s47 (B : am_B p s m args meth c mi) (K : am_K n0 old D cA L xs s) (hRf : 10 ≤ R.frames) (hRl : 200 ≤ R.locals) (hRc : am_ct S g - c0 ≤ R.cells) (hRs : am_sz S g - z0 ≤ R.slots) (ok : am_okE mi pc (47, a, b, c', v) = true) (hs : am_step L xs 47 a b c' v lv st S h o g = some (.inl (pc', lv', st', S', h', o')))
    (kk : am_G p l e R s m args below meth c Q n0 old D cA mi c0 z0 g pc' lv' st' S' h' o') : am_G p l e R s m args below meth c Q n0 old D cA mi c0 z0 g pc lv st S h o := by
  intro H locs ls hP hS hl hbg hc0 hz0
  obtain ⟨hx, hb, hml, hown, hts, hr, hlk, hnm, htab⟩ := B
  obtain ⟨i, n, hd, rfl, hi⟩ := am_okE_spec ok (by decide)
  simp only [am_okI] at hi
  simp only [am_step] at hs
  split at hs
  · rename_i y x r
    split at hs
    · rename_i hroom
      simp only [Option.some.injEq, Sum.inl.injEq, Prod.mk.injEq] at hs
      obtain ⟨rfl, rfl, rfl, rfl, rfl, rfl⟩ := hs
      have k1 := kk H locs ls hP hS hl hbg hc0 hz0
      split at hi
      · simp only [Bool.and_eq_true, decide_eq_true_eq] at hi
        obtain ⟨hw, -, rfl⟩ := hi
        exact va_mmax hx hb (by rw [hml]; exact hl.1.symm) hown (hts _ (am_W_of hw)) (hts _ (am_jwi 0 rfl)) (hts _ (am_jwi 1 rfl)) (hts _ (am_jwi 2 rfl)) (by omega) (by rw [am_v_cats]; omega) hRc hRs hd k1
      · cases hi
    · cases hs
  · rename_i y x r
    split at hs
    · rename_i hroom
      simp only [Option.some.injEq, Sum.inl.injEq, Prod.mk.injEq] at hs
      obtain ⟨rfl, rfl, rfl, rfl, rfl, rfl⟩ := hs
      have k1 := kk H locs ls hP hS hl hbg hc0 hz0
      split at hi
      · simp only [Bool.and_eq_true, decide_eq_true_eq] at hi
        obtain ⟨hw, -, rfl⟩ := hi
        exact va_mmin hx hb (by rw [hml]; exact hl.1.symm) hown (hts _ (am_W_of hw)) (hts _ (am_jwi 3 rfl)) (hts _ (am_jwi 1 rfl)) (hts _ (am_jwi 4 rfl)) (by omega) (by rw [am_v_cats]; omega) hRc hRs hd k1
      · cases hi
    · cases hs
  · rename_i x r
    split at hs
    · rename_i hroom
      simp only [Option.some.injEq, Sum.inl.injEq, Prod.mk.injEq] at hs
      obtain ⟨rfl, rfl, rfl, rfl, rfl, rfl⟩ := hs
      have k1 := kk H locs ls hP hS hl hbg hc0 hz0
      split at hi
      · simp only [Bool.and_eq_true, decide_eq_true_eq] at hi
        obtain ⟨hw, -, rfl⟩ := hi
        exact va_mabs hx hb (by rw [hml]; exact hl.1.symm) hown (hts _ (am_W_of hw)) (hts _ (am_jwi 5 rfl)) (hts _ (am_jwi 1 rfl)) (hts _ (am_jwi 6 rfl)) (by omega) (by rw [am_v_cats]; omega) hRc hRs hd k1
      · cases hi
    · cases hs
  · cases hs
theorem am_s48 (B : am_B p s m args meth c mi) (K : am_K n0 old D cA L xs s) (hRf : 10 ≤ R.frames) (hRl : 200 ≤ R.locals) (ok : am_okE mi pc (48, a, b, c', v) = true) (hs : am_step L xs 48 a b c' v lv st S h o g = some (.inl (pc', lv', st', S', h', o')))
    (kk : am_G p l e R s m args below meth c Q n0 old D cA mi c0 z0 g pc' lv' st' S' h' o') : am_G p l e R s m args below meth c Q n0 old D cA mi c0 z0 g pc lv st S h o := by
  intro H locs ls hP hS hl hbg hc0 hz0
  obtain ⟨hx, hb, hml, hown, hts, hr, hlk, hnm, htab⟩ := B
  obtain ⟨i, n, hd, rfl, hi⟩ := am_okE_spec ok (by decide)
  simp only [am_okI] at hi
  simp only [am_step] at hs
  split at hs
  · rename_i n dp k1 sp k0 r
    split at hs
    · rename_i m0 m1 hk0 hk1
      split at hs
      · rename_i hg
        obtain ⟨g1, g2, g3, g4, g5, g6, g7, g8⟩ := hg
        simp only [Option.some.injEq, Sum.inl.injEq, Prod.mk.injEq] at hs
        obtain ⟨rfl, rfl, rfl, rfl, rfl, rfl⟩ := hs
        have he0 := am_ws_get (r := am_r n0 old) (cA := cA) (h := h) (o := o) hk0
        have he1 := am_ws_get (r := am_r n0 old) (cA := cA) (h := h) (o := o) hk1
        split at hi
        · simp only [Bool.and_eq_true, decide_eq_true_eq] at hi
          obtain ⟨hw, rfl⟩ := hi
          have hnf : nativeFrameWords "java/lang/System" "arraycopy" 5 + 11 ≤ 150 := by decide
          exact va_copyi (ty := .int) hx hb (by rw [hml]; exact hl.1.symm) hown (hts _ (am_W_of hw)) (hts _ (am_jwi 7 rfl)) (hts _ (am_jwi 8 rfl)) (hts _ (am_jwi 9 rfl)) K.1 hP (am_D hbg) hS k0 k1 0 0 he0 he1 rfl rfl rfl g1 g2 g3 g4 g5 (fun _ _ => rfl) (by omega) (by rw [am_v_cats]; omega) hd
            (fun H1 locs1 hP1 _ hS1 => kk H1 locs1 ls (am_P_put hk1 (by simp [am_e, va_up]) (fun j hj => by simp [va_up, hj]) (fun _ _ => rfl) hP1) hS1 hl hbg hc0 hz0)
        · cases hi
      · cases hs
    · cases hs
  · cases hs
theorem am_s51 (B : am_B p s m args meth c mi) (K : am_K n0 old D cA L xs s) (hRf : 10 ≤ R.frames) (hRl : 200 ≤ R.locals) (ok : am_okE mi pc (51, a, b, c', v) = true) (hs : am_step L xs 51 a b c' v lv st S h o g = some (.inl (pc', lv', st', S', h', o')))
    (kk : am_G p l e R s m args below meth c Q n0 old D cA mi c0 z0 g pc' lv' st' S' h' o') : am_G p l e R s m args below meth c Q n0 old D cA mi c0 z0 g pc lv st S h o := by
  intro H locs ls hP hS hl hbg hc0 hz0
  obtain ⟨hx, hb, hml, hown, hts, hr, hlk, hnm, htab⟩ := B
  obtain ⟨i, n, hd, rfl, hi⟩ := am_okE_spec ok (by decide)
  simp only [am_okI] at hi
  simp only [am_step] at hs
  split at hs
  · rename_i y r
    split at hs
    · rename_i hg
      simp only [Option.some.injEq, Sum.inl.injEq, Prod.mk.injEq] at hs
      obtain ⟨rfl, rfl, rfl, rfl, rfl, rfl⟩ := hs
      have k1 := kk H locs ls hP hS hl hbg hc0 hz0
      split at hi
      · simp only [Bool.and_eq_true, decide_eq_true_eq] at hi
        obtain ⟨hw, rfl⟩ := hi
        exact W.objInit hx hb hown (hts _ (am_W_of hw)) (hts _ (am_jwi 10 rfl)) (hts _ (am_jwi 11 rfl)) rfl (by rw [hml]; exact hl.1) rfl hd (by omega) (by show 2 * 0 + ((r.map (am_v (am_r n0 old))).map fun v => v.category).sum + 12 ≤ R.locals; rw [am_v_cats]; omega) k1
      · cases hi
    · cases hs
  · cases hs
end AMH2
