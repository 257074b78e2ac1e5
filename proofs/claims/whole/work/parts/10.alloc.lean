/-! ===== making objects and arrays ===== -/
def am_dv (f : Option Value) : Value := f.getD (.int 0)
/-- a new object's fields, by its kind -/
def am_NF (ci : Nat) (T : u_T) (N : Nat) : Prop := ∃ (ty : Nat → FieldType) (fl : List (Option Value)), (∀ k, k < N → parseFieldDescriptor (T k).2.2.1 = some (ty k)) ∧ am_new ci = some fl ∧ fl.length = N ∧ (∀ j, j < N → defaultValue (ty j) = vp_V (fl.map am_dv) j) ∧ ∀ f ∈ fl, f = none ∨ f = some .null
set_option maxRecDepth 100000 in
theorem am_nf {a : Nat} {C : String} {T : u_T} {N : Nat} (h : am_cl[a]? = some (C, T, N)) : am_NF a T N := by
  match a, h with
  | 0, h => cases h; exact ⟨tyX0, _, tyX0_ok, rfl, by decide +kernel, by decide +kernel, by decide +kernel⟩
  | 1, h => cases h; exact ⟨tyX1, _, tyX1_ok, rfl, by decide +kernel, by decide +kernel, by decide +kernel⟩
  | 2, h => cases h; exact ⟨tyX2, _, tyX2_ok, rfl, by decide +kernel, by decide +kernel, by decide +kernel⟩
  | 3, h => cases h; exact ⟨tyX3, _, tyX3_ok, rfl, by decide +kernel, by decide +kernel, by decide +kernel⟩
  | 4, h => cases h; exact ⟨tyX4, _, tyX4_ok, rfl, by decide +kernel, by decide +kernel, by decide +kernel⟩
  | 5, h => cases h; exact ⟨tyX5, _, tyX5_ok, rfl, by decide +kernel, by decide +kernel, by decide +kernel⟩
  | 6, h => cases h; exact ⟨tyX6, _, tyX6_ok, rfl, by decide +kernel, by decide +kernel, by decide +kernel⟩
  | 7, h => cases h; exact ⟨tyX7, _, tyX7_ok, rfl, by decide +kernel, by decide +kernel, by decide +kernel⟩
  | a + 8, h => simp [am_cl] at h
set_option maxRecDepth 100000 in
theorem am_aw : (([.arrayClass .int, .arrayClass .byte, .arrayClass .boolean, .arrayClass .long] : List Cond).all fun w => decide (w ∈ lw_tbl) && goodWord w) = true := by decide +kernel
theorem am_awi (k : Nat) {w : Cond} (hk : ([.arrayClass .int, .arrayClass .byte, .arrayClass .boolean, .arrayClass .long] : List Cond)[k]? = some w) : w ∈ am_W := am_in_of am_aw w (List.mem_of_getElem? hk)
theorem am_ct_push {S : am_S} {c : am_C} {g : Nat} : am_ct (S ++ [c]) g = am_ct S g + 1 := by simp [am_ct]; omega
theorem am_sz_push {S : am_S} {c : am_C} {g : Nat} : am_sz (S ++ [c]) g = am_sz S g + am_csz c := by simp [am_sz]; omega
theorem am_fresh {n0 : Nat} {old : Nat → Nat} {cA : Nat → ClassId} {S : am_S} {h : am_M} {o : am_L} {q : Nat} {E : va_E} (hD : va_D (am_A n0) (am_ws (am_r n0 old) cA S h o ++ [(q, E)])) (hb : S.length < am_big) (hlt : q < n0 + S.length + 1) : q = am_r n0 old S.length := by
  have hlast : (am_ws (am_r n0 old) cA S h o ++ [(q, E)])[S.length]? = some (q, E) := by
    rw [List.getElem?_append_right (by rw [am_ws_len]; exact Nat.le_refl _), am_ws_len, Nat.sub_self]; rfl
  have h1 : n0 ≤ q := hD.2 _ _ hlast
  rw [am_r, if_pos hb]
  rcases Nat.lt_or_ge q (n0 + S.length) with h2 | h2
  · exfalso
    have hj : q - n0 < S.length := by omega
    have hg := am_ws_get (r := am_r n0 old) (cA := cA) (h := h) (o := o) (List.getElem?_eq_getElem hj)
    have hg2 : (am_ws (am_r n0 old) cA S h o ++ [(q, E)])[q - n0]? = some (am_r n0 old (q - n0), am_e (am_r n0 old) cA h o (q - n0) S[q - n0]) := by
      rw [List.getElem?_append_left (by rw [am_ws_len]; exact hj)]; exact hg
    have := hD.1 _ _ _ _ hg2 hlast (by show am_r n0 old (q - n0) = q; rw [am_r, if_pos (by omega)]; omega)
    omega
  · omega
section AMA
variable {p : Program} {l : Launch} {e : Env} {R : Room} {s : State} {m : MethodId} {args : Array Value} {below : List Frame} {meth : Method} {c : Code} {Q : State → Prop} {n0 : Nat} {old : Nat → Nat} {D : va_G} {cA : Nat → ClassId} {L : Nat} {xs : Nat → Int32} {mi c0 z0 g pc pc' : Nat} {lv lv' : am_V} {st st' : List Value} {S S' : am_S} {h h' : am_M} {o o' : am_L} {a b c' : Nat} {v : Int32}
theorem am_alloc {H1 : Heap} {locs : List Loc} {q z : Nat} {E : va_E} {F : JFrame} (hsz : s.heap.size = n0 + c0) (hb : S.length < am_big) (hc0 : c0 ≤ am_ct S 0) (hP : va_P D am_cl (am_ws (am_r n0 old) cA S h o ++ [(q, E)]) H1) (hD : va_D (am_A n0) (am_ws (am_r n0 old) cA S h o ++ [(q, E)]))
    (k : q = am_r n0 old S.length → W p l e R s m args below meth c H1 locs (am_ct S 0 - c0 + 1) z Q F) : W p l e R s m args below meth c H1 locs (am_ct S 0 - c0 + 1) z Q F := by
  intro T hT X
  have h1 := X.heapSize
  rw [hT, hsz] at h1
  have h2 : q < H1.size := (hP S.length (q, E) (by rw [List.getElem?_append_right (by rw [am_ws_len]; exact Nat.le_refl _), am_ws_len, Nat.sub_self]; rfl)).lt
  exact k (am_fresh hD hb (by simp only [am_ct] at h1 hc0; omega)) T hT X
theorem am_s37 (B : am_B p s m args meth c mi) (K : am_K n0 old D cA L xs s) (hsz : g = 0 → s.heap.size = n0 + c0) (hRc : am_ct S' g - c0 ≤ R.cells) (hRs : am_sz S' g - z0 ≤ R.slots) (ok : am_okE mi pc (37, a, b, c', v) = true) (hs : am_step L xs 37 a b c' v lv st S h o g = some (.inl (pc', lv', st', S', h', o')))
    (kk : am_G p l e R s m args below meth c Q n0 old D cA mi c0 z0 g pc' lv' st' S' h' o') : am_G p l e R s m args below meth c Q n0 old D cA mi c0 z0 g pc lv st S h o := by
  intro H locs ls hP hS hl hbg hc0 hz0
  obtain ⟨hx, hb, hml, hown, hts, hr, hlk, hnm, htab⟩ := B
  obtain ⟨i, n, hd, rfl, hi⟩ := am_okE_spec ok (by decide)
  simp only [am_okI] at hi
  simp only [am_step] at hs
  split at hs
  · rename_i fl hfl
    split at hs
    · rename_i hg
      obtain ⟨rfl, hbig⟩ := hg
      simp only [Option.some.injEq, Sum.inl.injEq, Prod.mk.injEq] at hs
      obtain ⟨rfl, rfl, rfl, rfl, rfl, rfl⟩ := hs
      split at hi
      · simp only [Bool.and_eq_true, decide_eq_true_eq] at hi
        obtain ⟨hw, h8, rfl⟩ := hi
        obtain ⟨⟨C, T, N⟩, hcl⟩ : ∃ q, am_cl[a]? = some q := ⟨_, List.getElem?_eq_getElem (show a < am_cl.length from h8)⟩
        have hC : am_Cn a = C := by simp [am_Cn, List.getD_eq_getElem?_getD, hcl]
        rw [hC] at hw
        obtain ⟨hin, hinst, hini, -, -⟩ := am_cc hcl
        obtain ⟨ty, fl2, hty, hfl2, hlen, hdef, hnull⟩ := am_nf hcl
        cases Option.some.inj (hfl2.symm.trans hfl)
        have hfs : fl.mapIdx (am_f (am_r n0 old) (am_zero h S.length) S.length) = fl.map am_dv := by
          apply List.ext_getElem?
          intro j
          rw [List.getElem?_mapIdx, List.getElem?_map]
          cases hj : fl[j]? with
          | none => rfl
          | some f =>
            rcases hnull f (List.mem_of_getElem? hj) with rfl | rfl
            · simp [am_f, am_dv, am_zero, va_up]
            · rfl
        rw [am_ct_push] at hRc
        rw [am_sz_push] at hRs
        have hcs : am_csz (.inr (.inr (a, fl))) = N := hlen
        rw [hcs] at hRs
        refine va_new (ci := a) (fs := fl.map am_dv) hx hb hts hin ty hty hown (hts _ (am_W_of hw)) (hts _ hinst) (hts _ hini) K.1 hP (am_D hbg) hS (fun q hq => Nat.le_trans K.2.1 hq) hcl hdef (by omega) (by omega) hd (fun q H1 hP1 hD1 hS1 => ?_)
        refine am_alloc (hsz rfl) hbig hc0 hP1 hD1 (fun hq => ?_)
        subst hq
        have hP2 : va_P D am_cl (am_ws (am_r n0 old) cA (S ++ [.inr (.inr (a, fl))]) (am_zero h S.length) o) H1 := by
          rw [am_ws_push (h := h) (o := o) (fun j hj => by unfold am_zero va_up; rw [if_neg (by omega)]) (fun _ _ => rfl)]
          simp only [am_e, hfs]
          exact hP1
        have k1 := kk H1 locs ls hP2 hS1 hl (by rw [List.length_append]; simp; omega) (by rw [am_ct_push]; omega) (by rw [am_sz_push]; omega)
        rw [am_ct_push, am_sz_push, hcs] at k1
        rw [show am_ct S 0 - c0 + 1 = am_ct S 0 + 1 - c0 by omega, show am_sz S 0 - z0 + N = am_sz S 0 + N - z0 by omega]
        exact k1
      · cases hi
    · cases hs
  · cases hs
theorem am_new38 {H : Heap} {locs : List Loc} {ls : Array Slot} {n : Int32} {r : List Value} {t : Nat} {atype : ArrayType} {ty : FieldType} {a0 : vp_A} (B : am_B p s m args meth c mi) (K : am_K n0 old D cA L xs s) (hsz : s.heap.size = n0 + c0) (hbig : S.length < am_big) (hn : ¬ n < 0) (hN : n.toNatClampNeg ≤ 1000)
    (hRc : am_ct S 0 - c0 + 1 ≤ R.cells) (hRs : am_sz S 0 - z0 + n.toNatClampNeg ≤ R.slots) (hd : decode (am_code mi) pc = .ok (.newarray atype, 2)) (hty : newarray.typeOf atype = ty) (hw : Cond.arrayClass ty ∈ am_W) (hcell : ∀ cA : ClassId, vp_cell cA a0 = arrV cA n.toNatClampNeg (fun _ => defaultValue ty))
    (hbytes : n.toNatClampNeg * componentBytes ty ≤ 536870912) (htt : (am_tys cA)[t]? = some (cA t, ty)) (hra : ∀ x : ClassId, va_RA s x ty ↔ s.vm.findClass ("[" ++ ty.toString) = some x) (hE : am_e (am_r n0 old) cA (am_zero h S.length) (am_zeroL o S.length) S.length (.inl (t, n.toNatClampNeg)) = .inl (cA t, a0))
    (kk : am_G p l e R s m args below meth c Q n0 old D cA mi c0 z0 0 (pc + 2) lv (.ref S.length :: r) (S ++ [.inl (t, n.toNatClampNeg)]) (am_zero h S.length) (am_zeroL o S.length))
    (hP : va_P D am_cl (am_ws (am_r n0 old) cA S h o) H) (hS : va_S (am_A n0) s.heap H locs) (hl : am_l (am_r n0 old) ls (am_ml mi) lv) (hc0 : c0 ≤ am_ct S 0) (hz0 : z0 ≤ am_sz S 0) :
    W p l e R s m args below meth c H locs (am_ct S 0 - c0) (am_sz S 0 - z0) Q (F0 m pc ls ((Value.int n :: r).map (am_v (am_r n0 old)))) := by
  obtain ⟨hx, hb, hml, hown, hts, hr, hlk, hnm, htab⟩ := B
  refine va_newa (ty := ty) hx hb (by rw [hty]; exact hts _ hw) hty K.1 hP (am_D (Nat.le_of_lt hbig)) hS (fun q hq => Nat.le_trans K.2.1 hq) hcell hn rfl hbytes hRc hRs hd (fun q cA1 H1 hK1 hP1 hD1 hS1 => ?_)
  have e1 : cA1 = cA t := by
    have h1 := (hra _).mp (hK1.2 6 (cA1, ty) rfl).2
    have h2 := (hra _).mp (K.1.2 t _ htt).2
    exact Option.some.inj (h1.symm.trans h2)
  subst e1
  refine am_alloc hsz hbig hc0 hP1 hD1 (fun hq => ?_)
  subst hq
  have hP2 : va_P D am_cl (am_ws (am_r n0 old) cA (S ++ [.inl (t, n.toNatClampNeg)]) (am_zero h S.length) (am_zeroL o S.length)) H1 := by
    rw [am_ws_push (h := h) (o := o) (fun j hj => by unfold am_zero va_up; rw [if_neg (by omega)]) (fun j hj => by unfold am_zeroL va_up; rw [if_neg (by omega)]), hE]
    exact hP1
  have k1 := kk H1 locs ls hP2 hS1 hl (by rw [List.length_append]; simp; omega) (by rw [am_ct_push]; omega) (by rw [am_sz_push]; omega)
  rw [am_ct_push, am_sz_push] at k1
  rw [show am_ct S 0 - c0 + 1 = am_ct S 0 + 1 - c0 by omega, show am_sz S 0 - z0 + n.toNatClampNeg = am_sz S 0 + n.toNatClampNeg - z0 by omega]
  exact k1
theorem am_s38 (B : am_B p s m args meth c mi) (K : am_K n0 old D cA L xs s) (hsz : g = 0 → s.heap.size = n0 + c0) (hRc : am_ct S' g - c0 ≤ R.cells) (hRs : am_sz S' g - z0 ≤ R.slots) (ok : am_okE mi pc (38, a, b, c', v) = true) (hs : am_step L xs 38 a b c' v lv st S h o g = some (.inl (pc', lv', st', S', h', o')))
    (kk : am_G p l e R s m args below meth c Q n0 old D cA mi c0 z0 g pc' lv' st' S' h' o') : am_G p l e R s m args below meth c Q n0 old D cA mi c0 z0 g pc lv st S h o := by
  intro H locs ls hP hS hl hbg hc0 hz0
  obtain ⟨i, n, hd, rfl, hi⟩ := am_okE_spec ok (by decide)
  simp only [am_okI] at hi
  simp only [am_step] at hs
  split at hs
  · rename_i n r
    split at hs
    · rename_i hg
      obtain ⟨rfl, hbig, hn, hN, h4⟩ := hg
      simp only [Option.some.injEq, Sum.inl.injEq, Prod.mk.injEq] at hs
      obtain ⟨rfl, rfl, rfl, rfl, rfl, rfl⟩ := hs
      rw [am_ct_push] at hRc
      rw [am_sz_push] at hRs
      simp only [am_csz] at hRs
      split at hi
      · simp only [Bool.and_eq_true, decide_eq_true_eq] at hi
        obtain ⟨rfl, hi⟩ := hi
        split at hi
        · exact am_new38 (ty := .int) (a0 := (n.toNatClampNeg, .inl (fun _ => 0))) B K (hsz rfl) hbig hn hN (by omega) (by omega) hd rfl (am_awi 0 rfl) (fun _ => rfl) (Nat.le_trans (Nat.mul_le_mul hN (show componentBytes .int ≤ 8 by decide)) (by decide)) rfl (fun _ => Iff.rfl) (by simp [am_e, am_zero, va_up]) kk hP hS hl hc0 hz0
        · exact am_new38 (ty := .byte) (a0 := (n.toNatClampNeg, .inl (fun _ => 0))) B K (hsz rfl) hbig hn hN (by omega) (by omega) hd rfl (am_awi 1 rfl) (fun _ => rfl) (Nat.le_trans (Nat.mul_le_mul hN (show componentBytes .byte ≤ 8 by decide)) (by decide)) rfl (fun _ => Iff.rfl) (by simp [am_e, am_zero, va_up]) kk hP hS hl hc0 hz0
        · exact am_new38 (ty := .boolean) (a0 := (n.toNatClampNeg, .inl (fun _ => 0))) B K (hsz rfl) hbig hn hN (by omega) (by omega) hd rfl (am_awi 2 rfl) (fun _ => rfl) (Nat.le_trans (Nat.mul_le_mul hN (show componentBytes .boolean ≤ 8 by decide)) (by decide)) rfl (fun _ => Iff.rfl) (by simp [am_e, am_zero, va_up]) kk hP hS hl hc0 hz0
        · exact am_new38 (ty := .long) (a0 := (n.toNatClampNeg, .inr (.inl (fun _ => 0)))) B K (hsz rfl) hbig hn hN (by omega) (by omega) hd rfl (am_awi 3 rfl) (fun _ => rfl) (Nat.le_trans (Nat.mul_le_mul hN (show componentBytes .long ≤ 8 by decide)) (by decide)) rfl (fun _ => Iff.rfl) (by simp [am_e, am_zeroL, va_up]) kk hP hS hl hc0 hz0
        · cases hi
      · cases hi
    · cases hs
  · cases hs
theorem am_s39 (B : am_B p s m args meth c mi) (K : am_K n0 old D cA L xs s) (hsz : g = 0 → s.heap.size = n0 + c0) (hRc : am_ct S' g - c0 ≤ R.cells) (hRs : am_sz S' g - z0 ≤ R.slots) (ok : am_okE mi pc (39, a, b, c', v) = true) (hs : am_step L xs 39 a b c' v lv st S h o g = some (.inl (pc', lv', st', S', h', o')))
    (kk : am_G p l e R s m args below meth c Q n0 old D cA mi c0 z0 g pc' lv' st' S' h' o') : am_G p l e R s m args below meth c Q n0 old D cA mi c0 z0 g pc lv st S h o := by
  intro H locs ls hP hS hl hbg hc0 hz0
  obtain ⟨hx, hb, hml, hown, hts, hr, hlk, hnm, htab⟩ := B
  obtain ⟨i, n, hd, rfl, hi⟩ := am_okE_spec ok (by decide)
  simp only [am_okI] at hi
  simp only [am_step] at hs
  split at hs
  · rename_i n r
    split at hs
    · rename_i hg
      obtain ⟨rfl, hbig, hn, hN⟩ := hg
      simp only [Option.some.injEq, Sum.inl.injEq, Prod.mk.injEq] at hs
      obtain ⟨rfl, rfl, rfl, rfl, rfl, rfl⟩ := hs
      rw [am_ct_push] at hRc
      rw [am_sz_push] at hRs
      simp only [am_csz] at hRs
      split at hi
      · simp only [Bool.and_eq_true, decide_eq_true_eq] at hi
        obtain ⟨hw, rfl⟩ := hi
        refine va_newq hx hb hown (hts _ (am_W_of hw)) K.2.2.2.2.2.2.2.2.2.2.2.2.1 K.1 hP (am_D hbg) hS (fun q hq => Nat.le_trans K.2.1 hq) hn rfl (by omega) (by omega) (by omega) hd (fun q cA1 H1 hK1 hP1 hD1 hS1 => ?_)
        have e1 : cA1 = cA 5 := by
          obtain ⟨_, _, _, _, _, h1⟩ := (hK1.2 6 (cA1, .object "java/lang/String") rfl).2
          obtain ⟨_, _, _, _, _, h2⟩ := (K.1.2 5 _ rfl).2
          exact Option.some.inj (h1.symm.trans h2)
        subst e1
        refine am_alloc (hsz rfl) hbig hc0 hP1 hD1 (fun hq => ?_)
        subst hq
        have hP2 : va_P D am_cl (am_ws (am_r n0 old) cA (S ++ [.inr (.inl (5, n.toNatClampNeg, fun _ => none))]) h o) H1 := by
          rw [am_ws_push (h := h) (o := o) (fun _ _ => rfl) (fun _ _ => rfl)]
          exact hP1
        have k1 := kk H1 locs ls hP2 hS1 hl (by rw [List.length_append]; simp; omega) (by rw [am_ct_push]; omega) (by rw [am_sz_push]; omega)
        rw [am_ct_push, am_sz_push] at k1
        rw [show am_ct S 0 - c0 + 1 = am_ct S 0 + 1 - c0 by omega, show am_sz S 0 - z0 + n.toNatClampNeg = am_sz S 0 + n.toNatClampNeg - z0 by omega]
        exact k1
      · cases hi
    · cases hs
  · cases hs
end AMA
