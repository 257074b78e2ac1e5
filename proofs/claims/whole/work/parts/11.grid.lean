/-! ===== new int[5][15] ===== -/
theorem am_low {n0 : Nat} {old : Nat → Nat} {D : va_G} {cA : Nat → ClassId} {S : am_S} {h : am_M} {o : am_L} {H : Heap} (hP : va_P D am_cl (am_ws (am_r n0 old) cA S h o) H) (hn : n0 ≤ H.size) (hb : S.length ≤ am_big) : n0 + S.length ≤ H.size := by
  rcases Nat.eq_zero_or_pos S.length with h0 | h0
  · omega
  · have hj : S.length - 1 < S.length := by omega
    have hg := am_ws_get (r := am_r n0 old) (cA := cA) (h := h) (o := o) (List.getElem?_eq_getElem hj)
    have := (hP _ _ hg).lt
    have e : am_r n0 old (S.length - 1) = n0 + (S.length - 1) := by rw [am_r, if_pos (by omega)]
    simp only [e] at this
    omega
theorem am_z5 {h : am_M} {k j : Nat} (hj : j < k + 1) : am_zero (am_zero (am_zero (am_zero (am_zero h (k + 1)) (k + 2)) (k + 3)) (k + 4)) (k + 5) j = h j := by
  simp only [am_zero, va_up]
  rw [if_neg (by omega), if_neg (by omega), if_neg (by omega), if_neg (by omega), if_neg (by omega)]
theorem am_z5s {h : am_M} {k j : Nat} (h1 : k + 1 ≤ j) (h2 : j ≤ k + 5) : am_zero (am_zero (am_zero (am_zero (am_zero h (k + 1)) (k + 2)) (k + 3)) (k + 4)) (k + 5) j = fun _ => 0 := by
  simp only [am_zero, va_up]
  rcases (show j = k + 1 ∨ j = k + 2 ∨ j = k + 3 ∨ j = k + 4 ∨ j = k + 5 by omega) with rfl | rfl | rfl | rfl | rfl
  · rw [if_neg (by omega), if_neg (by omega), if_neg (by omega), if_neg (by omega), if_pos rfl]
  · rw [if_neg (by omega), if_neg (by omega), if_neg (by omega), if_pos rfl]
  · rw [if_neg (by omega), if_neg (by omega), if_pos rfl]
  · rw [if_neg (by omega), if_pos rfl]
  · rw [if_pos rfl]
section AMM
variable {p : Program} {l : Launch} {e : Env} {R : Room} {s : State} {m : MethodId} {args : Array Value} {below : List Frame} {meth : Method} {c : Code} {Q : State → Prop} {n0 : Nat} {old : Nat → Nat} {D : va_G} {cA : Nat → ClassId} {L : Nat} {xs : Nat → Int32} {mi c0 z0 g pc pc' : Nat} {lv lv' : am_V} {st st' : List Value} {S S' : am_S} {h h' : am_M} {o o' : am_L} {a b c' : Nat} {v : Int32}
theorem am_s40 (B : am_B p s m args meth c mi) (K : am_K n0 old D cA L xs s) (hsz : g = 0 → s.heap.size = n0 + c0) (hRc : am_ct S' g - c0 ≤ R.cells) (hRs : am_sz S' g - z0 ≤ R.slots) (ok : am_okE mi pc (40, a, b, c', v) = true) (hs : am_step L xs 40 a b c' v lv st S h o g = some (.inl (pc', lv', st', S', h', o')))
    (kk : am_G p l e R s m args below meth c Q n0 old D cA mi c0 z0 g pc' lv' st' S' h' o') : am_G p l e R s m args below meth c Q n0 old D cA mi c0 z0 g pc lv st S h o := by
  intro H locs ls hP hS hl hbg hc0 hz0
  obtain ⟨hx, hb, hml, hown, hts, hr, hlk, hnm, htab⟩ := B
  obtain ⟨i, n, hd, rfl, hi⟩ := am_okE_spec ok (by decide)
  simp only [am_okI] at hi
  simp only [am_step] at hs
  split at hs
  · rename_i k n r
    split at hs
    · rename_i hg
      obtain ⟨rfl, hbig, rfl, rfl⟩ := hg
      simp only [Option.some.injEq, Sum.inl.injEq, Prod.mk.injEq] at hs
      obtain ⟨rfl, rfl, rfl, rfl, rfl, rfl⟩ := hs
      have hct : ∀ f : Nat → Option Nat, am_ct (S ++ (.inr (.inl (4, 5, f)) :: List.replicate 5 (.inl (0, 15)))) 0 = am_ct S 0 + 6 := fun f => by simp [am_ct]
      have hsz2 : ∀ f : Nat → Option Nat, am_sz (S ++ (.inr (.inl (4, 5, f)) :: List.replicate 5 (.inl (0, 15)))) 0 = am_sz S 0 + 80 := fun f => by simp [am_sz, am_csz, List.replicate]
      rw [hct] at hRc
      rw [hsz2] at hRs
      split at hi
      · simp only [Bool.and_eq_true, decide_eq_true_eq] at hi
        obtain ⟨hw, rfl, rfl⟩ := hi
        intro T hT Xs
        have hup := Xs.heapSize
        rw [hT, hsz rfl] at hup
        have hlow := am_low hP (Nat.le_trans K.2.1 hS.1) hbg
        have hH : H.size = n0 + S.length := by simp only [am_ct] at hup hc0; omega
        obtain ⟨vm₁, cA1, comp, -, fA, fC, hO, -, X', step⟩ := Xs.multianewarray2F hx (ty := .int) hown (hts _ (am_W_of hw)) (va_AOA.use K.2.2.2.2.2.2.2.2.2.2.2.2.2) (hts _ (am_awi 0 rfl)) (g := F0 m pc ls ((Value.int 15 :: .int 5 :: r).map (am_v (am_r n0 old)))) rfl (by rw [hb]; exact hd) rfl (by decide) (by decide) (by decide) (by decide) (by decide) rfl rfl
          (by show am_ct S 0 - c0 + (1 + 5) ≤ R.cells; omega) (by show am_sz S 0 - z0 + (5 + 5 * 15) ≤ R.slots; omega)
        have ec : cA 0 = comp := Option.some.inj ((show s.vm.findClass ("[" ++ FieldType.int.toString) = some (cA 0) from (K.1.2 0 _ rfl).2).symm.trans fC)
        have eA : cA 4 = cA1 := Option.some.inj ((show s.vm.findClass ("[" ++ (FieldType.array .int).toString) = some (cA 4) from (K.1.2 4 _ rfl).2).symm.trans fA)
        subst ec
        subst eA
        generalize hF : Jvm.Free.Multi.fill (T.setVm vm₁) (cA 4) (cA 0) (5 : Int32).toNatClampNeg (15 : Int32).toNatClampNeg (defaultValue .int) (5 : Int32).toNatClampNeg = F at X' step
        have hTh : (T.setVm vm₁).heap = H := hT
        obtain ⟨f1, f2, -, -⟩ := Jvm.Free.Multi.fill_facts (T.setVm vm₁) (cA 4) (cA 0) (5 : Int32).toNatClampNeg (15 : Int32).toNatClampNeg (defaultValue .int) (5 : Int32).toNatClampNeg
        rw [hF, hTh] at f1 f2
        have hold : ∀ x : Nat, x < H.size → F.heap[x]? = H[x]? := fun x hx => by
          have := Jvm.Free.Multi.fill_old (T.setVm vm₁) (cA 4) (cA 0) (5 : Int32).toNatClampNeg (15 : Int32).toNatClampNeg (defaultValue .int) (a := x) (by rw [hTh]; exact hx) (5 : Int32).toNatClampNeg
          rw [hF, hTh] at this
          exact this
        have hrow : ∀ j : Nat, j < 5 → F.heap[H.size + 1 + j]? = some (vp_cell (cA 0) (15, .inl (fun _ => 0))) := fun j hj => by
          have := Jvm.Free.Multi.fill_inner (T.setVm vm₁) (cA 4) (cA 0) (5 : Int32).toNatClampNeg (15 : Int32).toNatClampNeg (defaultValue .int) (5 : Int32).toNatClampNeg j hj
          rw [hF, hTh] at this
          exact this
        have hout : F.heap[H.size]? = some (vp_cell (cA 4) (5, .inr (.inr (.inr (.inr (fun i => if i < 5 then some (H.size + 1 + i) else none)))))) := by
          rw [f2, vr_outer]
          rfl
        have hP2 : va_P D am_cl (am_ws (am_r n0 old) cA (S ++ (.inr (.inl (4, 5, fun j => if j < 5 then some (S.length + 1 + j) else none)) :: List.replicate 5 (.inl (0, 15)))) (am_zero (am_zero (am_zero (am_zero (am_zero h (S.length + 1)) (S.length + 2)) (S.length + 3)) (S.length + 4)) (S.length + 5)) o) F.heap := by
          intro k9 q hq
          obtain ⟨cc, hc1, rfl⟩ := am_ws_of hq
          rcases Nat.lt_trichotomy k9 S.length with hk | hk | hk
          · rw [List.getElem?_append_left hk] at hc1
            have h1 := hP k9 _ (am_ws_get (r := am_r n0 old) (cA := cA) (h := h) (o := o) hc1)
            have e1 : am_e (am_r n0 old) cA (am_zero (am_zero (am_zero (am_zero (am_zero h (S.length + 1)) (S.length + 2)) (S.length + 3)) (S.length + 4)) (S.length + 5)) o k9 cc = am_e (am_r n0 old) cA h o k9 cc := by
              obtain ⟨t, n⟩ | ⟨t, n, f⟩ | ⟨ci, fl⟩ := cc
              · simp only [am_e, am_z5 (show k9 < S.length + 1 by omega)]
              · rfl
              · simp only [am_e]
                congr 3
                funext j f
                cases f <;> simp [am_f, am_z5 (show k9 < S.length + 1 by omega)]
            rw [e1]
            exact h1.kept (hold _ h1.lt)
          · subst hk
            rw [List.getElem?_append_right (Nat.le_refl _), Nat.sub_self] at hc1
            cases hc1
            have er : am_r n0 old S.length = H.size := by rw [am_r, if_pos (by omega)]; omega
            show F.heap[am_r n0 old S.length]? = some (vp_cell (cA 4) (5, .inr (.inr (.inr (.inr (fun j => (if j < 5 then some (S.length + 1 + j) else none).map (am_r n0 old)))))))
            rw [er, hout]
            congr 7
            funext j
            by_cases hj : j < 5
            · rw [if_pos hj, if_pos hj, Option.map_some, am_r, if_pos (by omega)]
              congr 1
              omega
            · rw [if_neg hj, if_neg hj]; rfl
          · rw [List.getElem?_append_right (by omega)] at hc1
            obtain ⟨j, hj⟩ : ∃ j, k9 - S.length = j + 1 := ⟨k9 - S.length - 1, by omega⟩
            rw [hj, List.getElem?_cons_succ, List.getElem?_replicate] at hc1
            split at hc1
            · rename_i hj5
              cases hc1
              have ek : k9 = S.length + 1 + j := by omega
              subst ek
              have er : am_r n0 old (S.length + 1 + j) = H.size + 1 + j := by rw [am_r, if_pos (by omega)]; omega
              show va_at D am_cl (am_r n0 old (S.length + 1 + j), .inl (cA 0, 15, .inl _)) F.heap
              rw [am_z5s (by omega) (by omega), er]
              exact hrow j hj5
            · cases hc1
        have k1 := kk F.heap locs ls hP2 ⟨by rw [f1]; have := hS.1; omega, fun x h1 h2 => (hold x (Nat.lt_of_lt_of_le h1 hS.1)).trans (hS.2.1 x h1 h2), hS.2.2⟩ hl (by simp; omega) (by rw [hct]; omega) (by rw [hsz2]; omega)
        rw [hct, hsz2] at k1
        have X2 : Stand p l e R s m args below meth c F locs (am_ct S 0 + 6 - c0) (am_sz S 0 + 80 - z0) := by
          have e1 : am_ct S 0 - c0 + 1 + 5 = am_ct S 0 + 6 - c0 := by omega
          have e2 : am_sz S 0 - z0 + 5 + 5 * 15 = am_sz S 0 + 80 - z0 := by omega
          rw [← e1, ← e2]
          exact X'
        obtain ⟨t, a1, b1⟩ := k1 F rfl X2
        refine ⟨t, step t ?_, b1⟩
        have er : T.heap.size = am_r n0 old S.length := by rw [hT, am_r, if_pos (by omega)]; exact hH
        rw [er]
        exact a1
      · cases hi
    · cases hs
  · cases hs
end AMM
