section AMX
variable {p : Program} {l : Launch} {e : Env} {R : Room} {s : State} {m : MethodId} {args : Array Value} {below : List Frame} {meth : Method} {c : Code} {Q : State → Prop} {n0 : Nat} {old : Nat → Nat} {D : va_G} {cA : Nat → ClassId} {L : Nat} {xs : Nat → Int32} {mi c0 z0 g pc pc' : Nat} {lv lv' : am_V} {st st' : List Value} {S S' : am_S} {h h' : am_M} {o o' : am_L} {a b c' : Nat} {v : Int32}
theorem am_str_at {k : Nat} {H : Heap} {locs : List Loc} (K : am_K n0 old D cA L xs s) (hk1 : am_big ≤ k) (hk2 : k < am_big + 22) (hS : va_S (am_A n0) s.heap H locs) : am_r n0 old k = old (am_big + (k - am_big)) ∧ ∃ cell : Cell, H[am_r n0 old k]? = some cell ∧ cell.vm.isStatics = false ∧ s.vm.findClass "java/lang/String" = some cell.cls := by
  have e : am_r n0 old k = old (am_big + (k - am_big)) := by
    unfold am_r
    rw [if_neg (by omega), show am_big + (k - am_big) = k by omega]
  refine ⟨e, ?_⟩
  obtain ⟨cell, h1, h2, h3, -⟩ := (K.2.2.2.2.1 (k - am_big) (by omega)).1.kept hS.2.1
  exact ⟨cell, by rw [e]; exact h1, h2, h3⟩
theorem am_s49 (B : am_B p s m args meth c mi) (K : am_K n0 old D cA L xs s) (hRf : 10 ≤ R.frames) (hRl : 200 ≤ R.locals) (hRc : am_ct S g - c0 ≤ R.cells) (hRs : am_sz S g - z0 ≤ R.slots) (ok : am_okE mi pc (49, a, b, c', v) = true) (hs : am_step L xs 49 a b c' v lv st S h o g = some (.inl (pc', lv', st', S', h', o')))
    (kk : am_G p l e R s m args below meth c Q n0 old D cA mi c0 z0 g pc' lv' st' S' h' o') : am_G p l e R s m args below meth c Q n0 old D cA mi c0 z0 g pc lv st S h o := by
  intro H locs ls hP hS hl hbg hc0 hz0
  obtain ⟨hx, hb, hml, hown, hts, hr, hlk, hnm, htab⟩ := B
  obtain ⟨i, n, hd, rfl, hi⟩ := am_okE_spec ok (by decide)
  simp only [am_okI] at hi
  simp only [am_step] at hs
  split at hs
  · rename_i k r
    split at hs
    · rename_i hg
      obtain ⟨g1, g2, g3⟩ := hg
      simp only [Option.some.injEq, Sum.inl.injEq, Prod.mk.injEq] at hs
      obtain ⟨rfl, rfl, rfl, rfl, rfl, rfl⟩ := hs
      split at hi
      · simp only [Bool.and_eq_true, decide_eq_true_eq] at hi
        obtain ⟨hw, rfl⟩ := hi
        obtain ⟨e1, hrec⟩ := am_str_at K g1 g2 hS
        rw [e1] at hrec
        show W p l e R s m args below meth c H locs _ _ Q (F0 m pc ls (.ref (am_r n0 old k) :: r.map (am_v (am_r n0 old))))
        rw [e1]
        exact va_calli (va_runV (As := []) (rest := r.map (am_v (am_r n0 old))) ⟨hx, hb, hml, hown, hts⟩ (am_mLen (n0 := n0) (old := old) (D := D) (cA := cA) (L := L) (xs := xs) (Nat.sub_lt_left_of_lt_add g1 g2)) (cwV 0 hts (am_W_good (fun w hw' => by
            simp only [wsV, List.mem_append, List.mem_cons, List.not_mem_nil, or_false] at hw'
            rcases hw' with (rfl | rfl | rfl | rfl) | rfl | hw'
            · exact am_W_of hw
            · exact am_twi 19 rfl
            · exact am_twi 20 rfl
            · exact am_twi 6 rfl
            · exact am_cLen
            · exact hw')) rfl rfl rfl (by decide +kernel) ⟨by show 2 + 1 ≤ R.frames; omega, by show 8 + (1 + 11) + 40 ≤ R.locals; omega⟩)
            ⟨am_blind, hrec, fun U hU hW => ⟨rfl, am_K.move K hW (locs := locs) (by rw [hU]; exact hS)⟩⟩ rfl rfl hl.1 rfl (by show 2 * 0 + _ ≤ 8; rw [am_v_cats]; omega) hd ⟨hRc, hRs⟩)
          hS (fun q _ hq => hq.elim) (fun q hq => hq.elim) (fun r1 u t H1 locs1 ht hvm hw1 hB hz1 hk1 hS1 => by
            rw [hw1]
            exact kk H1 locs1 ls (hP.kept (fun k9 q hq => hk1 q.1 ((hP k9 q hq).lt) id)) hS1 hl hbg hc0 hz0)
      · cases hi
    · cases hs
  · cases hs
theorem am_s50 (B : am_B p s m args meth c mi) (K : am_K n0 old D cA L xs s) (hRf : 10 ≤ R.frames) (hRl : 200 ≤ R.locals) (hRc : am_ct S g - c0 ≤ R.cells) (hRs : am_sz S g - z0 ≤ R.slots) (ok : am_okE mi pc (50, a, b, c', v) = true) (hs : am_step L xs 50 a b c' v lv st S h o g = some (.inl (pc', lv', st', S', h', o')))
    (kk : am_G p l e R s m args below meth c Q n0 old D cA mi c0 z0 g pc' lv' st' S' h' o') : am_G p l e R s m args below meth c Q n0 old D cA mi c0 z0 g pc lv st S h o := by
  intro H locs ls hP hS hl hbg hc0 hz0
  obtain ⟨hx, hb, hml, hown, hts, hr, hlk, hnm, htab⟩ := B
  obtain ⟨i, n, hd, rfl, hi⟩ := am_okE_spec ok (by decide)
  simp only [am_okI] at hi
  simp only [am_step] at hs
  split at hs
  · rename_i i k r
    split at hs
    · rename_i hg
      obtain ⟨g1, g2, g3, g4, g5⟩ := hg
      simp only [Option.some.injEq, Sum.inl.injEq, Prod.mk.injEq] at hs
      obtain ⟨rfl, rfl, rfl, rfl, rfl, rfl⟩ := hs
      split at hi
      · simp only [Bool.and_eq_true, decide_eq_true_eq] at hi
        obtain ⟨hw, rfl⟩ := hi
        obtain ⟨e1, hrec⟩ := am_str_at K g1 g2 hS
        rw [e1] at hrec
        show W p l e R s m args below meth c H locs _ _ Q (F0 m pc ls (.int i :: .ref (am_r n0 old k) :: r.map (am_v (am_r n0 old))))
        rw [e1]
        exact va_calli (va_runV (As := [.int i]) (rest := r.map (am_v (am_r n0 old))) ⟨hx, hb, hml, hown, hts⟩ (am_mAt (n0 := n0) (old := old) (D := D) (cA := cA) (L := L) (xs := xs) (Nat.sub_lt_left_of_lt_add g1 g2) g3 g4) (cwV 1 hts (am_W_good (fun w hw' => by
            simp only [wsV, List.mem_append, List.mem_cons, List.not_mem_nil, or_false] at hw'
            rcases hw' with (rfl | rfl | rfl | rfl) | rfl | hw'
            · exact am_W_of hw
            · exact am_twi 21 rfl
            · exact am_twi 22 rfl
            · exact am_twi 6 rfl
            · exact am_cAt
            · exact hw')) rfl rfl rfl (by decide +kernel) ⟨by show 4 + 1 ≤ R.frames; omega, by show 8 + (2 + 11) + 100 ≤ R.locals; omega⟩)
            ⟨am_blind, hrec, fun U hU hW => ⟨rfl, am_K.move K hW (locs := locs) (by rw [hU]; exact hS)⟩⟩ rfl rfl hl.1 rfl (by show 2 * 0 + _ ≤ 8; rw [am_v_cats]; omega) hd ⟨hRc, hRs⟩)
          hS (fun q _ hq => hq.elim) (fun q hq => hq.elim) (fun r1 u t H1 locs1 ht hvm hw1 hB hz1 hk1 hS1 => by
            rw [hw1]
            exact kk H1 locs1 ls (hP.kept (fun k9 q hq => hk1 q.1 ((hP k9 q hq).lt) id)) hS1 hl hbg hc0 hz0)
      · cases hi
    · cases hs
  · cases hs
end AMX
theorem am_sum_same {S : am_S} {k : Nat} {c c' : am_C} (hk : S[k]? = some c) (h : am_csz c' = am_csz c) : (S.set k c').map am_csz = S.map am_csz := by
  apply List.ext_getElem?
  intro j
  rw [List.getElem?_map, List.getElem?_map]
  by_cases hj : j = k
  · subst hj
    rw [List.getElem?_set_self (List.getElem?_eq_some_iff.mp hk).1, hk, Option.map_some, Option.map_some, h]
  · rw [List.getElem?_set_ne (Ne.symm hj)]
set_option maxHeartbeats 4000000 in
theorem am_step_mono {L : Nat} {xs : Nat → Int32} {op a b c : Nat} {v : Int32} {lv lv' : am_V} {st st' : List Value} {S S' : am_S} {h h' : am_M} {o o' : am_L} {g pc' : Nat} (hs : am_step L xs op a b c v lv st S h o g = some (.inl (pc', lv', st', S', h', o'))) : S.length ≤ S'.length ∧ (S.map am_csz).sum ≤ (S'.map am_csz).sum := by
  unfold am_step at hs
  repeat' split at hs
  all_goals first
    | (cases hs; done)
    | (simp only [Option.some.injEq, Sum.inl.injEq, Prod.mk.injEq] at hs; obtain ⟨-, -, -, rfl, -, -⟩ := hs; exact ⟨Nat.le_refl _, Nat.le_refl _⟩)
    | (simp only [Option.some.injEq, Sum.inl.injEq, Prod.mk.injEq] at hs; obtain ⟨-, -, -, rfl, -, -⟩ := hs; exact ⟨by simp, by rw [am_sum_same (by assumption) (by simp [am_csz])]; exact Nat.le_refl _⟩)
    | (simp only [Option.some.injEq, Sum.inl.injEq, Prod.mk.injEq] at hs; obtain ⟨-, -, -, rfl, -, -⟩ := hs; exact ⟨by simp, by simp⟩)
