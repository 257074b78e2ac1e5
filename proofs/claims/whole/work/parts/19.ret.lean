/-! ===== returns and throws ===== -/
set_option maxHeartbeats 4000000 in
theorem am_step_kind {L : Nat} {xs : Nat → Int32} {op a b c : Nat} {v : Int32} {lv : am_V} {st : List Value} {S : am_S} {h : am_M} {o : am_L} {g : Nat} {r : (Nat × List Value × List Value) ⊕ (Option Value ⊕ Nat)} (hs : am_step L xs op a b c v lv st S h o g = some (.inr r)) :
    ((op = 36 ∨ op = 53) ∧ r = .inl (a, (st.take b).reverse, st.drop b) ∧ b ≤ st.length ∧ ((st.drop b).map fun w => w.category).sum ≤ 8 ∧ (am_args (st.take b).reverse).length ≤ am_ml a ∧ am_recv (am_rc a) (st.take b).reverse S = true) ∨
    (op = 41 ∧ ∃ x, st = [.int x] ∧ r = .inr (.inl (some (.int x)))) ∨ (op = 42 ∧ ∃ x, st = [.int x] ∧ am_bit x = true ∧ r = .inr (.inl (some (.int x)))) ∨ (op = 43 ∧ ∃ x, st = [.ref x] ∧ r = .inr (.inl (some (.ref x)))) ∨ (op = 44 ∧ st = [] ∧ r = .inr (.inl none)) ∨
    (op = 45 ∧ (st.map fun w => w.category).sum ≤ 8 ∧ r = .inr (.inr a)) := by
  match op, hs with
  | 36, hs =>
    simp only [am_step] at hs
    split at hs
    · rename_i hg
      simp only [Option.some.injEq, Sum.inr.injEq] at hs
      exact Or.inl ⟨Or.inl rfl, hs.symm, hg⟩
    · cases hs
  | 53, hs =>
    simp only [am_step] at hs
    split at hs
    · rename_i hg
      simp only [Option.some.injEq, Sum.inr.injEq] at hs
      exact Or.inl ⟨Or.inr rfl, hs.symm, hg⟩
    · cases hs
  | 41, hs =>
    simp only [am_step] at hs
    split at hs
    · simp only [Option.some.injEq, Sum.inr.injEq] at hs
      exact Or.inr (Or.inl ⟨rfl, _, rfl, hs.symm⟩)
    · cases hs
  | 42, hs =>
    simp only [am_step] at hs
    split at hs
    · split at hs
      · rename_i hg
        simp only [Option.some.injEq, Sum.inr.injEq] at hs
        exact Or.inr (Or.inr (Or.inl ⟨rfl, _, rfl, hg, hs.symm⟩))
      · cases hs
    · cases hs
  | 43, hs =>
    simp only [am_step] at hs
    split at hs
    · simp only [Option.some.injEq, Sum.inr.injEq] at hs
      exact Or.inr (Or.inr (Or.inr (Or.inl ⟨rfl, _, rfl, hs.symm⟩)))
    · cases hs
  | 44, hs =>
    simp only [am_step] at hs
    split at hs
    · simp only [Option.some.injEq, Sum.inr.injEq] at hs
      exact Or.inr (Or.inr (Or.inr (Or.inr (Or.inl ⟨rfl, rfl, hs.symm⟩))))
    · cases hs
  | 45, hs =>
    simp only [am_step] at hs
    split at hs
    · rename_i hg
      simp only [Option.some.injEq, Sum.inr.injEq] at hs
      exact Or.inr (Or.inr (Or.inr (Or.inr (Or.inr ⟨rfl, hg, hs.symm⟩))))
    · cases hs
  | 0, hs | 1, hs | 2, hs | 3, hs | 4, hs | 5, hs | 6, hs | 7, hs | 8, hs | 9, hs | 10, hs | 11, hs | 12, hs | 13, hs | 14, hs | 15, hs | 16, hs | 17, hs | 18, hs | 19, hs | 20, hs | 21, hs | 22, hs | 23, hs | 24, hs | 25, hs | 26, hs | 27, hs | 28, hs | 29, hs | 30, hs | 31, hs | 32, hs | 33, hs | 34, hs | 35, hs | 37, hs | 38, hs | 39, hs | 40, hs | 46, hs | 47, hs | 48, hs | 49, hs | 50, hs | 51, hs | 52, hs =>
    exfalso
    simp only [am_step] at hs
    repeat' split at hs
    all_goals (cases hs; done)
  | op + 54, hs => cases hs
section AMR
variable {p : Program} {l : Launch} {e : Env} {R : Room} {s : State} {m : MethodId} {args : Array Value} {below : List Frame} {meth : Method} {c : Code} {n0 : Nat} {old : Nat → Nat} {D : va_G} {cA : Nat → ClassId} {L : Nat} {xs : Nat → Int32} {mi c0 z0 g pc : Nat} {lv : am_V} {st : List Value} {S : am_S} {h : am_M} {o : am_L} {op a b c' : Nat} {v : Int32}
theorem am_retG {w : Option Value} (B : am_B p s m args meth c mi) (ok : am_okE mi pc (op, a, b, c', v) = true) (hs : am_step L xs op a b c' v lv st S h o g = some (.inr (.inr (.inl w)))) :
    am_G p l e R s m args below meth c (vx_MQ below (am_Qc n0 old D cA (.inr w) S h o) (am_XC n0 old D cA (.inr w) S h o) args s (am_ct S g - c0) (am_sz S g - z0) (am_A n0)) n0 old D cA mi c0 z0 g pc lv st S h o := by
  intro H locs ls hP hS hl hbg hc0 hz0
  obtain ⟨hx, hb, hml, hown, hts, hr, hlk, hnm, htab⟩ := B
  have hq : ∀ t : State, t.heap = H → s.WarmedH t.vm → am_Qc n0 old D cA (.inr w) S h o args s (.returned (w.map (am_v (am_r n0 old)))) t := fun t ht _ => ⟨⟨w, rfl, rfl⟩, by rw [ht]; exact hP, hS.F ht⟩
  rcases am_step_kind hs with ⟨-, h1, -⟩ | ⟨rfl, x, rfl, h1⟩ | ⟨rfl, x, rfl, hbit, h1⟩ | ⟨rfl, x, rfl, h1⟩ | ⟨rfl, rfl, h1⟩ | ⟨rfl, -, h1⟩
  · cases h1
  · cases h1
    obtain ⟨i, n, hd, rfl, hi⟩ := am_okE_spec ok (by decide)
    simp only [am_okI, Bool.and_eq_true, decide_eq_true_eq] at hi
    obtain ⟨rfl, hrt, rfl⟩ := hi
    exact vx_ret (W.iret hx hb (hr.trans hrt) hq hS.2.2 hd)
  · cases h1
    obtain ⟨i, n, hd, rfl, hi⟩ := am_okE_spec ok (by decide)
    simp only [am_okI, Bool.and_eq_true, decide_eq_true_eq] at hi
    obtain ⟨rfl, hrt, rfl⟩ := hi
    exact vx_ret (W.zret (ty := .boolean) hx hb (hr.trans hrt) (am_bit_of hbit).1 hq hS.2.2 hd)
  · cases h1
    obtain ⟨i, n, hd, rfl, hi⟩ := am_okE_spec ok (by decide)
    simp only [am_okI, Bool.and_eq_true, decide_eq_true_eq] at hi
    obtain ⟨rfl, hrt, rfl⟩ := hi
    split at hrt
    · rename_i C hC
      exact vx_ret (W.aret (rt := .object C) hx hb (hr.trans hC) (Or.inl ⟨C, rfl⟩) (Or.inr ⟨_, rfl⟩) hq hS.2.2 hd)
    · cases hrt
  · cases h1
    obtain ⟨i, n, hd, rfl, hi⟩ := am_okE_spec ok (by decide)
    simp only [am_okI, Bool.and_eq_true, decide_eq_true_eq] at hi
    obtain ⟨rfl, hrt, rfl⟩ := hi
    exact vx_ret (W.vret hx hb (hr.trans hrt) hq hS.2.2 hd)
  · cases h1
theorem am_thrG {E : Nat} (hst : l.stackTraces = false) (B : am_B p s m args meth c mi) (K : am_K n0 old D cA L xs s) (hRf : 10 ≤ R.frames) (hRl : 200 ≤ R.locals) (hRc : am_ct S (g + 1) - c0 ≤ R.cells) (hRs : am_sz S (g + 1) - z0 ≤ R.slots) (ok : am_okE mi pc (op, a, b, c', v) = true) (hs : am_step L xs op a b c' v lv st S h o g = some (.inr (.inr (.inr E)))) :
    am_G p l e R s m args below meth c (vx_MQ below (am_Qc n0 old D cA (.inl E) S h o) (am_XC n0 old D cA (.inl E) S h o) args s (am_ct S (g + 1) - c0) (am_sz S (g + 1) - z0) (am_A n0)) n0 old D cA mi c0 z0 g pc lv st S h o := by
  intro H locs ls hP hS hl hbg hc0 hz0
  obtain ⟨hx, hb, hml, hown, hts, hr, hlk, hnm, htab⟩ := B
  have hc1 : am_ct S (g + 1) - c0 = am_ct S g - c0 + 1 := by simp only [am_ct] at hc0 ⊢; omega
  have hz1 : am_sz S (g + 1) - z0 = am_sz S g - z0 + 6 := by simp only [am_sz] at hz0 ⊢; omega
  rw [hc1] at hRc ⊢
  rw [hz1] at hRs ⊢
  have hxc : ∀ k : Nat, k < 2 → ∀ t : State, s.vm.Alike t.vm → H.size ≤ t.heap.size → (∀ q : Nat, q < H.size → t.heap[q]? = H[q]?) → am_XC n0 old D cA (.inl k) S h o (am_exc k) s t := fun k hk t _ h1 h2 =>
    ⟨⟨k, rfl, rfl, hk⟩, hP.kept (fun j q hq => h2 q.1 ((hP j q hq).lt)), Nat.le_trans hS.1 h1, fun q h3 h4 => (h2 q (Nat.lt_of_lt_of_le h3 hS.1)).trans (hS.2.1 q h3 h4)⟩
  rcases am_step_kind hs with ⟨-, h1, -⟩ | ⟨rfl, x, rfl, h1⟩ | ⟨rfl, x, rfl, hbit, h1⟩ | ⟨rfl, x, rfl, h1⟩ | ⟨rfl, rfl, h1⟩ | ⟨rfl, hsum, h1⟩
  · cases h1
  · cases h1
  · cases h1
  · cases h1
  · cases h1
  · cases h1
    unfold am_okE at ok
    split at ok
    · cases ok
    · rename_i i n hd
      simp only [Bool.and_eq_true, Bool.or_eq_true, decide_eq_true_eq] at ok
      have hi := ok.2
      simp only [am_okI] at hi
      have hroom : ((st.map (am_v (am_r n0 old))).map fun v => v.category).sum + (13 * (2 + 1) + 43) ≤ R.locals := by rw [am_v_cats]; omega
      split at hi
      · simp only [am_ok45, Bool.and_eq_true, Bool.or_eq_true, decide_eq_true_eq] at hi
        obtain ⟨rfl, e1, e2, e3, e4, e5, d3, hi⟩ := hi
        rw [e1] at hown
        have hout : ∀ q : Nat, ∀ x ∈ c.exceptionTable.toList, covers x q = false := fun q x hx' => by rw [htab, e2] at hx'; cases hx'
        have hstr := K.2.2.2.2.2.1 b e4
        rw [e5] at hstr
        have hat := am_hat am_x0 (fun w hw => List.all_eq_true.mp am_x3 w (List.mem_cons_of_mem _ (List.mem_cons_of_mem _ hw))) hts K.2.2.2.2.2.2.1
        rcases hi with ⟨d4, d6, d9⟩ | ⟨d4, d7, d10⟩
        · exact am_thrN hx hb hst hown (hts _ (am_x2i 0 rfl)) (hts _ (am_x2i 1 rfl)) hstr hat (List.all_eq_true.mp am_x3) K.2.2.2.2.2.2.2.1 K.2.2.2.2.2.2.2.2.1 hS (by rw [hml]; exact hl.1) hd d3 d4 d6 d9 (hout _) (by omega) hroom hRc hRs hlk (hxc 0 (by omega)) hS.2.2 (Nat.le_refl _) (Nat.le_refl _)
        · exact am_thrNW hx hb hst hown (hts _ (am_x2i 0 rfl)) (hts _ (am_x2i 1 rfl)) hstr hat (List.all_eq_true.mp am_x3) K.2.2.2.2.2.2.2.1 K.2.2.2.2.2.2.2.2.1 hS (by rw [hml]; exact hl.1) hd d3 d4 d7 d10 (hout _) (by omega) hroom hRc hRs hlk (hxc 0 (by omega)) hS.2.2 (Nat.le_refl _) (Nat.le_refl _)
      · simp only [am_ok45, Bool.and_eq_true, Bool.or_eq_true, decide_eq_true_eq] at hi
        obtain ⟨rfl, e1, e2, e3, e4, e5, d3, hi⟩ := hi
        rw [e1] at hown
        have hout : ∀ q : Nat, ∀ x ∈ c.exceptionTable.toList, covers x q = false := fun q x hx' => by rw [htab, e2] at hx'; cases hx'
        have hstr := K.2.2.2.2.2.1 b e4
        rw [e5] at hstr
        have hat := am_hat am_x1 (fun w hw => List.all_eq_true.mp am_x4 w (List.mem_cons_of_mem _ (List.mem_cons_of_mem _ hw))) hts K.2.2.2.2.2.2.1
        rcases hi with ⟨d4, d6, d9⟩ | ⟨d4, d7, d10⟩
        · exact vx_throwS (names := am_xn) hx hb hst hown (by decide) (by decide) (hts _ (am_x2i 2 rfl)) (hts _ (am_x2i 3 rfl)) hstr hat (List.all_eq_true.mp am_x4) K.2.2.2.2.2.2.2.1 K.2.2.2.2.2.2.2.2.1 hS (by rw [hml]; exact hl.1) hd d3 d4 d6 d9 (hout _) (by show 2 + 3 < R.frames; omega) hroom hRc hRs hlk (hxc 1 (by omega)) hS.2.2 (Nat.le_refl _) (Nat.le_refl _)
        · exact vx_throwSW (names := am_xn) hx hb hst hown (by decide) (by decide) (hts _ (am_x2i 2 rfl)) (hts _ (am_x2i 3 rfl)) hstr hat (List.all_eq_true.mp am_x4) K.2.2.2.2.2.2.2.1 K.2.2.2.2.2.2.2.2.1 hS (by rw [hml]; exact hl.1) hd d3 d4 d7 d10 (hout _) (by show 2 + 3 < R.frames; omega) hroom hRc hRs hlk (hxc 1 (by omega)) hS.2.2 (Nat.le_refl _) (Nat.le_refl _)
      · cases hi
end AMR
