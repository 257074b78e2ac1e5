/-! ===== a step of the abstract machine is a step of the real one ===== -/
theorem am_okE_spec {mi pc op a b c' : Nat} {v : Int32} (h : am_okE mi pc (op, a, b, c', v) = true) (h45 : op ≠ 45) : ∃ (i : Instr) (n : Nat), decode (am_code mi) pc = .ok (i, n) ∧ c' = pc + n ∧ am_okI mi pc op a b v i n = true := by
  unfold am_okE at h
  split at h
  · cases h
  · rename_i i n hd
    simp only [Bool.and_eq_true, Bool.or_eq_true, decide_eq_true_eq] at h
    exact ⟨i, n, hd, h.1.resolve_left h45, h.2⟩
/-- from here on the machine comes to Q, whatever the real heap and variables are that stand for these -/
def am_G (p : Program) (l : Launch) (e : Env) (R : Room) (s : State) (m : MethodId) (args : Array Value) (below : List Frame) (meth : Method) (c : Code) (Q : State → Prop) (n0 : Nat) (old : Nat → Nat) (D : va_G) (cA : Nat → ClassId) (mi c0 z0 g pc : Nat) (lv : am_V) (st : List Value) (S : am_S) (h : am_M) (o : am_L) : Prop :=
  ∀ (H : Heap) (locs : List Loc) (ls : Array Slot), va_P D am_cl (am_ws (am_r n0 old) cA S h o) H → va_S (am_A n0) s.heap H locs → am_l (am_r n0 old) ls (am_ml mi) lv → S.length ≤ am_big → c0 ≤ am_ct S g → z0 ≤ am_sz S g →
    W p l e R s m args below meth c H locs (am_ct S g - c0) (am_sz S g - z0) Q (F0 m pc ls (st.map (am_v (am_r n0 old))))
section AMS
variable {p : Program} {l : Launch} {e : Env} {R : Room} {s : State} {m : MethodId} {args : Array Value} {below : List Frame} {meth : Method} {c : Code} {Q : State → Prop} {n0 : Nat} {old : Nat → Nat} {D : va_G} {cA : Nat → ClassId} {L : Nat} {xs : Nat → Int32} {mi c0 z0 g pc pc' : Nat} {lv lv' : am_V} {st st' : List Value} {S S' : am_S} {h h' : am_M} {o o' : am_L} {a b c' : Nat} {v : Int32}
theorem am_s0 (B : am_B p s m args meth c mi) (ok : am_okE mi pc (0, a, b, c', v) = true) (hs : am_step L xs 0 a b c' v lv st S h o g = some (.inl (pc', lv', st', S', h', o')))
    (kk : am_G p l e R s m args below meth c Q n0 old D cA mi c0 z0 g pc' lv' st' S' h' o') : am_G p l e R s m args below meth c Q n0 old D cA mi c0 z0 g pc lv st S h o := by
  intro H locs ls hP hS hl hbg hc0 hz0
  obtain ⟨hx, hb, hml, hown, hts, hr, hlk, hnm, htab⟩ := B
  obtain ⟨i, n, hd, rfl, hi⟩ := am_okE_spec ok (by decide)
  simp only [am_okI] at hi
  simp only [am_step] at hs
  simp only [Option.some.injEq, Sum.inl.injEq, Prod.mk.injEq] at hs
  obtain ⟨rfl, rfl, rfl, rfl, rfl, rfl⟩ := hs
  have k := kk H locs ls hP hS hl hbg hc0 hz0
  split at hi
  · simp only [Bool.and_eq_true, decide_eq_true_eq] at hi
    obtain ⟨hi, rfl⟩ := hi
    exact lv_iconst hx hb hd hi k
  · simp only [Bool.and_eq_true, decide_eq_true_eq] at hi
    obtain ⟨hi, rfl⟩ := hi
    exact lv_bipush hx hb hd hi k
  · simp only [Bool.and_eq_true, decide_eq_true_eq] at hi
    obtain ⟨hi, rfl⟩ := hi
    exact lv_sipush hx hb hd hi k
  · simp only [Bool.and_eq_true, decide_eq_true_eq] at hi
    obtain ⟨hi, rfl⟩ := hi
    exact lv_ldc hx hb hown (hts _ (am_W_of hi)) hd k
  · simp only [Bool.and_eq_true, decide_eq_true_eq] at hi
    obtain ⟨hi, rfl⟩ := hi
    exact lv_ldcw hx hb hown (hts _ (am_W_of hi)) hd k
  · cases hi
theorem am_s1 (B : am_B p s m args meth c mi) (ok : am_okE mi pc (1, a, b, c', v) = true) (hs : am_step L xs 1 a b c' v lv st S h o g = some (.inl (pc', lv', st', S', h', o')))
    (kk : am_G p l e R s m args below meth c Q n0 old D cA mi c0 z0 g pc' lv' st' S' h' o') : am_G p l e R s m args below meth c Q n0 old D cA mi c0 z0 g pc lv st S h o := by
  intro H locs ls hP hS hl hbg hc0 hz0
  obtain ⟨hx, hb, hml, hown, hts, hr, hlk, hnm, htab⟩ := B
  obtain ⟨i, n, hd, rfl, hi⟩ := am_okE_spec ok (by decide)
  simp only [am_okI] at hi
  simp only [am_step] at hs
  split at hs
  · rename_i x hx1
    simp only [Option.some.injEq, Sum.inl.injEq, Prod.mk.injEq] at hs
    obtain ⟨rfl, rfl, rfl, rfl, rfl, rfl⟩ := hs
    have k := kk H locs ls hP hS hl hbg hc0 hz0
    have hv := hl.2.2.2 _ _ hx1
    split at hi
    · simp only [Bool.and_eq_true, decide_eq_true_eq] at hi
      obtain ⟨hi, rfl⟩ := hi
      exact lv_iload_n hx hb hd hi hv k
    · simp only [Bool.and_eq_true, decide_eq_true_eq] at hi
      obtain ⟨rfl, rfl⟩ := hi
      exact lv_iload hx hb hd hv k
    · cases hi
  · cases hs
theorem am_s2 (B : am_B p s m args meth c mi) (ok : am_okE mi pc (2, a, b, c', v) = true) (hs : am_step L xs 2 a b c' v lv st S h o g = some (.inl (pc', lv', st', S', h', o')))
    (kk : am_G p l e R s m args below meth c Q n0 old D cA mi c0 z0 g pc' lv' st' S' h' o') : am_G p l e R s m args below meth c Q n0 old D cA mi c0 z0 g pc lv st S h o := by
  intro H locs ls hP hS hl hbg hc0 hz0
  obtain ⟨hx, hb, hml, hown, hts, hr, hlk, hnm, htab⟩ := B
  obtain ⟨i, n, hd, rfl, hi⟩ := am_okE_spec ok (by decide)
  simp only [am_okI] at hi
  simp only [am_step] at hs
  split at hs
  · rename_i x hx1
    simp only [Option.some.injEq, Sum.inl.injEq, Prod.mk.injEq] at hs
    obtain ⟨rfl, rfl, rfl, rfl, rfl, rfl⟩ := hs
    have k := kk H locs ls hP hS hl hbg hc0 hz0
    have hv := hl.2.2.2 _ _ hx1
    split at hi
    · simp only [Bool.and_eq_true, decide_eq_true_eq] at hi
      obtain ⟨hi, rfl⟩ := hi
      exact lv_aload_n hx hb hd hi hv k
    · simp only [Bool.and_eq_true, decide_eq_true_eq] at hi
      obtain ⟨rfl, rfl⟩ := hi
      exact lv_aload hx hb hd hv k
    · cases hi
  · cases hs
theorem am_s3 (B : am_B p s m args meth c mi) (ok : am_okE mi pc (3, a, b, c', v) = true) (hs : am_step L xs 3 a b c' v lv st S h o g = some (.inl (pc', lv', st', S', h', o')))
    (kk : am_G p l e R s m args below meth c Q n0 old D cA mi c0 z0 g pc' lv' st' S' h' o') : am_G p l e R s m args below meth c Q n0 old D cA mi c0 z0 g pc lv st S h o := by
  intro H locs ls hP hS hl hbg hc0 hz0
  obtain ⟨hx, hb, hml, hown, hts, hr, hlk, hnm, htab⟩ := B
  obtain ⟨i, n, hd, rfl, hi⟩ := am_okE_spec ok (by decide)
  simp only [am_okI] at hi
  simp only [am_step] at hs
  split at hs
  · rename_i x hx1
    simp only [Option.some.injEq, Sum.inl.injEq, Prod.mk.injEq] at hs
    obtain ⟨rfl, rfl, rfl, rfl, rfl, rfl⟩ := hs
    have k := kk H locs ls hP hS hl hbg hc0 hz0
    have hv := hl.2.2.2 _ _ hx1
    split at hi
    · simp only [Bool.and_eq_true, decide_eq_true_eq] at hi
      obtain ⟨hi, rfl⟩ := hi
      exact lv_lload_n hx hb hd hi hv k
    · simp only [Bool.and_eq_true, decide_eq_true_eq] at hi
      obtain ⟨rfl, rfl⟩ := hi
      exact lv_lload hx hb hd hv k
    · cases hi
  · cases hs
theorem am_s4 (B : am_B p s m args meth c mi) (ok : am_okE mi pc (4, a, b, c', v) = true) (hs : am_step L xs 4 a b c' v lv st S h o g = some (.inl (pc', lv', st', S', h', o')))
    (kk : am_G p l e R s m args below meth c Q n0 old D cA mi c0 z0 g pc' lv' st' S' h' o') : am_G p l e R s m args below meth c Q n0 old D cA mi c0 z0 g pc lv st S h o := by
  intro H locs ls hP hS hl hbg hc0 hz0
  obtain ⟨hx, hb, hml, hown, hts, hr, hlk, hnm, htab⟩ := B
  obtain ⟨i, n, hd, rfl, hi⟩ := am_okE_spec ok (by decide)
  simp only [am_okI] at hi
  simp only [am_step] at hs
  split at hs
  · rename_i x r
    split at hs
    · rename_i hlt
      simp only [Option.some.injEq, Sum.inl.injEq, Prod.mk.injEq] at hs
      obtain ⟨rfl, rfl, rfl, rfl, rfl, rfl⟩ := hs
      have hlt2 : a < am_ml mi := by rw [← hl.2.2.1]; exact hlt
      split at hi
      · simp only [Bool.and_eq_true, decide_eq_true_eq] at hi
        obtain ⟨hi, rfl⟩ := hi
        exact lv_istore_n hx hb hd hi hl.has hlt2 rfl (fun ls' h' => kk H locs ls' hP hS (hl.st1 (v := .int x) h') hbg hc0 hz0)
      · simp only [Bool.and_eq_true, decide_eq_true_eq] at hi
        obtain ⟨rfl, rfl⟩ := hi
        exact lv_istore hx hb hd hl.has hlt2 rfl (fun ls' h' => kk H locs ls' hP hS (hl.st1 (v := .int x) h') hbg hc0 hz0)
      · cases hi
    · cases hs
  · cases hs
theorem am_s5 (B : am_B p s m args meth c mi) (ok : am_okE mi pc (5, a, b, c', v) = true) (hs : am_step L xs 5 a b c' v lv st S h o g = some (.inl (pc', lv', st', S', h', o')))
    (kk : am_G p l e R s m args below meth c Q n0 old D cA mi c0 z0 g pc' lv' st' S' h' o') : am_G p l e R s m args below meth c Q n0 old D cA mi c0 z0 g pc lv st S h o := by
  intro H locs ls hP hS hl hbg hc0 hz0
  obtain ⟨hx, hb, hml, hown, hts, hr, hlk, hnm, htab⟩ := B
  obtain ⟨i, n, hd, rfl, hi⟩ := am_okE_spec ok (by decide)
  simp only [am_okI] at hi
  simp only [am_step] at hs
  split at hs
  · rename_i x r
    split at hs
    · rename_i hlt
      simp only [Option.some.injEq, Sum.inl.injEq, Prod.mk.injEq] at hs
      obtain ⟨rfl, rfl, rfl, rfl, rfl, rfl⟩ := hs
      have hlt2 : a < am_ml mi := by rw [← hl.2.2.1]; exact hlt
      split at hi
      · simp only [Bool.and_eq_true, decide_eq_true_eq] at hi
        obtain ⟨hi, rfl⟩ := hi
        exact lv_astore_n hx hb hd hi hl.has hlt2 rfl (fun ls' h' => kk H locs ls' hP hS (hl.st1 (v := .ref x) h') hbg hc0 hz0)
      · simp only [Bool.and_eq_true, decide_eq_true_eq] at hi
        obtain ⟨rfl, rfl⟩ := hi
        exact lv_astore hx hb hd hl.has hlt2 rfl (fun ls' h' => kk H locs ls' hP hS (hl.st1 (v := .ref x) h') hbg hc0 hz0)
      · cases hi
    · cases hs
  · cases hs
theorem am_s6 (B : am_B p s m args meth c mi) (ok : am_okE mi pc (6, a, b, c', v) = true) (hs : am_step L xs 6 a b c' v lv st S h o g = some (.inl (pc', lv', st', S', h', o')))
    (kk : am_G p l e R s m args below meth c Q n0 old D cA mi c0 z0 g pc' lv' st' S' h' o') : am_G p l e R s m args below meth c Q n0 old D cA mi c0 z0 g pc lv st S h o := by
  intro H locs ls hP hS hl hbg hc0 hz0
  obtain ⟨hx, hb, hml, hown, hts, hr, hlk, hnm, htab⟩ := B
  obtain ⟨i, n, hd, rfl, hi⟩ := am_okE_spec ok (by decide)
  simp only [am_okI] at hi
  simp only [am_step] at hs
  split at hs
  · rename_i x r
    split at hs
    · rename_i hlt
      simp only [Option.some.injEq, Sum.inl.injEq, Prod.mk.injEq] at hs
      obtain ⟨rfl, rfl, rfl, rfl, rfl, rfl⟩ := hs
      have hlt2 : a + 1 < am_ml mi := by rw [← hl.2.2.1]; exact hlt
      split at hi
      · simp only [Bool.and_eq_true, decide_eq_true_eq] at hi
        obtain ⟨hi, rfl⟩ := hi
        exact lv_lstore_n hx hb hd hi hl.has hlt2 rfl (fun ls' h' => kk H locs ls' hP hS (hl.st2 (v := .long x) h') hbg hc0 hz0)
      · simp only [Bool.and_eq_true, decide_eq_true_eq] at hi
        obtain ⟨rfl, rfl⟩ := hi
        exact lv_lstore hx hb hd hl.has hlt2 rfl (fun ls' h' => kk H locs ls' hP hS (hl.st2 (v := .long x) h') hbg hc0 hz0)
      · cases hi
    · cases hs
  · cases hs
theorem am_s7 (B : am_B p s m args meth c mi) (ok : am_okE mi pc (7, a, b, c', v) = true) (hs : am_step L xs 7 a b c' v lv st S h o g = some (.inl (pc', lv', st', S', h', o')))
    (kk : am_G p l e R s m args below meth c Q n0 old D cA mi c0 z0 g pc' lv' st' S' h' o') : am_G p l e R s m args below meth c Q n0 old D cA mi c0 z0 g pc lv st S h o := by
  intro H locs ls hP hS hl hbg hc0 hz0
  obtain ⟨hx, hb, hml, hown, hts, hr, hlk, hnm, htab⟩ := B
  obtain ⟨i, n, hd, rfl, hi⟩ := am_okE_spec ok (by decide)
  simp only [am_okI] at hi
  simp only [am_step] at hs
  split at hs
  · rename_i y x r
    simp only [Bool.and_eq_true, decide_eq_true_eq] at hi
    obtain ⟨rfl, hi⟩ := hi
    split at hs
    · rename_i z hz
      simp only [Option.some.injEq, Sum.inl.injEq, Prod.mk.injEq] at hs
      obtain ⟨rfl, rfl, rfl, rfl, rfl, rfl⟩ := hs
      have k := kk H locs ls hP hS hl hbg hc0 hz0
      split at hi
      · cases hz
        exact lv_iadd hx hb hd k
      · cases hz
        exact lv_isub hx hb hd k
      · cases hz
        exact lv_imul hx hb hd k
      · cases hz
        exact lv_iand hx hb hd k
      · cases hz
        exact lv_ior hx hb hd k
      · cases hz
        exact lv_ixor hx hb hd k
      · cases hz
        exact lv_ishl hx hb hd k
      · cases hz
        exact lv_ishr hx hb hd k
      · cases hz
        exact lv_iushr hx hb hd rfl k
      · simp only [am_bin] at hz
        split at hz
        · cases hz
        · rename_i hne
          cases hz
          exact lv_idiv hx hb hd hne k
      · simp only [am_bin] at hz
        split at hz
        · cases hz
        · rename_i hne
          cases hz
          exact lv_irem hx hb hd hne k
      · cases hi
    · cases hs
  · cases hs
theorem am_s8 (B : am_B p s m args meth c mi) (ok : am_okE mi pc (8, a, b, c', v) = true) (hs : am_step L xs 8 a b c' v lv st S h o g = some (.inl (pc', lv', st', S', h', o')))
    (kk : am_G p l e R s m args below meth c Q n0 old D cA mi c0 z0 g pc' lv' st' S' h' o') : am_G p l e R s m args below meth c Q n0 old D cA mi c0 z0 g pc lv st S h o := by
  intro H locs ls hP hS hl hbg hc0 hz0
  obtain ⟨hx, hb, hml, hown, hts, hr, hlk, hnm, htab⟩ := B
  obtain ⟨i, n, hd, rfl, hi⟩ := am_okE_spec ok (by decide)
  simp only [am_okI] at hi
  simp only [am_step] at hs
  split at hs
  · rename_i y x r
    simp only [Bool.and_eq_true, decide_eq_true_eq] at hi
    obtain ⟨rfl, hi⟩ := hi
    split at hs
    · rename_i z hz
      simp only [Option.some.injEq, Sum.inl.injEq, Prod.mk.injEq] at hs
      obtain ⟨rfl, rfl, rfl, rfl, rfl, rfl⟩ := hs
      have k := kk H locs ls hP hS hl hbg hc0 hz0
      split at hi
      · cases hz
        exact lv_ladd hx hb hd k
      · cases hz
        exact lv_lsub hx hb hd k
      · cases hz
        exact lv_land hx hb hd k
      · cases hz
        exact lv_lor hx hb hd k
      · cases hi
    · cases hs
  · cases hs
theorem am_s9 (B : am_B p s m args meth c mi) (ok : am_okE mi pc (9, a, b, c', v) = true) (hs : am_step L xs 9 a b c' v lv st S h o g = some (.inl (pc', lv', st', S', h', o')))
    (kk : am_G p l e R s m args below meth c Q n0 old D cA mi c0 z0 g pc' lv' st' S' h' o') : am_G p l e R s m args below meth c Q n0 old D cA mi c0 z0 g pc lv st S h o := by
  intro H locs ls hP hS hl hbg hc0 hz0
  obtain ⟨hx, hb, hml, hown, hts, hr, hlk, hnm, htab⟩ := B
  obtain ⟨i, n, hd, rfl, hi⟩ := am_okE_spec ok (by decide)
  simp only [am_okI] at hi
  simp only [am_step] at hs
  split at hs
  · rename_i x hx1
    simp only [Option.some.injEq, Sum.inl.injEq, Prod.mk.injEq] at hs
    obtain ⟨rfl, rfl, rfl, rfl, rfl, rfl⟩ := hs
    split at hi
    · simp only [Bool.and_eq_true, decide_eq_true_eq] at hi
      obtain ⟨ha, hi, rfl⟩ := hi
      rw [ha] at hd
      have hlt2 : a < am_ml mi := by rw [← hl.2.2.1]; exact (List.getElem?_eq_some_iff.mp hx1).1
      obtain ⟨k0, hk0⟩ := List.getElem?_of_mem (am_ps_mem.mpr ⟨.int x, hx1, rfl⟩ : (a, am_v (am_r n0 old) (.int x)) ∈ am_ps (am_r n0 old) lv)
      exact lv_iinc (v := x + v) hx hb hd hl.has hk0 (by rw [hi]) hlt2 rfl (fun ls' h' => kk H locs ls' hP hS (hl.st1 (v := .int (x + v)) h') hbg hc0 hz0)
    · cases hi
  · cases hs
theorem am_s10 (B : am_B p s m args meth c mi) (ok : am_okE mi pc (10, a, b, c', v) = true) (hs : am_step L xs 10 a b c' v lv st S h o g = some (.inl (pc', lv', st', S', h', o')))
    (kk : am_G p l e R s m args below meth c Q n0 old D cA mi c0 z0 g pc' lv' st' S' h' o') : am_G p l e R s m args below meth c Q n0 old D cA mi c0 z0 g pc lv st S h o := by
  intro H locs ls hP hS hl hbg hc0 hz0
  obtain ⟨hx, hb, hml, hown, hts, hr, hlk, hnm, htab⟩ := B
  obtain ⟨i, n, hd, rfl, hi⟩ := am_okE_spec ok (by decide)
  simp only [am_okI] at hi
  simp only [am_step] at hs
  split at hs
  · rename_i x r
    simp only [Option.some.injEq, Sum.inl.injEq, Prod.mk.injEq] at hs
    obtain ⟨rfl, rfl, rfl, rfl, rfl, rfl⟩ := hs
    have k := kk H locs ls hP hS hl hbg hc0 hz0
    split at hi
    · rename_i k1 f
      simp only [Bool.and_eq_true, decide_eq_true_eq] at hi
      obtain ⟨hcd, hof, rfl⟩ := hi
      unfold am_cond at hcd
      split at hcd
      · exact lv_if_eq hx hb hd hof (fun w => by simpa [am_cmp, w] using k) (fun w => by simpa [am_cmp, w] using k)
      · exact lv_if_ne hx hb hd hof (fun w => by simpa [am_cmp, w] using k) (fun w => by simpa [am_cmp, w] using k)
      · exact lv_if_lt hx hb hd hof (fun w => by simpa [am_cmp, w] using k) (fun w => by simpa [am_cmp, w] using k)
      · exact lv_if_ge hx hb hd hof (fun w => by simpa [am_cmp, w] using k) (fun w => by simpa [am_cmp, w] using k)
      · exact lv_if_gt hx hb hd hof (fun w => by simpa [am_cmp, w] using k) (fun w => by simpa [am_cmp, w] using k)
      · exact lv_if_le hx hb hd hof (fun w => by simpa [am_cmp, w] using k) (fun w => by simpa [am_cmp, w] using k)
      · cases hcd
    · cases hi
  · cases hs
theorem am_s11 (B : am_B p s m args meth c mi) (ok : am_okE mi pc (11, a, b, c', v) = true) (hs : am_step L xs 11 a b c' v lv st S h o g = some (.inl (pc', lv', st', S', h', o')))
    (kk : am_G p l e R s m args below meth c Q n0 old D cA mi c0 z0 g pc' lv' st' S' h' o') : am_G p l e R s m args below meth c Q n0 old D cA mi c0 z0 g pc lv st S h o := by
  intro H locs ls hP hS hl hbg hc0 hz0
  obtain ⟨hx, hb, hml, hown, hts, hr, hlk, hnm, htab⟩ := B
  obtain ⟨i, n, hd, rfl, hi⟩ := am_okE_spec ok (by decide)
  simp only [am_okI] at hi
  simp only [am_step] at hs
  split at hs
  · rename_i y x r
    simp only [Option.some.injEq, Sum.inl.injEq, Prod.mk.injEq] at hs
    obtain ⟨rfl, rfl, rfl, rfl, rfl, rfl⟩ := hs
    have k := kk H locs ls hP hS hl hbg hc0 hz0
    split at hi
    · rename_i k1 f
      simp only [Bool.and_eq_true, decide_eq_true_eq] at hi
      obtain ⟨hcd, hof, rfl⟩ := hi
      unfold am_cond at hcd
      split at hcd
      · exact lv_icmp_eq hx hb hd hof (fun w => by simpa [am_cmp, w] using k) (fun w => by simpa [am_cmp, w] using k)
      · exact lv_icmp_ne hx hb hd hof (fun w => by simpa [am_cmp, w] using k) (fun w => by simpa [am_cmp, w] using k)
      · exact lv_icmp_lt hx hb hd hof (fun w => by simpa [am_cmp, w] using k) (fun w => by simpa [am_cmp, w] using k)
      · exact lv_icmp_ge hx hb hd hof (fun w => by simpa [am_cmp, w] using k) (fun w => by simpa [am_cmp, w] using k)
      · exact lv_icmp_gt hx hb hd hof (fun w => by simpa [am_cmp, w] using k) (fun w => by simpa [am_cmp, w] using k)
      · exact lv_icmp_le hx hb hd hof (fun w => by simpa [am_cmp, w] using k) (fun w => by simpa [am_cmp, w] using k)
      · cases hcd
    · cases hi
  · cases hs
theorem am_s12 (B : am_B p s m args meth c mi) (ok : am_okE mi pc (12, a, b, c', v) = true) (hs : am_step L xs 12 a b c' v lv st S h o g = some (.inl (pc', lv', st', S', h', o')))
    (kk : am_G p l e R s m args below meth c Q n0 old D cA mi c0 z0 g pc' lv' st' S' h' o') : am_G p l e R s m args below meth c Q n0 old D cA mi c0 z0 g pc lv st S h o := by
  intro H locs ls hP hS hl hbg hc0 hz0
  obtain ⟨hx, hb, hml, hown, hts, hr, hlk, hnm, htab⟩ := B
  obtain ⟨i, n, hd, rfl, hi⟩ := am_okE_spec ok (by decide)
  simp only [am_okI] at hi
  simp only [am_step] at hs
  simp only [Option.some.injEq, Sum.inl.injEq, Prod.mk.injEq] at hs
  obtain ⟨rfl, rfl, rfl, rfl, rfl, rfl⟩ := hs
  have k := kk H locs ls hP hS hl hbg hc0 hz0
  split at hi
  · simp only [Bool.and_eq_true, decide_eq_true_eq] at hi
    obtain ⟨hi, rfl⟩ := hi
    exact lv_goto hx hb hd hi k
  · cases hi
theorem am_s28 (B : am_B p s m args meth c mi) (ok : am_okE mi pc (28, a, b, c', v) = true) (hs : am_step L xs 28 a b c' v lv st S h o g = some (.inl (pc', lv', st', S', h', o')))
    (kk : am_G p l e R s m args below meth c Q n0 old D cA mi c0 z0 g pc' lv' st' S' h' o') : am_G p l e R s m args below meth c Q n0 old D cA mi c0 z0 g pc lv st S h o := by
  intro H locs ls hP hS hl hbg hc0 hz0
  obtain ⟨hx, hb, hml, hown, hts, hr, hlk, hnm, htab⟩ := B
  obtain ⟨i, n, hd, rfl, hi⟩ := am_okE_spec ok (by decide)
  simp only [am_okI] at hi
  simp only [am_step] at hs
  split at hs
  · rename_i w r
    split at hs
    · rename_i hg
      simp only [Option.some.injEq, Sum.inl.injEq, Prod.mk.injEq] at hs
      obtain ⟨rfl, rfl, rfl, rfl, rfl, rfl⟩ := hs
      have k := kk H locs ls hP hS hl hbg hc0 hz0
      simp only [Bool.and_eq_true, decide_eq_true_eq] at hi
      obtain ⟨rfl, rfl⟩ := hi
      exact lv_dup hx hb hd (by rw [am_v_cat]; exact hg) k
    · cases hs
  · cases hs
theorem am_s29 (B : am_B p s m args meth c mi) (ok : am_okE mi pc (29, a, b, c', v) = true) (hs : am_step L xs 29 a b c' v lv st S h o g = some (.inl (pc', lv', st', S', h', o')))
    (kk : am_G p l e R s m args below meth c Q n0 old D cA mi c0 z0 g pc' lv' st' S' h' o') : am_G p l e R s m args below meth c Q n0 old D cA mi c0 z0 g pc lv st S h o := by
  intro H locs ls hP hS hl hbg hc0 hz0
  obtain ⟨hx, hb, hml, hown, hts, hr, hlk, hnm, htab⟩ := B
  obtain ⟨i, n, hd, rfl, hi⟩ := am_okE_spec ok (by decide)
  simp only [am_okI] at hi
  simp only [am_step] at hs
  split at hs
  · rename_i w u r
    split at hs
    · rename_i hg
      simp only [Option.some.injEq, Sum.inl.injEq, Prod.mk.injEq] at hs
      obtain ⟨rfl, rfl, rfl, rfl, rfl, rfl⟩ := hs
      have k := kk H locs ls hP hS hl hbg hc0 hz0
      simp only [Bool.and_eq_true, decide_eq_true_eq] at hi
      obtain ⟨rfl, rfl⟩ := hi
      exact lv_dup2_11 hx hb hd (by rw [am_v_cat]; exact hg.1) (by rw [am_v_cat]; exact hg.2) k
    · cases hs
  · cases hs
theorem am_s30 (B : am_B p s m args meth c mi) (ok : am_okE mi pc (30, a, b, c', v) = true) (hs : am_step L xs 30 a b c' v lv st S h o g = some (.inl (pc', lv', st', S', h', o')))
    (kk : am_G p l e R s m args below meth c Q n0 old D cA mi c0 z0 g pc' lv' st' S' h' o') : am_G p l e R s m args below meth c Q n0 old D cA mi c0 z0 g pc lv st S h o := by
  intro H locs ls hP hS hl hbg hc0 hz0
  obtain ⟨hx, hb, hml, hown, hts, hr, hlk, hnm, htab⟩ := B
  obtain ⟨i, n, hd, rfl, hi⟩ := am_okE_spec ok (by decide)
  simp only [am_okI] at hi
  simp only [am_step] at hs
  split at hs
  · rename_i w r
    split at hs
    · rename_i hg
      simp only [Option.some.injEq, Sum.inl.injEq, Prod.mk.injEq] at hs
      obtain ⟨rfl, rfl, rfl, rfl, rfl, rfl⟩ := hs
      have k := kk H locs ls hP hS hl hbg hc0 hz0
      simp only [Bool.and_eq_true, decide_eq_true_eq] at hi
      obtain ⟨rfl, rfl⟩ := hi
      exact lv_pop hx hb hd (by rw [am_v_cat]; exact hg) k
    · cases hs
  · cases hs
theorem am_s31 (B : am_B p s m args meth c mi) (ok : am_okE mi pc (31, a, b, c', v) = true) (hs : am_step L xs 31 a b c' v lv st S h o g = some (.inl (pc', lv', st', S', h', o')))
    (kk : am_G p l e R s m args below meth c Q n0 old D cA mi c0 z0 g pc' lv' st' S' h' o') : am_G p l e R s m args below meth c Q n0 old D cA mi c0 z0 g pc lv st S h o := by
  intro H locs ls hP hS hl hbg hc0 hz0
  obtain ⟨hx, hb, hml, hown, hts, hr, hlk, hnm, htab⟩ := B
  obtain ⟨i, n, hd, rfl, hi⟩ := am_okE_spec ok (by decide)
  simp only [am_okI] at hi
  simp only [am_step] at hs
  simp only [Option.some.injEq, Sum.inl.injEq, Prod.mk.injEq] at hs
  obtain ⟨rfl, rfl, rfl, rfl, rfl, rfl⟩ := hs
  have k := kk H locs ls hP hS hl hbg hc0 hz0
  split at hi
  · simp only [Bool.and_eq_true, decide_eq_true_eq] at hi
    obtain ⟨hi, rfl⟩ := hi
    exact lv_lconst hx hb hd (by rw [hi]) k
  · cases hi
theorem am_s32 (B : am_B p s m args meth c mi) (ok : am_okE mi pc (32, a, b, c', v) = true) (hs : am_step L xs 32 a b c' v lv st S h o g = some (.inl (pc', lv', st', S', h', o')))
    (kk : am_G p l e R s m args below meth c Q n0 old D cA mi c0 z0 g pc' lv' st' S' h' o') : am_G p l e R s m args below meth c Q n0 old D cA mi c0 z0 g pc lv st S h o := by
  intro H locs ls hP hS hl hbg hc0 hz0
  obtain ⟨hx, hb, hml, hown, hts, hr, hlk, hnm, htab⟩ := B
  obtain ⟨i, n, hd, rfl, hi⟩ := am_okE_spec ok (by decide)
  simp only [am_okI] at hi
  simp only [am_step] at hs
  split at hs
  · rename_i x r
    simp only [Option.some.injEq, Sum.inl.injEq, Prod.mk.injEq] at hs
    obtain ⟨rfl, rfl, rfl, rfl, rfl, rfl⟩ := hs
    have k := kk H locs ls hP hS hl hbg hc0 hz0
    simp only [Bool.and_eq_true, decide_eq_true_eq] at hi
    obtain ⟨rfl, rfl⟩ := hi
    exact lv_i2l hx hb hd rfl k
  · cases hs
theorem am_s33 (B : am_B p s m args meth c mi) (ok : am_okE mi pc (33, a, b, c', v) = true) (hs : am_step L xs 33 a b c' v lv st S h o g = some (.inl (pc', lv', st', S', h', o')))
    (kk : am_G p l e R s m args below meth c Q n0 old D cA mi c0 z0 g pc' lv' st' S' h' o') : am_G p l e R s m args below meth c Q n0 old D cA mi c0 z0 g pc lv st S h o := by
  intro H locs ls hP hS hl hbg hc0 hz0
  obtain ⟨hx, hb, hml, hown, hts, hr, hlk, hnm, htab⟩ := B
  obtain ⟨i, n, hd, rfl, hi⟩ := am_okE_spec ok (by decide)
  simp only [am_okI] at hi
  simp only [am_step] at hs
  split at hs
  · rename_i y x r
    simp only [Option.some.injEq, Sum.inl.injEq, Prod.mk.injEq] at hs
    obtain ⟨rfl, rfl, rfl, rfl, rfl, rfl⟩ := hs
    have k := kk H locs ls hP hS hl hbg hc0 hz0
    simp only [Bool.and_eq_true, decide_eq_true_eq] at hi
    obtain ⟨rfl, rfl⟩ := hi
    exact lv_lshl hx hb hd rfl k
  · cases hs
theorem am_s34 (B : am_B p s m args meth c mi) (ok : am_okE mi pc (34, a, b, c', v) = true) (hs : am_step L xs 34 a b c' v lv st S h o g = some (.inl (pc', lv', st', S', h', o')))
    (kk : am_G p l e R s m args below meth c Q n0 old D cA mi c0 z0 g pc' lv' st' S' h' o') : am_G p l e R s m args below meth c Q n0 old D cA mi c0 z0 g pc lv st S h o := by
  intro H locs ls hP hS hl hbg hc0 hz0
  obtain ⟨hx, hb, hml, hown, hts, hr, hlk, hnm, htab⟩ := B
  obtain ⟨i, n, hd, rfl, hi⟩ := am_okE_spec ok (by decide)
  simp only [am_okI] at hi
  simp only [am_step] at hs
  split at hs
  · rename_i y x r
    simp only [Option.some.injEq, Sum.inl.injEq, Prod.mk.injEq] at hs
    obtain ⟨rfl, rfl, rfl, rfl, rfl, rfl⟩ := hs
    have k := kk H locs ls hP hS hl hbg hc0 hz0
    simp only [Bool.and_eq_true, decide_eq_true_eq] at hi
    obtain ⟨rfl, rfl⟩ := hi
    exact W.lcmp hx hb hd k
  · cases hs
theorem am_s35 (B : am_B p s m args meth c mi) (ok : am_okE mi pc (35, a, b, c', v) = true) (hs : am_step L xs 35 a b c' v lv st S h o g = some (.inl (pc', lv', st', S', h', o')))
    (kk : am_G p l e R s m args below meth c Q n0 old D cA mi c0 z0 g pc' lv' st' S' h' o') : am_G p l e R s m args below meth c Q n0 old D cA mi c0 z0 g pc lv st S h o := by
  intro H locs ls hP hS hl hbg hc0 hz0
  obtain ⟨hx, hb, hml, hown, hts, hr, hlk, hnm, htab⟩ := B
  obtain ⟨i, n, hd, rfl, hi⟩ := am_okE_spec ok (by decide)
  simp only [am_okI] at hi
  simp only [am_step] at hs
  split at hs
  · rename_i x r
    simp only [Option.some.injEq, Sum.inl.injEq, Prod.mk.injEq] at hs
    obtain ⟨rfl, rfl, rfl, rfl, rfl, rfl⟩ := hs
    have k := kk H locs ls hP hS hl hbg hc0 hz0
    simp only [Bool.and_eq_true, decide_eq_true_eq] at hi
    obtain ⟨rfl, rfl⟩ := hi
    exact lv_i2b hx hb hd rfl k
  · cases hs
theorem am_s52 (B : am_B p s m args meth c mi) (ok : am_okE mi pc (52, a, b, c', v) = true) (hs : am_step L xs 52 a b c' v lv st S h o g = some (.inl (pc', lv', st', S', h', o')))
    (kk : am_G p l e R s m args below meth c Q n0 old D cA mi c0 z0 g pc' lv' st' S' h' o') : am_G p l e R s m args below meth c Q n0 old D cA mi c0 z0 g pc lv st S h o := by
  intro H locs ls hP hS hl hbg hc0 hz0
  obtain ⟨hx, hb, hml, hown, hts, hr, hlk, hnm, htab⟩ := B
  obtain ⟨i, n, hd, rfl, hi⟩ := am_okE_spec ok (by decide)
  simp only [am_okI] at hi
  simp only [am_step] at hs
  split at hs
  · rename_i x r
    split at hi
    · rename_i d lo hi2 offs
      simp only [Bool.and_eq_true, decide_eq_true_eq] at hi
      obtain ⟨rfl, rfl, hdf, hof⟩ := hi
      split at hs
      · rename_i hout
        simp only [Option.some.injEq, Sum.inl.injEq, Prod.mk.injEq] at hs
        obtain ⟨rfl, rfl, rfl, rfl, rfl, rfl⟩ := hs
        have k := kk H locs ls hP hS hl hbg hc0 hz0
        exact lv_tableOut hx hb hd hout hdf k
      · rename_i hin
        split at hs
        · rename_i t ht
          simp only [Option.some.injEq, Sum.inl.injEq, Prod.mk.injEq] at hs
          obtain ⟨rfl, rfl, rfl, rfl, rfl, rfl⟩ := hs
          have k := kk H locs ls hP hS hl hbg hc0 hz0
          have h1 := congrArg (fun q : List Int => q[(x.toInt - (am_sw a).1).toNat]?) hof
          simp only [List.getElem?_map, ht, Option.map_some] at h1
          cases ho : offs.toList[(x.toInt - (am_sw a).1).toNat]? with
          | none => rw [ho] at h1; cases h1
          | some f =>
            rw [ho] at h1
            simp only [Option.map_some, Option.some.injEq] at h1
            exact lv_tableIn hx hb hd (fun w => hin (Or.inl w)) (fun w => hin (Or.inr w)) (by rw [← Array.getElem?_toList]; exact ho) h1 k
        · cases hs
    · cases hi
  · cases hs
end AMS
