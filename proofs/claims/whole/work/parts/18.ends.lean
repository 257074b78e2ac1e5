/-! ===== all steps; returns and throws ===== -/
abbrev am_xn : List String := ["java/lang/RuntimeException", "java/lang/Exception"]
set_option maxRecDepth 100000 in
theorem am_x0 : ((am_oa.filter vx_no).all fun w => if goodWord w then decide (w ∈ lw_tbl) else decide (w ∈ am_nw)) = true := by decide +kernel
set_option maxRecDepth 100000 in
theorem am_x1 : ((vx_atS "SoundHarbour" 82 am_IAE am_xn).all fun w => if goodWord w then decide (w ∈ lw_tbl) else decide (w ∈ am_nw)) = true := by decide +kernel
set_option maxRecDepth 100000 in
theorem am_x2 : (([.classLink "SoundHarbour" 127 am_NSE, .initialized am_NSE, .classLink "SoundHarbour" 78 am_IAE, .initialized am_IAE] : List Cond).all fun w => decide (w ∈ lw_tbl) && goodWord w) = true := by decide +kernel
theorem am_x2i (k : Nat) {w : Cond} (hk : ([.classLink "SoundHarbour" 127 am_NSE, .initialized am_NSE, .classLink "SoundHarbour" 78 am_IAE, .initialized am_IAE] : List Cond)[k]? = some w) : w ∈ am_W := am_in_of am_x2 w (List.mem_of_getElem? hk)
set_option maxRecDepth 100000 in
theorem am_x3 : ((Cond.classLink "SoundHarbour" 127 am_NSE :: Cond.initialized am_NSE :: am_oa.filter vx_no).all vx_ot) = true := by decide +kernel
set_option maxRecDepth 100000 in
theorem am_x4 : ((Cond.classLink "SoundHarbour" 78 am_IAE :: Cond.initialized am_IAE :: vx_atS "SoundHarbour" 82 am_IAE am_xn).all vx_ot) = true := by decide +kernel
theorem am_hat {args : Array Value} {s : State} {L : List Cond} (h : (L.all fun w => if goodWord w then decide (w ∈ lw_tbl) else decide (w ∈ am_nw)) = true) (ho : ∀ w ∈ L, vx_ot w = true) (hts : ∀ w ∈ am_W, w.before args s = true) (hn : ∀ w ∈ am_nw, va_Nw w s) : ∀ w ∈ L, w.before args s = true := by
  intro w hw
  have h1 := List.all_eq_true.mp h w hw
  have h2 := ho w hw
  by_cases hg : goodWord w = true
  · rw [if_pos hg] at h1
    exact hts w (List.mem_filter.mpr ⟨of_decide_eq_true h1, hg⟩)
  · rw [if_neg hg] at h1
    have h3 : w.onTables = true := by
      simp only [vx_ot, Bool.or_eq_true] at h2
      exact h2.resolve_right hg
    exact va_Nw.use h3 (hn w (of_decide_eq_true h1))
/-- a method's end -/
def am_Qc (n0 : Nat) (old : Nat → Nat) (D : va_G) (cA : Nat → ClassId) (out : am_O) (S : am_S) (h : am_M) (o : am_L) : Array Value → State → Outcome → State → Prop := fun _ st oc t => (∃ w : Option Value, out = .inr w ∧ oc = .returned (w.map (am_v (am_r n0 old)))) ∧ va_P D am_cl (am_ws (am_r n0 old) cA S h o) t.heap ∧ va_F (am_A n0) st t
def am_XC (n0 : Nat) (old : Nat → Nat) (D : va_G) (cA : Nat → ClassId) (out : am_O) (S : am_S) (h : am_M) (o : am_L) : String → State → State → Prop := fun E st t => (∃ k : Nat, out = .inl k ∧ E = am_exc k ∧ k < 2) ∧ va_P D am_cl (am_ws (am_r n0 old) cA S h o) t.heap ∧ va_F (am_A n0) st t
section AME
variable {p : Program} {l : Launch} {e : Env} {R : Room} {s : State} {m : MethodId} {args : Array Value} {below : List Frame} {meth : Method} {c : Code} {Q : State → Prop} {n0 : Nat} {old : Nat → Nat} {D : va_G} {cA : Nat → ClassId} {L : Nat} {xs : Nat → Int32} {mi c0 z0 g pc pc' : Nat} {lv lv' : am_V} {st st' : List Value} {S S' : am_S} {h h' : am_M} {o o' : am_L} {op a b c' : Nat} {v : Int32}
theorem am_stepG (B : am_B p s m args meth c mi) (K : am_K n0 old D cA L xs s) (hsz : g = 0 → s.heap.size = n0 + c0) (hRf : 10 ≤ R.frames) (hRl : 200 ≤ R.locals) (hRc : am_ct S' g - c0 ≤ R.cells) (hRs : am_sz S' g - z0 ≤ R.slots) (ok : am_okE mi pc (op, a, b, c', v) = true) (hs : am_step L xs op a b c' v lv st S h o g = some (.inl (pc', lv', st', S', h', o')))
    (kk : am_G p l e R s m args below meth c Q n0 old D cA mi c0 z0 g pc' lv' st' S' h' o') : am_G p l e R s m args below meth c Q n0 old D cA mi c0 z0 g pc lv st S h o := by
  have hmono := am_step_mono hs
  have hRc0 : am_ct S g - c0 ≤ R.cells := by simp only [am_ct] at hRc ⊢; omega
  have hRs0 : am_sz S g - z0 ≤ R.slots := by simp only [am_sz] at hRs ⊢; omega
  match op, ok, hs with
  | 0, ok, hs => exact am_s0 B ok hs kk
  | 1, ok, hs => exact am_s1 B ok hs kk
  | 2, ok, hs => exact am_s2 B ok hs kk
  | 3, ok, hs => exact am_s3 B ok hs kk
  | 4, ok, hs => exact am_s4 B ok hs kk
  | 5, ok, hs => exact am_s5 B ok hs kk
  | 6, ok, hs => exact am_s6 B ok hs kk
  | 7, ok, hs => exact am_s7 B ok hs kk
  | 8, ok, hs => exact am_s8 B ok hs kk
  | 9, ok, hs => exact am_s9 B ok hs kk
  | 10, ok, hs => exact am_s10 B ok hs kk
  | 11, ok, hs => exact am_s11 B ok hs kk
  | 12, ok, hs => exact am_s12 B ok hs kk
  | 13, ok, hs => exact am_s13 B K ok hs kk
  | 14, ok, hs => exact am_s14 B K ok hs kk
  | 15, ok, hs => exact am_s15 B K ok hs kk
  | 16, ok, hs =>
    have hm0 : mi ≠ 0 := by
      rintro rfl
      obtain ⟨i, n, hd, -, hi⟩ := am_okE_spec ok (by decide)
      simp only [am_okI] at hi
      split at hi
      · simp only [Bool.and_eq_true, decide_eq_true_eq] at hi
        exact absurd hi.2.2.2.2.1 (by decide +kernel)
      · cases hi
    exact am_s16 B hm0 K ok hs kk
  | 17, ok, hs => exact am_s17 B K ok hs kk
  | 18, ok, hs => exact am_s18 B K ok hs kk
  | 20, ok, hs => exact am_s20 B K ok hs kk
  | 21, ok, hs => exact am_s21 B K ok hs kk
  | 22, ok, hs => exact am_s22 B K ok hs kk
  | 23, ok, hs => exact am_s23 B K ok hs kk
  | 25, ok, hs => exact am_s25 B K ok hs kk
  | 26, ok, hs => exact am_s26 B K ok hs kk
  | 27, ok, hs => exact am_s27 B K ok hs kk
  | 28, ok, hs => exact am_s28 B ok hs kk
  | 29, ok, hs => exact am_s29 B ok hs kk
  | 30, ok, hs => exact am_s30 B ok hs kk
  | 31, ok, hs => exact am_s31 B ok hs kk
  | 32, ok, hs => exact am_s32 B ok hs kk
  | 33, ok, hs => exact am_s33 B ok hs kk
  | 34, ok, hs => exact am_s34 B ok hs kk
  | 35, ok, hs => exact am_s35 B ok hs kk
  | 37, ok, hs => exact am_s37 B K hsz hRc hRs ok hs kk
  | 38, ok, hs => exact am_s38 B K hsz hRc hRs ok hs kk
  | 39, ok, hs => exact am_s39 B K hsz hRc hRs ok hs kk
  | 40, ok, hs => exact am_s40 B K hsz hRc hRs ok hs kk
  | 46, ok, hs => exact am_s46 B K ok hs kk
  | 47, ok, hs => exact am_s47 B K hRf hRl hRc0 hRs0 ok hs kk
  | 48, ok, hs => exact am_s48 B K hRf hRl ok hs kk
  | 49, ok, hs => exact am_s49 B K hRf hRl hRc0 hRs0 ok hs kk
  | 50, ok, hs => exact am_s50 B K hRf hRl hRc0 hRs0 ok hs kk
  | 51, ok, hs => exact am_s51 B K hRf hRl ok hs kk
  | 52, ok, hs => exact am_s52 B ok hs kk
  | 19, ok, hs => cases hs
  | 24, ok, hs => cases hs
  | 36, ok, hs => simp only [am_step] at hs; split at hs <;> cases hs
  | 41, ok, hs => simp only [am_step] at hs; split at hs <;> cases hs
  | 42, ok, hs =>
    simp only [am_step] at hs
    split at hs
    · split at hs <;> cases hs
    · cases hs
  | 43, ok, hs => simp only [am_step] at hs; split at hs <;> cases hs
  | 44, ok, hs => simp only [am_step] at hs; split at hs <;> cases hs
  | 45, ok, hs => simp only [am_step] at hs; split at hs <;> cases hs
  | 53, ok, hs => simp only [am_step] at hs; split at hs <;> cases hs
  | op + 54, ok, hs => cases hs
end AME
