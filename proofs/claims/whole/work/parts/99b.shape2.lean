/-! ===== the heap behind the constructors ===== -/
def wfC (c : am_C) : Prop := ∀ (t n : Nat) (f : Nat → Option Nat), c = .inr (.inl (t, n, f)) → ∀ j, n ≤ j → f j = none
def wfS (S : am_S) : Prop := ∀ (k : Nat) (c : am_C), S[k]? = some c → wfC c
theorem wfC.n {t n : Nat} : wfC (.inl (t, n)) := fun _ _ _ e => by cases e
theorem wfC.o {ci : Nat} {fl : List (Option Value)} : wfC (.inr (.inr (ci, fl))) := fun _ _ _ e => by cases e
theorem wfC.f {t n : Nat} {f : Nat → Option Nat} (h : ∀ j, n ≤ j → f j = none) : wfC (.inr (.inl (t, n, f))) := fun _ _ _ e => by cases e; exact h
theorem wfS.app {S l : am_S} (h : wfS S) (hl : wfS l) : wfS (S ++ l) := fun k c hc => by
  by_cases hk : k < S.length
  · rw [List.getElem?_append_left hk] at hc; exact h k c hc
  · rw [List.getElem?_append_right (by omega)] at hc; exact hl _ c hc
theorem wfS.one {c : am_C} (h : wfC c) : wfS [c] := fun k c' hc => by
  match k, hc with
  | 0, hc => cases hc; exact h
  | k + 1, hc => simp at hc
theorem wfS.set {S : am_S} {k : Nat} {c : am_C} (h : wfS S) (hc : wfC c) : wfS (S.set k c) := fun j c' hj => by
  by_cases e : k = j
  · subst e
    rw [List.getElem?_set] at hj
    rw [if_pos rfl] at hj
    split at hj
    · cases hj; exact hc
    · cases hj
  · rw [List.getElem?_set_ne e] at hj
    exact h j c' hj
theorem wfS.cons {c : am_C} {l : am_S} (h : wfC c) (hl : wfS l) : wfS (c :: l) := fun k c' hc => by
  match k, hc with
  | 0, hc => cases hc; exact h
  | k + 1, hc => exact hl k c' hc
theorem wfS.setF {S : am_S} {k n y : Nat} {i : Int32} {f : Nat → Option Nat} (h : wfS S) (hk : S[k]? = some (.inr (.inl (5, n, f)))) (hi : ¬ (i < 0 ∨ n ≤ i.toNatClampNeg ∨ am_big ≤ k ∨ y < am_big ∨ am_big + 22 ≤ y)) : wfS (S.set k (.inr (.inl (5, n, va_up f i.toNatClampNeg (some y))))) := by
  refine h.set (.f fun j hj => ?_)
  have h1 := h k _ hk 5 n f rfl j hj
  have : ¬ j = i.toNatClampNeg := by intro e; exact hi (.inr (.inl (by omega)))
  show (if j = i.toNatClampNeg then some y else f j) = none
  rw [if_neg this]
  exact h1
theorem wf_rep {k : Nat} : wfS (.inr (.inl (4, 5, fun j => if j < 5 then some (k + 1 + j) else none)) :: List.replicate 5 (.inl (0, 15))) := by
  refine wfS.cons (.f fun j hj => if_neg (by omega)) fun k c hc => ?_
  have := List.mem_of_getElem? hc
  rw [List.mem_replicate] at this
  rw [this.2]
  exact .n
theorem wf_step {L : Nat} {xs : Nat → Int32} {op a b c : Nat} {v : Int32} {lv lv' : am_V} {st st' : List Value} {S S' : am_S} {h h' : am_M} {o o' : am_L} {g pc' : Nat} (hs : am_step L xs op a b c v lv st S h o g = some (.inl (pc', lv', st', S', h', o'))) (hw : wfS S) : wfS S' := by
  unfold am_step at hs
  repeat' split at hs
  all_goals first
    | (cases hs; done)
    | (simp only [Option.some.injEq, Sum.inl.injEq, Prod.mk.injEq] at hs; obtain ⟨-, -, -, rfl, -, -⟩ := hs; exact hw)
    | (simp only [Option.some.injEq, Sum.inl.injEq, Prod.mk.injEq] at hs; obtain ⟨-, -, -, rfl, -, -⟩ := hs; exact hw.set .o)
    | (simp only [Option.some.injEq, Sum.inl.injEq, Prod.mk.injEq] at hs; obtain ⟨-, -, -, rfl, -, -⟩ := hs; exact hw.app (.one .o))
    | (simp only [Option.some.injEq, Sum.inl.injEq, Prod.mk.injEq] at hs; obtain ⟨-, -, -, rfl, -, -⟩ := hs; exact hw.app (.one .n))
    | (simp only [Option.some.injEq, Sum.inl.injEq, Prod.mk.injEq] at hs; obtain ⟨-, -, -, rfl, -, -⟩ := hs; exact hw.app (.one (.f fun _ _ => rfl)))
    | (simp only [Option.some.injEq, Sum.inl.injEq, Prod.mk.injEq] at hs; obtain ⟨-, -, -, rfl, -, -⟩ := hs; exact hw.app wf_rep)
    | (simp only [Option.some.injEq, Sum.inl.injEq, Prod.mk.injEq] at hs; obtain ⟨-, -, -, rfl, -, -⟩ := hs; exact hw.setF (by assumption) (by assumption))
theorem wf_run {L : Nat} {xs : Nat → Int32} : ∀ (n : Nat) {d mi pc : Nat} {lv : am_V} {st : List Value} {S : am_S} {h : am_M} {o : am_L} {g : Nat} {out : am_O} {S' : am_S} {h' : am_M} {o' : am_L} {g' : Nat}, am_run L xs n d mi pc lv st S h o g = some (out, S', h', o', g') → wfS S → wfS S' := by
  intro n
  induction n with
  | zero => intro d mi pc lv st S h o g out S' h' o' g' hr; simp only [am_run] at hr; cases hr
  | succ n ih =>
    intro d mi pc lv st S h o g out S' h' o' g' hr hw
    simp only [am_run] at hr
    split at hr
    · cases hr
    · split at hr
      · cases hr
      · rename_i hs
        exact ih hr (wf_step hs hw)
      · split at hr
        · cases hr
        · split at hr
          · cases hr
          · rename_i hc
            exact ih hr (ih hc hw)
          · rename_i hc
            split at hr
            · cases hr
            · split at hr
              · cases hr
                exact ih hc hw
              · exact ih hr (ih hc hw)
      · cases hr
        exact hw
      · cases hr
        exact hw
theorem wf_to : ∀ (n : Nat) {d pc : Nat} {lv lv' : am_V} {st st' : List Value} {S S' : am_S} {h h' : am_M} {o o' : am_L}, am_to n d pc lv st S h o = some (lv', st', S', h', o') → wfS S → wfS S' := by
  intro n
  induction n with
  | zero => intro d pc lv lv' st st' S S' h h' o o' H; simp only [am_to] at H; cases H
  | succ n ih =>
    intro d pc lv lv' st st' S S' h h' o o' H hw
    rw [am_to] at H
    cases hpc : Nat.beq pc 23 with
    | true => rw [hpc, cond_true] at H; cases H; exact hw
    | false =>
      rw [hpc, cond_false] at H
      cases hp : am_P 0 pc with
      | none => rw [hp] at H; cases H
      | some e =>
        obtain ⟨op, a, b, c, v⟩ := e
        rw [hp] at H
        simp only at H
        cases h17 : (Nat.beq op 17 || Nat.beq op 27) with
        | true => rw [h17, cond_true] at H; cases H
        | false =>
          rw [h17, cond_false] at H
          cases hs : am_step 0 (fun _ => 0) op a b c v lv st S h o 0 with
          | none => rw [hs] at H; cases H
          | some q =>
            rw [hs] at H
            rcases q with ⟨pc1, lv1, st1, S1, h1, o1⟩ | ⟨mj, as, r'⟩ | w | E
            · exact ih H (wf_step hs hw)
            · simp only at H
              cases d with
              | zero => cases H
              | succ d' =>
                simp only at H
                cases hz : zi_c mj with
                | false => rw [hz, cond_false] at H; cases H
                | true =>
                  rw [hz, cond_true] at H
                  cases hc : am_run 0 (fun _ => 0) n d' mj 0 (am_ent as (am_ml mj)) [] S h o 0 with
                  | none => rw [hc] at H; cases H
                  | some q =>
                    rw [hc] at H
                    obtain ⟨q, S1, h1, o1, g1⟩ := q
                    cases q with
                    | inl E => cases H
                    | inr w =>
                      cases g1 with
                      | succ g1 => cases H
                      | zero => exact ih H (wf_run n hc hw)
            · cases H
            · cases H
def eqV : Option Value → Option Value → Bool
  | none, none => true
  | some (.ref a), some (.ref b) => Nat.beq a b
  | some (.int a), some (.int b) => decide (a = b)
  | _, _ => false
def eqL : List (Option Value) → List (Option Value) → Bool
  | [], [] => true
  | a :: l, b :: m => eqV a b && eqL l m
  | _, _ => false
def eqO : Option Nat → Option Nat → Bool
  | none, none => true
  | some a, some b => Nat.beq a b
  | _, _ => false
def eqC : am_C → am_C → Bool
  | .inl (t, n), .inl (t', n') => Nat.beq t t' && Nat.beq n n'
  | .inr (.inl (t, n, f)), .inr (.inl (t', n', f')) => (Nat.beq t t' && Nat.beq n n') && (List.range n).all fun j => eqO (f j) (f' j)
  | .inr (.inr (c, fl)), .inr (.inr (c', fl')) => Nat.beq c c' && eqL fl fl'
  | _, _ => false
def eqS : am_S → am_S → Bool
  | [], [] => true
  | a :: l, b :: m => eqC a b && eqS l m
  | _, _ => false
theorem eqV_ok : ∀ {a b : Option Value}, eqV a b = true → a = b := by
  intro a b h
  unfold eqV at h
  split at h
  · rfl
  · rw [Nat.eq_of_beq_eq_true h]
  · rw [of_decide_eq_true h]
  · cases h
theorem eqL_ok : ∀ {a b : List (Option Value)}, eqL a b = true → a = b
  | [], [], _ => rfl
  | a :: l, b :: m, h => by
    simp only [eqL, Bool.and_eq_true] at h
    rw [eqV_ok h.1, eqL_ok h.2]
  | [], _ :: _, h => by simp [eqL] at h
  | _ :: _, [], h => by simp [eqL] at h
theorem eqO_ok : ∀ {a b : Option Nat}, eqO a b = true → a = b := by
  intro a b h
  unfold eqO at h
  split at h
  · rfl
  · rw [Nat.eq_of_beq_eq_true h]
  · cases h
theorem eqC_ok {a b : am_C} (h : eqC a b = true) (ha : wfC a) (hb : wfC b) : a = b := by
  unfold eqC at h
  split at h
  · rw [Bool.and_eq_true] at h
    rw [Nat.eq_of_beq_eq_true h.1, Nat.eq_of_beq_eq_true h.2]
  · rename_i t n f t' n' f'
    simp only [Bool.and_eq_true] at h
    have e1 := Nat.eq_of_beq_eq_true h.1.1
    have e2 := Nat.eq_of_beq_eq_true h.1.2
    subst e1 e2
    have : f = f' := by
      funext j
      by_cases hj : j < n
      · exact eqO_ok (List.all_eq_true.mp h.2 j (List.mem_range.mpr hj))
      · rw [ha _ _ _ rfl j (by omega), hb _ _ _ rfl j (by omega)]
    rw [this]
  · rw [Bool.and_eq_true] at h
    rw [Nat.eq_of_beq_eq_true h.1, eqL_ok h.2]
  · cases h
theorem eqS_ok : ∀ {a b : am_S}, eqS a b = true → wfS a → wfS b → a = b
  | [], [], _, _, _ => rfl
  | a :: l, b :: m, h, ha, hb => by
    simp only [eqS, Bool.and_eq_true] at h
    rw [eqC_ok h.1 (ha 0 a rfl) (hb 0 b rfl), eqS_ok h.2 (fun k c hc => ha (k + 1) c hc) (fun k c hc => hb (k + 1) c hc)]
  | [], _ :: _, h, _, _ => by simp [eqS] at h
  | _ :: _, [], h, _, _ => by simp [eqS] at h
theorem wf_nil : wfS [] := fun k c hc => by simp at hc
theorem am_f49_o : ∀ j, 5 ≤ j → am_f49 j = none := fun j hj => if_neg (by omega)
theorem am_f65_o : ∀ j, 3 ≤ j → am_f65 j = none := fun j hj => by
  show (if j = 2 then _ else if j = 1 then _ else if j = 0 then _ else _) = none
  rw [if_neg (by omega), if_neg (by omega), if_neg (by omega)]
theorem am_f66_o : ∀ j, 4 ≤ j → am_f66 j = none := fun j hj => by
  show (if j = 3 then _ else if j = 2 then _ else if j = 1 then _ else if j = 0 then _ else _) = none
  rw [if_neg (by omega), if_neg (by omega), if_neg (by omega), if_neg (by omega)]
theorem wf_C0 : wfS am_C0 := .cons .o (.cons .o (.cons .n (.cons .o (.cons .n (.cons .n (.cons .n (.cons .n (.cons .n (.cons .n (.cons .n (.cons .n (.cons .n (.cons .o (.cons .n (.cons .n (.cons .n (.cons .n (.cons .n (.cons .n (.cons .n (.cons .n (.cons .n (.cons .o (.cons .n (.cons .n (.cons .n (.cons .n (.cons .n (.cons .n (.cons .n (.cons .n (.cons .n (.cons .n (.cons .o (.cons .n (.cons .n (.cons .n (.cons .n (.cons .n (.cons .n (.cons .n (.cons .n (.cons .n (.cons .n (.cons .o (.cons .n (.cons .n (.cons .n (.cons (.f am_f49_o) (.cons .n (.cons .n (.cons .n (.cons .n (.cons .n (.cons .n (.cons .n (.cons .n (.cons .n (.cons .o (.cons .n (.cons .o (.cons .n (.cons .n (.cons .o (.cons (.f am_f65_o) (.cons (.f am_f66_o) (.cons .n (.cons .n (.cons .n (.cons .n (.cons .n (.cons .n (.cons .n (.cons .n (.cons .n (.cons .n (.cons .n (.cons .n (.cons .n (.cons .n (.cons .n (.cons .n (.cons .n (.cons .n (.cons .n (.cons .n (.cons .n (.cons .n (.cons .n (.cons .n (.cons .n (.cons .n (.cons .n (.cons .n (.cons .n (.cons .n (.cons .n (.cons .n (.cons .n (.cons .n (.cons .n (.cons .n (.cons .n (.cons .n (.cons .n (.cons .n (.cons .n (.cons .n (wf_nil)))))))))))))))))))))))))))))))))))))))))))))))))))))))))))))))))))))))))))))))))))))))))))))))))))))))))))))
def ini_F : List (Nat × Nat × Int32) := [(1, 0, 0), (64, 18, 0), (1, 1, (-1)), (64, 27, (-1)), (68, 0, 0), (68, 1, 0), (68, 2, 0), (68, 3, 0), (68, 4, 0), (68, 5, 0), (68, 6, 0), (3, 0, 0), (3, 1, 0), (3, 2, 0), (12, 0, 0), (12, 1, 0), (12, 2, 0), (12, 3, 0), (23, 0, 0), (64, 28, 0), (77, 0, 0), (79, 0, 0), (80, 0, 0), (30, 0, 0), (31, 0, 0), (32, 0, 0), (77, 1, 0), (79, 1, 0), (80, 1, 0), (30, 1, 0), (31, 1, 0), (32, 1, 0), (77, 2, 0), (79, 2, 0), (80, 2, 0), (30, 2, 0), (31, 2, 0), (32, 2, 0), (77, 3, 0), (79, 3, 0), (80, 3, 0), (30, 3, 0), (31, 3, 0), (32, 3, 0), (77, 4, 0), (79, 4, 0), (80, 4, 0), (30, 4, 0), (31, 4, 0), (32, 4, 0), (78, 0, 0), (33, 0, 0), (78, 1, 0), (33, 1, 0), (78, 2, 0), (33, 2, 0), (64, 51, 0), (0, 5, 0), (64, 45, 0), (0, 11, 0), (67, 0, 40), (67, 1, 20), (67, 2, 2), (67, 3, 999)]
def ini : Option (am_V × List Value × am_S × am_M × am_L) := am_to 1000 60 0 [some (.ref am_scr), none, none, none, none, none, none] [] [] (fun _ _ => 0) (fun _ _ => 0)
def ini_b : Bool := match ini with
  | none => false
  | some (lv, st, S, h, _) => (st.isEmpty && eqL lv [some (.ref am_scr), some (.ref 0), some (.ref 64), some (.ref 108), some (.int 0), none, none]) && eqS S am_C0 && ini_F.all fun q => decide (h q.1 q.2.1 = q.2.2)
