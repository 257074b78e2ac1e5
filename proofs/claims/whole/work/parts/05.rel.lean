/-! ===== the abstract heap and the real one ===== -/
/-- where a numbered cell lies: what is made here lies in order from n0 on; what was there before, at old -/
def am_r (n0 : Nat) (old : Nat → Nat) (k : Nat) : Nat := if k < am_big then n0 + k else old k
def am_v (r : Nat → Nat) : Value → Value
  | .ref k => .ref (r k)
  | v => v
theorem am_v_cat (r : Nat → Nat) (v : Value) : (am_v r v).category = v.category := by cases v <;> rfl
theorem am_v_cats (r : Nat → Nat) (l : List Value) : ((l.map (am_v r)).map fun v => v.category).sum = (l.map fun v => v.category).sum := by
  rw [List.map_map]
  congr 1
  apply List.map_congr_left
  intro v _
  exact am_v_cat r v
def am_f (r : Nat → Nat) (h : am_M) (k j : Nat) (f : Option Value) : Value := match f with
  | none => .int (h k j)
  | some v => am_v r v
def am_e (r : Nat → Nat) (cA : Nat → ClassId) (h : am_M) (o : am_L) (k : Nat) (c : am_C) : va_E := match c with
  | .inl (t, n) => if t = 3 then .inl (cA 3, n, .inr (.inl (o k))) else .inl (cA t, n, .inl (h k))
  | .inr (.inl (t, n, f)) => .inl (cA t, n, .inr (.inr (.inr (.inr (fun j => (f j).map r)))))
  | .inr (.inr (ci, fl)) => .inr (ci, fl.mapIdx (am_f r h k))
def am_ws (r : Nat → Nat) (cA : Nat → ClassId) (S : am_S) (h : am_M) (o : am_L) : va_W := S.mapIdx fun k c => (r k, am_e r cA h o k c)
abbrev am_tys (cA : Nat → ClassId) : List (ClassId × FieldType) := [(cA 0, .int), (cA 1, .byte), (cA 2, .boolean), (cA 3, .long), (cA 4, .array .int), (cA 5, .object "java/lang/String")]
abbrev am_A (n0 : Nat) : Nat → Prop := fun q => n0 ≤ q
theorem am_ws_get {r : Nat → Nat} {cA : Nat → ClassId} {S : am_S} {h : am_M} {o : am_L} {k : Nat} {c : am_C} (hk : S[k]? = some c) : (am_ws r cA S h o)[k]? = some (r k, am_e r cA h o k c) := by
  simp [am_ws, hk]
theorem am_ws_len {r : Nat → Nat} {cA : Nat → ClassId} {S : am_S} {h : am_M} {o : am_L} : (am_ws r cA S h o).length = S.length := by simp [am_ws]
theorem am_ws_of {r : Nat → Nat} {cA : Nat → ClassId} {S : am_S} {h : am_M} {o : am_L} {k : Nat} {q : Nat × va_E} (hk : (am_ws r cA S h o)[k]? = some q) : ∃ c, S[k]? = some c ∧ q = (r k, am_e r cA h o k c) := by
  simp only [am_ws, List.getElem?_mapIdx, Option.map_eq_some_iff] at hk
  obtain ⟨c, h1, h2⟩ := hk
  exact ⟨c, h1, h2.symm⟩
theorem am_D {n0 : Nat} {old : Nat → Nat} {cA : Nat → ClassId} {S : am_S} {h : am_M} {o : am_L} (hS : S.length ≤ am_big) : va_D (am_A n0) (am_ws (am_r n0 old) cA S h o) := by
  have key : ∀ (k : Nat) (q : Nat × va_E), (am_ws (am_r n0 old) cA S h o)[k]? = some q → q.1 = n0 + k := by
    intro k q hq
    obtain ⟨c, h1, rfl⟩ := am_ws_of hq
    have hlt := (List.getElem?_eq_some_iff.mp h1).1
    show am_r n0 old k = n0 + k
    rw [am_r, if_pos (by omega)]
  refine ⟨fun i j p q hi hj hpq => ?_, fun k q hq => ?_⟩
  · rw [key i p hi, key j q hj] at hpq
    omega
  · rw [key k q hq]
    exact Nat.le_add_right _ _
/-- cells that aren't changed -/
theorem am_ws_set {r : Nat → Nat} {cA : Nat → ClassId} {S S' : am_S} {h h' : am_M} {o o' : am_L} {k : Nat} {c : am_C} (hS : S' = S.set k c) (hk : k < S.length) (hh : ∀ j, j ≠ k → h' j = h j) (ho : ∀ j, j ≠ k → o' j = o j) :
    am_ws r cA S' h' o' = (am_ws r cA S h o).set k (r k, am_e r cA h' o' k c) := by
  subst hS
  apply List.ext_getElem?
  intro i
  by_cases hik : i = k
  · subst hik
    rw [List.getElem?_set_self (by rw [am_ws_len]; exact hk)]
    exact am_ws_get (List.getElem?_set_self hk)
  · rw [List.getElem?_set_ne (Ne.symm hik)]
    simp only [am_ws, List.getElem?_mapIdx]
    rw [List.getElem?_set_ne (Ne.symm hik)]
    cases hc : S[i]? with
    | none => rfl
    | some x =>
      simp only [Option.map_some]
      congr 2
      obtain ⟨t, n⟩ | ⟨t, n, f⟩ | ⟨ci, fl⟩ := x
      · simp only [am_e, hh i hik, ho i hik]
      · rfl
      · simp only [am_e]
        congr 3
        funext j f
        cases f <;> simp [am_f, hh i hik]
theorem am_ws_push {r : Nat → Nat} {cA : Nat → ClassId} {S : am_S} {h h' : am_M} {o o' : am_L} {c : am_C} (hh : ∀ j, j < S.length → h' j = h j) (ho : ∀ j, j < S.length → o' j = o j) :
    am_ws r cA (S ++ [c]) h' o' = am_ws r cA S h o ++ [(r S.length, am_e r cA h' o' S.length c)] := by
  apply List.ext_getElem?
  intro i
  by_cases hi : i < S.length
  · rw [List.getElem?_append_left (by rw [am_ws_len]; exact hi)]
    simp only [am_ws, List.getElem?_mapIdx]
    rw [List.getElem?_append_left hi]
    cases hc : S[i]? with
    | none => rfl
    | some x =>
      simp only [Option.map_some]
      congr 2
      obtain ⟨t, n⟩ | ⟨t, n, f⟩ | ⟨ci, fl⟩ := x
      · simp only [am_e, hh i hi, ho i hi]
      · rfl
      · simp only [am_e]
        congr 3
        funext j f
        cases f <;> simp [am_f, hh i hi]
  · by_cases hi2 : i = S.length
    · subst hi2
      rw [List.getElem?_append_right (by rw [am_ws_len]; exact Nat.le_refl _), am_ws_len, Nat.sub_self]
      exact am_ws_get (by rw [List.getElem?_append_right (Nat.le_refl _), Nat.sub_self]; rfl)
    · rw [List.getElem?_eq_none (by rw [am_ws_len, List.length_append]; simp; omega), List.getElem?_eq_none (by rw [List.length_append, am_ws_len]; simp; omega)]
/-- the variables -/
def am_l (r : Nat → Nat) (ls : Array Slot) (nL : Nat) (lv : am_V) : Prop := ls.size = nL ∧ lv_wf ls ∧ lv.length = nL ∧ ∀ (i : Nat) (v : Value), lv[i]? = some (some v) → ls[i]? = some (.val (am_v r v))
def am_ps (r : Nat → Nat) (lv : am_V) : List (Nat × Value) := lv.zipIdx.filterMap fun q => q.1.map fun v => (q.2, am_v r v)
theorem am_ps_mem {r : Nat → Nat} {lv : am_V} {q : Nat × Value} : q ∈ am_ps r lv ↔ ∃ v, lv[q.1]? = some (some v) ∧ q.2 = am_v r v := by
  simp only [am_ps, List.mem_filterMap]
  constructor
  · rintro ⟨⟨a, i⟩, h1, h2⟩
    rw [List.mem_zipIdx_iff_getElem?] at h1
    cases a with
    | none => simp at h2
    | some v =>
      simp only [Option.map_some, Option.some.injEq] at h2
      subst h2
      exact ⟨v, h1, rfl⟩
  · rintro ⟨v, h1, h2⟩
    refine ⟨(some v, q.1), ?_, ?_⟩
    · rw [List.mem_zipIdx_iff_getElem?]; exact h1
    · simp only [Option.map_some]; rw [← h2]
theorem am_l.has {r : Nat → Nat} {ls : Array Slot} {nL : Nat} {lv : am_V} (h : am_l r ls nL lv) : lv_has ls nL (am_ps r lv) := by
  refine ⟨h.1, h.2.1, fun q hq => ?_⟩
  obtain ⟨v, h1, h2⟩ := am_ps_mem.mp hq
  rw [h2]
  exact h.2.2.2 q.1 v h1
theorem am_l.st1 {r : Nat → Nat} {ls ls' : Array Slot} {nL : Nat} {lv : am_V} {i : Nat} {v : Value} (h : am_l r ls nL lv) (h' : lv_has ls' nL ((i, am_v r v) :: (am_ps r lv).filter (fun q => !(q.1 == i) && !(q.1 + 1 == i && q.2.category == 2)))) : am_l r ls' nL (am_st1 lv i (some v)) := by
  refine ⟨h'.1, h'.2.1, by simp [am_st1, h.2.2.1], fun j w hj => ?_⟩
  simp only [am_st1, List.getElem?_mapIdx, Option.map_eq_some_iff] at hj
  obtain ⟨q, hq, he⟩ := hj
  by_cases hji : j = i
  · subst hji
    rw [if_pos rfl] at he
    cases he
    exact h'.2.2 (j, _) List.mem_cons_self
  · rw [if_neg hji] at he
    by_cases hj1 : j + 1 = i
    · rw [if_pos hj1] at he
      cases q with
      | none => cases he
      | some u =>
        simp only at he
        by_cases hu : u.category = 2
        · rw [if_pos hu] at he; cases he
        · rw [if_neg hu] at he
          cases he
          refine h'.2.2 (j, am_v r w) (List.mem_cons_of_mem _ (List.mem_filter.mpr ⟨am_ps_mem.mpr ⟨w, hq, rfl⟩, ?_⟩))
          have hcat : ¬ (am_v r w).category = 2 := by rw [am_v_cat]; exact hu
          simp [hji, hcat]
    · rw [if_neg hj1] at he
      subst he
      refine h'.2.2 (j, am_v r w) (List.mem_cons_of_mem _ (List.mem_filter.mpr ⟨am_ps_mem.mpr ⟨w, hq, rfl⟩, ?_⟩))
      simp [hji, hj1]
theorem am_l.st1n {r : Nat → Nat} {ls ls' : Array Slot} {nL : Nat} {lv : am_V} {i : Nat} {v : Value} (h : am_l r ls nL lv) (h' : lv_has ls' nL ((i, v) :: (am_ps r lv).filter (fun q => !(q.1 == i) && !(q.1 + 1 == i && q.2.category == 2)))) : am_l r ls' nL (am_st1 lv i none) := by
  refine ⟨h'.1, h'.2.1, by simp [am_st1, h.2.2.1], fun j w hj => ?_⟩
  simp only [am_st1, List.getElem?_mapIdx, Option.map_eq_some_iff] at hj
  obtain ⟨q, hq, he⟩ := hj
  by_cases hji : j = i
  · subst hji
    rw [if_pos rfl] at he
    cases he
  · rw [if_neg hji] at he
    by_cases hj1 : j + 1 = i
    · rw [if_pos hj1] at he
      cases q with
      | none => cases he
      | some u =>
        simp only at he
        by_cases hu : u.category = 2
        · rw [if_pos hu] at he; cases he
        · rw [if_neg hu] at he
          cases he
          refine h'.2.2 (j, am_v r w) (List.mem_cons_of_mem _ (List.mem_filter.mpr ⟨am_ps_mem.mpr ⟨w, hq, rfl⟩, ?_⟩))
          have hcat : ¬ (am_v r w).category = 2 := by rw [am_v_cat]; exact hu
          simp [hji, hcat]
    · rw [if_neg hj1] at he
      subst he
      refine h'.2.2 (j, am_v r w) (List.mem_cons_of_mem _ (List.mem_filter.mpr ⟨am_ps_mem.mpr ⟨w, hq, rfl⟩, ?_⟩))
      simp [hji, hj1]
theorem am_l.st2 {r : Nat → Nat} {ls ls' : Array Slot} {nL : Nat} {lv : am_V} {i : Nat} {v : Value} (h : am_l r ls nL lv) (h' : lv_has ls' nL ((i, am_v r v) :: (am_ps r lv).filter (fun q => !(q.1 == i) && (!(q.1 == i + 1) && !(q.1 + 1 == i && q.2.category == 2))))) : am_l r ls' nL (am_st2 lv i (some v)) := by
  refine ⟨h'.1, h'.2.1, by simp [am_st2, h.2.2.1], fun j w hj => ?_⟩
  simp only [am_st2, List.getElem?_mapIdx, Option.map_eq_some_iff] at hj
  obtain ⟨q, hq, he⟩ := hj
  by_cases hji : j = i
  · subst hji
    rw [if_pos rfl] at he
    cases he
    exact h'.2.2 (j, _) List.mem_cons_self
  · rw [if_neg hji] at he
    by_cases hj2 : j = i + 1
    · rw [if_pos hj2] at he; cases he
    · rw [if_neg hj2] at he
      by_cases hj1 : j + 1 = i
      · rw [if_pos hj1] at he
        cases q with
        | none => cases he
        | some u =>
          simp only at he
          by_cases hu : u.category = 2
          · rw [if_pos hu] at he; cases he
          · rw [if_neg hu] at he
            cases he
            refine h'.2.2 (j, am_v r w) (List.mem_cons_of_mem _ (List.mem_filter.mpr ⟨am_ps_mem.mpr ⟨w, hq, rfl⟩, ?_⟩))
            have hcat : ¬ (am_v r w).category = 2 := by rw [am_v_cat]; exact hu
            simp [hji, hj2, hcat]
      · rw [if_neg hj1] at he
        subst he
        refine h'.2.2 (j, am_v r w) (List.mem_cons_of_mem _ (List.mem_filter.mpr ⟨am_ps_mem.mpr ⟨w, hq, rfl⟩, ?_⟩))
        simp [hji, hj1, hj2]
/-- a method's variables at its entry -/
theorem am_args_lv (r : Nat → Nat) : ∀ (as : List Value) (i j : Nat) (v : Value), (am_args as)[j]? = some (some v) → (i + j, am_v r v) ∈ lv_args i (as.map (am_v r))
  | [], i, j, v, h => by simp [am_args] at h
  | a :: as, i, j, v, h => by
    simp only [am_args] at h
    simp only [List.map_cons, lv_args, am_v_cat]
    by_cases hc : a.category = 2
    · rw [if_pos hc] at h ⊢
      match j, h with
      | 0, h =>
        simp at h
        subst h
        exact List.mem_cons_self
      | 1, h => simp at h
      | j + 2, h =>
        refine List.mem_cons_of_mem _ ?_
        have := am_args_lv r as (i + 2) j v (by simpa using h)
        rwa [show i + (j + 2) = i + 2 + j by omega]
    · rw [if_neg hc] at h ⊢
      match j, h with
      | 0, h =>
        simp at h
        subst h
        exact List.mem_cons_self
      | j + 1, h =>
        refine List.mem_cons_of_mem _ ?_
        have := am_args_lv r as (i + 1) j v (by simpa using h)
        rwa [show i + (j + 1) = i + 1 + j by omega]
theorem am_args_len (r : Nat → Nat) : ∀ as : List Value, (lg_sl (as.map (am_v r))).length = (am_args as).length
  | [] => rfl
  | a :: as => by
    have ih := am_args_len r as
    rw [List.map_cons]
    show (List.flatMap (fun v : Value => if v.category = 2 then [Slot.val v, Slot.second] else [Slot.val v]) (am_v r a :: as.map (am_v r))).length = _
    rw [List.flatMap_cons, List.length_append]
    have ih2 : (List.flatMap (fun v : Value => if v.category = 2 then [Slot.val v, Slot.second] else [Slot.val v]) (as.map (am_v r))).length = (am_args as).length := ih
    rw [ih2, am_v_cat, am_args]
    by_cases hc : a.category = 2
    · rw [if_pos hc, if_pos hc]; simp; omega
    · rw [if_neg hc, if_neg hc]; simp; omega
theorem am_entry {r : Nat → Nat} {as : List Value} {n : Nat} (hn : (am_args as).length ≤ n) :
    am_l r ((lg_sl (as.map (am_v r)) ++ List.replicate (n - (lg_sl (as.map (am_v r))).length) Slot.unset).toArray) n (am_ent as n) := by
  have h := lv_entry (as.map (am_v r)) (n := n) (by rw [am_args_len]; exact hn)
  refine ⟨h.1, h.2.1, by simp [am_ent]; omega, fun i v hi => ?_⟩
  have hi2 : (am_args as)[i]? = some (some v) := by
    unfold am_ent at hi
    by_cases hl : i < (am_args as).length
    · rwa [List.getElem?_append_left hl] at hi
    · rw [List.getElem?_append_right (by omega), List.getElem?_replicate] at hi
      split at hi
      · cases hi
      · cases hi
  have := h.2.2 _ (am_args_lv r as 0 i v hi2)
  simpa using this
