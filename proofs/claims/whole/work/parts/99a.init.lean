/-! ===== the constructors, run by the kernel ===== -/
def zi_c (mi : Nat) : Bool := (Nat.ble 1 mi && Nat.ble mi 7) || Nat.beq mi 129
def zi_e (e : am_E) : Bool := match e with
  | (op, a, _, _, _) => !(Nat.beq op 17 || Nat.beq op 27) && (bif (Nat.beq op 36 || Nat.beq op 53) then zi_c a else true)
def zi_m (mi : Nat) : Bool := bif zi_c mi then (List.range 1963).all (fun pc => match am_P mi pc with | none => true | some e => zi_e e) else true
set_option maxRecDepth 100000 in
theorem zi_all0 : ((List.range 130).all fun k => zi_m k) = true := by decide +kernel
theorem zi_lt {mi : Nat} (h : zi_c mi = true) : mi < 130 := by
  unfold zi_c at h
  rw [Bool.or_eq_true, Bool.and_eq_true] at h
  rcases h with ⟨_, h⟩ | h
  · have := Nat.le_of_ble_eq_true h; omega
  · have := Nat.eq_of_beq_eq_true h; omega
theorem zi_at {mi pc : Nat} {e : am_E} (hm : zi_c mi = true) (he : am_P mi pc = some e) : zi_e e = true := by
  have h := List.all_eq_true.mp zi_all0 mi (List.mem_range.mpr (zi_lt hm))
  unfold zi_m at h
  rw [hm, cond_true] at h
  have h1 := List.all_eq_true.mp h pc (List.mem_range.mpr (am_P_big he))
  rw [he] at h1
  exact h1
theorem zi_step {L L' : Nat} {xs xs' : Nat → Int32} {op a b c : Nat} {v : Int32} {lv : am_V} {st : List Value} {S : am_S} {h : am_M} {o : am_L} {g : Nat} (h1 : op ≠ 17) (h2 : op ≠ 27) : am_step L xs op a b c v lv st S h o g = am_step L' xs' op a b c v lv st S h o g := by
  unfold am_step
  split <;> first | rfl | exact absurd rfl h1 | exact absurd rfl h2
theorem zi_e1 {op a b c : Nat} {v : Int32} (h : zi_e (op, a, b, c, v) = true) : op ≠ 17 ∧ op ≠ 27 ∧ ((op = 36 ∨ op = 53) → zi_c a = true) := by
  unfold zi_e at h
  simp only [Bool.and_eq_true, Bool.not_eq_true', Bool.or_eq_false_iff] at h
  obtain ⟨⟨a1, a2⟩, a3⟩ := h
  refine ⟨fun e => (by subst e; cases a1), fun e => (by subst e; cases a2), fun e => ?_⟩
  rcases e with e | e
  · subst e; exact a3
  · subst e; exact a3
theorem zi_run {L L' : Nat} {xs xs' : Nat → Int32} : ∀ (n : Nat) {d mi pc : Nat} {lv : am_V} {st : List Value} {S : am_S} {h : am_M} {o : am_L} {g : Nat}, zi_c mi = true → am_run L xs n d mi pc lv st S h o g = am_run L' xs' n d mi pc lv st S h o g := by
  intro n
  induction n with
  | zero => intro d mi pc lv st S h o g _; simp only [am_run]
  | succ n ih =>
    intro d mi pc lv st S h o g hm
    rw [am_run, am_run]
    cases he : am_P mi pc with
    | none => rfl
    | some e =>
      obtain ⟨op, a, b, c, v⟩ := e
      obtain ⟨e1, e2, e3⟩ := zi_e1 (zi_at hm he)
      simp only
      rw [zi_step (L := L) (L' := L') (xs := xs) (xs' := xs') e1 e2]
      cases hs : am_step L' xs' op a b c v lv st S h o g with
      | none => rfl
      | some q =>
        rcases q with ⟨pc', lv', st', S', h', o'⟩ | ⟨mj, as, r'⟩ | w | E
        · exact ih hm
        · simp only
          cases d with
          | zero => rfl
          | succ d' =>
            simp only
            have hmj : zi_c mj = true := by
              rcases am_step_kind hs with ⟨hop, hcall, -⟩ | ⟨-, x, -, q⟩ | ⟨-, x, -, -, q⟩ | ⟨-, x, -, q⟩ | ⟨-, -, q⟩ | ⟨-, -, q⟩
              · cases hcall; exact e3 hop
              all_goals cases q
            rw [ih (mi := mj) hmj]
            cases am_run L' xs' n d' mj 0 (am_ent as (am_ml mj)) [] S h o g with
            | none => rfl
            | some q =>
              obtain ⟨q, S', h', o', g'⟩ := q
              cases q with
              | inr w => simp only; exact ih hm
              | inl E =>
                simp only
                by_cases h53 : op = 53
                · rw [if_pos h53, if_pos h53]
                · rw [if_neg h53, if_neg h53]
                  cases am_hand (am_hd mi) pc E with
                  | none => rfl
                  | some y => obtain ⟨pc', k⟩ := y; simp only; exact ih hm
        · rfl
        · rfl
/-- the law's own steps up to its loop -/
def am_to : Nat → Nat → Nat → am_V → List Value → am_S → am_M → am_L → Option (am_V × List Value × am_S × am_M × am_L)
  | 0, _, _, _, _, _, _, _ => none
  | n + 1, d, pc, lv, st, S, h, o => bif Nat.beq pc 23 then some (lv, st, S, h, o) else match am_P 0 pc with
    | none => none
    | some (op, a, b, c, v) => bif (Nat.beq op 17 || Nat.beq op 27) then none else match am_step 0 (fun _ => 0) op a b c v lv st S h o 0 with
      | some (.inl (pc', lv', st', S', h', o')) => am_to n d pc' lv' st' S' h' o'
      | some (.inr (.inl (mj, as, r))) => match d with
        | 0 => none
        | d' + 1 => bif zi_c mj then match am_run 0 (fun _ => 0) n d' mj 0 (am_ent as (am_ml mj)) [] S h o 0 with
          | some (.inr w, S', h', o', 0) => am_to n (d' + 1) c lv (w.toList ++ r) S' h' o'
          | _ => none else none
      | _ => none
theorem am_to_ok {L : Nat} {xs : Nat → Int32} : ∀ (n : Nat) {d pc : Nat} {lv lv' : am_V} {st st' : List Value} {S S' : am_S} {h h' : am_M} {o o' : am_L}, am_to n d pc lv st S h o = some (lv', st', S', h', o') → ∀ (k : Nat) (r : am_O × am_S × am_M × am_L × Nat), am_run L xs k d 0 23 lv' st' S' h' o' 0 = some r → ∃ k', am_run L xs k' d 0 pc lv st S h o 0 = some r := by
  intro n
  induction n with
  | zero => intro d pc lv lv' st st' S S' h h' o o' H; simp only [am_to] at H; cases H
  | succ n ih =>
    intro d pc lv lv' st st' S S' h h' o o' H k r hr
    rw [am_to] at H
    cases hpc : Nat.beq pc 23 with
    | true =>
      rw [hpc, cond_true] at H
      cases H
      have := Nat.eq_of_beq_eq_true hpc
      subst this
      exact ⟨k, hr⟩
    | false =>
      rw [hpc, cond_false] at H
      cases hp : am_P 0 pc with
      | none => rw [hp] at H; cases H
      | some e =>
        obtain ⟨op, a, b, c, v⟩ := e
        rw [hp] at H
        simp only at H
        cases h17 : (Nat.beq op 17 || Nat.beq op 27) with
        | true => rw [h17, cond_true] at H; cases H
        | false =>
          rw [h17, cond_false] at H
          have n17 : op ≠ 17 := fun e => by subst e; cases h17
          have n27 : op ≠ 27 := fun e => by subst e; cases h17
          have es : am_step L xs op a b c v lv st S h o 0 = am_step 0 (fun _ => 0) op a b c v lv st S h o 0 := zi_step n17 n27
          cases hs : am_step 0 (fun _ => 0) op a b c v lv st S h o 0 with
          | none => rw [hs] at H; cases H
          | some q =>
            rw [hs] at H
            rw [hs] at es
            rcases q with ⟨pc1, lv1, st1, S1, h1, o1⟩ | ⟨mj, as, r'⟩ | w | E
            · simp only at H
              obtain ⟨k', hk'⟩ := ih H k r hr
              exact ⟨k' + 1, by simp only [am_run, hp, es]; exact hk'⟩
            · simp only at H
              cases d with
              | zero => cases H
              | succ d' =>
                simp only at H
                cases hz : zi_c mj with
                | false => rw [hz, cond_false] at H; cases H
                | true =>
                  rw [hz, cond_true] at H
                  cases hc : am_run 0 (fun _ => 0) n d' mj 0 (am_ent as (am_ml mj)) [] S h o 0 with
                  | none => rw [hc] at H; cases H
                  | some q =>
                    rw [hc] at H
                    obtain ⟨q, S1, h1, o1, g1⟩ := q
                    cases q with
                    | inl E => cases H
                    | inr w =>
                      cases g1 with
                      | succ g1 => cases H
                      | zero =>
                        simp only at H
                        obtain ⟨k', hk'⟩ := ih H k r hr
                        have hc' : am_run L xs n d' mj 0 (am_ent as (am_ml mj)) [] S h o 0 = some (.inr w, S1, h1, o1, 0) := by rw [zi_run (L' := 0) (xs' := fun _ => 0) n hz]; exact hc
                        refine ⟨max n k' + 1, ?_⟩
                        simp only [am_run, hp, es]
                        rw [am_fuel n (Nat.le_max_left n k') hc']
                        simp only
                        exact am_fuel k' (Nat.le_max_right n k') hk'
            · cases H
            · cases H
