theorem th_all {mi : Nat} (hm : 16 ≤ th mi) : th_m mi = true := by
  have hb : mi < 130 := by
    rcases Nat.lt_or_ge mi 130 with q | q
    · exact q
    · have : th mi = 0 := by unfold th; rw [List.getD_eq_getElem?_getD, List.getElem?_eq_none (show th_l.length ≤ mi from q)]; rfl
      omega
  by_cases h0 : mi < 10
  · exact am_all_at th_c0 (by omega) (by omega)
  by_cases h1 : mi < 20
  · exact am_all_at th_c1 (by omega) (by omega)
  by_cases h2 : mi < 30
  · exact am_all_at th_c2 (by omega) (by omega)
  by_cases h3 : mi < 40
  · exact am_all_at th_c3 (by omega) (by omega)
  by_cases h4 : mi < 50
  · exact am_all_at th_c4 (by omega) (by omega)
  by_cases h5 : mi < 60
  · exact am_all_at th_c5 (by omega) (by omega)
  by_cases h6 : mi < 70
  · exact am_all_at th_c6 (by omega) (by omega)
  by_cases h7 : mi < 80
  · exact am_all_at th_c7 (by omega) (by omega)
  by_cases h8 : mi < 90
  · exact am_all_at th_c8 (by omega) (by omega)
  by_cases h9 : mi < 100
  · exact am_all_at th_c9 (by omega) (by omega)
  by_cases h10 : mi < 110
  · exact am_all_at th_c10 (by omega) (by omega)
  by_cases h11 : mi < 120
  · exact am_all_at th_c11 (by omega) (by omega)
  exact am_all_at th_c12 (by omega) (by omega)
theorem th_at {mi pc : Nat} {e : am_E} (hm : 16 ≤ th mi) (he : am_P mi pc = some e) : th_e (th mi) e = true := by
  have h := th_all hm
  unfold th_m at h
  rw [show Nat.ble 16 (th mi) = true from Nat.ble_eq_true_of_le hm, cond_true] at h
  have h1 := List.all_eq_true.mp h pc (List.mem_range.mpr (am_P_big he))
  rw [he] at h1
  exact h1
theorem th_call {t op a b c : Nat} {v : Int32} (hop : op = 36 ∨ op = 53) (hw : th_e t (op, a, b, c, v) = true) : Nat.ble 16 (th a) = true ∧ Nat.beq (Nat.lor (th a) t) t = true := by
  rcases hop with rfl | rfl
  · have : (Nat.ble 16 (th a) && Nat.beq (Nat.lor (th a) t) t) = true := hw
    simpa only [Bool.and_eq_true] using this
  · have : (Nat.ble 16 (th a) && Nat.beq (Nat.lor (th a) t) t) = true := hw
    simpa only [Bool.and_eq_true] using this
theorem th_run {L : Nat} {xs : Nat → Int32} : ∀ (n : Nat) {d mi pc : Nat} {lv : am_V} {st : List Value} {S : am_S} {h : am_M} {o : am_L} {g : Nat} {E : Nat} {S' : am_S} {h' : am_M} {o' : am_L} {g' : Nat}, 16 ≤ th mi → am_run L xs n d mi pc lv st S h o g = some (.inl E, S', h', o', g') → (th mi).testBit E = true := by
  intro n
  induction n with
  | zero => intro d mi pc lv st S h o g E S' h' o' g' _ hr; simp only [am_run] at hr; cases hr
  | succ n ih =>
    intro d mi pc lv st S h o g E S' h' o' g' hm hr
    simp only [am_run] at hr
    split at hr
    · cases hr
    · rename_i he
      have hw := th_at hm he
      split at hr
      · cases hr
      · exact ih hm hr
      · rename_i hs
        split at hr
        · cases hr
        · split at hr
          · cases hr
          · exact ih hm hr
          · rename_i hc
            split at hr
            · cases hr
            · split at hr
              · cases hr
                rcases am_step_kind hs with ⟨hop, hcall, -⟩ | ⟨-, x, -, q⟩ | ⟨-, x, -, -, q⟩ | ⟨-, x, -, q⟩ | ⟨-, -, q⟩ | ⟨-, -, q⟩
                · cases hcall
                  have hk := th_call hop hw
                  have h1 := ih (Nat.le_of_ble_eq_true hk.1) hc
                  have h2 := Nat.eq_of_beq_eq_true hk.2
                  rw [← h2]
                  show ((th _) ||| (th mi)).testBit E = true
                  rw [Nat.testBit_or, h1, Bool.true_or]
                all_goals cases q
              · exact ih hm hr
      · cases hr
      · rename_i hs
        cases hr
        rcases am_step_kind hs with ⟨hop, hcall, -⟩ | ⟨-, x, -, q⟩ | ⟨-, x, -, -, q⟩ | ⟨-, x, -, q⟩ | ⟨-, -, q⟩ | ⟨rfl, -, q⟩
        · cases hcall
        · cases q
        · cases q
        · cases q
        · cases q
        · cases q
          exact hw
theorem mt_th {k mi : Nat} {lv : am_V} {h h1 : am_M} {E : Nat} (hm : 16 ≤ th mi) (H : mt k mi lv h E h1) : (th mi).testBit E = true := by
  obtain ⟨n, r, h', o', g', hr, hq⟩ := H 0 0 (fun _ => 0) (fun _ _ => 0) 0 (fun _ _ _ _ => False) (fun E' _ _ _ => E' = E) rfl
  cases r with
  | inr w => exact hq.elim
  | inl E' =>
    have : E' = E := hq
    subst this
    exact th_run n hm hr
