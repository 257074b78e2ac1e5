/-! ===== the search for waits and berths, as such ===== -/
def plU (w : Nat → Nat) (s x : Nat) : Nat → Nat := fun o => if o = s then x else w o
theorem plU_s (w : Nat → Nat) (s x : Nat) : plU w s x s = x := by simp [plU]
theorem plU_o (w : Nat → Nat) {s o : Nat} (x : Nat) (e : ¬ o = s) : plU w s x o = w o := by simp [plU, e]
def plX (f : Nat → Option (Nat → Nat)) : Nat → Nat → Option (Nat → Nat)
  | _, 0 => none
  | x, r + 1 => match f x with
    | some w => some w
    | none => plX f (x + 1) r
/-- rel s: ship s counts; C s x w: it may wait x beside the waits w of those before -/
def plF (rel : Nat → Bool) (C : Nat → Nat → (Nat → Nat) → Bool) (W : Nat) : Nat → Nat → (Nat → Nat) → Option (Nat → Nat)
  | 0, _, w => some w
  | m + 1, s, w => bif rel s then plX (fun x => bif C s x w then plF rel C W m (s + 1) (plU w s x) else none) 0 (W + 1) else plF rel C W m (s + 1) w
def plS (rel : Nat → Bool) (C : Nat → Nat → (Nat → Nat) → Bool) (W n s : Nat) (v : Nat → Nat) : Prop := ∀ o, s ≤ o → o < n → rel o = true → v o ≤ W ∧ C o (v o) v = true
def plL (rel : Nat → Bool) (n s : Nat) (w v : Nat → Nat) : Prop := (∀ o, s ≤ o → o < n → rel o = true → w o = v o) ∨ ∃ i, s ≤ i ∧ i < n ∧ rel i = true ∧ w i < v i ∧ ∀ o, s ≤ o → o < i → rel o = true → w o = v o
theorem plX_none {f : Nat → Option (Nat → Nat)} : ∀ r x, plX f x r = none → ∀ y, x ≤ y → y < x + r → f y = none
  | 0, x, _, y, h1, h2 => by omega
  | r + 1, x, h, y, h1, h2 => by
    simp only [plX] at h
    cases hf : f x with
    | some w => rw [hf] at h; cases h
    | none =>
      rw [hf] at h
      by_cases e : y = x
      · subst e; exact hf
      · exact plX_none r (x + 1) h y (by omega) (by omega)
theorem plX_some {f : Nat → Option (Nat → Nat)} {w : Nat → Nat} : ∀ r x, plX f x r = some w → ∃ y, x ≤ y ∧ y < x + r ∧ f y = some w ∧ ∀ z, x ≤ z → z < y → f z = none
  | 0, x, h => by simp [plX] at h
  | r + 1, x, h => by
    simp only [plX] at h
    cases hf : f x with
    | some w' =>
      rw [hf] at h
      cases h
      exact ⟨x, by omega, by omega, hf, fun z h1 h2 => by omega⟩
    | none =>
      rw [hf] at h
      obtain ⟨y, h1, h2, h3, h4⟩ := plX_some r (x + 1) h
      refine ⟨y, by omega, by omega, h3, fun z z1 z2 => ?_⟩
      by_cases e : z = x
      · subst e; exact hf
      · exact h4 z (by omega) z2
def plHC (rel : Nat → Bool) (C : Nat → Nat → (Nat → Nat) → Bool) : Prop := ∀ s x w w', rel s = true → (∀ o, o < s → rel o = true → w o = w' o) → C s x w = C s x w'
theorem plF_spec {rel : Nat → Bool} {C : Nat → Nat → (Nat → Nat) → Bool} {W n : Nat} (hC : plHC rel C) : ∀ m s w, s + m = n → (plF rel C W m s w = none → ∀ v, (∀ o, o < s → rel o = true → v o = w o) → ¬ plS rel C W n s v) ∧ ∀ w', plF rel C W m s w = some w' → (∀ o, o < s → w' o = w o) ∧ plS rel C W n s w' ∧ ∀ v, (∀ o, o < s → rel o = true → v o = w o) → plS rel C W n s v → plL rel n s w' v
  | 0, s, w, hs => by
    refine ⟨fun h => by simp [plF] at h, fun w' h => ?_⟩
    simp only [plF, Option.some.injEq] at h
    subst h
    exact ⟨fun _ _ => rfl, fun o h1 h2 => by omega, fun v _ _ => .inl fun o h1 h2 => by omega⟩
  | m + 1, s, w, hs => by
    cases hr : rel s with
    | false =>
      obtain ⟨a, b⟩ := plF_spec (n := n) hC (W := W) m (s + 1) w (by omega)
      have up : ∀ v, plS rel C W n s v → plS rel C W n (s + 1) v := fun v h o h1 h2 h3 => h o (by omega) h2 h3
      have ag : ∀ v : Nat → Nat, (∀ o, o < s → rel o = true → v o = w o) → ∀ o, o < s + 1 → rel o = true → v o = w o := fun v h o h1 h2 => by
        by_cases e : o = s
        · subst e; rw [hr] at h2; cases h2
        · exact h o (by omega) h2
      simp only [plF, hr, cond_false]
      refine ⟨fun h v h1 h2 => a h v (ag v h1) (up v h2), fun w' h => ?_⟩
      obtain ⟨b1, b2, b3⟩ := b w' h
      refine ⟨fun o ho => b1 o (by omega), fun o h1 h2 h3 => ?_, fun v h1 h2 => ?_⟩
      · by_cases e : o = s
        · subst e; rw [hr] at h3; cases h3
        · exact b2 o (by omega) h2 h3
      · rcases b3 v (ag v h1) (up v h2) with c | ⟨i, c1, c2, c3, c4, c5⟩
        · refine .inl fun o h1 h2 h3 => ?_
          by_cases e : o = s
          · subst e; rw [hr] at h3; cases h3
          · exact c o (by omega) h2 h3
        · refine .inr ⟨i, by omega, c2, c3, c4, fun o h1 h2 h3 => ?_⟩
          by_cases e : o = s
          · subst e; rw [hr] at h3; cases h3
          · exact c5 o (by omega) h2 h3
    | true =>
      simp only [plF, hr, cond_true]
      have dead : ∀ x v, (bif C s x w then plF rel C W m (s + 1) (plU w s x) else none) = none → (∀ o, o < s → rel o = true → v o = w o) → v s = x → ¬ plS rel C W n s v := by
        intro x v hx h1 h2 h3
        obtain ⟨_, c⟩ := h3 s (by omega) (by omega) hr
        rw [h2, hC s x v w hr h1] at c
        rw [c, cond_true] at hx
        refine (plF_spec (n := n) hC (W := W) m (s + 1) (plU w s x) (by omega)).1 hx v (fun o ho hro => ?_) (fun o h4 h5 h6 => h3 o (by omega) h5 h6)
        by_cases e : o = s
        · subst e; rw [plU_s]; exact h2
        · rw [plU_o _ _ e]; exact h1 o (by omega) hro
      refine ⟨fun h v h1 h2 => ?_, fun w' h => ?_⟩
      · have le := (h2 s (by omega) (by omega) hr).1
        exact dead (v s) v (plX_none _ _ h (v s) (by omega) (by omega)) h1 rfl h2
      · obtain ⟨y, y1, y2, y3, y4⟩ := plX_some _ _ h
        cases hc : C s y w with
        | false => rw [hc, cond_false] at y3; cases y3
        | true =>
          rw [hc, cond_true] at y3
          obtain ⟨b1, b2, b3⟩ := (plF_spec (n := n) hC (W := W) m (s + 1) (plU w s y) (by omega)).2 w' y3
          have b0 : ∀ o, o < s → w' o = w o := fun o ho => by rw [b1 o (by omega), plU_o _ _ (by omega)]
          have bs : w' s = y := by rw [b1 s (by omega), plU_s]
          refine ⟨b0, fun o h1 h2 h3 => ?_, fun v h1 h2 => ?_⟩
          · by_cases e : o = s
            · subst e
              rw [bs, hC o y w' w hr (fun q hq _ => b0 q hq)]
              exact ⟨by omega, hc⟩
            · exact b2 o (by omega) h2 h3
          · rcases Nat.lt_trichotomy (v s) y with e | e | e
            · exact absurd h2 (dead (v s) v (y4 (v s) (by omega) e) h1 rfl)
            · rcases b3 v (fun o ho hro => by
                by_cases e2 : o = s
                · subst e2; rw [plU_s]; exact e
                · rw [plU_o _ _ e2]; exact h1 o (by omega) hro) (fun o h4 h5 h6 => h2 o (by omega) h5 h6) with c | ⟨i, c1, c2, c3, c4, c5⟩
              · refine .inl fun o h4 h5 h6 => ?_
                by_cases e2 : o = s
                · subst e2; rw [bs]; exact e.symm
                · exact c o (by omega) h5 h6
              · refine .inr ⟨i, by omega, c2, c3, c4, fun o h4 h5 h6 => ?_⟩
                by_cases e2 : o = s
                · subst e2; rw [bs]; exact e.symm
                · exact c5 o (by omega) h5 h6
            · exact .inr ⟨s, by omega, by omega, hr, by rw [bs]; exact e, fun o h4 h5 => by omega⟩
theorem plX_congr {f f' : Nat → Option (Nat → Nat)} : ∀ r x, (∀ y, x ≤ y → y < x + r → f y = f' y) → plX f x r = plX f' x r
  | 0, _, _ => rfl
  | r + 1, x, h => by
    simp only [plX]
    rw [h x (by omega) (by omega), plX_congr r (x + 1) (fun y h1 h2 => h y (by omega) (by omega))]
theorem plF_congr {rel rel' : Nat → Bool} {C C' : Nat → Nat → (Nat → Nat) → Bool} {W : Nat} : ∀ m s w, (∀ o, s ≤ o → o < s + m → rel o = rel' o ∧ (rel o = true → ∀ x w, x ≤ W → C o x w = C' o x w)) → plF rel C W m s w = plF rel' C' W m s w
  | 0, _, _, _ => rfl
  | m + 1, s, w, h => by
    have hs := h s (by omega) (by omega)
    have ih := fun w => plF_congr (rel := rel) (rel' := rel') (C := C) (C' := C') (W := W) m (s + 1) w (fun o h1 h2 => h o (by omega) (by omega))
    simp only [plF]
    rw [← hs.1]
    cases hr : rel s with
    | false => simp only [cond_false]; exact ih w
    | true =>
      simp only [cond_true]
      apply plX_congr
      intro x _ hx
      rw [hs.2 hr x w (by omega), ih]
/-- a ship may wait x in its berth beside those before it in the same berth -/
def plC (F : Nat → Nat → Nat → Bool) (ov : Nat → Nat → Nat → Nat → Bool) (a : Nat → Nat) (s x : Nat) (w : Nat → Nat) : Bool := F s (a s) x && ! anyF (fun o => decide (a o = a s) && ov o (w o) s x) 0 s
theorem anyF_iff {f : Nat → Bool} : ∀ m k, anyF f k m = true ↔ ∃ i, k ≤ i ∧ i < k + m ∧ f i = true
  | 0, k => by
    simp only [anyF]
    constructor
    · intro h; cases h
    · rintro ⟨i, a, b, _⟩; omega
  | m + 1, k => by
    simp only [anyF, Bool.or_eq_true]
    rw [anyF_iff m (k + 1)]
    constructor
    · rintro (h | ⟨i, a, b, c⟩)
      · exact ⟨k, by omega, by omega, h⟩
      · exact ⟨i, by omega, by omega, c⟩
    · rintro ⟨i, a, b, c⟩
      by_cases e : i = k
      · subst e; exact .inl c
      · exact .inr ⟨i, by omega, by omega, c⟩
theorem plC_w {F : Nat → Nat → Nat → Bool} {ov : Nat → Nat → Nat → Nat → Bool} {a a' : Nat → Nat} {s x : Nat} {w w' : Nat → Nat} (hs : a s = a' s) (ho : ∀ o, o < s → (a o = a s ↔ a' o = a' s) ∧ (a o = a s → w o = w' o)) : plC F ov a s x w = plC F ov a' s x w' := by
  unfold plC
  rw [← hs]
  congr 2
  apply anyF_congr
  intro o _ h2
  obtain ⟨p, q⟩ := ho o (by omega)
  by_cases e : a o = a s
  · rw [q e, decide_eq_true e, decide_eq_true (hs ▸ p.1 e)]
  · rw [decide_eq_false e, decide_eq_false (fun h => e (p.2 (hs ▸ h)))]
    rfl
section
variable {F : Nat → Nat → Nat → Bool} {ov : Nat → Nat → Nat → Nat → Bool} {B W n : Nat}
theorem pl_hM (a : Nat → Nat) : plHC (fun s => decide (a s < B)) (plC F ov a) := fun s x w w' hr h => plC_w rfl fun o ho => ⟨Iff.rfl, fun e => h o ho (by rw [decide_eq_true_eq] at hr ⊢; omega)⟩
theorem pl_hB (a : Nat → Nat) (k b : Nat) : plHC (fun s => decide (s < k) && decide (a s = b)) (plC F ov a) := fun s x w w' hr h => plC_w rfl fun o ho => ⟨Iff.rfl, fun e => h o ho (by rw [Bool.and_eq_true, decide_eq_true_eq, decide_eq_true_eq] at hr ⊢; omega)⟩
/-- all berths at once, and berth by berth -/
def plM (F : Nat → Nat → Nat → Bool) (ov : Nat → Nat → Nat → Nat → Bool) (B W n : Nat) (a : Nat → Nat) (w : Nat → Nat) : Option (Nat → Nat) := plF (fun s => decide (a s < B)) (plC F ov a) W n 0 w
def plB (F : Nat → Nat → Nat → Bool) (ov : Nat → Nat → Nat → Nat → Bool) (W n : Nat) (a : Nat → Nat) (k b : Nat) (w : Nat → Nat) : Option (Nat → Nat) := plF (fun s => decide (s < k) && decide (a s = b)) (plC F ov a) W n 0 w
def plQ (F : Nat → Nat → Nat → Bool) (ov : Nat → Nat → Nat → Nat → Bool) (W n : Nat) (a : Nat → Nat) (k b : Nat) : Prop := ∃ v, plS (fun s => decide (s < k) && decide (a s = b)) (plC F ov a) W n 0 v
theorem plB_iff (a : Nat → Nat) (k b : Nat) (w : Nat → Nat) : plQ F ov W n a k b ↔ ¬ plB F ov W n a k b w = none := by
  have sp := plF_spec (n := n) (W := W) (pl_hB (F := F) (ov := ov) a k b) n 0 w (by omega)
  constructor
  · rintro ⟨v, hv⟩ h
    exact sp.1 h v (fun o ho => by omega) hv
  · intro h
    unfold plB at h
    cases hf : plF (fun s => decide (s < k) && decide (a s = b)) (plC F ov a) W n 0 w with
    | none => exact absurd hf h
    | some w' => exact ⟨w', (sp.2 w' hf).2.1⟩
theorem plM_B {a w w' : Nat → Nat} (h : plM F ov B W n a w = some w') {b : Nat} (hb : b < B) (u : Nat → Nat) : ∃ v, plB F ov W n a n b u = some v ∧ ∀ s, s < n → a s = b → v s = w' s := by
  obtain ⟨m1, m2, m3⟩ := (plF_spec (n := n) (W := W) (pl_hM (F := F) (ov := ov) (B := B) a) n 0 w (by omega)).2 w' h
  have sp := plF_spec (n := n) (W := W) (pl_hB (F := F) (ov := ov) a n b) n 0 u (by omega)
  have sw : plS (fun s => decide (s < n) && decide (a s = b)) (plC F ov a) W n 0 w' := fun o h1 h2 h3 => m2 o h1 h2 (by rw [Bool.and_eq_true, decide_eq_true_eq, decide_eq_true_eq] at h3; rw [decide_eq_true_eq]; omega)
  unfold plB
  cases hf : plF (fun s => decide (s < n) && decide (a s = b)) (plC F ov a) W n 0 u with
  | none => exact absurd sw (sp.1 hf w' (fun o ho => by omega))
  | some v =>
    obtain ⟨v1, v2, v3⟩ := sp.2 v hf
    refine ⟨v, rfl, ?_⟩
    rcases v3 w' (fun o ho => by omega) sw with c | ⟨i, c1, c2, c3, c4, c5⟩
    · exact fun s hs e => c s (by omega) hs (by rw [Bool.and_eq_true, decide_eq_true_eq, decide_eq_true_eq]; exact ⟨hs, e⟩)
    · exfalso
      rw [Bool.and_eq_true, decide_eq_true_eq, decide_eq_true_eq] at c3
      have mix : plS (fun s => decide (a s < B)) (plC F ov a) W n 0 (fun o => if a o = b then v o else w' o) := fun o h1 h2 h3 => by
        by_cases e : a o = b
        · simp only [if_pos e]
          have := v2 o h1 h2 (by rw [Bool.and_eq_true, decide_eq_true_eq, decide_eq_true_eq]; exact ⟨h2, e⟩)
          refine ⟨this.1, ?_⟩
          rw [← this.2]
          exact plC_w rfl fun q hq => ⟨Iff.rfl, fun eq => by rw [if_pos (eq.trans e)]⟩
        · simp only [if_neg e]
          have := m2 o h1 h2 h3
          refine ⟨this.1, ?_⟩
          rw [← this.2]
          exact plC_w rfl fun q hq => ⟨Iff.rfl, fun eq => by rw [if_neg (fun h => e (eq ▸ h))]⟩
      rcases m3 (fun o => if a o = b then v o else w' o) (fun o ho => by omega) mix with d | ⟨j, d1, d2, d3, d4, d5⟩
      · have : w' i = if a i = b then v i else w' i := d i (by omega) c2 (by rw [decide_eq_true_eq]; omega)
        rw [if_pos c3.2] at this
        omega
      · replace d4 : w' j < if a j = b then v j else w' j := d4
        by_cases e : a j = b
        · rw [if_pos e] at d4
          rcases Nat.lt_trichotomy i j with g | g | g
          · have : w' i = if a i = b then v i else w' i := d5 i (by omega) g (by rw [decide_eq_true_eq]; omega)
            rw [if_pos c3.2] at this
            omega
          · subst g; omega
          · have := c5 j (by omega) g (by rw [Bool.and_eq_true, decide_eq_true_eq, decide_eq_true_eq]; exact ⟨by omega, e⟩)
            omega
        · rw [if_neg e] at d4
          omega
theorem plM_none {a w : Nat → Nat} (h : plM F ov B W n a w = none) : ∃ b, b < B ∧ ¬ plQ F ov W n a n b := by
  apply Classical.byContradiction
  intro hc
  have hq : ∀ b, b < B → plQ F ov W n a n b := fun b hb => Classical.byContradiction fun hn => hc ⟨b, hb, hn⟩
  have ch : ∀ b, ∃ v, b < B → plS (fun s => decide (s < n) && decide (a s = b)) (plC F ov a) W n 0 v := fun b => by
    by_cases hb : b < B
    · obtain ⟨v, hv⟩ := hq b hb; exact ⟨v, fun _ => hv⟩
    · exact ⟨fun _ => 0, fun h => absurd h hb⟩
  refine (plF_spec (n := n) (W := W) (pl_hM (F := F) (ov := ov) (B := B) a) n 0 w (by omega)).1 h (fun o => (Classical.choose (ch (a o))) o) (fun o ho => by omega) (fun o h1 h2 h3 => ?_)
  rw [decide_eq_true_eq] at h3
  have := Classical.choose_spec (ch (a o)) h3 o h1 h2 (by rw [Bool.and_eq_true, decide_eq_true_eq, decide_eq_true_eq]; exact ⟨h2, rfl⟩)
  refine ⟨this.1, ?_⟩
  rw [← this.2]
  exact plC_w rfl fun q hq => ⟨Iff.rfl, fun eq => by
    show Classical.choose (ch (a q)) q = Classical.choose (ch (a o)) q
    rw [eq]⟩
def plE (F : Nat → Nat → Nat → Bool) (ov : Nat → Nat → Nat → Nat → Bool) (B W n : Nat) (a : Nat → Nat) : Bool := (plM F ov B W n a (fun _ => 0)).isSome
theorem plE_iff (a w : Nat → Nat) : plE F ov B W n a = true ↔ ¬ plM F ov B W n a w = none := by
  have s0 := plF_spec (n := n) (W := W) (pl_hM (F := F) (ov := ov) (B := B) a) n 0 (fun _ => 0) (by omega)
  have s1 := plF_spec (n := n) (W := W) (pl_hM (F := F) (ov := ov) (B := B) a) n 0 w (by omega)
  unfold plE
  constructor
  · intro h hn
    cases hf : plM F ov B W n a (fun _ => 0) with
    | none => rw [hf] at h; cases h
    | some v => exact s1.1 hn v (fun o ho => by omega) (s0.2 v hf).2.1
  · intro h
    cases hf : plM F ov B W n a (fun _ => 0) with
    | some v => rfl
    | none =>
      exfalso
      cases hw : plM F ov B W n a w with
      | none => exact h hw
      | some v => exact s0.1 hf v (fun o ho => by omega) (s1.2 v hw).2.1
theorem plE_all {a : Nat → Nat} (h : ∀ b, b < B → plQ F ov W n a n b) : plE F ov B W n a = true := by
  rw [plE_iff a (fun _ => 0)]
  intro hn
  obtain ⟨b, hb, hq⟩ := plM_none hn
  exact hq (h b hb)
/-- what can't be done for the ships so far can't be done for more -/
theorem plE_dead {a a' : Nat → Nat} {k b : Nat} (hk : k ≤ n) (hb : b < B) (hq : ¬ plQ F ov W n a k b) (ha : ∀ o, o < k → a' o = a o) : plE F ov B W n a' = false := by
  cases he : plE F ov B W n a' with
  | false => rfl
  | true =>
    exfalso
    apply hq
    rw [plE_iff a' (fun _ => 0)] at he
    cases hf : plM F ov B W n a' (fun _ => 0) with
    | none => exact absurd hf he
    | some v =>
      have sv := ((plF_spec (n := n) (W := W) (pl_hM (F := F) (ov := ov) (B := B) a') n 0 (fun _ => 0) (by omega)).2 v hf).2.1
      refine ⟨v, fun o h1 h2 h3 => ?_⟩
      rw [Bool.and_eq_true, decide_eq_true_eq, decide_eq_true_eq] at h3
      have := sv o h1 h2 (by rw [decide_eq_true_eq, ha o h3.1]; omega)
      refine ⟨this.1, ?_⟩
      rw [← this.2]
      exact plC_w (ha o h3.1).symm fun q hq => ⟨by rw [ha o h3.1, ha q (by omega)], fun _ => rfl⟩
theorem plQ_congr {a a' : Nat → Nat} {k k' b : Nat} (h : ∀ o, o < n → ((o < k ∧ a o = b) ↔ (o < k' ∧ a' o = b))) (hq : plQ F ov W n a k b) : plQ F ov W n a' k' b := by
  obtain ⟨v, hv⟩ := hq
  refine ⟨v, fun o h1 h2 h3 => ?_⟩
  rw [Bool.and_eq_true, decide_eq_true_eq, decide_eq_true_eq] at h3
  have g := (h o h2).2 h3
  have := hv o h1 h2 (by rw [Bool.and_eq_true, decide_eq_true_eq, decide_eq_true_eq]; exact g)
  refine ⟨this.1, ?_⟩
  rw [← this.2]
  refine plC_w (by rw [g.2, h3.2]) fun q hq => ⟨?_, fun _ => rfl⟩
  rw [h3.2, g.2]
  constructor
  · intro e; exact ((h q (by omega)).2 ⟨by omega, e⟩).2
  · intro e; exact ((h q (by omega)).1 ⟨by omega, e⟩).2
theorem plE_none {a : Nat → Nat} (h : ∀ o, o < n → ¬ a o < B) : plE F ov B W n a = true := by
  apply plE_all
  intro b hb
  exact ⟨fun _ => 0, fun o h1 h2 h3 => by
    rw [Bool.and_eq_true, decide_eq_true_eq, decide_eq_true_eq] at h3
    exact absurd (h3.2 ▸ hb) (h o h2)⟩
end
theorem plE_mono {F F' : Nat → Nat → Nat → Bool} {ov : Nat → Nat → Nat → Nat → Bool} {B W n : Nat} (hF : ∀ s b x, s < n → b < B → x ≤ W → F s b x = true → F' s b x = true) {a : Nat → Nat} (h : plE F ov B W n a = true) : plE F' ov B W n a = true := by
  rw [plE_iff a (fun _ => 0)] at h
  cases hf : plM F ov B W n a (fun _ => 0) with
  | none => exact absurd hf h
  | some v =>
    have sv := ((plF_spec (n := n) (W := W) (pl_hM (F := F) (ov := ov) (B := B) a) n 0 (fun _ => 0) (by omega)).2 v hf).2.1
    apply plE_all
    intro b hb
    refine ⟨v, fun o h1 h2 h3 => ?_⟩
    rw [Bool.and_eq_true, decide_eq_true_eq, decide_eq_true_eq] at h3
    have := sv o h1 h2 (by rw [decide_eq_true_eq]; omega)
    refine ⟨this.1, ?_⟩
    have h4 := this.2
    unfold plC at h4 ⊢
    rw [Bool.and_eq_true] at h4 ⊢
    exact ⟨hF o (a o) (v o) h2 (by omega) this.1 h4.1, h4.2⟩
/-! ===== the search for berths ===== -/
abbrev plT : Type := Nat × (Nat → Nat)
def itF (f : Nat → plT → plT) : Nat → Nat → plT → plT
  | _, 0, st => st
  | k, m + 1, st => itF f (k + 1) m (f k st)
/-- gone through without any cut; the count is one above the most so far -/
def plG (ok : Nat → Nat → Bool) (fe : (Nat → Nat) → Bool) (B : Nat) : Nat → Nat → Nat → (Nat → Nat) → plT → plT
  | 0, _, many, a, st => bif fe a && decide (st.1 ≤ many) then (many + 1, a) else st
  | m + 1, s, many, a, st => itF (fun b st => bif decide (b < B) then (bif ok s b then plG ok fe B m (s + 1) (many + 1) (plU a s b) st else st) else plG ok fe B m (s + 1) many (plU a s b) st) 0 (B + 1) st
theorem itF_same {f : Nat → plT → plT} {st : plT} : ∀ m k, (∀ j, k ≤ j → j < k + m → f j st = st) → itF f k m st = st
  | 0, _, _ => rfl
  | m + 1, k, h => by
    simp only [itF]
    rw [h k (by omega) (by omega)]
    exact itF_same m (k + 1) (fun j h1 h2 => h j (by omega) (by omega))
theorem plG_hope {ok : Nat → Nat → Bool} {fe : (Nat → Nat) → Bool} {B n : Nat} {hp : Nat → Nat} (hh : ∀ s, s < n → hp (s + 1) ≤ hp s ∧ (∀ b, b < B → ok s b = true → hp (s + 1) + 1 ≤ hp s)) : ∀ m s many a st, s + m = n → many + hp s < st.1 → plG ok fe B m s many a st = st
  | 0, s, many, a, st, _, h => by
    simp only [plG]
    rw [decide_eq_false (by omega), Bool.and_false, cond_false]
  | m + 1, s, many, a, st, hs, h => by
    simp only [plG]
    apply itF_same
    intro b _ _
    have h1 := hh s (by omega)
    by_cases hb : b < B
    · rw [decide_eq_true hb, cond_true]
      cases hk : ok s b with
      | false => rfl
      | true =>
        rw [cond_true]
        have := h1.2 b hb hk
        exact plG_hope hh m (s + 1) _ _ _ (by omega) (by omega)
    · rw [decide_eq_false hb, cond_false]
      exact plG_hope hh m (s + 1) _ _ _ (by omega) (by omega)
theorem plG_dead {ok : Nat → Nat → Bool} {fe : (Nat → Nat) → Bool} {B : Nat} : ∀ m s many a st, (∀ a', (∀ o, o < s → a' o = a o) → fe a' = false) → plG ok fe B m s many a st = st
  | 0, s, many, a, st, h => by
    simp only [plG]
    rw [h a (fun _ _ => rfl), Bool.false_and, cond_false]
  | m + 1, s, many, a, st, h => by
    simp only [plG]
    apply itF_same
    intro b _ _
    have ih := fun mm => plG_dead (ok := ok) (fe := fe) (B := B) m (s + 1) mm (plU a s b) st (fun a' ha => h a' (fun o ho => by rw [ha o (by omega), plU_o _ _ (by omega)]))
    rw [ih, ih]
    cases decide (b < B) <;> cases ok s b <;> rfl
def mxF (f : Nat → Nat) : Nat → Nat → Nat
  | _, 0 => 0
  | k, m + 1 => max (f k) (mxF f (k + 1) m)
theorem mxF_le {f f' : Nat → Nat} : ∀ m k, (∀ j, k ≤ j → j < k + m → f j ≤ f' j) → mxF f k m ≤ mxF f' k m
  | 0, _, _ => Nat.le_refl _
  | m + 1, k, h => by
    simp only [mxF]
    have h1 := h k (by omega) (by omega)
    have h2 := mxF_le m (k + 1) (fun j h1 h2 => h j (by omega) (by omega))
    omega
theorem mxF_top {f : Nat → Nat} {T : Nat} : ∀ m k, (∀ j, k ≤ j → j < k + m → f j ≤ T) → mxF f k m ≤ T
  | 0, _, _ => Nat.zero_le _
  | m + 1, k, h => by
    simp only [mxF]
    have h1 := h k (by omega) (by omega)
    have h2 := mxF_top m (k + 1) (fun j h1 h2 => h j (by omega) (by omega))
    omega
theorem mxF_at {f : Nat → Nat} {j : Nat} : ∀ m k, k ≤ j → j < k + m → f j ≤ mxF f k m
  | 0, _, _, _ => by omega
  | m + 1, k, h1, h2 => by
    simp only [mxF]
    by_cases e : j = k
    · subst e; omega
    · have := mxF_at (f := f) (j := j) m (k + 1) (by omega) (by omega)
      omega
/-- one above the most ships -/
def plN (ok : Nat → Nat → Bool) (fe : (Nat → Nat) → Bool) (B : Nat) : Nat → Nat → Nat → (Nat → Nat) → Nat
  | 0, _, many, a => bif fe a then many + 1 else 0
  | m + 1, s, many, a => mxF (fun b => bif decide (b < B) then (bif ok s b then plN ok fe B m (s + 1) (many + 1) (plU a s b) else 0) else plN ok fe B m (s + 1) many (plU a s b)) 0 (B + 1)
theorem itF_max {f : Nat → plT → plT} {g : Nat → Nat} (hf : ∀ k st, (f k st).1 = max st.1 (g k)) : ∀ m k st, (itF f k m st).1 = max st.1 (mxF g k m)
  | 0, k, st => by simp [itF, mxF]
  | m + 1, k, st => by
    simp only [itF, mxF]
    rw [itF_max hf m (k + 1), hf]
    omega
theorem plG_N {ok : Nat → Nat → Bool} {fe : (Nat → Nat) → Bool} {B : Nat} : ∀ m s many a st, (plG ok fe B m s many a st).1 = max st.1 (plN ok fe B m s many a)
  | 0, s, many, a, st => by
    simp only [plG, plN]
    cases fe a with
    | false => simp
    | true =>
      by_cases h : st.1 ≤ many
      · rw [decide_eq_true h]; simp only [Bool.and_self, cond_true]; omega
      · rw [decide_eq_false h]; simp only [Bool.and_false, cond_false, cond_true]; omega
  | m + 1, s, many, a, st => by
    simp only [plG, plN]
    apply itF_max
    intro b st
    cases decide (b < B) with
    | true =>
      simp only [cond_true]
      cases ok s b with
      | true => simp only [cond_true]; exact plG_N m _ _ _ _
      | false => simp only [cond_false]; omega
    | false => simp only [cond_false]; exact plG_N m _ _ _ _
theorem plN_mono {ok ok' : Nat → Nat → Bool} {fe fe' : (Nat → Nat) → Bool} {B n : Nat} (h1 : ∀ s b, s < n → b < B → ok s b = true → ok' s b = true) (h2 : ∀ a, fe a = true → fe' a = true) : ∀ m s many a, s + m = n → plN ok fe B m s many a ≤ plN ok' fe' B m s many a
  | 0, s, many, a, _ => by
    simp only [plN]
    cases hf : fe a with
    | false => exact Nat.zero_le _
    | true => rw [h2 a hf]; exact Nat.le_refl _
  | m + 1, s, many, a, hs => by
    simp only [plN]
    apply mxF_le
    intro b _ _
    by_cases hb : b < B
    · rw [decide_eq_true hb, cond_true, cond_true]
      cases hk : ok s b with
      | false => exact Nat.zero_le _
      | true =>
        rw [h1 s b (by omega) hb hk, cond_true, cond_true]
        exact plN_mono h1 h2 m _ _ _ (by omega)
    · rw [decide_eq_false hb, cond_false, cond_false]
      exact plN_mono h1 h2 m _ _ _ (by omega)
theorem plN_top {ok : Nat → Nat → Bool} {fe : (Nat → Nat) → Bool} {B : Nat} : ∀ m s many a, plN ok fe B m s many a ≤ many + m + 1
  | 0, s, many, a => by
    simp only [plN]
    cases fe a <;> simp
  | m + 1, s, many, a => by
    simp only [plN]
    apply mxF_top
    intro b _ _
    have a1 := plN_top (ok := ok) (fe := fe) (B := B) m (s + 1) (many + 1) (plU a s b)
    have a2 := plN_top (ok := ok) (fe := fe) (B := B) m (s + 1) many (plU a s b)
    cases decide (b < B) with
    | true =>
      rw [cond_true]
      cases ok s b with
      | true => rw [cond_true]; omega
      | false => rw [cond_false]; omega
    | false => rw [cond_false]; omega
theorem plN_one {ok : Nat → Nat → Bool} {fe : (Nat → Nat) → Bool} {B n : Nat} (h : ∀ a : Nat → Nat, (∀ o, o < n → ¬ a o < B) → fe a = true) : ∀ m s many a, s + m = n → (∀ o, o < s → ¬ a o < B) → 1 ≤ plN ok fe B m s many a
  | 0, s, many, a, hs, ha => by
    simp only [plN]
    rw [h a (fun o ho => ha o (by omega)), cond_true]
    omega
  | m + 1, s, many, a, hs, ha => by
    simp only [plN]
    have := mxF_at (f := fun b => bif decide (b < B) then (bif ok s b then plN ok fe B m (s + 1) (many + 1) (plU a s b) else 0) else plN ok fe B m (s + 1) many (plU a s b)) (j := B) (B + 1) 0 (by omega) (by omega)
    simp only [decide_eq_false (Nat.lt_irrefl B), cond_false] at this
    have h2 := plN_one (ok := ok) (fe := fe) h m (s + 1) many (plU a s B) (by omega) (fun o ho => by
      by_cases e : o = s
      · subst e; rw [plU_s]; omega
      · rw [plU_o _ _ e]; exact ha o (by omega))
    omega
