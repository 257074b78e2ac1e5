/-! ===== waits and berths: the model ===== -/
def x90 (k _ : Nat) : Bool := Nat.beq k 90
theorem ft1_0 {W : Nat} {F : Nat → Nat → Nat → Bool} {s b x : Nat} : ft1 W F s b x = 0 ↔ (decide (x ≤ W) && F s b x) = false := by
  unfold ft1
  cases (decide (x ≤ W) && F s b x) with
  | true => constructor <;> intro h <;> exact absurd h (by decide)
  | false => exact ⟨fun _ => rfl, fun _ => rfl⟩
/-- where ships wait, as the model keeps it -/
def waR (h : am_M) (B k : Nat) (a w : Nat → Nat) : Prop := ∀ o, o < k → (a o < B → h 90 o = Int32.ofNat (w o)) ∧ (¬ a o < B → h 90 o = -1)
def fwP (h0 h : am_M) (n B s : Nat) (a : Nat → Nat) (r : Option (Nat → Nat)) (v : Option Value) (h1 : am_M) : Prop := fr x90 h0 h1 ∧ (∀ o, o < s → h1 90 o = h 90 o) ∧ match r with
  | none => v = some (.int 0)
  | some w' => v = some (.int 1) ∧ waR h1 B n a w'
section
variable {h0 : am_M} {n B W : Nat} {ar sy : Nat → Nat} {F : Nat → Nat → Nat → Bool} {a : Nat → Nat}
theorem mx_186 (hm : mlc h0 n B W ar sy) (hF : mft h0 n B W F) (ha : ∀ j, j < n → h0 89 j = Int32.ofNat (a j) ∧ a j ≤ B) : ∀ (m s : Nat) (w : Nat → Nat) (h : am_M), s + m = n → fr x90 h0 h → waR h B s a w → (∀ o, o < s → a o < B → w o ≤ W) → mx (m + 1) 186 0 [some (.ref 64), some (.int (Int32.ofNat s)), none, none, none] [] h (fwP h0 h n B s a (plF (fun s => decide (a s < B)) (plC F (plOv ar sy) a) W m s w)) := by
  obtain ⟨⟨hn5, hB5, hW2⟩, ⟨en, eB, eW⟩, hA⟩ := hm
  intro m
  induction m with
  | zero =>
    intro s w h hs hf hw hwo
    have hse : s = n := by omega
    subst hse
    refine .end (some (.int 1)) h ⟨hf, fun _ _ => rfl, rfl, hw⟩ fun d L xs o g Q T hq => sm_186 ?_
    rw [hf 68 0 rfl, en]
    exact am_ift rfl hq
  | succ m ih =>
    intro s w h hs hf hw hwo
    have ne : ¬ Int32.ofNat s = Int32.ofNat n := by rw [nz_inj (by omega) (by omega)]; omega
    have i5 : am_ix (Int32.ofNat s) 5 := ix_n (by omega) (by decide)
    have i10 : am_ix (Int32.ofNat s) 10 := ix_n (by omega) (by decide)
    have e89 : ∀ h', fr x90 h0 h' → ∀ j, j < n → h' 89 j = Int32.ofNat (a j) := fun h' hf' j hj => by rw [hf' 89 j rfl]; exact (ha j hj).1
    have aB := (ha s (by omega)).2
    by_cases hr : a s < B
    rotate_left
    · have has : a s = B := by omega
      obtain ⟨v, h1, ⟨f1, f2, f3⟩, G⟩ := ih (s + 1) w (am_set h 90 s (-1)) (by omega) (hf.set 90 s _ rfl) (fun o ho => by
        by_cases e : o = s
        · subst e; exact ⟨fun q => absurd q hr, fun _ => as_self _ _ _ _⟩
        · rw [as_slot _ _ _ e]; exact hw o (by omega)) (fun o ho hlt => by
        by_cases e : o = s
        · subst e; exact absurd hlt hr
        · exact hwo o (by omega) hlt)
      simp only [plF, decide_eq_false hr, cond_false]
      have vb : ∃ z : Int32, v = some (.int z) ∧ am_bit z = true := by
        cases hc : plF (fun s => decide (a s < B)) (plC F (plOv ar sy) a) W m (s + 1) w with
        | none => rw [hc] at f3; exact ⟨0, f3, rfl⟩
        | some w' => rw [hc] at f3; exact ⟨1, f3.1, rfl⟩
      obtain ⟨z, hz, zb⟩ := vb
      refine .end v h1 ⟨f1, fun o ho => by rw [f2 o (by omega), as_slot _ _ _ (by omega)], f3⟩ fun d L xs o g Q T hq => sm_186 ?_
      rw [hf 68 0 rfl, en]
      refine am_iff ne ⟨i5, ?_⟩
      rw [nz_c s (by omega), e89 h hf s (by omega), hf 68 2 rfl, eB, has, nz_succ]
      refine am_ift rfl (G d L xs o g _ _ ?_)
      rw [hz] at hq ⊢
      exact sm_186_41 rfl rfl rfl rfl rfl ⟨zb, hq⟩
    · have ltB : ¬ Int32.ofNat (a s) = Int32.ofNat B := by rw [nz_inj (by omega) (by omega)]; omega
      have bs := hA s (by omega)
      -- those ahead in the same berth
      have fl : ∀ (P : Option Value → am_M → Prop) (x : Nat) (h' : am_M), x ≤ W → fr x90 h0 h' → waR h' B s a w → h' 90 s = Int32.ofNat x → ∀ (r o : Nat), o + r = s → (if anyF (fun q => decide (a q = a s) && plOv ar sy q (w q) s x) o r = true then ∀ q3 q4, am_nl q3 = true → am_nl q4 = true → mx (m + 2) 186 44 [some (.ref 64), some (.int (Int32.ofNat s)), some (.int (Int32.ofNat (x + 1))), q3, q4] [] h' P else mx (m + 2) 186 88 [some (.ref 64), some (.int (Int32.ofNat s)), some (.int (Int32.ofNat x)), some (.int 1), some (.int (Int32.ofNat s))] [] h' P) → mx (m + 2) 186 88 [some (.ref 64), some (.int (Int32.ofNat s)), some (.int (Int32.ofNat x)), some (.int 1), some (.int (Int32.ofNat o))] [] h' P := by
        intro P x h' hx hf' hw' e90 r
        induction r with
        | zero =>
          intro o ho K
          have hoe : o = s := by omega
          subst hoe
          rw [if_neg (by simp [anyF])] at K
          exact K
        | succ r ihr =>
          intro o ho K
          have lt : Int32.ofNat o < Int32.ofNat s := by rw [nz_nlt (by omega) (by omega)]; omega
          have j5 : am_ix (Int32.ofNat o) 5 := ix_n (by omega) (by decide)
          have j10 : am_ix (Int32.ofNat o) 10 := ix_n (by omega) (by decide)
          have bo := hA o (by omega)
          have go : ∀ {d L : Nat} {xs : Nat → Int32} {o' : am_L} {g : Nat} {Q : Option Value → am_M → am_L → Nat → Prop} {T : Nat → am_M → am_L → Nat → Prop}, (if a o = a s then (if ar o + w o < ar s + x + sy s then (if ar s + x < ar o + w o + sy o then am_X L xs (d + (m + 2)) 186 88 [some (.ref 64), some (.int (Int32.ofNat s)), some (.int (Int32.ofNat x)), some (.int 0), some (.int (Int32.ofNat (o + 1)))] [] am_C0 h' o' g Q T else am_X L xs (d + (m + 2)) 186 88 [some (.ref 64), some (.int (Int32.ofNat s)), some (.int (Int32.ofNat x)), some (.int 1), some (.int (Int32.ofNat (o + 1)))] [] am_C0 h' o' g Q T) else am_X L xs (d + (m + 2)) 186 88 [some (.ref 64), some (.int (Int32.ofNat s)), some (.int (Int32.ofNat x)), some (.int 1), some (.int (Int32.ofNat (o + 1)))] [] am_C0 h' o' g Q T) else am_X L xs (d + (m + 2)) 186 88 [some (.ref 64), some (.int (Int32.ofNat s)), some (.int (Int32.ofNat x)), some (.int 1), some (.int (Int32.ofNat (o + 1)))] [] am_C0 h' o' g Q T) → am_X L xs (d + (m + 2)) 186 88 [some (.ref 64), some (.int (Int32.ofNat s)), some (.int (Int32.ofNat x)), some (.int 1), some (.int (Int32.ofNat o))] [] am_C0 h' o' g Q T := fun {d L xs o' g Q T} H => by
            refine sm_186_88 (am_ift lt (am_iff (by decide) ⟨j5, i5, ?_⟩))
            rw [nz_c o (by omega), nz_c s (by omega), e89 h' hf' o (by omega), e89 h' hf' s (by omega), nz_succ]
            by_cases c1 : a o = a s
            · rw [if_pos c1] at H
              refine am_ift (by rw [c1]) ⟨j10, i10, ?_⟩
              have wo := hwo o (by omega) (by omega)
              rw [hf' 71 o rfl, hf' 71 s rfl, hf' 72 o rfl, hf' 72 s rfl, bo.1, bo.2.1, bs.1, bs.2.1, e90, (hw' o (by omega)).1 (by omega), ← Int32.ofNat_add, ← Int32.ofNat_add, ← Int32.ofNat_add, ← Int32.ofNat_add]
              by_cases c2 : ar o + w o < ar s + x + sy s
              · rw [if_pos c2] at H
                refine am_ift (by rw [nz_nlt (by omega) (by omega)]; exact c2) ?_
                by_cases c3 : ar s + x < ar o + w o + sy o
                · rw [if_pos c3] at H
                  exact am_ift (by rw [nz_nlt (by omega) (by omega)]; exact c3) H
                · rw [if_neg c3] at H
                  exact am_iff (by rw [nz_nlt (by omega) (by omega)]; exact c3) H
              · rw [if_neg c2] at H
                exact am_iff (by rw [nz_nlt (by omega) (by omega)]; exact c2) H
            · rw [if_neg c1] at H
              exact am_iff (by rw [nz_inj (by have := (ha o (by omega)).2; omega) (by omega)]; exact c1) H
          by_cases hit : a o = a s ∧ ar o + w o < ar s + x + sy s ∧ ar s + x < ar o + w o + sy o
          · have ea : anyF (fun q => decide (a q = a s) && plOv ar sy q (w q) s x) o (r + 1) = true := by
              simp only [anyF]
              rw [decide_eq_true hit.1]
              unfold plOv
              rw [decide_eq_true hit.2]
              rfl
            rw [if_pos ea] at K
            refine (K (some (.int 0)) (some (.int (Int32.ofNat (o + 1)))) rfl rfl).go fun d L xs o' g Q T hx' => go ?_
            rw [if_pos hit.1, if_pos hit.2.1, if_pos hit.2.2]
            refine sm_186_88 ?_
            rw [nz_succ]
            by_cases c : Int32.ofNat (o + 1) < Int32.ofNat s
            · exact am_ift c (am_ift rfl hx')
            · exact am_iff c (am_ift rfl hx')
          · have ea : anyF (fun q => decide (a q = a s) && plOv ar sy q (w q) s x) o (r + 1) = anyF (fun q => decide (a q = a s) && plOv ar sy q (w q) s x) (o + 1) r := by
              simp only [anyF]
              have : (decide (a o = a s) && plOv ar sy o (w o) s x) = false := by
                unfold plOv
                rw [Bool.and_eq_false_iff]
                by_cases c : a o = a s
                · exact .inr (decide_eq_false fun q => hit ⟨c, q⟩)
                · exact .inl (decide_eq_false c)
              rw [this, Bool.false_or]
            rw [ea] at K
            refine (ihr (o + 1) (by omega) K).go fun d L xs o' g Q T hx' => go ?_
            by_cases c1 : a o = a s
            · rw [if_pos c1]
              by_cases c2 : ar o + w o < ar s + x + sy s
              · rw [if_pos c2, if_neg (fun c3 => hit ⟨c1, c2, c3⟩)]
                exact hx'
              · rw [if_neg c2]
                exact hx'
            · rw [if_neg c1]
              exact hx'
      have lp : ∀ (r x : Nat) (q3 q4 : Option Value) (h' : am_M), am_nl q3 = true → am_nl q4 = true → x + r = W + 1 → fr x90 h0 h' → (∀ o, o < s → h' 90 o = h 90 o) → mx (m + 2) 186 44 [some (.ref 64), some (.int (Int32.ofNat s)), some (.int (Int32.ofNat x)), q3, q4] [] h' (fwP h0 h n B s a (plX (fun x => bif plC F (plOv ar sy) a s x w then plF (fun s => decide (a s < B)) (plC F (plOv ar sy) a) W m (s + 1) (plU w s x) else none) x r)) := by
        intro r
        induction r with
        | zero =>
          intro x q3 q4 h' hq3 hq4 hx hf' hk
          refine .end (some (.int 0)) h' ⟨hf', hk, rfl⟩ fun d L xs o g Q T hq => sm_186_44 hq3 hq4 ?_
          rw [hf' 68 5 rfl, eW]
          exact am_ift (by rw [nz_nlt (by omega) (by omega)]; omega) hq
        | succ r ihr =>
          intro x q3 q4 h' hq3 hq4 hx hf' hk
          obtain ⟨i1, i2⟩ := f183_ix (s := s) (b := a s) (x := x) (by omega) (by omega) (by omega)
          have wx : ¬ Int32.ofNat W < Int32.ofNat x := by rw [nz_nlt (by omega) (by omega)]; omega
          have eF : h' 88 ((s * 5 + a s) * 3 + x) = ft1 W F s (a s) x := by rw [hf' 88 _ rfl]; exact hF s (a s) x (by omega) hr (by omega)
          have skip : plC F (plOv ar sy) a s x w = false → plX (fun x => bif plC F (plOv ar sy) a s x w then plF (fun s => decide (a s < B)) (plC F (plOv ar sy) a) W m (s + 1) (plU w s x) else none) x (r + 1) = plX (fun x => bif plC F (plOv ar sy) a s x w then plF (fun s => decide (a s < B)) (plC F (plOv ar sy) a) W m (s + 1) (plU w s x) else none) (x + 1) r := fun ef => by
            simp only [plX, ef, cond_false]
          by_cases c1 : F s (a s) x = true
          rotate_left
          · have c1' : F s (a s) x = false := by simpa using c1
            rw [skip (by unfold plC; rw [c1', Bool.false_and])]
            refine (ihr (x + 1) q3 q4 h' hq3 hq4 (by omega) hf' hk).go fun d L xs o g Q T hx' => sm_186_44 hq3 hq4 ?_
            rw [hf' 68 5 rfl, eW]
            refine am_iff wx ⟨i5, ?_⟩
            rw [nz_c s (by omega), e89 h' hf' s (by omega)]
            refine ⟨i1, ?_⟩
            rw [i2, eF, nz_succ]
            exact am_ift (ft1_0.2 (by rw [c1', Bool.and_false])) hx'
          have f2 : fr x90 h0 (am_set h' 90 s (Int32.ofNat x)) := hf'.set 90 s _ rfl
          have k2 : ∀ o, o < s → (am_set h' 90 s (Int32.ofNat x)) 90 o = h 90 o := fun o ho => by rw [as_slot _ _ _ (by omega)]; exact hk o ho
          have w2 : waR (am_set h' 90 s (Int32.ofNat x)) B s a w := fun o ho => by rw [k2 o ho]; exact hw o ho
          have head : ∀ {d L : Nat} {xs : Nat → Int32} {o : am_L} {g : Nat} {Q : Option Value → am_M → am_L → Nat → Prop} {T : Nat → am_M → am_L → Nat → Prop}, am_X L xs (d + (m + 2)) 186 88 [some (.ref 64), some (.int (Int32.ofNat s)), some (.int (Int32.ofNat x)), some (.int 1), some (.int (Int32.ofNat 0))] [] am_C0 (am_set h' 90 s (Int32.ofNat x)) o g Q T → am_X L xs (d + (m + 2)) 186 44 [some (.ref 64), some (.int (Int32.ofNat s)), some (.int (Int32.ofNat x)), q3, q4] [] am_C0 h' o g Q T := fun {d L xs o g Q T} H => by
            refine sm_186_44 hq3 hq4 ?_
            rw [hf' 68 5 rfl, eW]
            refine am_iff wx ⟨i5, ?_⟩
            rw [nz_c s (by omega), e89 h' hf' s (by omega)]
            refine ⟨i1, ?_⟩
            rw [i2, eF]
            exact am_iff (fun q => by rw [ft1_0, c1, Bool.and_true, decide_eq_false_iff_not] at q; omega) H
          by_cases c2 : anyF (fun q => decide (a q = a s) && plOv ar sy q (w q) s x) 0 s = true
          · rw [skip (by unfold plC; rw [c2]; simp)]
            refine (fl _ x _ (by omega) f2 w2 (as_self _ _ _ _) s 0 (by omega) ?_).go fun d L xs o g Q T hx' => head hx'
            rw [if_pos c2]
            exact fun q3 q4 h3 h4 => ihr (x + 1) q3 q4 _ h3 h4 (by omega) f2 k2
          have c2' : anyF (fun q => decide (a q = a s) && plOv ar sy q (w q) s x) 0 s = false := by simpa using c2
          have et : plC F (plOv ar sy) a s x w = true := by unfold plC; rw [c1, c2']; rfl
          obtain ⟨v, h3, ⟨g1, g2, g3⟩, G⟩ := ih (s + 1) (plU w s x) (am_set h' 90 s (Int32.ofNat x)) (by omega) f2 (fun o ho => by
            by_cases e : o = s
            · subst e; rw [plU_s]; exact ⟨fun _ => as_self _ _ _ _, fun q => absurd hr q⟩
            · rw [plU_o _ _ e]; exact w2 o (by omega)) (fun o ho hlt => by
            by_cases e : o = s
            · subst e; rw [plU_s]; omega
            · rw [plU_o _ _ e]; exact hwo o (by omega) hlt)
          have k3 : ∀ o, o < s → h3 90 o = h 90 o := fun o ho => by rw [g2 o (by omega)]; exact k2 o ho
          cases hc : plF (fun s => decide (a s < B)) (plC F (plOv ar sy) a) W m (s + 1) (plU w s x) with
          | none =>
            rw [hc] at g3
            subst g3
            have e : plX (fun x => bif plC F (plOv ar sy) a s x w then plF (fun s => decide (a s < B)) (plC F (plOv ar sy) a) W m (s + 1) (plU w s x) else none) x (r + 1) = plX (fun x => bif plC F (plOv ar sy) a s x w then plF (fun s => decide (a s < B)) (plC F (plOv ar sy) a) W m (s + 1) (plU w s x) else none) (x + 1) r := by
              simp only [plX, et, cond_true, hc]
            rw [e]
            refine (fl _ x _ (by omega) f2 w2 (as_self _ _ _ _) s 0 (by omega) ?_).go fun d L xs o g Q T hx' => head hx'
            rw [if_neg c2]
            refine (ihr (x + 1) (some (.int 1)) (some (.int (Int32.ofNat s))) h3 rfl rfl (by omega) g1 k3).go fun d L xs o g Q T hx' => sm_186_88 (am_iff (by rw [nz_nlt (by omega) (by omega)]; omega) (am_iff (by decide) ?_))
            rw [nz_succ]
            refine G d L xs o g _ _ (sm_186_147 rfl rfl (am_ift rfl ?_))
            rw [nz_succ]
            exact hx'
          | some w' =>
            rw [hc] at g3
            obtain ⟨rfl, g4⟩ := g3
            have e : plX (fun x => bif plC F (plOv ar sy) a s x w then plF (fun s => decide (a s < B)) (plC F (plOv ar sy) a) W m (s + 1) (plU w s x) else none) x (r + 1) = some w' := by
              simp only [plX, et, cond_true, hc]
            rw [e]
            refine (fl _ x _ (by omega) f2 w2 (as_self _ _ _ _) s 0 (by omega) ?_).go fun d L xs o g Q T hx' => head hx'
            rw [if_neg c2]
            refine .end (some (.int 1)) h3 ⟨g1, k3, rfl, g4⟩ fun d L xs o g Q T hq => sm_186_88 (am_iff (by rw [nz_nlt (by omega) (by omega)]; omega) (am_iff (by decide) ?_))
            rw [nz_succ]
            exact G d L xs o g _ _ (sm_186_147 rfl rfl (am_iff (by decide) hq))
      simp only [plF, decide_eq_true hr, cond_true]
      refine (lp (W + 1) 0 none none h rfl rfl (by omega) hf (fun _ _ => rfl)).go fun d L xs o g Q T hx => sm_186 ?_
      rw [hf 68 0 rfl, en]
      refine am_iff ne ⟨i5, ?_⟩
      rw [nz_c s (by omega), e89 h hf s (by omega), hf 68 2 rfl, eB]
      exact am_iff ltB hx
end
