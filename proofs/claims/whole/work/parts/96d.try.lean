/-! ===== places, tries, the search: the class ===== -/
def pcI (wt : Nat → Nat → Nat → Int32) (W s b : Nat) (v : Int32) : Nat := smN (fun x => bif decide (¬ wt s b x < v) then 1 else 0) 0 (W + 1)
def pcO (wt : Nat → Nat → Nat → Int32) (B W s : Nat) (v : Int32) : Nat := smN (fun b => pcI wt W s b v) 0 B
theorem one_le (c : Bool) : (bif c then 1 else 0 : Nat) ≤ 1 := by cases c <;> decide
theorem pcI_le (wt : Nat → Nat → Nat → Int32) (W s b : Nat) (v : Int32) : pcI wt W s b v ≤ W + 1 := by
  have := smN_le (f := fun x => bif decide (¬ wt s b x < v) then 1 else 0) (B := 1) (fun x => one_le _) (W + 1) 0
  unfold pcI
  omega
theorem pcO_le (wt : Nat → Nat → Nat → Int32) (B W s : Nat) (v : Int32) : pcO wt B W s v ≤ B * (W + 1) := smN_le (fun b => pcI_le wt W s b v) B 0
theorem pcI_pos {wt : Nat → Nat → Nat → Int32} {W s b : Nat} {v : Int32} : 0 < pcI wt W s b v ↔ anyF (fun x => decide (¬ wt s b x < v)) 0 (W + 1) = true := by
  unfold pcI
  rw [smN_pos, anyF_congr]
  intro x _ _
  cases decide (¬ wt s b x < v) <;> rfl
theorem pcO_pos {wt : Nat → Nat → Nat → Int32} {B W s : Nat} {v : Int32} : 0 < pcO wt B W s v ↔ ∃ b, b < B ∧ anyF (fun x => decide (¬ wt s b x < v)) 0 (W + 1) = true := by
  unfold pcO
  rw [smN_pos, anyF_iff]
  constructor
  · rintro ⟨b, _, h1, h2⟩
    exact ⟨b, by omega, pcI_pos.1 (by simpa using h2)⟩
  · rintro ⟨b, h1, h2⟩
    exact ⟨b, by omega, by omega, by simpa using pcI_pos.2 h2⟩
theorem smN_last (f : Nat → Nat) : ∀ m k, smN f k (m + 1) = smN f k m + f (k + m)
  | 0, k => by simp [smN]
  | m + 1, k => by
    have := smN_last f m (k + 1)
    rw [smN, this, smN, show k + 1 + m = k + (m + 1) by omega]
    omega
section
variable {h : am_M} {n B W : Nat} {ar sy : Nat → Nat} {wt : Nat → Nat → Nat → Int32} {nd : Nat → Int32}
theorem mv_89 (hp : plc h n B W ar sy) (hw : plw h n B W wt) {s b : Nat} {v : Int32} (hs : s < n) (hb : b < B) : mv 0 89 [some (.ref 45), some (.int (Int32.ofNat b)), some (.int (Int32.ofNat s)), some (.int v), none, none] h (some (.int (Int32.ofNat (pcI wt W s b v)))) h := fun d L xs o g Q T hq => by
  obtain ⟨⟨hn5, hB5, hW2⟩, ⟨en, eB, eW⟩, hA⟩ := hp
  have w2 : ¬ 2 < h 12 2 := by rw [eW]; show ¬ Int32.ofNat 2 < Int32.ofNat W; rw [nz_nlt (by decide) (by omega)]; omega
  have lp : ∀ r x acc, x + r = W + 1 → Q (some (.int (Int32.ofNat (acc + smN (fun x => bif decide (¬ wt s b x < v) then 1 else 0) x r)))) h o g → am_X L xs d 89 6 [some (.ref 45), some (.int (Int32.ofNat b)), some (.int (Int32.ofNat s)), some (.int v), some (.int (Int32.ofNat acc)), some (.int (Int32.ofNat x))] [] am_C0 h o g Q T := by
    intro r
    induction r with
    | zero =>
      intro x acc hx hq
      refine sm_89_6u (by omega) (by omega) (by omega) w2 ?_
      rw [eW]
      exact am_ift (by rw [nz_nlt (by omega) (by omega)]; omega) hq
    | succ r ih =>
      intro x acc hx hq
      refine sm_89_6u (by omega) (by omega) (by omega) w2 ?_
      rw [eW]
      refine am_iff (by rw [nz_nlt (by omega) (by omega)]; omega) ?_
      rw [hw s b x hs hb (by omega)]
      simp only [smN] at hq
      by_cases c : wt s b x < v
      · rw [decide_eq_false (fun h => h c), cond_false, Nat.zero_add] at hq
        exact am_ift c (ih (x + 1) acc (by omega) hq)
      · rw [decide_eq_true c, cond_true, ← Nat.add_assoc] at hq
        refine am_iff c ?_
        rw [nz_succ acc]
        exact ih (x + 1) (acc + 1) (by omega) hq
  refine sm_89 (lp (W + 1) 0 0 (by omega) ?_)
  rw [Nat.zero_add]
  exact hq
theorem mv_88 (hp : plc h n B W ar sy) (hw : plw h n B W wt) {s : Nat} {v : Int32} (hs : s < n) : mv 1 88 [some (.ref 45), some (.int (Int32.ofNat s)), some (.int v), none, none] h (some (.int (Int32.ofNat (pcO wt B W s v)))) h := fun d L xs o g Q T hq => by
  have hp' := hp
  obtain ⟨⟨hn5, hB5, hW2⟩, ⟨en, eB, eW⟩, hA⟩ := hp'
  have lp : ∀ r b acc, b + r = B → Q (some (.int (Int32.ofNat (acc + smN (fun b => pcI wt W s b v) b r)))) h o g → am_X L xs (d + 1) 88 5 [some (.ref 45), some (.int (Int32.ofNat s)), some (.int v), some (.int (Int32.ofNat acc)), some (.int (Int32.ofNat b))] [] am_C0 h o g Q T := by
    intro r
    induction r with
    | zero =>
      intro b acc hb hq
      refine sm_88_5 ?_
      rw [eB]
      exact am_iff (by rw [nz_nlt (by omega) (by omega)]; omega) hq
    | succ r ih =>
      intro b acc hb hq
      refine sm_88_5 ?_
      rw [eB]
      refine am_ift (by rw [nz_nlt (by omega) (by omega)]; omega) ((mv_89 hp hw hs (show b < B by omega)).use (sm_88_26 rfl ?_))
      rw [show Int32.ofNat acc + Int32.ofNat (pcI wt W s b v) = Int32.ofNat (acc + pcI wt W s b v) from (Int32.ofNat_add _ _).symm, nz_succ]
      refine ih (b + 1) _ (by omega) ?_
      simp only [smN] at hq
      rw [Nat.add_assoc]
      exact hq
  refine sm_88 (lp B 0 0 (by omega) ?_)
  rw [Nat.zero_add]
  exact hq
end
def clr (u s : Nat) : Nat := if u.testBit s = true then u - 2 ^ s else u
theorem bt_clr : ∀ (u : Fin 32) (s : Fin 5), Int32.ofNat u.val &&& (bt s.val ^^^ (-1)) = Int32.ofNat (clr u.val s.val) ∧ clr u.val s.val < 32 := by decide +kernel
theorem bt_clt : ∀ (u : Fin 32) (s t : Fin 5), (clr u.val s.val).testBit t.val = (u.val.testBit t.val && decide (¬ t.val = s.val)) := by decide +kernel
def enB (B x : Nat) : Int32 := if x < B then Int32.ofNat x else -1
def xT (k j : Nat) : Bool := Nat.beq k 47 || (Nat.beq k 48 || (Nat.beq k 57 || (Nat.beq k 58 || (Nat.beq k 45 && Nat.beq j 9))))
theorem xT_w {s j : Nat} (hs : s < 5) : xT (50 + s) j = false := by
  have e : s = 0 ∨ s = 1 ∨ s = 2 ∨ s = 3 ∨ s = 4 := by omega
  rcases e with e | e | e | e | e <;> subst e <;> rfl
/-- the tries' heap: ships below k have berths by a, the best so far is st -/
def CS (h0 h : am_M) (n B : Nat) (a : Nat → Nat) (k : Nat) (st : plT) : Prop := fr xT h0 h ∧ (h 45 9 = Int32.ofNat st.1 - 1 ∧ st.1 ≤ 6) ∧ (∀ j, j < k → h 57 j = enB B (a j)) ∧ (∀ b, b < B → ∃ u, u < 32 ∧ h 58 b = Int32.ofNat u ∧ ∀ o, o < 5 → u.testBit o = (decide (o < k) && decide (a o = b))) ∧ (0 < st.1 → ∀ j, j < n → h 47 j = enB B (st.2 j))
theorem CS.down {h0 h : am_M} {n B : Nat} {a : Nat → Nat} {k : Nat} {st : plT} (H : CS h0 h n B (plU a k B) (k + 1) st) : CS h0 h n B a k st := by
  obtain ⟨h1, h2, h3, h4, h5⟩ := H
  refine ⟨h1, h2, fun j hj => by rw [h3 j (by omega), plU_o _ _ (by omega)], fun b hb => ?_, h5⟩
  obtain ⟨u, u1, u2, u3⟩ := h4 b hb
  refine ⟨u, u1, u2, fun o ho => ?_⟩
  rw [u3 o ho]
  by_cases e : o = k
  · subst e
    rw [plU_s, decide_eq_false (show ¬ B = b by omega), decide_eq_false (Nat.lt_irrefl o), Bool.and_false, Bool.false_and]
  · rw [plU_o _ _ e, Bool.eq_iff_iff]
    simp only [Bool.and_eq_true, decide_eq_true_eq]
    omega
theorem CS.none {h0 h : am_M} {n B : Nat} {a : Nat → Nat} {k : Nat} {st : plT} (H : CS h0 h n B a k st) : CS h0 (am_set h 57 k (-1)) n B (plU a k B) (k + 1) st := by
  obtain ⟨h1, h2, h3, h4, h5⟩ := H
  refine ⟨h1.set 57 k _ rfl, h2, fun j hj => ?_, fun b hb => ?_, h5⟩
  · by_cases e : j = k
    · subst e; rw [as_self, plU_s]; unfold enB; rw [if_neg (Nat.lt_irrefl B)]
    · rw [as_slot _ _ _ e, plU_o _ _ e]; exact h3 j (by omega)
  · obtain ⟨u, u1, u2, u3⟩ := h4 b hb
    refine ⟨u, u1, u2, fun o ho => ?_⟩
    rw [u3 o ho]
    by_cases e : o = k
    · subst e
      rw [plU_s, decide_eq_false (show ¬ B = b by omega), decide_eq_false (Nat.lt_irrefl o), Bool.and_false, Bool.false_and]
    · rw [plU_o _ _ e, Bool.eq_iff_iff]
      simp only [Bool.and_eq_true, decide_eq_true_eq]
      omega
theorem CS.put {h0 h : am_M} {n B : Nat} {a : Nat → Nat} {k b u : Nat} {st : plT} (hk : k < 5) (hB : B ≤ 5) (hb : b < B) (hu : u < 32) (H : CS h0 h n B a k st) (eu : h 58 b = Int32.ofNat u) (tu : ∀ o, o < 5 → u.testBit o = (decide (o < k) && decide (a o = b))) : CS h0 (am_set (am_set h 58 b (Int32.ofNat (u ||| 2 ^ k))) 57 k (Int32.ofNat b)) n B (plU a k b) (k + 1) st := by
  obtain ⟨h1, h2, h3, h4, h5⟩ := H
  have b3 := bt_or ⟨u, hu⟩ ⟨k, hk⟩
  refine ⟨(h1.set 58 b _ rfl).set 57 k _ rfl, h2, fun j hj => ?_, fun b' hb' => ?_, h5⟩
  · by_cases e : j = k
    · subst e; rw [as_self, plU_s]; unfold enB; rw [if_pos hb]
    · rw [as_slot _ _ _ e, plU_o _ _ e]; exact h3 j (by omega)
  · by_cases e : b' = b
    · subst e
      refine ⟨u ||| 2 ^ k, b3.2, by rw [as_cell _ _ _ (by decide), as_self], fun o ho => ?_⟩
      rw [bt_set ⟨u, hu⟩ ⟨k, hk⟩ ⟨o, ho⟩]
      simp only
      rw [tu o ho]
      by_cases e : o = k
      · subst e
        rw [plU_s, decide_eq_true rfl, decide_eq_true rfl, decide_eq_true (Nat.lt_succ_self o), Bool.or_true, Bool.and_true]
      · rw [plU_o _ _ e, decide_eq_false e, Bool.or_false, Bool.eq_iff_iff]
        simp only [Bool.and_eq_true, decide_eq_true_eq]
        omega
    · obtain ⟨u', u1, u2, u3⟩ := h4 b' hb'
      refine ⟨u', u1, by rw [as_cell _ _ _ (by decide), as_slot _ _ _ e]; exact u2, fun o ho => ?_⟩
      rw [u3 o ho]
      by_cases e2 : o = k
      · subst e2
        rw [plU_s, decide_eq_false (show ¬ b = b' from fun h => e h.symm), decide_eq_false (Nat.lt_irrefl o), Bool.and_false, Bool.false_and]
      · rw [plU_o _ _ e2, Bool.eq_iff_iff]
        simp only [Bool.and_eq_true, decide_eq_true_eq]
        omega
theorem CS.take {h0 h : am_M} {n B : Nat} {a : Nat → Nat} {k b : Nat} {st : plT} (hk : k < 5) (hB : B ≤ 5) (hb : b < B) (H : CS h0 h n B (plU a k b) (k + 1) st) : CS h0 (am_set h 58 b (h 58 b &&& (bt k ^^^ (-1)))) n B a k st := by
  obtain ⟨h1, h2, h3, h4, h5⟩ := H
  refine ⟨h1.set 58 b _ rfl, h2, fun j hj => ?_, fun b' hb' => ?_, h5⟩
  · rw [as_cell _ _ _ (by decide), h3 j (by omega), plU_o _ _ (by omega)]
  · obtain ⟨u, u1, u2, u3⟩ := h4 b' hb'
    by_cases e : b' = b
    · subst e
      have c1 := bt_clr ⟨u, u1⟩ ⟨k, hk⟩
      refine ⟨clr u k, c1.2, by rw [as_self, u2]; exact c1.1, fun o ho => ?_⟩
      rw [bt_clt ⟨u, u1⟩ ⟨k, hk⟩ ⟨o, ho⟩]
      simp only
      rw [u3 o ho]
      by_cases e : o = k
      · subst e
        rw [decide_eq_false (show ¬ ¬ o = o from fun h => h rfl), decide_eq_false (Nat.lt_irrefl o), Bool.and_false, Bool.false_and]
      · rw [plU_o _ _ e, decide_eq_true e, Bool.and_true, Bool.eq_iff_iff]
        simp only [Bool.and_eq_true, decide_eq_true_eq]
        omega
    · refine ⟨u, u1, by rw [as_slot _ _ _ e]; exact u2, fun o ho => ?_⟩
      rw [u3 o ho]
      by_cases e2 : o = k
      · subst e2
        rw [plU_s, decide_eq_false (show ¬ b = b' from fun h => e h.symm), decide_eq_false (Nat.lt_irrefl o), Bool.and_false, Bool.false_and]
      · rw [plU_o _ _ e2, Bool.eq_iff_iff]
        simp only [Bool.and_eq_true, decide_eq_true_eq]
        omega
theorem mo_lt {c x : Nat} (hc : c ≤ 100) (hx : x ≤ 100) : Int32.ofNat c - 1 < Int32.ofNat x ↔ c ≤ x := by
  have e1 : (1 : Int32).toInt = 1 := rfl
  have e2 := nz_n c (by omega)
  have e3 := nz_n x (by omega)
  rw [nz_lt, nz_sub (by rw [e2, e1]; omega) (by rw [e2, e1]; omega), e1, e2, e3]
  omega
theorem plc.fr {X : Nat → Nat → Bool} {h0 h : am_M} {n B W : Nat} {ar sy : Nat → Nat} (H : plc h0 n B W ar sy) (f : fr X h0 h) (x3 : ∀ j, X 3 j = false) (x12 : X 12 2 = false) (x6 : ∀ j, X 6 j = false) (x7 : ∀ j, X 7 j = false) : plc h n B W ar sy := by
  obtain ⟨h1, ⟨h2, h3, h4⟩, h5⟩ := H
  refine ⟨h1, ⟨by rw [f 3 0 (x3 0)]; exact h2, by rw [f 3 2 (x3 2)]; exact h3, by rw [f 12 2 x12]; exact h4⟩, fun s hs => ?_⟩
  rw [f 6 s (x6 s), f 7 s (x7 s)]
  exact h5 s hs
section
variable {h0 : am_M} {n B W : Nat} {ar sy : Nat → Nat} {wt : Nat → Nat → Nat → Int32} {nd : Nat → Int32} {hp : Nat → Nat}
/-- fits, of the ships so far and one more -/
theorem fit_B {a : Nat → Nat} {k b u : Nat} (hk : k < n) (hn : n ≤ 5) (tu : ∀ o, o < 5 → u.testBit o = (decide (o < k + 1) && decide (plU a k b o = b))) (w : Nat → Nat) : plF (fun o => u.testBit o) (plCb (plFt wt nd) (plOv ar sy) (fun o => u.testBit o) b) W n 0 w = plB (plFt wt nd) (plOv ar sy) W n (plU a k b) (k + 1) b w := by
  unfold plB
  apply plF_congr
  intro o _ ho
  refine ⟨tu o (by omega), fun hr x w' _ => ?_⟩
  rw [tu o (by omega), Bool.and_eq_true, decide_eq_true_eq, decide_eq_true_eq] at hr
  unfold plCb plC
  rw [hr.2]
  congr 2
  apply anyF_congr
  intro q _ hq
  show (u.testBit q && _) = _
  rw [tu q (by omega), decide_eq_true (show q < k + 1 by omega), Bool.true_and]
set_option maxHeartbeats 4000000 in
theorem mx_91 (hc : plc h0 n B W ar sy) (hw : plw h0 n B W wt) (hnd : pnd h0 n nd) (hh : ∀ s, s ≤ n → h0 56 s = Int32.ofNat (hp s) ∧ hp s ≤ 5) (hz : hp n = 0) (hpp : ∀ s, s < n → hp (s + 1) ≤ hp s ∧ (∀ b, b < B → anyF (fun x => plFt wt nd s b x) 0 (W + 1) = true → hp (s + 1) + 1 ≤ hp s)) : ∀ (m s placed : Nat) (a : Nat → Nat) (st : plT) (h : am_M), s + m = n → placed ≤ s → CS h0 h n B a s st → (∀ b, b < B → plQ (plFt wt nd) (plOv ar sy) W n a s b) → mx (m + 7) 91 0 [some (.ref 45), some (.int (Int32.ofNat s)), some (.int (Int32.ofNat placed)), none, none] [] h (fun v h1 => v = none ∧ CS h0 h1 n B a s (plG (fun s b => anyF (fun x => plFt wt nd s b x) 0 (W + 1)) (plE (plFt wt nd) (plOv ar sy) B W n) B m s placed a st)) := by
  have hc' := hc
  obtain ⟨⟨hn5, hB5, hW2⟩, ⟨en, eB, eW⟩, hA⟩ := hc'
  intro m
  induction m with
  | zero =>
    intro s placed a st h hs hpl H hq
    have H' := H
    obtain ⟨f1, ⟨f2, f2'⟩, f3, f4, f5⟩ := H'
    have hse : s = n := by omega
    subst hse
    have e56 : h 56 s = Int32.ofNat (hp s) := by rw [f1 56 s rfl]; exact (hh s (by omega)).1
    have add : Int32.ofNat placed + Int32.ofNat (hp s) = Int32.ofNat placed := by rw [hz, ← Int32.ofNat_add, Nat.add_zero]
    have fe : plE (plFt wt nd) (plOv ar sy) B W s a = true := plE_all hq
    simp only [plG]
    rw [fe, Bool.true_and]
    by_cases c : st.1 ≤ placed
    · rw [decide_eq_true c, cond_true]
      refine .end none (am_cpy (am_set h 45 9 (Int32.ofNat placed)) 57 47 0 0 5) ⟨rfl, ?_, ⟨?_, by show placed + 1 ≤ 6; omega⟩, fun j hj => f3 j hj, fun b hb => f4 b hb, fun _ j hj => ?_⟩ fun d L xs o g Q T hqq => sm_91 ⟨ix_n (by omega) (by decide), ?_⟩
      · intro k j hk
        unfold am_cpy
        have k47 : ¬ k = 47 := fun e => by subst e; cases hk
        rw [show va_up (am_set h 45 9 (Int32.ofNat placed)) 47 (va_cpy ((am_set h 45 9 (Int32.ofNat placed)) 57) ((am_set h 45 9 (Int32.ofNat placed)) 47) 0 0 5) k = (am_set h 45 9 (Int32.ofNat placed)) k from by simp [va_up, k47]]
        exact (f1.set 45 9 _ rfl) k j hk
      · show Int32.ofNat placed = Int32.ofNat (placed + 1) - 1
        rw [← nz_succ, Int32.add_sub_cancel]
      · show va_cpy (h 57) (h 47) 0 0 5 j = enB B (a j)
        rw [← f3 j hj]
        unfold va_cpy
        rw [if_pos (by omega)]
        congr 1
        omega
      · rw [nz_c s (by omega), f2, e56, add, f1 3 0 rfl, en]
        exact am_ift ((mo_lt (by omega) (by omega)).2 c) (am_iff (by rw [nz_nlt (by omega) (by omega)]; omega) hqq)
    · rw [decide_eq_false c, cond_false]
      refine .end none h ⟨rfl, H⟩ fun d L xs o g Q T hqq => sm_91 ⟨ix_n (by omega) (by decide), ?_⟩
      rw [nz_c s (by omega), f2, e56, add]
      exact am_iff (fun e => c ((mo_lt (by omega) (by omega)).1 e)) hqq
  | succ m ih =>
    intro s placed a st h hs hpl H hq
    have i5 : am_ix (Int32.ofNat s) 5 := ix_n (by omega) (by decide)
    have lts : Int32.ofNat s < Int32.ofNat n := by rw [nz_nlt (by omega) (by omega)]; omega
    have cut : ¬ st.1 ≤ placed + hp s → plG (fun s b => anyF (fun x => plFt wt nd s b x) 0 (W + 1)) (plE (plFt wt nd) (plOv ar sy) B W n) B (m + 1) s placed a st = st := fun c => plG_hope hpp (m + 1) s placed a st hs (by omega)
    have e56 : h 56 s = Int32.ofNat (hp s) := by rw [H.1 56 s rfl]; exact (hh s (by omega)).1
    have add : Int32.ofNat placed + Int32.ofNat (hp s) = Int32.ofNat (placed + hp s) := (Int32.ofNat_add _ _).symm
    have hps := (hh s (by omega)).2
    by_cases c : st.1 ≤ placed + hp s
    rotate_left
    · rw [cut c]
      refine .end none h ⟨rfl, H⟩ fun d L xs o g Q T hqq => sm_91 ⟨ix_n (by omega) (by decide), ?_⟩
      rw [nz_c s (by omega), H.2.1.1, e56, add]
      exact am_iff (fun e => c ((mo_lt (by have := H.2.1.2; omega) (by omega)).1 e)) hqq
    have lp : ∀ (r b : Nat) (st : plT) (h : am_M), b + r = B → CS h0 h n B a s st → mx (m + 1 + 7) 91 54 [some (.ref 45), some (.int (Int32.ofNat s)), some (.int (Int32.ofNat placed)), some (.int (bt s)), some (.int (Int32.ofNat b))] [] h (fun v h1 => v = none ∧ CS h0 h1 n B a s (itF (fun b st => bif decide (b < B) then (bif anyF (fun x => plFt wt nd s b x) 0 (W + 1) then plG (fun s b => anyF (fun x => plFt wt nd s b x) 0 (W + 1)) (plE (plFt wt nd) (plOv ar sy) B W n) B m (s + 1) (placed + 1) (plU a s b) st else st) else plG (fun s b => anyF (fun x => plFt wt nd s b x) 0 (W + 1)) (plE (plFt wt nd) (plOv ar sy) B W n) B m (s + 1) placed (plU a s b) st) b (r + 1) st)) := by
      intro r
      induction r with
      | zero =>
        intro b st h hb H
        have hbe : b = B := by omega
        subst hbe
        obtain ⟨v, h2, ⟨rfl, H2⟩, G⟩ := ih (s + 1) placed (plU a s b) st (am_set h 57 s (-1)) (by omega) (by omega) H.none (fun b' hb' => plQ_congr (fun o _ => by
          by_cases e : o = s
          · subst e; rw [plU_s]; omega
          · rw [plU_o _ _ e]; omega) (hq b' hb'))
        simp only [itF, decide_eq_false (Nat.lt_irrefl b), cond_false]
        refine .end none h2 ⟨rfl, H2.down⟩ fun d L xs o g Q T hqq => sm_91_54 ?_
        rw [H.1 3 2 rfl, eB]
        refine am_iff (by rw [nz_nlt (by omega) (by omega)]; omega) ⟨i5, ?_⟩
        rw [nz_c s (by omega), nz_succ]
        exact G d L xs o g _ _ (sm_91_165 rfl rfl rfl rfl rfl hqq)
      | succ r ihr =>
        intro b st h hb H
        have hbB : b < B := by omega
        have ltb : Int32.ofNat b < Int32.ofNat B := by rw [nz_nlt (by omega) (by omega)]; omega
        have ib5 : am_ix (Int32.ofNat b) 5 := ix_n (by omega) (by decide)
        have hch := hc.fr H.1 (fun _ => rfl) rfl (fun _ => rfl) (fun _ => rfl)
        have hwh : plw h n B W wt := fun s b x h1 h2 h3 => by rw [H.1 _ _ (xT_w (by omega))]; exact hw s b x h1 h2 h3
        have hnh : pnd h n nd := fun s hs => by rw [H.1 46 s rfl]; exact hnd s hs
        have P := mv_89 hch hwh (s := s) (b := b) (v := nd s) (by omega) hbB
        have pl := pcI_le wt W s b (nd s)
        rw [itF, decide_eq_true hbB, cond_true]
        cases ok : anyF (fun x => plFt wt nd s b x) 0 (W + 1) with
        | false =>
          rw [cond_false]
          have p0 : pcI wt W s b (nd s) = 0 := by
            apply Nat.eq_zero_of_not_pos
            intro hpos
            have := pcI_pos.1 hpos
            rw [show anyF (fun x => decide (¬ wt s b x < nd s)) 0 (W + 1) = anyF (fun x => plFt wt nd s b x) 0 (W + 1) from rfl, ok] at this
            cases this
          refine (ihr (b + 1) st h (by omega) H).go fun d L xs o g Q T hx => sm_91_54 ?_
          rw [H.1 3 2 rfl, eB]
          refine am_ift ltb ⟨i5, ?_⟩
          rw [nz_c s (by omega), hnh s (by omega)]
          rw [p0] at P
          refine P.use (sm_91_79 (am_iff (by decide) ?_))
          rw [nz_succ]
          exact hx
        | true =>
          rw [cond_true]
          have p1 : (0 : Int32) < Int32.ofNat (pcI wt W s b (nd s)) := by
            have : 0 < pcI wt W s b (nd s) := pcI_pos.2 ok
            show Int32.ofNat 0 < _
            rw [nz_nlt (by decide) (by omega)]
            exact this
          obtain ⟨u, u1, u2, u3⟩ := H.2.2.2.1 b hbB
          have b3 := bt_or ⟨u, u1⟩ ⟨s, by omega⟩
          have tu : ∀ o, o < 5 → (u ||| 2 ^ s).testBit o = (decide (o < s + 1) && decide (plU a s b o = b)) := fun o ho => by
            rw [bt_set ⟨u, u1⟩ ⟨s, by omega⟩ ⟨o, ho⟩]
            simp only
            rw [u3 o ho]
            by_cases e : o = s
            · subst e
              rw [plU_s, decide_eq_true rfl, decide_eq_true rfl, decide_eq_true (Nat.lt_succ_self o), Bool.or_true, Bool.and_true]
            · rw [plU_o _ _ e, decide_eq_false e, Bool.or_false, Bool.eq_iff_iff]
              simp only [Bool.and_eq_true, decide_eq_true_eq]
              omega
          have M := (mx_92 hch hwh hnh hbB b3.2 (fun _ => rfl) n 0 (fun _ => 0) (Int64.ofNat 0) h (by omega) (fr.refl _ _) (fun i hi => rp_zero i hi) (fun o ho => by omega)).more (m + 6 - n)
          rw [show n + 1 + (m + 6 - n) = m + 7 by omega, fit_B (show s < n by omega) hn5 tu] at M
          obtain ⟨v, h2, ⟨g1, g2, g3⟩, G⟩ := M
          have H2 : CS h0 h2 n B a s st := by
            obtain ⟨f1, ⟨f2, f2'⟩, f3, f4, f5⟩ := H
            have q : ∀ k j, ¬ k = 48 → h2 k j = h k j := fun k j hk => g1 k j (by unfold x48; cases hb : Nat.beq k 48 with | false => rfl | true => exact absurd (Nat.eq_of_beq_eq_true hb) hk)
            exact ⟨f1.trans (g1.mono fun k j hk => by unfold x48; unfold xT at hk; cases h48 : Nat.beq k 48 with | false => rfl | true => rw [h48] at hk; simp at hk), ⟨by rw [q 45 9 (by decide)]; exact f2, f2'⟩, fun j hj => by rw [q 57 j (by decide)]; exact f3 j hj, fun b hb => by rw [q 58 b (by decide)]; exact f4 b hb, fun h j hj => by rw [q 47 j (by decide)]; exact f5 h j hj⟩
          have run : ∀ {d L : Nat} {xs : Nat → Int32} {o : am_L} {g : Nat} {Q : Option Value → am_M → am_L → Nat → Prop} {T : Nat → am_M → am_L → Nat → Prop}, am_X L xs (d + (m + 1 + 7)) 91 99 [some (.ref 45), some (.int (Int32.ofNat s)), some (.int (Int32.ofNat placed)), some (.int (bt s)), some (.int (Int32.ofNat b))] (v.toList ++ []) am_C0 h2 o g Q T → am_X L xs (d + (m + 1 + 7)) 91 54 [some (.ref 45), some (.int (Int32.ofNat s)), some (.int (Int32.ofNat placed)), some (.int (bt s)), some (.int (Int32.ofNat b))] [] am_C0 h o g Q T := fun {d L xs o g Q T} hx => by
            refine sm_91_54 ?_
            rw [H.1 3 2 rfl, eB]
            refine am_ift ltb ⟨i5, ?_⟩
            rw [nz_c s (by omega), hnh s (by omega)]
            refine P.use (sm_91_79 (am_ift p1 ⟨ib5, ?_⟩))
            rw [nz_c b (by omega), u2, show Int32.ofNat u ||| bt s = Int32.ofNat (u ||| 2 ^ s) from b3.1]
            exact G d L xs o g _ _ hx
          cases hf : plB (plFt wt nd) (plOv ar sy) W n (plU a s b) (s + 1) b (fun _ => 0) with
          | none =>
            rw [hf] at g3
            subst g3
            have dead : plG (fun s b => anyF (fun x => plFt wt nd s b x) 0 (W + 1)) (plE (plFt wt nd) (plOv ar sy) B W n) B m (s + 1) (placed + 1) (plU a s b) st = st := plG_dead m (s + 1) (placed + 1) (plU a s b) st (fun a' ha => plE_dead (k := s + 1) (b := b) (a := plU a s b) (by omega) hbB (fun hq' => (plB_iff _ _ _ (fun _ => 0)).1 hq' hf) ha)
            rw [dead]
            refine (ihr (b + 1) st h2 (by omega) H2).go fun d L xs o g Q T hx => run (sm_91_99 (am_ift rfl ?_))
            rw [nz_succ]
            exact hx
          | some w' =>
            rw [hf] at g3
            obtain ⟨rfl, _⟩ := g3
            have u2' : h2 58 b = Int32.ofNat u := by rw [g1 58 b rfl]; exact u2
            obtain ⟨v, h3, ⟨rfl, H3⟩, G3⟩ := ih (s + 1) (placed + 1) (plU a s b) st _ (by omega) (by omega) (H2.put (by omega) hB5 hbB u1 u2' u3) (fun b' hb' => by
              by_cases e : b' = b
              · subst e
                exact (plB_iff _ _ _ (fun _ => 0)).2 (by rw [hf]; exact fun h => by cases h)
              · exact plQ_congr (fun o _ => by
                  by_cases e2 : o = s
                  · subst e2; rw [plU_s]; omega
                  · rw [plU_o _ _ e2]; omega) (hq b' hb'))
            refine (ihr (b + 1) _ _ (by omega) (H3.take (by omega) hB5 hbB)).go fun d L xs o g Q T hx => run (sm_91_99 (am_iff (by decide) ⟨ib5, i5, ?_⟩))
            rw [nz_c s (by omega), nz_c b (by omega), u2', nz_succ s, nz_succ placed, show Int32.ofNat u ||| bt s = Int32.ofNat (u ||| 2 ^ s) from b3.1]
            refine G3 d L xs o g _ _ (sm_91_131 ⟨ib5, ?_⟩)
            rw [nz_c b (by omega), nz_succ]
            exact hx
    simp only [plG]
    refine (lp B 0 st h (by omega) H).go fun d L xs o g Q T hx => sm_91 ⟨ix_n (by omega) (by decide), ?_⟩
    rw [nz_c s (by omega), H.2.1.1, e56, add, H.1 3 0 rfl, en]
    exact am_ift ((mo_lt (by have := H.2.1.2; omega) (by omega)).2 c) (am_ift lts hx)
end
