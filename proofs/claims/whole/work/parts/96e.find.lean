/-! ===== the search, the most: the class ===== -/
def hpF (f : Nat → Bool) (n s : Nat) : Nat := smN (fun t => bif f t then 1 else 0) s (n - s)
theorem hpF_n (f : Nat → Bool) (n : Nat) : hpF f n n = 0 := by unfold hpF; rw [Nat.sub_self]; rfl
theorem hpF_s {f : Nat → Bool} {n s : Nat} (hs : s < n) : hpF f n s = (bif f s then 1 else 0) + hpF f n (s + 1) := by
  unfold hpF
  rw [show n - s = (n - (s + 1)) + 1 by omega]
  rfl
theorem hpF_le (f : Nat → Bool) (n s : Nat) : hpF f n s ≤ n - s := by
  have := smN_le (f := fun t => bif f t then 1 else 0) (B := 1) (fun x => one_le _) (n - s) s
  unfold hpF
  omega
def xS (k j : Nat) : Bool := Nat.beq k 56 || xT k j
theorem xS_w {s j : Nat} (hs : s < 5) : xS (50 + s) j = false := by
  have e : s = 0 ∨ s = 1 ∨ s = 2 ∨ s = 3 ∨ s = 4 := by omega
  rcases e with e | e | e | e | e <;> subst e <;> rfl
def x55 (k _ : Nat) : Bool := Nat.beq k 55
theorem x55_w {s j : Nat} (hs : s < 5) : x55 (50 + s) j = false := by
  have e : s = 0 ∨ s = 1 ∨ s = 2 ∨ s = 3 ∨ s = 4 := by omega
  rcases e with e | e | e | e | e <;> subst e <;> rfl
theorem xS_T {k j : Nat} (h : xS k j = false) : xT k j = false := by
  unfold xS at h
  rw [Bool.or_eq_false_iff] at h
  exact h.2
theorem plG_fe {ok : Nat → Nat → Bool} {fe : (Nat → Nat) → Bool} {B : Nat} : ∀ m s many a st, (0 < st.1 → fe st.2 = true) → (0 < (plG ok fe B m s many a st).1 → fe (plG ok fe B m s many a st).2 = true)
  | 0, s, many, a, st, h => by
    simp only [plG]
    cases hc : fe a && decide (st.1 ≤ many) with
    | false => rw [cond_false]; exact h
    | true =>
      rw [cond_true]
      intro _
      rw [Bool.and_eq_true] at hc
      exact hc.1
  | m + 1, s, many, a, st, h => by
    simp only [plG]
    have it : ∀ (f : Nat → plT → plT), (∀ k st, (0 < st.1 → fe st.2 = true) → (0 < (f k st).1 → fe (f k st).2 = true)) → ∀ r k st, (0 < st.1 → fe st.2 = true) → (0 < (itF f k r st).1 → fe (itF f k r st).2 = true) := by
      intro f hf r
      induction r with
      | zero => intro k st h; exact h
      | succ r ih => intro k st h; exact ih (k + 1) (f k st) (hf k st h)
    apply it
    · intro b st h
      cases decide (b < B) with
      | true =>
        simp only [cond_true]
        cases ok s b with
        | true => simp only [cond_true]; exact plG_fe m _ _ _ _ h
        | false => simp only [cond_false]; exact h
      | false => simp only [cond_false]; exact plG_fe m _ _ _ _ h
    · exact h
abbrev okF (wt : Nat → Nat → Nat → Int32) (nd : Nat → Int32) (W : Nat) (s b : Nat) : Bool := anyF (fun x => plFt wt nd s b x) 0 (W + 1)
/-- what the search comes to -/
def srR (wt : Nat → Nat → Nat → Int32) (nd : Nat → Int32) (ar sy : Nat → Nat) (B W n : Nat) (st : plT) : plT := plG (okF wt nd W) (plE (plFt wt nd) (plOv ar sy) B W n) B n 0 0 (fun _ => 0) st
def plcs (h : am_M) (n B W : Nat) (wt : Nat → Nat → Nat → Int32) (nd : Nat → Int32) : Prop := ∀ t, t < n → h 55 t = Int32.ofNat (pcO wt B W t (nd t))
section
variable {h : am_M} {n B W : Nat} {ar sy : Nat → Nat} {wt : Nat → Nat → Nat → Int32} {nd : Nat → Int32}
theorem mx_90 (hc : plc h n B W ar sy) (hw : plw h n B W wt) (hnd : pnd h n nd) (hpl : plcs h n B W wt nd) {c : Nat} {a0 : Nat → Nat} (c6 : c ≤ 6) (hf : 0 < c → ∀ j, j < n → h 47 j = enB B (a0 j)) : mx 13 90 0 [some (.ref 45), some (.int (Int32.ofNat c - 1)), none] [] h (fun v h1 => v = some (.int (Int32.ofNat (srR wt nd ar sy B W n (c, a0)).1 - 1)) ∧ fr xS h h1 ∧ (srR wt nd ar sy B W n (c, a0)).1 ≤ 6 ∧ (0 < (srR wt nd ar sy B W n (c, a0)).1 → ∀ j, j < n → h1 47 j = enB B ((srR wt nd ar sy B W n (c, a0)).2 j))) := by
  have hc' := hc
  obtain ⟨⟨hn5, hB5, hW2⟩, ⟨en, eB, eW⟩, hA⟩ := hc'
  have f0 : ∀ t, t < n → ((0 : Int32) < Int32.ofNat (pcO wt B W t (nd t)) ↔ 0 < pcO wt B W t (nd t)) := fun t ht => by
    have l1 := pcO_le wt B W t (nd t)
    have l2 : B * (W + 1) ≤ 5 * 3 := Nat.mul_le_mul hB5 (by omega)
    show Int32.ofNat 0 < _ ↔ _
    rw [nz_nlt (by decide) (by omega)]
  obtain ⟨pf, hpf⟩ : ∃ pf : Nat → Bool, ∀ t, pf t = decide (0 < pcO wt B W t (nd t)) := ⟨_, fun _ => rfl⟩
  -- the berths are emptied, the tries begin
  have sec : ∀ (r b : Nat) (h' : am_M), b + r = B → fr xS h h' → (∀ s, s ≤ n → h' 56 s = Int32.ofNat (hpF pf n s)) → (∀ b', b' < b → h' 58 b' = 0) → (∀ j, h' 47 j = h 47 j) → mx 13 90 64 [some (.ref 45), some (.int (Int32.ofNat c - 1)), some (.int (Int32.ofNat b))] [] h' (fun v h1 => v = some (.int (Int32.ofNat (srR wt nd ar sy B W n (c, a0)).1 - 1)) ∧ fr xS h h1 ∧ (srR wt nd ar sy B W n (c, a0)).1 ≤ 6 ∧ (0 < (srR wt nd ar sy B W n (c, a0)).1 → ∀ j, j < n → h1 47 j = enB B ((srR wt nd ar sy B W n (c, a0)).2 j))) := by
    intro r
    induction r with
    | zero =>
      intro b h' hb hf' h56 h58 h47
      have hbe : b = B := by omega
      subst hbe
      have fh : fr xS h (am_set h' 45 9 (Int32.ofNat c - 1)) := hf'.set 45 9 _ rfl
      have M := (mx_91 (h0 := am_set h' 45 9 (Int32.ofNat c - 1)) (wt := wt) (nd := nd) (hp := hpF pf n) (hc.fr fh (fun _ => rfl) rfl (fun _ => rfl) (fun _ => rfl)) (fun s b x h1 h2 h3 => by rw [fh _ _ (xS_w (by omega))]; exact hw s b x h1 h2 h3) (fun s hs => by rw [fh 46 s rfl]; exact hnd s hs) (fun s hs => ⟨h56 s hs, by have := hpF_le pf n s; omega⟩) (hpF_n pf n) (fun s hs => by
        have e := hpF_s (f := pf) hs
        refine ⟨by omega, fun b' hb' hok => ?_⟩
        have : pf s = true := by
          rw [hpf, decide_eq_true_eq]
          exact pcO_pos.2 ⟨b', hb', hok⟩
        rw [this, cond_true] at e
        omega) n 0 0 (fun _ => 0) (c, a0) (am_set h' 45 9 (Int32.ofNat c - 1)) (by omega) (by omega) ⟨fr.refl _ _, ⟨as_self _ _ _ _, c6⟩, fun j hj => by omega, fun b' hb' => ⟨0, by decide, h58 b' hb', fun o ho => by simp⟩, fun hp j hj => (h47 j).trans (hf hp j hj)⟩ (fun b' hb' => ⟨fun _ => 0, fun o h1 h2 h3 => by simp at h3⟩)).more (5 - n)
      rw [show n + 7 + (5 - n) = 12 by omega] at M
      obtain ⟨v, h1, ⟨rfl, g1, ⟨g2, g2'⟩, g3, g4, g5⟩, G⟩ := M
      refine .end (some (.int (Int32.ofNat (srR wt nd ar sy b W n (c, a0)).1 - 1))) h1 ⟨rfl, fh.trans (g1.mono fun k j hk => xS_T hk), g2', g5⟩ fun d L xs o g Q T hq => sm_90_64 ?_
      rw [hf' 3 2 rfl, eB]
      refine am_iff (by rw [nz_nlt (by omega) (by omega)]; omega) (G d L xs o g _ _ (sm_90_99 rfl rfl ?_))
      rw [g2]
      exact hq
    | succ r ih =>
      intro b h' hb hf' h56 h58 h47
      refine (ih (b + 1) (am_set h' 58 b 0) (by omega) (hf'.set 58 b _ rfl) h56 (fun b' hb' => ?_) h47).go fun d L xs o g Q T hx => sm_90_64 ?_
      · by_cases e : b' = b
        · subst e; exact as_self _ _ _ _
        · rw [as_slot _ _ _ e]; exact h58 b' (by omega)
      · rw [hf' 3 2 rfl, eB]
        refine am_ift (by rw [nz_nlt (by omega) (by omega)]; omega) ⟨ix_n (by omega) (by decide), ?_⟩
        rw [nz_c b (by omega), nz_succ]
        exact hx
  -- the hopes
  have fst : ∀ (k : Nat) (h' : am_M), k ≤ n → fr xS h h' → (∀ s, k ≤ s → s ≤ n → h' 56 s = Int32.ofNat (hpF pf n s)) → (∀ j, h' 47 j = h 47 j) → mx 13 90 23 [some (.ref 45), some (.int (Int32.ofNat c - 1)), some (.int (Int32.ofNat k - 1))] [] h' (fun v h1 => v = some (.int (Int32.ofNat (srR wt nd ar sy B W n (c, a0)).1 - 1)) ∧ fr xS h h1 ∧ (srR wt nd ar sy B W n (c, a0)).1 ≤ 6 ∧ (0 < (srR wt nd ar sy B W n (c, a0)).1 → ∀ j, j < n → h1 47 j = enB B ((srR wt nd ar sy B W n (c, a0)).2 j))) := by
    intro k
    induction k with
    | zero =>
      intro h' hk hf' h56 h47
      exact (sec B 0 h' (by omega) hf' (fun s hs => h56 s (by omega) hs) (fun b' hb' => by omega) h47).go fun d L xs o g Q T hx => sm_90_23 (am_ift (by decide) hx)
    | succ k ih =>
      intro h' hk hf' h56 h47
      have e : Int32.ofNat (k + 1) - 1 = Int32.ofNat k := by rw [← nz_succ, Int32.add_sub_cancel]
      have e2 : Int32.ofNat k + -1 = Int32.ofNat k - 1 := by grind
      have n0 : ¬ Int32.ofNat k < 0 := by rw [nz_lt, nz_n k (by omega)]; have : (0 : Int32).toInt = 0 := rfl; omega
      have e55 : h' 55 k = Int32.ofNat (pcO wt B W k (nd k)) := by rw [hf' 55 k rfl]; exact hpl k (by omega)
      have go : ∀ z : Nat, hpF pf n k = z + hpF pf n (k + 1) → mx 13 90 23 [some (.ref 45), some (.int (Int32.ofNat c - 1)), some (.int (Int32.ofNat k - 1))] [] (am_set h' 56 k (Int32.ofNat (hpF pf n (k + 1)) + Int32.ofNat z)) (fun v h1 => v = some (.int (Int32.ofNat (srR wt nd ar sy B W n (c, a0)).1 - 1)) ∧ fr xS h h1 ∧ (srR wt nd ar sy B W n (c, a0)).1 ≤ 6 ∧ (0 < (srR wt nd ar sy B W n (c, a0)).1 → ∀ j, j < n → h1 47 j = enB B ((srR wt nd ar sy B W n (c, a0)).2 j))) := fun z hz => ih _ (by omega) (hf'.set 56 k _ rfl) (fun s h1 h2 => by
        by_cases es : s = k
        · subst es; rw [as_self, hz, Int32.ofNat_add]; exact Int32.add_comm _ _
        · rw [as_slot _ _ _ es]; exact h56 s (by omega) h2) h47
      have hs := hpF_s (f := pf) (show k < n by omega)
      rw [e]
      by_cases c0 : 0 < pcO wt B W k (nd k)
      · refine (go 1 (by rw [hs, hpf, decide_eq_true c0]; rfl)).go fun d L xs o g Q T hx => sm_90_23 (am_iff n0 ⟨by rw [nz_succ]; exact ix_n (by omega) (by decide), ix_n (by omega) (by decide), ?_⟩)
        rw [nz_c k (by omega), nz_succ, nz_c (k + 1) (by omega), e55, h56 (k + 1) (by omega) (by omega), e2]
        exact am_ift ((f0 k (by omega)).2 c0) ⟨ix_n (by omega) (by decide), hx⟩
      · refine (go 0 (by rw [hs, hpf, decide_eq_false c0]; rfl)).go fun d L xs o g Q T hx => sm_90_23 (am_iff n0 ⟨by rw [nz_succ]; exact ix_n (by omega) (by decide), ix_n (by omega) (by decide), ?_⟩)
        rw [nz_c k (by omega), nz_succ, nz_c (k + 1) (by omega), e55, h56 (k + 1) (by omega) (by omega), e2]
        exact am_iff (fun q => c0 ((f0 k (by omega)).1 q)) ⟨ix_n (by omega) (by decide), hx⟩
  refine (fst n (am_set h 56 n 0) (Nat.le_refl _) ((fr.refl _ _).set 56 n _ rfl) (fun s h1 h2 => ?_) (fun _ => rfl)).go fun d L xs o g Q T hx => sm_90 ⟨by rw [en]; exact ix_n (by omega) (by decide), ?_⟩
  · have : s = n := by omega
    subst this
    rw [as_self, hpF_n]
    rfl
  · rw [en, nz_c n (by omega)]
    exact hx
theorem mx_87 (hc : plc h n B W ar sy) (hw : plw h n B W wt) (hnd : pnd h n nd) {a0 : Nat → Nat} : mx 15 87 0 [some (.ref 45), none] [] h (fun v h1 => v = some (.int (Int32.ofNat (srR wt nd ar sy B W n (0, a0)).1 - 1)) ∧ fr (fun k j => Nat.beq k 55 || (Nat.beq k 45 && Nat.beq j 10 || xS k j)) h h1 ∧ h1 45 10 = Int32.ofNat (srR wt nd ar sy B W n (0, a0)).1 - 1 ∧ plcs h1 n B W wt nd ∧ (srR wt nd ar sy B W n (0, a0)).1 ≤ 6 ∧ (0 < (srR wt nd ar sy B W n (0, a0)).1 → ∀ j, j < n → h1 47 j = enB B ((srR wt nd ar sy B W n (0, a0)).2 j))) := by
  have hc' := hc
  obtain ⟨⟨hn5, hB5, hW2⟩, ⟨en, eB, eW⟩, hA⟩ := hc'
  have lp : ∀ (r k : Nat) (h' : am_M), k + r = n → fr x55 h h' → (∀ t, t < k → h' 55 t = Int32.ofNat (pcO wt B W t (nd t))) → mx 15 87 2 [some (.ref 45), some (.int (Int32.ofNat k))] [] h' (fun v h1 => v = some (.int (Int32.ofNat (srR wt nd ar sy B W n (0, a0)).1 - 1)) ∧ fr (fun k j => Nat.beq k 55 || (Nat.beq k 45 && Nat.beq j 10 || xS k j)) h h1 ∧ h1 45 10 = Int32.ofNat (srR wt nd ar sy B W n (0, a0)).1 - 1 ∧ plcs h1 n B W wt nd ∧ (srR wt nd ar sy B W n (0, a0)).1 ≤ 6 ∧ (0 < (srR wt nd ar sy B W n (0, a0)).1 → ∀ j, j < n → h1 47 j = enB B ((srR wt nd ar sy B W n (0, a0)).2 j))) := by
    intro r
    induction r with
    | zero =>
      intro k h' hk hf' h55
      have hke : k = n := by omega
      subst hke
      obtain ⟨v, h1, ⟨rfl, g1, g2, g3⟩, G⟩ := mx_90 (h := h') (hc.fr hf' (fun _ => rfl) rfl (fun _ => rfl) (fun _ => rfl)) (fun s b x h1 h2 h3 => by rw [hf' (50 + s) _ (x55_w (by omega))]; exact hw s b x h1 h2 h3) (fun s hs => by rw [hf' 46 s rfl]; exact hnd s hs) h55 (c := 0) (a0 := a0) (by decide) (fun h => absurd h (by decide))
      refine .end (some (.int (Int32.ofNat (srR wt nd ar sy B W k (0, a0)).1 - 1))) (am_set h1 45 10 (Int32.ofNat (srR wt nd ar sy B W k (0, a0)).1 - 1)) ⟨rfl, ?_, as_self _ _ _ _, fun t ht => ?_, g2, g3⟩ fun d L xs o g Q T hq => sm_87_2 ?_
      · refine fr.set ?_ 45 10 _ rfl
        exact (hf'.mono fun a b hab => by simp only [Bool.or_eq_false_iff] at hab; exact hab.1).trans (g1.mono fun a b hab => by simp only [Bool.or_eq_false_iff] at hab; exact hab.2.2)
      · rw [as_cell _ _ _ (by decide), g1 55 t rfl]
        exact h55 t ht
      · rw [hf' 3 0 rfl, en]
        exact am_iff (by rw [nz_nlt (by omega) (by omega)]; omega) (G (d + 1) L xs o g _ _ (sm_87_42 rfl hq))
    | succ r ih =>
      intro k h' hk hf' h55
      have P := mv_88 (h := h') (wt := wt) (hc.fr hf' (fun _ => rfl) rfl (fun _ => rfl) (fun _ => rfl)) (fun s b x h1 h2 h3 => by rw [hf' (50 + s) _ (x55_w (by omega))]; exact hw s b x h1 h2 h3) (s := k) (v := nd k) (by omega)
      refine (ih (k + 1) (am_set h' 55 k (Int32.ofNat (pcO wt B W k (nd k)))) (by omega) (hf'.set 55 k _ rfl) (fun t ht => ?_)).go fun d L xs o g Q T hx => sm_87_2 ?_
      · by_cases e : t = k
        · subst e; exact as_self _ _ _ _
        · rw [as_slot _ _ _ e]; exact h55 t (by omega)
      · rw [hf' 3 0 rfl, en]
        refine am_ift (by rw [nz_nlt (by omega) (by omega)]; omega) ⟨ix_n (by omega) (by decide), ?_⟩
        rw [nz_c k (by omega), hf' 46 k rfl, hnd k (by omega)]
        refine P.use (sm_87_29 ⟨ix_n (by omega) (by decide), ?_⟩)
        rw [nz_c k (by omega), nz_succ]
        exact hx
  exact (lp n 0 h (by omega) (fr.refl _ _) (fun t ht => by omega)).go fun d L xs o g Q T hx => sm_87 hx
end
