/-! ===== what a lead is worth: growth ===== -/
def gNo (wt : Nat → Nat → Nat → Int32) (nd : Nat → Int32) (ar sy : Nat → Nat) (B W n : Nat) : Nat := plN (okF wt nd W) (plE (plFt wt nd) (plOv ar sy) B W n) B n 0 0 (fun _ => 0)
section
variable {wt : Nat → Nat → Nat → Int32} {nd nd' : Nat → Int32} {ar sy : Nat → Nat} {B W n : Nat}
theorem sr_N (c : Nat) (a0 : Nat → Nat) : (srR wt nd ar sy B W n (c, a0)).1 = max c (gNo wt nd ar sy B W n) := plG_N n 0 0 (fun _ => 0) (c, a0)
theorem gN_le (hF : ∀ s b x, s < n → b < B → x ≤ W → plFt wt nd s b x = true → plFt wt nd' s b x = true) : gNo wt nd ar sy B W n ≤ gNo wt nd' ar sy B W n := by
  unfold gNo
  refine plN_mono (n := n) (fun s b hs hb h => ?_) (fun a h => plE_mono hF h) n 0 0 (fun _ => 0) (by omega)
  obtain ⟨x, _, hx, hh⟩ := (anyF_iff (W + 1) 0).1 h
  exact (anyF_iff (W + 1) 0).2 ⟨x, by omega, hx, hF s b x hs hb (by omega) hh⟩
theorem gN_top : gNo wt nd ar sy B W n ≤ n + 1 := by
  have := plN_top (ok := okF wt nd W) (fe := plE (plFt wt nd) (plOv ar sy) B W n) (B := B) n 0 0 (fun _ => 0)
  unfold gNo
  omega
theorem gN_one : 1 ≤ gNo wt nd ar sy B W n := plN_one (ok := okF wt nd W) (fe := plE (plFt wt nd) (plOv ar sy) B W n) (B := B) (n := n) (fun a h => plE_none h) n 0 0 (fun _ => 0) (by omega) (fun o ho => by omega)
/-- less need, more ships -/
theorem gN_upd {s : Nat} {v : Int32} (hv : ¬ nd s < v) : gNo wt nd ar sy B W n ≤ gNo wt (upd nd s v) ar sy B W n := by
  apply gN_le
  intro t b x _ _ _ h
  unfold plFt at h ⊢
  rw [decide_eq_true_eq] at h ⊢
  unfold upd
  by_cases e : t = s
  · subst e
    rw [if_pos rfl]
    grind
  · rw [if_neg e]; exact h
theorem smN_eq {f g : Nat → Nat} : ∀ m k, (∀ j, k ≤ j → j < k + m → f j ≤ g j) → smN f k m = smN g k m → ∀ j, k ≤ j → j < k + m → f j = g j
  | 0, k, _, _, j, h1, h2 => by omega
  | m + 1, k, hle, he, j, h1, h2 => by
    have le : ∀ m k, (∀ j, k ≤ j → j < k + m → f j ≤ g j) → smN f k m ≤ smN g k m := by
      intro m
      induction m with
      | zero => intro k _; exact Nat.le_refl _
      | succ m ih =>
        intro k h
        simp only [smN]
        have a := h k (by omega) (by omega)
        have b := ih (k + 1) (fun j h1 h2 => h j (by omega) (by omega))
        omega
    simp only [smN] at he
    have a := hle k (by omega) (by omega)
    have b := le m (k + 1) (fun j h1 h2 => hle j (by omega) (by omega))
    by_cases e : j = k
    · subst e; omega
    · exact smN_eq m (k + 1) (fun j h1 h2 => hle j (by omega) (by omega)) (by omega) j (by omega) (by omega)
theorem b01 : ∀ p q : Bool, (bif p then 1 else 0 : Nat) = (bif q then 1 else 0) → p = q := by decide
theorem le_tr {a b c : Int32} (h1 : ¬ a < b) (h2 : ¬ b < c) : ¬ a < c := by grind
theorem pc_1 {s : Nat} {v1 v2 : Int32} (hv : ¬ v2 < v1) (b x : Nat) : (bif decide (¬ wt s b x < v2) then 1 else 0 : Nat) ≤ (bif decide (¬ wt s b x < v1) then 1 else 0) := by
  by_cases c : wt s b x < v2
  · rw [decide_eq_false (fun h => h c), cond_false]
    exact Nat.zero_le _
  · rw [decide_eq_true c, decide_eq_true (le_tr c hv)]
    exact Nat.le_refl _
theorem smN_ml {f g : Nat → Nat} (h : ∀ j, f j ≤ g j) : ∀ m k, smN f k m ≤ smN g k m
  | 0, k => Nat.le_refl _
  | m + 1, k => by
    have a := h k
    have b := smN_ml h m (k + 1)
    simp only [smN]
    omega
theorem pc_2 {s : Nat} {v1 v2 : Int32} (hv : ¬ v2 < v1) (b : Nat) : pcI wt W s b v2 ≤ pcI wt W s b v1 := by
  unfold pcI
  exact smN_ml (fun x => pc_1 hv b x) _ _
theorem pc_3 {s : Nat} {v1 v2 : Int32} (hv : ¬ v2 < v1) (he : pcO wt B W s v2 = pcO wt B W s v1) {b : Nat} (hb : b < B) : pcI wt W s b v2 = pcI wt W s b v1 := by
  unfold pcO at he
  exact smN_eq B 0 (fun j _ _ => pc_2 hv j) he b (Nat.zero_le _) (by rw [Nat.zero_add]; exact hb)
theorem pc_eq {s : Nat} {v1 v2 : Int32} (hv : ¬ v2 < v1) (he : pcO wt B W s v2 = pcO wt B W s v1) {b x : Nat} (hb : b < B) (hx : x ≤ W) : decide (¬ wt s b x < v2) = decide (¬ wt s b x < v1) := by
  have e1 := pc_3 hv he hb
  unfold pcI at e1
  exact b01 _ _ (smN_eq (W + 1) 0 (fun j _ _ => pc_1 hv b j) e1 x (Nat.zero_le _) (by rw [Nat.zero_add]; exact Nat.lt_succ_of_le hx))
theorem gN_pc {s : Nat} {v1 v2 : Int32} (he : pcO wt B W s v1 = pcO wt B W s v2) : gNo wt (upd nd s v1) ar sy B W n = gNo wt (upd nd s v2) ar sy B W n := by
  have eq : ∀ b x, b < B → x ≤ W → decide (¬ wt s b x < v1) = decide (¬ wt s b x < v2) := fun b x hb hx => by
    by_cases c : v2 < v1
    · exact pc_eq (by grind) he hb hx
    · exact (pc_eq c he.symm hb hx).symm
  have F : ∀ t b x, b < B → x ≤ W → plFt wt (upd nd s v1) t b x = plFt wt (upd nd s v2) t b x := fun t b x hb hx => by
    unfold plFt upd
    by_cases e : t = s
    · subst e; rw [if_pos rfl, if_pos rfl]; exact eq b x hb hx
    · rw [if_neg e, if_neg e]
  exact Nat.le_antisymm (gN_le fun t b x _ hb hx h => by rw [← F t b x hb hx]; exact h) (gN_le fun t b x _ hb hx h => by rw [F t b x hb hx]; exact h)
theorem upd_self (s : Nat) : upd nd s (nd s) = nd := by
  funext t
  unfold upd
  split
  · rename_i e; rw [e]
  · rfl
end
/-- a plan stands, and what was last asked of it -/
def PC (h : am_M) (n B W : Nat) (ar sy : Nat → Nat) (wt : Nat → Nat → Nat → Int32) (nd : Nat → Int32) : Prop := plc h n B W ar sy ∧ plw h n B W wt ∧ pnd h n nd ∧ plcs h n B W wt nd ∧ h 45 10 = Int32.ofNat (gNo wt nd ar sy B W n) - 1 ∧ (∃ a0 : Nat → Nat, ∀ j, j < n → h 47 j = enB B (a0 j)) ∧ (h 45 11 = -1 ∨ ∃ s0 v0, s0 < n ∧ h 45 11 = Int32.ofNat s0 ∧ h 45 12 = Int32.ofNat (pcO wt B W s0 v0) ∧ h 45 13 = Int32.ofNat (gNo wt (upd nd s0 v0) ar sy B W n) - Int32.ofNat (gNo wt nd ar sy B W n))
def xG (k _ : Nat) : Bool := (Nat.ble 45 k && Nat.ble k 48) || (Nat.ble 55 k && Nat.ble k 58)
theorem xG_w {s j : Nat} (hs : s < 5) : xG (50 + s) j = false := by
  have e : s = 0 ∨ s = 1 ∨ s = 2 ∨ s = 3 ∨ s = 4 := by omega
  rcases e with e | e | e | e | e <;> subst e <;> rfl
theorem xS_G {k j : Nat} (h : xS k j = true) : xG k j = true := by
  unfold xS xT at h
  simp only [Bool.or_eq_true, Bool.and_eq_true, Nat.beq_eq] at h
  rcases h with h | h | h | h | h | ⟨h, _⟩ <;> subst h <;> rfl
section
variable {h : am_M} {n B W : Nat} {ar sy : Nat → Nat} {wt : Nat → Nat → Nat → Int32} {nd : Nat → Int32}
theorem mx_106 (H : PC h n B W ar sy wt nd) {s : Nat} {v : Int32} (hs : s < n) (hv : ¬ nd s < v) : mx 14 106 0 [some (.ref 45), some (.int (Int32.ofNat s)), some (.int v), some (.int (Int32.ofNat (pcO wt B W s v))), none, none, none] [] h (fun w h1 => w = some (.int (Int32.ofNat (gNo wt (upd nd s v) ar sy B W n) - Int32.ofNat (gNo wt nd ar sy B W n))) ∧ fr xG h h1 ∧ PC h1 n B W ar sy wt nd) := by
  obtain ⟨hc, hw, hn, hp, h10, ⟨a0, ha0⟩, hl⟩ := H
  have hc' := hc
  obtain ⟨⟨hn5, hB5, hW2⟩, ⟨en, eB, eW⟩, hA⟩ := hc'
  have f1 : fr xG h (am_set (am_set h 46 s v) 55 s (Int32.ofNat (pcO wt B W s v))) := ((fr.refl _ _).set 46 s _ rfl).set 55 s _ rfl
  obtain ⟨w, h2, ⟨rfl, g1, g2, g3⟩, G⟩ := mx_90 (h := am_set (am_set h 46 s v) 55 s (Int32.ofNat (pcO wt B W s v))) (wt := wt) (nd := upd nd s v) (ar := ar) (sy := sy) (hc.fr f1 (fun _ => rfl) rfl (fun _ => rfl) (fun _ => rfl)) (fun s b x a1 a2 a3 => by rw [f1 _ _ (xG_w (by omega))]; exact hw s b x a1 a2 a3) (fun t ht => by
    rw [as_cell _ _ _ (by decide)]
    unfold upd
    by_cases e : t = s
    · subst e; rw [as_self, if_pos rfl]
    · rw [as_slot _ _ _ e, if_neg e]; exact hn t ht) (fun t ht => by
    unfold upd
    by_cases e : t = s
    · subst e; rw [as_self, if_pos rfl]
    · rw [as_slot _ _ _ e, as_cell _ _ _ (by decide), if_neg e]; exact hp t ht) (c := gNo wt nd ar sy B W n) (a0 := a0) (by have := gN_top (wt := wt) (nd := nd) (ar := ar) (sy := sy) (B := B) (W := W) (n := n); omega) (fun _ j hj => ha0 j hj)
  rw [sr_N, Nat.max_eq_right (gN_upd hv)] at g2 g3 G
  have ge1 := gN_one (wt := wt) (nd := upd nd s v) (ar := ar) (sy := sy) (B := B) (W := W) (n := n)
  have e46 : h 46 s = nd s := hn s hs
  have e55 : h 55 s = Int32.ofNat (pcO wt B W s (nd s)) := hp s hs
  have f2 : fr xG h (am_set (am_set h2 46 s (h 46 s)) 55 s (h 55 s)) := ((f1.trans (g1.or fun _ _ hk => xS_G hk)).set 46 s _ rfl).set 55 s _ rfl
  have e10 : h2 45 10 = h 45 10 := g1 45 10 rfl
  refine .end _ (am_set (am_set h2 46 s (h 46 s)) 55 s (h 55 s)) ⟨rfl, f2, hc.fr f2 (fun _ => rfl) rfl (fun _ => rfl) (fun _ => rfl), fun s b x a1 a2 a3 => by rw [f2 _ _ (xG_w (by omega))]; exact hw s b x a1 a2 a3, fun t ht => ?_, fun t ht => ?_, e10.trans h10, ⟨_, g3 ge1⟩, ?_⟩ fun d L xs o g Q T hq => sm_106 ⟨ix_n (by omega) (by decide), ?_⟩
  · rw [as_cell _ _ _ (by decide)]
    by_cases e : t = s
    · subst e; rw [as_self]; exact e46
    · rw [as_slot _ _ _ e, g1 46 t rfl, as_cell _ _ _ (by decide), as_slot _ _ _ e]; exact hn t ht
  · by_cases e : t = s
    · subst e; rw [as_self]; exact e55
    · rw [as_slot _ _ _ e, as_cell _ _ _ (by decide), g1 55 t rfl, as_slot _ _ _ e, as_cell _ _ _ (by decide)]; exact hp t ht
  · have k11 : (am_set (am_set h2 46 s (h 46 s)) 55 s (h 55 s)) 45 11 = h 45 11 := g1 45 11 rfl
    have k12 : (am_set (am_set h2 46 s (h 46 s)) 55 s (h 55 s)) 45 12 = h 45 12 := g1 45 12 rfl
    have k13 : (am_set (am_set h2 46 s (h 46 s)) 55 s (h 55 s)) 45 13 = h 45 13 := g1 45 13 rfl
    rw [k11, k12, k13]
    exact hl
  · rw [nz_c s (by omega), h10]
    refine G d L xs o g _ _ (sm_106_38 rfl rfl rfl ⟨ix_n (by omega) (by decide), ?_⟩)
    rw [nz_c s (by omega), e10, h10]
    have : Int32.ofNat (gNo wt (upd nd s v) ar sy B W n) - 1 - (Int32.ofNat (gNo wt nd ar sy B W n) - 1) = Int32.ofNat (gNo wt (upd nd s v) ar sy B W n) - Int32.ofNat (gNo wt nd ar sy B W n) := by grind
    rw [this]
    exact hq
theorem mx_105 (H : PC h n B W ar sy wt nd) {s : Nat} {v : Int32} (hs : s < n) (hv : ¬ nd s < v) : mx 15 105 0 [some (.ref 45), some (.int (Int32.ofNat s)), some (.int v), none] [] h (fun w h1 => w = some (.int (Int32.ofNat (gNo wt (upd nd s v) ar sy B W n) - Int32.ofNat (gNo wt nd ar sy B W n))) ∧ fr xG h h1 ∧ PC h1 n B W ar sy wt nd) := by
  have H' := H
  obtain ⟨hc, hw, hn, hp, h10, ⟨a0, ha0⟩, hl⟩ := H'
  have hc' := hc
  obtain ⟨⟨hn5, hB5, hW2⟩, ⟨en, eB, eW⟩, hA⟩ := hc'
  have P := mv_88 hc hw (s := s) (v := v) hs
  have bd : ∀ v, pcO wt B W s v < 2147483648 := fun v => by
    have l1 := pcO_le wt B W s v
    have l2 : B * (W + 1) ≤ 5 * 3 := Nat.mul_le_mul hB5 (by omega)
    omega
  have i5 : am_ix (Int32.ofNat s) 5 := ix_n (by omega) (by decide)
  by_cases c1 : Int32.ofNat (pcO wt B W s v) = h 55 s
  · have e : Int32.ofNat (gNo wt (upd nd s v) ar sy B W n) - Int32.ofNat (gNo wt nd ar sy B W n) = 0 := by
      have e2 : pcO wt B W s v = pcO wt B W s (nd s) := by
        rw [hp s hs, nz_inj (bd v) (bd (nd s))] at c1
        exact c1
      rw [gN_pc e2, upd_self]
      grind
    rw [e]
    refine .end _ h ⟨rfl, fr.refl _ _, H⟩ fun d L xs o g Q T hq => sm_105 (P.use (sm_105_6 rfl ⟨i5, ?_⟩))
    rw [nz_c s (by omega)]
    exact am_ift c1 hq
  obtain ⟨w, h1, ⟨rfl, g1, g2⟩, G⟩ := mx_106 H hs hv
  have late : mx 15 105 43 [some (.ref 45), some (.int (Int32.ofNat s)), some (.int v), some (.int (Int32.ofNat (pcO wt B W s v)))] [.int (Int32.ofNat (gNo wt (upd nd s v) ar sy B W n) - Int32.ofNat (gNo wt nd ar sy B W n)), .ref 45] h1 (fun w h1 => w = some (.int (Int32.ofNat (gNo wt (upd nd s v) ar sy B W n) - Int32.ofNat (gNo wt nd ar sy B W n))) ∧ fr xG h h1 ∧ PC h1 n B W ar sy wt nd) := by
    obtain ⟨kc, kw, kn, kp, k10, ka, kl⟩ := g2
    exact .end _ _ ⟨rfl, ((g1.set 45 13 _ rfl).set 45 11 _ rfl).set 45 12 _ rfl, kc, fun s b x a1 a2 a3 => by rw [as_cell _ _ _ (by omega), as_cell _ _ _ (by omega), as_cell _ _ _ (by omega)]; exact kw s b x a1 a2 a3, kn, kp, k10, ka, .inr ⟨s, v, hs, rfl, rfl, rfl⟩⟩ fun d L xs o g Q T hq => sm_105_43 rfl hq
  by_cases c2 : Int32.ofNat s = h 45 11
  · by_cases c3 : Int32.ofNat (pcO wt B W s v) = h 45 12
    · have e : h 45 13 = Int32.ofNat (gNo wt (upd nd s v) ar sy B W n) - Int32.ofNat (gNo wt nd ar sy B W n) := by
        rcases hl with hl | ⟨s0, v0, l1, l2, l3, l4⟩
        · exfalso
          rw [hl] at c2
          have := nat_n0 (k := s) (by omega)
          rw [c2] at this
          exact this (by decide)
        · have es : s = s0 := by rw [l2, nz_inj (by omega) (by omega)] at c2; exact c2
          subst es
          rw [l3, nz_inj (bd v) (bd v0)] at c3
          rw [l4, gN_pc c3]
      refine .end _ h ⟨rfl, fr.refl _ _, H⟩ fun d L xs o g Q T hq => sm_105 (P.use (sm_105_6 rfl ⟨i5, ?_⟩))
      rw [nz_c s (by omega)]
      refine am_iff c1 (am_ift c2 (am_ift c3 ?_))
      rw [e]
      exact hq
    · refine late.go fun d L xs o g Q T hx => sm_105 (P.use (sm_105_6 rfl ⟨i5, ?_⟩))
      rw [nz_c s (by omega)]
      exact am_iff c1 (am_ift c2 (am_iff c3 (G d L xs o g _ _ hx)))
  · refine late.go fun d L xs o g Q T hx => sm_105 (P.use (sm_105_6 rfl ⟨i5, ?_⟩))
    rw [nz_c s (by omega)]
    exact am_iff c1 (am_iff c2 (G d L xs o g _ _ hx))
/-- worth, by a span and by how the most grows with the deepest keel that is left -/
def woN (sp : Int32 × Int32) (z : Int32) (gf : Int32 → Int32) : Int32 := if sp.2 < sp.1 then 0 else if 0 < ((if z - 1 < sp.2 then z - 1 else sp.2) - sp.1) + 1 then ((1000 * gf (if z - 1 < sp.2 then z - 1 else sp.2)) * (((if z - 1 < sp.2 then z - 1 else sp.2) - sp.1) + 1)) / ((sp.2 - sp.1) + 1) else 0
theorem kl_b {k l : Int32} (k0 : ¬ k < 0) (k1 : ¬ 9 < k) (l0 : ¬ l < 0) (l1 : ¬ 99 < l) : ¬ k * (l / 10) < 0 ∧ ¬ 100 < k * (l / 10) := by
  rw [nz_lt] at k0 k1 l0 l1
  have z0 : (0 : Int32).toInt = 0 := rfl
  have z9 : (9 : Int32).toInt = 9 := rfl
  have z99 : (99 : Int32).toInt = 99 := rfl
  have z10 : (10 : Int32).toInt = 10 := rfl
  have z100 : (100 : Int32).toInt = 100 := rfl
  have d : (l / 10).toInt = l.toInt / 10 := by rw [nz_div (by omega) (by rw [z10]; decide), z10]
  have m0 : 0 ≤ k.toInt * (l.toInt / 10) := Int.mul_nonneg (by omega) (by omega)
  have m1 : k.toInt * (l.toInt / 10) ≤ 9 * 9 := Int.mul_le_mul (by omega) (by omega) (by omega) (by omega)
  have m : (k * (l / 10)).toInt = k.toInt * (l.toInt / 10) := by rw [nz_mul (by rw [d]; omega) (by rw [d]; omega), d]
  rw [nz_lt, nz_lt, m, z0, z100]
  omega
theorem mx_104 (H : PC h n B W ar sy wt nd) {s : Nat} {z : Int32} (hs : s < n) (z0 : ¬ z < 1) (z1 : ¬ 60 < z) (l0 : ¬ h 61 0 < 0) (r1 : ¬ 60 < h 61 1) (k0 : ¬ h 8 s < 0) (k1 : ¬ 9 < h 8 s) (w0 : ¬ h 30 s < 0) (w1 : ¬ 99 < h 30 s) (t0 : ¬ h 12 1 < 0) (t1 : ¬ 20 < h 12 1) (hnd : ¬ h 61 1 < h 61 0 → nd s = (h 61 1 + h 8 s * (h 30 s / 10)) + h 12 1) : mx 17 104 0 [some (.ref 0), some (.int (Int32.ofNat s)), some (.int z), none, none, none, none] [] h (fun w h1 => w = some (.int (woN (h 61 0, h 61 1) z (fun g' => Int32.ofNat (gNo wt (upd nd s ((g' + h 8 s * (h 30 s / 10)) + h 12 1)) ar sy B W n) - Int32.ofNat (gNo wt nd ar sy B W n)))) ∧ fr xG h h1 ∧ PC h1 n B W ar sy wt nd) := by
  have hn5 := H.1.1.1
  obtain ⟨kb0, kb1⟩ := kl_b k0 k1 w0 w1
  obtain ⟨gf, hgf⟩ : ∃ gf : Int32 → Int32, ∀ g', gf g' = Int32.ofNat (gNo wt (upd nd s ((g' + h 8 s * (h 30 s / 10)) + h 12 1)) ar sy B W n) - Int32.ofNat (gNo wt nd ar sy B W n) := ⟨_, fun _ => rfl⟩
  rw [show (fun g' => Int32.ofNat (gNo wt (upd nd s ((g' + h 8 s * (h 30 s / 10)) + h 12 1)) ar sy B W n) - Int32.ofNat (gNo wt nd ar sy B W n)) = gf from (funext hgf).symm]
  obtain ⟨m, hm⟩ : ∃ m, m = if z - 1 < h 61 1 then z - 1 else h 61 1 := ⟨_, rfl⟩
  have mle : ¬ h 61 1 < m := by rw [hm]; split <;> grind
  have mge : ¬ h 61 1 < h 61 0 → ¬ m < 0 := fun em => by rw [hm]; split <;> grind
  have e100 : fn_100 h z = if h 61 1 < h 61 0 then 0 else if 0 < (m - h 61 0) + 1 then (m - h 61 0) + 1 else 0 := by rw [hm]; rfl
  have e77 : fn_77 h = if h 61 1 < h 61 0 then 0 else (h 61 1 - h 61 0) + 1 := rfl
  have ew : woN (h 61 0, h 61 1) z gf = if h 61 1 < h 61 0 then 0 else if 0 < (m - h 61 0) + 1 then ((1000 * gf m) * ((m - h 61 0) + 1)) / ((h 61 1 - h 61 0) + 1) else 0 := by rw [hm]; rfl
  rw [ew]
  by_cases em : h 61 1 < h 61 0
  · rw [if_pos em] at e100 e77
    rw [if_pos em]
    exact .end _ h ⟨rfl, fr.refl _ _, H⟩ fun d L xs o g Q T hq => sm_104 (am_ift e77 hq)
  rw [if_neg em] at e100 e77
  rw [if_neg em]
  have mg := mge em
  have a0 : ¬ (h 61 1 - h 61 0) + 1 = 0 := by grind
  by_cases bl : 0 < (m - h 61 0) + 1
  rotate_left
  · rw [if_neg bl] at e100
    rw [if_neg bl]
    exact .end _ h ⟨rfl, fr.refl _ _, H⟩ fun d L xs o g Q T hq => sm_104 (am_iff (by rw [e77]; exact a0) (am_ift e100 hq))
  rw [if_pos bl] at e100
  rw [if_pos bl]
  have b0 : ¬ (m - h 61 0) + 1 = 0 := by grind
  by_cases ba : (m - h 61 0) + 1 = (h 61 1 - h 61 0) + 1
  · have e1 : m = h 61 1 := by grind
    have e2 : gf m = 0 := by
      rw [hgf, e1, ← hnd em, upd_self]
      grind
    have e3 : ((1000 * gf m) * ((m - h 61 0) + 1)) / ((h 61 1 - h 61 0) + 1) = 0 := by
      rw [e2]
      have : (1000 * 0 * ((m - h 61 0) + 1) : Int32) = 0 := by grind
      rw [this]
      exact Int32.zero_div
    rw [e3]
    exact .end _ h ⟨rfl, fr.refl _ _, H⟩ fun d L xs o g Q T hq => sm_104 (am_iff (by rw [e77]; exact a0) (am_iff (by rw [e100]; exact b0) (am_ift (by rw [e100, e77]; exact ba) hq)))
  have ev : ((h 61 0 + ((m - h 61 0) + 1)) - 1 + h 8 s * (h 30 s / 10)) + h 12 1 = (m + h 8 s * (h 30 s / 10)) + h 12 1 := by grind
  have hv : ¬ nd s < (m + h 8 s * (h 30 s / 10)) + h 12 1 := by
    rw [hnd em]
    generalize h 8 s * (h 30 s / 10) = K at kb0 kb1
    grind
  obtain ⟨w, h1, ⟨rfl, g1, g2⟩, G⟩ := mx_105 H hs hv
  rw [← hgf] at G
  refine .end _ h1 ⟨rfl, g1, g2⟩ fun d L xs o g Q T hq => sm_104 (am_iff (by rw [e77]; exact a0) (am_iff (by rw [e100]; exact b0) (am_iff (by rw [e100, e77]; exact ba) ⟨ix_n (by omega) (by decide), ?_⟩)))
  rw [nz_c s (by omega), e100, e77, ev]
  refine G (d + 1) L xs o g _ _ (sm_104_73 rfl rfl rfl rfl rfl ⟨a0, ?_⟩)
  rw [Int32.mul_comm (gf m) 1000]
  exact hq
end
