/-! ===== spans ===== -/
/-- two numbers written into a cell -/
def wrp (h : am_M) (c i j : Nat) (p : Int32 × Int32) : am_M := am_set (am_set h c i p.1) c j p.2
theorem wrp_i (h : am_M) (c : Nat) {i j : Nat} (p : Int32 × Int32) (v : Int32) (e : i ≠ j) : am_set (wrp h c i j p) c i v = wrp h c i j (v, p.2) := by
  unfold wrp
  rw [as_swap _ _ _ (by simp [e.symm]), as_twice]
theorem wrp_j (h : am_M) (c i j : Nat) (p : Int32 × Int32) (v : Int32) : am_set (wrp h c i j p) c j v = wrp h c i j (p.1, v) := by
  unfold wrp
  rw [as_twice]
theorem wrp_gi (h : am_M) (c : Nat) {i j : Nat} (p : Int32 × Int32) (e : i ≠ j) : wrp h c i j p c i = p.1 := by
  unfold wrp
  rw [as_slot _ _ _ e, as_self]
theorem wrp_gj (h : am_M) (c i j : Nat) (p : Int32 × Int32) : wrp h c i j p c j = p.2 := by
  unfold wrp
  rw [as_self]
theorem wrp_c (h : am_M) {c k : Nat} (i j : Nat) (p : Int32 × Int32) (e : k ≠ c) : wrp h c i j p k = h k := by
  unfold wrp
  rw [as_cell _ _ _ e, as_cell _ _ _ e]
theorem wrp_s (h : am_M) (c : Nat) {i j k : Nat} (p : Int32 × Int32) (e1 : k ≠ i) (e2 : k ≠ j) : wrp h c i j p c k = h c k := by
  unfold wrp
  rw [as_slot _ _ _ e2, as_slot _ _ _ e1]
theorem wrp_w (h : am_M) (c i j : Nat) (p q : Int32 × Int32) (e : i ≠ j) : wrp (wrp h c i j p) c i j q = wrp h c i j q := by
  show am_set (am_set (wrp h c i j p) c i q.1) c j q.2 = _
  rw [wrp_i _ _ _ _ e, wrp_j]
/-- a span cut by one event -/
def sp_cut (b : Bool) (d t : Int32) (s : Int32 × Int32) : Int32 × Int32 := if b = true then (if t = 0 then (s.1, if d - 1 < s.2 then d - 1 else s.2) else (if s.1 < d then d else s.1, s.2)) else s
/-- a span behind n events -/
def spn (tk : Nat → Bool) (D T : Nat → Int32) (s : Int32 × Int32) : Nat → Int32 × Int32
  | 0 => s
  | n + 1 => sp_cut (tk n) (D n) (T n) (spn tk D T s n)
theorem spn_congr {tk tk' : Nat → Bool} {D D' T T' : Nat → Int32} (s : Int32 × Int32) : ∀ n, (∀ k, k < n → tk k = tk' k ∧ D k = D' k ∧ T k = T' k) → spn tk D T s n = spn tk' D' T' s n
  | 0, _ => rfl
  | n + 1, h => by
    have ih := spn_congr s n (fun k hk => h k (by omega))
    have h1 := h n (by omega)
    simp only [spn, ih, h1.1, h1.2.1, h1.2.2]
section
variable {L : Nat} {xs : Nat → Int32} {d : Nat} {h : am_M} {o : am_L} {g : Nat} {Q : Option Value → am_M → am_L → Nat → Prop} {T : Nat → am_M → am_L → Nat → Prop}
/-- whom an event tells -/
def tk_kn (h : am_M) (p s but : Int32) (k : Nat) : Bool := decide (h 24 k = p) && (decide (h 26 k = s) && decide (¬ Int32.ofNat k = but))
theorem lp_76 {p s but : Int32} {N : Nat} (hN : N ≤ 80) (s0 : Int32 × Int32) : ∀ (m k : Nat), k + m = N → Q none (wrp h 61 0 1 (spn (tk_kn h p s but) (h 27) (h 28) s0 N)) o g → am_X L xs (d + 1) 76 26 [some (.ref 23), some (.int p), some (.int s), some (.int (Int32.ofNat N)), some (.int but), some (.ref 61), some (.int (Int32.ofNat k))] [] am_C0 (wrp h 61 0 1 (spn (tk_kn h p s but) (h 27) (h 28) s0 k)) o g Q T := by
  intro m
  induction m with
  | zero =>
    intro k hk hq
    refine sm_76_26 ?_
    rw [if_neg (by rw [nz_nlt (by omega) (by omega)]; omega)]
    have : k = N := by omega
    subst this
    exact hq
  | succ m ih =>
    intro k hk hq
    have IH := ih (k + 1) (by omega) hq
    refine sm_76_26 ?_
    rw [if_pos (by rw [nz_nlt (by omega) (by omega)]; omega)]
    refine ⟨ix_n (by omega) (by decide), ?_⟩
    rw [nz_c k (by omega), nz_succ k]
    simp only [wrp_c h 0 1 _ (show (24 : Nat) ≠ 61 by decide), wrp_c h 0 1 _ (show (26 : Nat) ≠ 61 by decide), wrp_c h 0 1 _ (show (27 : Nat) ≠ 61 by decide), wrp_c h 0 1 _ (show (28 : Nat) ≠ 61 by decide), wrp_gi h 61 _ (show (0 : Nat) ≠ 1 by decide), wrp_gj, wrp_i h 61 _ _ (show (0 : Nat) ≠ 1 by decide), wrp_j]
    simp only [spn, sp_cut, tk_kn] at IH
    by_cases h1 : h 24 k = p
    · by_cases h2 : h 26 k = s
      · by_cases h3 : Int32.ofNat k = but
        · simpa [h1, h2, h3] using IH
        · by_cases h4 : h 28 k = 0
          · simpa [h1, h2, h3, h4] using IH
          · simpa [h1, h2, h3, h4] using IH
      · simpa [h1, h2] using IH
    · simpa [h1] using IH
theorem mv_76 {p s but : Int32} {N : Nat} (hN : N ≤ 80) (hs : am_ix s 5) : mv 1 76 [some (.ref 23), some (.int p), some (.int s), some (.int (Int32.ofNat N)), some (.int but), some (.ref 61), none] h none (wrp h 61 0 1 (spn (tk_kn h p s but) (h 27) (h 28) (h 4 s.toNatClampNeg, h 5 s.toNatClampNeg) N)) := fun d L xs o g Q T hq => by
  refine sm_76 ⟨hs, ?_⟩
  exact lp_76 hN (h 4 s.toNatClampNeg, h 5 s.toNatClampNeg) N 0 (by omega) hq
end
