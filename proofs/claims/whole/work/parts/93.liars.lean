/-! ===== liars ===== -/
def spW (h : am_M) (s set : Int32) (N : Nat) : Int32 × Int32 := spn (tk_wo h s set) (h 27) (h 28) (h 4 s.toNatClampNeg, h 5 s.toNatClampNeg) N
/-- no keel of ship j is left by what isn't told by the set -/
def empW (h : am_M) (set : Int32) (N j : Nat) : Bool := decide ((spW h (Int32.ofNat j) set N).2 < (spW h (Int32.ofNat j) set N).1)
def btF : Nat → Int32 → Int32 → Option Int32
  | 0, _, _ => none
  | n + 1, c, x => if x = 0 then some c else btF n (c + 1) (x &&& (x - 1))
theorem btF_16 : ∀ a : Fin 16, btF 6 0 (Int32.ofNat a.val) = some (fn_14 (Int32.ofNat a.val)) := by decide +kernel
section
variable {h : am_M}
theorem mv_16w {s set : Int32} {N : Nat} (q : Int32 × Int32) (hN : N ≤ 80) (e1 : h 23 0 = Int32.ofNat N) (hs : am_ix s 5) : mv 1 16 [some (.ref 23), some (.int s), some (.int set), some (.ref 61), none, none] (wrp h 61 0 1 q) none (wrp h 61 0 1 (spW h s set N)) := by
  have := mv_16 (h := wrp h 61 0 1 q) (s := s) (set := set) hN e1 hs
  have e : wrp (wrp h 61 0 1 q) 61 0 1 (spW h s set N) = wrp h 61 0 1 (spW h s set N) := wrp_w h 61 0 1 q _ (by decide)
  rw [← e]
  exact this
theorem lp_15 {set : Int32} {N n : Nat} (hN : N ≤ 80) (e1 : h 23 0 = Int32.ofNat N) (hn : n ≤ 5) (en : h 3 0 = Int32.ofNat n) : ∀ (m k : Nat) (q : Int32 × Int32), k + m = n → mx 2 15 2 [some (.ref 0), some (.int set), some (.int (Int32.ofNat k))] [] (wrp h 61 0 1 q) (fun w h1 => w = some (.int (if anyF (empW h set N) k m = true then 0 else 1)) ∧ ∃ q', h1 = wrp h 61 0 1 q') := by
  intro m
  induction m with
  | zero =>
    intro k q hk
    refine .end _ _ ⟨rfl, q, rfl⟩ fun d L xs o g Q T hq => sm_15_2 ?_
    rw [show (wrp h 61 0 1 q) 3 0 = Int32.ofNat n from en]
    exact am_iff (by rw [nz_nlt (by omega) (by omega)]; omega) hq
  | succ m ih =>
    intro k q hk
    have H := mv_16w (h := h) (s := Int32.ofNat k) (set := set) q hN e1 (ix_n (by omega) (by decide))
    have lt : Int32.ofNat k < Int32.ofNat n := by rw [nz_nlt (by omega) (by omega)]; omega
    by_cases em : (spW h (Int32.ofNat k) set N).2 < (spW h (Int32.ofNat k) set N).1
    · have ea : anyF (empW h set N) k (m + 1) = true := by simp [anyF, empW, em]
      rw [if_pos ea]
      refine .end _ (wrp h 61 0 1 (spW h (Int32.ofNat k) set N)) ⟨rfl, spW h (Int32.ofNat k) set N, rfl⟩ fun d L xs o g Q T hq => sm_15_2 ?_
      rw [show (wrp h 61 0 1 q) 3 0 = Int32.ofNat n from en]
      exact am_ift lt (H.use (sm_15_26 (am_ift em hq)))
    · have ea : anyF (empW h set N) k (m + 1) = anyF (empW h set N) (k + 1) m := by simp [anyF, empW, em]
      rw [ea]
      refine (ih (k + 1) (spW h (Int32.ofNat k) set N) (by omega)).go fun d L xs o g Q T hx => sm_15_2 ?_
      rw [show (wrp h 61 0 1 q) 3 0 = Int32.ofNat n from en]
      exact am_ift lt (H.use (sm_15_26 (am_iff em (by rw [nz_succ]; exact hx))))
def tk_mw (h : am_M) (s set : Int32) (k : Nat) : Bool := decide (h 84 k = s) && (decide (h 83 k = -1) || decide ((set >>> (h 82 k &&& 31)) &&& 1 = 0))
theorem lp_175i {s set : Int32} {N : Nat} {P : Option Value → am_M → Prop} (hN : N ≤ 80) (e2 : h 64 28 = Int32.ofNat N) (s0 : Int32 × Int32) : ∀ (m k : Nat), k + m = N → (if (spn (tk_mw h s set) (h 85) (h 87) s0 N).2 < (spn (tk_mw h s set) (h 85) (h 87) s0 N).1 then P (some (.int 0)) (wrp h 64 35 36 (spn (tk_mw h s set) (h 85) (h 87) s0 N)) else mx 1 175 2 [some (.ref 64), some (.int set), some (.int (s + 1)), some (.int (Int32.ofNat N))] [] (wrp h 64 35 36 (spn (tk_mw h s set) (h 85) (h 87) s0 N)) P) → mx 1 175 19 [some (.ref 64), some (.int set), some (.int s), some (.int (Int32.ofNat k))] [] (wrp h 64 35 36 (spn (tk_mw h s set) (h 85) (h 87) s0 k)) P := by
  intro m
  induction m with
  | zero =>
    intro k hk hH
    have : k = N := by omega
    subst this
    have lt : ¬ Int32.ofNat k < Int32.ofNat k := by rw [nz_nlt (by omega) (by omega)]; omega
    by_cases em : (spn (tk_mw h s set) (h 85) (h 87) s0 k).2 < (spn (tk_mw h s set) (h 85) (h 87) s0 k).1
    · rw [if_pos em] at hH
      refine .end _ _ hH fun d L xs o g Q T hq => sm_175_19 ?_
      rw [wrp_s h 64 _ (show (28 : Nat) ≠ 35 by decide) (show (28 : Nat) ≠ 36 by decide), e2]
      refine am_iff lt ?_
      rw [wrp_gi h 64 _ (show (35 : Nat) ≠ 36 by decide), wrp_gj]
      exact am_ift em hq
    · rw [if_neg em] at hH
      refine hH.go fun d L xs o g Q T hx => sm_175_19 ?_
      rw [wrp_s h 64 _ (show (28 : Nat) ≠ 35 by decide) (show (28 : Nat) ≠ 36 by decide), e2]
      refine am_iff lt ?_
      rw [wrp_gi h 64 _ (show (35 : Nat) ≠ 36 by decide), wrp_gj]
      exact am_iff em hx
  | succ m ih =>
    intro k hk hH
    refine (ih (k + 1) (by omega) hH).go fun d L xs o g Q T IH => sm_175_19 ?_
    rw [wrp_s h 64 _ (show (28 : Nat) ≠ 35 by decide) (show (28 : Nat) ≠ 36 by decide), e2, if_pos (by rw [nz_nlt (by omega) (by omega)]; omega)]
    refine ⟨ix_n (by omega) (by decide), ?_⟩
    rw [nz_c k (by omega), nz_succ k]
    simp only [wrp_gi h 64 _ (show (35 : Nat) ≠ 36 by decide), wrp_gj, wrp_i h 64 _ _ (show (35 : Nat) ≠ 36 by decide), wrp_j, wrp_c h 35 36 _ (show (82 : Nat) ≠ 64 by decide), wrp_c h 35 36 _ (show (83 : Nat) ≠ 64 by decide), wrp_c h 35 36 _ (show (84 : Nat) ≠ 64 by decide), wrp_c h 35 36 _ (show (85 : Nat) ≠ 64 by decide), wrp_c h 35 36 _ (show (87 : Nat) ≠ 64 by decide)]
    simp only [spn, sp_cut, tk_mw] at IH
    by_cases h2 : h 84 k = s
    · by_cases h1 : h 83 k = -1
      · by_cases h4 : h 87 k = 0
        · simpa [h1, h2, h4] using IH
        · simpa [h1, h2, h4] using IH
      · by_cases h3 : (set >>> (h 82 k &&& 31)) &&& 1 = 0
        · by_cases h4 : h 87 k = 0
          · simpa [h1, h2, h3, h4] using IH
          · simpa [h1, h2, h3, h4] using IH
        · simpa [h1, h2, h3] using IH
    · simpa [h2] using IH
theorem sh16 : ∀ (a : Fin 16) (c : Fin 4), (decide ((Int32.ofNat a.val >>> (Int32.ofNat c.val &&& 31)) &&& 1 = 0)) = decide (Int32.ofNat a.val &&& (1 <<< (Int32.ofNat c.val &&& 31)) = 0) := by decide +kernel
theorem nat4 {x n : Int32} (h0 : ¬ x < 0) (h1 : x < n) (hn : ¬ 4 < n) : ∃ c : Fin 4, x = Int32.ofNat c.val := by
  have e : x = 0 ∨ x = 1 ∨ x = 2 ∨ x = 3 := by grind
  rcases e with e | e | e | e
  · exact ⟨0, e⟩
  · exact ⟨1, e⟩
  · exact ⟨2, e⟩
  · exact ⟨3, e⟩
theorem spW_m (hI : Iv h) {N j a : Nat} (hN : N ≤ 80) (e1 : h 23 0 = Int32.ofNat N) (ha : a < 16) (hj : j < 5) (hj1 : Int32.ofNat j < h 3 0) : spn (tk_mw h (Int32.ofNat j) (Int32.ofNat a)) (h 85) (h 87) (h 69 j, h 70 j) N = spW h (Int32.ofNat j) (Int32.ofNat a) N := by
  obtain ⟨hT, hP, ⟨N', hN', e1', e2, hE, _⟩, _⟩ := hI
  have en : N' = N := by rw [e1'] at e1; exact (nz_inj (by omega) (by omega)).1 e1
  subst en
  have hs := (hP.2.2.1 j hj hj1).1
  unfold spW
  rw [nz_c j (by omega), hs.1, hs.2.1]
  apply spn_congr
  intro k hk
  obtain ⟨⟨u1, u2, u3, u4, u5, u6, u7⟩, ⟨c1, c2, c3⟩, hd⟩ := hE k (by omega)
  refine ⟨?_, c2, c3⟩
  unfold tk_mw tk_wo
  rw [c1]
  rcases hd with ⟨d1, d2, d3, d4⟩ | ⟨d1, d2, d3, d4, d5⟩
  · rw [d1, d2]
    simp
  · obtain ⟨c, hc⟩ := nat4 d1 d2 hP.2.1.2.2.2.1
    have e1 : ¬ h 83 k = -1 := by rw [d3]; grind
    have e2 : ¬ h 25 k = -1 := by grind
    rw [d4, decide_eq_false e1, decide_eq_false e2, hc, sh16 ⟨a, ha⟩ c, Bool.and_comm]
theorem lp_175 (hI : Iv h) {N n a : Nat} (hN : N ≤ 80) (e1 : h 23 0 = Int32.ofNat N) (hn : n ≤ 5) (en : h 3 0 = Int32.ofNat n) (ha : a < 16) : ∀ (m k : Nat) (q3 : Option Value) (q : Int32 × Int32), am_nl q3 = true → k + m = n → mx 1 175 2 [some (.ref 64), some (.int (Int32.ofNat a)), some (.int (Int32.ofNat k)), q3] [] (wrp h 64 35 36 q) (fun w h1 => w = some (.int (if anyF (empW h (Int32.ofNat a) N) k m = true then 0 else 1)) ∧ ∃ q', h1 = wrp h 64 35 36 q') := by
  have en2 : h 68 0 = Int32.ofNat n := by rw [hI.2.1.1.1]; exact en
  have e2 : h 64 28 = Int32.ofNat N := by
    obtain ⟨_, _, ⟨N', hN', e1', e2, _⟩, _⟩ := hI
    rw [e2, ← e1', e1]
  intro m
  induction m with
  | zero =>
    intro k q3 q hq3 hk
    refine .end _ _ ⟨rfl, q, rfl⟩ fun d L xs o g Q T hq => sm_175_2 hq3 ?_
    rw [show (wrp h 64 35 36 q) 68 0 = Int32.ofNat n from en2]
    exact am_iff (by rw [nz_nlt (by omega) (by omega)]; omega) hq
  | succ m ih =>
    intro k q3 q hq3 hk
    have lt : Int32.ofNat k < Int32.ofNat n := by rw [nz_nlt (by omega) (by omega)]; omega
    have es := spW_m hI hN e1 ha (show k < 5 by omega) (by rw [en]; exact lt)
    have I := lp_175i (h := h) (s := Int32.ofNat k) (set := Int32.ofNat a) (N := N) (P := fun w h1 => w = some (.int (if anyF (empW h (Int32.ofNat a) N) k (m + 1) = true then 0 else 1)) ∧ ∃ q', h1 = wrp h 64 35 36 q') hN e2 (h 69 k, h 70 k) N 0 (by omega) (by
      rw [es]
      by_cases em : (spW h (Int32.ofNat k) (Int32.ofNat a) N).2 < (spW h (Int32.ofNat k) (Int32.ofNat a) N).1
      · have ea : anyF (empW h (Int32.ofNat a) N) k (m + 1) = true := by simp [anyF, empW, em]
        rw [if_pos em]
        exact ⟨by rw [if_pos ea], _, rfl⟩
      · have ea : anyF (empW h (Int32.ofNat a) N) k (m + 1) = anyF (empW h (Int32.ofNat a) N) (k + 1) m := by simp [anyF, empW, em]
        rw [if_neg em, ea, nz_succ]
        exact ih (k + 1) _ _ rfl (by omega))
    refine I.go fun d L xs o g Q T hx => sm_175_2 hq3 ?_
    rw [show (wrp h 64 35 36 q) 68 0 = Int32.ofNat n from en2]
    refine am_ift lt ⟨ix_n (by omega) (by decide), ?_⟩
    rw [nz_c k (by omega)]
    have e : am_set (am_set (wrp h 64 35 36 q) 64 35 ((wrp h 64 35 36 q) 69 k)) 64 36 ((wrp h 64 35 36 q) 70 k) = wrp h 64 35 36 (h 69 k, h 70 k) := wrp_w h 64 35 36 q (h 69 k, h 70 k) (by decide)
    rw [e]
    exact hx
theorem lp_174 {L : Nat} {xs : Nat → Int32} {d : Nat} {o : am_L} {g : Nat} {Q : Option Value → am_M → am_L → Nat → Prop} {T : Nat → am_M → am_L → Nat → Prop} {q0 : Option Value} (hq0 : am_nl q0 = true) {v : Int32} : ∀ n c x, btF n c x = some v → Q (some (.int v)) h o g → am_X L xs d 174 4 [q0, some (.int c), some (.int x)] [] am_C0 h o g Q T := by
  intro n
  induction n with
  | zero => intro c x hb; simp [btF] at hb
  | succ n ih =>
    intro c x hb hq
    refine sm_174_4 hq0 ?_
    simp only [btF] at hb
    by_cases e : x = 0
    · rw [if_pos e] at hb
      cases hb
      exact am_ift e hq
    · rw [if_neg e] at hb
      exact am_iff e (ih _ _ hb hq)
theorem mv_174 {a : Nat} (ha : a < 16) : mv 0 174 [some (.int (Int32.ofNat a)), none, none] h (some (.int (fn_14 (Int32.ofNat a)))) h := fun d L xs o g Q T hq => sm_174 (lp_174 rfl 6 0 _ (btF_16 ⟨a, ha⟩) hq)
end
def lF (pos : Nat → Bool) : Nat → Nat → Int32 → Int32
  | _, 0, c => c
  | k, m + 1, c => lF pos (k + 1) m (if fn_14 (Int32.ofNat k) < fn_14 c then (if pos k = true then Int32.ofNat k else c) else c)
def lG (pos : Nat → Bool) : Nat → Nat → Int32 → Int32
  | _, 0, c => c
  | k, m + 1, c => lG pos (k + 1) m (if c = -1 then (if pos k = true then Int32.ofNat k else c) else if fn_14 (Int32.ofNat k) < fn_14 c then (if pos k = true then Int32.ofNat k else c) else c)
theorem l_eq {pos : Nat → Bool} {S : Nat} (hS : S ≤ 16) (hp : pos (S - 1) = true) (f1 : ∀ k, k < S - 1 → fn_14 (Int32.ofNat k) < fn_14 (Int32.ofNat (S - 1))) : ∀ m k c c', k + (m + 1) = S → ((c' = -1 ∧ c = Int32.ofNat (S - 1)) ∨ (c' = c ∧ ∃ j, j < S - 1 ∧ c = Int32.ofNat j)) → lG pos k (m + 1) c' = lF pos k (m + 1) c := by
  intro m
  induction m with
  | zero =>
    intro k c c' hk hc
    have ek : k = S - 1 := by omega
    subst ek
    simp only [lG, lF]
    rcases hc with ⟨h1, h2⟩ | ⟨h1, j, hj, h2⟩
    · rw [if_pos h1, if_pos hp, h2]
      have : ¬ fn_14 (Int32.ofNat (S - 1)) < fn_14 (Int32.ofNat (S - 1)) := by grind
      rw [if_neg this]
    · have e1 : ¬ c = -1 := by
        rw [h2]
        have : ¬ Int32.ofNat j < 0 := by rw [nz_lt, nz_n j (by omega)]; have : (0 : Int32).toInt = 0 := rfl; omega
        grind
      have e2 : ¬ fn_14 (Int32.ofNat (S - 1)) < fn_14 c := by
        have := f1 j hj
        rw [h2]
        grind
      subst h1
      rw [if_neg e1, if_neg e2]
  | succ m ih =>
    intro k c c' hk hc
    have hk1 : k < S - 1 := by omega
    rw [lG, lF]
    apply ih (k + 1) _ _ (by omega)
    rcases hc with ⟨h1, h2⟩ | ⟨h1, j, hj, h2⟩
    · have f := f1 k hk1
      rw [← h2] at f
      rw [if_pos h1, if_pos f]
      by_cases p : pos k = true
      · simp only [if_pos p]
        exact .inr ⟨by trivial, k, hk1, by trivial⟩
      · simp only [if_neg p]
        exact .inl ⟨h1, h2⟩
    · have e1 : ¬ c = -1 := by
        rw [h2]
        have : ¬ Int32.ofNat j < 0 := by rw [nz_lt, nz_n j (by omega)]; have : (0 : Int32).toInt = 0 := rfl; omega
        grind
      subst h1
      rw [if_neg e1]
      refine .inr ⟨rfl, ?_⟩
      by_cases p1 : fn_14 (Int32.ofNat k) < fn_14 c'
      · rw [if_pos p1]
        by_cases p : pos k = true
        · rw [if_pos p]
          exact ⟨k, hk1, rfl⟩
        · rw [if_neg p]
          exact ⟨j, hj, h2⟩
      · rw [if_neg p1]
        exact ⟨j, hj, h2⟩
theorem f14 : ∀ (np : Fin 5) (k : Fin 16), k.val < 2 ^ np.val - 1 → fn_14 (Int32.ofNat k.val) < fn_14 (Int32.ofNat (2 ^ np.val - 1)) := by decide +kernel
theorem p14 : ∀ (np : Fin 5) (c : Fin 4), c.val < np.val → ¬ Int32.ofNat (2 ^ np.val - 1) &&& (1 <<< (Int32.ofNat c.val &&& 31)) = 0 := by decide +kernel
theorem s14 : ∀ np : Fin 5, (1 <<< (Int32.ofNat np.val &&& 31) : Int32) = Int32.ofNat (2 ^ np.val) ∧ ((1 <<< (Int32.ofNat np.val &&& 31)) - 1 : Int32) = Int32.ofNat (2 ^ np.val - 1) := by decide +kernel
theorem w14 : ∀ np : Fin 5, 1 ≤ 2 ^ np.val ∧ 2 ^ np.val ≤ 16 := by decide
/-- with all persons as liars, the leads alone -/
theorem pos_all {h : am_M} (hI : Iv h) {N n : Nat} (np : Fin 5) (hN : N ≤ 80) (e1 : h 23 0 = Int32.ofNat N) (hn : n ≤ 5) (en : h 3 0 = Int32.ofNat n) (enp : h 3 1 = Int32.ofNat np.val) : anyF (empW h (Int32.ofNat (2 ^ np.val - 1)) N) 0 n = false := by
  obtain ⟨hT, hP, ⟨N', hN', e1', e2, hE, hG, hJ, hS⟩, _⟩ := hI
  have eN : N' = N := by rw [e1'] at e1; exact (nz_inj (by omega) (by omega)).1 e1
  subst eN
  have : ∀ j, 0 ≤ j → j < 0 + n → empW h (Int32.ofNat (2 ^ np.val - 1)) N' j = (fun _ => false) j := by
    intro j _ hj
    have hs := hS j (by omega) (by rw [en, nz_nlt (by omega) (by omega)]; omega)
    have e : spW h (Int32.ofNat j) (Int32.ofNat (2 ^ np.val - 1)) N' = spL (h 25) (h 26) (h 27) (h 28) (Int32.ofNat j) (h 4 j) (h 5 j) N' := by
      unfold spW spL
      rw [nz_c j (by omega)]
      apply spn_congr
      intro k hk
      obtain ⟨_, _, hd⟩ := hE k (by omega)
      refine ⟨?_, rfl, rfl⟩
      unfold tk_wo
      rcases hd with ⟨d1, _⟩ | ⟨d1, d2, _⟩
      · simp [d1]
      · obtain ⟨c, hc⟩ := nat4 d1 d2 hP.2.1.2.2.2.1
        have lt : c.val < np.val := by
          rw [hc, enp, nz_nlt (by omega) (by omega)] at d2
          exact d2
        have ne := p14 np c lt
        have e2 : ¬ h 25 k = -1 := by grind
        rw [← hc] at ne
        simp [ne]
    unfold empW
    rw [e]
    exact decide_eq_false hs
  rw [anyF_congr n 0 this]
  clear this
  have : ∀ m k, anyF (fun _ => false) k m = false := by
    intro m
    induction m with
    | zero => intro k; rfl
    | succ m ih => intro k; simp [anyF, ih]
  exact this n 0
section
variable {h : am_M}
theorem lp_13 {N n S : Nat} (hN : N ≤ 80) (e1 : h 23 0 = Int32.ofNat N) (hn : n ≤ 5) (en : h 3 0 = Int32.ofNat n) (hS1 : 1 ≤ S) (hS : S ≤ 16) : ∀ (m k : Nat) (c : Int32) (q : Int32 × Int32), k + m = S → mx 4 13 16 [some (.ref 0), some (.int (Int32.ofNat (S - 1))), some (.int c), some (.int (Int32.ofNat k))] [] (wrp h 61 0 1 q) (fun w h1 => w = some (.int (lF (fun k => ! anyF (empW h (Int32.ofNat k) N) 0 n) k m c)) ∧ ∃ q', h1 = wrp h 61 0 1 q') := by
  intro m
  induction m with
  | zero =>
    intro k c q hk
    exact .end _ _ ⟨rfl, q, rfl⟩ fun d L xs o g Q T hq => sm_13_16 (am_ift (by rw [nz_nlt (by omega) (by omega)]; omega) hq)
  | succ m ih =>
    intro k c q hk
    have lt : ¬ Int32.ofNat (S - 1) < Int32.ofNat k := by rw [nz_nlt (by omega) (by omega)]; omega
    simp only [lF]
    by_cases c1 : fn_14 (Int32.ofNat k) < fn_14 c
    · obtain ⟨w, h1, ⟨rfl, q1, rfl⟩, G⟩ := lp_15 (h := h) (set := Int32.ofNat k) hN e1 hn en n 0 q (by omega)
      rw [if_pos c1]
      by_cases p : anyF (empW h (Int32.ofNat k) N) 0 n = true
      · rw [if_neg (by simp [p])]
        rw [if_pos p] at G
        refine (ih (k + 1) c q1 (by omega)).go fun d L xs o g Q T hx => sm_13_16 (am_iff lt (am_ift c1 (sm_15 (G (d + 1) L xs o g _ _ (sm_13_37 (am_ift rfl ?_))))))
        rw [nz_succ]; exact hx
      · rw [if_pos (by simp [p])]
        rw [if_neg p] at G
        refine (ih (k + 1) (Int32.ofNat k) q1 (by omega)).go fun d L xs o g Q T hx => sm_13_16 (am_iff lt (am_ift c1 (sm_15 (G (d + 1) L xs o g _ _ (sm_13_37 (am_iff (by decide) ?_))))))
        rw [nz_succ]; exact hx
    · rw [if_neg c1]
      refine (ih (k + 1) c q (by omega)).go fun d L xs o g Q T hx => sm_13_16 (am_iff lt (am_iff c1 ?_))
      rw [nz_succ]; exact hx
theorem lp_173 (hI : Iv h) {N n S : Nat} (np : Fin 5) (enp : h 3 1 = Int32.ofNat np.val) (hN : N ≤ 80) (e1 : h 23 0 = Int32.ofNat N) (hn : n ≤ 5) (en : h 3 0 = Int32.ofNat n) (hS : S = 2 ^ np.val) : ∀ (m k : Nat) (c : Int32) (q : Int32 × Int32), (c = -1 ∨ ∃ j, j < 16 ∧ c = Int32.ofNat j) → k + m = S → mx 4 173 9 [some (.ref 64), some (.int c), some (.int (Int32.ofNat k))] [] (wrp h 64 35 36 q) (fun w h1 => w = some (.int (lG (fun k => ! anyF (empW h (Int32.ofNat k) N) 0 n) k m c)) ∧ ∃ q', h1 = wrp h 64 35 36 q') := by
  have hS16 : S ≤ 16 := hS ▸ (w14 np).2
  have es : (1 <<< (h 68 1 &&& 31) : Int32) = Int32.ofNat S := by rw [hI.2.1.1.2.1, enp, (s14 np).1, hS]
  intro m
  induction m with
  | zero =>
    intro k c q hc hk
    refine .end _ _ ⟨rfl, q, rfl⟩ fun d L xs o g Q T hq => sm_173_9 ?_
    rw [show (1 <<< ((wrp h 64 35 36 q) 68 1 &&& 31) : Int32) = Int32.ofNat S from es]
    exact am_iff (by rw [nz_nlt (by omega) (by omega)]; omega) hq
  | succ m ih =>
    intro k c q hc hk
    have lt : Int32.ofNat k < Int32.ofNat S := by rw [nz_nlt (by omega) (by omega)]; omega
    have head : ∀ {d L : Nat} {xs : Nat → Int32} {o : am_L} {g : Nat} {Q : Option Value → am_M → am_L → Nat → Prop} {T : Nat → am_M → am_L → Nat → Prop} {A B : Prop}, A → (if Int32.ofNat k < (1 <<< ((wrp h 64 35 36 q) 68 1 &&& 31)) then A else B) := fun ha => by
      rw [show (1 <<< ((wrp h 64 35 36 q) 68 1 &&& 31) : Int32) = Int32.ofNat S from es]
      exact am_ift lt ha
    obtain ⟨w, h1, ⟨rfl, q1, rfl⟩, G⟩ := lp_175 hI hN e1 hn en (show k < 16 by omega) n 0 none q rfl (by omega)
    have tail : mx 4 173 42 [some (.ref 64), some (.int c), some (.int (Int32.ofNat k))] [.int (if anyF (empW h (Int32.ofNat k) N) 0 n = true then 0 else 1)] (wrp h 64 35 36 q1) (fun w h1 => w = some (.int (lG (fun k => ! anyF (empW h (Int32.ofNat k) N) 0 n) (k + 1) m (if (! anyF (empW h (Int32.ofNat k) N) 0 n) = true then Int32.ofNat k else c))) ∧ ∃ q', h1 = wrp h 64 35 36 q') := by
      by_cases p : anyF (empW h (Int32.ofNat k) N) 0 n = true
      · simp only [p, Bool.not_true, Bool.false_eq_true, ↓reduceIte]
        refine (ih (k + 1) c q1 hc (by omega)).go fun d L xs o g Q T hx => sm_173_42 (am_ift rfl ?_)
        rw [nz_succ]; exact hx
      · have p' : anyF (empW h (Int32.ofNat k) N) 0 n = false := by simpa using p
        simp only [p', Bool.not_false, Bool.false_eq_true, ↓reduceIte]
        refine (ih (k + 1) (Int32.ofNat k) q1 (.inr ⟨k, by omega, rfl⟩) (by omega)).go fun d L xs o g Q T hx => sm_173_42 (am_iff (by decide) ?_)
        rw [nz_succ]; exact hx
    simp only [lG]
    by_cases c0 : c = -1
    · rw [if_pos c0]
      exact tail.go fun d L xs o g Q T hx => sm_173_9 (head (L := L) (xs := xs) (d := d) (o := o) (g := g) (Q := Q) (T := T) (am_ift c0 (sm_175 (G (d + 2) L xs o g _ _ hx))))
    · obtain ⟨j, hj, ec⟩ := hc.resolve_left c0
      have B1 := mv_174 (h := wrp h 64 35 36 q) (a := k) (by omega)
      have B2 := mv_174 (h := wrp h 64 35 36 q) (a := j) hj
      rw [if_neg c0]
      by_cases c1 : fn_14 (Int32.ofNat k) < fn_14 c
      · rw [if_pos c1]
        refine tail.go fun d L xs o g Q T hx => sm_173_9 (head (L := L) (xs := xs) (d := d) (o := o) (g := g) (Q := Q) (T := T) (am_iff c0 (B1.use (sm_173_30 ?_))))
        rw [ec] at hx c1 ⊢
        exact B2.use (sm_173_34 (am_ift c1 (sm_175 (G (d + 2) L xs o g _ _ hx))))
      · rw [if_neg c1]
        refine (ih (k + 1) c q hc (by omega)).go fun d L xs o g Q T hx => sm_173_9 (head (L := L) (xs := xs) (d := d) (o := o) (g := g) (Q := Q) (T := T) (am_iff c0 (B1.use (sm_173_30 ?_))))
        rw [ec] at hx c1 ⊢
        refine B2.use (sm_173_34 (am_iff c1 ?_))
        rw [nz_succ]; exact hx
end
theorem nat_5 {x : Int32} (h0 : ¬ x < 0) (h1 : ¬ 5 < x) : ∃ n, n ≤ 5 ∧ x = Int32.ofNat n := by
  have e : 0 ≤ x.toInt := by rw [nz_lt] at h0; have : (0 : Int32).toInt = 0 := rfl; omega
  refine ⟨x.toNatClampNeg, ?_, nz_of e⟩
  rw [nz_lt] at h1
  have : (5 : Int32).toInt = 5 := rfl
  rw [nz_cn]
  omega
theorem w_self (h : am_M) (c : Nat) {i j : Nat} : wrp h c i j (h c i, h c j) = h := by
  funext k l
  simp only [wrp, as_get]
  by_cases z1 : k = c ∧ l = j
  · obtain ⟨rfl, rfl⟩ := z1; simp
  · rw [if_neg z1]
    by_cases z2 : k = c ∧ l = i
    · obtain ⟨rfl, rfl⟩ := z2; simp
    · rw [if_neg z2]
theorem op_liars {h : am_M} (hI : Iv h) : opR 13 [some (.ref 0), none, none, none] 173 [some (.ref 64), none, none] cdN h := by
  have hI' := hI
  obtain ⟨hT, hP, ⟨N, hN, e1, e2, hE, hG, hJ, hS⟩, hII, hR, hK⟩ := hI'
  obtain ⟨b0, b1, b2, b3, _⟩ := hP.2.1
  obtain ⟨n, hn, en⟩ := nat_5 b0 b1
  obtain ⟨np', hnp, enp'⟩ := nat_5 b2 (show ¬ 5 < h 3 1 by grind)
  have hnp5 : np' < 5 := by
    rw [enp'] at b3
    have : ¬ Int32.ofNat 4 < Int32.ofNat np' := b3
    rw [nz_nlt (by omega) (by omega)] at this
    omega
  obtain ⟨np, enp⟩ : ∃ np : Fin 5, h 3 1 = Int32.ofNat np.val := ⟨⟨np', hnp5⟩, enp'⟩
  clear enp' hnp hnp5
  have w := w14 np
  obtain ⟨S, hSe⟩ : ∃ S, S = 2 ^ np.val := ⟨_, rfl⟩
  rw [← hSe] at w
  obtain ⟨wc, h1, ⟨rfl, q1, rfl⟩, GC⟩ := lp_13 (h := h) hN e1 hn en w.1 w.2 S 0 (Int32.ofNat (S - 1)) (h 61 0, h 61 1) (by omega)
  obtain ⟨wm, h2, ⟨rfl, q2, rfl⟩, GM⟩ := lp_173 (h := am_set (wrp h 61 0 1 q1) 64 3 0) hI np enp hN e1 hn en hSe S 0 (-1) ((am_set (wrp h 61 0 1 q1) 64 3 0) 64 35, (am_set (wrp h 61 0 1 q1) 64 3 0) 64 36) (.inl rfl) (by omega)
  rw [w_self] at GC GM
  refine ⟨0, lF (fun k => ! anyF (empW h (Int32.ofNat k) N) 0 n) 0 S (Int32.ofNat (S - 1)), lG (fun k => ! anyF (empW h (Int32.ofNat k) N) 0 n) 0 S (-1), wrp h 61 0 1 q1, wrp (am_set (wrp h 61 0 1 q1) 64 3 0) 64 35 36 q2, .v fun d L xs o g Q T hq => sm_13 ?_, fun d L xs o g Q T hq => sm_173 (GM (d + 46) L xs o g Q T hq), hI, rfl, fun _ => ?_, by decide⟩
  · have e : (1 <<< (h 3 1 &&& 31) - 1 : Int32) = Int32.ofNat (S - 1) := by rw [enp, (s14 np).2, hSe]
    rw [e]
    exact GC (d + 46) L xs o g Q T hq
  · obtain ⟨m, rfl⟩ : ∃ m, S = m + 1 := ⟨S - 1, by omega⟩
    refine (l_eq (pos := fun k => ! anyF (empW h (Int32.ofNat k) N) 0 n) (S := m + 1) w.2 ?_ ?_ m 0 (Int32.ofNat (m + 1 - 1)) (-1) (by omega) (.inl ⟨rfl, rfl⟩)).symm
    · have := pos_all hI np hN e1 hn en enp
      rw [← hSe] at this
      show (! anyF (empW h (Int32.ofNat (m + 1 - 1)) N) 0 n) = true
      rw [this]
      rfl
    · intro k hk
      have := f14 np ⟨k, by omega⟩ (by rw [← hSe]; exact hk)
      rw [← hSe] at this
      exact this
