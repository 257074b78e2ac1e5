/-! ===== what class and model have in common between two calls ===== -/
def iv_T (h : am_M) : Prop := h 1 0 = h 64 18 ∧ ¬ h 1 0 < 0 ∧ ¬ 500 < h 1 0 ∧ h 1 1 = h 64 27 ∧ ∀ j, j < 500 → Int32.ofNat j < h 1 0 → h 81 j = h 2 j &&& 255 ∧ ¬ h 2 j < -128 ∧ ¬ 127 < h 2 j
def iv_S (h : am_M) (j : Nat) : Prop := (h 4 j = h 69 j ∧ h 5 j = h 70 j ∧ h 6 j = h 71 j ∧ h 7 j = h 72 j ∧ h 8 j = h 73 j) ∧ ¬ h 4 j < 0 ∧ ¬ h 5 j < h 4 j ∧ ¬ 60 < h 5 j ∧ ¬ h 6 j < 0 ∧ ¬ 23 < h 6 j ∧ ¬ h 7 j < 1 ∧ ¬ 12 < h 7 j ∧ ¬ h 8 j < 0 ∧ ¬ 9 < h 8 j
def iv_B (h : am_M) (j : Nat) : Prop := (h 9 j = h 74 j ∧ h 10 j = h 75 j ∧ h 11 j = h 76 j) ∧ ¬ h 9 j < 0 ∧ ¬ 2 < h 9 j ∧ ¬ h 10 j < 0 ∧ ¬ 99 < h 10 j ∧ ¬ h 11 j < 0 ∧ ¬ 9 < h 11 j
def iv_P (h : am_M) : Prop := (h 68 0 = h 3 0 ∧ h 68 1 = h 3 1 ∧ h 68 2 = h 3 2 ∧ h 68 3 = h 12 0 ∧ h 68 4 = h 12 1 ∧ h 68 5 = h 12 2 ∧ h 68 6 = h 12 3) ∧
  (¬ h 3 0 < 0 ∧ ¬ 5 < h 3 0 ∧ ¬ h 3 1 < 0 ∧ ¬ 4 < h 3 1 ∧ ¬ h 3 2 < 0 ∧ ¬ 5 < h 3 2 ∧ ¬ h 12 0 < 0 ∧ ¬ 40 < h 12 0 ∧ ¬ h 12 1 < 0 ∧ ¬ 20 < h 12 1 ∧ ¬ h 12 2 < 0 ∧ ¬ 2 < h 12 2 ∧ ¬ h 12 3 < 0 ∧ ¬ 999 < h 12 3) ∧
  (∀ j, j < 5 → Int32.ofNat j < h 3 0 → iv_S h j) ∧ ∀ j, j < 5 → Int32.ofNat j < h 3 2 → iv_B h j
/-- an event on both sides -/
def iv_E (np ns fee : Int32) (A B C D E F A' B' C' D' E' F' : Nat → Int32) (j : Nat) : Prop := (¬ A j < 0 ∧ A j < np ∧ ¬ C j < 0 ∧ C j < ns ∧ ¬ D j < 1 ∧ ¬ 60 < D j ∧ (E j = 0 ∨ E j = 1)) ∧ (C' j = C j ∧ D' j = D j ∧ E' j = E j) ∧
  ((B j = -1 ∧ B' j = -1 ∧ A' j = A j ∧ F j = fee) ∨ (¬ B j < 0 ∧ B j < np ∧ B' j = A j ∧ A' j = B j ∧ F' j = F j))
def spL (S P D T : Nat → Int32) (s lo hi : Int32) (N : Nat) : Int32 × Int32 := spn (fun k => decide (S k = -1) && decide (P k = s)) D T (lo, hi) N
/-- learner seller shipOf depthOf touching priceOf loads nameFrom nameTo refused; who buyer of deep touched price load from to status -/
def iv_J (np ns fee ev ev' : Int32) (lo hi A B C D E F G H I J A' B' C' D' E' F' G' H' I' J' : Nat → Int32) : Prop := ∃ N : Nat, N ≤ 80 ∧ ev = Int32.ofNat N ∧ ev' = Int32.ofNat N ∧ (∀ j, j < N → iv_E np ns fee A B C D E F A' B' C' D' E' F' j) ∧
  (∀ j, j < 5 → G' j = G j ∧ H' j = H j ∧ I' j = I j ∧ ¬ G j < 0 ∧ ¬ 99 < G j ∧ ¬ I j < H j) ∧ (J' 0 = J 0 ∧ J' 1 = J 1 ∧ J' 2 = J 2) ∧ ∀ s, s < 5 → Int32.ofNat s < ns → ¬ (spL B C D E (Int32.ofNat s) (lo s) (hi s) N).2 < (spL B C D E (Int32.ofNat s) (lo s) (hi s) N).1
def iv_N (h : am_M) : Prop := iv_J (h 3 1) (h 3 0) (h 12 3) (h 23 0) (h 64 28) (h 4) (h 5) (h 24) (h 25) (h 26) (h 27) (h 28) (h 29) (h 30) (h 31) (h 32) (h 33) (h 82) (h 83) (h 84) (h 85) (h 87) (h 86) (h 77) (h 79) (h 80) (h 78)
def iv_I (h : am_M) : Prop := h 64 51 = h 0 5 ∧ (h 0 5 = 0 ∨ (h 0 5 = 1 ∧ iv_J (h 3 1) (h 3 0) (h 12 3) (h 34 0) (h 64 52) (h 4) (h 5) (h 35) (h 36) (h 37) (h 38) (h 39) (h 40) (h 41) (h 42) (h 43) (h 44) (h 98) (h 99) (h 100) (h 101) (h 107) (h 102) (h 103) (h 104) (h 105) (h 106)))
def iv_R (h : am_M) : Prop := h 64 45 = h 0 11 ∧ (h 0 11 = 0 ∨ (h 0 11 = 1 ∧ ∀ j, j < 5 → Int32.ofNat j < h 3 0 → h 93 j = h 62 j ∧ h 94 j = h 63 j))
def iv_K (h : am_M) : Prop := h 67 0 = 40 ∧ h 67 1 = 20 ∧ h 67 2 = 2 ∧ h 67 3 = 999
def Iv (h : am_M) : Prop := iv_T h ∧ iv_P h ∧ iv_N h ∧ iv_I h ∧ iv_R h ∧ iv_K h
theorem Iv.w61 {h : am_M} (p : Int32 × Int32) (H : Iv h) : Iv (wrp h 61 0 1 p) := H
theorem Iv.w64 {h : am_M} (p : Int32 × Int32) (H : Iv h) : Iv (wrp h 64 35 36 p) := H
theorem Iv.c {h : am_M} (x : Int32) (H : Iv h) : Iv (am_set h 64 3 x) := H
/-- a call on both sides -/
def opR (m1 : Nat) (lv1 : am_V) (m2 : Nat) (lv2 : am_V) (cd : Nat → Int32) (h : am_M) : Prop :=
  ∃ (c : Nat) (v v' : Int32) (h1 h2 : am_M), mr 50 m1 lv1 h c v h1 ∧ mv 50 m2 lv2 h1 (some (.int v')) h2 ∧ Iv h2 ∧ h2 64 3 = cd c ∧ (c = 0 → v = v') ∧ c < 3
def cdN (c : Nat) : Int32 := Int32.ofNat c
theorem mr.v {k mi : Nat} {lv : am_V} {h : am_M} {v : Int32} {h1 : am_M} (H : mv k mi lv h (some (.int v)) h1) : mr k mi lv h 0 v h1 := by
  show (if (0 : Nat) = 0 then mv k mi lv h (some (.int v)) h1 else _)
  rw [if_pos rfl]
  exact H
theorem mr.t {k mi : Nat} {lv : am_V} {h : am_M} {h1 : am_M} (E : Nat) (H : mt k mi lv h E h1) : mr k mi lv h (E + 1) 0 h1 := by
  show (if E + 1 = 0 then _ else mt k mi lv h (E + 1 - 1) h1)
  rw [if_neg (by omega)]
  exact H
/-- an entry below a count -/
theorem iv_at {x n : Int32} (h0 : ¬ x < 0) (h1 : x < n) (hn : ¬ 5 < n) : x.toNatClampNeg < 5 ∧ Int32.ofNat x.toNatClampNeg < n ∧ am_ix x 5 ∧ am_ix x 10 := by
  have e : 0 ≤ x.toInt := by rw [nz_lt] at h0; have : (0 : Int32).toInt = 0 := rfl; omega
  have h5 : x < 5 := by grind
  have h10 : x < 10 := by grind
  have i5 := ix_5 h0 h5
  exact ⟨i5.2, by rw [← nz_of e]; exact h1, i5, ix_10 h0 h10⟩
theorem op_fault {h : am_M} (hI : Iv h) : opR 11 [some (.ref 0)] 148 [some (.ref 64)] cdN h := by
  refine ⟨0, h 1 1, h 64 27, h, am_set h 64 3 0, .v fun d L xs o g Q T hq => sm_11 hq, fun d L xs o g Q T hq => sm_148 hq, hI.c 0, rfl, fun _ => hI.1.2.2.2.1, by decide⟩
theorem op_undo {h : am_M} (hI : Iv h) : opR 12 [some (.ref 0)] 170 [some (.ref 64)] cdN h := by
  obtain ⟨hT, hP, ⟨N, hN, e1, e2, hE, hG, hJ, hS⟩, hII, hR, hK⟩ := hI
  by_cases h0 : N = 0
  · subst h0
    refine ⟨0, -1, -1, h, am_set h 64 3 0, .v fun d L xs o g Q T hq => sm_12 ?_, fun d L xs o g Q T hq => sm_170 ?_, ⟨hT, hP, ⟨0, hN, e1, e2, hE, hG, hJ, hS⟩, hII, hR, hK⟩, rfl, fun _ => rfl, by decide⟩
    · rw [if_pos (by rw [e1]; rfl)]; exact hq
    · rw [if_pos (by rw [e2]; rfl)]; exact hq
  · have z1 : ¬ h 23 0 = 0 := by rw [e1]; show ¬ Int32.ofNat N = Int32.ofNat 0; rw [nz_inj (by omega) (by decide)]; exact h0
    have z2 : ¬ h 64 28 = 0 := by rw [e2, ← e1]; exact z1
    have s1 : h 23 0 - 1 = Int32.ofNat (N - 1) := by
      rw [e1]
      have : Int32.ofNat N = Int32.ofNat (N - 1) + 1 := by rw [nz_succ, Nat.sub_add_cancel (by omega)]
      rw [this, Int32.add_sub_cancel]
    have s2 : h 64 28 - 1 = Int32.ofNat (N - 1) := by rw [e2, ← e1]; exact s1
    refine ⟨0, h 23 0 - 1, h 64 28 - 1, am_set h 23 0 (h 23 0 - 1), am_set (am_set (am_set h 23 0 (h 23 0 - 1)) 64 3 0) 64 28 (h 64 28 - 1), .v fun d L xs o g Q T hq => sm_12 ?_, fun d L xs o g Q T hq => sm_170 ?_, ⟨hT, hP, ⟨N - 1, by omega, s1, s2, fun j hj => hE j (by omega), hG, hJ, fun s hs hs' => ?_⟩, hII, hR, hK⟩, rfl, fun _ => by rw [s1, s2], by decide⟩
    · rw [if_neg z1]; exact hq
    · rw [show (am_set h 23 0 (h 23 0 - 1)) 64 28 = h 64 28 from rfl, if_neg z2]; exact hq
    · have := hS s hs hs'
      obtain ⟨M, rfl⟩ : ∃ M, N = M + 1 := ⟨N - 1, by omega⟩
      show ¬ (spL (h 25) (h 26) (h 27) (h 28) (Int32.ofNat s) (h 4 s) (h 5 s) M).2 < (spL (h 25) (h 26) (h 27) (h 28) (Int32.ofNat s) (h 4 s) (h 5 s) M).1
      intro hc
      apply this
      show (sp_cut _ _ _ (spL (h 25) (h 26) (h 27) (h 28) (Int32.ofNat s) (h 4 s) (h 5 s) M)).2 < (sp_cut _ _ _ (spL (h 25) (h 26) (h 27) (h 28) (Int32.ofNat s) (h 4 s) (h 5 s) M)).1
      generalize spL (h 25) (h 26) (h 27) (h 28) (Int32.ofNat s) (h 4 s) (h 5 s) M = q at hc
      unfold sp_cut
      split
      · split
        · simp only
          split
          · rename_i h1; grind
          · exact hc
        · simp only
          split
          · rename_i h1; grind
          · exact hc
      · exact hc
