/-! ===== lines: the model ===== -/
def mS (h : am_M) : am_M := (am_set (am_set (am_set (am_set (am_set (am_set (am_set (am_set (am_set (am_set (am_set (am_set (am_set (am_set (am_set (am_set (am_set (am_set (am_set (am_set (am_set (am_set (am_set (am_set (am_set (am_set (am_set (am_set (am_set (am_set (am_set (am_set (am_set (am_set (am_set (am_set (am_set (am_set (am_set (am_set (am_set (am_set (am_set (am_set (am_set (am_set (am_set (am_set (am_set (am_set (am_set (am_set (am_set (am_set (am_set (am_set (am_set (am_set (am_set (am_set (am_set (am_set (am_set (am_set (am_set h 68 0 (h 68 7)) 68 1 (h 68 8)) 68 2 (h 68 9)) 68 3 (h 68 10)) 68 4 (h 68 11)) 68 5 (h 68 12)) 68 6 (h 68 13)) 69 0 (h 69 5)) 70 0 (h 70 5)) 71 0 (h 71 5)) 72 0 (h 72 5)) 73 0 (h 73 5)) 77 0 0) 79 0 0) 80 0 60) 69 1 (h 69 6)) 70 1 (h 70 6)) 71 1 (h 71 6)) 72 1 (h 72 6)) 73 1 (h 73 6)) 77 1 0) 79 1 0) 80 1 60) 69 2 (h 69 7)) 70 2 (h 70 7)) 71 2 (h 71 7)) 72 2 (h 72 7)) 73 2 (h 73 7)) 77 2 0) 79 2 0) 80 2 60) 69 3 (h 69 8)) 70 3 (h 70 8)) 71 3 (h 71 8)) 72 3 (h 72 8)) 73 3 (h 73 8)) 77 3 0) 79 3 0) 80 3 60) 69 4 (h 69 9)) 70 4 (h 70 9)) 71 4 (h 71 9)) 72 4 (h 72 9)) 73 4 (h 73 9)) 77 4 0) 79 4 0) 80 4 60) 74 0 (h 74 5)) 75 0 (h 75 5)) 76 0 (h 76 5)) 74 1 (h 74 6)) 75 1 (h 75 6)) 76 1 (h 76 6)) 74 2 (h 74 7)) 75 2 (h 75 7)) 76 2 (h 76 7)) 74 3 (h 74 8)) 75 3 (h 75 8)) 76 3 (h 76 8)) 74 4 (h 74 9)) 75 4 (h 75 9)) 76 4 (h 76 9)) 64 28 0) 64 45 0) 64 51 0)
def xN (k j : Nat) : Bool := (Nat.beq k 64 && (Nat.beq j 19 || (Nat.ble 21 j && Nat.ble j 26))) || (((Nat.ble 69 k && Nat.ble k 76) && Nat.ble 5 j) || (Nat.beq k 68 && Nat.ble 7 j))
theorem x6t_N {k j : Nat} (h : x6t k j = true) : xN k j = true := by
  unfold x6t at h
  simp only [Bool.or_eq_true, Bool.and_eq_true, Nat.beq_eq] at h
  obtain ⟨h, h'⟩ := h
  rcases h' with h' | h' | h' | h' | h' <;> subst h h' <;> rfl
theorem x6t_68 {k j : Nat} (h1 : 68 ≤ k) : x6t k j = false := by
  unfold x6t
  cases hc : Nat.beq k 64 with
  | false => rfl
  | true => rw [Nat.beq_eq] at hc; omega
def MR (h0 : am_M) (n : Nat) (Y h : am_M) (p : Nat) (φ : pft) : Prop := fr xN h0 h ∧ (p ≤ n ∧ n ≤ 500 ∧ h0 64 20 = Int32.ofNat n ∧ tpM h0 n) ∧ h 64 25 = φ.1 ∧ (φ.1 = 0 → TM (h0 2) (kdC h0) n h p) ∧ (¬ φ.1 = 0 → h 64 26 = φ.2) ∧ ∀ k j, 68 ≤ k → k ≤ 76 → h k j = Y k j
theorem cNf_st {V K : Nat → Int32} {n p : Nat} {lo hi : Int32} {φ : pft} (h : ¬ φ.1 = 0) : cNf V K n p lo hi φ = φ := by
  unfold cNf
  cases okN V K n p lo hi with
  | true => rfl
  | false => rw [cond_false, if_neg h]
theorem cNf_bk {V K : Nat → Int32} {n p : Nat} {lo hi : Int32} {φ : pft} (h : (cNf V K n p lo hi φ).1 = 0) : φ.1 = 0 := by
  apply Classical.byContradiction
  intro c
  rw [cNf_st c] at h
  exact c h
section
variable {h0 Y h : am_M} {n p : Nat} {φ : pft}
theorem MR.kd (H : MR h0 n Y h p φ) : kdC h = kdC h0 ∧ h 2 = h0 2 := kdC_fr H.1 (fun _ => rfl)
theorem MR.E (H : MR h0 n Y h p φ) : tkE (kdC h0) n p ≤ n := (tkE_le H.2.1.1).2.1
theorem MR.pos (H : MR h0 n Y h p φ) (hf : ¬ φ.1 = 0) {p' : Nat} (hp : p' ≤ n) : MR h0 n Y h p' φ := ⟨H.1, ⟨hp, H.2.1.2⟩, H.2.2.1, fun e => absurd e hf, H.2.2.2.2⟩
theorem MR.tok (H : MR h0 n Y h p φ) (hf : φ.1 = 0) : mx 1 134 0 [some (.ref 64), none] [] h (fun v h1 => v = none ∧ MR h0 n Y h1 (tkE (kdC h0) n p) φ) := by
  obtain ⟨f, ⟨hp, hn, en, ht⟩, h25, hT, hp26, hY⟩ := H
  have H : MR h0 n Y h p φ := ⟨f, ⟨hp, hn, en, ht⟩, h25, hT, hp26, hY⟩
  have T := hT hf
  have hE := H.E
  have M := mx_134 (h := h) hn (by rw [f 64 20 rfl]; exact en) (fun j hj => by rw [f 2 j rfl, f 81 j rfl]; exact ht j hj) (n - tkE (kdC h0) n p) (tkE (kdC h0) n p) h (by omega) (fr.refl _ _) T.1
  rw [H.kd.1, H.kd.2] at M
  refine M.mono ?_
  rintro v h1 ⟨rfl, g1, g2⟩
  exact ⟨rfl, f.trans (g1.or fun _ _ hk => x6t_N hk), ⟨hE, hn, en, ht⟩, by rw [g1 64 25 rfl]; exact h25, fun _ => g2, fun c => absurd hf c, fun k j a b => by rw [g1 k j (x6t_68 a)]; exact hY k j a b⟩
theorem MR.bad (H : MR h0 n Y h p φ) (hf : φ.1 = 0) {f : Int32} (f0 : ¬ f = 0) {p' : Nat} (hp : p' ≤ n) : MR h0 n Y (am_set (am_set h 64 25 f) 64 26 (h 64 23)) p' (f, Int32.ofNat (tkS (kdC h0) n p)) := by
  obtain ⟨g, ⟨_, hn⟩, h25, hT, hp26, hY⟩ := H
  refine ⟨(g.set 64 25 _ rfl).set 64 26 _ rfl, ⟨hp, hn⟩, rfl, fun e => absurd e f0, fun _ => ?_, fun k j a b => by rw [as_cell _ _ _ (by omega), as_cell _ _ _ (by omega)]; exact hY k j a b⟩
  show h 64 23 = _
  exact (hT hf).2.2.1
theorem mk2 {k : Int32} : mkM k = 2 ↔ k = 2 := by
  unfold mkM
  by_cases c : k = 5
  · rw [if_pos c, c]; decide
  · rw [if_neg c]
theorem mk1 {k : Int32} : mkM k = 1 ↔ k = 1 := by
  unfold mkM
  by_cases c : k = 5
  · rw [if_pos c, c]; decide
  · rw [if_neg c]
theorem mk3 {k : Int32} : mkM k = 3 ↔ k = 3 := by
  unfold mkM
  by_cases c : k = 5
  · rw [if_pos c, c]; decide
  · rw [if_neg c]
theorem mk0 {k : Int32} : mkM k = 0 ↔ k = 0 := by
  unfold mkM
  by_cases c : k = 5
  · rw [if_pos c, c]; decide
  · rw [if_neg c]
theorem MR.num (H : MR h0 n Y h p φ) (lo hi : Int32) : mx 2 144 0 [some (.ref 64), some (.int lo), some (.int hi), none] [] h (fun v h1 => ∃ w, v = some (.int w) ∧ MR h0 n Y h1 (tkE (kdC h0) n p) (cNf (h0 2) (kdC h0) n p lo hi φ) ∧ ((cNf (h0 2) (kdC h0) n p lo hi φ).1 = 0 → w = cNv (h0 2) (kdC h0) n p lo hi)) := by
  have hE := H.E
  have hp := H.2.1.1
  have hn := H.2.1.2.1
  by_cases hf : φ.1 = 0
  rotate_left
  · rw [cNf_st hf]
    exact .end (some (.int 0)) h ⟨0, rfl, H.pos hf hE, fun e => absurd e hf⟩ fun d L xs o g Q T hq => sm_144 (am_iff (by rw [H.2.2.1]; exact hf) hq)
  have h25 : h 64 25 = 0 := H.2.2.1.trans hf
  obtain ⟨t1, t2, t3, t4, t5⟩ := H.2.2.2.1 hf
  obtain ⟨b1, b2, _⟩ := tkE_le (K := kdC h0) hp
  have ln : h 64 24 - h 64 23 = Int32.ofNat (tkE (kdC h0) n p - tkS (kdC h0) n p) := by rw [t2, t3, sub_n b1]
  have fail : ∀ f : Int32, ¬ f = 0 → okN (h0 2) (kdC h0) n p lo hi = false → f = (if tkK (kdC h0) n p = 2 then 2 else 1) → (∃ w, some (Value.int (h 64 22)) = some (.int w) ∧ MR h0 n Y (am_set (am_set h 64 25 f) 64 26 (h 64 23)) (tkE (kdC h0) n p) (cNf (h0 2) (kdC h0) n p lo hi φ) ∧ ((cNf (h0 2) (kdC h0) n p lo hi φ).1 = 0 → w = cNv (h0 2) (kdC h0) n p lo hi)) := fun f f0 ho ef => by
    have e : cNf (h0 2) (kdC h0) n p lo hi φ = (f, Int32.ofNat (tkS (kdC h0) n p)) := by
      unfold cNf
      rw [ho, cond_false, if_pos hf, ef]
    rw [e]
    exact ⟨h 64 22, rfl, H.bad hf f0 hE, fun q => absurd q f0⟩
  by_cases c1 : tkK (kdC h0) n p = 2
  rotate_left
  · exact .end (some (.int (h 64 22))) (am_set (am_set h 64 25 1) 64 26 (h 64 23)) (fail 1 (by decide) (by unfold okN; rw [decide_eq_false c1, Bool.false_and]) (by rw [if_neg c1])) fun d L xs o g Q T hq => sm_144 (am_ift h25 (am_iff (by rw [t4, mk2]; exact c1) hq))
  have c1m : h 64 21 = 2 := by rw [t4, mk2]; exact c1
  by_cases c2 : tkE (kdC h0) n p - tkS (kdC h0) n p ≤ 3
  rotate_left
  · refine .end (some (.int (h 64 22))) (am_set (am_set h 64 25 2) 64 26 (h 64 23)) (fail 2 (by decide) (by unfold okN; rw [decide_eq_false c2, Bool.false_and, Bool.and_false]) (by rw [if_pos c1])) fun d L xs o g Q T hq => sm_144 (am_ift h25 (am_ift c1m (am_ift ?_ hq)))
    rw [ln]
    show Int32.ofNat 3 < _
    rw [nz_nlt (by decide) (by omega)]; omega
  have nl : ¬ 3 < h 64 24 - h 64 23 := by
    rw [ln]
    show ¬ Int32.ofNat 3 < _
    rw [nz_nlt (by decide) (by omega)]; omega
  have e22 := t5 c1 c2
  by_cases c3 : vlN (h0 2) (kdC h0) n p < lo
  · exact .end (some (.int (h 64 22))) (am_set (am_set h 64 25 2) 64 26 (h 64 23)) (fail 2 (by decide) (by unfold okN; rw [decide_eq_false (show ¬ ¬ vlN (h0 2) (kdC h0) n p < lo from fun h => h c3), Bool.false_and, Bool.and_false, Bool.and_false]) (by rw [if_pos c1])) fun d L xs o g Q T hq => sm_144 (am_ift h25 (am_ift c1m (am_iff nl (am_ift (by rw [e22]; exact c3) hq))))
  by_cases c4 : hi < vlN (h0 2) (kdC h0) n p
  · exact .end (some (.int (h 64 22))) (am_set (am_set h 64 25 2) 64 26 (h 64 23)) (fail 2 (by decide) (by unfold okN; rw [decide_eq_false (show ¬ ¬ hi < vlN (h0 2) (kdC h0) n p from fun h => h c4), Bool.and_false, Bool.and_false, Bool.and_false]) (by rw [if_pos c1])) fun d L xs o g Q T hq => sm_144 (am_ift h25 (am_ift c1m (am_iff nl (am_iff (by rw [e22]; exact c3) (am_ift (by rw [e22]; exact c4) hq)))))
  have ho : okN (h0 2) (kdC h0) n p lo hi = true := by
    unfold okN
    rw [decide_eq_true c1, decide_eq_true c2, decide_eq_true c3, decide_eq_true c4]
    rfl
  have ef : cNf (h0 2) (kdC h0) n p lo hi φ = φ := by unfold cNf; rw [ho, cond_true]
  have ev : cNv (h0 2) (kdC h0) n p lo hi = vlN (h0 2) (kdC h0) n p := by unfold cNv; rw [ho, cond_true]
  obtain ⟨v, h1, ⟨rfl, R1⟩, G⟩ := H.tok hf
  rw [ef, ev]
  exact .end (some (.int (h 64 22))) h1 ⟨h 64 22, rfl, R1, fun _ => e22⟩ fun d L xs o g Q T hq => sm_144 (am_ift h25 (am_ift c1m (am_iff nl (am_iff (by rw [e22]; exact c3) (am_iff (by rw [e22]; exact c4) (G d L xs o g _ _ (sm_144_75 rfl rfl rfl hq)))))))
theorem MR.is (H : MR h0 n Y h p φ) {ws i : Nat} (hs : am_sx ws) (ht : am_txt (ws - am_big) = am_txt i) (hl : (am_txt i).length ≤ 20) : mv 0 140 [some (.ref 64), some (.ref ws), none, none] h (some (.int (bif decide (φ.1 = 0) && isW (h0 2) (kdC h0) n (am_txt i) p then 1 else 0))) h := fun d L xs o g Q T hq => by
  have hp := H.2.1.1
  have hn := H.2.1.2.1
  by_cases hf : φ.1 = 0
  rotate_left
  · rw [decide_eq_false hf, Bool.false_and, cond_false] at hq
    exact sm_140 hs ht (am_iff (by rw [H.2.2.1]; exact hf) (sm_140_39 hs ht (am_ift rfl ⟨rfl, hq⟩)))
  rw [decide_eq_true hf, Bool.true_and] at hq
  have h25 : h 64 25 = 0 := H.2.2.1.trans hf
  obtain ⟨t1, t2, t3, t4, t5⟩ := H.2.2.2.1 hf
  obtain ⟨b1, b2, _⟩ := tkE_le (K := kdC h0) hp
  refine sm_140 hs ht (am_ift h25 ?_)
  unfold isW at hq
  by_cases c1 : tkK (kdC h0) n p = 1
  rotate_left
  · rw [decide_eq_false c1, Bool.false_and, cond_false] at hq
    exact am_iff (by rw [t4, mk1]; exact c1) (sm_140_39 hs ht (am_ift rfl ⟨rfl, hq⟩))
  rw [decide_eq_true c1, Bool.true_and] at hq
  refine am_ift (by rw [t4, mk1]; exact c1) ?_
  rw [t2, t3, sub_n b1]
  by_cases c2 : tkE (kdC h0) n p - tkS (kdC h0) n p = (am_txt i).length
  rotate_left
  · rw [decide_eq_false c2, Bool.false_and, cond_false] at hq
    exact am_iff (by rw [nz_inj (by omega) (by omega)]; omega) (sm_140_39 hs ht (am_ift rfl ⟨rfl, hq⟩))
  rw [decide_eq_true c2, Bool.true_and] at hq
  refine am_ift (by rw [nz_inj (by omega) (by omega)]; omega) ?_
  obtain ⟨s1, s2⟩ := tk_all (K := kdC h0) hp (.inl c1)
  have lp : ∀ m j, j + m = (am_txt i).length → Q (some (.int (bif ! anyF (wdm (h0 2) (am_txt i) (tkS (kdC h0) n p)) j m then 1 else 0))) h o g → am_X L xs (d + 0) 140 39 [some (.ref 64), some (.ref ws), some (.int 1), some (.int (Int32.ofNat j))] [] am_C0 h o g Q T := by
    intro m
    induction m with
    | zero =>
      intro j hj hq
      exact sm_140_39 hs ht (am_iff (by decide) (am_iff (by rw [nz_nlt (by omega) (by omega)]; omega) ⟨rfl, hq⟩))
    | succ m ih =>
      intro j hj hq
      refine sm_140_39 hs ht (am_iff (by decide) (am_ift (by rw [nz_nlt (by omega) (by omega)]; omega) ?_))
      rw [t3, ← Int32.ofNat_add, nz_c (tkS (kdC h0) n p + j) (by omega), nz_c j (by omega), nz_succ]
      refine ⟨ix_n (by omega) (by omega), ix_n (by omega) (by decide), ?_⟩
      have kj := s2 (tkS (kdC h0) n p + j) (by omega) (by omega)
      obtain ⟨_, _, _, _, _, u6, _⟩ := H.2.1.2.2.2 (tkS (kdC h0) n p + j) (by omega)
      have e81 : h 81 (tkS (kdC h0) n p + j) = h0 2 (tkS (kdC h0) n p + j) := by
        rw [H.1 81 _ rfl]
        exact u6 (.inl (kj.trans c1))
      rw [e81]
      simp only [anyF] at hq
      by_cases c : h0 2 (tkS (kdC h0) n p + j) = (am_txt i).getD j 0
      · rw [show wdm (h0 2) (am_txt i) (tkS (kdC h0) n p) j = false from decide_eq_false (fun h => h c), Bool.false_or] at hq
        exact am_ift c.symm (ih (j + 1) (by omega) hq)
      · rw [show wdm (h0 2) (am_txt i) (tkS (kdC h0) n p) j = true from decide_eq_true c, Bool.true_or, Bool.not_true, cond_false] at hq
        exact am_iff (fun e => c e.symm) (sm_140_39 hs ht (am_ift rfl ⟨rfl, hq⟩))
  exact lp _ 0 (Nat.zero_add _) hq
theorem MR.pass (H : MR h0 n Y h p φ) {ws i : Nat} (hs : am_sx ws) (ht : am_txt (ws - am_big) = am_txt i) (hl : (am_txt i).length ≤ 20) : mx 2 145 0 [some (.ref 64), some (.ref ws), none] [] h (fun v h1 => v = some (.int (bif decide (φ.1 = 0) && isW (h0 2) (kdC h0) n (am_txt i) p then 1 else 0)) ∧ MR h0 n Y h1 (bif decide (φ.1 = 0) && isW (h0 2) (kdC h0) n (am_txt i) p then tkE (kdC h0) n p else p) φ) := by
  have W := H.is hs ht hl
  cases hc : decide (φ.1 = 0) && isW (h0 2) (kdC h0) n (am_txt i) p with
  | false =>
    rw [hc, cond_false] at W
    exact .end (some (.int 0)) h ⟨rfl, H⟩ fun d L xs o g Q T hq => sm_145 hs ht (W.use (sm_145_5 hs ht rfl rfl (am_ift rfl ⟨rfl, hq⟩)))
  | true =>
    rw [hc, cond_true] at W
    rw [Bool.and_eq_true, decide_eq_true_eq] at hc
    obtain ⟨v, h1, ⟨rfl, R1⟩, G⟩ := H.tok hc.1
    exact .end (some (.int 1)) h1 ⟨rfl, R1⟩ fun d L xs o g Q T hq => sm_145 hs ht (W.use (sm_145_5 hs ht rfl rfl (am_iff (by decide) (G d L xs o g _ _ (sm_145_14 hs ht rfl rfl ⟨rfl, hq⟩)))))
theorem MR.set (H : MR h0 n Y h p φ) (k j : Nat) (x : Int32) (hk : ((69 ≤ k ∧ k ≤ 76) ∧ 5 ≤ j) ∨ (k = 68 ∧ 7 ≤ j)) : MR h0 n (am_set Y k j x) (am_set h k j x) p φ := by
  obtain ⟨f, hp, h25, hT, hp26, hY⟩ := H
  have e64 : (am_set h k j x) 64 = h 64 := as_cell h j x (by omega)
  refine ⟨f.set k j x ?_, hp, by rw [e64]; exact h25, fun e => ?_, fun e => by rw [e64]; exact hp26 e, fun k' j' a b => by rw [as_get, as_get, hY k' j' a b]⟩
  · unfold xN
    rcases hk with ⟨⟨a, b⟩, c⟩ | ⟨a, c⟩
    · rw [Nat.ble_eq_true_of_le a, Nat.ble_eq_true_of_le b, Nat.ble_eq_true_of_le c, Bool.and_self, Bool.and_self, Bool.true_or, Bool.or_true]
    · subst a
      rw [Nat.ble_eq_true_of_le c, Bool.and_true, show Nat.beq 68 68 = true from rfl, Bool.or_true, Bool.or_true]
  · have := hT e
    unfold TM at this ⊢
    rw [e64]
    exact this
theorem MR.begin (H : MR h0 n Y h p (0, -1)) {w c mo : Nat} (hw : w < 3) (hmo : mo ≤ 5) (hc : Y 68 (7 + w) = Int32.ofNat c) (hcm : c ≤ mo) : mx 2 142 0 [some (.ref 64), some (.int (Int32.ofNat w)), some (.int (Int32.ofNat mo))] [] h (fun v h1 => (c = mo ∧ v = some (.int 0) ∧ MR h0 n Y h1 p (2, Int32.ofNat (tkS (kdC h0) n p))) ∨ (c < mo ∧ v = some (.int 1) ∧ MR h0 n (am_set Y 68 (7 + w) (Int32.ofNat (c + 1))) h1 (tkE (kdC h0) n p) (0, -1))) := by
  have h25 : h 64 25 = 0 := H.2.2.1
  have e7 : (7 : Int32) + Int32.ofNat w = Int32.ofNat (7 + w) := (Int32.ofNat_add 7 w).symm
  have ix : am_ix (Int32.ofNat (7 + w)) 14 := ix_n (by omega) (by decide)
  have ey : h 68 (7 + w) = Int32.ofNat c := (H.2.2.2.2.2 68 (7 + w) (by decide) (by decide)).trans hc
  by_cases cc : c = mo
  · subst cc
    refine .end (some (.int 0)) _ (.inl ⟨rfl, rfl, H.bad rfl (by decide) H.2.1.1⟩) fun d L xs o g Q T hq => sm_142 ?_
    rw [e7, nz_c _ (by omega), ey]
    exact ⟨ix, am_ift rfl (am_ift h25 hq)⟩
  · obtain ⟨v, h1, ⟨rfl, R1⟩, G⟩ := H.tok rfl
    have S1 := R1.set 68 (7 + w) (Int32.ofNat (c + 1)) (.inr ⟨rfl, by omega⟩)
    refine .end (some (.int 1)) _ (.inr ⟨by omega, rfl, S1⟩) fun d L xs o g Q T hq => sm_142 ?_
    rw [e7, nz_c _ (by omega), ey]
    refine ⟨ix, am_iff (by rw [nz_inj (by omega) (by omega)]; exact cc) (am_ift h25 (G d L xs o g _ _ (sm_142_31 rfl ?_)))⟩
    rw [e7, nz_c _ (by omega), R1.2.2.2.2.2 68 (7 + w) (by decide) (by decide), hc, nz_succ]
    exact ⟨ix, hq⟩
end
/-- the model's draft holds what the lines told -/
def rM (Y : am_M) (st : pst) : Prop := (Y 68 7 = Int32.ofNat st.1.1 ∧ Y 68 8 = Int32.ofNat st.1.2.1 ∧ Y 68 9 = Int32.ofNat st.1.2.2.1) ∧ (st.1.1 ≤ 5 ∧ st.1.2.1 ≤ 4 ∧ st.1.2.2.1 ≤ 5 ∧ st.1.2.2.2 < 16) ∧ (∀ j, j < st.1.1 → Y 69 (5 + j) = st.2 0 j ∧ Y 70 (5 + j) = st.2 1 j ∧ Y 71 (5 + j) = st.2 2 j ∧ Y 72 (5 + j) = st.2 3 j ∧ Y 73 (5 + j) = st.2 4 j) ∧ (∀ j, j < st.1.2.2.1 → Y 74 (5 + j) = st.2 5 j ∧ Y 75 (5 + j) = st.2 6 j ∧ Y 76 (5 + j) = st.2 7 j) ∧ ∀ j, j < 4 → Y 68 (10 + j) = st.2 8 j
theorem i9 {c : Nat} (h : c < 5) : ((5 : Int32) + Int32.ofNat (c + 1)) - 1 = Int32.ofNat (5 + c) := by
  show Int32.ofNat 5 + Int32.ofNat (c + 1) - Int32.ofNat 1 = _
  rw [← Int32.ofNat_add, sub_n (by omega)]
  congr 1
section
variable {h0 Y h : am_M} {n p : Nat} {st : pst}
theorem mx_141 (H : MR h0 n Y h p (0, -1)) (hr : rM Y st) : mx 4 141 0 [some (.ref 64), none] [] h (fun v h1 => v = none ∧ ∃ Y', MR h0 n Y' h1 (spShip (h0 2) (kdC h0) n p st).1 (spShip (h0 2) (kdC h0) n p st).2.2 ∧ ((spShip (h0 2) (kdC h0) n p st).2.2.1 = 0 → rM Y' (spShip (h0 2) (kdC h0) n p st).2.1)) := by
  obtain ⟨⟨r0, r1, r2⟩, ⟨b0, b1, b2, b3⟩, hs, hb, ht⟩ := hr
  have hp := H.2.1.1
  obtain ⟨v, h1, P1, G1⟩ := H.begin (w := 0) (mo := 5) (by decide) (by decide) r0 b0
  unfold spShip
  rcases P1 with ⟨c, rfl, R1⟩ | ⟨c, rfl, R1⟩
  · rw [if_neg (by omega)]
    exact .end none h1 ⟨rfl, Y, R1, fun e => absurd e (by decide : ¬ (2 : Int32) = 0)⟩ fun d L xs o g Q T hq => sm_141 (G1 (d + 1) L xs o g _ _ (sm_141_6 rfl (am_ift rfl hq)))
  rw [if_pos c]
  have e7 : h1 68 7 = Int32.ofNat (st.1.1 + 1) := (R1.2.2.2.2.2 68 7 (by decide) (by decide)).trans rfl
  have ix : am_ix (Int32.ofNat (5 + st.1.1)) 10 := ix_n (by omega) (by decide)
  have nc : (Int32.ofNat (5 + st.1.1)).toNatClampNeg = 5 + st.1.1 := nz_c _ (by omega)
  obtain ⟨v2, h2, ⟨w0, rfl, R2, q0⟩, G2⟩ := R1.num 0 60
  have S2 := R2.set 69 (5 + st.1.1) w0 (.inl ⟨⟨by decide, by decide⟩, by omega⟩)
  obtain ⟨v3, h3, ⟨w1, rfl, R3, q1⟩, G3⟩ := S2.num w0 60
  have S3 := R3.set 70 (5 + st.1.1) w1 (.inl ⟨⟨by decide, by decide⟩, by omega⟩)
  obtain ⟨v4, h4, ⟨w2, rfl, R4, q2⟩, G4⟩ := S3.num 0 23
  have S4 := R4.set 71 (5 + st.1.1) w2 (.inl ⟨⟨by decide, by decide⟩, by omega⟩)
  obtain ⟨v5, h5, ⟨w3, rfl, R5, q3⟩, G5⟩ := S4.num 1 12
  have S5 := R5.set 72 (5 + st.1.1) w3 (.inl ⟨⟨by decide, by decide⟩, by omega⟩)
  -- the faults on the way are those of the class
  have ef1 : cNf (h0 2) (kdC h0) n (itE (kdC h0) n p 2) w0 60 (cNf (h0 2) (kdC h0) n (itE (kdC h0) n p 1) 0 60 (0, -1)) = cNf (h0 2) (kdC h0) n (itE (kdC h0) n p 2) (sv0 (h0 2) (kdC h0) n p) 60 (cNf (h0 2) (kdC h0) n (itE (kdC h0) n p 1) 0 60 (0, -1)) := by
    by_cases z : (cNf (h0 2) (kdC h0) n (itE (kdC h0) n p 1) 0 60 (0, -1)).1 = 0
    · rw [show w0 = sv0 (h0 2) (kdC h0) n p from q0 z]
    · rw [cNf_st z, cNf_st z]
  have S5' : MR h0 n (am_set (am_set (am_set (am_set (am_set Y 68 7 (Int32.ofNat (st.1.1 + 1))) 69 (5 + st.1.1) w0) 70 (5 + st.1.1) w1) 71 (5 + st.1.1) w2) 72 (5 + st.1.1) w3) (am_set h5 72 (5 + st.1.1) w3) (itE (kdC h0) n p 5) (sf3 (h0 2) (kdC h0) n p) := by
    unfold sf3
    rw [← ef1]
    exact S5
  have vals : (sf3 (h0 2) (kdC h0) n p).1 = 0 → w0 = sv0 (h0 2) (kdC h0) n p ∧ w1 = sv1 (h0 2) (kdC h0) n p ∧ w2 = sv2 (h0 2) (kdC h0) n p ∧ w3 = sv3 (h0 2) (kdC h0) n p := fun z => by
    have z3 : (cNf (h0 2) (kdC h0) n (itE (kdC h0) n p 3) 0 23 (cNf (h0 2) (kdC h0) n (itE (kdC h0) n p 2) (sv0 (h0 2) (kdC h0) n p) 60 (cNf (h0 2) (kdC h0) n (itE (kdC h0) n p 1) 0 60 (0, -1)))).1 = 0 := cNf_bk z
    have z2 := cNf_bk z3
    have z1 := cNf_bk z2
    have e0 : w0 = sv0 (h0 2) (kdC h0) n p := q0 z1
    refine ⟨e0, ?_, ?_, ?_⟩
    · have := q1 (by
        show (cNf (h0 2) (kdC h0) n (itE (kdC h0) n p 2) w0 60 (cNf (h0 2) (kdC h0) n (itE (kdC h0) n p 1) 0 60 (0, -1))).1 = 0
        rw [ef1]; exact z2)
      rw [this, e0]
      rfl
    · exact q2 (by
        show (cNf (h0 2) (kdC h0) n (itE (kdC h0) n p 3) 0 23 (cNf (h0 2) (kdC h0) n (itE (kdC h0) n p 2) w0 60 (cNf (h0 2) (kdC h0) n (itE (kdC h0) n p 1) 0 60 (0, -1)))).1 = 0
        rw [ef1]; exact z3)
    · exact q3 (by
        show (cNf (h0 2) (kdC h0) n (itE (kdC h0) n p 4) 1 12 (cNf (h0 2) (kdC h0) n (itE (kdC h0) n p 3) 0 23 (cNf (h0 2) (kdC h0) n (itE (kdC h0) n p 2) w0 60 (cNf (h0 2) (kdC h0) n (itE (kdC h0) n p 1) 0 60 (0, -1))))).1 = 0
        rw [ef1]; exact z)
  obtain ⟨v6, h6, ⟨rfl, R6⟩, G6⟩ := S5'.pass (ws := 1000019) (i := 1) (sx_l rfl) rfl (by decide)
  have run : ∀ {d L : Nat} {xs : Nat → Int32} {o : am_L} {g : Nat} {Q : Option Value → am_M → am_L → Nat → Prop} {T : Nat → am_M → am_L → Nat → Prop}, am_X L xs (d + 4) 141 90 [some (.ref 64), some (.int (Int32.ofNat (5 + st.1.1)))] [.int (bif decide ((sf3 (h0 2) (kdC h0) n p).1 = 0) && isW (h0 2) (kdC h0) n (am_txt 1) (itE (kdC h0) n p 5) then 1 else 0), .int (Int32.ofNat (5 + st.1.1)), .ref 73] am_C0 h6 o g Q T → am_X L xs (d + 4) 141 0 [some (.ref 64), none] [] am_C0 h o g Q T := fun {d L xs o g Q T} hx => by
    refine sm_141 (G1 (d + 1) L xs o g _ _ (sm_141_6 rfl (am_iff (by decide) ?_)))
    rw [e7, i9 c]
    refine G2 (d + 1) L xs o g _ _ (sm_141_34 ⟨ix, ix, ?_⟩)
    rw [nc, as_self]
    refine G3 (d + 1) L xs o g _ _ (sm_141_52 ⟨ix, ?_⟩)
    rw [nc]
    refine G4 (d + 1) L xs o g _ _ (sm_141_65 ⟨ix, ?_⟩)
    rw [nc]
    refine G5 (d + 1) L xs o g _ _ (sm_141_78 ⟨ix, ?_⟩)
    rw [nc]
    exact G6 (d + 1) L xs o g _ _ hx
  have fin : ∀ (hF : am_M) (z : Int32) (q : Nat) (ψ : pft), MR h0 n (am_set (am_set (am_set (am_set (am_set (am_set Y 68 7 (Int32.ofNat (st.1.1 + 1))) 69 (5 + st.1.1) w0) 70 (5 + st.1.1) w1) 71 (5 + st.1.1) w2) 72 (5 + st.1.1) w3) 73 (5 + st.1.1) z) hF q ψ → q = sq4 (h0 2) (kdC h0) n p → ψ = sf4 (h0 2) (kdC h0) n p → (ψ.1 = 0 → (sf3 (h0 2) (kdC h0) n p).1 = 0 ∧ z = sv4 (h0 2) (kdC h0) n p) → ∃ Y', MR h0 n Y' hF (sq4 (h0 2) (kdC h0) n p) (sf4 (h0 2) (kdC h0) n p) ∧ ((sf4 (h0 2) (kdC h0) n p).1 = 0 → rM Y' ((st.1.1 + 1, st.1.2), am_set (am_set (am_set (am_set (am_set st.2 0 st.1.1 (sv0 (h0 2) (kdC h0) n p)) 1 st.1.1 (sv1 (h0 2) (kdC h0) n p)) 2 st.1.1 (sv2 (h0 2) (kdC h0) n p)) 3 st.1.1 (sv3 (h0 2) (kdC h0) n p)) 4 st.1.1 (sv4 (h0 2) (kdC h0) n p))) := fun hF z q ψ RF eq eψ hz => by
    subst eq eψ
    refine ⟨_, RF, fun e0 => ?_⟩
    obtain ⟨z3, ez⟩ := hz e0
    obtain ⟨e1, e2, e3, e4⟩ := vals z3
    rw [ez, e1, e2, e3, e4]
    refine ⟨⟨rfl, r1, r2⟩, ⟨by show st.1.1 + 1 ≤ 5; omega, b1, b2, b3⟩, fun j hj => ?_, hb, fun j hj => ?_⟩
    · by_cases e : j = st.1.1
      · subst e
        refine ⟨?_, ?_, ?_, ?_, ?_⟩ <;> simp [as_get]
      · have hj' : j < st.1.1 := by have : j < st.1.1 + 1 := hj; omega
        have := hs j hj'
        have ne : ¬ 5 + j = 5 + st.1.1 := by omega
        refine ⟨?_, ?_, ?_, ?_, ?_⟩ <;> simp [as_get, e]
        · exact this.1
        · exact this.2.1
        · exact this.2.2.1
        · exact this.2.2.2.1
        · exact this.2.2.2.2
    · have ne : ¬ 10 + j = 7 := by omega
      simp [as_get, ne]
      exact ht j hj
  by_cases z3 : (sf3 (h0 2) (kdC h0) n p).1 = 0
  rotate_left
  · rw [decide_eq_false z3, Bool.false_and, cond_false] at R6
    have e4 : sf4 (h0 2) (kdC h0) n p = sf3 (h0 2) (kdC h0) n p := by
      unfold sf4
      cases isW (h0 2) (kdC h0) n (am_txt 1) (itE (kdC h0) n p 5) with
      | true => rw [cond_true]; exact cNf_st z3
      | false => rfl
    have lq : sq4 (h0 2) (kdC h0) n p ≤ n := by
      unfold sq4
      cases isW (h0 2) (kdC h0) n (am_txt 1) (itE (kdC h0) n p 5) with
      | true => exact (itE_le hp 7).2
      | false => exact (itE_le hp 5).2
    have S7 := (R6.set 73 (5 + st.1.1) 0 (.inl ⟨⟨by decide, by decide⟩, by omega⟩)).pos z3 lq
    obtain ⟨Y', A, B⟩ := fin _ 0 _ _ S7 rfl e4.symm (fun e => absurd e z3)
    refine .end none _ ⟨rfl, Y', A, B⟩ fun d L xs o g Q T hq => run ?_
    rw [decide_eq_false z3, Bool.false_and, cond_false]
    refine sm_141_90 rfl (am_ift rfl ⟨ix, ?_⟩)
    rw [nc]
    exact hq
  rw [decide_eq_true z3, Bool.true_and] at R6 run
  cases hw : isW (h0 2) (kdC h0) n (am_txt 1) (itE (kdC h0) n p 5) with
  | false =>
    rw [hw, cond_false] at R6
    have q1' : sq4 (h0 2) (kdC h0) n p = itE (kdC h0) n p 5 := by unfold sq4; rw [hw]; rfl
    have q2' : sf4 (h0 2) (kdC h0) n p = sf3 (h0 2) (kdC h0) n p := by unfold sf4; rw [hw]; rfl
    have q3' : sv4 (h0 2) (kdC h0) n p = 0 := by unfold sv4; rw [hw]; rfl
    have S7 := R6.set 73 (5 + st.1.1) 0 (.inl ⟨⟨by decide, by decide⟩, by omega⟩)
    obtain ⟨Y', A, B⟩ := fin _ 0 _ _ S7 q1'.symm q2'.symm (fun _ => ⟨z3, q3'.symm⟩)
    refine .end none _ ⟨rfl, Y', A, B⟩ fun d L xs o g Q T hq => run ?_
    rw [hw, cond_false]
    refine sm_141_90 rfl (am_ift rfl ⟨ix, ?_⟩)
    rw [nc]
    exact hq
  | true =>
    rw [hw, cond_true] at R6
    have q1' : sq4 (h0 2) (kdC h0) n p = itE (kdC h0) n p 7 := by unfold sq4; rw [hw]; rfl
    have q2' : sf4 (h0 2) (kdC h0) n p = cNf (h0 2) (kdC h0) n (itE (kdC h0) n p 6) 0 9 (sf3 (h0 2) (kdC h0) n p) := by unfold sf4; rw [hw]; rfl
    have q3' : sv4 (h0 2) (kdC h0) n p = cNv (h0 2) (kdC h0) n (itE (kdC h0) n p 6) 0 9 := by unfold sv4; rw [hw]; rfl
    obtain ⟨v7, h7, ⟨w5, rfl, R7, q5⟩, G7⟩ := R6.num 0 9
    have S7 := R7.set 73 (5 + st.1.1) w5 (.inl ⟨⟨by decide, by decide⟩, by omega⟩)
    obtain ⟨Y', A, B⟩ := fin _ w5 _ _ S7 q1'.symm q2'.symm (fun e => ⟨z3, by rw [q3']; exact q5 e⟩)
    refine .end none _ ⟨rfl, Y', A, B⟩ fun d L xs o g Q T hq => run ?_
    rw [hw, cond_true]
    refine sm_141_90 rfl (am_iff (by decide) (G7 (d + 1) L xs o g _ _ (sm_141_100 rfl rfl ⟨ix, ?_⟩)))
    rw [nc]
    exact hq
theorem mx_146 {k : Int32} (H : MR h0 n Y h p (0, -1)) (hr : rM Y st) : mx 4 146 0 [some (.ref 64), some (.int k), none] [] h (fun v h1 => v = none ∧ ∃ Y', MR h0 n Y' h1 (spBerth (h0 2) (kdC h0) n p k st).1 (spBerth (h0 2) (kdC h0) n p k st).2.2 ∧ ((spBerth (h0 2) (kdC h0) n p k st).2.2.1 = 0 → rM Y' (spBerth (h0 2) (kdC h0) n p k st).2.1)) := by
  obtain ⟨⟨r0, r1, r2⟩, ⟨b0, b1, b2, b3⟩, hs, hb, ht⟩ := hr
  have hp := H.2.1.1
  obtain ⟨v, h1, P1, G1⟩ := H.begin (w := 2) (mo := 5) (by decide) (by decide) r2 b2
  unfold spBerth
  rcases P1 with ⟨c, rfl, R1⟩ | ⟨c, rfl, R1⟩
  · rw [if_neg (by omega)]
    exact .end none h1 ⟨rfl, Y, R1, fun e => absurd e (by decide : ¬ (2 : Int32) = 0)⟩ fun d L xs o g Q T hq => sm_146 (G1 (d + 1) L xs o g _ _ (sm_146_6 rfl (am_ift rfl hq)))
  rw [if_pos c]
  have e9 : h1 68 9 = Int32.ofNat (st.1.2.2.1 + 1) := (R1.2.2.2.2.2 68 9 (by decide) (by decide)).trans rfl
  have ix : am_ix (Int32.ofNat (5 + st.1.2.2.1)) 10 := ix_n (by omega) (by decide)
  have nc : (Int32.ofNat (5 + st.1.2.2.1)).toNatClampNeg = 5 + st.1.2.2.1 := nz_c _ (by omega)
  have S1 := R1.set 74 (5 + st.1.2.2.1) k (.inl ⟨⟨by decide, by decide⟩, by omega⟩)
  obtain ⟨v2, h2, ⟨w0, rfl, R2, q0⟩, G2⟩ := S1.num 0 99
  have S2 := R2.set 75 (5 + st.1.2.2.1) w0 (.inl ⟨⟨by decide, by decide⟩, by omega⟩)
  obtain ⟨v6, h6, ⟨rfl, R6⟩, G6⟩ := S2.pass (ws := 1000021) (i := 4) (sx_l rfl) rfl (by decide)
  have R6' : MR h0 n (am_set (am_set (am_set Y 68 9 (Int32.ofNat (st.1.2.2.1 + 1))) 74 (5 + st.1.2.2.1) k) 75 (5 + st.1.2.2.1) w0) h6 (bif decide ((bf1 (h0 2) (kdC h0) n p).1 = 0) && isW (h0 2) (kdC h0) n (am_txt 4) (itE (kdC h0) n p 2) then itE (kdC h0) n p 3 else itE (kdC h0) n p 2) (bf1 (h0 2) (kdC h0) n p) := R6
  have run : ∀ {d L : Nat} {xs : Nat → Int32} {o : am_L} {g : Nat} {Q : Option Value → am_M → am_L → Nat → Prop} {T : Nat → am_M → am_L → Nat → Prop}, am_X L xs (d + 4) 146 53 [some (.ref 64), some (.int k), some (.int (Int32.ofNat (5 + st.1.2.2.1)))] [.int (bif decide ((bf1 (h0 2) (kdC h0) n p).1 = 0) && isW (h0 2) (kdC h0) n (am_txt 4) (itE (kdC h0) n p 2) then 1 else 0), .int (Int32.ofNat (5 + st.1.2.2.1)), .ref 76] am_C0 h6 o g Q T → am_X L xs (d + 4) 146 0 [some (.ref 64), some (.int k), none] [] am_C0 h o g Q T := fun {d L xs o g Q T} hx => by
    refine sm_146 (G1 (d + 1) L xs o g _ _ (sm_146_6 rfl (am_iff (by decide) ?_)))
    rw [e9, i9 c]
    refine ⟨ix, ?_⟩
    rw [nc]
    refine G2 (d + 1) L xs o g _ _ (sm_146_41 rfl ⟨ix, ?_⟩)
    rw [nc]
    exact G6 (d + 1) L xs o g _ _ hx
  have fin : ∀ (hF : am_M) (z : Int32) (q : Nat) (ψ : pft), MR h0 n (am_set (am_set (am_set (am_set Y 68 9 (Int32.ofNat (st.1.2.2.1 + 1))) 74 (5 + st.1.2.2.1) k) 75 (5 + st.1.2.2.1) w0) 76 (5 + st.1.2.2.1) z) hF q ψ → q = bq2 (h0 2) (kdC h0) n p → ψ = bf2 (h0 2) (kdC h0) n p → (ψ.1 = 0 → (bf1 (h0 2) (kdC h0) n p).1 = 0 ∧ z = bv2 (h0 2) (kdC h0) n p) → ∃ Y', MR h0 n Y' hF (bq2 (h0 2) (kdC h0) n p) (bf2 (h0 2) (kdC h0) n p) ∧ ((bf2 (h0 2) (kdC h0) n p).1 = 0 → rM Y' ((st.1.1, st.1.2.1, st.1.2.2.1 + 1, st.1.2.2.2), am_set (am_set (am_set st.2 5 st.1.2.2.1 k) 6 st.1.2.2.1 (bv1 (h0 2) (kdC h0) n p)) 7 st.1.2.2.1 (bv2 (h0 2) (kdC h0) n p))) := fun hF z q ψ RF eq eψ hz => by
    subst eq eψ
    refine ⟨_, RF, fun e0 => ?_⟩
    obtain ⟨z3, ez⟩ := hz e0
    have e1 : w0 = bv1 (h0 2) (kdC h0) n p := q0 z3
    rw [ez, e1]
    refine ⟨⟨r0, r1, rfl⟩, ⟨b0, b1, by show st.1.2.2.1 + 1 ≤ 5; omega, b3⟩, hs, fun j hj => ?_, fun j hj => ?_⟩
    · by_cases e : j = st.1.2.2.1
      · subst e
        refine ⟨?_, ?_, ?_⟩ <;> simp [as_get]
      · have hj' : j < st.1.2.2.1 := by have : j < st.1.2.2.1 + 1 := hj; omega
        have := hb j hj'
        refine ⟨?_, ?_, ?_⟩ <;> simp [as_get, e]
        · exact this.1
        · exact this.2.1
        · exact this.2.2
    · have ne : ¬ 10 + j = 9 := by omega
      simp [as_get, ne]
      exact ht j hj
  by_cases z3 : (bf1 (h0 2) (kdC h0) n p).1 = 0
  rotate_left
  · rw [decide_eq_false z3, Bool.false_and, cond_false] at R6'
    have e4 : bf2 (h0 2) (kdC h0) n p = bf1 (h0 2) (kdC h0) n p := by
      unfold bf2
      cases isW (h0 2) (kdC h0) n (am_txt 4) (itE (kdC h0) n p 2) with
      | true => rw [cond_true]; exact cNf_st z3
      | false => rfl
    have lq : bq2 (h0 2) (kdC h0) n p ≤ n := by
      unfold bq2
      cases isW (h0 2) (kdC h0) n (am_txt 4) (itE (kdC h0) n p 2) with
      | true => exact (itE_le hp 4).2
      | false => exact (itE_le hp 2).2
    have S7 := (R6'.set 76 (5 + st.1.2.2.1) 0 (.inl ⟨⟨by decide, by decide⟩, by omega⟩)).pos z3 lq
    obtain ⟨Y', A, B⟩ := fin _ 0 _ _ S7 rfl e4.symm (fun e => absurd e z3)
    refine .end none _ ⟨rfl, Y', A, B⟩ fun d L xs o g Q T hq => run ?_
    rw [decide_eq_false z3, Bool.false_and, cond_false]
    refine sm_146_53 rfl rfl (am_ift rfl ⟨ix, ?_⟩)
    rw [nc]
    exact hq
  rw [decide_eq_true z3, Bool.true_and] at R6' run
  cases hw : isW (h0 2) (kdC h0) n (am_txt 4) (itE (kdC h0) n p 2) with
  | false =>
    rw [hw, cond_false] at R6'
    have q1' : bq2 (h0 2) (kdC h0) n p = itE (kdC h0) n p 2 := by unfold bq2; rw [hw]; rfl
    have q2' : bf2 (h0 2) (kdC h0) n p = bf1 (h0 2) (kdC h0) n p := by unfold bf2; rw [hw]; rfl
    have q3' : bv2 (h0 2) (kdC h0) n p = 0 := by unfold bv2; rw [hw]; rfl
    have S7 := R6'.set 76 (5 + st.1.2.2.1) 0 (.inl ⟨⟨by decide, by decide⟩, by omega⟩)
    obtain ⟨Y', A, B⟩ := fin _ 0 _ _ S7 q1'.symm q2'.symm (fun _ => ⟨z3, q3'.symm⟩)
    refine .end none _ ⟨rfl, Y', A, B⟩ fun d L xs o g Q T hq => run ?_
    rw [hw, cond_false]
    refine sm_146_53 rfl rfl (am_ift rfl ⟨ix, ?_⟩)
    rw [nc]
    exact hq
  | true =>
    rw [hw, cond_true] at R6'
    have q1' : bq2 (h0 2) (kdC h0) n p = itE (kdC h0) n p 4 := by unfold bq2; rw [hw]; rfl
    have q2' : bf2 (h0 2) (kdC h0) n p = cNf (h0 2) (kdC h0) n (itE (kdC h0) n p 3) 0 9 (bf1 (h0 2) (kdC h0) n p) := by unfold bf2; rw [hw]; rfl
    have q3' : bv2 (h0 2) (kdC h0) n p = cNv (h0 2) (kdC h0) n (itE (kdC h0) n p 3) 0 9 := by unfold bv2; rw [hw]; rfl
    obtain ⟨v7, h7, ⟨w5, rfl, R7, q5⟩, G7⟩ := R6'.num 0 9
    have S7 := R7.set 76 (5 + st.1.2.2.1) w5 (.inl ⟨⟨by decide, by decide⟩, by omega⟩)
    obtain ⟨Y', A, B⟩ := fin _ w5 _ _ S7 q1'.symm q2'.symm (fun e => ⟨z3, by rw [q3']; exact q5 e⟩)
    refine .end none _ ⟨rfl, Y', A, B⟩ fun d L xs o g Q T hq => run ?_
    rw [hw, cond_true]
    refine sm_146_53 rfl rfl (am_iff (by decide) (G7 (d + 1) L xs o g _ _ (sm_146_63 rfl rfl rfl ⟨ix, ?_⟩)))
    rw [nc]
    exact hq
end
