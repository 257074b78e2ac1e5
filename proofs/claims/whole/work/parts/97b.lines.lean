/-! ===== lines, as such; the class's lines ===== -/
abbrev pst : Type := (Nat × Nat × Nat × Nat) × am_M
abbrev pft : Type := Int32 × Int32
/-- the position behind i tokens -/
def itE (K : Nat → Int32) (n p : Nat) : Nat → Nat
  | 0 => p
  | i + 1 => tkE K n (itE K n p i)
theorem itE_le {K : Nat → Int32} {n p : Nat} (hp : p ≤ n) : ∀ i, p ≤ itE K n p i ∧ itE K n p i ≤ n
  | 0 => ⟨Nat.le_refl _, hp⟩
  | i + 1 => by
    obtain ⟨a, b⟩ := itE_le (K := K) hp i
    have c := tkE_le (K := K) b
    have d := tkS_le (K := K) b
    exact ⟨by show p ≤ tkE K n (itE K n p i); omega, by show tkE K n (itE K n p i) ≤ n; omega⟩
section
variable (V K : Nat → Int32) (n p : Nat)
def sv0 : Int32 := cNv V K n (itE K n p 1) 0 60
def sv1 : Int32 := cNv V K n (itE K n p 2) (sv0 V K n p) 60
def sv2 : Int32 := cNv V K n (itE K n p 3) 0 23
def sv3 : Int32 := cNv V K n (itE K n p 4) 1 12
def sv4 : Int32 := bif isW V K n (am_txt 1) (itE K n p 5) then cNv V K n (itE K n p 6) 0 9 else 0
def sf3 : pft := cNf V K n (itE K n p 4) 1 12 (cNf V K n (itE K n p 3) 0 23 (cNf V K n (itE K n p 2) (sv0 V K n p) 60 (cNf V K n (itE K n p 1) 0 60 (0, -1))))
def sf4 : pft := bif isW V K n (am_txt 1) (itE K n p 5) then cNf V K n (itE K n p 6) 0 9 (sf3 V K n p) else sf3 V K n p
def sq4 : Nat := bif isW V K n (am_txt 1) (itE K n p 5) then itE K n p 7 else itE K n p 5
def spShip (st : pst) : Nat × pst × pft := if st.1.1 < 5 then (sq4 V K n p, ((st.1.1 + 1, st.1.2), am_set (am_set (am_set (am_set (am_set st.2 0 st.1.1 (sv0 V K n p)) 1 st.1.1 (sv1 V K n p)) 2 st.1.1 (sv2 V K n p)) 3 st.1.1 (sv3 V K n p)) 4 st.1.1 (sv4 V K n p)), sf4 V K n p) else (p, st, (2, Int32.ofNat (tkS K n p)))
def spPers (st : pst) : Nat × pst × pft := if st.1.2.1 < 4 then (tkE K n p, ((st.1.1, st.1.2.1 + 1, st.1.2.2), st.2), (0, -1)) else (p, st, (2, Int32.ofNat (tkS K n p)))
def bv1 : Int32 := cNv V K n (itE K n p 1) 0 99
def bv2 : Int32 := bif isW V K n (am_txt 4) (itE K n p 2) then cNv V K n (itE K n p 3) 0 9 else 0
def bf1 : pft := cNf V K n (itE K n p 1) 0 99 (0, -1)
def bf2 : pft := bif isW V K n (am_txt 4) (itE K n p 2) then cNf V K n (itE K n p 3) 0 9 (bf1 V K n p) else bf1 V K n p
def bq2 : Nat := bif isW V K n (am_txt 4) (itE K n p 2) then itE K n p 4 else itE K n p 2
def spBerth (k : Int32) (st : pst) : Nat × pst × pft := if st.1.2.2.1 < 5 then (bq2 V K n p, ((st.1.1, st.1.2.1, st.1.2.2.1 + 1, st.1.2.2.2), am_set (am_set (am_set st.2 5 st.1.2.2.1 k) 6 st.1.2.2.1 (bv1 V K n p)) 7 st.1.2.2.1 (bv2 V K n p)), bf2 V K n p) else (p, st, (2, Int32.ofNat (tkS K n p)))
def spSet (i : Nat) (top : Int32) (st : pst) : Nat × pst × pft := bif st.1.2.2.2.testBit i then (p, st, (3, Int32.ofNat (tkS K n p))) else (itE K n p 2, ((st.1.1, st.1.2.1, st.1.2.2.1, st.1.2.2.2 ||| 2 ^ i), am_set st.2 8 i (cNv V K n (itE K n p 1) 0 top)), cNf V K n (itE K n p 1) 0 top (0, -1))
def spHd (st : pst) : Nat × pst × pft :=
  bif isW V K n (am_txt 0) p then spShip V K n p st else
  bif isW V K n (am_txt 2) p then spPers K n p st else
  bif isW V K n (am_txt 3) p then spBerth V K n p 0 st else
  bif isW V K n (am_txt 5) p then spBerth V K n p 1 st else
  bif isW V K n (am_txt 6) p then spBerth V K n p 2 st else
  bif isW V K n (am_txt 7) p then spSet V K n p 0 40 st else
  bif isW V K n (am_txt 8) p then spSet V K n p 1 20 st else
  bif isW V K n (am_txt 9) p then spSet V K n p 2 2 st else
  bif isW V K n (am_txt 10) p then spSet V K n p 3 999 st else (p, st, (1, Int32.ofNat (tkS K n p)))
/-- behind a line: the sign -/
def spEn (r : Nat × pst × pft) : Nat × pst × pft := (tkE K n r.1, r.2.1, if r.2.2.1 = 0 ∧ ¬ tkK K n r.1 = 3 then (1, Int32.ofNat (tkS K n r.1)) else r.2.2)
def spLn (st : pst) : Nat × pst × pft := spEn K n (spHd V K n p st)
end
def spAll (V K : Nat → Int32) (n : Nat) : Nat → Nat → pst → pst × pft
  | 0, _, st => (st, (0, -1))
  | m + 1, p, st => if tkK K n p = 0 then (st, (0, -1)) else if (spLn V K n p st).2.2.1 = 0 then spAll V K n m (spLn V K n p st).1 (spLn V K n p st).2.1 else ((spLn V K n p st).2.1, (spLn V K n p st).2.2)
/-- the class's draft, as cells of its own -/
def xC (k j : Nat) : Bool := (Nat.ble 13 k && Nat.ble k 22) || (Nat.beq k 1 && (Nat.beq j 1 || (Nat.beq j 3 || (Nat.beq j 5 || (Nat.beq j 6 || (Nat.beq j 7 || Nat.beq j 8))))))
theorem x1n_C {k j : Nat} (h : x1n k j = true) : xC k j = true := by
  unfold x1n at h
  simp only [Bool.or_eq_true, Bool.and_eq_true, Nat.beq_eq] at h
  obtain ⟨h, h'⟩ := h
  rcases h' with h' | h' | h' | h' | h' <;> subst h h' <;> rfl
theorem x1n_13 {k j : Nat} (h1 : 13 ≤ k) : x1n k j = false := by
  unfold x1n
  cases hc : Nat.beq k 1 with
  | false => rfl
  | true => rw [Nat.beq_eq] at hc; omega
def RS (h0 : am_M) (n : Nat) (X h : am_M) (p : Nat) (φ : pft) : Prop := fr xC h0 h ∧ (p ≤ n ∧ n ≤ 500 ∧ h0 1 4 = Int32.ofNat n) ∧ tkC h n p ∧ (h 1 3, h 1 1) = φ ∧ (∀ k j, 13 ≤ k → k ≤ 22 → h k j = X k j) ∧ h 1 8 = X 1 8
section
variable {h0 X h : am_M} {n p : Nat} {φ : pft}
theorem RS.kd (H : RS h0 n X h p φ) : kdC h = kdC h0 ∧ h 2 = h0 2 := kdC_fr H.1 (fun _ => rfl)
theorem RS.e5 (H : RS h0 n X h p φ) : h 1 5 = Int32.ofNat (tkE (kdC h0) n p) := by
  have := H.2.2.1.1
  rw [H.kd.1] at this
  exact this
theorem RS.e6 (H : RS h0 n X h p φ) : h 1 6 = Int32.ofNat (tkS (kdC h0) n p) := by
  have := H.2.2.1.2.1
  rw [H.kd.1] at this
  exact this
theorem RS.e7 (H : RS h0 n X h p φ) : h 1 7 = tkK (kdC h0) n p := by
  have := H.2.2.1.2.2
  rw [H.kd.1] at this
  exact this
theorem RS.f (H : RS h0 n X h p φ) : h 1 3 = φ.1 := congrArg Prod.fst H.2.2.2.1
theorem RS.pl (H : RS h0 n X h p φ) : h 1 1 = φ.2 := congrArg Prod.snd H.2.2.2.1
theorem RS.E (H : RS h0 n X h p φ) : tkE (kdC h0) n p ≤ n := (tkE_le H.2.1.1).2.1
theorem RS.tok (H : RS h0 n X h p φ) : mx 1 27 0 [some (.ref 1)] [] h (fun v h1 => v = none ∧ RS h0 n X h1 (tkE (kdC h0) n p) φ) := by
  obtain ⟨f, ⟨hp, hn, en⟩, T, hφ, hX, h8⟩ := H
  have H : RS h0 n X h p φ := ⟨f, ⟨hp, hn, en⟩, T, hφ, hX, h8⟩
  have hE := H.E
  refine (mx_27 (h := h) hn (by rw [f 1 4 rfl]; exact en) (n - tkE (kdC h0) n p) (tkE (kdC h0) n p) h (by omega) (fr.refl _ _) H.e5).mono ?_
  rintro v h1 ⟨rfl, g1, g5, g6, g7⟩
  have gN := g1.or fun _ _ hk => x1t_n hk
  obtain ⟨k1, k2⟩ := kdC_fr g1 (fun _ => rfl)
  refine ⟨rfl, f.trans (gN.or fun _ _ hk => x1n_C hk), ⟨hE, hn, en⟩, ?_, ?_, fun k j a b => by rw [gN k j (x1n_13 a)]; exact hX k j a b, by rw [g1 1 8 rfl]; exact h8⟩
  · unfold tkC
    rw [k1]
    exact ⟨g5, g6, g7⟩
  · rw [g1 1 3 rfl, g1 1 1 rfl]
    exact hφ
theorem RS.num (H : RS h0 n X h p φ) (lo hi : Int32) : mx 2 33 0 [some (.ref 1), some (.int lo), some (.int hi), none] [] h (fun v h1 => v = some (.int (cNv (h0 2) (kdC h0) n (tkE (kdC h0) n p) lo hi)) ∧ RS h0 n X h1 (tkE (kdC h0) n p) (cNf (h0 2) (kdC h0) n (tkE (kdC h0) n p) lo hi φ)) := by
  obtain ⟨f, ⟨hp, hn, en⟩, T, hφ, hX, h8⟩ := H
  have H : RS h0 n X h p φ := ⟨f, ⟨hp, hn, en⟩, T, hφ, hX, h8⟩
  have hE := H.E
  have M := mx_33 (h := h) hn (by rw [f 1 4 rfl]; exact en) (p := tkE (kdC h0) n p) (lo := lo) (hi := hi) hE H.e5
  rw [H.kd.1, H.kd.2, hφ] at M
  refine M.mono ?_
  rintro v h1 ⟨rfl, gN, g2, g3⟩
  exact ⟨rfl, f.trans (gN.or fun _ _ hk => x1n_C hk), ⟨hE, hn, en⟩, g2, g3, fun k j a b => by rw [gN k j (x1n_13 a)]; exact hX k j a b, by rw [gN 1 8 rfl]; exact h8⟩
theorem RS.word (H : RS h0 n X h p φ) {ws i : Nat} (hs : am_sx ws) (ht : am_txt (ws - am_big) = am_txt i) (hl : (am_txt i).length ≤ 20) : mv 0 30 [some (.ref 1), some (.ref ws), none] h (some (.int (bif isW (h0 2) (kdC h0) n (am_txt i) p then 1 else 0))) h := by
  have M := mv_30 (h := h) H.2.1.2.1 H.2.1.1 hs ht hl H.2.2.1
  rw [H.kd.1, H.kd.2] at M
  exact M
theorem RS.set (H : RS h0 n X h p φ) (k j : Nat) (x : Int32) (h1 : 13 ≤ k) (h2 : k ≤ 22) : RS h0 n (am_set X k j x) (am_set h k j x) p φ := by
  obtain ⟨f, hp, T, hφ, hX, h8⟩ := H
  have c1 : ¬ 1 = k := by omega
  have c2 : ¬ 2 = k := by omega
  have e1 : (am_set h k j x) 1 = h 1 := as_cell h j x (by omega)
  have e2 : (am_set h k j x) 2 = h 2 := as_cell h j x (by omega)
  refine ⟨f.set k j x ?_, hp, ?_, ?_, fun k' j' a b => ?_, ?_⟩
  · unfold xC
    rw [Nat.ble_eq_true_of_le h1, Nat.ble_eq_true_of_le h2]
    rfl
  · unfold tkC kdC
    rw [e1, e2]
    exact T
  · rw [e1]; exact hφ
  · rw [as_get, as_get, hX k' j' a b]
  · rw [e1, as_cell X j x (show 1 ≠ k by omega)]; exact h8
theorem RS.fail (H : RS h0 n X h p φ) (f : Int32) : RS h0 n X (am_set (am_set h 1 3 f) 1 1 (h 1 6)) p (f, Int32.ofNat (tkS (kdC h0) n p)) := by
  have e6 := H.e6
  obtain ⟨g, hp, T, hφ, hX, h8⟩ := H
  refine ⟨(g.set 1 3 _ rfl).set 1 1 _ rfl, hp, T, ?_, fun k j a b => by rw [as_cell _ _ _ (by omega), as_cell _ _ _ (by omega)]; exact hX k j a b, h8⟩
  show (f, h 1 6) = _
  rw [e6]
theorem RS.seen (H : RS h0 n X h p φ) (x : Int32) : RS h0 n (am_set X 1 8 x) (am_set h 1 8 x) p φ := by
  obtain ⟨g, hp, T, hφ, hX, h8⟩ := H
  refine ⟨g.set 1 8 _ rfl, hp, T, hφ, fun k j a b => by rw [as_cell _ _ _ (by omega), as_cell _ _ _ (by omega)]; exact hX k j a b, rfl⟩
end
theorem sx_l {k : Nat} (h : (Nat.ble am_big k && Nat.blt k (am_big + 22)) = true) : am_sx k := by
  rw [Bool.and_eq_true] at h
  exact ⟨Nat.le_of_ble_eq_true h.1, Nat.le_of_ble_eq_true h.2⟩
/-- the class's draft holds what the lines told -/
def rC (X : am_M) (st : pst) : Prop := (X 13 0 = Int32.ofNat st.1.1 ∧ X 13 1 = Int32.ofNat st.1.2.1 ∧ X 13 2 = Int32.ofNat st.1.2.2.1 ∧ X 1 8 = Int32.ofNat st.1.2.2.2) ∧ (st.1.1 ≤ 5 ∧ st.1.2.1 ≤ 4 ∧ st.1.2.2.1 ≤ 5 ∧ st.1.2.2.2 < 16) ∧ (∀ j, j < st.1.1 → X 14 j = st.2 0 j ∧ X 15 j = st.2 1 j ∧ X 16 j = st.2 2 j ∧ X 17 j = st.2 3 j ∧ X 18 j = st.2 4 j) ∧ (∀ j, j < st.1.2.2.1 → X 19 j = st.2 5 j ∧ X 20 j = st.2 6 j ∧ X 21 j = st.2 7 j) ∧ ∀ j, j < 4 → X 22 j = st.2 8 j
section
variable {h0 X h : am_M} {n p : Nat} {st : pst}
theorem mx_31 (H : RS h0 n X h p (0, -1)) (hr : rC X st) : mx 3 31 0 [some (.ref 1), some (.ref 13), none] [] h (fun v h1 => v = none ∧ ∃ X', RS h0 n X' h1 (spShip (h0 2) (kdC h0) n p st).1 (spShip (h0 2) (kdC h0) n p st).2.2 ∧ rC X' (spShip (h0 2) (kdC h0) n p st).2.1) := by
  obtain ⟨⟨r0, r1, r2, r3⟩, ⟨b0, b1, b2, b3⟩, hs, hb, ht⟩ := hr
  have e13 : h 13 0 = Int32.ofNat st.1.1 := (H.2.2.2.2.1 13 0 (by decide) (by decide)).trans r0
  unfold spShip
  by_cases c : st.1.1 < 5
  rotate_left
  · rw [if_neg c]
    refine .end none _ ⟨rfl, X, H.fail 2, ⟨r0, r1, r2, r3⟩, ⟨b0, b1, b2, b3⟩, hs, hb, ht⟩ fun d L xs o g Q T hq => sm_31 ?_
    rw [e13]
    exact am_iff (by show ¬ Int32.ofNat st.1.1 < Int32.ofNat 5; rw [nz_nlt (by omega) (by decide)]; exact c) (am_ift H.f hq)
  rw [if_pos c]
  have i5 : am_ix (Int32.ofNat st.1.1) 5 := ix_n c (by decide)
  have lt : Int32.ofNat st.1.1 < 5 := by show Int32.ofNat st.1.1 < Int32.ofNat 5; rw [nz_nlt (by omega) (by decide)]; exact c
  obtain ⟨v1, h1, ⟨rfl, R1⟩, G1⟩ := H.num 0 60
  have S1 := R1.set 14 st.1.1 (sv0 (h0 2) (kdC h0) n p) (by decide) (by decide)
  obtain ⟨v2, h2, ⟨rfl, R2⟩, G2⟩ := S1.num (sv0 (h0 2) (kdC h0) n p) 60
  have S2 := R2.set 15 st.1.1 (sv1 (h0 2) (kdC h0) n p) (by decide) (by decide)
  obtain ⟨v3, h3, ⟨rfl, R3⟩, G3⟩ := S2.num 0 23
  have S3 := R3.set 16 st.1.1 (sv2 (h0 2) (kdC h0) n p) (by decide) (by decide)
  obtain ⟨v4, h4, ⟨rfl, R4⟩, G4⟩ := S3.num 1 12
  have S4 := R4.set 17 st.1.1 (sv3 (h0 2) (kdC h0) n p) (by decide) (by decide)
  obtain ⟨v5, h5, ⟨rfl, R5⟩, G5⟩ := S4.tok
  have S5 := R5.set 18 st.1.1 0 (by decide) (by decide)
  have W := S5.word (ws := 1000001) (i := 1) (sx_l rfl) rfl (by decide)
  have fin : ∀ (hF Y : am_M) (z : Int32), RS h0 n Y hF (sq4 (h0 2) (kdC h0) n p) (sf4 (h0 2) (kdC h0) n p) → Y = am_set (am_set (am_set (am_set (am_set X 14 st.1.1 (sv0 (h0 2) (kdC h0) n p)) 15 st.1.1 (sv1 (h0 2) (kdC h0) n p)) 16 st.1.1 (sv2 (h0 2) (kdC h0) n p)) 17 st.1.1 (sv3 (h0 2) (kdC h0) n p)) 18 st.1.1 z → z = sv4 (h0 2) (kdC h0) n p → (∃ X', RS h0 n X' (am_set hF 13 0 (hF 13 0 + 1)) (sq4 (h0 2) (kdC h0) n p) (sf4 (h0 2) (kdC h0) n p) ∧ rC X' ((st.1.1 + 1, st.1.2), am_set (am_set (am_set (am_set (am_set st.2 0 st.1.1 (sv0 (h0 2) (kdC h0) n p)) 1 st.1.1 (sv1 (h0 2) (kdC h0) n p)) 2 st.1.1 (sv2 (h0 2) (kdC h0) n p)) 3 st.1.1 (sv3 (h0 2) (kdC h0) n p)) 4 st.1.1 (sv4 (h0 2) (kdC h0) n p))) := fun hF Y z RF eY ez => by
    refine ⟨_, RF.set 13 0 _ (by decide) (by decide), ⟨?_, ?_, ?_, ?_⟩, ⟨by show st.1.1 + 1 ≤ 5; omega, b1, b2, b3⟩, fun j hj => ?_, fun j hj => ?_, fun j hj => ?_⟩
    · show am_set Y 13 0 (hF 13 0 + 1) 13 0 = Int32.ofNat (st.1.1 + 1)
      rw [as_self, RF.2.2.2.2.1 13 0 (by decide) (by decide), eY]
      show X 13 0 + 1 = _
      rw [r0, nz_succ]
    · rw [eY]; exact r1
    · rw [eY]; exact r2
    · rw [eY]; exact r3
    · rw [eY, ez]
      by_cases e : j = st.1.1
      · subst e
        refine ⟨?_, ?_, ?_, ?_, ?_⟩ <;> simp [as_get]
      · have hj' : j < st.1.1 := by have : j < st.1.1 + 1 := hj; omega
        have := hs j hj'
        refine ⟨?_, ?_, ?_, ?_, ?_⟩ <;> simp [as_get, e]
        · exact this.1
        · exact this.2.1
        · exact this.2.2.1
        · exact this.2.2.2.1
        · exact this.2.2.2.2
    · rw [eY]; exact hb j hj
    · rw [eY]; exact ht j hj
  have run : ∀ {d L : Nat} {xs : Nat → Int32} {o : am_L} {g : Nat} {Q : Option Value → am_M → am_L → Nat → Prop} {T : Nat → am_M → am_L → Nat → Prop}, am_X L xs (d + 3) 31 90 [some (.ref 1), some (.ref 13), some (.int (Int32.ofNat st.1.1))] [.int (bif isW (h0 2) (kdC h0) n (am_txt 1) (itE (kdC h0) n p 5) then 1 else 0)] am_C0 (am_set h5 18 st.1.1 0) o g Q T → am_X L xs (d + 3) 31 0 [some (.ref 1), some (.ref 13), none] [] am_C0 h o g Q T := fun {d L xs o g Q T} hx => by
    refine sm_31 ?_
    rw [e13]
    refine am_ift lt (G1 d L xs o g _ _ (sm_31_28 ⟨i5, i5, ?_⟩))
    rw [nz_c st.1.1 (by omega), as_self]
    refine G2 d L xs o g _ _ (sm_31_46 ⟨i5, ?_⟩)
    rw [nz_c st.1.1 (by omega)]
    refine G3 d L xs o g _ _ (sm_31_59 ⟨i5, ?_⟩)
    rw [nz_c st.1.1 (by omega)]
    refine G4 d L xs o g _ _ (sm_31_72 ⟨i5, ?_⟩)
    rw [nz_c st.1.1 (by omega)]
    refine G5 (d + 1) L xs o g _ _ (sm_31_77 ⟨i5, ?_⟩)
    rw [nz_c st.1.1 (by omega)]
    exact W.use hx
  cases hw : isW (h0 2) (kdC h0) n (am_txt 1) (itE (kdC h0) n p 5) with
  | false =>
    have q1 : sq4 (h0 2) (kdC h0) n p = itE (kdC h0) n p 5 := by unfold sq4; rw [hw]; rfl
    have q2 : sf4 (h0 2) (kdC h0) n p = sf3 (h0 2) (kdC h0) n p := by unfold sf4; rw [hw]; rfl
    have q3 : sv4 (h0 2) (kdC h0) n p = 0 := by unfold sv4; rw [hw]; rfl
    obtain ⟨X', A, B⟩ := fin (am_set h5 18 st.1.1 0) _ 0 (by rw [q1, q2]; exact S5) rfl q3.symm
    exact .end none _ ⟨rfl, X', A, B⟩ fun d L xs o g Q T hq => run (by rw [hw]; exact sm_31_90 (am_ift rfl hq))
  | true =>
    have q1 : sq4 (h0 2) (kdC h0) n p = itE (kdC h0) n p 7 := by unfold sq4; rw [hw]; rfl
    have q2 : sf4 (h0 2) (kdC h0) n p = cNf (h0 2) (kdC h0) n (itE (kdC h0) n p 6) 0 9 (sf3 (h0 2) (kdC h0) n p) := by unfold sf4; rw [hw]; rfl
    have q3 : sv4 (h0 2) (kdC h0) n p = cNv (h0 2) (kdC h0) n (itE (kdC h0) n p 6) 0 9 := by unfold sv4; rw [hw]; rfl
    obtain ⟨v6, h6, ⟨rfl, R6⟩, G6⟩ := S5.num 0 9
    have S6 := R6.set 18 st.1.1 (cNv (h0 2) (kdC h0) n (itE (kdC h0) n p 6) 0 9) (by decide) (by decide)
    obtain ⟨v7, h7, ⟨rfl, R7⟩, G7⟩ := S6.tok
    rw [as_twice] at R7
    obtain ⟨X', A, B⟩ := fin h7 _ _ (by rw [q1, q2]; exact R7) rfl q3.symm
    refine .end none _ ⟨rfl, X', A, B⟩ fun d L xs o g Q T hq => run ?_
    rw [hw]
    refine sm_31_90 (am_iff (by decide) (G6 d L xs o g _ _ (sm_31_105 rfl ⟨i5, ?_⟩)))
    rw [nz_c st.1.1 (by omega)]
    exact G7 (d + 1) L xs o g _ _ (sm_31_110 rfl rfl hq)
theorem mx_35 (H : RS h0 n X h p (0, -1)) (hr : rC X st) : mx 3 35 0 [some (.ref 1), some (.ref 13)] [] h (fun v h1 => v = none ∧ ∃ X', RS h0 n X' h1 (spPers (kdC h0) n p st).1 (spPers (kdC h0) n p st).2.2 ∧ rC X' (spPers (kdC h0) n p st).2.1) := by
  obtain ⟨⟨r0, r1, r2, r3⟩, ⟨b0, b1, b2, b3⟩, hs, hb, ht⟩ := hr
  have e13 : h 13 1 = Int32.ofNat st.1.2.1 := (H.2.2.2.2.1 13 1 (by decide) (by decide)).trans r1
  unfold spPers
  by_cases c : st.1.2.1 < 4
  rotate_left
  · rw [if_neg c]
    refine .end none _ ⟨rfl, X, H.fail 2, ⟨r0, r1, r2, r3⟩, ⟨b0, b1, b2, b3⟩, hs, hb, ht⟩ fun d L xs o g Q T hq => sm_35 ?_
    rw [e13]
    exact am_iff (by show ¬ Int32.ofNat st.1.2.1 < Int32.ofNat 4; rw [nz_nlt (by omega) (by decide)]; exact c) (am_ift H.f hq)
  rw [if_pos c]
  have S1 := H.set 13 1 (Int32.ofNat (st.1.2.1 + 1)) (by decide) (by decide)
  obtain ⟨v1, h1, ⟨rfl, R1⟩, G1⟩ := S1.tok
  refine .end none h1 ⟨rfl, _, R1, ⟨r0, rfl, r2, r3⟩, ⟨b0, by show st.1.2.1 + 1 ≤ 4; omega, b2, b3⟩, hs, hb, ht⟩ fun d L xs o g Q T hq => sm_35 ?_
  rw [e13]
  refine am_ift (by show Int32.ofNat st.1.2.1 < Int32.ofNat 4; rw [nz_nlt (by omega) (by decide)]; exact c) ?_
  rw [nz_succ]
  exact G1 (d + 1) L xs o g _ _ (sm_35_28 rfl rfl hq)
theorem mx_36 {k : Int32} (H : RS h0 n X h p (0, -1)) (hr : rC X st) : mx 3 36 0 [some (.ref 1), some (.ref 13), some (.int k), none] [] h (fun v h1 => v = none ∧ ∃ X', RS h0 n X' h1 (spBerth (h0 2) (kdC h0) n p k st).1 (spBerth (h0 2) (kdC h0) n p k st).2.2 ∧ rC X' (spBerth (h0 2) (kdC h0) n p k st).2.1) := by
  obtain ⟨⟨r0, r1, r2, r3⟩, ⟨b0, b1, b2, b3⟩, hs, hb, ht⟩ := hr
  have e13 : h 13 2 = Int32.ofNat st.1.2.2.1 := (H.2.2.2.2.1 13 2 (by decide) (by decide)).trans r2
  unfold spBerth
  by_cases c : st.1.2.2.1 < 5
  rotate_left
  · rw [if_neg c]
    refine .end none _ ⟨rfl, X, H.fail 2, ⟨r0, r1, r2, r3⟩, ⟨b0, b1, b2, b3⟩, hs, hb, ht⟩ fun d L xs o g Q T hq => sm_36 ?_
    rw [e13]
    exact am_iff (by show ¬ Int32.ofNat st.1.2.2.1 < Int32.ofNat 5; rw [nz_nlt (by omega) (by decide)]; exact c) (am_ift H.f hq)
  rw [if_pos c]
  have i5 : am_ix (Int32.ofNat st.1.2.2.1) 5 := ix_n c (by decide)
  have lt : Int32.ofNat st.1.2.2.1 < 5 := by show Int32.ofNat st.1.2.2.1 < Int32.ofNat 5; rw [nz_nlt (by omega) (by decide)]; exact c
  have S0 := H.set 19 st.1.2.2.1 k (by decide) (by decide)
  obtain ⟨v1, h1, ⟨rfl, R1⟩, G1⟩ := S0.num 0 99
  have S1 := R1.set 20 st.1.2.2.1 (bv1 (h0 2) (kdC h0) n p) (by decide) (by decide)
  obtain ⟨v5, h5, ⟨rfl, R5⟩, G5⟩ := S1.tok
  have S5 := R5.set 21 st.1.2.2.1 0 (by decide) (by decide)
  have W := S5.word (ws := 1000004) (i := 4) (sx_l rfl) rfl (by decide)
  have fin : ∀ (hF Y : am_M) (z : Int32), RS h0 n Y hF (bq2 (h0 2) (kdC h0) n p) (bf2 (h0 2) (kdC h0) n p) → Y = am_set (am_set (am_set X 19 st.1.2.2.1 k) 20 st.1.2.2.1 (bv1 (h0 2) (kdC h0) n p)) 21 st.1.2.2.1 z → z = bv2 (h0 2) (kdC h0) n p → (∃ X', RS h0 n X' (am_set hF 13 2 (hF 13 2 + 1)) (bq2 (h0 2) (kdC h0) n p) (bf2 (h0 2) (kdC h0) n p) ∧ rC X' ((st.1.1, st.1.2.1, st.1.2.2.1 + 1, st.1.2.2.2), am_set (am_set (am_set st.2 5 st.1.2.2.1 k) 6 st.1.2.2.1 (bv1 (h0 2) (kdC h0) n p)) 7 st.1.2.2.1 (bv2 (h0 2) (kdC h0) n p))) := fun hF Y z RF eY ez => by
    refine ⟨_, RF.set 13 2 _ (by decide) (by decide), ⟨?_, ?_, ?_, ?_⟩, ⟨b0, b1, by show st.1.2.2.1 + 1 ≤ 5; omega, b3⟩, fun j hj => ?_, fun j hj => ?_, fun j hj => ?_⟩
    · rw [eY]; exact r0
    · rw [eY]; exact r1
    · show am_set Y 13 2 (hF 13 2 + 1) 13 2 = Int32.ofNat (st.1.2.2.1 + 1)
      rw [as_self, RF.2.2.2.2.1 13 2 (by decide) (by decide), eY]
      show X 13 2 + 1 = _
      rw [r2, nz_succ]
    · rw [eY]; exact r3
    · rw [eY]; exact hs j hj
    · rw [eY, ez]
      by_cases e : j = st.1.2.2.1
      · subst e
        refine ⟨?_, ?_, ?_⟩ <;> simp [as_get]
      · have hj' : j < st.1.2.2.1 := by have : j < st.1.2.2.1 + 1 := hj; omega
        have := hb j hj'
        refine ⟨?_, ?_, ?_⟩ <;> simp [as_get, e]
        · exact this.1
        · exact this.2.1
        · exact this.2.2
    · rw [eY]; exact ht j hj
  have run : ∀ {d L : Nat} {xs : Nat → Int32} {o : am_L} {g : Nat} {Q : Option Value → am_M → am_L → Nat → Prop} {T : Nat → am_M → am_L → Nat → Prop}, am_X L xs (d + 3) 36 53 [some (.ref 1), some (.ref 13), some (.int k), some (.int (Int32.ofNat st.1.2.2.1))] [.int (bif isW (h0 2) (kdC h0) n (am_txt 4) (itE (kdC h0) n p 2) then 1 else 0)] am_C0 (am_set h5 21 st.1.2.2.1 0) o g Q T → am_X L xs (d + 3) 36 0 [some (.ref 1), some (.ref 13), some (.int k), none] [] am_C0 h o g Q T := fun {d L xs o g Q T} hx => by
    refine sm_36 ?_
    rw [e13]
    refine am_ift lt ⟨i5, ?_⟩
    rw [nz_c st.1.2.2.1 (by omega)]
    refine G1 d L xs o g _ _ (sm_36_35 rfl ⟨i5, ?_⟩)
    rw [nz_c st.1.2.2.1 (by omega)]
    refine G5 (d + 1) L xs o g _ _ (sm_36_40 rfl ⟨i5, ?_⟩)
    rw [nz_c st.1.2.2.1 (by omega)]
    exact W.use hx
  cases hw : isW (h0 2) (kdC h0) n (am_txt 4) (itE (kdC h0) n p 2) with
  | false =>
    have q1 : bq2 (h0 2) (kdC h0) n p = itE (kdC h0) n p 2 := by unfold bq2; rw [hw]; rfl
    have q2 : bf2 (h0 2) (kdC h0) n p = bf1 (h0 2) (kdC h0) n p := by unfold bf2; rw [hw]; rfl
    have q3 : bv2 (h0 2) (kdC h0) n p = 0 := by unfold bv2; rw [hw]; rfl
    obtain ⟨X', A, B⟩ := fin (am_set h5 21 st.1.2.2.1 0) _ 0 (by rw [q1, q2]; exact S5) rfl q3.symm
    exact .end none _ ⟨rfl, X', A, B⟩ fun d L xs o g Q T hq => run (by rw [hw]; exact sm_36_53 rfl (am_ift rfl hq))
  | true =>
    have q1 : bq2 (h0 2) (kdC h0) n p = itE (kdC h0) n p 4 := by unfold bq2; rw [hw]; rfl
    have q2 : bf2 (h0 2) (kdC h0) n p = cNf (h0 2) (kdC h0) n (itE (kdC h0) n p 3) 0 9 (bf1 (h0 2) (kdC h0) n p) := by unfold bf2; rw [hw]; rfl
    have q3 : bv2 (h0 2) (kdC h0) n p = cNv (h0 2) (kdC h0) n (itE (kdC h0) n p 3) 0 9 := by unfold bv2; rw [hw]; rfl
    obtain ⟨v6, h6, ⟨rfl, R6⟩, G6⟩ := S5.num 0 9
    have S6 := R6.set 21 st.1.2.2.1 (cNv (h0 2) (kdC h0) n (itE (kdC h0) n p 3) 0 9) (by decide) (by decide)
    obtain ⟨v7, h7, ⟨rfl, R7⟩, G7⟩ := S6.tok
    rw [as_twice] at R7
    obtain ⟨X', A, B⟩ := fin h7 _ _ (by rw [q1, q2]; exact R7) rfl q3.symm
    refine .end none _ ⟨rfl, X', A, B⟩ fun d L xs o g Q T hq => run ?_
    rw [hw]
    refine sm_36_53 rfl (am_iff (by decide) (G6 d L xs o g _ _ (sm_36_68 rfl rfl ⟨i5, ?_⟩)))
    rw [nz_c st.1.2.2.1 (by omega)]
    exact G7 (d + 1) L xs o g _ _ (sm_36_73 rfl rfl rfl hq)
theorem mx_37 {i : Nat} {top : Int32} (hi : i < 4) (H : RS h0 n X h p (0, -1)) (hr : rC X st) : mx 3 37 0 [some (.ref 1), some (.ref 13), some (.int (Int32.ofNat i)), some (.int top), none] [] h (fun v h1 => v = none ∧ ∃ X', RS h0 n X' h1 (spSet (h0 2) (kdC h0) n p i top st).1 (spSet (h0 2) (kdC h0) n p i top st).2.2 ∧ rC X' (spSet (h0 2) (kdC h0) n p i top st).2.1) := by
  obtain ⟨⟨r0, r1, r2, r3⟩, ⟨b0, b1, b2, b3⟩, hs, hb, ht⟩ := hr
  have e18 : h 1 8 = Int32.ofNat st.1.2.2.2 := H.2.2.2.2.2.trans r3
  have ba := bt_and ⟨st.1.2.2.2, by omega⟩ ⟨i, by omega⟩
  have bo := bt_or ⟨st.1.2.2.2, by omega⟩ ⟨i, by omega⟩
  have b16 : ∀ (u : Fin 16) (i : Fin 4), u.val ||| 2 ^ i.val < 16 := by decide
  unfold spSet
  cases hc : st.1.2.2.2.testBit i with
  | true =>
    rw [cond_true]
    refine .end none _ ⟨rfl, X, H.fail 3, ⟨r0, r1, r2, r3⟩, ⟨b0, b1, b2, b3⟩, hs, hb, ht⟩ fun d L xs o g Q T hq => sm_37 ?_
    rw [e18]
    exact am_iff (fun e => by have := ba.1 e; simp only at this; rw [hc] at this; cases this) (am_ift H.f hq)
  | false =>
    rw [cond_false]
    have S0 := H.seen (Int32.ofNat (st.1.2.2.2 ||| 2 ^ i))
    obtain ⟨v1, h1, ⟨rfl, R1⟩, G1⟩ := S0.num 0 top
    have S1 := R1.set 22 i (cNv (h0 2) (kdC h0) n (itE (kdC h0) n p 1) 0 top) (by decide) (by decide)
    obtain ⟨v2, h2, ⟨rfl, R2⟩, G2⟩ := S1.tok
    refine .end none h2 ⟨rfl, _, R2, ⟨r0, r1, r2, rfl⟩, ⟨b0, b1, b2, b16 ⟨st.1.2.2.2, b3⟩ ⟨i, hi⟩⟩, hs, hb, fun j hj => ?_⟩ fun d L xs o g Q T hq => sm_37 ?_
    · by_cases e : j = i
      · subst e; simp [as_get]
      · simp [as_get, e]; exact ht j hj
    · rw [e18]
      refine am_ift (ba.2 hc) ?_
      rw [show Int32.ofNat st.1.2.2.2 ||| 1 <<< (Int32.ofNat i &&& 31) = Int32.ofNat (st.1.2.2.2 ||| 2 ^ i) from bo.1]
      refine G1 d L xs o g _ _ (sm_37_43 rfl rfl rfl rfl ⟨ix_n hi (by decide), ?_⟩)
      rw [nz_c i (by omega)]
      exact G2 (d + 1) L xs o g _ _ (sm_37_48 rfl rfl rfl rfl rfl hq)
/-- behind what a line tells: the sign, and the next token -/
theorem ln_end {r : Nat × pst × pft} (R : RS h0 n X h r.1 r.2.2) (hr : rC X r.2.1) : ∃ h1, (∃ X', RS h0 n X' h1 (spEn (kdC h0) n r).1 (spEn (kdC h0) n r).2.2 ∧ rC X' (spEn (kdC h0) n r).2.1) ∧ ∀ {d L : Nat} {xs : Nat → Int32} {o : am_L} {g : Nat} {Q : Option Value → am_M → am_L → Nat → Prop} {T : Nat → am_M → am_L → Nat → Prop}, Q none h1 o g → (if h 1 7 = 3 then am_X L xs (d + 1) 27 0 [some (.ref 1)] [] am_C0 h o g (fun w h' o' g' => am_X L xs (d + 2) 29 190 [some (.ref 1), some (.ref 13)] (w.toList ++ []) am_C0 h' o' g' Q T) T else if h 1 3 = 0 then am_X L xs (d + 1) 27 0 [some (.ref 1)] [] am_C0 (am_set (am_set h 1 3 1) 1 1 (h 1 6)) o g (fun w h' o' g' => am_X L xs (d + 2) 29 190 [some (.ref 1), some (.ref 13)] (w.toList ++ []) am_C0 h' o' g' Q T) T else am_X L xs (d + 1) 27 0 [some (.ref 1)] [] am_C0 h o g (fun w h' o' g' => am_X L xs (d + 2) 29 190 [some (.ref 1), some (.ref 13)] (w.toList ++ []) am_C0 h' o' g' Q T) T) := by
  unfold spEn
  by_cases c1 : h 1 7 = 3
  · have c1' : tkK (kdC h0) n r.1 = 3 := R.e7.symm.trans c1
    rw [if_neg (fun e => e.2 c1')]
    obtain ⟨v, h1, ⟨rfl, R1⟩, G⟩ := R.tok
    exact ⟨h1, ⟨X, R1, hr⟩, fun {d L xs o g Q T} hq => am_ift c1 (G d L xs o g _ _ (sm_29_190 rfl rfl hq))⟩
  · have c1' : ¬ tkK (kdC h0) n r.1 = 3 := fun e => c1 (R.e7.trans e)
    by_cases c2 : h 1 3 = 0
    · have c2' : r.2.2.1 = 0 := R.f.symm.trans c2
      rw [if_pos ⟨c2', c1'⟩]
      obtain ⟨v, h1, ⟨rfl, R1⟩, G⟩ := (R.fail 1).tok
      exact ⟨h1, ⟨X, R1, hr⟩, fun {d L xs o g Q T} hq => am_iff c1 (am_ift c2 (G d L xs o g _ _ (sm_29_190 rfl rfl hq)))⟩
    · have c2' : ¬ r.2.2.1 = 0 := fun e => c2 (R.f.trans e)
      rw [if_neg (fun e => c2' e.1)]
      obtain ⟨v, h1, ⟨rfl, R1⟩, G⟩ := R.tok
      exact ⟨h1, ⟨X, R1, hr⟩, fun {d L xs o g Q T} hq => am_iff c1 (am_iff c2 (G d L xs o g _ _ (sm_29_190 rfl rfl hq)))⟩
theorem mx_29 (H : RS h0 n X h p (0, -1)) (hr : rC X st) : mx 4 29 0 [some (.ref 1), some (.ref 13)] [] h (fun v h1 => v = none ∧ ∃ X', RS h0 n X' h1 (spLn (h0 2) (kdC h0) n p st).1 (spLn (h0 2) (kdC h0) n p st).2.2 ∧ rC X' (spLn (h0 2) (kdC h0) n p st).2.1) := by
  have W0 := H.word (ws := 1000000) (i := 0) (sx_l rfl) rfl (by decide)
  have W1 := H.word (ws := 1000002) (i := 2) (sx_l rfl) rfl (by decide)
  have W2 := H.word (ws := 1000003) (i := 3) (sx_l rfl) rfl (by decide)
  have W3 := H.word (ws := 1000005) (i := 5) (sx_l rfl) rfl (by decide)
  have W4 := H.word (ws := 1000006) (i := 6) (sx_l rfl) rfl (by decide)
  have W5 := H.word (ws := 1000007) (i := 7) (sx_l rfl) rfl (by decide)
  have W6 := H.word (ws := 1000008) (i := 8) (sx_l rfl) rfl (by decide)
  have W7 := H.word (ws := 1000009) (i := 9) (sx_l rfl) rfl (by decide)
  have W8 := H.word (ws := 1000010) (i := 10) (sx_l rfl) rfl (by decide)
  unfold spLn spHd
  cases w0 : isW (h0 2) (kdC h0) n (am_txt 0) p with
  | true =>
    rw [cond_true]
    rw [w0, cond_true] at W0
    obtain ⟨v, h1, ⟨rfl, X1, R1, q1⟩, G⟩ := mx_31 H hr
    obtain ⟨h2, P2, K2⟩ := ln_end R1 q1
    exact .end none h2 ⟨rfl, P2⟩ fun d L xs o g Q T hq => sm_29 (W0.use (sm_29_6 (am_iff (by decide) (G (d + 0) L xs o g _ _ (sm_29_14 rfl (K2 hq))))))
  | false =>
    rw [cond_false]
    rw [w0, cond_false] at W0
    cases w1 : isW (h0 2) (kdC h0) n (am_txt 2) p with
    | true =>
      rw [cond_true]
      rw [w1, cond_true] at W1
      obtain ⟨v, h1, ⟨rfl, X1, R1, q1⟩, G⟩ := mx_35 H hr
      obtain ⟨h2, P2, K2⟩ := ln_end R1 q1
      exact .end none h2 ⟨rfl, P2⟩ fun d L xs o g Q T hq => sm_29 (W0.use (sm_29_6 (am_ift rfl (W1.use (sm_29_23 (am_iff (by decide) (G (d + 0) L xs o g _ _ (sm_29_31 rfl (K2 hq)))))))))
    | false =>
      rw [cond_false]
      rw [w1, cond_false] at W1
      cases w2 : isW (h0 2) (kdC h0) n (am_txt 3) p with
      | true =>
        rw [cond_true]
        rw [w2, cond_true] at W2
        obtain ⟨v, h1, ⟨rfl, X1, R1, q1⟩, G⟩ := mx_36 (k := 0) H hr
        obtain ⟨h2, P2, K2⟩ := ln_end R1 q1
        exact .end none h2 ⟨rfl, P2⟩ fun d L xs o g Q T hq => sm_29 (W0.use (sm_29_6 (am_ift rfl (W1.use (sm_29_23 (am_ift rfl (W2.use (sm_29_40 (am_iff (by decide) (G (d + 0) L xs o g _ _ (sm_29_49 rfl (K2 hq))))))))))))
      | false =>
        rw [cond_false]
        rw [w2, cond_false] at W2
        cases w3 : isW (h0 2) (kdC h0) n (am_txt 5) p with
        | true =>
          rw [cond_true]
          rw [w3, cond_true] at W3
          obtain ⟨v, h1, ⟨rfl, X1, R1, q1⟩, G⟩ := mx_36 (k := 1) H hr
          obtain ⟨h2, P2, K2⟩ := ln_end R1 q1
          exact .end none h2 ⟨rfl, P2⟩ fun d L xs o g Q T hq => sm_29 (W0.use (sm_29_6 (am_ift rfl (W1.use (sm_29_23 (am_ift rfl (W2.use (sm_29_40 (am_ift rfl (W3.use (sm_29_58 (am_iff (by decide) (G (d + 0) L xs o g _ _ (sm_29_67 rfl (K2 hq)))))))))))))))
        | false =>
          rw [cond_false]
          rw [w3, cond_false] at W3
          cases w4 : isW (h0 2) (kdC h0) n (am_txt 6) p with
          | true =>
            rw [cond_true]
            rw [w4, cond_true] at W4
            obtain ⟨v, h1, ⟨rfl, X1, R1, q1⟩, G⟩ := mx_36 (k := 2) H hr
            obtain ⟨h2, P2, K2⟩ := ln_end R1 q1
            exact .end none h2 ⟨rfl, P2⟩ fun d L xs o g Q T hq => sm_29 (W0.use (sm_29_6 (am_ift rfl (W1.use (sm_29_23 (am_ift rfl (W2.use (sm_29_40 (am_ift rfl (W3.use (sm_29_58 (am_ift rfl (W4.use (sm_29_76 (am_iff (by decide) (G (d + 0) L xs o g _ _ (sm_29_85 rfl (K2 hq))))))))))))))))))
          | false =>
            rw [cond_false]
            rw [w4, cond_false] at W4
            cases w5 : isW (h0 2) (kdC h0) n (am_txt 7) p with
            | true =>
              rw [cond_true]
              rw [w5, cond_true] at W5
              obtain ⟨v, h1, ⟨rfl, X1, R1, q1⟩, G⟩ := mx_37 (i := 0) (top := 40) (by decide) H hr
              obtain ⟨h2, P2, K2⟩ := ln_end R1 q1
              exact .end none h2 ⟨rfl, P2⟩ fun d L xs o g Q T hq => sm_29 (W0.use (sm_29_6 (am_ift rfl (W1.use (sm_29_23 (am_ift rfl (W2.use (sm_29_40 (am_ift rfl (W3.use (sm_29_58 (am_ift rfl (W4.use (sm_29_76 (am_ift rfl (W5.use (sm_29_94 (am_iff (by decide) (G (d + 0) L xs o g _ _ (sm_29_105 rfl (K2 hq)))))))))))))))))))))
            | false =>
              rw [cond_false]
              rw [w5, cond_false] at W5
              cases w6 : isW (h0 2) (kdC h0) n (am_txt 8) p with
              | true =>
                rw [cond_true]
                rw [w6, cond_true] at W6
                obtain ⟨v, h1, ⟨rfl, X1, R1, q1⟩, G⟩ := mx_37 (i := 1) (top := 20) (by decide) H hr
                obtain ⟨h2, P2, K2⟩ := ln_end R1 q1
                exact .end none h2 ⟨rfl, P2⟩ fun d L xs o g Q T hq => sm_29 (W0.use (sm_29_6 (am_ift rfl (W1.use (sm_29_23 (am_ift rfl (W2.use (sm_29_40 (am_ift rfl (W3.use (sm_29_58 (am_ift rfl (W4.use (sm_29_76 (am_ift rfl (W5.use (sm_29_94 (am_ift rfl (W6.use (sm_29_114 (am_iff (by decide) (G (d + 0) L xs o g _ _ (sm_29_125 rfl (K2 hq))))))))))))))))))))))))
              | false =>
                rw [cond_false]
                rw [w6, cond_false] at W6
                cases w7 : isW (h0 2) (kdC h0) n (am_txt 9) p with
                | true =>
                  rw [cond_true]
                  rw [w7, cond_true] at W7
                  obtain ⟨v, h1, ⟨rfl, X1, R1, q1⟩, G⟩ := mx_37 (i := 2) (top := 2) (by decide) H hr
                  obtain ⟨h2, P2, K2⟩ := ln_end R1 q1
                  exact .end none h2 ⟨rfl, P2⟩ fun d L xs o g Q T hq => sm_29 (W0.use (sm_29_6 (am_ift rfl (W1.use (sm_29_23 (am_ift rfl (W2.use (sm_29_40 (am_ift rfl (W3.use (sm_29_58 (am_ift rfl (W4.use (sm_29_76 (am_ift rfl (W5.use (sm_29_94 (am_ift rfl (W6.use (sm_29_114 (am_ift rfl (W7.use (sm_29_134 (am_iff (by decide) (G (d + 0) L xs o g _ _ (sm_29_144 rfl (K2 hq)))))))))))))))))))))))))))
                | false =>
                  rw [cond_false]
                  rw [w7, cond_false] at W7
                  cases w8 : isW (h0 2) (kdC h0) n (am_txt 10) p with
                  | true =>
                    rw [cond_true]
                    rw [w8, cond_true] at W8
                    obtain ⟨v, h1, ⟨rfl, X1, R1, q1⟩, G⟩ := mx_37 (i := 3) (top := 999) (by decide) H hr
                    obtain ⟨h2, P2, K2⟩ := ln_end R1 q1
                    exact .end none h2 ⟨rfl, P2⟩ fun d L xs o g Q T hq => sm_29 (W0.use (sm_29_6 (am_ift rfl (W1.use (sm_29_23 (am_ift rfl (W2.use (sm_29_40 (am_ift rfl (W3.use (sm_29_58 (am_ift rfl (W4.use (sm_29_76 (am_ift rfl (W5.use (sm_29_94 (am_ift rfl (W6.use (sm_29_114 (am_ift rfl (W7.use (sm_29_134 (am_ift rfl (W8.use (sm_29_153 (am_iff (by decide) (G (d + 0) L xs o g _ _ (sm_29_165 rfl (K2 hq))))))))))))))))))))))))))))))
                  | false =>
                    rw [cond_false]
                    rw [w8, cond_false] at W8
                    obtain ⟨h2, P2, K2⟩ := ln_end (r := (p, st, (1, Int32.ofNat (tkS (kdC h0) n p)))) (H.fail 1) hr
                    have f0 : h 1 3 = 0 := H.f
                    refine .end none h2 ⟨rfl, P2⟩ fun d L xs o g Q T hq => sm_29 (W0.use (sm_29_6 (am_ift rfl (W1.use (sm_29_23 (am_ift rfl (W2.use (sm_29_40 (am_ift rfl (W3.use (sm_29_58 (am_ift rfl (W4.use (sm_29_76 (am_ift rfl (W5.use (sm_29_94 (am_ift rfl (W6.use (sm_29_114 (am_ift rfl (W7.use (sm_29_134 (am_ift rfl (W8.use (sm_29_153 (am_ift rfl (am_ift f0 ?_))))))))))))))))))))))))))))
                    have := K2 (d := d + 2) (L := L) (xs := xs) (T := T) hq
                    by_cases c : h 1 7 = 3
                    · rw [if_pos (show (am_set (am_set h 1 3 1) 1 1 (h 1 6)) 1 7 = 3 from c)] at this
                      exact am_ift c this
                    · rw [if_neg (show ¬ (am_set (am_set h 1 3 1) 1 1 (h 1 6)) 1 7 = 3 from c), if_neg (show ¬ (am_set (am_set h 1 3 1) 1 1 (h 1 6)) 1 3 = 0 from (by decide : ¬ (1 : Int32) = 0))] at this
                      exact am_iff c this
end
