/-! ===== the abstract machine: bytecode over a heap of numbered cells, as a function ===== -/
abbrev am_M : Type := Nat → Nat → Int32
abbrev am_L : Type := Nat → Nat → Int64
/-- a cell: an array of numbers (kind, length); an array of references (kind, length, contents); an object (its number, its fields; none: a number, kept in am_M) -/
abbrev am_C : Type := (Nat × Nat) ⊕ ((Nat × Nat × (Nat → Option Nat)) ⊕ (Nat × List (Option Value)))
abbrev am_S : Type := List am_C
abbrev am_V : Type := List (Option Value)
/-- threw, or returned -/
abbrev am_O : Type := Nat ⊕ Option Value
def am_set (h : am_M) (k j : Nat) (x : Int32) : am_M := va_up h k (upd (h k) j x)
def am_setL (o : am_L) (k j : Nat) (x : Int64) : am_L := va_up o k (vp_updL (o k) j x)
def am_big : Nat := 1000000
def am_scr : Nat := 1000999
/-- storing into a local of one slot -/
def am_st1 (lv : am_V) (i : Nat) (v : Option Value) : am_V := lv.mapIdx fun j q => if j = i then v else if j + 1 = i then (match q with | some w => if w.category = 2 then none else q | none => none) else q
/-- storing into a local of two slots -/
def am_st2 (lv : am_V) (i : Nat) (v : Option Value) : am_V := lv.mapIdx fun j q => if j = i then v else if j = i + 1 then none else if j + 1 = i then (match q with | some w => if w.category = 2 then none else q | none => none) else q
def am_args : List Value → am_V
  | [] => []
  | v :: l => if v.category = 2 then some v :: none :: am_args l else some v :: am_args l
def am_ent (as : List Value) (n : Nat) : am_V := am_args as ++ List.replicate (n - (am_args as).length) none
def am_bin (a : Nat) (x y : Int32) : Option Int32 := match a with
  | 0 => some (x + y)
  | 1 => some (x - y)
  | 2 => some (x * y)
  | 3 => some (x &&& y)
  | 4 => some (x ||| y)
  | 5 => some (x ^^^ y)
  | 6 => some (x <<< (y &&& 31))
  | 7 => some (x >>> (y &&& 31))
  | 8 => some ((x.toUInt32 >>> (y.toUInt32 &&& Int32.toUInt32 31)).toInt32)
  | 9 => if y = 0 then none else some (x / y)
  | 10 => if y = 0 then none else some (x - x / y * y)
  | _ => none
def am_binL (a : Nat) (x y : Int64) : Option Int64 := match a with
  | 0 => some (x + y)
  | 1 => some (x - y)
  | 2 => some (x &&& y)
  | 3 => some (x ||| y)
  | _ => none
/-- the test of a branch -/
def am_cmp (a : Nat) (x y : Int32) : Bool := match a with
  | 0 => decide (x = y)
  | 1 => decide (¬ x = y)
  | 2 => decide (x < y)
  | 3 => decide (y ≤ x)
  | 4 => decide (y < x)
  | _ => decide (x ≤ y)
/-- what a step gives: the next state; a call (whose, its arguments, the rest of the stack); a return; a throw -/
abbrev am_R : Type := (Nat × am_V × List Value × am_S × am_M × am_L) ⊕ ((Nat × List Value × List Value) ⊕ (Option Value ⊕ Nat))
def am_bit (x : Int32) : Bool := decide (x = 0) || decide (x = 1)
/-- a new object's fields -/
def am_new (ci : Nat) : Option (List (Option Value)) := match am_cl[ci]? with
  | none => none
  | some q => some ((List.range q.2.2).map fun k => match parseFieldDescriptor (q.2.1 k).2.2.1 with
    | some (.object _) => some .null
    | some (.array _) => some .null
    | _ => none)
def am_zero (h : am_M) (k : Nat) : am_M := va_up h k (fun _ => 0)
def am_zeroL (o : am_L) (k : Nat) : am_L := va_up o k (fun _ => 0)
/-- the receiver is an object of its method's own kind; 8: there is none -/
def am_recv (r : Nat) (as : List Value) (S : am_S) : Bool := match r with
  | 8 => true
  | r => match as with
    | .ref k :: _ => match S[k]? with
      | some (.inr (.inr (ci, _))) => decide (ci = r ∧ k < am_big)
      | _ => false
    | _ => false
def am_step (L : Nat) (xs : Nat → Int32) (op a b c : Nat) (v : Int32) (lv : am_V) (st : List Value) (S : am_S) (h : am_M) (o : am_L) (g : Nat) : Option am_R := match op with
  | 0 => some (.inl (c, lv, .int v :: st, S, h, o))
  | 1 => match lv[a]? with
    | some (some (.int x)) => some (.inl (c, lv, .int x :: st, S, h, o))
    | _ => none
  | 2 => match lv[a]? with
    | some (some (.ref x)) => some (.inl (c, lv, .ref x :: st, S, h, o))
    | _ => none
  | 3 => match lv[a]? with
    | some (some (.long x)) => some (.inl (c, lv, .long x :: st, S, h, o))
    | _ => none
  | 4 => match st with
    | .int x :: r => if a < lv.length then some (.inl (c, am_st1 lv a (some (.int x)), r, S, h, o)) else none
    | _ => none
  | 5 => match st with
    | .ref x :: r => if a < lv.length then some (.inl (c, am_st1 lv a (some (.ref x)), r, S, h, o)) else none
    | _ => none
  | 6 => match st with
    | .long x :: r => if a + 1 < lv.length then some (.inl (c, am_st2 lv a (some (.long x)), r, S, h, o)) else none
    | _ => none
  | 7 => match st with
    | .int y :: .int x :: r => match am_bin a x y with
      | some z => some (.inl (c, lv, .int z :: r, S, h, o))
      | none => none
    | _ => none
  | 8 => match st with
    | .long y :: .long x :: r => match am_binL a x y with
      | some z => some (.inl (c, lv, .long z :: r, S, h, o))
      | none => none
    | _ => none
  | 9 => match lv[a]? with
    | some (some (.int x)) => some (.inl (c, am_st1 lv a (some (.int (x + v))), st, S, h, o))
    | _ => none
  | 10 => match st with
    | .int x :: r => some (.inl (bif am_cmp a x 0 then b else c, lv, r, S, h, o))
    | _ => none
  | 11 => match st with
    | .int y :: .int x :: r => some (.inl (bif am_cmp a x y then b else c, lv, r, S, h, o))
    | _ => none
  | 12 => some (.inl (b, lv, st, S, h, o))
  | 13 => match st with
    | .ref k :: r => match S[k]? with
      | some (.inr (.inr (ci, fl))) => if ci = a ∧ k < am_big then match fl[b]? with
        | some none => some (.inl (c, lv, .int (h k b) :: r, S, h, o))
        | some (some w) => some (.inl (c, lv, w :: r, S, h, o))
        | none => none else none
      | _ => none
    | _ => none
  | 14 => match st with
    | .int x :: .ref k :: r => match S[k]? with
      | some (.inr (.inr (ci, fl))) => if ci = a ∧ k < am_big ∧ fl[b]? = some none then some (.inl (c, lv, r, S, am_set h k b x, o)) else none
      | _ => none
    | _ => none
  | 15 => match st with
    | .int x :: .ref k :: r => match S[k]? with
      | some (.inr (.inr (ci, fl))) => if ci = a ∧ k < am_big ∧ fl[b]? = some none ∧ am_bit x = true then some (.inl (c, lv, r, S, am_set h k b x, o)) else none
      | _ => none
    | _ => none
  | 16 => match st with
    | .ref x :: .ref k :: r => match S[k]? with
      | some (.inr (.inr (ci, fl))) => if ci = a ∧ k < am_big ∧ b < fl.length then some (.inl (c, lv, r, S.set k (.inr (.inr (ci, fl.set b (some (.ref x))))), h, o)) else none
      | _ => none
    | _ => none
  | 17 => match st with
    | .int i :: .ref k :: r => if k = am_scr then (if i < 0 ∨ L ≤ i.toNatClampNeg then none else some (.inl (c, lv, .int (xs i.toNatClampNeg) :: r, S, h, o)))
      else match S[k]? with
        | some (.inl (0, n)) => if i < 0 ∨ n ≤ i.toNatClampNeg ∨ am_big ≤ k then none else some (.inl (c, lv, .int (h k i.toNatClampNeg) :: r, S, h, o))
        | _ => none
    | _ => none
  | 18 => match st with
    | .int i :: .ref k :: r => match S[k]? with
        | some (.inl (1, n)) => if i < 0 ∨ n ≤ i.toNatClampNeg ∨ am_big ≤ k then none else some (.inl (c, lv, .int (h k i.toNatClampNeg) :: r, S, h, o))
        | some (.inl (2, n)) => if i < 0 ∨ n ≤ i.toNatClampNeg ∨ am_big ≤ k then none else some (.inl (c, lv, .int (h k i.toNatClampNeg) :: r, S, h, o))
        | _ => none
    | _ => none
  | 20 => match st with
    | .int i :: .ref k :: r => match S[k]? with
        | some (.inr (.inl (t, n, f))) => if i < 0 ∨ n ≤ i.toNatClampNeg ∨ am_big ≤ k ∨ ¬ (t = 4 ∨ t = 5) then none else match f i.toNatClampNeg with
          | some y => some (.inl (c, lv, .ref y :: r, S, h, o))
          | none => none
        | _ => none
    | _ => none
  | 21 => match st with
    | .int i :: .ref k :: r => match S[k]? with
        | some (.inl (3, n)) => if i < 0 ∨ n ≤ i.toNatClampNeg ∨ am_big ≤ k then none else some (.inl (c, lv, .long (o k i.toNatClampNeg) :: r, S, h, o))
        | _ => none
    | _ => none
  | 22 => match st with
    | .int x :: .int i :: .ref k :: r => match S[k]? with
        | some (.inl (0, n)) => if i < 0 ∨ n ≤ i.toNatClampNeg ∨ am_big ≤ k then none else some (.inl (c, lv, r, S, am_set h k i.toNatClampNeg x, o))
        | _ => none
    | _ => none
  | 23 => match st with
    | .int x :: .int i :: .ref k :: r => match S[k]? with
        | some (.inl (1, n)) => if i < 0 ∨ n ≤ i.toNatClampNeg ∨ am_big ≤ k then none else some (.inl (c, lv, r, S, am_set h k i.toNatClampNeg (vp_nar .byte x), o))
        | some (.inl (2, n)) => if i < 0 ∨ n ≤ i.toNatClampNeg ∨ am_big ≤ k then none else some (.inl (c, lv, r, S, am_set h k i.toNatClampNeg (vp_nar .boolean x), o))
        | _ => none
    | _ => none
  | 25 => match st with
    | .ref y :: .int i :: .ref k :: r => match S[k]? with
        | some (.inr (.inl (5, n, f))) => if i < 0 ∨ n ≤ i.toNatClampNeg ∨ am_big ≤ k ∨ y < am_big ∨ am_big + 22 ≤ y then none else some (.inl (c, lv, r, S.set k (.inr (.inl (5, n, va_up f i.toNatClampNeg (some y)))), h, o))
        | _ => none
    | _ => none
  | 26 => match st with
    | .long x :: .int i :: .ref k :: r => match S[k]? with
        | some (.inl (3, n)) => if i < 0 ∨ n ≤ i.toNatClampNeg ∨ am_big ≤ k then none else some (.inl (c, lv, r, S, h, am_setL o k i.toNatClampNeg x))
        | _ => none
    | _ => none
  | 27 => match st with
    | .ref k :: r => if k = am_scr then some (.inl (c, lv, .int (Int32.ofNat L) :: r, S, h, o)) else if am_big ≤ k then none else match S[k]? with
        | some (.inl (t, n)) => if t < 4 then some (.inl (c, lv, .int (Int32.ofNat n) :: r, S, h, o)) else none
        | some (.inr (.inl (t, n, _))) => if t = 4 ∨ t = 5 then some (.inl (c, lv, .int (Int32.ofNat n) :: r, S, h, o)) else none
        | _ => none
    | _ => none
  | 28 => match st with
    | w :: r => if w.category = 1 then some (.inl (c, lv, w :: w :: r, S, h, o)) else none
    | _ => none
  | 29 => match st with
    | w :: u :: r => if w.category = 1 ∧ u.category = 1 then some (.inl (c, lv, w :: u :: w :: u :: r, S, h, o)) else none
    | _ => none
  | 30 => match st with
    | w :: r => if w.category = 1 then some (.inl (c, lv, r, S, h, o)) else none
    | _ => none
  | 31 => some (.inl (c, lv, .long (Int64.ofNat a) :: st, S, h, o))
  | 32 => match st with
    | .int x :: r => some (.inl (c, lv, .long x.toInt64 :: r, S, h, o))
    | _ => none
  | 33 => match st with
    | .int y :: .long x :: r => some (.inl (c, lv, .long (x <<< (y.toInt64 &&& 63)) :: r, S, h, o))
    | _ => none
  | 34 => match st with
    | .long y :: .long x :: r => some (.inl (c, lv, .int (lg_cmp x y) :: r, S, h, o))
    | _ => none
  | 35 => match st with
    | .int x :: r => some (.inl (c, lv, .int x.toInt8.toInt32 :: r, S, h, o))
    | _ => none
  | 36 => if b ≤ st.length ∧ ((st.drop b).map fun w => w.category).sum ≤ 8 ∧ (am_args (st.take b).reverse).length ≤ am_ml a ∧ am_recv (am_rc a) (st.take b).reverse S = true then some (.inr (.inl (a, (st.take b).reverse, st.drop b))) else none
  | 53 => if b ≤ st.length ∧ ((st.drop b).map fun w => w.category).sum ≤ 8 ∧ (am_args (st.take b).reverse).length ≤ am_ml a ∧ am_recv (am_rc a) (st.take b).reverse S = true then some (.inr (.inl (a, (st.take b).reverse, st.drop b))) else none
  | 37 => match am_new a with
    | some fl => if g = 0 ∧ S.length < am_big then some (.inl (c, lv, .ref S.length :: st, S ++ [.inr (.inr (a, fl))], am_zero h S.length, o)) else none
    | none => none
  | 38 => match st with
    | .int n :: r => if g = 0 ∧ S.length < am_big ∧ ¬ n < 0 ∧ n.toNatClampNeg ≤ 1000 ∧ a < 4 then some (.inl (c, lv, .ref S.length :: r, S ++ [.inl (a, n.toNatClampNeg)], am_zero h S.length, am_zeroL o S.length)) else none
    | _ => none
  | 39 => match st with
    | .int n :: r => if g = 0 ∧ S.length < am_big ∧ ¬ n < 0 ∧ n.toNatClampNeg ≤ 1000 then some (.inl (c, lv, .ref S.length :: r, S ++ [.inr (.inl (5, n.toNatClampNeg, fun _ => none))], h, o)) else none
    | _ => none
  | 40 => match st with
    | .int k :: .int n :: r => if g = 0 ∧ S.length + 10 < am_big ∧ n = 5 ∧ k = 15 then some (.inl (c, lv, .ref S.length :: r, S ++ (.inr (.inl (4, 5, fun j => if j < 5 then some (S.length + 1 + j) else none)) :: List.replicate 5 (.inl (0, 15))), am_zero (am_zero (am_zero (am_zero (am_zero h (S.length + 1)) (S.length + 2)) (S.length + 3)) (S.length + 4)) (S.length + 5), o)) else none
    | _ => none
  | 41 => match st with
    | [.int x] => some (.inr (.inr (.inl (some (.int x)))))
    | _ => none
  | 42 => match st with
    | [.int x] => if am_bit x = true then some (.inr (.inr (.inl (some (.int x))))) else none
    | _ => none
  | 43 => match st with
    | [.ref x] => some (.inr (.inr (.inl (some (.ref x)))))
    | _ => none
  | 44 => match st with
    | [] => some (.inr (.inr (.inl none)))
    | _ => none
  | 45 => if (st.map fun w => w.category).sum ≤ 8 then some (.inr (.inr (.inr a))) else none
  | 46 => some (.inl (c, lv, .ref (am_big + a) :: st, S, h, o))
  | 47 => match a, st with
    | 0, .int y :: .int x :: r => if (r.map fun w => w.category).sum ≤ 8 then some (.inl (c, lv, .int (if x < y then y else x) :: r, S, h, o)) else none
    | 1, .int y :: .int x :: r => if (r.map fun w => w.category).sum ≤ 8 then some (.inl (c, lv, .int (if y < x then y else x) :: r, S, h, o)) else none
    | 2, .int x :: r => if (r.map fun w => w.category).sum ≤ 8 then some (.inl (c, lv, .int (if 0 ≤ x then x else 0 - x) :: r, S, h, o)) else none
    | _, _ => none
  | 48 => match st with
    | .int n :: .int dp :: .ref k1 :: .int sp :: .ref k0 :: r => match S[k0]?, S[k1]? with
      | some (.inl (0, n0)), some (.inl (0, n1)) => if ¬ sp < 0 ∧ ¬ dp < 0 ∧ ¬ n < 0 ∧ sp.toNatClampNeg + n.toNatClampNeg ≤ n0 ∧ dp.toNatClampNeg + n.toNatClampNeg ≤ n1 ∧ k0 < am_big ∧ k1 < am_big ∧ (r.map fun w => w.category).sum ≤ 8 then
          some (.inl (c, lv, r, S, va_up h k1 (va_cpy (h k0) (h k1) sp.toNatClampNeg dp.toNatClampNeg n.toNatClampNeg), o)) else none
      | _, _ => none
    | _ => none
  | 49 => match st with
    | .ref k :: r => if am_big ≤ k ∧ k < am_big + 22 ∧ (r.map fun w => w.category).sum ≤ 8 then some (.inl (c, lv, .int (Int32.ofNat (am_txt (k - am_big)).length) :: r, S, h, o)) else none
    | _ => none
  | 50 => match st with
    | .int i :: .ref k :: r => if am_big ≤ k ∧ k < am_big + 22 ∧ ¬ i < 0 ∧ i.toNatClampNeg < (am_txt (k - am_big)).length ∧ (r.map fun w => w.category).sum ≤ 8 then some (.inl (c, lv, .int ((am_txt (k - am_big)).getD i.toNatClampNeg 0) :: r, S, h, o)) else none
    | _ => none
  | 51 => match st with
    | .ref _ :: r => if (r.map fun w => w.category).sum ≤ 8 then some (.inl (c, lv, r, S, h, o)) else none
    | _ => none
  | 52 => match st with
    | .int x :: r => if x.toInt < (am_sw a).1 ∨ (am_sw a).2.1 < x.toInt then some (.inl ((am_sw a).2.2.1, lv, r, S, h, o)) else match (am_sw a).2.2.2[(x.toInt - (am_sw a).1).toNat]? with
      | some t => some (.inl (t, lv, r, S, h, o))
      | none => none
    | _ => none
  | _ => none
/-- the handler that takes E at pc: where it goes on behind its own store, and the variable that it stores to -/
def am_hand : List (Nat × Nat × Nat × Nat × Nat) → Nat → Nat → Option (Nat × Nat)
  | [], _, _ => none
  | (f, t, E', n, k) :: l, pc, E => if f ≤ pc ∧ pc < t ∧ E' = E then some (n, k) else am_hand l pc E
/-- n steps at most, d calls deep at most -/
def am_run (L : Nat) (xs : Nat → Int32) : Nat → Nat → Nat → Nat → am_V → List Value → am_S → am_M → am_L → Nat → Option (am_O × am_S × am_M × am_L × Nat)
  | 0, _, _, _, _, _, _, _, _, _ => none
  | n + 1, d, mi, pc, lv, st, S, h, o, g => match am_P mi pc with
    | none => none
    | some (op, a, b, c, v) => match am_step L xs op a b c v lv st S h o g with
      | none => none
      | some (.inl (pc', lv', st', S', h', o')) => am_run L xs n d mi pc' lv' st' S' h' o' g
      | some (.inr (.inl (mj, as, r))) => match d with
        | 0 => none
        | d' + 1 => match am_run L xs n d' mj 0 (am_ent as (am_ml mj)) [] S h o g with
          | none => none
          | some (.inr w, S', h', o', g') => am_run L xs n (d' + 1) mi c lv (w.toList ++ r) S' h' o' g'
          | some (.inl E, S', h', o', g') => if op = 53 then none else match am_hand (am_hd mi) pc E with
            | none => some (.inl E, S', h', o', g')
            | some (pc', k) => am_run L xs n (d' + 1) mi pc' (am_st1 lv k none) [] S' h' o' g'
      | some (.inr (.inr (.inl w))) => some (.inr w, S, h, o, g)
      | some (.inr (.inr (.inr E))) => some (.inl E, S, h, o, g + 1)
