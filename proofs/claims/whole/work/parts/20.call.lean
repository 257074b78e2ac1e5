/-! ===== calls ===== -/
def am_cw (mi : Nat) : Cond := match am_hh mi with
    | [] => .code (am_y mi) (am_code mi) (am_ml mi) (am_ret mi)
    | x :: hh => .codeWith (am_y mi) (am_code mi) (am_ml mi) (am_ret mi) (x :: hh)
/-- what the checks say -/
def am_OK : Prop := (∀ mi pc e, mi < am_num → am_P mi pc = some e → am_okE mi pc e = true) ∧ (∀ mi, mi ≠ 0 → mi < am_num → am_cw mi ∈ am_W ∧ am_okM mi = true) ∧ ∀ mi, mi < am_num → am_okH mi = true
theorem am_mono {L : Nat} {xs : Nat → Int32} : ∀ (n : Nat) {d mi pc : Nat} {lv : am_V} {st : List Value} {S : am_S} {h : am_M} {o : am_L} {g : Nat} {out : am_O} {S' : am_S} {h' : am_M} {o' : am_L} {g' : Nat}, am_run L xs n d mi pc lv st S h o g = some (out, S', h', o', g') → S.length ≤ S'.length ∧ (S.map am_csz).sum ≤ (S'.map am_csz).sum ∧ g ≤ g' := by
  intro n
  induction n with
  | zero => intro d mi pc lv st S h o g out S' h' o' g' hr; simp only [am_run] at hr; cases hr
  | succ n ih =>
    intro d mi pc lv st S h o g out S' h' o' g' hr
    simp only [am_run] at hr
    split at hr
    · cases hr
    · split at hr
      · cases hr
      · rename_i hs
        have h1 := am_step_mono hs
        have h2 := ih hr
        exact ⟨Nat.le_trans h1.1 h2.1, Nat.le_trans h1.2 h2.2.1, h2.2.2⟩
      · split at hr
        · cases hr
        · split at hr
          · cases hr
          · rename_i hc
            have h1 := ih hc
            have h2 := ih hr
            exact ⟨Nat.le_trans h1.1 h2.1, Nat.le_trans h1.2.1 h2.2.1, Nat.le_trans h1.2.2 h2.2.2⟩
          · rename_i hc
            have h1 := ih hc
            split at hr
            · cases hr
            · split at hr
              · cases hr
                exact h1
              · have h2 := ih hr
                exact ⟨Nat.le_trans h1.1 h2.1, Nat.le_trans h1.2.1 h2.2.1, Nat.le_trans h1.2.2 h2.2.2⟩
      · cases hr
        exact ⟨Nat.le_refl _, Nat.le_refl _, Nat.le_refl _⟩
      · cases hr
        exact ⟨Nat.le_refl _, Nat.le_refl _, Nat.le_succ _⟩
def am_Sim (l : Launch) (n0 : Nat) (old : Nat → Nat) (D : va_G) (cA : Nat → ClassId) (L : Nat) (xs : Nat → Int32) (n : Nat) : Prop :=
  ∀ (d mi pc : Nat) (lv : am_V) (st : List Value) (S : am_S) (h : am_M) (o : am_L) (g : Nat) (out : am_O) (S' : am_S) (h' : am_M) (o' : am_L) (g' : Nat), am_run L xs n d mi pc lv st S h o g = some (out, S', h', o', g') →
  ∀ (p : Program) (e : Env) (R : Room) (s : State) (m : MethodId) (args : Array Value) (below : List Frame) (meth : Method) (c : Code) (c0 z0 : Nat), mi < am_num → am_B p s m args meth c mi → am_K n0 old D cA L xs s → (g = 0 → s.heap.size = n0 + c0) →
    d + 10 ≤ R.frames → 40 * d + 200 ≤ R.locals → am_ct S' g' - c0 ≤ R.cells → am_sz S' g' - z0 ≤ R.slots →
    am_G p l e R s m args below meth c (vx_MQ below (am_Qc n0 old D cA out S' h' o') (am_XC n0 old D cA out S' h' o') args s (am_ct S' g' - c0) (am_sz S' g' - z0) (am_A n0)) n0 old D cA mi c0 z0 g pc lv st S h o
abbrev am_Pc (n0 : Nat) (old : Nat → Nat) (D : va_G) (cA : Nat → ClassId) (L : Nat) (xs : Nat → Int32) (as : List Value) (S : am_S) (h : am_M) (o : am_L) (g : Nat) : Array Value → State → Prop := va_Pc (as.map (am_v (am_r n0 old))) (fun U => am_K n0 old D cA L xs U ∧ va_P D am_cl (am_ws (am_r n0 old) cA S h o) U.heap ∧ (g = 0 → U.heap.size = n0 + am_ct S g))
abbrev am_rm (d : Nat) (S S1 : am_S) (g g1 : Nat) : Room := { frames := d + 10, cells := am_ct S1 g1 - am_ct S g, slots := am_sz S1 g1 - am_sz S g, locals := 40 * d + 200 }
theorem am_cblind {n0 : Nat} {old : Nat → Nat} {D : va_G} {cA : Nat → ClassId} {L : Nat} {xs : Nat → Int32} {as : List Value} {S : am_S} {h : am_M} {o : am_L} {g : Nat} : FrameBlind (am_Pc n0 old D cA L xs as S h o g) := by
  intro a U g' mk q
  exact ⟨q.1, am_K.move (U := U.calling g' mk a) q.2.1 (State.WarmedH.refl U) (locs := []) (show va_S (am_A n0) U.heap U.heap [] from va_S.rf), q.2.2.1, q.2.2.2⟩
section AMC
variable {l : Launch} {n0 : Nat} {old : Nat → Nat} {D : va_G} {cA : Nat → ClassId} {L : Nat} {xs : Nat → Int32} {n d mj : Nat} {as : List Value} {S S1 : am_S} {h h1 : am_M} {o o1 : am_L} {g g1 : Nat} {out : am_O}
theorem am_met (hok : am_OK) (ih : am_Sim l n0 old D cA L xs n) (hr : am_run L xs n d mj 0 (am_ent as (am_ml mj)) [] S h o g = some (out, S1, h1, o1, g1)) (hm0 : mj ≠ 0) (hmn : mj < am_num) (hlen : (am_args as).length ≤ am_ml mj) (hbg : S.length ≤ am_big) :
    vx_Met l (am_y mj) (am_cw mj :: am_W) (am_rm d S S1 g g1) (am_Pc n0 old D cA L xs as S h o g) (am_Qc n0 old D cA out S1 h1 o1) (am_XC n0 old D cA out S1 h1 o1) (am_ct S1 g1 - am_ct S g) (am_sz S1 g1 - am_sz S g) (am_A n0) := by
  obtain ⟨hcw, hM⟩ := hok.2.1 mj hm0 hmn
  simp only [am_okM, Bool.and_eq_true, decide_eq_true_eq] at hM
  have hpl : plainName (am_y mj).cls = true := hM.2.1
  have body : ∀ (p : Program) (e : Env) (s : State) (m : MethodId) (args : Array Value) (below : List Frame) (meth : Method) (c : Code) (s₁ : State), BodyLoose p l (am_y mj) (headSpec (am_cw mj :: am_W) (am_rm d S S1 g g1)) (am_code mj) (am_ml mj) (am_ret mj) e s m args below meth c s₁ → c.maxLocals = am_ml mj → c.exceptionTable.toList = tableOf (am_hh mj) → am_Pc n0 old D cA L xs as S h o g args s →
      W p l e (am_rm d S S1 g g1) s m args below meth c s.heap [] 0 0 (vx_MQ below (am_Qc n0 old D cA out S1 h1 o1) (am_XC n0 old D cA out S1 h1 o1) args s (am_ct S1 g1 - am_ct S g) (am_sz S1 g1 - am_sz S g) (am_A n0)) (entryFrame m args (am_ml mj)) := by
    intro p e s m args below meth c s₁ B hml htab hPc
    obtain ⟨rfl, hK, hP, hsz⟩ := hPc
    have hts := atoms_spec (ws := am_cw mj :: am_W) B.pre
    have hB : am_B p s m (as.map (am_v (am_r n0 old))).toArray meth c mj := ⟨B.exec, B.bytes, hml, findClass_of_methodNamed B.named, fun w hw => hts w (List.mem_cons_of_mem _ hw), B.returns, B.notSynchronized, fun _ => (name_of_methodNamed B.named B.method).1, htab⟩
    rw [lg_entry_eq]
    have k := ih d mj 0 (am_ent as (am_ml mj)) [] S h o g out S1 h1 o1 g1 hr p e (am_rm d S S1 g g1) s m (as.map (am_v (am_r n0 old))).toArray below meth c (am_ct S g) (am_sz S g) hmn hB hK hsz (Nat.le_refl _) (Nat.le_refl _) (Nat.le_refl _) (Nat.le_refl _) s.heap [] _ hP va_S.rf (am_entry (r := am_r n0 old) hlen) hbg (Nat.le_refl _) (Nat.le_refl _)
    rw [Nat.sub_self, Nat.sub_self] at k
    exact k
  cases hh : am_hh mj with
  | nil =>
    have e1 : am_cw mj = .code (am_y mj) (am_code mj) (am_ml mj) (am_ret mj) := by simp only [am_cw, hh]
    refine vx_ofW (cc := am_code mj) (maxL := am_ml mj) (ret := am_ret mj) hpl (by rw [e1]) ?_
    intro p e s m args below meth c s₁ B hml hex hPc
    refine body p e s m args below meth c s₁ B hml ?_ hPc
    rw [hh]
    cases ht : c.exceptionTable.toList with
    | nil => rfl
    | cons x r => exact (hex x (by rw [ht]; exact List.mem_cons_self)).elim
  | cons x r =>
    have e1 : am_cw mj = .codeWith (am_y mj) (am_code mj) (am_ml mj) (am_ret mj) (am_hh mj) := by simp only [am_cw, hh]
    refine vx_ofWH (cc := am_code mj) (maxL := am_ml mj) (ret := am_ret mj) (hh := am_hh mj) hpl (by rw [e1]) ?_
    intro p e s m args below meth c s₁ B hml hPc
    refine body p e s m args below meth c s₁ B hml ?_ hPc
    exact vx_table (x := am_y mj) B (e1 ▸ atoms_spec (ws := am_cw mj :: am_W) B.pre _ List.mem_cons_self)
theorem am_metR {w : Option Value} {y : MethodName} {ws : List Cond} {rm : Room} {Pc : Array Value → State → Prop} {mc ms : Nat} (hM : vx_Met l y ws rm Pc (am_Qc n0 old D cA (.inr w) S1 h1 o1) (am_XC n0 old D cA (.inr w) S1 h1 o1) mc ms (am_A n0)) : Met l y ws rm Pc (am_Qc n0 old D cA (.inr w) S1 h1 o1) mc ms (am_A n0) := by
  intro p e ha hc hk s m args below hf happ hP hKK
  obtain ⟨k, oc, q1, q2, q3, q4⟩ := hM p e ha hc hk s m args below hf happ hP hKK
  refine ⟨k, oc, q1, q2, q3, ?_⟩
  rcases q4 with q4 | ⟨q, -, E, ce, Lc, ⟨⟨k, hk, -⟩, -⟩, -⟩
  · exact q4
  · cases hk
end AMC
section AMD
variable {p : Program} {l : Launch} {e : Env} {R : Room} {s : State} {m : MethodId} {args : Array Value} {below : List Frame} {meth : Method} {c : Code} {H : Heap} {locs : List Loc} {Q : State → Prop} {n0 : Nat} {old : Nat → Nat} {D : va_G} {cA : Nat → ClassId} {c0 z0 g g1 pc : Nat} {S S1 : am_S} {h1 : am_M} {o1 : am_L} {out : am_O} {ls : Array Slot} {st0 rest : List Value} {a : Array Value}
theorem am_after (hrun : vx_Run p l e R s m args below meth c H locs (am_ct S g - c0) (am_sz S g - z0) (am_ct S1 g1 - am_ct S g) (am_sz S1 g1 - am_sz S g) (F0 m pc ls st0) rest (am_Qc n0 old D cA out S1 h1 o1 a) (am_XC n0 old D cA out S1 h1 o1) (am_A n0))
    (hS : va_S (am_A n0) s.heap H locs) (hc0 : c0 ≤ am_ct S g) (hz0 : z0 ≤ am_sz S g) (hm1 : am_ct S g ≤ am_ct S1 g1) (hm2 : am_sz S g ≤ am_sz S1 g1)
    (kr : ∀ w : Option Value, out = .inr w → ∀ (H1 : Heap) (locs1 : List Loc), va_P D am_cl (am_ws (am_r n0 old) cA S1 h1 o1) H1 → va_S (am_A n0) s.heap H1 locs1 → W p l e R s m args below meth c H1 locs1 (am_ct S1 g1 - c0) (am_sz S1 g1 - z0) Q (F0 m (pc + 3) ls ((w.map (am_v (am_r n0 old))).toList ++ rest)))
    (kx : ∀ k : Nat, out = .inl k → k < 2 → ∀ (H1 : Heap) (locs1 : List Loc) (q : Addr) (ce : Cell), va_P D am_cl (am_ws (am_r n0 old) cA S1 h1 o1) H1 → va_S (am_A n0) s.heap H1 locs1 → H1[q]? = some ce → ce.vm = .none → s.vm.findClass (am_exc k) = some ce.cls → vx_W p l e R s m args below meth c H1 locs1 (am_ct S1 g1 - c0) (am_sz S1 g1 - z0) Q (F0 m pc ls rest) q) :
    W p l e R s m args below meth c H locs (am_ct S g - c0) (am_sz S g - z0) Q (F0 m pc ls st0) := by
  intro T hT X
  have ec : am_ct S g - c0 + (am_ct S1 g1 - am_ct S g) = am_ct S1 g1 - c0 := by omega
  have ez : am_sz S g - z0 + (am_sz S1 g1 - am_sz S g) = am_sz S1 g1 - z0 := by omega
  rcases hrun T hT X with ⟨v, st₀, t, T', Lc, h0, X', hL, e1, e2, ⟨⟨w, hw, hv⟩, hP1, hF⟩, st⟩ | ⟨q, st₀, t, T', Lc, E, ce, h0, X', hL, e1, e2, ⟨⟨k, hk, hE, hk2⟩, hP1, hF⟩, hce, hcv, hcl, st⟩
  · cases hv
    rw [ec, ez] at X'
    obtain ⟨k1, k2, k3⟩ := vx_keep h0 e1 hS (fun q _ hq => hq) (fun q hq => hq) hL hF
    obtain ⟨t2, a1, b1⟩ := kr w hw T'.heap (locs ++ Lc) (by rw [e1]; exact hP1) k3 T' rfl X'
    exact ⟨t2, st t2 a1, b1⟩
  · rw [ec, ez] at X'
    subst hE
    obtain ⟨k1, k2, k3⟩ := vx_keep h0 e1 hS (fun q _ hq => hq) (fun q hq => hq) hL hF
    obtain ⟨t2, a1, b1⟩ := kx k hk hk2 T'.heap (locs ++ Lc) q ce (by rw [e1]; exact hP1) k3 (by rw [e1]; exact hce) hcv hcl T' rfl X'
    exact ⟨t2, st.trans a1, b1⟩
theorem am_afterI {w : Option Value} (hrun : va_Run p l e R s m args below meth c H locs (am_ct S g - c0) (am_sz S g - z0) (am_ct S1 g1 - am_ct S g) (am_sz S1 g1 - am_sz S g) (F0 m pc ls st0) rest (am_Qc n0 old D cA (.inr w) S1 h1 o1 a) (am_A n0))
    (hS : va_S (am_A n0) s.heap H locs) (hc0 : c0 ≤ am_ct S g) (hz0 : z0 ≤ am_sz S g) (hm1 : am_ct S g ≤ am_ct S1 g1) (hm2 : am_sz S g ≤ am_sz S1 g1)
    (kr : ∀ (H1 : Heap) (locs1 : List Loc), va_P D am_cl (am_ws (am_r n0 old) cA S1 h1 o1) H1 → va_S (am_A n0) s.heap H1 locs1 → W p l e R s m args below meth c H1 locs1 (am_ct S1 g1 - c0) (am_sz S1 g1 - z0) Q (F0 m (pc + 3) ls ((w.map (am_v (am_r n0 old))).toList ++ rest))) :
    W p l e R s m args below meth c H locs (am_ct S g - c0) (am_sz S g - z0) Q (F0 m pc ls st0) := by
  intro T hT X
  have ec : am_ct S g - c0 + (am_ct S1 g1 - am_ct S g) = am_ct S1 g1 - c0 := by omega
  have ez : am_sz S g - z0 + (am_sz S1 g1 - am_sz S g) = am_sz S1 g1 - z0 := by omega
  obtain ⟨v, st₀, t, T', Lc, h0, X', hL, e1, e2, ⟨⟨w', hw, hv⟩, hP1, hF⟩, st⟩ := hrun T hT X
  cases hw
  cases hv
  rw [ec, ez] at X'
  obtain ⟨k1, k2, k3⟩ := vx_keep h0 e1 hS (fun q _ hq => hq) (fun q hq => hq) hL hF
  obtain ⟨t2, a1, b1⟩ := kr T'.heap (locs ++ Lc) (by rw [e1]; exact hP1) k3 T' rfl X'
  exact ⟨t2, st t2 a1, b1⟩
end AMD
