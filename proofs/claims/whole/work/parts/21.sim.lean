/-! ===== the abstract machine is sound ===== -/
set_option maxRecDepth 100000 in
theorem am_nestall : ∀ u ∈ lw_tbl, (match u with | .methodLinkNest _ _ _ _ => decide (u ∈ am_nw) | _ => true) = true := by
  have h : (lw_tbl.all fun u => match u with | .methodLinkNest _ _ _ _ => decide (u ∈ am_nw) | _ => true) = true := by decide +kernel
  exact List.all_eq_true.mp h
section AMS2
variable {p : Program} {l : Launch} {e : Env} {R : Room} {s : State} {m : MethodId} {args : Array Value} {below : List Frame} {meth : Method} {c : Code} {H : Heap} {locs : List Loc} {n0 : Nat} {old : Nat → Nat} {D : va_G} {cA : Nat → ClassId} {L : Nat} {xs : Nat → Int32} {mi c0 z0 g g1 pc d : Nat} {S S1 : am_S} {h h1 : am_M} {o o1 : am_L} {out : am_O} {ls : Array Slot} {as rest : List Value} {a b : Nat} {v : Int32}
/-- what a call needs of its place -/
theorem am_pre {as : List Value} (K : am_K n0 old D cA L xs s) (hP : va_P D am_cl (am_ws (am_r n0 old) cA S h o) H) (hS : va_S (am_A n0) s.heap H locs) (hsz : g = 0 → H.size = n0 + am_ct S g) : ∀ U : State, U.heap = H → s.WarmedH U.vm → am_Pc n0 old D cA L xs as S h o g (as.map (am_v (am_r n0 old))).toArray U := fun U hU hW =>
  ⟨rfl, am_K.move K hW (locs := locs) (by rw [hU]; exact hS), by rw [hU]; exact hP, by rw [hU]; exact hsz⟩
theorem am_words {a : Nat} (hok : am_OK) (h0 : a ≠ 0) (hn : a < am_num) : ∀ w ∈ am_cw a :: am_W, w ∈ am_W := fun w hw => by
  rcases List.mem_cons.mp hw with rfl | hw
  · exact (hok.2.1 a h0 hn).1
  · exact hw
theorem am_runV {j x : Nat} (hok : am_OK) (B : am_B p s m args meth c mi) (K : am_K n0 old D cA L xs s) (h0 : a ≠ 0) (hn : a < am_num) (okV : am_okV mi x j a b = true) (hd : decode (am_code mi) pc = .ok (.invokevirtual x, 3))
    (hM : vx_Met l (am_y a) (am_cw a :: am_W) (am_rm d S S1 g g1) (am_Pc n0 old D cA L xs as S h o g) (am_Qc n0 old D cA out S1 h1 o1) (am_XC n0 old D cA out S1 h1 o1) (am_ct S1 g1 - am_ct S g) (am_sz S1 g1 - am_sz S g) (am_A n0))
    (hlen : as.length = b) (hrecv : am_recv (am_rc a) as S = true) (hsum : (rest.map fun w => w.category).sum ≤ 8) (hl : ls.size = am_ml mi) (hP : va_P D am_cl (am_ws (am_r n0 old) cA S h o) H) (hS : va_S (am_A n0) s.heap H locs) (hsz : g = 0 → H.size = n0 + am_ct S g)
    (hRf : d + 1 + 10 ≤ R.frames) (hRl : 40 * (d + 1) + 200 ≤ R.locals) (hRc : am_ct S g - c0 + (am_ct S1 g1 - am_ct S g) ≤ R.cells) (hRs : am_sz S g - z0 + (am_sz S1 g1 - am_sz S g) ≤ R.slots) :
    vx_Run p l e R s m args below meth c H locs (am_ct S g - c0) (am_sz S g - z0) (am_ct S1 g1 - am_ct S g) (am_sz S1 g1 - am_sz S g) (F0 m pc ls ((as.map (am_v (am_r n0 old))).reverse ++ rest.map (am_v (am_r n0 old)))) (rest.map (am_v (am_r n0 old))) (am_Qc n0 old D cA out S1 h1 o1 (as.map (am_v (am_r n0 old))).toArray) (am_XC n0 old D cA out S1 h1 o1) (am_A n0) := by
  obtain ⟨hx, hb, hml, hown, hts, hr, hlk, hnm, htab⟩ := B
  obtain ⟨hcw, hMo⟩ := hok.2.1 a h0 hn
  simp only [am_okM, Bool.and_eq_true, decide_eq_true_eq] at hMo
  obtain ⟨hini, -, hnh, hnv, hml13, hrc, -⟩ := hMo
  simp only [am_okV, Bool.and_eq_true, decide_eq_true_eq] at okV
  obtain ⟨⟨hhh, hlink⟩, hinst, hsel, hpar⟩ := okV
  have ecw : am_cw a = .code (am_y a) (am_code a) (am_ml a) (am_ret a) := by simp only [am_cw, hhh]
  have hr8 : am_rc a ≠ 8 := by
    intro h8
    rw [h8] at hrc
    have h9 := hts _ (am_W_of hrc)
    have h10 := hts _ (am_W_of hinst)
    obtain ⟨mk, methM, hnamed, hmethM, hstM, -⟩ := Cond.instanceMethod_spec h10
    have := Cond.static_spec hnamed hmethM h9
    rw [hstM] at this
    cases this
  unfold am_recv at hrecv
  split at hrecv
  · rename_i h8; exact absurd h8 hr8
  · split at hrecv
    · rename_i k as'
      split at hrecv
      · rename_i ci fl hk
        simp only [decide_eq_true_eq] at hrecv
        obtain ⟨hci, hkb⟩ := hrecv
        have hrc2 : am_Cn (am_rc a) = am_own a ∧ am_rc a < 8 := by
          split at hrc
          · rename_i h8; exact absurd h8 hr8
          · simpa [Bool.and_eq_true, decide_eq_true_eq] using hrc
        obtain ⟨q, hq⟩ : ∃ q, am_cl[ci]? = some q := ⟨_, List.getElem?_eq_getElem (show ci < am_cl.length by rw [hci]; exact hrc2.2)⟩
        have hqn : q.1 = am_own a := by
          rw [← hrc2.1, ← hci]
          simp [am_Cn, List.getD_eq_getElem?_getD, hq]
        have hrv := va_recv K.1 hP hq (am_ws_get (r := am_r n0 old) (cA := cA) (h := h) (o := o) hk)
        rw [hqn] at hrv
        have hb1 : as'.length + 1 = b := hlen
        have hpar2 : (parseMethodDescriptor (am_y a).desc).map (fun q => q.parameters.length) = some as'.length := by
          cases hpp : parseMethodDescriptor (am_y a).desc with
          | none => rw [hpp] at hpar; cases hpar
          | some sig =>
            rw [hpp] at hpar
            simp only [Option.map_some, Option.some.injEq] at hpar ⊢
            omega
        have hrun := vx_runV (p := p) (e := e) (below := below) (meth := meth) (locs := locs) (cells := am_ct S g - c0) (slots := am_sz S g - z0) (As := as'.map (am_v (am_r n0 old))) (rest := rest.map (am_v (am_r n0 old))) (g := F0 m pc ls (((Value.ref k :: as').map (am_v (am_r n0 old))).reverse ++ rest.map (am_v (am_r n0 old)))) (b := am_r n0 old k) ⟨hx, hb, hml, hown, hts⟩ hM
          (cwV as'.length hts (am_W_good (fun w hw => by
            simp only [wsV, List.mem_append, List.mem_cons, List.not_mem_nil, or_false] at hw
            rcases hw with (rfl | rfl | rfl | rfl) | rfl | hw
            · exact am_W_of hlink
            · exact am_W_of hinst
            · exact am_W_of hsel
            · exact am_W_of hini
            · exact hcw
            · exact hw)) (by rw [ecw]) rfl rfl ⟨rfl, hnh, hnv, hpar2⟩ ⟨by show d + 10 + 1 ≤ R.frames; omega, by show 8 + (am_ml a + 11) + (40 * d + 200) ≤ R.locals; omega⟩)
          ⟨am_cblind, hrv, am_pre K hP hS hsz⟩ rfl (by rw [List.length_map]) hl (by rw [List.map_cons, List.reverse_cons, List.append_assoc]; rfl) (by show 2 * 0 + _ ≤ 8; rw [am_v_cats]; omega) hd ⟨hRc, hRs⟩
        exact hrun
      · cases hrecv
    · cases hrecv
theorem am_runS {j x : Nat} (hok : am_OK) (B : am_B p s m args meth c mi) (K : am_K n0 old D cA L xs s) (h0 : a ≠ 0) (hn : a < am_num) (okS : am_okS mi x j a b = true) (hd : decode (am_code mi) pc = .ok (.invokestatic x, 3))
    (hM : vx_Met l (am_y a) (am_cw a :: am_W) (am_rm d S S1 g g1) (am_Pc n0 old D cA L xs as S h o g) (am_Qc n0 old D cA out S1 h1 o1) (am_XC n0 old D cA out S1 h1 o1) (am_ct S1 g1 - am_ct S g) (am_sz S1 g1 - am_sz S g) (am_A n0))
    (hlen : as.length = b) (hsum : (rest.map fun w => w.category).sum ≤ 8) (hl : ls.size = am_ml mi) (hP : va_P D am_cl (am_ws (am_r n0 old) cA S h o) H) (hS : va_S (am_A n0) s.heap H locs) (hsz : g = 0 → H.size = n0 + am_ct S g)
    (hRf : d + 1 + 10 ≤ R.frames) (hRl : 40 * (d + 1) + 200 ≤ R.locals) (hRc : am_ct S g - c0 + (am_ct S1 g1 - am_ct S g) ≤ R.cells) (hRs : am_sz S g - z0 + (am_sz S1 g1 - am_sz S g) ≤ R.slots) :
    vx_Run p l e R s m args below meth c H locs (am_ct S g - c0) (am_sz S g - z0) (am_ct S1 g1 - am_ct S g) (am_sz S1 g1 - am_sz S g) (F0 m pc ls ((as.map (am_v (am_r n0 old))).reverse ++ rest.map (am_v (am_r n0 old)))) (rest.map (am_v (am_r n0 old))) (am_Qc n0 old D cA out S1 h1 o1 (as.map (am_v (am_r n0 old))).toArray) (am_XC n0 old D cA out S1 h1 o1) (am_A n0) := by
  obtain ⟨hx, hb, hml, hown, hts, hr, hlk, hnm, htab⟩ := B
  obtain ⟨hcw, hMo⟩ := hok.2.1 a h0 hn
  simp only [am_okM, Bool.and_eq_true, decide_eq_true_eq] at hMo
  obtain ⟨hini, -, hnh, hnv, hml13, hrc, -⟩ := hMo
  simp only [am_okS, Bool.and_eq_true, decide_eq_true_eq] at okS
  obtain ⟨hlink, hstat, hpar⟩ := okS
  have hgood : GoodIn am_W (va_wsS (am_own mi) x (am_y a) (am_cw a :: am_W)) := am_W_good (fun w hw => by
    simp only [va_wsS, List.mem_append, List.mem_cons, List.not_mem_nil, or_false] at hw
    rcases hw with (rfl | rfl | rfl) | rfl | hw
    · exact am_W_of hlink
    · exact am_W_of hstat
    · exact am_W_of hini
    · exact hcw
    · exact hw)
  have hpar2 : (parseMethodDescriptor (am_y a).desc).map (fun q => q.parameters.length) = some as.length := by rw [hpar, hlen]
  cases hhh : am_hh a with
  | nil =>
    have ecw : am_cw a = .code (am_y a) (am_code a) (am_ml a) (am_ret a) := by simp only [am_cw, hhh]
    exact vx_runS (As := as.map (am_v (am_r n0 old))) (g := F0 m pc ls ((as.map (am_v (am_r n0 old))).reverse ++ rest.map (am_v (am_r n0 old)))) ⟨hx, hb, hml, hown, hts⟩ hM
      (va_cwS as.length hts hgood (by rw [ecw]) rfl rfl ⟨hnh, hnv, hpar2⟩ ⟨by show d + 10 + 1 ≤ R.frames; omega, by show 8 + (am_ml a + 11) + (40 * d + 200) ≤ R.locals; omega⟩)
      ⟨am_cblind, am_pre K hP hS hsz⟩ rfl (by rw [List.length_map]) hl rfl (by show 2 * 0 + _ ≤ 8; rw [am_v_cats]; omega) hd ⟨hRc, hRs⟩
  | cons y r =>
    have ecw : am_cw a = .codeWith (am_y a) (am_code a) (am_ml a) (am_ret a) (am_hh a) := by simp only [am_cw, hhh]
    exact vx_runSX (hh := am_hh a) (As := as.map (am_v (am_r n0 old))) (g := F0 m pc ls ((as.map (am_v (am_r n0 old))).reverse ++ rest.map (am_v (am_r n0 old)))) ⟨hx, hb, hml, hown, hts⟩ hM
      (vx_cwSW as.length hts hgood (by rw [ecw]) rfl rfl ⟨hnh, hnv, hpar2⟩ ⟨by show d + 10 + 1 ≤ R.frames; omega, by show 8 + (am_ml a + 11) + (40 * d + 200) ≤ R.locals; omega⟩)
      ⟨am_cblind, am_pre K hP hS hsz⟩ rfl (by rw [List.length_map]) hl rfl (by show 2 * 0 + _ ≤ 8; rw [am_v_cats]; omega) hd ⟨hRc, hRs⟩
theorem am_runI {j x k : Nat} {w : Option Value} {as' : List Value} (hok : am_OK) (B : am_B p s m args meth c mi) (K : am_K n0 old D cA L xs s) (h0 : a ≠ 0) (hn : a < am_num) (okI : am_okIn mi x j a b = true) (hd : decode (am_code mi) pc = .ok (.invokespecial x, 3))
    (hM : Met l (am_y a) (am_cw a :: am_W) (am_rm d S S1 g g1) (am_Pc n0 old D cA L xs (.ref k :: as') S h o g) (am_Qc n0 old D cA (.inr w) S1 h1 o1) (am_ct S1 g1 - am_ct S g) (am_sz S1 g1 - am_sz S g) (am_A n0))
    (hlen : as'.length + 1 = b) (hsum : (rest.map fun w => w.category).sum ≤ 8) (hl : ls.size = am_ml mi) (hP : va_P D am_cl (am_ws (am_r n0 old) cA S h o) H) (hS : va_S (am_A n0) s.heap H locs) (hsz : g = 0 → H.size = n0 + am_ct S g)
    (hRf : d + 1 + 10 ≤ R.frames) (hRl : 40 * (d + 1) + 200 ≤ R.locals) (hRc : am_ct S g - c0 + (am_ct S1 g1 - am_ct S g) ≤ R.cells) (hRs : am_sz S g - z0 + (am_sz S1 g1 - am_sz S g) ≤ R.slots) :
    va_Run p l e R s m args below meth c H locs (am_ct S g - c0) (am_sz S g - z0) (am_ct S1 g1 - am_ct S g) (am_sz S1 g1 - am_sz S g) (F0 m pc ls (((Value.ref k :: as').map (am_v (am_r n0 old))).reverse ++ rest.map (am_v (am_r n0 old)))) (rest.map (am_v (am_r n0 old))) (am_Qc n0 old D cA (.inr w) S1 h1 o1 ((Value.ref k :: as').map (am_v (am_r n0 old))).toArray) (am_A n0) := by
  obtain ⟨hx, hb, hml, hown, hts, hr, hlk, hnm, htab⟩ := B
  obtain ⟨hcw, hMo⟩ := hok.2.1 a h0 hn
  simp only [am_okM, Bool.and_eq_true, decide_eq_true_eq] at hMo
  obtain ⟨hini, -, hnh, hnv, hml13, hrc, -⟩ := hMo
  simp only [am_okIn, Bool.and_eq_true, Bool.or_eq_true, decide_eq_true_eq] at okI
  obtain ⟨⟨⟨hhh, hret⟩, hlink⟩, hinst, hinit, hpar⟩ := okI
  have ecw : am_cw a = .code (am_y a) (am_code a) (am_ml a) none := by simp only [am_cw, hhh, hret]
  have hpar2 : (parseMethodDescriptor (am_y a).desc).map (fun q => q.parameters.length) = some as'.length := by
    cases hpp : parseMethodDescriptor (am_y a).desc with
    | none => rw [hpp] at hpar; cases hpar
    | some sig =>
      rw [hpp] at hpar
      simp only [Option.map_some, Option.some.injEq] at hpar ⊢
      omega
  have hgood : GoodIn am_W (am_cw a :: am_W) := am_W_good (am_words hok h0 hn)
  have hroom : (am_rm d S S1 g g1).frames + 1 ≤ R.frames ∧ 8 + (am_ml a + 11) + (am_rm d S S1 g g1).locals ≤ R.locals := ⟨by show d + 10 + 1 ≤ R.frames; omega, by show 8 + (am_ml a + 11) + (40 * d + 200) ≤ R.locals; omega⟩
  have hstk : ((Value.ref k :: as').map (am_v (am_r n0 old))).reverse ++ rest.map (am_v (am_r n0 old)) = (as'.map (am_v (am_r n0 old))).reverse ++ .ref (am_r n0 old k) :: rest.map (am_v (am_r n0 old)) := by rw [List.map_cons, List.reverse_cons, List.append_assoc]; rfl
  rcases hlink with hlink | ⟨hlink, hsh⟩
  · exact va_runI (As := as'.map (am_v (am_r n0 old))) (b := am_r n0 old k) (g := F0 m pc ls (((Value.ref k :: as').map (am_v (am_r n0 old))).reverse ++ rest.map (am_v (am_r n0 old)))) ⟨hx, hb, hml, hown, hts⟩ hM
      (cwI as'.length hts hgood (by rw [ecw]) rfl rfl (hts _ (am_W_of hini)) (hts _ (am_W_of hlink)) (hts _ (am_W_of hinst)) hinit ⟨hnh, hnv, hpar2⟩ hroom)
      ⟨am_cblind, am_pre K hP hS hsz⟩ rfl (by rw [List.length_map]) hl hstk (by show 2 * 0 + _ ≤ 8; rw [am_v_cats]; omega) hd ⟨hRc, hRs⟩
  · have hnw : va_Nw (.methodLinkNest (am_own mi) x (am_y a) "SoundHarbour") s := by
      refine K.2.2.2.2.2.2.1 _ ?_
      have hmem := List.mem_of_getElem? hlink
      have hall : ∀ u ∈ lw_tbl, (match u with | .methodLinkNest _ _ _ _ => decide (u ∈ am_nw) | _ => true) = true := am_nestall
      have := hall _ hmem
      simpa using this
    exact va_runIN (host := "SoundHarbour") (As := as'.map (am_v (am_r n0 old))) (b := am_r n0 old k) (g := F0 m pc ls (((Value.ref k :: as').map (am_v (am_r n0 old))).reverse ++ rest.map (am_v (am_r n0 old)))) ⟨hx, hb, hml, hown, hts⟩ hM
      ⟨va_cnB as'.length hts hgood (by rw [ecw]) rfl rfl hnw (hts _ (am_W_of hini)) ⟨hnh, hnv, hpar2⟩ hroom, hinit, hts _ (am_W_of hinst)⟩
      ⟨am_cblind, am_pre K hP hS hsz⟩ rfl (by rw [List.length_map]) hl hstk (by show 2 * 0 + _ ≤ 8; rw [am_v_cats]; omega) hd ⟨hRc, hRs⟩
end AMS2
