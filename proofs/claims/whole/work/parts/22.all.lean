/-! ===== handlers; the induction ===== -/
def am_mt (y : Nat × Nat × Nat × Nat × Nat) (pc E : Nat) : Prop := y.1 ≤ pc ∧ pc < y.2.1 ∧ y.2.2.1 = E
theorem am_hand_none : ∀ (hd : List (Nat × Nat × Nat × Nat × Nat)) (pc E : Nat), am_hand hd pc E = none → ∀ y ∈ hd, ¬ am_mt y pc E
  | [], _, _, _, y, hy => nomatch hy
  | (f, t, E', n, k) :: l, pc, E, h, y, hy => by
    simp only [am_hand] at h
    split at h
    · cases h
    · rename_i hn
      rcases List.mem_cons.mp hy with rfl | hy
      · exact hn
      · exact am_hand_none l pc E h y hy
theorem am_hand_some : ∀ (hd : List (Nat × Nat × Nat × Nat × Nat)) (pc E n k : Nat), am_hand hd pc E = some (n, k) → ∃ (i : Nat) (y : Nat × Nat × Nat × Nat × Nat), hd[i]? = some y ∧ am_mt y pc E ∧ y.2.2.2 = (n, k) ∧ ∀ j, j < i → ∀ z, hd[j]? = some z → ¬ am_mt z pc E
  | [], _, _, _, _, h => nomatch h
  | (f, t, E', n', k') :: l, pc, E, n, k, h => by
    simp only [am_hand] at h
    split at h
    · rename_i hm
      cases h
      exact ⟨0, _, rfl, hm, rfl, fun j hj => absurd hj (Nat.not_lt_zero j)⟩
    · rename_i hn
      obtain ⟨i, y, h1, h2, h3, h4⟩ := am_hand_some l pc E n k h
      refine ⟨i + 1, y, h1, h2, h3, fun j hj z hz => ?_⟩
      match j, hz with
      | 0, hz => cases hz; exact hn
      | j + 1, hz => exact h4 j (by omega) z hz
theorem am_okH_at {mi i : Nat} {x : Nat × Nat × Nat × Nat} (h : am_okH mi = true) (hx : (am_hh mi)[i]? = some x) : ∃ y, (am_hd mi)[i]? = some y ∧ am_okH1 mi x y = true := by
  simp only [am_okH, Bool.and_eq_true, decide_eq_true_eq] at h
  have hlt : i < (am_hd mi).length := by rw [← h.1]; exact (List.getElem?_eq_some_iff.mp hx).1
  refine ⟨(am_hd mi)[i], List.getElem?_eq_getElem hlt, ?_⟩
  refine List.all_eq_true.mp h.2 (x, (am_hd mi)[i]) (List.mem_of_getElem? (i := i) ?_)
  rw [List.getElem?_zip_eq_some]
  exact ⟨hx, List.getElem?_eq_getElem hlt⟩
theorem am_okH_at2 {mi i : Nat} {y : Nat × Nat × Nat × Nat × Nat} (h : am_okH mi = true) (hy : (am_hd mi)[i]? = some y) : ∃ x, (am_hh mi)[i]? = some x ∧ am_okH1 mi x y = true := by
  have h' := h
  simp only [am_okH, Bool.and_eq_true, decide_eq_true_eq] at h'
  have hlt : i < (am_hh mi).length := by rw [h'.1]; exact (List.getElem?_eq_some_iff.mp hy).1
  obtain ⟨y', h1, h2⟩ := am_okH_at h (List.getElem?_eq_getElem hlt)
  rw [hy] at h1
  cases h1
  exact ⟨_, List.getElem?_eq_getElem hlt, h2⟩
section AMZ
variable {p : Program} {l : Launch} {e : Env} {R : Room} {s : State} {m : MethodId} {args : Array Value} {below : List Frame} {meth : Method} {c : Code} {n0 : Nat} {old : Nat → Nat} {D : va_G} {cA : Nat → ClassId} {L : Nat} {xs : Nat → Int32} {mi : Nat}
/-- a row of the table that doesn't take E -/
theorem am_pass {E pc : Nat} {x : Nat × Nat × Nat × Nat} {y : Nat × Nat × Nat × Nat × Nat} (K : am_K n0 old D cA L xs s) (hts : ∀ w ∈ am_W, w.before args s = true) (ho : am_okH1 mi x y = true) (hE : E < 2) (hn : ¬ am_mt y pc E) :
    covers (⟨x.1, x.2.1, x.2.2.1, x.2.2.2⟩ : ExceptionTableEntry) pc = false ∨ ((⟨x.1, x.2.1, x.2.2.1, x.2.2.2⟩ : ExceptionTableEntry).catchType ≠ 0 ∧ ∃ nm : String, (Cond.classLink (am_own mi) (⟨x.1, x.2.1, x.2.2.1, x.2.2.2⟩ : ExceptionTableEntry).catchType nm).before args s = true ∧ va_Nc (am_exc E) nm s) := by
  simp only [am_okH1, Bool.and_eq_true, decide_eq_true_eq] at ho
  obtain ⟨h1, h2, h3, h4, ⟨h5, -⟩, -⟩ := ho
  cases hc : covers (⟨x.1, x.2.1, x.2.2.1, x.2.2.2⟩ : ExceptionTableEntry) pc with
  | false => exact Or.inl rfl
  | true =>
    refine Or.inr ⟨h4, am_exc y.2.2.1, hts _ (List.mem_filter.mpr (by simpa using h5)), ?_⟩
    have hcov : x.1 ≤ pc ∧ pc < x.2.1 := by simpa [covers] using hc
    have hne : y.2.2.1 ≠ E := fun q => hn ⟨by omega, by omega, q⟩
    have hcase : (E = 0 ∧ y.2.2.1 = 1) ∨ (E = 1 ∧ y.2.2.1 = 0) := by omega
    rcases hcase with ⟨rfl, e2⟩ | ⟨rfl, e2⟩
    · rw [e2]; exact K.2.2.2.2.2.2.2.2.2.2.1
    · rw [e2]; exact K.2.2.2.2.2.2.2.2.2.1
end AMZ
theorem am_exc_cast {n0 : Nat} {old : Nat → Nat} {D : va_G} {cA : Nat → ClassId} {L : Nat} {xs : Nat → Int32} {s : State} {args : Array Value} {E : Nat} (K : am_K n0 old D cA L xs s) (hE : E < 2) : (Cond.castable (am_exc E) (am_exc E)).before args s = true := by
  have hcase : E = 0 ∨ E = 1 := by omega
  rcases hcase with rfl | rfl
  · exact va_Nw.use rfl (K.2.2.2.2.2.2.1 (.castable am_NSE am_NSE) (by decide +kernel))
  · exact va_Nw.use rfl (K.2.2.2.2.2.2.1 (.castable am_IAE am_IAE) (by decide +kernel))
set_option maxHeartbeats 4000000 in
theorem am_step_len {L : Nat} {xs : Nat → Int32} {op a b c : Nat} {v : Int32} {lv lv' : am_V} {st st' : List Value} {S S' : am_S} {h h' : am_M} {o o' : am_L} {g pc' : Nat} (hs : am_step L xs op a b c v lv st S h o g = some (.inl (pc', lv', st', S', h', o'))) (hb : S.length ≤ am_big) : S'.length ≤ am_big := by
  unfold am_step at hs
  repeat' split at hs
  all_goals first
    | (cases hs; done)
    | (simp only [Option.some.injEq, Sum.inl.injEq, Prod.mk.injEq] at hs; obtain ⟨-, -, -, rfl, -, -⟩ := hs; exact hb)
    | (simp only [Option.some.injEq, Sum.inl.injEq, Prod.mk.injEq] at hs; obtain ⟨-, -, -, rfl, -, -⟩ := hs; simp; omega)
theorem am_len {L : Nat} {xs : Nat → Int32} : ∀ (n : Nat) {d mi pc : Nat} {lv : am_V} {st : List Value} {S : am_S} {h : am_M} {o : am_L} {g : Nat} {out : am_O} {S' : am_S} {h' : am_M} {o' : am_L} {g' : Nat}, am_run L xs n d mi pc lv st S h o g = some (out, S', h', o', g') → S.length ≤ am_big → S'.length ≤ am_big := by
  intro n
  induction n with
  | zero => intro d mi pc lv st S h o g out S' h' o' g' hr; simp only [am_run] at hr; cases hr
  | succ n ih =>
    intro d mi pc lv st S h o g out S' h' o' g' hr hb
    simp only [am_run] at hr
    split at hr
    · cases hr
    · split at hr
      · cases hr
      · rename_i hs
        exact ih hr (am_step_len hs hb)
      · split at hr
        · cases hr
        · split at hr
          · cases hr
          · rename_i hc
            exact ih hr (ih hc hb)
          · rename_i hc
            split at hr
            · cases hr
            · split at hr
              · cases hr
                exact ih hc hb
              · exact ih hr (ih hc hb)
      · cases hr
        exact hb
      · cases hr
        exact hb
set_option maxHeartbeats 4000000 in
theorem am_sim {l : Launch} {n0 : Nat} {old : Nat → Nat} {D : va_G} {cA : Nat → ClassId} {L : Nat} {xs : Nat → Int32} (hok : am_OK) (hst : l.stackTraces = false) : ∀ n, am_Sim l n0 old D cA L xs n := by
  intro n
  induction n with
  | zero => intro d mi pc lv st S h o g out S' h' o' g' hr; simp only [am_run] at hr; cases hr
  | succ n ih =>
    intro d mi pc lv st S h o g out S' h' o' g' hr p e R s m args below meth c c0 z0 hmn B K hsz hRf hRl hRc hRs
    simp only [am_run] at hr
    split at hr
    · cases hr
    · rename_i op a b c' v hPe
      have ok := hok.1 mi pc _ hmn hPe
      split at hr
      · cases hr
      · rename_i pc1 lv1 st1 S1 h1 o1 hs
        obtain ⟨q1, q2, q3⟩ := am_mono n hr
        exact am_stepG B K hsz (by omega) (by omega) (by simp only [am_ct] at hRc ⊢; omega) (by simp only [am_sz] at hRs ⊢; omega) ok hs (ih d mi pc1 lv1 st1 S1 h1 o1 g out S' h' o' g' hr p e R s m args below meth c c0 z0 hmn B K hsz hRf hRl hRc hRs)
      · rename_i mj as rest hs
        rcases am_step_kind hs with ⟨hop, hcall, hbl, hsum, hargs, hrecv⟩ | ⟨-, x, -, q⟩ | ⟨-, x, -, -, q⟩ | ⟨-, x, -, q⟩ | ⟨-, -, q⟩ | ⟨-, -, q⟩
        · cases hcall
          split at hr
          · cases hr
          · rename_i d
            obtain ⟨i, nn, hd, rfl, hi⟩ := am_okE_spec ok (by rcases hop with rfl | rfl <;> decide)
            have hstk : st.map (am_v (am_r n0 old)) = ((st.take b).reverse.map (am_v (am_r n0 old))).reverse ++ (st.drop b).map (am_v (am_r n0 old)) := by
              rw [List.map_reverse, List.reverse_reverse, ← List.map_append, List.take_append_drop]
            have hlen : (st.take b).reverse.length = b := by rw [List.length_reverse, List.length_take]; omega
            split at hr
            · cases hr
            · -- the callee returns
              rename_i w S1 h1 o1 g1 hcr
              obtain ⟨q1, q2, q3⟩ := am_mono n hcr
              obtain ⟨q4, q5, q6⟩ := am_mono n hr
              have hm1 : am_ct S g ≤ am_ct S1 g1 := by simp only [am_ct]; omega
              have hm2 : am_sz S g ≤ am_sz S1 g1 := by simp only [am_sz]; omega
              have hm3 : am_ct S1 g1 ≤ am_ct S' g' := by simp only [am_ct]; omega
              have hm4 : am_sz S1 g1 ≤ am_sz S' g' := by simp only [am_sz]; omega
              have ihk := ih (d + 1) mi (pc + nn) lv (w.toList ++ st.drop b) S1 h1 o1 g1 out S' h' o' g' hr p e R s m args below meth c c0 z0 hmn B K (fun q => hsz (by omega)) hRf hRl hRc hRs
              intro H locs ls hP hS hl hbg hc0 hz0
              intro T hT X
              have hH : g = 0 → H.size = n0 + am_ct S g := fun hg => by
                have h2 := X.heapSize
                rw [hT, hsz hg] at h2
                have h3 := am_low hP (Nat.le_trans K.2.1 hS.1) hbg
                simp only [am_ct] at h2 hc0 ⊢
                omega
              have hbg1 : S1.length ≤ am_big := am_len n hcr hbg
              rw [hstk]
              have e3 : (w.map (am_v (am_r n0 old))).toList ++ (st.drop b).map (am_v (am_r n0 old)) = (w.toList ++ st.drop b).map (am_v (am_r n0 old)) := by cases w <;> rfl
              rcases hop with rfl | rfl
              · simp only [am_okI, Bool.and_eq_true, decide_eq_true_eq] at hi
                obtain ⟨rfl, han, ha0, hi⟩ := hi
                have hM := am_met hok ih hcr ha0 han hargs hbg
                split at hi
                · refine am_after (am_runV hok B K ha0 han hi hd hM hlen hrecv hsum hl.1 hP hS hH (by omega) (by omega) (by omega) (by omega)) hS hc0 hz0 hm1 hm2 (fun w' hw' H1 locs1 hP1 hS1 => ?_) (fun k hk => nomatch hk) T hT X
                  cases hw'
                  rw [e3]
                  exact ihk H1 locs1 ls hP1 hS1 hl hbg1 (by omega) (by omega)
                · refine am_after (am_runS hok B K ha0 han hi hd hM hlen hsum hl.1 hP hS hH (by omega) (by omega) (by omega) (by omega)) hS hc0 hz0 hm1 hm2 (fun w' hw' H1 locs1 hP1 hS1 => ?_) (fun k hk => nomatch hk) T hT X
                  cases hw'
                  rw [e3]
                  exact ihk H1 locs1 ls hP1 hS1 hl hbg1 (by omega) (by omega)
                · cases hi
              · simp only [am_okI, Bool.and_eq_true, decide_eq_true_eq] at hi
                obtain ⟨rfl, han, ha0, hi⟩ := hi
                have hM := am_met hok ih hcr ha0 han hargs hbg
                split at hi
                · obtain ⟨k, as', hk⟩ : ∃ k as', (st.take b).reverse = .ref k :: as' := by
                    unfold am_recv at hrecv
                    split at hrecv
                    · rename_i h8
                      exfalso
                      have hMo := (hok.2.1 a ha0 han).2
                      simp only [am_okM, Bool.and_eq_true, decide_eq_true_eq] at hMo
                      obtain ⟨-, -, -, -, -, hrc, -⟩ := hMo
                      rw [h8] at hrc
                      simp only [am_okIn, Bool.and_eq_true, Bool.or_eq_true, decide_eq_true_eq] at hi
                      have h9 := B.2.2.2.2.1 _ (am_W_of hrc)
                      have h10 := B.2.2.2.2.1 _ (am_W_of hi.2.1)
                      obtain ⟨mk, methM, hnamed, hmethM, hstM, -⟩ := Cond.instanceMethod_spec h10
                      have := Cond.static_spec hnamed hmethM h9
                      rw [hstM] at this
                      cases this
                    · split at hrecv
                      · rename_i k as' hkk
                        exact ⟨_, _, by assumption⟩
                      · cases hrecv
                  rw [hk] at hM hlen ⊢
                  refine am_afterI (am_runI hok B K ha0 han hi hd (am_metR hM) hlen hsum hl.1 hP hS hH (by omega) (by omega) (by omega) (by omega)) hS hc0 hz0 hm1 hm2 (fun H1 locs1 hP1 hS1 => ?_) T hT X
                  rw [e3]
                  exact ihk H1 locs1 ls hP1 hS1 hl hbg1 (by omega) (by omega)
                · cases hi
            · -- the callee throws
              rename_i E S1 h1 o1 g1 hcr
              split at hr
              · cases hr
              · rename_i h53
                have hop : op = 36 := hop.resolve_right h53
                subst hop
                obtain ⟨q1, q2, q3⟩ := am_mono n hcr
                have hm1 : am_ct S g ≤ am_ct S1 g1 := by simp only [am_ct]; omega
                have hm2 : am_sz S g ≤ am_sz S1 g1 := by simp only [am_sz]; omega
                have hm34 : am_ct S1 g1 ≤ am_ct S' g' ∧ am_sz S1 g1 ≤ am_sz S' g' := by
                  split at hr
                  · cases hr; exact ⟨Nat.le_refl _, Nat.le_refl _⟩
                  · obtain ⟨q4, q5, q6⟩ := am_mono n hr
                    simp only [am_ct, am_sz]
                    omega
                intro H locs ls hP hS hl hbg hc0 hz0
                intro T hT X
                have hH : g = 0 → H.size = n0 + am_ct S g := fun hg => by
                  have h2 := X.heapSize
                  rw [hT, hsz hg] at h2
                  have h3 := am_low hP (Nat.le_trans K.2.1 hS.1) hbg
                  simp only [am_ct] at h2 hc0 ⊢
                  omega
                have hbg1 : S1.length ≤ am_big := am_len n hcr hbg
                have hokH := hok.2.2 mi hmn
                have kx : ∀ k : Nat, (Sum.inl E : am_O) = .inl k → k < 2 → ∀ (H1 : Heap) (locs1 : List Loc) (q : Addr) (ce : Cell), va_P D am_cl (am_ws (am_r n0 old) cA S1 h1 o1) H1 → va_S (am_A n0) s.heap H1 locs1 → H1[q]? = some ce → ce.vm = .none → s.vm.findClass (am_exc k) = some ce.cls →
                    vx_W p l e R s m args below meth c H1 locs1 (am_ct S1 g1 - c0) (am_sz S1 g1 - z0) (vx_MQ below (am_Qc n0 old D cA out S' h' o') (am_XC n0 old D cA out S' h' o') args s (am_ct S' g' - c0) (am_sz S' g' - z0) (am_A n0)) (F0 m pc ls ((st.drop b).map (am_v (am_r n0 old)))) q := by
                  intro k hk hk2 H1 locs1 q ce hP1 hS1 hce hcv hcl
                  cases hk
                  obtain ⟨hx, hb, hml, hown, hts, hrr, hlk, hnm, htab⟩ := B
                  split at hr
                  · rename_i hnone
                    cases hr
                    refine vx_outP hown hlk (fun z hz => ?_) hce hcv hcl (fun t ht _ => ⟨⟨_, rfl, rfl, hk2⟩, by rw [ht]; exact hP1, hS1.F ht⟩) hS1.2.2 (Nat.le_refl _) (Nat.le_refl _)
                    rw [htab] at hz
                    obtain ⟨x, hxm, rfl⟩ := List.mem_map.mp hz
                    obtain ⟨i9, hi9⟩ := List.getElem?_of_mem hxm
                    obtain ⟨y, hy, ho⟩ := am_okH_at hokH hi9
                    exact am_pass K hts ho hk2 (am_hand_none _ _ _ hnone y (List.mem_of_getElem? hy))
                  · rename_i pc2 k2 hsome
                    obtain ⟨i9, y, hy, hmt, hy2, hbefore⟩ := am_hand_some _ _ _ _ _ hsome
                    obtain ⟨x, hx9, ho⟩ := am_okH_at2 hokH hy
                    have ho' := ho
                    simp only [am_okH1, Bool.and_eq_true, decide_eq_true_eq] at ho'
                    obtain ⟨u1, u2, u3, u4, ⟨u5, u6⟩, u7⟩ := ho'
                    have ihk := ih (d + 1) mi pc2 (am_st1 lv k2 none) [] S1 h1 o1 g1 out S' h' o' g' hr p e R s m args below meth c c0 z0 hmn ⟨hx, hb, hml, hown, hts, hrr, hlk, hnm, htab⟩ K (fun q => hsz (by omega)) hRf hRl hRc hRs
                    have hlt9 := (List.getElem?_eq_some_iff.mp hx9).1
                    have hsplit : c.exceptionTable.toList = tableOf ((am_hh mi).take i9) ++ (⟨x.1, x.2.1, x.2.2.1, x.2.2.2⟩ : ExceptionTableEntry) :: tableOf ((am_hh mi).drop (i9 + 1)) := by
                      have e1 : am_hh mi = (am_hh mi).take i9 ++ x :: (am_hh mi).drop (i9 + 1) := by
                        have h5 := List.drop_eq_getElem_cons hlt9
                        have h6 : (am_hh mi)[i9] = x := (List.getElem?_eq_some_iff.mp hx9).2
                        rw [h6] at h5
                        rw [← h5, List.take_append_drop]
                      rw [htab]
                      conv => lhs; rw [e1]
                      simp only [tableOf, List.map_append, List.map_cons]
                    have hyE : y.2.2.1 = E := hmt.2.2
                    refine vx_catch (name := am_exc E) hown (tableOf ((am_hh mi).take i9)) ⟨x.1, x.2.1, x.2.2.1, x.2.2.2⟩ (tableOf ((am_hh mi).drop (i9 + 1))) hsplit (fun z hz => ?_) (by simp [covers]; have := hmt.1; have := hmt.2.1; omega) u4 (hts _ (by rw [← hyE]; exact List.mem_filter.mpr (by simpa using u5))) (am_exc_cast K hk2) hce hcv hcl ?_
                    · obtain ⟨x2, hxm, rfl⟩ := List.mem_map.mp hz
                      obtain ⟨j9, hj9⟩ := List.getElem?_of_mem hxm
                      rw [List.getElem?_take] at hj9
                      split at hj9
                      · rename_i hj
                        obtain ⟨y2, hy2', ho2⟩ := am_okH_at hokH hj9
                        exact am_pass K hts ho2 hk2 (hbefore j9 hj y2 hy2')
                      · cases hj9
                    · have hyp : y.2.2.2.1 = pc2 ∧ y.2.2.2.2 = k2 := by rw [hy2]; exact ⟨rfl, rfl⟩
                      rw [hyp.2] at u6 u7
                      rw [hyp.1] at u6
                      split at u6
                      · rename_i kk9 hdk
                        simp only [Bool.and_eq_true, decide_eq_true_eq] at u6
                        obtain ⟨w1, rfl⟩ := u6
                        exact lv_astore_n hx hb hdk w1 hl.has u7 rfl (fun ls' hh' => ihk H1 locs1 ls' hP1 hS1 (hl.st1n hh') hbg1 (by omega) (by omega))
                      · rename_i kk9 hdk
                        simp only [Bool.and_eq_true, decide_eq_true_eq] at u6
                        obtain ⟨w1, rfl⟩ := u6
                        rw [w1] at hdk
                        exact lv_astore hx hb hdk hl.has u7 rfl (fun ls' hh' => ihk H1 locs1 ls' hP1 hS1 (hl.st1n hh') hbg1 (by omega) (by omega))
                      · cases u6
                rw [hstk]
                simp only [am_okI, Bool.and_eq_true, decide_eq_true_eq] at hi
                obtain ⟨rfl, han, ha0, hi⟩ := hi
                have hM := am_met hok ih hcr ha0 han hargs hbg
                split at hi
                · exact am_after (am_runV hok B K ha0 han hi hd hM hlen hrecv hsum hl.1 hP hS hH (by omega) (by omega) (by omega) (by omega)) hS hc0 hz0 hm1 hm2 (fun w' hw' => nomatch hw') kx T hT X
                · exact am_after (am_runS hok B K ha0 han hi hd hM hlen hsum hl.1 hP hS hH (by omega) (by omega) (by omega) (by omega)) hS hc0 hz0 hm1 hm2 (fun w' hw' => nomatch hw') kx T hT X
                · cases hi
        · cases q
        · cases q
        · cases q
        · cases q
        · cases q
      · rename_i w hs
        cases hr
        exact am_retG B ok hs
      · rename_i E hs
        cases hr
        exact am_thrG hst B K (by omega) (by omega) hRc hRs ok hs
