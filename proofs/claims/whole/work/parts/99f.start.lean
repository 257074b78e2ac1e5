/-! ===== the start of the abstract machine ===== -/
theorem start_K {b L : Nat} {xs : Nat → Int32} {s : State} (hts : ∀ w ∈ lw_tbl, w.before #[Value.ref b] s = true) (hgv : (Jvm.Cond.and given_1 narrow_1).before #[Value.ref b] s = true) (hX : va_X b L xs s s.heap) (hbl : b < s.heap.size) :
    ∃ (old : Nat → Nat) (D : va_G) (cA : Nat → ClassId), old am_scr = b ∧ am_K s.heap.size old D cA L xs s := by
  have hA : ∀ a : Nat, a < s.heap.size → ¬ am_A s.heap.size a := fun a ha => Nat.not_le.mpr ha
  obtain ⟨ad, had⟩ : ∃ ad : Nat → Nat, ∀ j, j < 35 → (tmS j).eval #[Value.ref b] s none [] s = some (.ref (ad j)) := by
    have h0 : ∀ j : Nat, ∃ a : Nat, j < 35 → (tmS j).eval #[Value.ref b] s none [] s = some (.ref a) := fun j => by
      by_cases hj : j < 35
      · obtain ⟨a, ha⟩ := str_ref hgv hj
        exact ⟨a, fun _ => ha⟩
      · exact ⟨0, fun h => absurd h hj⟩
    exact Classical.axiomOfChoice h0
  obtain ⟨D, hD⟩ : ∃ D : va_G, ∀ (c : Nat) (q : vw_C), am_cl[c]? = some q → u_Kn s q.1 q.2.1 q.2.2 (D.1 c) (D.2 c) := by
    have h0 : ∀ c : Nat, ∃ r : ClassId × (Nat → Nat), ∀ q : vw_C, am_cl[c]? = some q → u_Kn s q.1 q.2.1 q.2.2 r.1 r.2 := fun c => by
      match c with
      | 0 => obtain ⟨cC, iS, h⟩ := uk_0 hts; exact ⟨(cC, iS), fun q hq => by cases hq; exact h⟩
      | 1 => obtain ⟨cC, iS, h⟩ := uk_1 hts; exact ⟨(cC, iS), fun q hq => by cases hq; exact h⟩
      | 2 => obtain ⟨cC, iS, h⟩ := uk_2 hts; exact ⟨(cC, iS), fun q hq => by cases hq; exact h⟩
      | 3 => obtain ⟨cC, iS, h⟩ := uk_3 hts; exact ⟨(cC, iS), fun q hq => by cases hq; exact h⟩
      | 4 => obtain ⟨cC, iS, h⟩ := uk_4 hts; exact ⟨(cC, iS), fun q hq => by cases hq; exact h⟩
      | 5 => obtain ⟨cC, iS, h⟩ := uk_5 hts; exact ⟨(cC, iS), fun q hq => by cases hq; exact h⟩
      | 6 => obtain ⟨cC, iS, h⟩ := uk_6 hts; exact ⟨(cC, iS), fun q hq => by cases hq; exact h⟩
      | 7 => obtain ⟨cC, iS, h⟩ := uk_7 hts; exact ⟨(cC, iS), fun q hq => by cases hq; exact h⟩
      | c + 8 => exact ⟨(0, fun _ => 0), fun q hq => by simp [am_cl] at hq⟩
    obtain ⟨r, hr⟩ := Classical.axiomOfChoice h0
    exact ⟨(fun c => (r c).1, fun c => (r c).2), hr⟩
  obtain ⟨a0, A0⟩ := ar_c (tb_at hts ua_int) (fun C e => by cases e)
  obtain ⟨a1, A1⟩ := ar_c (tb_at hts ua_byte) (fun C e => by cases e)
  obtain ⟨a2, A2⟩ := ar_c (tb_at hts ua_boolean) (fun C e => by cases e)
  obtain ⟨a3, A3⟩ := ar_c (tb_at hts ua_long) (fun C e => by cases e)
  obtain ⟨a4, A4⟩ := ar_a (tb_at hts ua_aint)
  obtain ⟨a5, A5⟩ := ar_o (tb_at hts ua_str)
  have eo : ∀ j, j < 35 → (fun k => if k = am_scr then b else ad (k - am_big)) (am_big + j) = ad j := fun j hj => by
    show (if am_big + j = am_scr then b else ad (am_big + j - am_big)) = ad j
    rw [if_neg (by unfold am_big am_scr; omega), Nat.add_sub_cancel_left]
  refine ⟨fun k => if k = am_scr then b else ad (k - am_big), D, fun k => if k = 0 then a0 else if k = 1 then a1 else if k = 2 then a2 else if k = 3 then a3 else if k = 4 then a4 else a5, if_pos rfl, ?_⟩
  refine ⟨⟨hD, fun k q hq => ?_⟩, Nat.le_refl _, hX, hbl, fun j hj => ?_, fun j hj => ?_, fun w hw => ?_, ?_, ?_, ?_, ?_, ⟨?_, ?_⟩, ?_, ?_⟩
  · match k, hq with
    | 0, hq => cases hq; exact A0
    | 1, hq => cases hq; exact A1
    | 2, hq => cases hq; exact A2
    | 3, hq => cases hq; exact A3
    | 4, hq => cases hq; exact A4
    | 5, hq => cases hq; exact A5
    | k + 6, hq => simp at hq
  · rw [eo j (by omega)]
    exact str_one hgv hA hj (had j (by omega))
  · rw [eo j hj]
    exact vk_R.of (tb_at hts (of_decide_eq_true (all_at sr_all hj))) (had j hj)
  · have h := List.all_eq_true.mp nw_all w hw
    rw [Bool.and_eq_true] at h
    exact va_Nw.of h.2 (hts w (of_decide_eq_true h.1))
  · exact vx_Zqof (tb_at hts z1_us) (tb_at hts z2_us) (gn_at hgv z3_us) hA
  · exact vx_Zqof (tb_at hts z1_ss) (tb_at hts z2_ss) (gn_at hgv z3_ss) hA
  · exact va_Nc.of (gn_at hgv nc_1)
  · exact va_Nc.of (gn_at hgv nc_2)
  · exact va_Zof (tb_at hts z1_cs) (tb_at hts z2_cs) (va_eqi (gn_at hgv z3_cs)) hA
  · exact va_Zqof (tb_at hts z1_si) (tb_at hts z2_si) (gn_at hgv z3_si) hA
  · exact va_AO.of (tb_at hts ua_str)
  · exact tb_at hts ua_aint
