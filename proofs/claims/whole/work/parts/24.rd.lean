/-! ===== Reader.read ===== -/
def fauI (o : Option Nat) : Int32 := match o with
  | none => -4
  | some p => nI p
theorem tkF_0 {T : Tb} {c : Nat} {f : Nat → Nat} (h : (tkF T c f).1 = 0) : (tkF T c f).2 = T := by
  revert h
  unfold tkF tkG tkT tkL tkA
  split
  · split
    · intro h; cases h
    · intro _; rfl
  · split
    · split
      · intro h; cases h
      · intro _; rfl
    · split
      · split
        · intro h; cases h
        · intro _; rfl
      · split
        · split
          · intro h; cases h
          · intro _; rfl
        · intro _; rfl
theorem TbIn.zero (T : Tb) : TbIn (0, 0, 0, 0, 0, T.kd, T.hn, T.kn, T.hf) := ⟨Nat.zero_le 8, Nat.zero_le 6, (by decide : 0 < 4), (by decide : 0 < 8), Nat.two_pow_pos 0, fun i hi => absurd hi (Nat.not_lt_zero i), fun i hi => absurd hi (Nat.not_lt_zero i), fun i hi => absurd hi (Nat.not_lt_zero i), fun i hi => absurd hi (Nat.not_lt_zero i)⟩
theorem TbP.eq {σ : AHp} {p : Nat} {T T' : Tb} (h : TbP σ p T) (e : T = T') : TbP σ p T' := e ▸ h
set_option maxRecDepth 20000 in
theorem lp_read {σ0 : AHp} {f : Nat → Nat} {len p : Nat} (hf : ∀ j, j < len → f j < 127) (hlen : len ≤ 200) (hp : 6 ≤ p) : ∀ (n k pl : Nat) (T : Tb) (nf : Nat → Nat) (σ : AHp) (x4 x5 : Option Value), 200 - k = n → k ≤ 200 → pl ≤ 10 * k → TbIn T → LtP σ f len → RrP σ nf pl → TbP σ p T → (∀ j, (j < 4 ∨ 6 ≤ j) ∧ (j < p ∨ p + 5 ≤ j) → σ j = σ0 j) → Run M_X5_read 11 [some (.ref 4), some (.ref 2), some (.ref p), some (.int (nI k)), x4, x5] [] σ 0 0 (fun r σ => r = some (.int (fauI (rdA (tg f len) len (200 - k) pl T).1)) ∧ TbP σ p (rdA (tg f len) len (200 - k) pl T).2 ∧ (∃ nf' pl', RrP σ nf' pl') ∧ ∀ j, (j < 4 ∨ 6 ≤ j) ∧ (j < p ∨ p + 5 ≤ j) → σ j = σ0 j) := by
  intro n
  induction n using Nat.strongRecOn
  rename_i n ih
  intro k pl T nf σ x4 x5 hm hk hpl hTi hLt hRr hTP hfr
  obtain ⟨hL, hr, -⟩ := id hLt
  obtain ⟨hD, hN⟩ := id hRr
  obtain ⟨hp0, hT, -⟩ := id hTP
  have t0 := tg_lt hf pl
  have hmy := manyF_le (tg f len pl)
  have hb9 := b2n_le (decide (0 < manyF (tg f len pl)) && (rdF (tg f len) (manyF (tg f len pl)) 0 (pl + 1) nf).isSome)
  refine R_iload_n a_X5_read_11 rfl ?_
  refine R_sipush (v := nI 200) a_X5_read_12 rfl ?_
  first | with_reducible refine R_icmp_ge_n a_X5_read_15 (by omega) (by omega) (fun h15 => ?_) (fun h15 => ?_) | refine R_icmp_ge a_X5_read_15 (fun h15 => ?_) (fun h15 => ?_)
  · skip
    have hke : k = 200 := by omega
    subst hke
    have hz : rdA (tg f len) len (200 - 200) pl T = (none, T) := rfl
    refine R_bipush (v := (-4)) a_X5_read_78 rfl ?_
    refine R_iret a_X5_read_80 rfl ?_
    rw [hz]
    exact ⟨rfl, hTP, ⟨_, _, hD, hN⟩, hfr⟩
  · skip
    refine R_aload_n a_X5_read_18 rfl ?_
    refine R_get a_X5_read_19 hD rfl ?_
    refine R_aload_n a_X5_read_22 rfl ?_
    refine R_get a_X5_read_23 hL rfl ?_
    first | with_reducible refine R_icmp_ge_n a_X5_read_26 (by omega) (by omega) (fun h26 => ?_) (fun h26 => ?_) | refine R_icmp_ge a_X5_read_26 (fun h26 => ?_) (fun h26 => ?_)
    · skip
      have hz : rdA (tg f len) len (200 - k) pl T = (none, T) := by
        rw [show 200 - k = (200 - (k + 1)) + 1 by omega, rdA, if_neg (by omega)]
      refine R_bipush (v := (-4)) a_X5_read_78 rfl ?_
      refine R_iret a_X5_read_80 rfl ?_
      rw [hz]
      exact ⟨rfl, hTP, ⟨_, _, hD, hN⟩, hfr⟩
    · skip
      refine R_aload_n a_X5_read_29 rfl ?_
      refine R_get a_X5_read_30 hD rfl ?_
      refine R_istore (ls' := [_, _, _, _, _, _]) a_X5_read_33 rfl rfl rfl ?_
      refine R_aload_n a_X5_read_35 rfl ?_
      refine R_iload a_X5_read_36 rfl ?_
      refine R_callVp a_X5_read_38 hL (ev_at hLt (show pl < 2 ^ 30 by omega)) rfl rfl rfl rfl rfl ?_
      refine R_istore (ls' := [_, _, _, _, _, _]) a_X5_read_41 rfl rfl rfl ?_
      refine R_aload_n a_X5_read_43 rfl ?_
      refine R_aload_n a_X5_read_44 rfl ?_
      refine R_iload a_X5_read_45 rfl ?_
      refine R_callSp a_X5_read_47 (ev_howMany (show tg f len pl < 2 ^ 30 by omega)) rfl rfl rfl rfl rfl ?_
      refine R_callVs a_X5_read_50 hD (ev_readNumbers hLt hf hRr (by omega) hmy) rfl rfl rfl rfl rfl (fun σ hP => ?_)
      obtain ⟨nf1, pl1, hRr1, hf1, hv1⟩ := hP
      obtain ⟨hD, hN⟩ := id hRr1
      have hL := (hf1 2 (by omega)).trans hL
      have hr := (hf1 3 (by omega)).trans hr
      have hTP := hTP.fr hf1 (by omega)
      obtain ⟨hp0, hT, -⟩ := id hTP
      have hfr : ∀ j, (j < 4 ∨ 6 ≤ j) ∧ (j < p ∨ p + 5 ≤ j) → σ j = σ0 j := fun j hj => (hf1 j (by omega)).trans (hfr j hj)
      first | with_reducible refine R_if_eq_n a_X5_read_53 (by omega) (fun h53 => ?_) (fun h53 => ?_) | refine R_if_eq a_X5_read_53 (fun h53 => ?_) (fun h53 => ?_)
      · skip
        have hz : rdA (tg f len) len (200 - k) pl T = (some pl, T) := by
          rw [show 200 - k = (200 - (k + 1)) + 1 by omega, rdA, if_pos h26]
          have hb0 := b2n_0 h53
          rw [Bool.and_eq_false_iff] at hb0
          rcases hb0 with hb0 | hb0
          · have hw0 : manyF (tg f len pl) = 0 := by have := of_decide_eq_false hb0; omega
            rw [hw0]
            rfl
          · rw [Option.isSome_eq_false_iff, Option.isNone_iff_eq_none] at hb0
            rw [rdF_none _ _ _ _ (fun _ => 0) (fun j hj => absurd hj (by omega)) hb0]
        refine R_iload a_X5_read_69 rfl ?_
        refine R_iret a_X5_read_71 rfl ?_
        rw [hz]
        exact ⟨rfl, hTP, ⟨_, _, hD, hN⟩, hfr⟩
      · skip
        have hb0 := b2n_n0 h53
        rw [Bool.and_eq_true] at hb0
        have hw0 := of_decide_eq_true hb0.1
        obtain ⟨⟨g0, q0⟩, hq0⟩ := Option.isSome_iff_exists.mp hb0.2
        have hv1 := hv1 g0 q0 hq0
        have hup := rdF_up _ _ _ _ _ _ hq0
        obtain ⟨g1, hg1, hg2⟩ := rdF_any _ _ _ _ (fun _ => 0) _ _ (fun j hj => absurd hj (by omega)) hq0
        have hta : tkF T (tg f len pl) nf1 = tkF T (tg f len pl) g1 := by
          rw [hv1.1]
          exact tkF_any T _ (fun j hj => hg2 j (by omega))
        have htl := tkF_le T (tg f len pl) nf1
        refine R_aload_n a_X5_read_56 rfl ?_
        refine R_iload a_X5_read_57 rfl ?_
        refine R_aload_n a_X5_read_59 rfl ?_
        refine R_get a_X5_read_60 hD rfl ?_
        refine R_callVs a_X5_read_63 hT (ev_take hTP hN (by have := hTi.1; omega) (by have := hTi.2.1; omega) (by omega) (fun j hj => by rw [hv1.1, hg2 j (by omega)]; have := (rdF_up _ _ _ _ _ _ hg1).2.2 (fun _ => by decide) j; omega)) rfl rfl rfl rfl rfl (fun σ hP => ?_)
        obtain ⟨hT2, hf2⟩ := hP
        first | with_reducible refine R_if_ne_n a_X5_read_66 (by omega) (fun h66 => ?_) (fun h66 => ?_) | refine R_if_ne a_X5_read_66 (fun h66 => ?_) (fun h66 => ?_)
        · skip
          first | with_reducible refine R_iinc_n (ls' := [_, _, _, _, _, _]) a_X5_read_72 rfl rfl rfl rfl ?_ | refine R_iinc (ls' := [_, _, _, _, _, _]) a_X5_read_72 rfl rfl rfl rfl rfl ?_
          refine R_goto a_X5_read_75 ?_
          have hstep : rdA (tg f len) len (200 - k) pl T = rdA (tg f len) len (200 - (k + 1)) pl1 (tkF T (tg f len pl) nf1).2 := by
            rw [show 200 - k = (200 - (k + 1)) + 1 by omega, rdA, if_pos h26, hg1]
            simp only
            rw [if_neg (by omega), ← hta, if_pos (show (tkF T (tg f len pl) nf1).1 = 1 by omega), hv1.2]
          rw [hstep]
          exact ih _ (show 200 - (k + 1) < n by omega) (k + 1) pl1 _ nf1 σ _ _ rfl (by omega) (by have := hup.2.1; omega) (hTi.tk _ _) ⟨(hf2 2 (by omega)).trans hL, (hf2 3 (by omega)).trans hr, hlen⟩ ⟨(hf2 4 (by omega)).trans hD, (hf2 5 (by omega)).trans hN⟩ hT2 (fun j hj => (hf2 j (by omega)).trans (hfr j hj))
        · skip
          have hz : rdA (tg f len) len (200 - k) pl T = (some pl, T) := by
            rw [show 200 - k = (200 - (k + 1)) + 1 by omega, rdA, if_pos h26, hg1]
            simp only
            rw [if_neg (by omega), ← hta, if_neg (by omega)]
          have hTP := hT2.eq (tkF_0 h66)
          have hD := (hf2 4 (by omega)).trans hD
          have hN := (hf2 5 (by omega)).trans hN
          have hfr : ∀ j, (j < 4 ∨ 6 ≤ j) ∧ (j < p ∨ p + 5 ≤ j) → σ j = σ0 j := fun j hj => (hf2 j (by omega)).trans (hfr j hj)
          refine R_iload a_X5_read_69 rfl ?_
          refine R_iret a_X5_read_71 rfl ?_
          rw [hz]
          exact ⟨rfl, hTP, ⟨_, _, hD, hN⟩, hfr⟩

set_option maxRecDepth 20000 in
theorem ev_read {σ0 : AHp} {f nf : Nat → Nat} {len pl p : Nat} {T : Tb} (hLt : LtP σ0 f len) (hf : ∀ j, j < len → f j < 127) (hRr : RrP σ0 nf pl) (hTP : TbP σ0 p T) (hp : 6 ≤ p) : EvW M_X5_read [.ref 4, .ref 2, .ref p] σ0 (some (.int (fauI (rdA (tg f len) len 200 0 (0, 0, 0, 0, 0, T.kd, T.hn, T.kn, T.hf)).1))) (fun σ => TbP σ p (rdA (tg f len) len 200 0 (0, 0, 0, 0, 0, T.kd, T.hn, T.kn, T.hf)).2 ∧ (∃ nf' pl', RrP σ nf' pl') ∧ ∀ j, (j < 4 ∨ 6 ≤ j) ∧ (j < p ∨ p + 5 ≤ j) → σ j = σ0 j) := by
  obtain ⟨hL, hr, hlen⟩ := id hLt
  obtain ⟨hD, hN⟩ := id hRr
  obtain ⟨hp0, hT, -⟩ := id hTP
  refine Ev.of (ls := [_, _, _, _, _, _]) 3 (by decide) rfl rfl ?_
  refine R_aload_n a_X5_read_0 rfl ?_
  refine R_callVv a_X5_read_1 hT (ev_Tclear hTP) rfl rfl rfl rfl rfl (fun σ hP => ?_)
  obtain ⟨hT2, hf2⟩ := hP
  have hD := (hf2 4 (by omega)).trans hD
  refine R_aload_n a_X5_read_4 rfl ?_
  refine R_iconst (v := nI 0) a_X5_read_5 rfl ?_
  refine R_putiK (fs' := [_, _]) a_X5_read_6 hD rfl rfl (fun σ hD ho => ?_)
  skip
  refine R_iconst (v := nI 0) a_X5_read_9 rfl ?_
  refine R_istore_n (ls' := [_, _, _, _, _, _]) a_X5_read_10 rfl rfl rfl ?_
  exact lp_read hf hlen hp _ 0 0 (0, 0, 0, 0, 0, T.kd, T.hn, T.kn, T.hf) nf σ _ _ rfl (by omega) (by omega) (TbIn.zero T) ⟨(ho 2 (by omega)).trans ((hf2 2 (by omega)).trans hL), (ho 3 (by omega)).trans ((hf2 3 (by omega)).trans hr), hlen⟩ ⟨hD, (ho 5 (by omega)).trans ((hf2 5 (by omega)).trans hN)⟩ (hT2.kept (fun j h1 h2 => ho j (by omega))) (fun j hj => (ho j (by omega)).trans (hf2 j (by omega)))

