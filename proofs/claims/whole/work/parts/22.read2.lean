/-! ===== Reader ===== -/
def RrP (σ : AHp) (nf : Nat → Nat) (pl : Nat) : Prop := σ 4 = some (oB 5 [.ref 5, .int (nI pl)]) ∧ σ 5 = some (iA 0 3 (nF nf))
theorem LtP.fr {σ σ' : AHp} {f : Nat → Nat} {len a n : Nat} (h : LtP σ f len) (hf : Fr σ σ' a n) (hd : 4 ≤ a ∨ a + n ≤ 2) : LtP σ' f len := ⟨(hf 2 (by omega)).trans h.1, (hf 3 (by omega)).trans h.2.1, h.2.2⟩
theorem fig_lt {c : Nat} (h : fig c = true) : 48 ≤ c ∧ c ≤ 57 := by unfold fig at h; exact of_decide_eq_true h
theorem b2n_0 {b : Bool} (h : b2n b = 0) : b = false := by 
  cases b
  · rfl
  · cases h
theorem b2n_n0 {b : Bool} (h : ¬ b2n b = 0) : b = true := by 
  cases b
  · exact absurd rfl h
  · rfl
theorem tg_lt {f : Nat → Nat} {len : Nat} (hf : ∀ j, j < len → f j < 127) (k : Nat) : tg f len k < 127 := by
  unfold tg
  split
  · exact hf k (by assumption)
  · omega
set_option maxRecDepth 20000 in
theorem ev_readNumber {σ0 : AHp} {f nf : Nat → Nat} {len pl k : Nat} (h : LtP σ0 f len) (hf : ∀ j, j < len → f j < 127) (hR : RrP σ0 nf pl) (hpl : pl < 2 ^ 20) (hk : k < 3) : EvW M_X5_readNumber [.ref 4, .ref 2, .int (nI k)] σ0 (some (.int (nI (b2n (numF (tg f len) pl).isSome)))) (fun σ => ∃ nf' pl', RrP σ nf' pl' ∧ Fr σ0 σ 4 2 ∧ ∀ v q, numF (tg f len) pl = some (v, q) → nf' = uN nf k v ∧ pl' = q) := by
  obtain ⟨hL, hr, hlen⟩ := h
  obtain ⟨hD, hN⟩ := hR
  have hfr : ∀ j, j < 4 ∨ 6 ≤ j → σ0 j = σ0 j := fun _ _ => rfl
  have t0 := tg_lt hf pl
  have t1 := tg_lt hf (pl + 1)
  have b0 := b2n_le (fig (tg f len pl))
  have b1 := b2n_le (fig (tg f len (pl + 1)))
  refine Ev.of (ls := [_, _, _, _]) 1 (by decide) rfl rfl ?_
  refine R_aload_n a_X5_readNumber_0 rfl ?_
  refine R_aload_n a_X5_readNumber_1 rfl ?_
  refine R_get a_X5_readNumber_2 hD rfl ?_
  refine R_callVp a_X5_readNumber_5 hL (ev_at ⟨hL, hr, hlen⟩ (show pl < 2 ^ 30 by omega)) rfl rfl rfl rfl rfl ?_
  refine R_callSp a_X5_readNumber_8 (ev_isFigure (show tg f len pl < 2 ^ 30 by omega)) rfl rfl rfl rfl rfl ?_
  first | with_reducible refine R_if_ne_n a_X5_readNumber_11 (by omega) (fun h11 => ?_) (fun h11 => ?_) | refine R_if_ne a_X5_readNumber_11 (fun h11 => ?_) (fun h11 => ?_)
  · skip
    have hf0 := b2n_n0 h11
    have hf1 := fig_lt hf0
    refine R_aload_n a_X5_readNumber_16 rfl ?_
    refine R_aload_n a_X5_readNumber_17 rfl ?_
    refine R_get a_X5_readNumber_18 hD rfl ?_
    refine R_callVp a_X5_readNumber_21 hL (ev_at ⟨hL, hr, hlen⟩ (show pl < 2 ^ 30 by omega)) rfl rfl rfl rfl rfl ?_
    refine R_bipush (v := nI 48) a_X5_readNumber_24 rfl ?_
    first | with_reducible refine R_isub_n a_X5_readNumber_26 (by omega) ?_ | refine R_isub a_X5_readNumber_26 ?_
    refine R_istore_n (ls' := [_, _, _, _]) a_X5_readNumber_27 rfl rfl rfl ?_
    refine R_aload_n a_X5_readNumber_28 rfl ?_
    refine R_dup a_X5_readNumber_29 rfl ?_
    refine R_get a_X5_readNumber_30 hD rfl ?_
    refine R_iconst (v := nI 1) a_X5_readNumber_33 rfl ?_
    first | with_reducible refine R_iadd_n a_X5_readNumber_34 ?_ | refine R_iadd a_X5_readNumber_34 ?_
    refine R_putiK (fs' := [_, _]) a_X5_readNumber_35 hD rfl rfl (fun σ hD ho => ?_)
    have hN := (ho _ (by omega)).trans hN
    have hL := (ho _ (by omega)).trans hL
    have hr := (ho _ (by omega)).trans hr
    have hfr : ∀ j, j < 4 ∨ 6 ≤ j → σ j = σ0 j := fun j hj => (ho j (by omega)).trans (hfr j hj)
    refine R_aload_n a_X5_readNumber_38 rfl ?_
    refine R_aload_n a_X5_readNumber_39 rfl ?_
    refine R_get a_X5_readNumber_40 hD rfl ?_
    refine R_callVp a_X5_readNumber_43 hL (ev_at ⟨hL, hr, hlen⟩ (show pl + 1 < 2 ^ 30 by omega)) rfl rfl rfl rfl rfl ?_
    refine R_callSp a_X5_readNumber_46 (ev_isFigure (show tg f len (pl + 1) < 2 ^ 30 by omega)) rfl rfl rfl rfl rfl ?_
    first | with_reducible refine R_if_eq_n a_X5_readNumber_49 (by omega) (fun h49 => ?_) (fun h49 => ?_) | refine R_if_eq a_X5_readNumber_49 (fun h49 => ?_) (fun h49 => ?_)
    · skip
      have hn : numF (tg f len) pl = some (tg f len pl - 48, pl + 1) := by unfold numF; rw [if_pos hf0, if_neg (by rw [b2n_0 h49]; decide)]
      refine R_aload_n a_X5_readNumber_79 rfl ?_
      refine R_get a_X5_readNumber_80 hD rfl ?_
      refine R_iload_n a_X5_readNumber_83 rfl ?_
      refine R_iload_n a_X5_readNumber_84 rfl ?_
      refine R_iastK a_X5_readNumber_85 (by omega) hN (by omega) (by decide) (fun σ hN ho => ?_)
      have hD := (ho _ (by omega)).trans hD
      have hL := (ho _ (by omega)).trans hL
      have hr := (ho _ (by omega)).trans hr
      have hfr : ∀ j, j < 4 ∨ 6 ≤ j → σ j = σ0 j := fun j hj => (ho j (by omega)).trans (hfr j hj)
      rw [nF_upd] at hN
      refine R_iconst (v := nI 1) a_X5_readNumber_86 rfl ?_
      refine R_zret_n a_X5_readNumber_87 rfl (by omega) ?_
      exact ⟨by rw [hn]; rfl, _, _, ⟨hD, hN⟩, hfr, fun v q hq => by rw [hn] at hq; cases hq; exact ⟨rfl, rfl⟩⟩
    · skip
      have hg0 := b2n_n0 h49
      have hg1 := fig_lt hg0
      have hn : numF (tg f len) pl = some (10 * (tg f len pl - 48) + (tg f len (pl + 1) - 48), pl + 2) := by unfold numF; rw [if_pos hf0, if_pos hg0]
      refine R_bipush (v := nI 10) a_X5_readNumber_52 rfl ?_
      refine R_iload_n a_X5_readNumber_54 rfl ?_
      first | with_reducible refine R_imul_n a_X5_readNumber_55 ?_ | refine R_imul a_X5_readNumber_55 ?_
      refine R_aload_n a_X5_readNumber_56 rfl ?_
      refine R_aload_n a_X5_readNumber_57 rfl ?_
      refine R_get a_X5_readNumber_58 hD rfl ?_
      refine R_callVp a_X5_readNumber_61 hL (ev_at ⟨hL, hr, hlen⟩ (show pl + 1 < 2 ^ 30 by omega)) rfl rfl rfl rfl rfl ?_
      first | with_reducible refine R_iadd_n a_X5_readNumber_64 ?_ | refine R_iadd a_X5_readNumber_64 ?_
      refine R_bipush (v := nI 48) a_X5_readNumber_65 rfl ?_
      first | with_reducible refine R_isub_n a_X5_readNumber_67 (by omega) ?_ | refine R_isub a_X5_readNumber_67 ?_
      refine R_top (y := nI (10 * (tg f len pl - 48) + (tg f len (pl + 1) - 48))) (congrArg nI (by omega)) ?_
      refine R_istore_n (ls' := [_, _, _, _]) a_X5_readNumber_68 rfl rfl rfl ?_
      refine R_aload_n a_X5_readNumber_69 rfl ?_
      refine R_dup a_X5_readNumber_70 rfl ?_
      refine R_get a_X5_readNumber_71 hD rfl ?_
      refine R_iconst (v := nI 1) a_X5_readNumber_74 rfl ?_
      first | with_reducible refine R_iadd_n a_X5_readNumber_75 ?_ | refine R_iadd a_X5_readNumber_75 ?_
      refine R_putiK (fs' := [_, _]) a_X5_readNumber_76 hD rfl rfl (fun σ hD ho => ?_)
      have hN := (ho _ (by omega)).trans hN
      have hL := (ho _ (by omega)).trans hL
      have hr := (ho _ (by omega)).trans hr
      have hfr : ∀ j, j < 4 ∨ 6 ≤ j → σ j = σ0 j := fun j hj => (ho j (by omega)).trans (hfr j hj)
      refine R_aload_n a_X5_readNumber_79 rfl ?_
      refine R_get a_X5_readNumber_80 hD rfl ?_
      refine R_iload_n a_X5_readNumber_83 rfl ?_
      refine R_iload_n a_X5_readNumber_84 rfl ?_
      refine R_iastK a_X5_readNumber_85 (by omega) hN (by omega) (by decide) (fun σ hN ho => ?_)
      have hD := (ho _ (by omega)).trans hD
      have hL := (ho _ (by omega)).trans hL
      have hr := (ho _ (by omega)).trans hr
      have hfr : ∀ j, j < 4 ∨ 6 ≤ j → σ j = σ0 j := fun j hj => (ho j (by omega)).trans (hfr j hj)
      rw [nF_upd] at hN
      refine R_iconst (v := nI 1) a_X5_readNumber_86 rfl ?_
      refine R_zret_n a_X5_readNumber_87 rfl (by omega) ?_
      exact ⟨by rw [hn]; rfl, _, _, ⟨hD, hN⟩, hfr, fun v q hq => by rw [hn] at hq; cases hq; exact ⟨rfl, rfl⟩⟩
  · skip
    have hn : numF (tg f len) pl = none := by unfold numF; rw [if_neg (by rw [b2n_0 h11]; decide)]
    refine R_iconst (v := nI 0) a_X5_readNumber_14 rfl ?_
    refine R_zret_n a_X5_readNumber_15 rfl (by omega) ?_
    exact ⟨by rw [hn]; rfl, nf, pl, ⟨hD, hN⟩, hfr, fun v q hq => by rw [hn] at hq; cases hq⟩

theorem numF_up {t : Nat → Nat} {p v q : Nat} (h : numF t p = some (v, q)) : p + 1 ≤ q ∧ q ≤ p + 2 ∧ v < 100 := by
  unfold numF at h
  split at h
  · rename_i h1
    have := fig_lt h1
    split at h
    · rename_i h2
      have := fig_lt h2
      cases h
      omega
    · cases h
      omega
  · cases h
set_option maxRecDepth 20000 in
theorem lp_readNumbers {σ0 : AHp} {f : Nat → Nat} {len w : Nat} (hf : ∀ j, j < len → f j < 127) (hw : w ≤ 3) : ∀ (n k pl : Nat) (nf : Nat → Nat) (σ : AHp), w - k = n → k ≤ w → pl < 2 ^ 19 + 3 * k → LtP σ f len → RrP σ nf pl → (∀ j, j < 4 ∨ 6 ≤ j → σ j = σ0 j) → Run M_X5_readNumbers 12 [some (.ref 4), some (.ref 2), some (.int (nI w)), some (.int (nI k))] [] σ 0 0 (fun r σ => r = (some (.int (nI (b2n (decide (0 < w) && (rdF (tg f len) (w - k) k pl nf).isSome))))) ∧ ∃ nf' pl', RrP σ nf' pl' ∧ Fr σ0 σ 4 2 ∧ ∀ g q, rdF (tg f len) (w - k) k pl nf = some (g, q) → nf' = g ∧ pl' = q) := by
  intro n
  induction n using Nat.strongRecOn
  rename_i n ih
  intro k pl nf σ hm hk hpl h hRr hfr
  obtain ⟨hL, hr, hlen⟩ := id h
  obtain ⟨hD, hN⟩ := id hRr
  have hnb := b2n_le (numF (tg f len) pl).isSome
  refine R_iload_n a_X5_readNumbers_12 rfl ?_
  refine R_iload_n a_X5_readNumbers_13 rfl ?_
  first | with_reducible refine R_icmp_ge_n a_X5_readNumbers_14 (by omega) (by omega) (fun h14 => ?_) (fun h14 => ?_) | refine R_icmp_ge a_X5_readNumbers_14 (fun h14 => ?_) (fun h14 => ?_)
  · skip
    have hke : k = w := by omega
    subst hke
    have hz : rdF (tg f len) (k - k) k pl nf = some (nf, pl) := by rw [Nat.sub_self]; rfl
    refine R_iload_n a_X5_readNumbers_69 rfl ?_
    first | with_reducible refine R_if_le_n a_X5_readNumbers_70 (by omega) (fun h70 => ?_) (fun h70 => ?_) | refine R_if_le a_X5_readNumbers_70 (fun h70 => ?_) (fun h70 => ?_)
    · skip
      have hv : (decide (0 < k) && (rdF (tg f len) (k - k) k pl nf).isSome) = false := by rw [decide_eq_false (by omega)]; rfl
      refine R_iconst (v := nI 0) a_X5_readNumbers_77 rfl ?_
      refine R_zret_n a_X5_readNumbers_78 rfl (by omega) ?_
      exact ⟨by rw [hv]; rfl, nf, pl, ⟨hD, hN⟩, hfr, fun g q hq => by rw [hz] at hq; cases hq; exact ⟨rfl, rfl⟩⟩
    · skip
      have hv : (decide (0 < k) && (rdF (tg f len) (k - k) k pl nf).isSome) = true := by rw [decide_eq_true (by omega), hz]; rfl
      refine R_iconst (v := nI 1) a_X5_readNumbers_73 rfl ?_
      refine R_goto a_X5_readNumbers_74 ?_
      refine R_zret_n a_X5_readNumbers_78 rfl (by omega) ?_
      exact ⟨by rw [hv]; rfl, nf, pl, ⟨hD, hN⟩, hfr, fun g q hq => by rw [hz] at hq; cases hq; exact ⟨rfl, rfl⟩⟩
  · skip
    refine R_aload_n a_X5_readNumbers_17 rfl ?_
    refine R_aload_n a_X5_readNumbers_18 rfl ?_
    refine R_iload_n a_X5_readNumbers_19 rfl ?_
    refine R_callVs a_X5_readNumbers_20 hD (ev_readNumber h hf hRr (by omega) (by omega)) rfl rfl rfl rfl rfl (fun σ hP => ?_)
    obtain ⟨nf1, pl1, hRr1, hf1, hv1⟩ := hP
    obtain ⟨hD, hN⟩ := hRr1
    have hL := (hf1 2 (by omega)).trans hL
    have hr := (hf1 3 (by omega)).trans hr
    have hfr : ∀ j, j < 4 ∨ 6 ≤ j → σ j = σ0 j := fun j hj => (hf1 j (by omega)).trans (hfr j hj)
    first | with_reducible refine R_if_eq_n a_X5_readNumbers_23 (by omega) (fun h23 => ?_) (fun h23 => ?_) | refine R_if_eq a_X5_readNumbers_23 (fun h23 => ?_) (fun h23 => ?_)
    · skip
      have hn : rdF (tg f len) (w - k) k pl nf = none := by
        rw [show w - k = (w - (k + 1)) + 1 by omega, rdF]
        have := b2n_0 h23
        rw [Option.isSome_eq_false_iff, Option.isNone_iff_eq_none] at this
        rw [this]
      refine R_iconst (v := nI 0) a_X5_readNumbers_51 rfl ?_
      refine R_zret_n a_X5_readNumbers_52 rfl (by omega) ?_
      exact ⟨by rw [hn]; simp; rfl, _, _, ⟨hD, hN⟩, hfr, fun g q hq => by rw [hn] at hq; cases hq⟩
    · skip
      obtain ⟨⟨v0, q0⟩, hq0⟩ := Option.isSome_iff_exists.mp (b2n_n0 h23)
      have hv1 := hv1 v0 q0 hq0
      have hup := numF_up hq0
      have t0 := tg_lt hf pl1
      refine R_aload_n a_X5_readNumbers_26 rfl ?_
      refine R_aload_n a_X5_readNumbers_27 rfl ?_
      refine R_get a_X5_readNumbers_28 hD rfl ?_
      refine R_callVp a_X5_readNumbers_31 hL (ev_at ⟨hL, hr, hlen⟩ (show pl1 < 2 ^ 30 by omega)) rfl rfl rfl rfl rfl ?_
      refine R_iload_n a_X5_readNumbers_34 rfl ?_
      refine R_iload_n a_X5_readNumbers_35 rfl ?_
      refine R_iconst (v := nI 1) a_X5_readNumbers_36 rfl ?_
      first | with_reducible refine R_isub_n a_X5_readNumbers_37 (by omega) ?_ | refine R_isub a_X5_readNumbers_37 ?_
      first | with_reducible refine R_icmp_ne_n a_X5_readNumbers_38 (by omega) (by omega) (fun h38 => ?_) (fun h38 => ?_) | refine R_icmp_ne a_X5_readNumbers_38 (fun h38 => ?_) (fun h38 => ?_)
      · skip
        refine R_bipush (v := nI 44) a_X5_readNumbers_46 rfl ?_
        first | with_reducible refine R_icmp_eq_n a_X5_readNumbers_48 (by omega) (by omega) (fun h48 => ?_) (fun h48 => ?_) | refine R_icmp_eq a_X5_readNumbers_48 (fun h48 => ?_) (fun h48 => ?_)
        · skip
          refine R_aload_n a_X5_readNumbers_53 rfl ?_
          refine R_dup a_X5_readNumbers_54 rfl ?_
          refine R_get a_X5_readNumbers_55 hD rfl ?_
          refine R_iconst (v := nI 1) a_X5_readNumbers_58 rfl ?_
          first | with_reducible refine R_iadd_n a_X5_readNumbers_59 ?_ | refine R_iadd a_X5_readNumbers_59 ?_
          refine R_putiK (fs' := [_, _]) a_X5_readNumbers_60 hD rfl rfl (fun σ hD ho => ?_)
          have hN := (ho _ (by omega)).trans hN
          have hL := (ho _ (by omega)).trans hL
          have hr := (ho _ (by omega)).trans hr
          have hfr : ∀ j, j < 4 ∨ 6 ≤ j → σ j = σ0 j := fun j hj => (ho j (by omega)).trans (hfr j hj)
          first | with_reducible refine R_iinc_n (ls' := [_, _, _, _]) a_X5_readNumbers_63 rfl rfl rfl rfl ?_ | refine R_iinc (ls' := [_, _, _, _]) a_X5_readNumbers_63 rfl rfl rfl rfl rfl ?_
          refine R_goto a_X5_readNumbers_66 ?_
          have hih := ih _ (show w - (k + 1) < n by omega) (k + 1) (pl1 + 1) nf1 σ rfl (by omega) (by omega) ⟨hL, hr, hlen⟩ ⟨hD, hN⟩ hfr
          have hrr : rdF (tg f len) (w - k) k pl nf = rdF (tg f len) (w - (k + 1)) (k + 1) (pl1 + 1) nf1 := by
            rw [show w - k = (w - (k + 1)) + 1 by omega, rdF, hq0, hv1.1, hv1.2]
            rw [hv1.2] at h48
            refine if_pos ?_
            unfold endC
            first | (rw [if_pos (by omega)]; exact h48) | (rw [if_neg (by omega)]; exact h48)
          rw [← hrr] at hih
          exact hih
        · skip
          have hn : rdF (tg f len) (w - k) k pl nf = none := by
            rw [show w - k = (w - (k + 1)) + 1 by omega, rdF, hq0]
            refine if_neg ?_
            rw [← hv1.2]
            unfold endC
            first | (rw [if_pos (by omega)]; exact h48) | (rw [if_neg (by omega)]; exact h48)
          refine R_iconst (v := nI 0) a_X5_readNumbers_51 rfl ?_
          refine R_zret_n a_X5_readNumbers_52 rfl (by omega) ?_
          exact ⟨by rw [hn]; simp; rfl, _, _, ⟨hD, hN⟩, hfr, fun g q hq => by rw [hn] at hq; cases hq⟩
      · skip
        refine R_bipush (v := nI 59) a_X5_readNumbers_41 rfl ?_
        refine R_goto a_X5_readNumbers_43 ?_
        first | with_reducible refine R_icmp_eq_n a_X5_readNumbers_48 (by omega) (by omega) (fun h48 => ?_) (fun h48 => ?_) | refine R_icmp_eq a_X5_readNumbers_48 (fun h48 => ?_) (fun h48 => ?_)
        · skip
          refine R_aload_n a_X5_readNumbers_53 rfl ?_
          refine R_dup a_X5_readNumbers_54 rfl ?_
          refine R_get a_X5_readNumbers_55 hD rfl ?_
          refine R_iconst (v := nI 1) a_X5_readNumbers_58 rfl ?_
          first | with_reducible refine R_iadd_n a_X5_readNumbers_59 ?_ | refine R_iadd a_X5_readNumbers_59 ?_
          refine R_putiK (fs' := [_, _]) a_X5_readNumbers_60 hD rfl rfl (fun σ hD ho => ?_)
          have hN := (ho _ (by omega)).trans hN
          have hL := (ho _ (by omega)).trans hL
          have hr := (ho _ (by omega)).trans hr
          have hfr : ∀ j, j < 4 ∨ 6 ≤ j → σ j = σ0 j := fun j hj => (ho j (by omega)).trans (hfr j hj)
          first | with_reducible refine R_iinc_n (ls' := [_, _, _, _]) a_X5_readNumbers_63 rfl rfl rfl rfl ?_ | refine R_iinc (ls' := [_, _, _, _]) a_X5_readNumbers_63 rfl rfl rfl rfl rfl ?_
          refine R_goto a_X5_readNumbers_66 ?_
          have hih := ih _ (show w - (k + 1) < n by omega) (k + 1) (pl1 + 1) nf1 σ rfl (by omega) (by omega) ⟨hL, hr, hlen⟩ ⟨hD, hN⟩ hfr
          have hrr : rdF (tg f len) (w - k) k pl nf = rdF (tg f len) (w - (k + 1)) (k + 1) (pl1 + 1) nf1 := by
            rw [show w - k = (w - (k + 1)) + 1 by omega, rdF, hq0, hv1.1, hv1.2]
            rw [hv1.2] at h48
            refine if_pos ?_
            unfold endC
            first | (rw [if_pos (by omega)]; exact h48) | (rw [if_neg (by omega)]; exact h48)
          rw [← hrr] at hih
          exact hih
        · skip
          have hn : rdF (tg f len) (w - k) k pl nf = none := by
            rw [show w - k = (w - (k + 1)) + 1 by omega, rdF, hq0]
            refine if_neg ?_
            rw [← hv1.2]
            unfold endC
            first | (rw [if_pos (by omega)]; exact h48) | (rw [if_neg (by omega)]; exact h48)
          refine R_iconst (v := nI 0) a_X5_readNumbers_51 rfl ?_
          refine R_zret_n a_X5_readNumbers_52 rfl (by omega) ?_
          exact ⟨by rw [hn]; simp; rfl, _, _, ⟨hD, hN⟩, hfr, fun g q hq => by rw [hn] at hq; cases hq⟩

set_option maxRecDepth 20000 in
theorem ev_readNumbers {σ0 : AHp} {f nf : Nat → Nat} {len pl w : Nat} (h : LtP σ0 f len) (hf : ∀ j, j < len → f j < 127) (hRr : RrP σ0 nf pl) (hpl : pl < 2 ^ 18) (hw : w ≤ 3) : EvW M_X5_readNumbers [.ref 4, .ref 2, .int (nI w)] σ0 (some (.int (nI (b2n (decide (0 < w) && (rdF (tg f len) w 0 (pl + 1) nf).isSome))))) (fun σ => ∃ nf' pl', RrP σ nf' pl' ∧ Fr σ0 σ 4 2 ∧ ∀ g q, rdF (tg f len) w 0 (pl + 1) nf = some (g, q) → nf' = g ∧ pl' = q) := by
  obtain ⟨hL, hr, hlen⟩ := h
  obtain ⟨hD, hN⟩ := hRr
  have hfr : ∀ j, j < 4 ∨ 6 ≤ j → σ0 j = σ0 j := fun _ _ => rfl
  refine Ev.of (ls := [_, _, _, _]) 1 (by decide) rfl rfl ?_
  refine R_aload_n a_X5_readNumbers_0 rfl ?_
  refine R_dup a_X5_readNumbers_1 rfl ?_
  refine R_get a_X5_readNumbers_2 hD rfl ?_
  refine R_iconst (v := nI 1) a_X5_readNumbers_5 rfl ?_
  first | with_reducible refine R_iadd_n a_X5_readNumbers_6 ?_ | refine R_iadd a_X5_readNumbers_6 ?_
  refine R_putiK (fs' := [_, _]) a_X5_readNumbers_7 hD rfl rfl (fun σ hD ho => ?_)
  have hN := (ho _ (by omega)).trans hN
  have hL := (ho _ (by omega)).trans hL
  have hr := (ho _ (by omega)).trans hr
  have hfr : ∀ j, j < 4 ∨ 6 ≤ j → σ j = σ0 j := fun j hj => (ho j (by omega)).trans (hfr j hj)
  refine R_iconst (v := nI 0) a_X5_readNumbers_10 rfl ?_
  refine R_istore_n (ls' := [_, _, _, _]) a_X5_readNumbers_11 rfl rfl rfl ?_
  exact lp_readNumbers hf hw _ 0 (pl + 1) nf σ rfl (by omega) (by omega) ⟨hL, hr, hlen⟩ ⟨hD, hN⟩ hfr

