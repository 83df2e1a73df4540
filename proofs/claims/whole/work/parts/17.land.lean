/-! ===== pulled, towardDeaf, landing, knownBy, Round.copy ===== -/
theorem farF_pos {g a b : Nat} (ha : a < g) (hb : b < g) (h : a ≠ b) : 1 ≤ farF g a b := by
  rw [farF_eq ha hb]
  split <;> omega
theorem farF_lt {g a b : Nat} (ha : a < g) (hb : b < g) : farF g a b < g := by
  rw [farF_eq ha hb]
  split <;> omega
theorem farF_half {g a b : Nat} (ha : a < g) (hb : b < g) : 2 * farF g a b ≤ g := by
  rw [farF_eq ha hb]
  split <;> omega
set_option maxRecDepth 20000 in
theorem ev_pulled0 {σ : AHp} {p : Nat} {T : Tb} (h : TbP σ p T) (ok : TbOk T) {a i c : Nat} (ha : a < T.g) (hi : i < T.g) (hc : c ≤ 8) : EvP M_X8_pulled [.ref p, .int (nI 0), .int (nI a), .int (nI i), .int (nI c)] σ (.int (nI (drawF T.g a i c 0))) := by
  have hTP := h
  have hok := ok
  obtain ⟨hp0, hT, hk, hh, hn, hf⟩ := h
  obtain ⟨g3, g8, n1, n6, lw, stg, son, kd4, hn10, kn63, hf4⟩ := ok
  refine Ev.of (ls := [_, _, _, _, _, _, _, _]) 3 (by decide) rfl rfl ?_
  refine R_iload_n a_X8_pulled_0 rfl ?_
  refine R_iload_n a_X8_pulled_1 rfl ?_
  first | with_reducible refine R_icmp_ne_n a_X8_pulled_2 (by omega) (by omega) (fun h2 => ?_) (fun h2 => ?_) | refine R_icmp_ne a_X8_pulled_2 (fun h2 => ?_) (fun h2 => ?_)
  · skip
    skip
    refine R_iload_n a_X8_pulled_7 rfl ?_
    refine R_iconst (v := nI 1) a_X8_pulled_8 rfl ?_
    first | with_reducible refine R_icmp_ne_n a_X8_pulled_9 (by omega) (by omega) (fun h9 => ?_) (fun h9 => ?_) | refine R_icmp_ne a_X8_pulled_9 (fun h9 => ?_) (fun h9 => ?_)
    · skip
      refine R_aload_n a_X8_pulled_16 rfl ?_
      refine R_iload_n a_X8_pulled_17 rfl ?_
      refine R_iload_n a_X8_pulled_18 rfl ?_
      refine R_callVp a_X8_pulled_19 hT (ev_shorterWay hTP hok ha hi) rfl rfl rfl rfl rfl ?_
      refine R_istore (ls' := [_, _, _, _, _, _, _, _]) a_X8_pulled_22 rfl rfl rfl ?_
      refine R_iload_n a_X8_pulled_24 rfl ?_
      refine R_iconst (v := nI 1) a_X8_pulled_25 rfl ?_
      first | with_reducible refine R_icmp_ne_n a_X8_pulled_26 (by omega) (by omega) (fun h26 => ?_) (fun h26 => ?_) | refine R_icmp_ne a_X8_pulled_26 (fun h26 => ?_) (fun h26 => ?_)
      · skip
        refine R_aload_n a_X8_pulled_38 rfl ?_
        refine R_iload_n a_X8_pulled_39 rfl ?_
        refine R_iload_n a_X8_pulled_40 rfl ?_
        refine R_callVp a_X8_pulled_41 hT (ev_apart hTP hok ha hi) rfl rfl rfl rfl rfl ?_
        have hfl := farF_half ha hi
        have hfp := farF_pos ha hi h2
        refine R_istore (ls' := [_, _, _, _, _, _, _, _]) a_X8_pulled_44 rfl rfl rfl ?_
        refine R_iload_n a_X8_pulled_46 rfl ?_
        refine R_iconst (v := nI 2) a_X8_pulled_47 rfl ?_
        first | with_reducible refine R_icmp_ne_n a_X8_pulled_48 (by omega) (by omega) (fun h48 => ?_) (fun h48 => ?_) | refine R_icmp_ne a_X8_pulled_48 (fun h48 => ?_) (fun h48 => ?_)
        · skip
          refine R_iload a_X8_pulled_55 rfl ?_
          refine R_iload a_X8_pulled_57 rfl ?_
          refine R_min a_X8_pulled_59 ml_X8_70 rfl rfl ?_
          refine R_top (min_nn (by omega) (by omega)) ?_
          refine R_istore (ls' := [_, _, _, _, _, _, _, _]) a_X8_pulled_62 rfl rfl rfl ?_
          refine R_iload_n a_X8_pulled_64 rfl ?_
          refine R_iconst (v := nI 3) a_X8_pulled_65 rfl ?_
          first | with_reducible refine R_icmp_ne_n a_X8_pulled_66 (by omega) (by omega) (fun h66 => ?_) (fun h66 => ?_) | refine R_icmp_ne a_X8_pulled_66 (fun h66 => ?_) (fun h66 => ?_)
          · skip
            refine R_iload_n a_X8_pulled_75 rfl ?_
            refine R_iload a_X8_pulled_76 rfl ?_
            refine R_iload a_X8_pulled_78 rfl ?_
            refine R_imul a_X8_pulled_80 ?_
            refine R_iadd a_X8_pulled_81 ?_
            refine R_aload_n a_X8_pulled_82 rfl ?_
            refine R_get a_X8_pulled_83 hT rfl ?_
            refine R_callSp a_X8_pulled_86 (ev_remainder (σ := σ) (by omega) (by omega)) rfl rfl rfl rfl rfl ?_
            refine R_iret a_X8_pulled_89 rfl ?_
            exact ⟨by unfold drawF; first | rw [if_pos h2] | (rw [if_neg h2, if_neg (by decide)]; rw [if_pos rfl]; rw [step_way (by omega) (by omega) (by omega) (by omega)]), rfl⟩
          · skip
            exact absurd h66 (by decide)
        · skip
          exact absurd h48 (by decide)
      · skip
        exact absurd h26 (by decide)
    · skip
      exact absurd h9 (by decide)
  · skip
    refine R_iload_n a_X8_pulled_5 rfl ?_
    refine R_iret a_X8_pulled_6 rfl ?_
    exact ⟨by unfold drawF; first | rw [if_pos h2] | (rw [if_neg h2, if_neg (by decide)]; rw [if_pos rfl]; rw [step_way (by omega) (by omega) (by omega) (by omega)]), rfl⟩

set_option maxRecDepth 20000 in
theorem ev_pulled1 {σ : AHp} {p : Nat} {T : Tb} (h : TbP σ p T) (ok : TbOk T) {a i c : Nat} (ha : a < T.g) (hi : i < T.g) (hc : c ≤ 8) : EvP M_X8_pulled [.ref p, .int (nI 1), .int (nI a), .int (nI i), .int (nI c)] σ (.int (nI (drawF T.g a i c 1))) := by
  have hTP := h
  have hok := ok
  obtain ⟨hp0, hT, hk, hh, hn, hf⟩ := h
  obtain ⟨g3, g8, n1, n6, lw, stg, son, kd4, hn10, kn63, hf4⟩ := ok
  refine Ev.of (ls := [_, _, _, _, _, _, _, _]) 3 (by decide) rfl rfl ?_
  refine R_iload_n a_X8_pulled_0 rfl ?_
  refine R_iload_n a_X8_pulled_1 rfl ?_
  first | with_reducible refine R_icmp_ne_n a_X8_pulled_2 (by omega) (by omega) (fun h2 => ?_) (fun h2 => ?_) | refine R_icmp_ne a_X8_pulled_2 (fun h2 => ?_) (fun h2 => ?_)
  · skip
    skip
    refine R_iload_n a_X8_pulled_7 rfl ?_
    refine R_iconst (v := nI 1) a_X8_pulled_8 rfl ?_
    first | with_reducible refine R_icmp_ne_n a_X8_pulled_9 (by omega) (by omega) (fun h9 => ?_) (fun h9 => ?_) | refine R_icmp_ne a_X8_pulled_9 (fun h9 => ?_) (fun h9 => ?_)
    · skip
      exact absurd h9 (by decide)
    · skip
      refine R_iconst (v := nI 1) a_X8_pulled_12 rfl ?_
      refine R_goto a_X8_pulled_13 ?_
      refine R_istore (ls' := [_, _, _, _, _, _, _, _]) a_X8_pulled_22 rfl rfl rfl ?_
      refine R_iload_n a_X8_pulled_24 rfl ?_
      refine R_iconst (v := nI 1) a_X8_pulled_25 rfl ?_
      first | with_reducible refine R_icmp_ne_n a_X8_pulled_26 (by omega) (by omega) (fun h26 => ?_) (fun h26 => ?_) | refine R_icmp_ne a_X8_pulled_26 (fun h26 => ?_) (fun h26 => ?_)
      · skip
        exact absurd h26 (by decide)
      · skip
        refine R_aload_n a_X8_pulled_29 rfl ?_
        refine R_iload_n a_X8_pulled_30 rfl ?_
        refine R_iload_n a_X8_pulled_31 rfl ?_
        refine R_callVp a_X8_pulled_32 hT (ev_upward hTP hok ha hi) rfl rfl rfl rfl rfl ?_
        have hul := upF_lt (g := T.g) (a := a) (b := i) (by omega)
        refine R_goto a_X8_pulled_35 ?_
        refine R_istore (ls' := [_, _, _, _, _, _, _, _]) a_X8_pulled_44 rfl rfl rfl ?_
        refine R_iload_n a_X8_pulled_46 rfl ?_
        refine R_iconst (v := nI 2) a_X8_pulled_47 rfl ?_
        first | with_reducible refine R_icmp_ne_n a_X8_pulled_48 (by omega) (by omega) (fun h48 => ?_) (fun h48 => ?_) | refine R_icmp_ne a_X8_pulled_48 (fun h48 => ?_) (fun h48 => ?_)
        · skip
          refine R_iload a_X8_pulled_55 rfl ?_
          refine R_iload a_X8_pulled_57 rfl ?_
          refine R_min a_X8_pulled_59 ml_X8_70 rfl rfl ?_
          refine R_top (min_nn (by omega) (by omega)) ?_
          refine R_istore (ls' := [_, _, _, _, _, _, _, _]) a_X8_pulled_62 rfl rfl rfl ?_
          refine R_iload_n a_X8_pulled_64 rfl ?_
          refine R_iconst (v := nI 3) a_X8_pulled_65 rfl ?_
          first | with_reducible refine R_icmp_ne_n a_X8_pulled_66 (by omega) (by omega) (fun h66 => ?_) (fun h66 => ?_) | refine R_icmp_ne a_X8_pulled_66 (fun h66 => ?_) (fun h66 => ?_)
          · skip
            refine R_iload_n a_X8_pulled_75 rfl ?_
            refine R_iload a_X8_pulled_76 rfl ?_
            refine R_iload a_X8_pulled_78 rfl ?_
            first | with_reducible refine R_imul_n a_X8_pulled_80 ?_ | refine R_imul a_X8_pulled_80 ?_
            first | with_reducible refine R_iadd_n a_X8_pulled_81 ?_ | refine R_iadd a_X8_pulled_81 ?_
            refine R_aload_n a_X8_pulled_82 rfl ?_
            refine R_get a_X8_pulled_83 hT rfl ?_
            refine R_callSp a_X8_pulled_86 (ev_remainder (σ := σ) (by omega) (by omega)) rfl rfl rfl rfl rfl ?_
            refine R_iret a_X8_pulled_89 rfl ?_
            exact ⟨by unfold drawF; first | rw [if_pos h2] | (rw [if_neg h2, if_pos rfl, fm_nn (by omega) (by omega) (by omega), Nat.one_mul]), rfl⟩
          · skip
            exact absurd h66 (by decide)
        · skip
          exact absurd h48 (by decide)
  · skip
    refine R_iload_n a_X8_pulled_5 rfl ?_
    refine R_iret a_X8_pulled_6 rfl ?_
    exact ⟨by unfold drawF; first | rw [if_pos h2] | (rw [if_neg h2, if_pos rfl, fm_nn (by omega) (by omega) (by omega), Nat.one_mul]), rfl⟩

set_option maxRecDepth 20000 in
theorem ev_pulled2 {σ : AHp} {p : Nat} {T : Tb} (h : TbP σ p T) (ok : TbOk T) {a i c : Nat} (ha : a < T.g) (hi : i < T.g) (hc : c ≤ 8) : EvP M_X8_pulled [.ref p, .int (nI 2), .int (nI a), .int (nI i), .int (nI c)] σ (.int (nI (drawF T.g a i c 2))) := by
  have hTP := h
  have hok := ok
  obtain ⟨hp0, hT, hk, hh, hn, hf⟩ := h
  obtain ⟨g3, g8, n1, n6, lw, stg, son, kd4, hn10, kn63, hf4⟩ := ok
  refine Ev.of (ls := [_, _, _, _, _, _, _, _]) 3 (by decide) rfl rfl ?_
  refine R_iload_n a_X8_pulled_0 rfl ?_
  refine R_iload_n a_X8_pulled_1 rfl ?_
  first | with_reducible refine R_icmp_ne_n a_X8_pulled_2 (by omega) (by omega) (fun h2 => ?_) (fun h2 => ?_) | refine R_icmp_ne a_X8_pulled_2 (fun h2 => ?_) (fun h2 => ?_)
  · skip
    skip
    refine R_iload_n a_X8_pulled_7 rfl ?_
    refine R_iconst (v := nI 1) a_X8_pulled_8 rfl ?_
    first | with_reducible refine R_icmp_ne_n a_X8_pulled_9 (by omega) (by omega) (fun h9 => ?_) (fun h9 => ?_) | refine R_icmp_ne a_X8_pulled_9 (fun h9 => ?_) (fun h9 => ?_)
    · skip
      refine R_aload_n a_X8_pulled_16 rfl ?_
      refine R_iload_n a_X8_pulled_17 rfl ?_
      refine R_iload_n a_X8_pulled_18 rfl ?_
      refine R_callVp a_X8_pulled_19 hT (ev_shorterWay hTP hok ha hi) rfl rfl rfl rfl rfl ?_
      refine R_istore (ls' := [_, _, _, _, _, _, _, _]) a_X8_pulled_22 rfl rfl rfl ?_
      refine R_iload_n a_X8_pulled_24 rfl ?_
      refine R_iconst (v := nI 1) a_X8_pulled_25 rfl ?_
      first | with_reducible refine R_icmp_ne_n a_X8_pulled_26 (by omega) (by omega) (fun h26 => ?_) (fun h26 => ?_) | refine R_icmp_ne a_X8_pulled_26 (fun h26 => ?_) (fun h26 => ?_)
      · skip
        refine R_aload_n a_X8_pulled_38 rfl ?_
        refine R_iload_n a_X8_pulled_39 rfl ?_
        refine R_iload_n a_X8_pulled_40 rfl ?_
        refine R_callVp a_X8_pulled_41 hT (ev_apart hTP hok ha hi) rfl rfl rfl rfl rfl ?_
        have hfl := farF_half ha hi
        have hfp := farF_pos ha hi h2
        refine R_istore (ls' := [_, _, _, _, _, _, _, _]) a_X8_pulled_44 rfl rfl rfl ?_
        refine R_iload_n a_X8_pulled_46 rfl ?_
        refine R_iconst (v := nI 2) a_X8_pulled_47 rfl ?_
        first | with_reducible refine R_icmp_ne_n a_X8_pulled_48 (by omega) (by omega) (fun h48 => ?_) (fun h48 => ?_) | refine R_icmp_ne a_X8_pulled_48 (fun h48 => ?_) (fun h48 => ?_)
        · skip
          exact absurd h48 (by decide)
        · skip
          refine R_iconst (v := nI 1) a_X8_pulled_51 rfl ?_
          refine R_goto a_X8_pulled_52 ?_
          refine R_iload a_X8_pulled_57 rfl ?_
          refine R_min a_X8_pulled_59 ml_X8_70 rfl rfl ?_
          refine R_top (min_nn (by omega) (by omega)) ?_
          refine R_istore (ls' := [_, _, _, _, _, _, _, _]) a_X8_pulled_62 rfl rfl rfl ?_
          refine R_iload_n a_X8_pulled_64 rfl ?_
          refine R_iconst (v := nI 3) a_X8_pulled_65 rfl ?_
          first | with_reducible refine R_icmp_ne_n a_X8_pulled_66 (by omega) (by omega) (fun h66 => ?_) (fun h66 => ?_) | refine R_icmp_ne a_X8_pulled_66 (fun h66 => ?_) (fun h66 => ?_)
          · skip
            refine R_iload_n a_X8_pulled_75 rfl ?_
            refine R_iload a_X8_pulled_76 rfl ?_
            refine R_iload a_X8_pulled_78 rfl ?_
            refine R_imul a_X8_pulled_80 ?_
            refine R_iadd a_X8_pulled_81 ?_
            refine R_aload_n a_X8_pulled_82 rfl ?_
            refine R_get a_X8_pulled_83 hT rfl ?_
            refine R_callSp a_X8_pulled_86 (ev_remainder (σ := σ) (by omega) (by omega)) rfl rfl rfl rfl rfl ?_
            refine R_iret a_X8_pulled_89 rfl ?_
            exact ⟨by unfold drawF; first | rw [if_pos h2] | (rw [if_neg h2, if_neg (by decide)]; rw [if_neg (by decide), if_pos rfl]; rw [step_way (by omega) (by omega) (by omega) (by omega)]; rw [show min 1 (farF T.g a i) = 1 by omega]), rfl⟩
          · skip
            exact absurd h66 (by decide)
      · skip
        exact absurd h26 (by decide)
    · skip
      exact absurd h9 (by decide)
  · skip
    refine R_iload_n a_X8_pulled_5 rfl ?_
    refine R_iret a_X8_pulled_6 rfl ?_
    exact ⟨by unfold drawF; first | rw [if_pos h2] | (rw [if_neg h2, if_neg (by decide)]; rw [if_neg (by decide), if_pos rfl]; rw [step_way (by omega) (by omega) (by omega) (by omega)]; rw [show min 1 (farF T.g a i) = 1 by omega]), rfl⟩

set_option maxRecDepth 20000 in
theorem ev_pulled3 {σ : AHp} {p : Nat} {T : Tb} (h : TbP σ p T) (ok : TbOk T) {a i c : Nat} (ha : a < T.g) (hi : i < T.g) (hc : c ≤ 8) : EvP M_X8_pulled [.ref p, .int (nI 3), .int (nI a), .int (nI i), .int (nI c)] σ (.int (nI (drawF T.g a i c 3))) := by
  have hTP := h
  have hok := ok
  obtain ⟨hp0, hT, hk, hh, hn, hf⟩ := h
  obtain ⟨g3, g8, n1, n6, lw, stg, son, kd4, hn10, kn63, hf4⟩ := ok
  refine Ev.of (ls := [_, _, _, _, _, _, _, _]) 3 (by decide) rfl rfl ?_
  refine R_iload_n a_X8_pulled_0 rfl ?_
  refine R_iload_n a_X8_pulled_1 rfl ?_
  first | with_reducible refine R_icmp_ne_n a_X8_pulled_2 (by omega) (by omega) (fun h2 => ?_) (fun h2 => ?_) | refine R_icmp_ne a_X8_pulled_2 (fun h2 => ?_) (fun h2 => ?_)
  · skip
    skip
    refine R_iload_n a_X8_pulled_7 rfl ?_
    refine R_iconst (v := nI 1) a_X8_pulled_8 rfl ?_
    first | with_reducible refine R_icmp_ne_n a_X8_pulled_9 (by omega) (by omega) (fun h9 => ?_) (fun h9 => ?_) | refine R_icmp_ne a_X8_pulled_9 (fun h9 => ?_) (fun h9 => ?_)
    · skip
      refine R_aload_n a_X8_pulled_16 rfl ?_
      refine R_iload_n a_X8_pulled_17 rfl ?_
      refine R_iload_n a_X8_pulled_18 rfl ?_
      refine R_callVp a_X8_pulled_19 hT (ev_shorterWay hTP hok ha hi) rfl rfl rfl rfl rfl ?_
      refine R_istore (ls' := [_, _, _, _, _, _, _, _]) a_X8_pulled_22 rfl rfl rfl ?_
      refine R_iload_n a_X8_pulled_24 rfl ?_
      refine R_iconst (v := nI 1) a_X8_pulled_25 rfl ?_
      first | with_reducible refine R_icmp_ne_n a_X8_pulled_26 (by omega) (by omega) (fun h26 => ?_) (fun h26 => ?_) | refine R_icmp_ne a_X8_pulled_26 (fun h26 => ?_) (fun h26 => ?_)
      · skip
        refine R_aload_n a_X8_pulled_38 rfl ?_
        refine R_iload_n a_X8_pulled_39 rfl ?_
        refine R_iload_n a_X8_pulled_40 rfl ?_
        refine R_callVp a_X8_pulled_41 hT (ev_apart hTP hok ha hi) rfl rfl rfl rfl rfl ?_
        have hfl := farF_half ha hi
        have hfp := farF_pos ha hi h2
        refine R_istore (ls' := [_, _, _, _, _, _, _, _]) a_X8_pulled_44 rfl rfl rfl ?_
        refine R_iload_n a_X8_pulled_46 rfl ?_
        refine R_iconst (v := nI 2) a_X8_pulled_47 rfl ?_
        first | with_reducible refine R_icmp_ne_n a_X8_pulled_48 (by omega) (by omega) (fun h48 => ?_) (fun h48 => ?_) | refine R_icmp_ne a_X8_pulled_48 (fun h48 => ?_) (fun h48 => ?_)
        · skip
          refine R_iload a_X8_pulled_55 rfl ?_
          refine R_iload a_X8_pulled_57 rfl ?_
          refine R_min a_X8_pulled_59 ml_X8_70 rfl rfl ?_
          refine R_top (min_nn (by omega) (by omega)) ?_
          refine R_istore (ls' := [_, _, _, _, _, _, _, _]) a_X8_pulled_62 rfl rfl rfl ?_
          refine R_iload_n a_X8_pulled_64 rfl ?_
          refine R_iconst (v := nI 3) a_X8_pulled_65 rfl ?_
          first | with_reducible refine R_icmp_ne_n a_X8_pulled_66 (by omega) (by omega) (fun h66 => ?_) (fun h66 => ?_) | refine R_icmp_ne a_X8_pulled_66 (fun h66 => ?_) (fun h66 => ?_)
          · skip
            exact absurd h66 (by decide)
          · skip
            refine R_iload a_X8_pulled_69 rfl ?_
            refine R_iconst (v := nI 1) a_X8_pulled_71 rfl ?_
            first | with_reducible refine R_iadd_n a_X8_pulled_72 ?_ | refine R_iadd a_X8_pulled_72 ?_
            refine R_istore (ls' := [_, _, _, _, _, _, _, _]) a_X8_pulled_73 rfl rfl rfl ?_
            refine R_iload_n a_X8_pulled_75 rfl ?_
            refine R_iload a_X8_pulled_76 rfl ?_
            refine R_iload a_X8_pulled_78 rfl ?_
            refine R_imul a_X8_pulled_80 ?_
            refine R_iadd a_X8_pulled_81 ?_
            refine R_aload_n a_X8_pulled_82 rfl ?_
            refine R_get a_X8_pulled_83 hT rfl ?_
            refine R_callSp a_X8_pulled_86 (ev_remainder (σ := σ) (by omega) (by omega)) rfl rfl rfl rfl rfl ?_
            refine R_iret a_X8_pulled_89 rfl ?_
            exact ⟨by unfold drawF; first | rw [if_pos h2] | (rw [if_neg h2, if_neg (by decide)]; rw [if_neg (by decide), if_neg (by decide)]; rw [step_way (by omega) (by omega) (by omega) (by omega)]), rfl⟩
        · skip
          exact absurd h48 (by decide)
      · skip
        exact absurd h26 (by decide)
    · skip
      exact absurd h9 (by decide)
  · skip
    refine R_iload_n a_X8_pulled_5 rfl ?_
    refine R_iret a_X8_pulled_6 rfl ?_
    exact ⟨by unfold drawF; first | rw [if_pos h2] | (rw [if_neg h2, if_neg (by decide)]; rw [if_neg (by decide), if_neg (by decide)]; rw [step_way (by omega) (by omega) (by omega) (by omega)]), rfl⟩

theorem ev_pulled {σ : AHp} {p : Nat} {T : Tb} (h : TbP σ p T) (ok : TbOk T) {a i c law : Nat} (ha : a < T.g) (hi : i < T.g) (hc : c ≤ 8) (hl : law < 4) : EvP M_X8_pulled [.ref p, .int (nI law), .int (nI a), .int (nI i), .int (nI c)] σ (.int (nI (drawF T.g a i c law))) := by
  rcases (show law = 0 ∨ law = 1 ∨ law = 2 ∨ law = 3 by omega) with rfl | rfl | rfl | rfl
  · exact ev_pulled0 h ok ha hi hc
  · exact ev_pulled1 h ok ha hi hc
  · exact ev_pulled2 h ok ha hi hc
  · exact ev_pulled3 h ok ha hi hc
/-- what the loop of towardDeaf holds: the goal and how near it is -/
def dGoal (a : Nat) (d : Option Nat) : Nat := d.getD a
def dNear (g a : Nat) (d : Option Nat) : Nat := match d with
  | none => g
  | some d => farF g a d
theorem deaf_lt {T : Tb} {a : Nat} {P : Nat → Bool} : ∀ {k d : Nat}, deafF T a P k = some d → d < k := by
  intro k
  induction k with
  | zero => intro d h; cases h
  | succ k ih =>
    intro d h
    unfold deafF at h
    split at h
    · cases h; omega
    · have := ih h; omega
theorem deaf_yes {T : Tb} {a k : Nat} {P : Nat → Bool} (hk : k < T.g) (ha : a < T.g) (h1 : T.kd k = 1) (h2 : farF T.g a k < dNear T.g a (deafF T a P k)) (h3 : P k = false) : deafF T a P (k + 1) = some k := by
  rw [deafF]
  refine if_pos ⟨h1, h3, ?_⟩
  cases hd : deafF T a P k with
  | none => rfl
  | some d =>
    rw [hd] at h2
    exact decide_eq_true h2
theorem deaf_no {T : Tb} {a k : Nat} {P : Nat → Bool} (hk : k < T.g) (ha : a < T.g) (h : T.kd k ≠ 1 ∨ dNear T.g a (deafF T a P k) ≤ farF T.g a k ∨ P k = true) : deafF T a P (k + 1) = deafF T a P k := by
  rw [deafF]
  refine if_neg (fun ⟨h1, h2, h3⟩ => ?_)
  rcases h with h | h | h
  · exact h h1
  · cases hd : deafF T a P k with
    | none =>
      rw [hd] at h
      have := farF_lt ha hk
      simp only [dNear] at h
      omega
    | some d =>
      rw [hd] at h h3
      simp only [Option.all_some, decide_eq_true_eq] at h3
      simp only [dNear] at h
      omega
  · rw [h] at h2; cases h2
set_option maxRecDepth 20000 in
theorem lp_towardDeaf {σ : AHp} {p r : Nat} {T : Tb} {R : Rs} (h : TbP σ p T) (ok : TbOk T) (hRP : RdP σ r R) (hr : RdOk T R) {a : Nat} (ha : a < T.g) : ∀ (n k : Nat) (x6 : Option Value), T.g - k = n → k ≤ T.g → okS [none, none, none, none, none, none, x6] 6 = true → Run M_X8_towardDeaf 11 [some (.ref p), some (.int (nI a)), some (.ref r), some (.int (nI (dGoal a (deafF T a (spk (cd R 0) (cd R 1)) k)))), some (.int (nI (dNear T.g a (deafF T a (spk (cd R 0) (cd R 1)) k)))), some (.int (nI k)), x6] [] σ 0 0 (fun r' σ' => r' = some (.int (nI (hushF T a (spk (cd R 0) (cd R 1))))) ∧ σ' = σ) := by
  have hTP := h
  have hok := ok
  obtain ⟨hp0, hT, hk, hh, hn, hf⟩ := h
  obtain ⟨g3, g8, n1, n6, lw, stg, son, kd4, hn10, kn63, hf4⟩ := ok
  obtain ⟨hr0, hR, -⟩ := id hRP
  intro n
  induction n using Nat.strongRecOn
  rename_i n ih
  intro k x6 hm hk8 hx6
  have hgl : dGoal a (deafF T a (spk (cd R 0) (cd R 1)) k) < T.g := by
    unfold dGoal
    cases hd : deafF T a (spk (cd R 0) (cd R 1)) k with
    | none => exact ha
    | some d => have := deaf_lt hd; simp only [Option.getD_some]; omega
  have hnl : dNear T.g a (deafF T a (spk (cd R 0) (cd R 1)) k) ≤ 8 := by
    unfold dNear
    cases hd : deafF T a (spk (cd R 0) (cd R 1)) k with
    | none => exact g8
    | some d => have := farF_lt ha (show d < T.g by have := deaf_lt hd; omega); simp only; omega
  have hsb := b2n_le (spk (cd R 0) (cd R 1) k)
  refine R_iload a_X8_towardDeaf_11 rfl ?_
  refine R_aload_n a_X8_towardDeaf_13 rfl ?_
  refine R_get a_X8_towardDeaf_14 hT rfl ?_
  first | with_reducible refine R_icmp_ge_n a_X8_towardDeaf_17 (by omega) (by omega) (fun h17 => ?_) (fun h17 => ?_) | refine R_icmp_ge a_X8_towardDeaf_17 (fun h17 => ?_) (fun h17 => ?_)
  · skip
    have hke : k = T.g := by omega
    subst hke
    refine R_iload_n a_X8_towardDeaf_69 rfl ?_
    refine R_iload_n a_X8_towardDeaf_70 rfl ?_
    first | with_reducible refine R_icmp_ne_n a_X8_towardDeaf_71 (by omega) (by omega) (fun h71 => ?_) (fun h71 => ?_) | refine R_icmp_ne a_X8_towardDeaf_71 (fun h71 => ?_) (fun h71 => ?_)
    · skip
      have hfin : hushF T a (spk (cd R 0) (cd R 1)) = stepF T.g a (dGoal a (deafF T a (spk (cd R 0) (cd R 1)) T.g)) 1 := by
        unfold hushF
        cases hd : deafF T a (spk (cd R 0) (cd R 1)) T.g with
        | none => rw [hd] at h71; exact absurd rfl h71
        | some d => rw [hd] at h71; exact if_neg h71
      refine R_iload_n a_X8_towardDeaf_78 rfl ?_
      refine R_aload_n a_X8_towardDeaf_79 rfl ?_
      refine R_iload_n a_X8_towardDeaf_80 rfl ?_
      refine R_iload_n a_X8_towardDeaf_81 rfl ?_
      refine R_callVp a_X8_towardDeaf_82 hT (ev_shorterWay hTP hok ha hgl) rfl rfl rfl rfl rfl ?_
      refine R_iadd a_X8_towardDeaf_85 ?_
      refine R_aload_n a_X8_towardDeaf_86 rfl ?_
      refine R_get a_X8_towardDeaf_87 hT rfl ?_
      refine R_callSp a_X8_towardDeaf_90 (ev_remainder (σ := σ) (by omega) (by omega)) rfl rfl rfl rfl rfl ?_
      refine R_top (y := nI (stepF T.g a (dGoal a (deafF T a (spk (cd R 0) (cd R 1)) T.g)) 1)) ?_ ?_
      · rw [← step_way (by omega) (by omega) (by omega) (by omega)]
        rw [show wayF T.g a (dGoal a (deafF T a (spk (cd R 0) (cd R 1)) T.g)) * nI 1 = wayF T.g a (dGoal a (deafF T a (spk (cd R 0) (cd R 1)) T.g)) from Int32.mul_one _]
      refine R_iret a_X8_towardDeaf_93 rfl ?_
      exact ⟨by rw [hfin], rfl⟩
    · skip
      have hfin : hushF T a (spk (cd R 0) (cd R 1)) = a := by
        unfold hushF
        cases hd : deafF T a (spk (cd R 0) (cd R 1)) T.g with
        | none => rfl
        | some d => rw [hd] at h71; exact if_pos h71
      refine R_iload_n a_X8_towardDeaf_74 rfl ?_
      refine R_goto a_X8_towardDeaf_75 ?_
      refine R_iret a_X8_towardDeaf_93 rfl ?_
      exact ⟨by rw [hfin], rfl⟩
  · skip
    refine R_aload_n a_X8_towardDeaf_20 rfl ?_
    refine R_iload_n a_X8_towardDeaf_21 rfl ?_
    refine R_iload a_X8_towardDeaf_22 rfl ?_
    refine R_callVp a_X8_towardDeaf_24 hT (ev_apart hTP hok ha (show k < T.g by omega)) rfl rfl rfl rfl rfl ?_
    have hfl := farF_lt ha (show k < T.g by omega)
    have hkk := kd4 k (by omega)
    refine R_istore (ls' := [_, _, _, _, _, _, _]) a_X8_towardDeaf_27 rfl rfl rfl ?_
    refine R_aload_n a_X8_towardDeaf_29 rfl ?_
    refine R_get a_X8_towardDeaf_30 hT rfl ?_
    refine R_iload a_X8_towardDeaf_33 rfl ?_
    refine R_iald_n a_X8_towardDeaf_35 hk (by omega) (by decide) ?_
    refine R_iconst (v := nI 1) a_X8_towardDeaf_36 rfl ?_
    first | with_reducible refine R_icmp_ne_n a_X8_towardDeaf_37 (by omega) (by omega) (fun h37 => ?_) (fun h37 => ?_) | refine R_icmp_ne a_X8_towardDeaf_37 (fun h37 => ?_) (fun h37 => ?_)
    · skip
      have hnx : deafF T a (spk (cd R 0) (cd R 1)) (k + 1) = deafF T a (spk (cd R 0) (cd R 1)) k := deaf_no (by omega) ha (Or.inl h37)
      first | with_reducible refine R_iinc_n (ls' := [_, _, _, _, _, _, _]) a_X8_towardDeaf_63 rfl rfl rfl rfl ?_ | refine R_iinc (ls' := [_, _, _, _, _, _, _]) a_X8_towardDeaf_63 rfl rfl rfl rfl rfl ?_
      refine R_goto a_X8_towardDeaf_66 ?_
      have hih := ih _ (show T.g - (k + 1) < n by omega) (k + 1) (some (.int (nI (farF T.g a k)))) rfl (by omega) rfl
      rw [hnx] at hih
      exact hih
    · skip
      refine R_iload a_X8_towardDeaf_40 rfl ?_
      refine R_iload a_X8_towardDeaf_42 rfl ?_
      first | with_reducible refine R_icmp_ge_n a_X8_towardDeaf_44 (by omega) (by omega) (fun h44 => ?_) (fun h44 => ?_) | refine R_icmp_ge a_X8_towardDeaf_44 (fun h44 => ?_) (fun h44 => ?_)
      · skip
        have hnx : deafF T a (spk (cd R 0) (cd R 1)) (k + 1) = deafF T a (spk (cd R 0) (cd R 1)) k := deaf_no (by omega) ha (Or.inr (Or.inl h44))
        first | with_reducible refine R_iinc_n (ls' := [_, _, _, _, _, _, _]) a_X8_towardDeaf_63 rfl rfl rfl rfl ?_ | refine R_iinc (ls' := [_, _, _, _, _, _, _]) a_X8_towardDeaf_63 rfl rfl rfl rfl rfl ?_
        refine R_goto a_X8_towardDeaf_66 ?_
        have hih := ih _ (show T.g - (k + 1) < n by omega) (k + 1) (some (.int (nI (farF T.g a k)))) rfl (by omega) rfl
        rw [hnx] at hih
        exact hih
      · skip
        refine R_aload_n a_X8_towardDeaf_47 rfl ?_
        refine R_iload a_X8_towardDeaf_48 rfl ?_
        refine R_callVp a_X8_towardDeaf_50 hR (ev_isSpeaker hRP hok hr (show k < 8 by omega)) rfl rfl rfl rfl rfl ?_
        first | with_reducible refine R_if_ne_n a_X8_towardDeaf_53 (by omega) (fun h53 => ?_) (fun h53 => ?_) | refine R_if_ne a_X8_towardDeaf_53 (fun h53 => ?_) (fun h53 => ?_)
        · skip
          have hsk : spk (cd R 0) (cd R 1) k = true := by cases hq : spk (cd R 0) (cd R 1) k with
            | true => rfl
            | false => rw [hq] at h53; exact absurd rfl h53
          have hnx : deafF T a (spk (cd R 0) (cd R 1)) (k + 1) = deafF T a (spk (cd R 0) (cd R 1)) k := deaf_no (by omega) ha (Or.inr (Or.inr hsk))
          first | with_reducible refine R_iinc_n (ls' := [_, _, _, _, _, _, _]) a_X8_towardDeaf_63 rfl rfl rfl rfl ?_ | refine R_iinc (ls' := [_, _, _, _, _, _, _]) a_X8_towardDeaf_63 rfl rfl rfl rfl rfl ?_
          refine R_goto a_X8_towardDeaf_66 ?_
          have hih := ih _ (show T.g - (k + 1) < n by omega) (k + 1) (some (.int (nI (farF T.g a k)))) rfl (by omega) rfl
          rw [hnx] at hih
          exact hih
        · skip
          have hsk : spk (cd R 0) (cd R 1) k = false := by cases hq : spk (cd R 0) (cd R 1) k with
            | true => rw [hq] at h53; cases h53
            | false => rfl
          have hnx : deafF T a (spk (cd R 0) (cd R 1)) (k + 1) = some k := deaf_yes (by omega) ha h37 h44 hsk
          refine R_iload a_X8_towardDeaf_56 rfl ?_
          refine R_istore_n (ls' := [_, _, _, _, _, _, _]) a_X8_towardDeaf_58 rfl rfl rfl ?_
          refine R_iload a_X8_towardDeaf_59 rfl ?_
          refine R_istore (ls' := [_, _, _, _, _, _, _]) a_X8_towardDeaf_61 rfl rfl rfl ?_
          first | with_reducible refine R_iinc_n (ls' := [_, _, _, _, _, _, _]) a_X8_towardDeaf_63 rfl rfl rfl rfl ?_ | refine R_iinc (ls' := [_, _, _, _, _, _, _]) a_X8_towardDeaf_63 rfl rfl rfl rfl rfl ?_
          refine R_goto a_X8_towardDeaf_66 ?_
          have hih := ih _ (show T.g - (k + 1) < n by omega) (k + 1) (some (.int (nI (farF T.g a k)))) rfl (by omega) rfl
          rw [hnx] at hih
          exact hih

set_option maxRecDepth 20000 in
theorem ev_towardDeaf {σ : AHp} {p r : Nat} {T : Tb} {R : Rs} (h : TbP σ p T) (ok : TbOk T) (hRP : RdP σ r R) (hr : RdOk T R) {a : Nat} (ha : a < T.g) : EvP M_X8_towardDeaf [.ref p, .int (nI a), .ref r] σ (.int (nI (hushF T a (spk (cd R 0) (cd R 1))))) := by
  have hTP := h
  have hok := ok
  obtain ⟨hp0, hT, hk, hh, hn, hf⟩ := h
  obtain ⟨g3, g8, n1, n6, lw, stg, son, kd4, hn10, kn63, hf4⟩ := ok
  refine Ev.of (ls := [_, _, _, _, _, _, _]) 4 (by decide) rfl rfl ?_
  refine R_iload_n a_X8_towardDeaf_0 rfl ?_
  refine R_istore_n (ls' := [_, _, _, _, _, _, _]) a_X8_towardDeaf_1 rfl rfl rfl ?_
  refine R_aload_n a_X8_towardDeaf_2 rfl ?_
  refine R_get a_X8_towardDeaf_3 hT rfl ?_
  refine R_istore (ls' := [_, _, _, _, _, _, _]) a_X8_towardDeaf_6 rfl rfl rfl ?_
  refine R_iconst (v := nI 0) a_X8_towardDeaf_8 rfl ?_
  refine R_istore (ls' := [_, _, _, _, _, _, _]) a_X8_towardDeaf_9 rfl rfl rfl ?_
  exact lp_towardDeaf hTP hok hRP hr ha _ 0 none rfl (by omega) rfl

theorem cntOf_le {T : Tb} {R : Rs} (ok : TbOk T) (hr : RdOk T R) (k w : Nat) : cntOf T (cd R k) w ≤ 8 := by
  unfold cntOf
  split
  · rename_i hu
    rcases Nat.lt_or_ge k R.sp with q | q
    · obtain ⟨-, -, h3, -⟩ := cd_in ok hr q
      rw [h3]
      exact cnt_le ok _ (hr.2 k q).2.1
    · rw [cd_out q, untr_128] at hu; cases hu
  · omega
set_option maxRecDepth 20000 in
theorem ev_landing {σ : AHp} {p r : Nat} {T : Tb} {R : Rs} (h : TbP σ p T) (ok : TbOk T) (hRP : RdP σ r R) (hr : RdOk T R) {a w law : Nat} (ha : a < T.g) (hw : w < 2 ^ 31) (hl : law < 4) : EvP M_X8_landing [.ref p, .int (nI law), .int (nI w), .int (nI a), .ref r] σ (.int (nI (comesF T a (cd R 0) (cd R 1) w law))) := by
  have hTP := h
  have hok := ok
  obtain ⟨hp0, hT, hk, hh, hn, hf⟩ := h
  obtain ⟨g3, g8, n1, n6, lw, stg, son, kd4, hn10, kn63, hf4⟩ := ok
  obtain ⟨hr0, hR, hw0, ht, hs⟩ := id hRP
  have hc8 := cntOf_le hok hr 0 w
  have hd8 := cntOf_le hok hr 1 w
  refine Ev.of (ls := [_, _, _, _, _, _, _]) 2 (by decide) rfl rfl ?_
  refine R_aload a_X8_landing_0 rfl ?_
  refine R_aload_n a_X8_landing_2 rfl ?_
  refine R_iconst (v := nI 0) a_X8_landing_3 rfl ?_
  refine R_iload_n a_X8_landing_4 rfl ?_
  refine R_callVp a_X8_landing_5 hR (ev_Rtally hRP hok hr hTP (k := 0) (by omega) hw) rfl rfl rfl rfl rfl ?_
  refine R_istore (ls' := [_, _, _, _, _, _, _]) a_X8_landing_8 rfl rfl rfl ?_
  refine R_aload a_X8_landing_10 rfl ?_
  refine R_aload_n a_X8_landing_12 rfl ?_
  refine R_iconst (v := nI 1) a_X8_landing_13 rfl ?_
  refine R_iload_n a_X8_landing_14 rfl ?_
  refine R_callVp a_X8_landing_15 hR (ev_Rtally hRP hok hr hTP (k := 1) (by omega) hw) rfl rfl rfl rfl rfl ?_
  refine R_istore (ls' := [_, _, _, _, _, _, _]) a_X8_landing_18 rfl rfl rfl ?_
  refine R_iload a_X8_landing_20 rfl ?_
  first | with_reducible refine R_if_ne_n a_X8_landing_22 (by omega) (fun h22 => ?_) (fun h22 => ?_) | refine R_if_ne a_X8_landing_22 (fun h22 => ?_) (fun h22 => ?_)
  · skip
    have hn0 : ¬ (cntOf T (cd R 0) w = 0 ∧ cntOf T (cd R 1) w = 0) := fun q => h22 q.1
    refine R_iload a_X8_landing_38 rfl ?_
    refine R_iload a_X8_landing_40 rfl ?_
    first | with_reducible refine R_icmp_ne_n a_X8_landing_42 (by omega) (by omega) (fun h42 => ?_) (fun h42 => ?_) | refine R_icmp_ne a_X8_landing_42 (fun h42 => ?_) (fun h42 => ?_)
    · skip
      refine R_iload a_X8_landing_47 rfl ?_
      refine R_iload a_X8_landing_49 rfl ?_
      first | with_reducible refine R_icmp_le_n a_X8_landing_51 (by omega) (by omega) (fun h51 => ?_) (fun h51 => ?_) | refine R_icmp_le a_X8_landing_51 (fun h51 => ?_) (fun h51 => ?_)
      · skip
        have hk1 : 1 < R.sp := by
          rcases Nat.lt_or_ge 1 R.sp with q | q
          · exact q
          · have : cntOf T (cd R 1) w = 0 := by unfold cntOf; rw [cd_out q, untr_128]; rfl
            omega
        obtain ⟨q1, q2, q3⟩ := hr.2 1 hk1
        have hc0 := (cd_in hok hr hk1).2.1
        have hfin : comesF T a (cd R 0) (cd R 1) w law = drawF T.g a (R.w 1) (cntOf T (cd R 1) w - cntOf T (cd R 0) w) law := by unfold comesF; rw [if_neg hn0, if_neg h42, if_neg (by omega), hc0]
        refine R_aload_n a_X8_landing_75 rfl ?_
        refine R_iload_n a_X8_landing_76 rfl ?_
        refine R_iload_n a_X8_landing_77 rfl ?_
        refine R_aload a_X8_landing_78 rfl ?_
        refine R_get a_X8_landing_80 hR rfl ?_
        refine R_iconst (v := nI 1) a_X8_landing_83 rfl ?_
        refine R_iald_n a_X8_landing_84 hw0 (by omega) (by decide) ?_
        refine R_iload a_X8_landing_85 rfl ?_
        refine R_iload a_X8_landing_87 rfl ?_
        first | with_reducible refine R_isub_n a_X8_landing_89 (by omega) ?_ | refine R_isub a_X8_landing_89 ?_
        refine R_callVp a_X8_landing_90 hT (ev_pulled hTP hok ha q1 (by omega) hl) rfl rfl rfl rfl rfl ?_
        refine R_iret a_X8_landing_93 rfl ?_
        exact ⟨by rw [hfin], rfl⟩
      · skip
        have hk0 : 0 < R.sp := by
          rcases Nat.lt_or_ge 0 R.sp with q | q
          · exact q
          · have : cntOf T (cd R 0) w = 0 := by unfold cntOf; rw [cd_out q, untr_128]; rfl
            omega
        obtain ⟨q1, q2, q3⟩ := hr.2 0 hk0
        have hc0 := (cd_in hok hr hk0).2.1
        have hfin : comesF T a (cd R 0) (cd R 1) w law = drawF T.g a (R.w 0) (cntOf T (cd R 0) w - cntOf T (cd R 1) w) law := by unfold comesF; rw [if_neg hn0, if_neg h42, if_pos h51, hc0]
        refine R_aload_n a_X8_landing_54 rfl ?_
        refine R_iload_n a_X8_landing_55 rfl ?_
        refine R_iload_n a_X8_landing_56 rfl ?_
        refine R_aload a_X8_landing_57 rfl ?_
        refine R_get a_X8_landing_59 hR rfl ?_
        refine R_iconst (v := nI 0) a_X8_landing_62 rfl ?_
        refine R_iald_n a_X8_landing_63 hw0 (by omega) (by decide) ?_
        refine R_iload a_X8_landing_64 rfl ?_
        refine R_iload a_X8_landing_66 rfl ?_
        first | with_reducible refine R_isub_n a_X8_landing_68 (by omega) ?_ | refine R_isub a_X8_landing_68 ?_
        refine R_callVp a_X8_landing_69 hT (ev_pulled hTP hok ha q1 (by omega) hl) rfl rfl rfl rfl rfl ?_
        refine R_goto a_X8_landing_72 ?_
        refine R_iret a_X8_landing_93 rfl ?_
        exact ⟨by rw [hfin], rfl⟩
    · skip
      have hfin : comesF T a (cd R 0) (cd R 1) w law = a := by unfold comesF; rw [if_neg hn0, if_pos h42]
      refine R_iload_n a_X8_landing_45 rfl ?_
      refine R_iret a_X8_landing_46 rfl ?_
      exact ⟨by rw [hfin], rfl⟩
  · skip
    refine R_iload a_X8_landing_25 rfl ?_
    first | with_reducible refine R_if_ne_n a_X8_landing_27 (by omega) (fun h27 => ?_) (fun h27 => ?_) | refine R_if_ne a_X8_landing_27 (fun h27 => ?_) (fun h27 => ?_)
    · skip
      have hn0 : ¬ (cntOf T (cd R 0) w = 0 ∧ cntOf T (cd R 1) w = 0) := fun q => h27 q.2
      refine R_iload a_X8_landing_38 rfl ?_
      refine R_iload a_X8_landing_40 rfl ?_
      first | with_reducible refine R_icmp_ne_n a_X8_landing_42 (by omega) (by omega) (fun h42 => ?_) (fun h42 => ?_) | refine R_icmp_ne a_X8_landing_42 (fun h42 => ?_) (fun h42 => ?_)
      · skip
        refine R_iload a_X8_landing_47 rfl ?_
        refine R_iload a_X8_landing_49 rfl ?_
        first | with_reducible refine R_icmp_le_n a_X8_landing_51 (by omega) (by omega) (fun h51 => ?_) (fun h51 => ?_) | refine R_icmp_le a_X8_landing_51 (fun h51 => ?_) (fun h51 => ?_)
        · skip
          have hk1 : 1 < R.sp := by
            rcases Nat.lt_or_ge 1 R.sp with q | q
            · exact q
            · have : cntOf T (cd R 1) w = 0 := by unfold cntOf; rw [cd_out q, untr_128]; rfl
              omega
          obtain ⟨q1, q2, q3⟩ := hr.2 1 hk1
          have hc0 := (cd_in hok hr hk1).2.1
          have hfin : comesF T a (cd R 0) (cd R 1) w law = drawF T.g a (R.w 1) (cntOf T (cd R 1) w - cntOf T (cd R 0) w) law := by unfold comesF; rw [if_neg hn0, if_neg h42, if_neg (by omega), hc0]
          refine R_aload_n a_X8_landing_75 rfl ?_
          refine R_iload_n a_X8_landing_76 rfl ?_
          refine R_iload_n a_X8_landing_77 rfl ?_
          refine R_aload a_X8_landing_78 rfl ?_
          refine R_get a_X8_landing_80 hR rfl ?_
          refine R_iconst (v := nI 1) a_X8_landing_83 rfl ?_
          refine R_iald_n a_X8_landing_84 hw0 (by omega) (by decide) ?_
          refine R_iload a_X8_landing_85 rfl ?_
          refine R_iload a_X8_landing_87 rfl ?_
          first | with_reducible refine R_isub_n a_X8_landing_89 (by omega) ?_ | refine R_isub a_X8_landing_89 ?_
          refine R_callVp a_X8_landing_90 hT (ev_pulled hTP hok ha q1 (by omega) hl) rfl rfl rfl rfl rfl ?_
          refine R_iret a_X8_landing_93 rfl ?_
          exact ⟨by rw [hfin], rfl⟩
        · skip
          have hk0 : 0 < R.sp := by
            rcases Nat.lt_or_ge 0 R.sp with q | q
            · exact q
            · have : cntOf T (cd R 0) w = 0 := by unfold cntOf; rw [cd_out q, untr_128]; rfl
              omega
          obtain ⟨q1, q2, q3⟩ := hr.2 0 hk0
          have hc0 := (cd_in hok hr hk0).2.1
          have hfin : comesF T a (cd R 0) (cd R 1) w law = drawF T.g a (R.w 0) (cntOf T (cd R 0) w - cntOf T (cd R 1) w) law := by unfold comesF; rw [if_neg hn0, if_neg h42, if_pos h51, hc0]
          refine R_aload_n a_X8_landing_54 rfl ?_
          refine R_iload_n a_X8_landing_55 rfl ?_
          refine R_iload_n a_X8_landing_56 rfl ?_
          refine R_aload a_X8_landing_57 rfl ?_
          refine R_get a_X8_landing_59 hR rfl ?_
          refine R_iconst (v := nI 0) a_X8_landing_62 rfl ?_
          refine R_iald_n a_X8_landing_63 hw0 (by omega) (by decide) ?_
          refine R_iload a_X8_landing_64 rfl ?_
          refine R_iload a_X8_landing_66 rfl ?_
          first | with_reducible refine R_isub_n a_X8_landing_68 (by omega) ?_ | refine R_isub a_X8_landing_68 ?_
          refine R_callVp a_X8_landing_69 hT (ev_pulled hTP hok ha q1 (by omega) hl) rfl rfl rfl rfl rfl ?_
          refine R_goto a_X8_landing_72 ?_
          refine R_iret a_X8_landing_93 rfl ?_
          exact ⟨by rw [hfin], rfl⟩
      · skip
        have hfin : comesF T a (cd R 0) (cd R 1) w law = a := by unfold comesF; rw [if_neg hn0, if_pos h42]
        refine R_iload_n a_X8_landing_45 rfl ?_
        refine R_iret a_X8_landing_46 rfl ?_
        exact ⟨by rw [hfin], rfl⟩
    · skip
      have hfin : comesF T a (cd R 0) (cd R 1) w law = hushF T a (spk (cd R 0) (cd R 1)) := by unfold comesF; rw [if_pos ⟨h22, h27⟩]
      refine R_aload_n a_X8_landing_30 rfl ?_
      refine R_iload_n a_X8_landing_31 rfl ?_
      refine R_aload a_X8_landing_32 rfl ?_
      refine R_callVp a_X8_landing_34 hT (ev_towardDeaf hTP hok hRP hr ha) rfl rfl rfl rfl rfl ?_
      refine R_iret a_X8_landing_37 rfl ?_
      exact ⟨by rw [hfin], rfl⟩

/-- what the first k guests of a set know -/
def knK (T : Tb) (set : Nat) : Nat → Nat
  | 0 => 0
  | k + 1 => if bitN set k = 1 then knK T set k ||| T.kn k else knK T set k
def knF (T : Tb) (set : Nat) : Nat := knK T set T.g &&& (2 ^ T.n - 1)
theorem knK_lt {T : Tb} (ok : TbOk T) (set : Nat) : ∀ k, k ≤ T.g → knK T set k < 64 := by
  intro k
  induction k with
  | zero => intro _; exact (by decide : 0 < 64)
  | succ k ih =>
    intro hk
    have h1 := ih (by omega)
    have h2 := ok.2.2.2.2.2.2.2.2.2.1 k (by omega)
    unfold knK
    split
    · exact Nat.or_lt_two_pow (n := 6) h1 (by omega)
    · exact h1
set_option maxRecDepth 20000 in
theorem lp_knownBy {σ : AHp} {p : Nat} {T : Tb} (h : TbP σ p T) (ok : TbOk T) {set : Nat} (hs : set < 256) : ∀ (n k : Nat), T.g - k = n → k ≤ T.g → Run M_X8_knownBy 4 [some (.ref p), some (.int (nI set)), some (.int (nI (knK T set k))), some (.int (nI k))] [] σ 0 0 (fun r σ' => r = some (.int (nI (knF T set))) ∧ σ' = σ) := by
  have hTP := h
  have hok := ok
  obtain ⟨hp0, hT, hk, hh, hn, hf⟩ := h
  obtain ⟨g3, g8, n1, n6, lw, stg, son, kd4, hn10, kn63, hf4⟩ := ok
  intro n
  induction n using Nat.strongRecOn
  rename_i n ih
  intro k hm hk8
  have hkl := knK_lt hok set k hk8
  refine R_iload_n a_X8_knownBy_4 rfl ?_
  refine R_aload_n a_X8_knownBy_5 rfl ?_
  refine R_get a_X8_knownBy_6 hT rfl ?_
  first | with_reducible refine R_icmp_ge_n a_X8_knownBy_9 (by omega) (by omega) (fun h9 => ?_) (fun h9 => ?_) | refine R_icmp_ge a_X8_knownBy_9 (fun h9 => ?_) (fun h9 => ?_)
  · skip
    have hke : k = T.g := by omega
    subst hke
    refine R_iload_n a_X8_knownBy_36 rfl ?_
    refine R_aload_n a_X8_knownBy_37 rfl ?_
    refine R_callVp a_X8_knownBy_38 hT (ev_allThings hTP hok) rfl rfl rfl rfl rfl ?_
    first | with_reducible refine R_iand1 a_X8_knownBy_41 ?_ | with_reducible refine R_iand_n a_X8_knownBy_41 ?_ | refine R_iand a_X8_knownBy_41 ?_
    refine R_iret a_X8_knownBy_42 rfl ?_
    exact ⟨rfl, rfl⟩
  · skip
    have hkk := kn63 k (by omega)
    refine R_iload_n a_X8_knownBy_12 rfl ?_
    refine R_iload_n a_X8_knownBy_13 rfl ?_
    first | with_reducible refine R_ishr_n a_X8_knownBy_14 (by omega) (by omega) ?_ | refine R_ishr a_X8_knownBy_14 ?_
    refine R_iconst (v := nI 1) a_X8_knownBy_15 rfl ?_
    first | with_reducible refine R_iand1 a_X8_knownBy_16 ?_ | with_reducible refine R_iand_n a_X8_knownBy_16 ?_ | refine R_iand a_X8_knownBy_16 ?_
    refine R_iconst (v := nI 1) a_X8_knownBy_17 rfl ?_
    first | with_reducible refine R_icmp_ne_n a_X8_knownBy_18 (by omega) (by omega) (fun h18 => ?_) (fun h18 => ?_) | refine R_icmp_ne a_X8_knownBy_18 (fun h18 => ?_) (fun h18 => ?_)
    · skip
      have hnx : knK T set (k + 1) = knK T set k := by rw [knK]; exact if_neg (by unfold bitN; omega)
      first | with_reducible refine R_iinc_n (ls' := [_, _, _, _]) a_X8_knownBy_30 rfl rfl rfl rfl ?_ | refine R_iinc (ls' := [_, _, _, _]) a_X8_knownBy_30 rfl rfl rfl rfl rfl ?_
      refine R_goto a_X8_knownBy_33 ?_
      rw [← hnx]
      exact ih _ (by omega) (k + 1) rfl (by omega)
    · skip
      have hnx : knK T set (k + 1) = knK T set k ||| T.kn k := by rw [knK]; exact if_pos h18
      refine R_iload_n a_X8_knownBy_21 rfl ?_
      refine R_aload_n a_X8_knownBy_22 rfl ?_
      refine R_get a_X8_knownBy_23 hT rfl ?_
      refine R_iload_n a_X8_knownBy_26 rfl ?_
      refine R_iald_n a_X8_knownBy_27 hn (by omega) (by decide) ?_
      first | with_reducible refine R_ior_n a_X8_knownBy_28 ?_ | refine R_ior a_X8_knownBy_28 ?_
      refine R_istore_n (ls' := [_, _, _, _]) a_X8_knownBy_29 rfl rfl rfl ?_
      first | with_reducible refine R_iinc_n (ls' := [_, _, _, _]) a_X8_knownBy_30 rfl rfl rfl rfl ?_ | refine R_iinc (ls' := [_, _, _, _]) a_X8_knownBy_30 rfl rfl rfl rfl rfl ?_
      refine R_goto a_X8_knownBy_33 ?_
      rw [← hnx]
      exact ih _ (by omega) (k + 1) rfl (by omega)

set_option maxRecDepth 20000 in
theorem ev_knownBy {σ : AHp} {p : Nat} {T : Tb} (h : TbP σ p T) (ok : TbOk T) {set : Nat} (hs : set < 256) : EvP M_X8_knownBy [.ref p, .int (nI set)] σ (.int (nI (knF T set))) := by
  refine Ev.of (ls := [_, _, _, _]) 2 (by decide) rfl rfl ?_
  refine R_iconst (v := nI 0) a_X8_knownBy_0 rfl ?_
  refine R_istore_n (ls' := [_, _, _, _]) a_X8_knownBy_1 rfl rfl rfl ?_
  refine R_iconst (v := nI 0) a_X8_knownBy_2 rfl ?_
  refine R_istore_n (ls' := [_, _, _, _]) a_X8_knownBy_3 rfl rfl rfl ?_
  exact lp_knownBy h ok hs _ 0 rfl (by omega)

set_option maxRecDepth 20000 in
theorem lp_Rcopy2 {σ0 σ : AHp} {r q : Nat} {R R2 : Rs} (h : RdP σ r (R.sp, uN (uN R.w 0 (R2.w 0)) 1 (R2.w 1), uN (uN R.tp 0 (R2.tp 0)) 1 (R2.tp 1), uN (uN R.sd 0 (R2.sd 0)) 1 (R2.sd 1), R.fr, R.to, R.tb, R.li)) (h2 : RdP σ q R2) (hd : r + 4 ≤ q ∨ q + 4 ≤ r) (hsd : ∀ k, k < 2 → R2.sd k ≤ 1) (hfr : Fr σ0 σ r 4) : Run M_X6_copy 2 [some (.ref r), some (.ref q), some (.int (nI 2))] [] σ 0 0 (fun r' σ => r' = none ∧ RdP σ r R2 ∧ Fr σ0 σ r 4) := by
  obtain ⟨hr0, hR, hw, ht, hs⟩ := h
  obtain ⟨hq0, gR, gw, gt, gs⟩ := h2
  have hs0 := hsd 0 (by decide)
  have hs1 := hsd 1 (by decide)
  refine R_iload_n a_X6_copy_2 rfl ?_
  refine R_iconst (v := nI 2) a_X6_copy_3 rfl ?_
  first | with_reducible refine R_icmp_ge_n a_X6_copy_4 (by omega) (by omega) (fun h4 => ?_) (fun h4 => ?_) | refine R_icmp_ge a_X6_copy_4 (fun h4 => ?_) (fun h4 => ?_)
  · skip
    refine R_ext (nF R2.w) (by omega) hw (fun j hj => by rcases (show j = 0 ∨ j = 1 by omega) with rfl | rfl <;> rfl) (fun σ hw ho => ?_)
    have hR := (ho _ (by omega)).trans hR
    have ht := (ho _ (by omega)).trans ht
    have hs := (ho _ (by omega)).trans hs
    have gR := (ho _ (by omega)).trans gR
    have gw := (ho _ (by omega)).trans gw
    have gt := (ho _ (by omega)).trans gt
    have gs := (ho _ (by omega)).trans gs
    have hfr : ∀ j, j < r ∨ r + 4 ≤ j → σ j = σ0 j := fun j hj => (ho j (by omega)).trans (hfr j hj)
    refine R_ext (nF R2.tp) (by omega) ht (fun j hj => by rcases (show j = 0 ∨ j = 1 by omega) with rfl | rfl <;> rfl) (fun σ ht ho => ?_)
    have hR := (ho _ (by omega)).trans hR
    have hw := (ho _ (by omega)).trans hw
    have hs := (ho _ (by omega)).trans hs
    have gR := (ho _ (by omega)).trans gR
    have gw := (ho _ (by omega)).trans gw
    have gt := (ho _ (by omega)).trans gt
    have gs := (ho _ (by omega)).trans gs
    have hfr : ∀ j, j < r ∨ r + 4 ≤ j → σ j = σ0 j := fun j hj => (ho j (by omega)).trans (hfr j hj)
    refine R_ext (nF R2.sd) (by omega) hs (fun j hj => by rcases (show j = 0 ∨ j = 1 by omega) with rfl | rfl <;> rfl) (fun σ hs ho => ?_)
    have hR := (ho _ (by omega)).trans hR
    have hw := (ho _ (by omega)).trans hw
    have ht := (ho _ (by omega)).trans ht
    have gR := (ho _ (by omega)).trans gR
    have gw := (ho _ (by omega)).trans gw
    have gt := (ho _ (by omega)).trans gt
    have gs := (ho _ (by omega)).trans gs
    have hfr : ∀ j, j < r ∨ r + 4 ≤ j → σ j = σ0 j := fun j hj => (ho j (by omega)).trans (hfr j hj)
    refine R_aload_n a_X6_copy_49 rfl ?_
    refine R_aload_n a_X6_copy_50 rfl ?_
    refine R_get a_X6_copy_51 gR rfl ?_
    refine R_putiK (fs' := [_, _, _, _, _, _, _, _]) a_X6_copy_54 hR rfl rfl (fun σ hR ho => ?_)
    have hw := (ho _ (by omega)).trans hw
    have ht := (ho _ (by omega)).trans ht
    have hs := (ho _ (by omega)).trans hs
    have gR := (ho _ (by omega)).trans gR
    have gw := (ho _ (by omega)).trans gw
    have gt := (ho _ (by omega)).trans gt
    have gs := (ho _ (by omega)).trans gs
    have hfr : ∀ j, j < r ∨ r + 4 ≤ j → σ j = σ0 j := fun j hj => (ho j (by omega)).trans (hfr j hj)
    refine R_aload_n a_X6_copy_57 rfl ?_
    refine R_aload_n a_X6_copy_58 rfl ?_
    refine R_get a_X6_copy_59 gR rfl ?_
    refine R_putiK (fs' := [_, _, _, _, _, _, _, _]) a_X6_copy_62 hR rfl rfl (fun σ hR ho => ?_)
    have hw := (ho _ (by omega)).trans hw
    have ht := (ho _ (by omega)).trans ht
    have hs := (ho _ (by omega)).trans hs
    have gR := (ho _ (by omega)).trans gR
    have gw := (ho _ (by omega)).trans gw
    have gt := (ho _ (by omega)).trans gt
    have gs := (ho _ (by omega)).trans gs
    have hfr : ∀ j, j < r ∨ r + 4 ≤ j → σ j = σ0 j := fun j hj => (ho j (by omega)).trans (hfr j hj)
    refine R_aload_n a_X6_copy_65 rfl ?_
    refine R_aload_n a_X6_copy_66 rfl ?_
    refine R_get a_X6_copy_67 gR rfl ?_
    refine R_putiK (fs' := [_, _, _, _, _, _, _, _]) a_X6_copy_70 hR rfl rfl (fun σ hR ho => ?_)
    have hw := (ho _ (by omega)).trans hw
    have ht := (ho _ (by omega)).trans ht
    have hs := (ho _ (by omega)).trans hs
    have gR := (ho _ (by omega)).trans gR
    have gw := (ho _ (by omega)).trans gw
    have gt := (ho _ (by omega)).trans gt
    have gs := (ho _ (by omega)).trans gs
    have hfr : ∀ j, j < r ∨ r + 4 ≤ j → σ j = σ0 j := fun j hj => (ho j (by omega)).trans (hfr j hj)
    refine R_aload_n a_X6_copy_73 rfl ?_
    refine R_aload_n a_X6_copy_74 rfl ?_
    refine R_get a_X6_copy_75 gR rfl ?_
    refine R_putiK (fs' := [_, _, _, _, _, _, _, _]) a_X6_copy_78 hR rfl rfl (fun σ hR ho => ?_)
    have hw := (ho _ (by omega)).trans hw
    have ht := (ho _ (by omega)).trans ht
    have hs := (ho _ (by omega)).trans hs
    have gR := (ho _ (by omega)).trans gR
    have gw := (ho _ (by omega)).trans gw
    have gt := (ho _ (by omega)).trans gt
    have gs := (ho _ (by omega)).trans gs
    have hfr : ∀ j, j < r ∨ r + 4 ≤ j → σ j = σ0 j := fun j hj => (ho j (by omega)).trans (hfr j hj)
    refine R_aload_n a_X6_copy_81 rfl ?_
    refine R_aload_n a_X6_copy_82 rfl ?_
    refine R_get a_X6_copy_83 gR rfl ?_
    refine R_putiK (fs' := [_, _, _, _, _, _, _, _]) a_X6_copy_86 hR rfl rfl (fun σ hR ho => ?_)
    have hw := (ho _ (by omega)).trans hw
    have ht := (ho _ (by omega)).trans ht
    have hs := (ho _ (by omega)).trans hs
    have gR := (ho _ (by omega)).trans gR
    have gw := (ho _ (by omega)).trans gw
    have gt := (ho _ (by omega)).trans gt
    have gs := (ho _ (by omega)).trans gs
    have hfr : ∀ j, j < r ∨ r + 4 ≤ j → σ j = σ0 j := fun j hj => (ho j (by omega)).trans (hfr j hj)
    refine R_vret a_X6_copy_89 rfl ?_
    exact ⟨rfl, ⟨hr0, hR, hw, ht, hs⟩, hfr⟩
  · skip
    omega

set_option maxRecDepth 20000 in
theorem lp_Rcopy1 {σ0 σ : AHp} {r q : Nat} {R R2 : Rs} (h : RdP σ r (R.sp, uN R.w 0 (R2.w 0), uN R.tp 0 (R2.tp 0), uN R.sd 0 (R2.sd 0), R.fr, R.to, R.tb, R.li)) (h2 : RdP σ q R2) (hd : r + 4 ≤ q ∨ q + 4 ≤ r) (hsd : ∀ k, k < 2 → R2.sd k ≤ 1) (hfr : Fr σ0 σ r 4) : Run M_X6_copy 2 [some (.ref r), some (.ref q), some (.int (nI 1))] [] σ 0 0 (fun r' σ => r' = none ∧ RdP σ r R2 ∧ Fr σ0 σ r 4) := by
  obtain ⟨hr0, hR, hw, ht, hs⟩ := h
  obtain ⟨hq0, gR, gw, gt, gs⟩ := h2
  have hs0 := hsd 0 (by decide)
  have hs1 := hsd 1 (by decide)
  refine R_iload_n a_X6_copy_2 rfl ?_
  refine R_iconst (v := nI 2) a_X6_copy_3 rfl ?_
  first | with_reducible refine R_icmp_ge_n a_X6_copy_4 (by omega) (by omega) (fun h4 => ?_) (fun h4 => ?_) | refine R_icmp_ge a_X6_copy_4 (fun h4 => ?_) (fun h4 => ?_)
  · skip
    omega
  · skip
    refine R_aload_n a_X6_copy_7 rfl ?_
    refine R_get a_X6_copy_8 hR rfl ?_
    refine R_iload_n a_X6_copy_11 rfl ?_
    refine R_aload_n a_X6_copy_12 rfl ?_
    refine R_get a_X6_copy_13 gR rfl ?_
    refine R_iload_n a_X6_copy_16 rfl ?_
    refine R_iald_n a_X6_copy_17 gw (by omega) (by decide) ?_
    refine R_iastK a_X6_copy_18 (by omega) hw (by omega) (by decide) (fun σ hw ho => ?_)
    have hR := (ho _ (by omega)).trans hR
    have ht := (ho _ (by omega)).trans ht
    have hs := (ho _ (by omega)).trans hs
    have gR := (ho _ (by omega)).trans gR
    have gw := (ho _ (by omega)).trans gw
    have gt := (ho _ (by omega)).trans gt
    have gs := (ho _ (by omega)).trans gs
    have hfr : ∀ j, j < r ∨ r + 4 ≤ j → σ j = σ0 j := fun j hj => (ho j (by omega)).trans (hfr j hj)
    rw [nF_upd] at hw
    refine R_aload_n a_X6_copy_19 rfl ?_
    refine R_get a_X6_copy_20 hR rfl ?_
    refine R_iload_n a_X6_copy_23 rfl ?_
    refine R_aload_n a_X6_copy_24 rfl ?_
    refine R_get a_X6_copy_25 gR rfl ?_
    refine R_iload_n a_X6_copy_28 rfl ?_
    refine R_iald_n a_X6_copy_29 gt (by omega) (by decide) ?_
    refine R_iastK a_X6_copy_30 (by omega) ht (by omega) (by decide) (fun σ ht ho => ?_)
    have hR := (ho _ (by omega)).trans hR
    have hw := (ho _ (by omega)).trans hw
    have hs := (ho _ (by omega)).trans hs
    have gR := (ho _ (by omega)).trans gR
    have gw := (ho _ (by omega)).trans gw
    have gt := (ho _ (by omega)).trans gt
    have gs := (ho _ (by omega)).trans gs
    have hfr : ∀ j, j < r ∨ r + 4 ≤ j → σ j = σ0 j := fun j hj => (ho j (by omega)).trans (hfr j hj)
    rw [nF_upd] at ht
    refine R_aload_n a_X6_copy_31 rfl ?_
    refine R_get a_X6_copy_32 hR rfl ?_
    refine R_iload_n a_X6_copy_35 rfl ?_
    refine R_aload_n a_X6_copy_36 rfl ?_
    refine R_get a_X6_copy_37 gR rfl ?_
    refine R_iload_n a_X6_copy_40 rfl ?_
    refine R_zald_n a_X6_copy_41 (by omega) gs (by omega) (by decide) ?_
    refine R_zastK a_X6_copy_42 (by omega) hs (by omega) (by decide) (by omega) (fun σ hs ho => ?_)
    have hR := (ho _ (by omega)).trans hR
    have hw := (ho _ (by omega)).trans hw
    have ht := (ho _ (by omega)).trans ht
    have gR := (ho _ (by omega)).trans gR
    have gw := (ho _ (by omega)).trans gw
    have gt := (ho _ (by omega)).trans gt
    have gs := (ho _ (by omega)).trans gs
    have hfr : ∀ j, j < r ∨ r + 4 ≤ j → σ j = σ0 j := fun j hj => (ho j (by omega)).trans (hfr j hj)
    rw [nF_upd] at hs
    first | with_reducible refine R_iinc_n (ls' := [_, _, _]) a_X6_copy_43 rfl rfl rfl rfl ?_ | refine R_iinc (ls' := [_, _, _]) a_X6_copy_43 rfl rfl rfl rfl rfl ?_
    refine R_goto a_X6_copy_46 ?_
    exact lp_Rcopy2 (R := R) ⟨hr0, hR, hw, ht, hs⟩ ⟨hq0, gR, gw, gt, gs⟩ hd hsd hfr

set_option maxRecDepth 20000 in
theorem lp_Rcopy0 {σ0 σ : AHp} {r q : Nat} {R R2 : Rs} (h : RdP σ r R) (h2 : RdP σ q R2) (hd : r + 4 ≤ q ∨ q + 4 ≤ r) (hsd : ∀ k, k < 2 → R2.sd k ≤ 1) (hfr : Fr σ0 σ r 4) : Run M_X6_copy 2 [some (.ref r), some (.ref q), some (.int (nI 0))] [] σ 0 0 (fun r' σ => r' = none ∧ RdP σ r R2 ∧ Fr σ0 σ r 4) := by
  obtain ⟨hr0, hR, hw, ht, hs⟩ := h
  obtain ⟨hq0, gR, gw, gt, gs⟩ := h2
  have hs0 := hsd 0 (by decide)
  have hs1 := hsd 1 (by decide)
  refine R_iload_n a_X6_copy_2 rfl ?_
  refine R_iconst (v := nI 2) a_X6_copy_3 rfl ?_
  first | with_reducible refine R_icmp_ge_n a_X6_copy_4 (by omega) (by omega) (fun h4 => ?_) (fun h4 => ?_) | refine R_icmp_ge a_X6_copy_4 (fun h4 => ?_) (fun h4 => ?_)
  · skip
    omega
  · skip
    refine R_aload_n a_X6_copy_7 rfl ?_
    refine R_get a_X6_copy_8 hR rfl ?_
    refine R_iload_n a_X6_copy_11 rfl ?_
    refine R_aload_n a_X6_copy_12 rfl ?_
    refine R_get a_X6_copy_13 gR rfl ?_
    refine R_iload_n a_X6_copy_16 rfl ?_
    refine R_iald_n a_X6_copy_17 gw (by omega) (by decide) ?_
    refine R_iastK a_X6_copy_18 (by omega) hw (by omega) (by decide) (fun σ hw ho => ?_)
    have hR := (ho _ (by omega)).trans hR
    have ht := (ho _ (by omega)).trans ht
    have hs := (ho _ (by omega)).trans hs
    have gR := (ho _ (by omega)).trans gR
    have gw := (ho _ (by omega)).trans gw
    have gt := (ho _ (by omega)).trans gt
    have gs := (ho _ (by omega)).trans gs
    have hfr : ∀ j, j < r ∨ r + 4 ≤ j → σ j = σ0 j := fun j hj => (ho j (by omega)).trans (hfr j hj)
    rw [nF_upd] at hw
    refine R_aload_n a_X6_copy_19 rfl ?_
    refine R_get a_X6_copy_20 hR rfl ?_
    refine R_iload_n a_X6_copy_23 rfl ?_
    refine R_aload_n a_X6_copy_24 rfl ?_
    refine R_get a_X6_copy_25 gR rfl ?_
    refine R_iload_n a_X6_copy_28 rfl ?_
    refine R_iald_n a_X6_copy_29 gt (by omega) (by decide) ?_
    refine R_iastK a_X6_copy_30 (by omega) ht (by omega) (by decide) (fun σ ht ho => ?_)
    have hR := (ho _ (by omega)).trans hR
    have hw := (ho _ (by omega)).trans hw
    have hs := (ho _ (by omega)).trans hs
    have gR := (ho _ (by omega)).trans gR
    have gw := (ho _ (by omega)).trans gw
    have gt := (ho _ (by omega)).trans gt
    have gs := (ho _ (by omega)).trans gs
    have hfr : ∀ j, j < r ∨ r + 4 ≤ j → σ j = σ0 j := fun j hj => (ho j (by omega)).trans (hfr j hj)
    rw [nF_upd] at ht
    refine R_aload_n a_X6_copy_31 rfl ?_
    refine R_get a_X6_copy_32 hR rfl ?_
    refine R_iload_n a_X6_copy_35 rfl ?_
    refine R_aload_n a_X6_copy_36 rfl ?_
    refine R_get a_X6_copy_37 gR rfl ?_
    refine R_iload_n a_X6_copy_40 rfl ?_
    refine R_zald_n a_X6_copy_41 (by omega) gs (by omega) (by decide) ?_
    refine R_zastK a_X6_copy_42 (by omega) hs (by omega) (by decide) (by omega) (fun σ hs ho => ?_)
    have hR := (ho _ (by omega)).trans hR
    have hw := (ho _ (by omega)).trans hw
    have ht := (ho _ (by omega)).trans ht
    have gR := (ho _ (by omega)).trans gR
    have gw := (ho _ (by omega)).trans gw
    have gt := (ho _ (by omega)).trans gt
    have gs := (ho _ (by omega)).trans gs
    have hfr : ∀ j, j < r ∨ r + 4 ≤ j → σ j = σ0 j := fun j hj => (ho j (by omega)).trans (hfr j hj)
    rw [nF_upd] at hs
    first | with_reducible refine R_iinc_n (ls' := [_, _, _]) a_X6_copy_43 rfl rfl rfl rfl ?_ | refine R_iinc (ls' := [_, _, _]) a_X6_copy_43 rfl rfl rfl rfl rfl ?_
    refine R_goto a_X6_copy_46 ?_
    exact lp_Rcopy1 (R := R) ⟨hr0, hR, hw, ht, hs⟩ ⟨hq0, gR, gw, gt, gs⟩ hd hsd hfr

set_option maxRecDepth 20000 in
theorem ev_Rcopy {σ0 : AHp} {r q : Nat} {R R2 : Rs} (h : RdP σ0 r R) (h2 : RdP σ0 q R2) (hd : r + 4 ≤ q ∨ q + 4 ≤ r) (hsd : ∀ k, k < 2 → R2.sd k ≤ 1) : EvW M_X6_copy [.ref r, .ref q] σ0 none (fun σ => RdP σ r R2 ∧ Fr σ0 σ r 4) := by
  refine Ev.of (ls := [_, _, _]) 1 (by decide) rfl rfl ?_
  refine R_iconst (v := nI 0) a_X6_copy_0 rfl ?_
  refine R_istore_n (ls' := [_, _, _]) a_X6_copy_1 rfl rfl rfl ?_
  exact lp_Rcopy0 h h2 hd hsd (Fr.rf _ _ _)

