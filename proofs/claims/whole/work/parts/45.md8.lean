/-! ===== SaltToLiarsModel.rests ===== -/
theorem comes_swap {T : Tb} {a c w law : Nat} : comesF T a 128 c w law = comesF T a c 128 w law := by
  have hs : ∀ i, spk 128 c i = spk c 128 i := by
    intro i
    unfold spk
    apply decide_eq_decide.mpr
    constructor
    · rintro (h | h)
      · exact Or.inr h
      · exact Or.inl h
    · rintro (h | h)
      · exact Or.inr h
      · exact Or.inl h
  unfold comesF
  rw [cnt_128]
  by_cases h : cntOf T c w = 0
  · rw [h, if_pos ⟨rfl, rfl⟩, if_pos ⟨rfl, rfl⟩]
    exact hushF_congr (fun i _ => hs i)
  · rw [if_neg (show ¬ (0 = 0 ∧ cntOf T c w = 0) from fun q => h q.2), if_neg (show ¬ 0 = cntOf T c w from fun q => h q.symm), if_neg (show ¬ cntOf T c w < 0 by omega), if_neg (show ¬ (cntOf T c w = 0 ∧ 0 = 0) from fun q => h q.1), if_neg h, if_pos (show 0 < cntOf T c w by omega)]
theorem lc_div {T : Tb} {i t : Nat} (hi : i < 8) : lcF T i t / 16 = t := by
  have hb := bitN_le T.so t
  exact say_top hi (by omega)
theorem rsN_step (ok : Nat → Bool) {q : Nat} (hq : q < 4) : rsN ok q = rsN ok (q + 1) + b2n (ok q) := by
  unfold rsN
  rcases (show q = 0 ∨ q = 1 ∨ q = 2 ∨ q = 3 by omega) with rfl | rfl | rfl | rfl <;> simp <;> omega
theorem rsF_step (ok : Nat → Bool) {q : Nat} (hq : q < 4) : rsF ok q = if ok q = true then nI q else rsF ok (q + 1) := by
  unfold rsF
  rcases (show q = 0 ∨ q = 1 ∨ q = 2 ∨ q = 3 by omega) with rfl | rfl | rfl | rfl <;> simp
set_option maxRecDepth 20000 in
theorem md_has1_0 {σ : AHp} {tl u kn ns : Nat} {at_ : Int32} {ft : Nat → Int32} {T : Tb} (hM : σ 272 = some (mdO tl u kn ns at_)) (hMT : MT σ ft T) (ok : TbOk T) {h : Hs} (hSr : σ 276 = some (iA 0 43 (nF (sF T h)))) {i s j t : Nat} (hi : i < T.g) (hs : s < T.n) (hj : j < T.g) (ht : t < T.n) (hij : ¬ i = j) : EvP M_X11_has [.ref 272, .int (nI i), .int (nI i), .int (nI (lcF T i s)), .int (nI j), .int (nI (lcF T j t)), .int (nI 0)] σ (.int (g1W T (saltF T h) i s j t 0)) := by
  obtain ⟨hTo, t0, t1, t2, t3, t28, tkd, thn, tkn, thf⟩ := id hMT
  obtain ⟨g3, g8, n1, n6, lw, stg, son, kd4, hn10, kn63, hf4⟩ := id ok
  have hn64 : 2 ^ T.n ≤ 2 ^ 6 := Nat.pow_le_pow_right (by decide) n6
  have hsg := saltF_lt ok h
  have hb1 := bitN_le T.so s
  have hb2 := bitN_le T.so t
  have hl1 : CdOk T (lcF T i s) := CdOk.say ok hi hs (by omega)
  have hl2 : CdOk T (lcF T j t) := CdOk.say ok hj ht (by omega)
  have hl1e := hl1.le
  have hl2e := hl2.le
  have htw : toW T (saltF T h) i s j t 0 < T.g := comesF_lt (by omega) hsg
  refine Ev.of (ls := [_, _, _, _, _, _, _, _, _, _, _]) 4 (by decide) rfl rfl ?_
  refine R_iload a_X11_has_0 rfl ?_
  first | with_reducible refine R_if_eq_n a_X11_has_2 (by first | omega | exact Nat.lt_of_le_of_lt (inR_le _ _) (by decide) | exact Nat.lt_of_le_of_lt (bitN_le _ _) (by decide) | exact Nat.lt_of_le_of_lt (inI_le _ _ _) (by decide) | exact inI_le _ _ _ | exact inR_le _ _ | exact bitN_le _ _) (fun h2 => ?_) (fun h2 => ?_) | refine R_if_eq a_X11_has_2 (fun h2 => ?_) (fun h2 => ?_)
  · skip
    refine R_iconst (v := nI 1) a_X11_has_11 rfl ?_
    refine R_goto a_X11_has_12 ?_
    refine R_istore (ls' := [_, _, _, _, _, _, _, _, _, _, _]) a_X11_has_16 rfl rfl rfl ?_
    refine R_iload a_X11_has_18 rfl ?_
    first | with_reducible refine R_if_eq_n a_X11_has_20 (by first | omega | exact Nat.lt_of_le_of_lt (inR_le _ _) (by decide) | exact Nat.lt_of_le_of_lt (bitN_le _ _) (by decide) | exact Nat.lt_of_le_of_lt (inI_le _ _ _) (by decide) | exact inI_le _ _ _ | exact inR_le _ _ | exact bitN_le _ _) (fun h20 => ?_) (fun h20 => ?_) | refine R_if_eq a_X11_has_20 (fun h20 => ?_) (fun h20 => ?_)
    · skip
      refine R_iconst (v := nI 1) a_X11_has_29 rfl ?_
      refine R_goto a_X11_has_30 ?_
      refine R_istore (ls' := [_, _, _, _, _, _, _, _, _, _, _]) a_X11_has_34 rfl rfl rfl ?_
      refine R_aload_n a_X11_has_36 rfl ?_
      refine R_aload_n a_X11_has_37 rfl ?_
      refine R_get a_X11_has_38 hM rfl ?_
      refine R_iconst (v := nI 0) a_X11_has_41 rfl ?_
      refine R_iald_n a_X11_has_42 hSr (by first | omega | exact Nat.lt_of_le_of_lt (inR_le _ _) (by decide) | exact Nat.lt_of_le_of_lt (bitN_le _ _) (by decide) | exact Nat.lt_of_le_of_lt (inI_le _ _ _) (by decide) | exact inI_le _ _ _ | exact inR_le _ _ | exact bitN_le _ _) (by decide) ?_
      refine R_top (congrArg nI (sF_0 T h)) ?_
      refine R_iload a_X11_has_43 rfl ?_
      first | with_reducible refine R_if_eq_n a_X11_has_45 (by first | omega | exact Nat.lt_of_le_of_lt (inR_le _ _) (by decide) | exact Nat.lt_of_le_of_lt (bitN_le _ _) (by decide) | exact Nat.lt_of_le_of_lt (inI_le _ _ _) (by decide) | exact inI_le _ _ _ | exact inR_le _ _ | exact bitN_le _ _) (fun h45 => ?_) (fun h45 => ?_) | refine R_if_eq a_X11_has_45 (fun h45 => ?_) (fun h45 => ?_)
      · skip
        exact absurd h45 (by decide)
      · skip
        refine R_iload_n a_X11_has_48 rfl ?_
        refine R_goto a_X11_has_49 ?_
        refine R_iload a_X11_has_55 rfl ?_
        first | with_reducible refine R_if_eq_n a_X11_has_57 (by first | omega | exact Nat.lt_of_le_of_lt (inR_le _ _) (by decide) | exact Nat.lt_of_le_of_lt (bitN_le _ _) (by decide) | exact Nat.lt_of_le_of_lt (inI_le _ _ _) (by decide) | exact inI_le _ _ _ | exact inR_le _ _ | exact bitN_le _ _) (fun h57 => ?_) (fun h57 => ?_) | refine R_if_eq a_X11_has_57 (fun h57 => ?_) (fun h57 => ?_)
        · skip
          exact absurd h57 (by decide)
        · skip
          refine R_iload a_X11_has_60 rfl ?_
          refine R_goto a_X11_has_62 ?_
          refine R_aload_n a_X11_has_68 rfl ?_
          refine R_get a_X11_has_69 hM rfl ?_
          refine R_bipush (v := nI 28) a_X11_has_72 rfl ?_
          refine R_iald_n a_X11_has_74 hTo (by first | omega | exact Nat.lt_of_le_of_lt (inR_le _ _) (by decide) | exact Nat.lt_of_le_of_lt (bitN_le _ _) (by decide) | exact Nat.lt_of_le_of_lt (inI_le _ _ _) (by decide) | exact inI_le _ _ _ | exact inR_le _ _ | exact bitN_le _ _) (by decide) ?_
          refine R_top t28 ?_
          refine R_aload_n a_X11_has_75 rfl ?_
          refine R_get a_X11_has_76 hM rfl ?_
          refine R_iconst (v := nI 2) a_X11_has_79 rfl ?_
          refine R_iald_n a_X11_has_80 hTo (by first | omega | exact Nat.lt_of_le_of_lt (inR_le _ _) (by decide) | exact Nat.lt_of_le_of_lt (bitN_le _ _) (by decide) | exact Nat.lt_of_le_of_lt (inI_le _ _ _) (by decide) | exact inI_le _ _ _ | exact inR_le _ _ | exact bitN_le _ _) (by decide) ?_
          refine R_top t2 ?_
          refine R_callVp a_X11_has_81 hM (md_comes hM hMT ok hsg hl1 hl2 (show T.so < 2 ^ 31 by omega) lw) rfl rfl rfl rfl rfl ?_
          refine R_top (show nI (comesF T (saltF T h) (lcF T i s) (lcF T j t) T.so T.law) = nI (toW T (saltF T h) i s j t 0) from rfl) ?_
          refine R_istore (ls' := [_, _, _, _, _, _, _, _, _, _, _]) a_X11_has_84 rfl rfl rfl ?_
          refine R_iload_n a_X11_has_86 rfl ?_
          refine R_iload_n a_X11_has_87 rfl ?_
          first | with_reducible refine R_icmp_ne_n a_X11_has_88 (by first | omega | exact Nat.lt_of_le_of_lt (inR_le _ _) (by decide) | exact Nat.lt_of_le_of_lt (bitN_le _ _) (by decide) | exact Nat.lt_of_le_of_lt (inI_le _ _ _) (by decide) | exact inI_le _ _ _ | exact inR_le _ _ | exact bitN_le _ _) (by first | omega | exact Nat.lt_of_le_of_lt (inR_le _ _) (by decide) | exact Nat.lt_of_le_of_lt (bitN_le _ _) (by decide) | exact Nat.lt_of_le_of_lt (inI_le _ _ _) (by decide) | exact inI_le _ _ _ | exact inR_le _ _ | exact bitN_le _ _) (fun h88 => ?_) (fun h88 => ?_) | refine R_icmp_ne a_X11_has_88 (fun h88 => ?_) (fun h88 => ?_)
          · skip
            exact absurd rfl h88
          · skip
            refine R_iload a_X11_has_91 rfl ?_
            first | with_reducible refine R_if_eq_n a_X11_has_93 (by first | omega | exact Nat.lt_of_le_of_lt (inR_le _ _) (by decide) | exact Nat.lt_of_le_of_lt (bitN_le _ _) (by decide) | exact Nat.lt_of_le_of_lt (inI_le _ _ _) (by decide) | exact inI_le _ _ _ | exact inR_le _ _ | exact bitN_le _ _) (fun h93 => ?_) (fun h93 => ?_) | refine R_if_eq a_X11_has_93 (fun h93 => ?_) (fun h93 => ?_)
            · skip
              exact absurd h93 (by decide)
            · skip
              refine R_aload_n a_X11_has_96 rfl ?_
              refine R_iload_n a_X11_has_97 rfl ?_
              refine R_iload_n a_X11_has_98 rfl ?_
              refine R_bipush (v := nI 16) a_X11_has_99 rfl ?_
              refine R_idiv_n a_X11_has_101 (by first | omega | exact Nat.lt_of_le_of_lt (inR_le _ _) (by decide) | exact Nat.lt_of_le_of_lt (bitN_le _ _) (by decide) | exact Nat.lt_of_le_of_lt (inI_le _ _ _) (by decide) | exact inI_le _ _ _ | exact inR_le _ _ | exact bitN_le _ _) (by first | omega | exact Nat.lt_of_le_of_lt (inR_le _ _) (by decide) | exact Nat.lt_of_le_of_lt (bitN_le _ _) (by decide) | exact Nat.lt_of_le_of_lt (inI_le _ _ _) (by decide) | exact inI_le _ _ _ | exact inR_le _ _ | exact bitN_le _ _) (by first | omega | exact Nat.lt_of_le_of_lt (inR_le _ _) (by decide) | exact Nat.lt_of_le_of_lt (bitN_le _ _) (by decide) | exact Nat.lt_of_le_of_lt (inI_le _ _ _) (by decide) | exact inI_le _ _ _ | exact inR_le _ _ | exact bitN_le _ _) ?_
              refine R_top (congrArg nI (lc_div (show i < 8 by omega))) ?_
              refine R_callVp a_X11_has_102 hM (md_counts hM hMT ok hi hs) rfl rfl rfl rfl rfl ?_
              refine R_goto a_X11_has_105 ?_
              refine R_istore (ls' := [_, _, _, _, _, _, _, _, _, _, _]) a_X11_has_132 rfl rfl rfl ?_
              refine R_iload a_X11_has_134 rfl ?_
              refine R_iload_n a_X11_has_136 rfl ?_
              refine R_icmp_ne_n (a := toW T (saltF T h) i s j t 0) (b := i) a_X11_has_137 (by omega) (by omega) (fun h137 => ?_) (fun h137 => ?_)
              · skip
                have hz : g1W T (saltF T h) i s j t 0 = nI 0 - nI (cnt T i s) := by unfold g1W gainF; rw [if_neg h137]; rfl
                refine R_iconst (v := nI 0) a_X11_has_144 rfl ?_
                refine R_iload a_X11_has_145 rfl ?_
                refine R_isub a_X11_has_147 ?_
                refine R_iret a_X11_has_148 rfl ?_
                exact ⟨by rw [hz], rfl⟩
              · skip
                have hz : g1W T (saltF T h) i s j t 0 = nI 5 - nI (cnt T i s) := by unfold g1W gainF; rw [if_pos h137]; rfl
                refine R_iconst (v := nI 5) a_X11_has_140 rfl ?_
                refine R_goto a_X11_has_141 ?_
                refine R_iload a_X11_has_145 rfl ?_
                refine R_isub a_X11_has_147 ?_
                refine R_iret a_X11_has_148 rfl ?_
                exact ⟨by rw [hz], rfl⟩
    · skip
      exact absurd rfl h20
  · skip
    exact absurd rfl h2

set_option maxRecDepth 20000 in
theorem md_has1_1 {σ : AHp} {tl u kn ns : Nat} {at_ : Int32} {ft : Nat → Int32} {T : Tb} (hM : σ 272 = some (mdO tl u kn ns at_)) (hMT : MT σ ft T) (ok : TbOk T) {h : Hs} (hSr : σ 276 = some (iA 0 43 (nF (sF T h)))) {i s j t : Nat} (hi : i < T.g) (hs : s < T.n) (hj : j < T.g) (ht : t < T.n) (hij : ¬ i = j) : EvP M_X11_has [.ref 272, .int (nI i), .int (nI i), .int (nI (lcF T i s)), .int (nI j), .int (nI (lcF T j t)), .int (nI 1)] σ (.int (g1W T (saltF T h) i s j t 1)) := by
  obtain ⟨hTo, t0, t1, t2, t3, t28, tkd, thn, tkn, thf⟩ := id hMT
  obtain ⟨g3, g8, n1, n6, lw, stg, son, kd4, hn10, kn63, hf4⟩ := id ok
  have hn64 : 2 ^ T.n ≤ 2 ^ 6 := Nat.pow_le_pow_right (by decide) n6
  have hsg := saltF_lt ok h
  have hb1 := bitN_le T.so s
  have hb2 := bitN_le T.so t
  have hl1 : CdOk T (lcF T i s) := CdOk.say ok hi hs (by omega)
  have hl2 : CdOk T (lcF T j t) := CdOk.say ok hj ht (by omega)
  have hl1e := hl1.le
  have hl2e := hl2.le
  have htw : toW T (saltF T h) i s j t 1 < T.g := comesF_lt (by omega) hsg
  refine Ev.of (ls := [_, _, _, _, _, _, _, _, _, _, _]) 4 (by decide) rfl rfl ?_
  refine R_iload a_X11_has_0 rfl ?_
  first | with_reducible refine R_if_eq_n a_X11_has_2 (by first | omega | exact Nat.lt_of_le_of_lt (inR_le _ _) (by decide) | exact Nat.lt_of_le_of_lt (bitN_le _ _) (by decide) | exact Nat.lt_of_le_of_lt (inI_le _ _ _) (by decide) | exact inI_le _ _ _ | exact inR_le _ _ | exact bitN_le _ _) (fun h2 => ?_) (fun h2 => ?_) | refine R_if_eq a_X11_has_2 (fun h2 => ?_) (fun h2 => ?_)
  · skip
    exact absurd h2 (by decide)
  · skip
    refine R_iload a_X11_has_5 rfl ?_
    refine R_iconst (v := nI 1) a_X11_has_7 rfl ?_
    first | with_reducible refine R_icmp_ne_n a_X11_has_8 (by first | omega | exact Nat.lt_of_le_of_lt (inR_le _ _) (by decide) | exact Nat.lt_of_le_of_lt (bitN_le _ _) (by decide) | exact Nat.lt_of_le_of_lt (inI_le _ _ _) (by decide) | exact inI_le _ _ _ | exact inR_le _ _ | exact bitN_le _ _) (by first | omega | exact Nat.lt_of_le_of_lt (inR_le _ _) (by decide) | exact Nat.lt_of_le_of_lt (bitN_le _ _) (by decide) | exact Nat.lt_of_le_of_lt (inI_le _ _ _) (by decide) | exact inI_le _ _ _ | exact inR_le _ _ | exact bitN_le _ _) (fun h8 => ?_) (fun h8 => ?_) | refine R_icmp_ne a_X11_has_8 (fun h8 => ?_) (fun h8 => ?_)
    · skip
      exact absurd rfl h8
    · skip
      refine R_iconst (v := nI 1) a_X11_has_11 rfl ?_
      refine R_goto a_X11_has_12 ?_
      refine R_istore (ls' := [_, _, _, _, _, _, _, _, _, _, _]) a_X11_has_16 rfl rfl rfl ?_
      refine R_iload a_X11_has_18 rfl ?_
      first | with_reducible refine R_if_eq_n a_X11_has_20 (by first | omega | exact Nat.lt_of_le_of_lt (inR_le _ _) (by decide) | exact Nat.lt_of_le_of_lt (bitN_le _ _) (by decide) | exact Nat.lt_of_le_of_lt (inI_le _ _ _) (by decide) | exact inI_le _ _ _ | exact inR_le _ _ | exact bitN_le _ _) (fun h20 => ?_) (fun h20 => ?_) | refine R_if_eq a_X11_has_20 (fun h20 => ?_) (fun h20 => ?_)
      · skip
        exact absurd h20 (by decide)
      · skip
        refine R_iload a_X11_has_23 rfl ?_
        refine R_iconst (v := nI 2) a_X11_has_25 rfl ?_
        first | with_reducible refine R_icmp_ne_n a_X11_has_26 (by first | omega | exact Nat.lt_of_le_of_lt (inR_le _ _) (by decide) | exact Nat.lt_of_le_of_lt (bitN_le _ _) (by decide) | exact Nat.lt_of_le_of_lt (inI_le _ _ _) (by decide) | exact inI_le _ _ _ | exact inR_le _ _ | exact bitN_le _ _) (by first | omega | exact Nat.lt_of_le_of_lt (inR_le _ _) (by decide) | exact Nat.lt_of_le_of_lt (bitN_le _ _) (by decide) | exact Nat.lt_of_le_of_lt (inI_le _ _ _) (by decide) | exact inI_le _ _ _ | exact inR_le _ _ | exact bitN_le _ _) (fun h26 => ?_) (fun h26 => ?_) | refine R_icmp_ne a_X11_has_26 (fun h26 => ?_) (fun h26 => ?_)
        · skip
          refine R_iconst (v := nI 0) a_X11_has_33 rfl ?_
          refine R_istore (ls' := [_, _, _, _, _, _, _, _, _, _, _]) a_X11_has_34 rfl rfl rfl ?_
          refine R_aload_n a_X11_has_36 rfl ?_
          refine R_aload_n a_X11_has_37 rfl ?_
          refine R_get a_X11_has_38 hM rfl ?_
          refine R_iconst (v := nI 0) a_X11_has_41 rfl ?_
          refine R_iald_n a_X11_has_42 hSr (by first | omega | exact Nat.lt_of_le_of_lt (inR_le _ _) (by decide) | exact Nat.lt_of_le_of_lt (bitN_le _ _) (by decide) | exact Nat.lt_of_le_of_lt (inI_le _ _ _) (by decide) | exact inI_le _ _ _ | exact inR_le _ _ | exact bitN_le _ _) (by decide) ?_
          refine R_top (congrArg nI (sF_0 T h)) ?_
          refine R_iload a_X11_has_43 rfl ?_
          first | with_reducible refine R_if_eq_n a_X11_has_45 (by first | omega | exact Nat.lt_of_le_of_lt (inR_le _ _) (by decide) | exact Nat.lt_of_le_of_lt (bitN_le _ _) (by decide) | exact Nat.lt_of_le_of_lt (inI_le _ _ _) (by decide) | exact inI_le _ _ _ | exact inR_le _ _ | exact bitN_le _ _) (fun h45 => ?_) (fun h45 => ?_) | refine R_if_eq a_X11_has_45 (fun h45 => ?_) (fun h45 => ?_)
          · skip
            exact absurd h45 (by decide)
          · skip
            refine R_iload_n a_X11_has_48 rfl ?_
            refine R_goto a_X11_has_49 ?_
            refine R_iload a_X11_has_55 rfl ?_
            first | with_reducible refine R_if_eq_n a_X11_has_57 (by first | omega | exact Nat.lt_of_le_of_lt (inR_le _ _) (by decide) | exact Nat.lt_of_le_of_lt (bitN_le _ _) (by decide) | exact Nat.lt_of_le_of_lt (inI_le _ _ _) (by decide) | exact inI_le _ _ _ | exact inR_le _ _ | exact bitN_le _ _) (fun h57 => ?_) (fun h57 => ?_) | refine R_if_eq a_X11_has_57 (fun h57 => ?_) (fun h57 => ?_)
            · skip
              refine R_sipush (v := nI 128) a_X11_has_65 rfl ?_
              refine R_aload_n a_X11_has_68 rfl ?_
              refine R_get a_X11_has_69 hM rfl ?_
              refine R_bipush (v := nI 28) a_X11_has_72 rfl ?_
              refine R_iald_n a_X11_has_74 hTo (by first | omega | exact Nat.lt_of_le_of_lt (inR_le _ _) (by decide) | exact Nat.lt_of_le_of_lt (bitN_le _ _) (by decide) | exact Nat.lt_of_le_of_lt (inI_le _ _ _) (by decide) | exact inI_le _ _ _ | exact inR_le _ _ | exact bitN_le _ _) (by decide) ?_
              refine R_top t28 ?_
              refine R_aload_n a_X11_has_75 rfl ?_
              refine R_get a_X11_has_76 hM rfl ?_
              refine R_iconst (v := nI 2) a_X11_has_79 rfl ?_
              refine R_iald_n a_X11_has_80 hTo (by first | omega | exact Nat.lt_of_le_of_lt (inR_le _ _) (by decide) | exact Nat.lt_of_le_of_lt (bitN_le _ _) (by decide) | exact Nat.lt_of_le_of_lt (inI_le _ _ _) (by decide) | exact inI_le _ _ _ | exact inR_le _ _ | exact bitN_le _ _) (by decide) ?_
              refine R_top t2 ?_
              refine R_callVp a_X11_has_81 hM (md_comes hM hMT ok hsg hl1 (Or.inl rfl) (show T.so < 2 ^ 31 by omega) lw) rfl rfl rfl rfl rfl ?_
              refine R_top (show nI (comesF T (saltF T h) (lcF T i s) 128 T.so T.law) = nI (toW T (saltF T h) i s j t 1) from rfl) ?_
              refine R_istore (ls' := [_, _, _, _, _, _, _, _, _, _, _]) a_X11_has_84 rfl rfl rfl ?_
              refine R_iload_n a_X11_has_86 rfl ?_
              refine R_iload_n a_X11_has_87 rfl ?_
              first | with_reducible refine R_icmp_ne_n a_X11_has_88 (by first | omega | exact Nat.lt_of_le_of_lt (inR_le _ _) (by decide) | exact Nat.lt_of_le_of_lt (bitN_le _ _) (by decide) | exact Nat.lt_of_le_of_lt (inI_le _ _ _) (by decide) | exact inI_le _ _ _ | exact inR_le _ _ | exact bitN_le _ _) (by first | omega | exact Nat.lt_of_le_of_lt (inR_le _ _) (by decide) | exact Nat.lt_of_le_of_lt (bitN_le _ _) (by decide) | exact Nat.lt_of_le_of_lt (inI_le _ _ _) (by decide) | exact inI_le _ _ _ | exact inR_le _ _ | exact bitN_le _ _) (fun h88 => ?_) (fun h88 => ?_) | refine R_icmp_ne a_X11_has_88 (fun h88 => ?_) (fun h88 => ?_)
              · skip
                exact absurd rfl h88
              · skip
                refine R_iload a_X11_has_91 rfl ?_
                first | with_reducible refine R_if_eq_n a_X11_has_93 (by first | omega | exact Nat.lt_of_le_of_lt (inR_le _ _) (by decide) | exact Nat.lt_of_le_of_lt (bitN_le _ _) (by decide) | exact Nat.lt_of_le_of_lt (inI_le _ _ _) (by decide) | exact inI_le _ _ _ | exact inR_le _ _ | exact bitN_le _ _) (fun h93 => ?_) (fun h93 => ?_) | refine R_if_eq a_X11_has_93 (fun h93 => ?_) (fun h93 => ?_)
                · skip
                  exact absurd h93 (by decide)
                · skip
                  refine R_aload_n a_X11_has_96 rfl ?_
                  refine R_iload_n a_X11_has_97 rfl ?_
                  refine R_iload_n a_X11_has_98 rfl ?_
                  refine R_bipush (v := nI 16) a_X11_has_99 rfl ?_
                  refine R_idiv_n a_X11_has_101 (by first | omega | exact Nat.lt_of_le_of_lt (inR_le _ _) (by decide) | exact Nat.lt_of_le_of_lt (bitN_le _ _) (by decide) | exact Nat.lt_of_le_of_lt (inI_le _ _ _) (by decide) | exact inI_le _ _ _ | exact inR_le _ _ | exact bitN_le _ _) (by first | omega | exact Nat.lt_of_le_of_lt (inR_le _ _) (by decide) | exact Nat.lt_of_le_of_lt (bitN_le _ _) (by decide) | exact Nat.lt_of_le_of_lt (inI_le _ _ _) (by decide) | exact inI_le _ _ _ | exact inR_le _ _ | exact bitN_le _ _) (by first | omega | exact Nat.lt_of_le_of_lt (inR_le _ _) (by decide) | exact Nat.lt_of_le_of_lt (bitN_le _ _) (by decide) | exact Nat.lt_of_le_of_lt (inI_le _ _ _) (by decide) | exact inI_le _ _ _ | exact inR_le _ _ | exact bitN_le _ _) ?_
                  refine R_top (congrArg nI (lc_div (show i < 8 by omega))) ?_
                  refine R_callVp a_X11_has_102 hM (md_counts hM hMT ok hi hs) rfl rfl rfl rfl rfl ?_
                  refine R_goto a_X11_has_105 ?_
                  refine R_istore (ls' := [_, _, _, _, _, _, _, _, _, _, _]) a_X11_has_132 rfl rfl rfl ?_
                  refine R_iload a_X11_has_134 rfl ?_
                  refine R_iload_n a_X11_has_136 rfl ?_
                  refine R_icmp_ne_n (a := toW T (saltF T h) i s j t 1) (b := i) a_X11_has_137 (by omega) (by omega) (fun h137 => ?_) (fun h137 => ?_)
                  · skip
                    have hz : g1W T (saltF T h) i s j t 1 = nI 0 - nI (cnt T i s) := by unfold g1W gainF; rw [if_neg h137]; rfl
                    refine R_iconst (v := nI 0) a_X11_has_144 rfl ?_
                    refine R_iload a_X11_has_145 rfl ?_
                    refine R_isub a_X11_has_147 ?_
                    refine R_iret a_X11_has_148 rfl ?_
                    exact ⟨by rw [hz], rfl⟩
                  · skip
                    have hz : g1W T (saltF T h) i s j t 1 = nI 5 - nI (cnt T i s) := by unfold g1W gainF; rw [if_pos h137]; rfl
                    refine R_iconst (v := nI 5) a_X11_has_140 rfl ?_
                    refine R_goto a_X11_has_141 ?_
                    refine R_iload a_X11_has_145 rfl ?_
                    refine R_isub a_X11_has_147 ?_
                    refine R_iret a_X11_has_148 rfl ?_
                    exact ⟨by rw [hz], rfl⟩
            · skip
              exact absurd rfl h57
        · skip
          exact absurd h26 (by decide)

set_option maxRecDepth 20000 in
theorem md_has1_2 {σ : AHp} {tl u kn ns : Nat} {at_ : Int32} {ft : Nat → Int32} {T : Tb} (hM : σ 272 = some (mdO tl u kn ns at_)) (hMT : MT σ ft T) (ok : TbOk T) {h : Hs} (hSr : σ 276 = some (iA 0 43 (nF (sF T h)))) {i s j t : Nat} (hi : i < T.g) (hs : s < T.n) (hj : j < T.g) (ht : t < T.n) (hij : ¬ i = j) : EvP M_X11_has [.ref 272, .int (nI i), .int (nI i), .int (nI (lcF T i s)), .int (nI j), .int (nI (lcF T j t)), .int (nI 2)] σ (.int (g1W T (saltF T h) i s j t 2)) := by
  obtain ⟨hTo, t0, t1, t2, t3, t28, tkd, thn, tkn, thf⟩ := id hMT
  obtain ⟨g3, g8, n1, n6, lw, stg, son, kd4, hn10, kn63, hf4⟩ := id ok
  have hn64 : 2 ^ T.n ≤ 2 ^ 6 := Nat.pow_le_pow_right (by decide) n6
  have hsg := saltF_lt ok h
  have hb1 := bitN_le T.so s
  have hb2 := bitN_le T.so t
  have hl1 : CdOk T (lcF T i s) := CdOk.say ok hi hs (by omega)
  have hl2 : CdOk T (lcF T j t) := CdOk.say ok hj ht (by omega)
  have hl1e := hl1.le
  have hl2e := hl2.le
  have htw : toW T (saltF T h) i s j t 2 < T.g := comesF_lt (by omega) hsg
  refine Ev.of (ls := [_, _, _, _, _, _, _, _, _, _, _]) 4 (by decide) rfl rfl ?_
  refine R_iload a_X11_has_0 rfl ?_
  first | with_reducible refine R_if_eq_n a_X11_has_2 (by first | omega | exact Nat.lt_of_le_of_lt (inR_le _ _) (by decide) | exact Nat.lt_of_le_of_lt (bitN_le _ _) (by decide) | exact Nat.lt_of_le_of_lt (inI_le _ _ _) (by decide) | exact inI_le _ _ _ | exact inR_le _ _ | exact bitN_le _ _) (fun h2 => ?_) (fun h2 => ?_) | refine R_if_eq a_X11_has_2 (fun h2 => ?_) (fun h2 => ?_)
  · skip
    exact absurd h2 (by decide)
  · skip
    refine R_iload a_X11_has_5 rfl ?_
    refine R_iconst (v := nI 1) a_X11_has_7 rfl ?_
    first | with_reducible refine R_icmp_ne_n a_X11_has_8 (by first | omega | exact Nat.lt_of_le_of_lt (inR_le _ _) (by decide) | exact Nat.lt_of_le_of_lt (bitN_le _ _) (by decide) | exact Nat.lt_of_le_of_lt (inI_le _ _ _) (by decide) | exact inI_le _ _ _ | exact inR_le _ _ | exact bitN_le _ _) (by first | omega | exact Nat.lt_of_le_of_lt (inR_le _ _) (by decide) | exact Nat.lt_of_le_of_lt (bitN_le _ _) (by decide) | exact Nat.lt_of_le_of_lt (inI_le _ _ _) (by decide) | exact inI_le _ _ _ | exact inR_le _ _ | exact bitN_le _ _) (fun h8 => ?_) (fun h8 => ?_) | refine R_icmp_ne a_X11_has_8 (fun h8 => ?_) (fun h8 => ?_)
    · skip
      refine R_iconst (v := nI 0) a_X11_has_15 rfl ?_
      refine R_istore (ls' := [_, _, _, _, _, _, _, _, _, _, _]) a_X11_has_16 rfl rfl rfl ?_
      refine R_iload a_X11_has_18 rfl ?_
      first | with_reducible refine R_if_eq_n a_X11_has_20 (by first | omega | exact Nat.lt_of_le_of_lt (inR_le _ _) (by decide) | exact Nat.lt_of_le_of_lt (bitN_le _ _) (by decide) | exact Nat.lt_of_le_of_lt (inI_le _ _ _) (by decide) | exact inI_le _ _ _ | exact inR_le _ _ | exact bitN_le _ _) (fun h20 => ?_) (fun h20 => ?_) | refine R_if_eq a_X11_has_20 (fun h20 => ?_) (fun h20 => ?_)
      · skip
        exact absurd h20 (by decide)
      · skip
        refine R_iload a_X11_has_23 rfl ?_
        refine R_iconst (v := nI 2) a_X11_has_25 rfl ?_
        first | with_reducible refine R_icmp_ne_n a_X11_has_26 (by first | omega | exact Nat.lt_of_le_of_lt (inR_le _ _) (by decide) | exact Nat.lt_of_le_of_lt (bitN_le _ _) (by decide) | exact Nat.lt_of_le_of_lt (inI_le _ _ _) (by decide) | exact inI_le _ _ _ | exact inR_le _ _ | exact bitN_le _ _) (by first | omega | exact Nat.lt_of_le_of_lt (inR_le _ _) (by decide) | exact Nat.lt_of_le_of_lt (bitN_le _ _) (by decide) | exact Nat.lt_of_le_of_lt (inI_le _ _ _) (by decide) | exact inI_le _ _ _ | exact inR_le _ _ | exact bitN_le _ _) (fun h26 => ?_) (fun h26 => ?_) | refine R_icmp_ne a_X11_has_26 (fun h26 => ?_) (fun h26 => ?_)
        · skip
          exact absurd rfl h26
        · skip
          refine R_iconst (v := nI 1) a_X11_has_29 rfl ?_
          refine R_goto a_X11_has_30 ?_
          refine R_istore (ls' := [_, _, _, _, _, _, _, _, _, _, _]) a_X11_has_34 rfl rfl rfl ?_
          refine R_aload_n a_X11_has_36 rfl ?_
          refine R_aload_n a_X11_has_37 rfl ?_
          refine R_get a_X11_has_38 hM rfl ?_
          refine R_iconst (v := nI 0) a_X11_has_41 rfl ?_
          refine R_iald_n a_X11_has_42 hSr (by first | omega | exact Nat.lt_of_le_of_lt (inR_le _ _) (by decide) | exact Nat.lt_of_le_of_lt (bitN_le _ _) (by decide) | exact Nat.lt_of_le_of_lt (inI_le _ _ _) (by decide) | exact inI_le _ _ _ | exact inR_le _ _ | exact bitN_le _ _) (by decide) ?_
          refine R_top (congrArg nI (sF_0 T h)) ?_
          refine R_iload a_X11_has_43 rfl ?_
          first | with_reducible refine R_if_eq_n a_X11_has_45 (by first | omega | exact Nat.lt_of_le_of_lt (inR_le _ _) (by decide) | exact Nat.lt_of_le_of_lt (bitN_le _ _) (by decide) | exact Nat.lt_of_le_of_lt (inI_le _ _ _) (by decide) | exact inI_le _ _ _ | exact inR_le _ _ | exact bitN_le _ _) (fun h45 => ?_) (fun h45 => ?_) | refine R_if_eq a_X11_has_45 (fun h45 => ?_) (fun h45 => ?_)
          · skip
            refine R_sipush (v := nI 128) a_X11_has_52 rfl ?_
            refine R_iload a_X11_has_55 rfl ?_
            first | with_reducible refine R_if_eq_n a_X11_has_57 (by first | omega | exact Nat.lt_of_le_of_lt (inR_le _ _) (by decide) | exact Nat.lt_of_le_of_lt (bitN_le _ _) (by decide) | exact Nat.lt_of_le_of_lt (inI_le _ _ _) (by decide) | exact inI_le _ _ _ | exact inR_le _ _ | exact bitN_le _ _) (fun h57 => ?_) (fun h57 => ?_) | refine R_if_eq a_X11_has_57 (fun h57 => ?_) (fun h57 => ?_)
            · skip
              exact absurd h57 (by decide)
            · skip
              refine R_iload a_X11_has_60 rfl ?_
              refine R_goto a_X11_has_62 ?_
              refine R_aload_n a_X11_has_68 rfl ?_
              refine R_get a_X11_has_69 hM rfl ?_
              refine R_bipush (v := nI 28) a_X11_has_72 rfl ?_
              refine R_iald_n a_X11_has_74 hTo (by first | omega | exact Nat.lt_of_le_of_lt (inR_le _ _) (by decide) | exact Nat.lt_of_le_of_lt (bitN_le _ _) (by decide) | exact Nat.lt_of_le_of_lt (inI_le _ _ _) (by decide) | exact inI_le _ _ _ | exact inR_le _ _ | exact bitN_le _ _) (by decide) ?_
              refine R_top t28 ?_
              refine R_aload_n a_X11_has_75 rfl ?_
              refine R_get a_X11_has_76 hM rfl ?_
              refine R_iconst (v := nI 2) a_X11_has_79 rfl ?_
              refine R_iald_n a_X11_has_80 hTo (by first | omega | exact Nat.lt_of_le_of_lt (inR_le _ _) (by decide) | exact Nat.lt_of_le_of_lt (bitN_le _ _) (by decide) | exact Nat.lt_of_le_of_lt (inI_le _ _ _) (by decide) | exact inI_le _ _ _ | exact inR_le _ _ | exact bitN_le _ _) (by decide) ?_
              refine R_top t2 ?_
              refine R_callVp a_X11_has_81 hM (md_comes hM hMT ok hsg (Or.inl rfl) hl2 (show T.so < 2 ^ 31 by omega) lw) rfl rfl rfl rfl rfl ?_
              refine R_top (show nI (comesF T (saltF T h) 128 (lcF T j t) T.so T.law) = nI (toW T (saltF T h) i s j t 2) from congrArg nI comes_swap) ?_
              refine R_istore (ls' := [_, _, _, _, _, _, _, _, _, _, _]) a_X11_has_84 rfl rfl rfl ?_
              refine R_iload_n a_X11_has_86 rfl ?_
              refine R_iload_n a_X11_has_87 rfl ?_
              first | with_reducible refine R_icmp_ne_n a_X11_has_88 (by first | omega | exact Nat.lt_of_le_of_lt (inR_le _ _) (by decide) | exact Nat.lt_of_le_of_lt (bitN_le _ _) (by decide) | exact Nat.lt_of_le_of_lt (inI_le _ _ _) (by decide) | exact inI_le _ _ _ | exact inR_le _ _ | exact bitN_le _ _) (by first | omega | exact Nat.lt_of_le_of_lt (inR_le _ _) (by decide) | exact Nat.lt_of_le_of_lt (bitN_le _ _) (by decide) | exact Nat.lt_of_le_of_lt (inI_le _ _ _) (by decide) | exact inI_le _ _ _ | exact inR_le _ _ | exact bitN_le _ _) (fun h88 => ?_) (fun h88 => ?_) | refine R_icmp_ne a_X11_has_88 (fun h88 => ?_) (fun h88 => ?_)
              · skip
                exact absurd rfl h88
              · skip
                refine R_iload a_X11_has_91 rfl ?_
                first | with_reducible refine R_if_eq_n a_X11_has_93 (by first | omega | exact Nat.lt_of_le_of_lt (inR_le _ _) (by decide) | exact Nat.lt_of_le_of_lt (bitN_le _ _) (by decide) | exact Nat.lt_of_le_of_lt (inI_le _ _ _) (by decide) | exact inI_le _ _ _ | exact inR_le _ _ | exact bitN_le _ _) (fun h93 => ?_) (fun h93 => ?_) | refine R_if_eq a_X11_has_93 (fun h93 => ?_) (fun h93 => ?_)
                · skip
                  refine R_iconst (v := nI 0) a_X11_has_108 rfl ?_
                  refine R_goto a_X11_has_109 ?_
                  refine R_istore (ls' := [_, _, _, _, _, _, _, _, _, _, _]) a_X11_has_132 rfl rfl rfl ?_
                  refine R_iload a_X11_has_134 rfl ?_
                  refine R_iload_n a_X11_has_136 rfl ?_
                  refine R_icmp_ne_n (a := toW T (saltF T h) i s j t 2) (b := i) a_X11_has_137 (by omega) (by omega) (fun h137 => ?_) (fun h137 => ?_)
                  · skip
                    have hz : g1W T (saltF T h) i s j t 2 = nI 0 - nI (0) := by unfold g1W gainF; rw [if_neg h137]; rfl
                    refine R_iconst (v := nI 0) a_X11_has_144 rfl ?_
                    refine R_iload a_X11_has_145 rfl ?_
                    refine R_isub a_X11_has_147 ?_
                    refine R_iret a_X11_has_148 rfl ?_
                    exact ⟨by rw [hz], rfl⟩
                  · skip
                    have hz : g1W T (saltF T h) i s j t 2 = nI 5 - nI (0) := by unfold g1W gainF; rw [if_pos h137]; rfl
                    refine R_iconst (v := nI 5) a_X11_has_140 rfl ?_
                    refine R_goto a_X11_has_141 ?_
                    refine R_iload a_X11_has_145 rfl ?_
                    refine R_isub a_X11_has_147 ?_
                    refine R_iret a_X11_has_148 rfl ?_
                    exact ⟨by rw [hz], rfl⟩
                · skip
                  exact absurd rfl h93
          · skip
            exact absurd rfl h45
    · skip
      exact absurd h8 (by decide)

set_option maxRecDepth 20000 in
theorem md_has1_3 {σ : AHp} {tl u kn ns : Nat} {at_ : Int32} {ft : Nat → Int32} {T : Tb} (hM : σ 272 = some (mdO tl u kn ns at_)) (hMT : MT σ ft T) (ok : TbOk T) {h : Hs} (hSr : σ 276 = some (iA 0 43 (nF (sF T h)))) {i s j t : Nat} (hi : i < T.g) (hs : s < T.n) (hj : j < T.g) (ht : t < T.n) (hij : ¬ i = j) : EvP M_X11_has [.ref 272, .int (nI i), .int (nI i), .int (nI (lcF T i s)), .int (nI j), .int (nI (lcF T j t)), .int (nI 3)] σ (.int (g1W T (saltF T h) i s j t 3)) := by
  obtain ⟨hTo, t0, t1, t2, t3, t28, tkd, thn, tkn, thf⟩ := id hMT
  obtain ⟨g3, g8, n1, n6, lw, stg, son, kd4, hn10, kn63, hf4⟩ := id ok
  have hn64 : 2 ^ T.n ≤ 2 ^ 6 := Nat.pow_le_pow_right (by decide) n6
  have hsg := saltF_lt ok h
  have hb1 := bitN_le T.so s
  have hb2 := bitN_le T.so t
  have hl1 : CdOk T (lcF T i s) := CdOk.say ok hi hs (by omega)
  have hl2 : CdOk T (lcF T j t) := CdOk.say ok hj ht (by omega)
  have hl1e := hl1.le
  have hl2e := hl2.le
  have htw : toW T (saltF T h) i s j t 3 < T.g := comesF_lt (by omega) hsg
  refine Ev.of (ls := [_, _, _, _, _, _, _, _, _, _, _]) 4 (by decide) rfl rfl ?_
  refine R_iload a_X11_has_0 rfl ?_
  first | with_reducible refine R_if_eq_n a_X11_has_2 (by first | omega | exact Nat.lt_of_le_of_lt (inR_le _ _) (by decide) | exact Nat.lt_of_le_of_lt (bitN_le _ _) (by decide) | exact Nat.lt_of_le_of_lt (inI_le _ _ _) (by decide) | exact inI_le _ _ _ | exact inR_le _ _ | exact bitN_le _ _) (fun h2 => ?_) (fun h2 => ?_) | refine R_if_eq a_X11_has_2 (fun h2 => ?_) (fun h2 => ?_)
  · skip
    exact absurd h2 (by decide)
  · skip
    refine R_iload a_X11_has_5 rfl ?_
    refine R_iconst (v := nI 1) a_X11_has_7 rfl ?_
    first | with_reducible refine R_icmp_ne_n a_X11_has_8 (by first | omega | exact Nat.lt_of_le_of_lt (inR_le _ _) (by decide) | exact Nat.lt_of_le_of_lt (bitN_le _ _) (by decide) | exact Nat.lt_of_le_of_lt (inI_le _ _ _) (by decide) | exact inI_le _ _ _ | exact inR_le _ _ | exact bitN_le _ _) (by first | omega | exact Nat.lt_of_le_of_lt (inR_le _ _) (by decide) | exact Nat.lt_of_le_of_lt (bitN_le _ _) (by decide) | exact Nat.lt_of_le_of_lt (inI_le _ _ _) (by decide) | exact inI_le _ _ _ | exact inR_le _ _ | exact bitN_le _ _) (fun h8 => ?_) (fun h8 => ?_) | refine R_icmp_ne a_X11_has_8 (fun h8 => ?_) (fun h8 => ?_)
    · skip
      refine R_iconst (v := nI 0) a_X11_has_15 rfl ?_
      refine R_istore (ls' := [_, _, _, _, _, _, _, _, _, _, _]) a_X11_has_16 rfl rfl rfl ?_
      refine R_iload a_X11_has_18 rfl ?_
      first | with_reducible refine R_if_eq_n a_X11_has_20 (by first | omega | exact Nat.lt_of_le_of_lt (inR_le _ _) (by decide) | exact Nat.lt_of_le_of_lt (bitN_le _ _) (by decide) | exact Nat.lt_of_le_of_lt (inI_le _ _ _) (by decide) | exact inI_le _ _ _ | exact inR_le _ _ | exact bitN_le _ _) (fun h20 => ?_) (fun h20 => ?_) | refine R_if_eq a_X11_has_20 (fun h20 => ?_) (fun h20 => ?_)
      · skip
        exact absurd h20 (by decide)
      · skip
        refine R_iload a_X11_has_23 rfl ?_
        refine R_iconst (v := nI 2) a_X11_has_25 rfl ?_
        first | with_reducible refine R_icmp_ne_n a_X11_has_26 (by first | omega | exact Nat.lt_of_le_of_lt (inR_le _ _) (by decide) | exact Nat.lt_of_le_of_lt (bitN_le _ _) (by decide) | exact Nat.lt_of_le_of_lt (inI_le _ _ _) (by decide) | exact inI_le _ _ _ | exact inR_le _ _ | exact bitN_le _ _) (by first | omega | exact Nat.lt_of_le_of_lt (inR_le _ _) (by decide) | exact Nat.lt_of_le_of_lt (bitN_le _ _) (by decide) | exact Nat.lt_of_le_of_lt (inI_le _ _ _) (by decide) | exact inI_le _ _ _ | exact inR_le _ _ | exact bitN_le _ _) (fun h26 => ?_) (fun h26 => ?_) | refine R_icmp_ne a_X11_has_26 (fun h26 => ?_) (fun h26 => ?_)
        · skip
          refine R_iconst (v := nI 0) a_X11_has_33 rfl ?_
          refine R_istore (ls' := [_, _, _, _, _, _, _, _, _, _, _]) a_X11_has_34 rfl rfl rfl ?_
          refine R_aload_n a_X11_has_36 rfl ?_
          refine R_aload_n a_X11_has_37 rfl ?_
          refine R_get a_X11_has_38 hM rfl ?_
          refine R_iconst (v := nI 0) a_X11_has_41 rfl ?_
          refine R_iald_n a_X11_has_42 hSr (by first | omega | exact Nat.lt_of_le_of_lt (inR_le _ _) (by decide) | exact Nat.lt_of_le_of_lt (bitN_le _ _) (by decide) | exact Nat.lt_of_le_of_lt (inI_le _ _ _) (by decide) | exact inI_le _ _ _ | exact inR_le _ _ | exact bitN_le _ _) (by decide) ?_
          refine R_top (congrArg nI (sF_0 T h)) ?_
          refine R_iload a_X11_has_43 rfl ?_
          first | with_reducible refine R_if_eq_n a_X11_has_45 (by first | omega | exact Nat.lt_of_le_of_lt (inR_le _ _) (by decide) | exact Nat.lt_of_le_of_lt (bitN_le _ _) (by decide) | exact Nat.lt_of_le_of_lt (inI_le _ _ _) (by decide) | exact inI_le _ _ _ | exact inR_le _ _ | exact bitN_le _ _) (fun h45 => ?_) (fun h45 => ?_) | refine R_if_eq a_X11_has_45 (fun h45 => ?_) (fun h45 => ?_)
          · skip
            refine R_sipush (v := nI 128) a_X11_has_52 rfl ?_
            refine R_iload a_X11_has_55 rfl ?_
            first | with_reducible refine R_if_eq_n a_X11_has_57 (by first | omega | exact Nat.lt_of_le_of_lt (inR_le _ _) (by decide) | exact Nat.lt_of_le_of_lt (bitN_le _ _) (by decide) | exact Nat.lt_of_le_of_lt (inI_le _ _ _) (by decide) | exact inI_le _ _ _ | exact inR_le _ _ | exact bitN_le _ _) (fun h57 => ?_) (fun h57 => ?_) | refine R_if_eq a_X11_has_57 (fun h57 => ?_) (fun h57 => ?_)
            · skip
              refine R_sipush (v := nI 128) a_X11_has_65 rfl ?_
              refine R_aload_n a_X11_has_68 rfl ?_
              refine R_get a_X11_has_69 hM rfl ?_
              refine R_bipush (v := nI 28) a_X11_has_72 rfl ?_
              refine R_iald_n a_X11_has_74 hTo (by first | omega | exact Nat.lt_of_le_of_lt (inR_le _ _) (by decide) | exact Nat.lt_of_le_of_lt (bitN_le _ _) (by decide) | exact Nat.lt_of_le_of_lt (inI_le _ _ _) (by decide) | exact inI_le _ _ _ | exact inR_le _ _ | exact bitN_le _ _) (by decide) ?_
              refine R_top t28 ?_
              refine R_aload_n a_X11_has_75 rfl ?_
              refine R_get a_X11_has_76 hM rfl ?_
              refine R_iconst (v := nI 2) a_X11_has_79 rfl ?_
              refine R_iald_n a_X11_has_80 hTo (by first | omega | exact Nat.lt_of_le_of_lt (inR_le _ _) (by decide) | exact Nat.lt_of_le_of_lt (bitN_le _ _) (by decide) | exact Nat.lt_of_le_of_lt (inI_le _ _ _) (by decide) | exact inI_le _ _ _ | exact inR_le _ _ | exact bitN_le _ _) (by decide) ?_
              refine R_top t2 ?_
              refine R_callVp a_X11_has_81 hM (md_comes hM hMT ok hsg (Or.inl rfl) (Or.inl rfl) (show T.so < 2 ^ 31 by omega) lw) rfl rfl rfl rfl rfl ?_
              refine R_top (show nI (comesF T (saltF T h) 128 128 T.so T.law) = nI (toW T (saltF T h) i s j t 3) from rfl) ?_
              refine R_istore (ls' := [_, _, _, _, _, _, _, _, _, _, _]) a_X11_has_84 rfl rfl rfl ?_
              refine R_iload_n a_X11_has_86 rfl ?_
              refine R_iload_n a_X11_has_87 rfl ?_
              first | with_reducible refine R_icmp_ne_n a_X11_has_88 (by first | omega | exact Nat.lt_of_le_of_lt (inR_le _ _) (by decide) | exact Nat.lt_of_le_of_lt (bitN_le _ _) (by decide) | exact Nat.lt_of_le_of_lt (inI_le _ _ _) (by decide) | exact inI_le _ _ _ | exact inR_le _ _ | exact bitN_le _ _) (by first | omega | exact Nat.lt_of_le_of_lt (inR_le _ _) (by decide) | exact Nat.lt_of_le_of_lt (bitN_le _ _) (by decide) | exact Nat.lt_of_le_of_lt (inI_le _ _ _) (by decide) | exact inI_le _ _ _ | exact inR_le _ _ | exact bitN_le _ _) (fun h88 => ?_) (fun h88 => ?_) | refine R_icmp_ne a_X11_has_88 (fun h88 => ?_) (fun h88 => ?_)
              · skip
                exact absurd rfl h88
              · skip
                refine R_iload a_X11_has_91 rfl ?_
                first | with_reducible refine R_if_eq_n a_X11_has_93 (by first | omega | exact Nat.lt_of_le_of_lt (inR_le _ _) (by decide) | exact Nat.lt_of_le_of_lt (bitN_le _ _) (by decide) | exact Nat.lt_of_le_of_lt (inI_le _ _ _) (by decide) | exact inI_le _ _ _ | exact inR_le _ _ | exact bitN_le _ _) (fun h93 => ?_) (fun h93 => ?_) | refine R_if_eq a_X11_has_93 (fun h93 => ?_) (fun h93 => ?_)
                · skip
                  refine R_iconst (v := nI 0) a_X11_has_108 rfl ?_
                  refine R_goto a_X11_has_109 ?_
                  refine R_istore (ls' := [_, _, _, _, _, _, _, _, _, _, _]) a_X11_has_132 rfl rfl rfl ?_
                  refine R_iload a_X11_has_134 rfl ?_
                  refine R_iload_n a_X11_has_136 rfl ?_
                  refine R_icmp_ne_n (a := toW T (saltF T h) i s j t 3) (b := i) a_X11_has_137 (by omega) (by omega) (fun h137 => ?_) (fun h137 => ?_)
                  · skip
                    have hz : g1W T (saltF T h) i s j t 3 = nI 0 - nI (0) := by unfold g1W gainF; rw [if_neg h137]; rfl
                    refine R_iconst (v := nI 0) a_X11_has_144 rfl ?_
                    refine R_iload a_X11_has_145 rfl ?_
                    refine R_isub a_X11_has_147 ?_
                    refine R_iret a_X11_has_148 rfl ?_
                    exact ⟨by rw [hz], rfl⟩
                  · skip
                    have hz : g1W T (saltF T h) i s j t 3 = nI 5 - nI (0) := by unfold g1W gainF; rw [if_pos h137]; rfl
                    refine R_iconst (v := nI 5) a_X11_has_140 rfl ?_
                    refine R_goto a_X11_has_141 ?_
                    refine R_iload a_X11_has_145 rfl ?_
                    refine R_isub a_X11_has_147 ?_
                    refine R_iret a_X11_has_148 rfl ?_
                    exact ⟨by rw [hz], rfl⟩
                · skip
                  exact absurd rfl h93
            · skip
              exact absurd rfl h57
          · skip
            exact absurd rfl h45
        · skip
          exact absurd h26 (by decide)
    · skip
      exact absurd h8 (by decide)

set_option maxRecDepth 20000 in
theorem md_has2_0 {σ : AHp} {tl u kn ns : Nat} {at_ : Int32} {ft : Nat → Int32} {T : Tb} (hM : σ 272 = some (mdO tl u kn ns at_)) (hMT : MT σ ft T) (ok : TbOk T) {h : Hs} (hSr : σ 276 = some (iA 0 43 (nF (sF T h)))) {i s j t : Nat} (hi : i < T.g) (hs : s < T.n) (hj : j < T.g) (ht : t < T.n) (hij : ¬ i = j) : EvP M_X11_has [.ref 272, .int (nI j), .int (nI i), .int (nI (lcF T i s)), .int (nI j), .int (nI (lcF T j t)), .int (nI 0)] σ (.int (g2W T (saltF T h) i s j t 0)) := by
  obtain ⟨hTo, t0, t1, t2, t3, t28, tkd, thn, tkn, thf⟩ := id hMT
  obtain ⟨g3, g8, n1, n6, lw, stg, son, kd4, hn10, kn63, hf4⟩ := id ok
  have hn64 : 2 ^ T.n ≤ 2 ^ 6 := Nat.pow_le_pow_right (by decide) n6
  have hsg := saltF_lt ok h
  have hb1 := bitN_le T.so s
  have hb2 := bitN_le T.so t
  have hl1 : CdOk T (lcF T i s) := CdOk.say ok hi hs (by omega)
  have hl2 : CdOk T (lcF T j t) := CdOk.say ok hj ht (by omega)
  have hl1e := hl1.le
  have hl2e := hl2.le
  have htw : toW T (saltF T h) i s j t 0 < T.g := comesF_lt (by omega) hsg
  refine Ev.of (ls := [_, _, _, _, _, _, _, _, _, _, _]) 4 (by decide) rfl rfl ?_
  refine R_iload a_X11_has_0 rfl ?_
  first | with_reducible refine R_if_eq_n a_X11_has_2 (by first | omega | exact Nat.lt_of_le_of_lt (inR_le _ _) (by decide) | exact Nat.lt_of_le_of_lt (bitN_le _ _) (by decide) | exact Nat.lt_of_le_of_lt (inI_le _ _ _) (by decide) | exact inI_le _ _ _ | exact inR_le _ _ | exact bitN_le _ _) (fun h2 => ?_) (fun h2 => ?_) | refine R_if_eq a_X11_has_2 (fun h2 => ?_) (fun h2 => ?_)
  · skip
    refine R_iconst (v := nI 1) a_X11_has_11 rfl ?_
    refine R_goto a_X11_has_12 ?_
    refine R_istore (ls' := [_, _, _, _, _, _, _, _, _, _, _]) a_X11_has_16 rfl rfl rfl ?_
    refine R_iload a_X11_has_18 rfl ?_
    first | with_reducible refine R_if_eq_n a_X11_has_20 (by first | omega | exact Nat.lt_of_le_of_lt (inR_le _ _) (by decide) | exact Nat.lt_of_le_of_lt (bitN_le _ _) (by decide) | exact Nat.lt_of_le_of_lt (inI_le _ _ _) (by decide) | exact inI_le _ _ _ | exact inR_le _ _ | exact bitN_le _ _) (fun h20 => ?_) (fun h20 => ?_) | refine R_if_eq a_X11_has_20 (fun h20 => ?_) (fun h20 => ?_)
    · skip
      refine R_iconst (v := nI 1) a_X11_has_29 rfl ?_
      refine R_goto a_X11_has_30 ?_
      refine R_istore (ls' := [_, _, _, _, _, _, _, _, _, _, _]) a_X11_has_34 rfl rfl rfl ?_
      refine R_aload_n a_X11_has_36 rfl ?_
      refine R_aload_n a_X11_has_37 rfl ?_
      refine R_get a_X11_has_38 hM rfl ?_
      refine R_iconst (v := nI 0) a_X11_has_41 rfl ?_
      refine R_iald_n a_X11_has_42 hSr (by first | omega | exact Nat.lt_of_le_of_lt (inR_le _ _) (by decide) | exact Nat.lt_of_le_of_lt (bitN_le _ _) (by decide) | exact Nat.lt_of_le_of_lt (inI_le _ _ _) (by decide) | exact inI_le _ _ _ | exact inR_le _ _ | exact bitN_le _ _) (by decide) ?_
      refine R_top (congrArg nI (sF_0 T h)) ?_
      refine R_iload a_X11_has_43 rfl ?_
      first | with_reducible refine R_if_eq_n a_X11_has_45 (by first | omega | exact Nat.lt_of_le_of_lt (inR_le _ _) (by decide) | exact Nat.lt_of_le_of_lt (bitN_le _ _) (by decide) | exact Nat.lt_of_le_of_lt (inI_le _ _ _) (by decide) | exact inI_le _ _ _ | exact inR_le _ _ | exact bitN_le _ _) (fun h45 => ?_) (fun h45 => ?_) | refine R_if_eq a_X11_has_45 (fun h45 => ?_) (fun h45 => ?_)
      · skip
        exact absurd h45 (by decide)
      · skip
        refine R_iload_n a_X11_has_48 rfl ?_
        refine R_goto a_X11_has_49 ?_
        refine R_iload a_X11_has_55 rfl ?_
        first | with_reducible refine R_if_eq_n a_X11_has_57 (by first | omega | exact Nat.lt_of_le_of_lt (inR_le _ _) (by decide) | exact Nat.lt_of_le_of_lt (bitN_le _ _) (by decide) | exact Nat.lt_of_le_of_lt (inI_le _ _ _) (by decide) | exact inI_le _ _ _ | exact inR_le _ _ | exact bitN_le _ _) (fun h57 => ?_) (fun h57 => ?_) | refine R_if_eq a_X11_has_57 (fun h57 => ?_) (fun h57 => ?_)
        · skip
          exact absurd h57 (by decide)
        · skip
          refine R_iload a_X11_has_60 rfl ?_
          refine R_goto a_X11_has_62 ?_
          refine R_aload_n a_X11_has_68 rfl ?_
          refine R_get a_X11_has_69 hM rfl ?_
          refine R_bipush (v := nI 28) a_X11_has_72 rfl ?_
          refine R_iald_n a_X11_has_74 hTo (by first | omega | exact Nat.lt_of_le_of_lt (inR_le _ _) (by decide) | exact Nat.lt_of_le_of_lt (bitN_le _ _) (by decide) | exact Nat.lt_of_le_of_lt (inI_le _ _ _) (by decide) | exact inI_le _ _ _ | exact inR_le _ _ | exact bitN_le _ _) (by decide) ?_
          refine R_top t28 ?_
          refine R_aload_n a_X11_has_75 rfl ?_
          refine R_get a_X11_has_76 hM rfl ?_
          refine R_iconst (v := nI 2) a_X11_has_79 rfl ?_
          refine R_iald_n a_X11_has_80 hTo (by first | omega | exact Nat.lt_of_le_of_lt (inR_le _ _) (by decide) | exact Nat.lt_of_le_of_lt (bitN_le _ _) (by decide) | exact Nat.lt_of_le_of_lt (inI_le _ _ _) (by decide) | exact inI_le _ _ _ | exact inR_le _ _ | exact bitN_le _ _) (by decide) ?_
          refine R_top t2 ?_
          refine R_callVp a_X11_has_81 hM (md_comes hM hMT ok hsg hl1 hl2 (show T.so < 2 ^ 31 by omega) lw) rfl rfl rfl rfl rfl ?_
          refine R_top (show nI (comesF T (saltF T h) (lcF T i s) (lcF T j t) T.so T.law) = nI (toW T (saltF T h) i s j t 0) from rfl) ?_
          refine R_istore (ls' := [_, _, _, _, _, _, _, _, _, _, _]) a_X11_has_84 rfl rfl rfl ?_
          refine R_iload_n a_X11_has_86 rfl ?_
          refine R_iload_n a_X11_has_87 rfl ?_
          first | with_reducible refine R_icmp_ne_n a_X11_has_88 (by first | omega | exact Nat.lt_of_le_of_lt (inR_le _ _) (by decide) | exact Nat.lt_of_le_of_lt (bitN_le _ _) (by decide) | exact Nat.lt_of_le_of_lt (inI_le _ _ _) (by decide) | exact inI_le _ _ _ | exact inR_le _ _ | exact bitN_le _ _) (by first | omega | exact Nat.lt_of_le_of_lt (inR_le _ _) (by decide) | exact Nat.lt_of_le_of_lt (bitN_le _ _) (by decide) | exact Nat.lt_of_le_of_lt (inI_le _ _ _) (by decide) | exact inI_le _ _ _ | exact inR_le _ _ | exact bitN_le _ _) (fun h88 => ?_) (fun h88 => ?_) | refine R_icmp_ne a_X11_has_88 (fun h88 => ?_) (fun h88 => ?_)
          · skip
            refine R_iload a_X11_has_112 rfl ?_
            first | with_reducible refine R_if_eq_n a_X11_has_114 (by first | omega | exact Nat.lt_of_le_of_lt (inR_le _ _) (by decide) | exact Nat.lt_of_le_of_lt (bitN_le _ _) (by decide) | exact Nat.lt_of_le_of_lt (inI_le _ _ _) (by decide) | exact inI_le _ _ _ | exact inR_le _ _ | exact bitN_le _ _) (fun h114 => ?_) (fun h114 => ?_) | refine R_if_eq a_X11_has_114 (fun h114 => ?_) (fun h114 => ?_)
            · skip
              exact absurd h114 (by decide)
            · skip
              refine R_aload_n a_X11_has_117 rfl ?_
              refine R_iload a_X11_has_118 rfl ?_
              refine R_iload a_X11_has_120 rfl ?_
              refine R_bipush (v := nI 16) a_X11_has_122 rfl ?_
              refine R_idiv_n a_X11_has_124 (by first | omega | exact Nat.lt_of_le_of_lt (inR_le _ _) (by decide) | exact Nat.lt_of_le_of_lt (bitN_le _ _) (by decide) | exact Nat.lt_of_le_of_lt (inI_le _ _ _) (by decide) | exact inI_le _ _ _ | exact inR_le _ _ | exact bitN_le _ _) (by first | omega | exact Nat.lt_of_le_of_lt (inR_le _ _) (by decide) | exact Nat.lt_of_le_of_lt (bitN_le _ _) (by decide) | exact Nat.lt_of_le_of_lt (inI_le _ _ _) (by decide) | exact inI_le _ _ _ | exact inR_le _ _ | exact bitN_le _ _) (by first | omega | exact Nat.lt_of_le_of_lt (inR_le _ _) (by decide) | exact Nat.lt_of_le_of_lt (bitN_le _ _) (by decide) | exact Nat.lt_of_le_of_lt (inI_le _ _ _) (by decide) | exact inI_le _ _ _ | exact inR_le _ _ | exact bitN_le _ _) ?_
              refine R_top (congrArg nI (lc_div (show j < 8 by omega))) ?_
              refine R_callVp a_X11_has_125 hM (md_counts hM hMT ok hj ht) rfl rfl rfl rfl rfl ?_
              refine R_goto a_X11_has_128 ?_
              refine R_istore (ls' := [_, _, _, _, _, _, _, _, _, _, _]) a_X11_has_132 rfl rfl rfl ?_
              refine R_iload a_X11_has_134 rfl ?_
              refine R_iload_n a_X11_has_136 rfl ?_
              refine R_icmp_ne_n (a := toW T (saltF T h) i s j t 0) (b := j) a_X11_has_137 (by omega) (by omega) (fun h137 => ?_) (fun h137 => ?_)
              · skip
                have hz : g2W T (saltF T h) i s j t 0 = nI 0 - nI (cnt T j t) := by unfold g2W gainF; rw [if_neg h137]; rfl
                refine R_iconst (v := nI 0) a_X11_has_144 rfl ?_
                refine R_iload a_X11_has_145 rfl ?_
                refine R_isub a_X11_has_147 ?_
                refine R_iret a_X11_has_148 rfl ?_
                exact ⟨by rw [hz], rfl⟩
              · skip
                have hz : g2W T (saltF T h) i s j t 0 = nI 5 - nI (cnt T j t) := by unfold g2W gainF; rw [if_pos h137]; rfl
                refine R_iconst (v := nI 5) a_X11_has_140 rfl ?_
                refine R_goto a_X11_has_141 ?_
                refine R_iload a_X11_has_145 rfl ?_
                refine R_isub a_X11_has_147 ?_
                refine R_iret a_X11_has_148 rfl ?_
                exact ⟨by rw [hz], rfl⟩
          · skip
            exact absurd h88.symm hij
    · skip
      exact absurd rfl h20
  · skip
    exact absurd rfl h2

set_option maxRecDepth 20000 in
theorem md_has2_1 {σ : AHp} {tl u kn ns : Nat} {at_ : Int32} {ft : Nat → Int32} {T : Tb} (hM : σ 272 = some (mdO tl u kn ns at_)) (hMT : MT σ ft T) (ok : TbOk T) {h : Hs} (hSr : σ 276 = some (iA 0 43 (nF (sF T h)))) {i s j t : Nat} (hi : i < T.g) (hs : s < T.n) (hj : j < T.g) (ht : t < T.n) (hij : ¬ i = j) : EvP M_X11_has [.ref 272, .int (nI j), .int (nI i), .int (nI (lcF T i s)), .int (nI j), .int (nI (lcF T j t)), .int (nI 1)] σ (.int (g2W T (saltF T h) i s j t 1)) := by
  obtain ⟨hTo, t0, t1, t2, t3, t28, tkd, thn, tkn, thf⟩ := id hMT
  obtain ⟨g3, g8, n1, n6, lw, stg, son, kd4, hn10, kn63, hf4⟩ := id ok
  have hn64 : 2 ^ T.n ≤ 2 ^ 6 := Nat.pow_le_pow_right (by decide) n6
  have hsg := saltF_lt ok h
  have hb1 := bitN_le T.so s
  have hb2 := bitN_le T.so t
  have hl1 : CdOk T (lcF T i s) := CdOk.say ok hi hs (by omega)
  have hl2 : CdOk T (lcF T j t) := CdOk.say ok hj ht (by omega)
  have hl1e := hl1.le
  have hl2e := hl2.le
  have htw : toW T (saltF T h) i s j t 1 < T.g := comesF_lt (by omega) hsg
  refine Ev.of (ls := [_, _, _, _, _, _, _, _, _, _, _]) 4 (by decide) rfl rfl ?_
  refine R_iload a_X11_has_0 rfl ?_
  first | with_reducible refine R_if_eq_n a_X11_has_2 (by first | omega | exact Nat.lt_of_le_of_lt (inR_le _ _) (by decide) | exact Nat.lt_of_le_of_lt (bitN_le _ _) (by decide) | exact Nat.lt_of_le_of_lt (inI_le _ _ _) (by decide) | exact inI_le _ _ _ | exact inR_le _ _ | exact bitN_le _ _) (fun h2 => ?_) (fun h2 => ?_) | refine R_if_eq a_X11_has_2 (fun h2 => ?_) (fun h2 => ?_)
  · skip
    exact absurd h2 (by decide)
  · skip
    refine R_iload a_X11_has_5 rfl ?_
    refine R_iconst (v := nI 1) a_X11_has_7 rfl ?_
    first | with_reducible refine R_icmp_ne_n a_X11_has_8 (by first | omega | exact Nat.lt_of_le_of_lt (inR_le _ _) (by decide) | exact Nat.lt_of_le_of_lt (bitN_le _ _) (by decide) | exact Nat.lt_of_le_of_lt (inI_le _ _ _) (by decide) | exact inI_le _ _ _ | exact inR_le _ _ | exact bitN_le _ _) (by first | omega | exact Nat.lt_of_le_of_lt (inR_le _ _) (by decide) | exact Nat.lt_of_le_of_lt (bitN_le _ _) (by decide) | exact Nat.lt_of_le_of_lt (inI_le _ _ _) (by decide) | exact inI_le _ _ _ | exact inR_le _ _ | exact bitN_le _ _) (fun h8 => ?_) (fun h8 => ?_) | refine R_icmp_ne a_X11_has_8 (fun h8 => ?_) (fun h8 => ?_)
    · skip
      exact absurd rfl h8
    · skip
      refine R_iconst (v := nI 1) a_X11_has_11 rfl ?_
      refine R_goto a_X11_has_12 ?_
      refine R_istore (ls' := [_, _, _, _, _, _, _, _, _, _, _]) a_X11_has_16 rfl rfl rfl ?_
      refine R_iload a_X11_has_18 rfl ?_
      first | with_reducible refine R_if_eq_n a_X11_has_20 (by first | omega | exact Nat.lt_of_le_of_lt (inR_le _ _) (by decide) | exact Nat.lt_of_le_of_lt (bitN_le _ _) (by decide) | exact Nat.lt_of_le_of_lt (inI_le _ _ _) (by decide) | exact inI_le _ _ _ | exact inR_le _ _ | exact bitN_le _ _) (fun h20 => ?_) (fun h20 => ?_) | refine R_if_eq a_X11_has_20 (fun h20 => ?_) (fun h20 => ?_)
      · skip
        exact absurd h20 (by decide)
      · skip
        refine R_iload a_X11_has_23 rfl ?_
        refine R_iconst (v := nI 2) a_X11_has_25 rfl ?_
        first | with_reducible refine R_icmp_ne_n a_X11_has_26 (by first | omega | exact Nat.lt_of_le_of_lt (inR_le _ _) (by decide) | exact Nat.lt_of_le_of_lt (bitN_le _ _) (by decide) | exact Nat.lt_of_le_of_lt (inI_le _ _ _) (by decide) | exact inI_le _ _ _ | exact inR_le _ _ | exact bitN_le _ _) (by first | omega | exact Nat.lt_of_le_of_lt (inR_le _ _) (by decide) | exact Nat.lt_of_le_of_lt (bitN_le _ _) (by decide) | exact Nat.lt_of_le_of_lt (inI_le _ _ _) (by decide) | exact inI_le _ _ _ | exact inR_le _ _ | exact bitN_le _ _) (fun h26 => ?_) (fun h26 => ?_) | refine R_icmp_ne a_X11_has_26 (fun h26 => ?_) (fun h26 => ?_)
        · skip
          refine R_iconst (v := nI 0) a_X11_has_33 rfl ?_
          refine R_istore (ls' := [_, _, _, _, _, _, _, _, _, _, _]) a_X11_has_34 rfl rfl rfl ?_
          refine R_aload_n a_X11_has_36 rfl ?_
          refine R_aload_n a_X11_has_37 rfl ?_
          refine R_get a_X11_has_38 hM rfl ?_
          refine R_iconst (v := nI 0) a_X11_has_41 rfl ?_
          refine R_iald_n a_X11_has_42 hSr (by first | omega | exact Nat.lt_of_le_of_lt (inR_le _ _) (by decide) | exact Nat.lt_of_le_of_lt (bitN_le _ _) (by decide) | exact Nat.lt_of_le_of_lt (inI_le _ _ _) (by decide) | exact inI_le _ _ _ | exact inR_le _ _ | exact bitN_le _ _) (by decide) ?_
          refine R_top (congrArg nI (sF_0 T h)) ?_
          refine R_iload a_X11_has_43 rfl ?_
          first | with_reducible refine R_if_eq_n a_X11_has_45 (by first | omega | exact Nat.lt_of_le_of_lt (inR_le _ _) (by decide) | exact Nat.lt_of_le_of_lt (bitN_le _ _) (by decide) | exact Nat.lt_of_le_of_lt (inI_le _ _ _) (by decide) | exact inI_le _ _ _ | exact inR_le _ _ | exact bitN_le _ _) (fun h45 => ?_) (fun h45 => ?_) | refine R_if_eq a_X11_has_45 (fun h45 => ?_) (fun h45 => ?_)
          · skip
            exact absurd h45 (by decide)
          · skip
            refine R_iload_n a_X11_has_48 rfl ?_
            refine R_goto a_X11_has_49 ?_
            refine R_iload a_X11_has_55 rfl ?_
            first | with_reducible refine R_if_eq_n a_X11_has_57 (by first | omega | exact Nat.lt_of_le_of_lt (inR_le _ _) (by decide) | exact Nat.lt_of_le_of_lt (bitN_le _ _) (by decide) | exact Nat.lt_of_le_of_lt (inI_le _ _ _) (by decide) | exact inI_le _ _ _ | exact inR_le _ _ | exact bitN_le _ _) (fun h57 => ?_) (fun h57 => ?_) | refine R_if_eq a_X11_has_57 (fun h57 => ?_) (fun h57 => ?_)
            · skip
              refine R_sipush (v := nI 128) a_X11_has_65 rfl ?_
              refine R_aload_n a_X11_has_68 rfl ?_
              refine R_get a_X11_has_69 hM rfl ?_
              refine R_bipush (v := nI 28) a_X11_has_72 rfl ?_
              refine R_iald_n a_X11_has_74 hTo (by first | omega | exact Nat.lt_of_le_of_lt (inR_le _ _) (by decide) | exact Nat.lt_of_le_of_lt (bitN_le _ _) (by decide) | exact Nat.lt_of_le_of_lt (inI_le _ _ _) (by decide) | exact inI_le _ _ _ | exact inR_le _ _ | exact bitN_le _ _) (by decide) ?_
              refine R_top t28 ?_
              refine R_aload_n a_X11_has_75 rfl ?_
              refine R_get a_X11_has_76 hM rfl ?_
              refine R_iconst (v := nI 2) a_X11_has_79 rfl ?_
              refine R_iald_n a_X11_has_80 hTo (by first | omega | exact Nat.lt_of_le_of_lt (inR_le _ _) (by decide) | exact Nat.lt_of_le_of_lt (bitN_le _ _) (by decide) | exact Nat.lt_of_le_of_lt (inI_le _ _ _) (by decide) | exact inI_le _ _ _ | exact inR_le _ _ | exact bitN_le _ _) (by decide) ?_
              refine R_top t2 ?_
              refine R_callVp a_X11_has_81 hM (md_comes hM hMT ok hsg hl1 (Or.inl rfl) (show T.so < 2 ^ 31 by omega) lw) rfl rfl rfl rfl rfl ?_
              refine R_top (show nI (comesF T (saltF T h) (lcF T i s) 128 T.so T.law) = nI (toW T (saltF T h) i s j t 1) from rfl) ?_
              refine R_istore (ls' := [_, _, _, _, _, _, _, _, _, _, _]) a_X11_has_84 rfl rfl rfl ?_
              refine R_iload_n a_X11_has_86 rfl ?_
              refine R_iload_n a_X11_has_87 rfl ?_
              first | with_reducible refine R_icmp_ne_n a_X11_has_88 (by first | omega | exact Nat.lt_of_le_of_lt (inR_le _ _) (by decide) | exact Nat.lt_of_le_of_lt (bitN_le _ _) (by decide) | exact Nat.lt_of_le_of_lt (inI_le _ _ _) (by decide) | exact inI_le _ _ _ | exact inR_le _ _ | exact bitN_le _ _) (by first | omega | exact Nat.lt_of_le_of_lt (inR_le _ _) (by decide) | exact Nat.lt_of_le_of_lt (bitN_le _ _) (by decide) | exact Nat.lt_of_le_of_lt (inI_le _ _ _) (by decide) | exact inI_le _ _ _ | exact inR_le _ _ | exact bitN_le _ _) (fun h88 => ?_) (fun h88 => ?_) | refine R_icmp_ne a_X11_has_88 (fun h88 => ?_) (fun h88 => ?_)
              · skip
                refine R_iload a_X11_has_112 rfl ?_
                first | with_reducible refine R_if_eq_n a_X11_has_114 (by first | omega | exact Nat.lt_of_le_of_lt (inR_le _ _) (by decide) | exact Nat.lt_of_le_of_lt (bitN_le _ _) (by decide) | exact Nat.lt_of_le_of_lt (inI_le _ _ _) (by decide) | exact inI_le _ _ _ | exact inR_le _ _ | exact bitN_le _ _) (fun h114 => ?_) (fun h114 => ?_) | refine R_if_eq a_X11_has_114 (fun h114 => ?_) (fun h114 => ?_)
                · skip
                  refine R_iconst (v := nI 0) a_X11_has_131 rfl ?_
                  refine R_istore (ls' := [_, _, _, _, _, _, _, _, _, _, _]) a_X11_has_132 rfl rfl rfl ?_
                  refine R_iload a_X11_has_134 rfl ?_
                  refine R_iload_n a_X11_has_136 rfl ?_
                  refine R_icmp_ne_n (a := toW T (saltF T h) i s j t 1) (b := j) a_X11_has_137 (by omega) (by omega) (fun h137 => ?_) (fun h137 => ?_)
                  · skip
                    have hz : g2W T (saltF T h) i s j t 1 = nI 0 - nI (0) := by unfold g2W gainF; rw [if_neg h137]; rfl
                    refine R_iconst (v := nI 0) a_X11_has_144 rfl ?_
                    refine R_iload a_X11_has_145 rfl ?_
                    refine R_isub a_X11_has_147 ?_
                    refine R_iret a_X11_has_148 rfl ?_
                    exact ⟨by rw [hz], rfl⟩
                  · skip
                    have hz : g2W T (saltF T h) i s j t 1 = nI 5 - nI (0) := by unfold g2W gainF; rw [if_pos h137]; rfl
                    refine R_iconst (v := nI 5) a_X11_has_140 rfl ?_
                    refine R_goto a_X11_has_141 ?_
                    refine R_iload a_X11_has_145 rfl ?_
                    refine R_isub a_X11_has_147 ?_
                    refine R_iret a_X11_has_148 rfl ?_
                    exact ⟨by rw [hz], rfl⟩
                · skip
                  exact absurd rfl h114
              · skip
                exact absurd h88.symm hij
            · skip
              exact absurd rfl h57
        · skip
          exact absurd h26 (by decide)

set_option maxRecDepth 20000 in
theorem md_has2_2 {σ : AHp} {tl u kn ns : Nat} {at_ : Int32} {ft : Nat → Int32} {T : Tb} (hM : σ 272 = some (mdO tl u kn ns at_)) (hMT : MT σ ft T) (ok : TbOk T) {h : Hs} (hSr : σ 276 = some (iA 0 43 (nF (sF T h)))) {i s j t : Nat} (hi : i < T.g) (hs : s < T.n) (hj : j < T.g) (ht : t < T.n) (hij : ¬ i = j) : EvP M_X11_has [.ref 272, .int (nI j), .int (nI i), .int (nI (lcF T i s)), .int (nI j), .int (nI (lcF T j t)), .int (nI 2)] σ (.int (g2W T (saltF T h) i s j t 2)) := by
  obtain ⟨hTo, t0, t1, t2, t3, t28, tkd, thn, tkn, thf⟩ := id hMT
  obtain ⟨g3, g8, n1, n6, lw, stg, son, kd4, hn10, kn63, hf4⟩ := id ok
  have hn64 : 2 ^ T.n ≤ 2 ^ 6 := Nat.pow_le_pow_right (by decide) n6
  have hsg := saltF_lt ok h
  have hb1 := bitN_le T.so s
  have hb2 := bitN_le T.so t
  have hl1 : CdOk T (lcF T i s) := CdOk.say ok hi hs (by omega)
  have hl2 : CdOk T (lcF T j t) := CdOk.say ok hj ht (by omega)
  have hl1e := hl1.le
  have hl2e := hl2.le
  have htw : toW T (saltF T h) i s j t 2 < T.g := comesF_lt (by omega) hsg
  refine Ev.of (ls := [_, _, _, _, _, _, _, _, _, _, _]) 4 (by decide) rfl rfl ?_
  refine R_iload a_X11_has_0 rfl ?_
  first | with_reducible refine R_if_eq_n a_X11_has_2 (by first | omega | exact Nat.lt_of_le_of_lt (inR_le _ _) (by decide) | exact Nat.lt_of_le_of_lt (bitN_le _ _) (by decide) | exact Nat.lt_of_le_of_lt (inI_le _ _ _) (by decide) | exact inI_le _ _ _ | exact inR_le _ _ | exact bitN_le _ _) (fun h2 => ?_) (fun h2 => ?_) | refine R_if_eq a_X11_has_2 (fun h2 => ?_) (fun h2 => ?_)
  · skip
    exact absurd h2 (by decide)
  · skip
    refine R_iload a_X11_has_5 rfl ?_
    refine R_iconst (v := nI 1) a_X11_has_7 rfl ?_
    first | with_reducible refine R_icmp_ne_n a_X11_has_8 (by first | omega | exact Nat.lt_of_le_of_lt (inR_le _ _) (by decide) | exact Nat.lt_of_le_of_lt (bitN_le _ _) (by decide) | exact Nat.lt_of_le_of_lt (inI_le _ _ _) (by decide) | exact inI_le _ _ _ | exact inR_le _ _ | exact bitN_le _ _) (by first | omega | exact Nat.lt_of_le_of_lt (inR_le _ _) (by decide) | exact Nat.lt_of_le_of_lt (bitN_le _ _) (by decide) | exact Nat.lt_of_le_of_lt (inI_le _ _ _) (by decide) | exact inI_le _ _ _ | exact inR_le _ _ | exact bitN_le _ _) (fun h8 => ?_) (fun h8 => ?_) | refine R_icmp_ne a_X11_has_8 (fun h8 => ?_) (fun h8 => ?_)
    · skip
      refine R_iconst (v := nI 0) a_X11_has_15 rfl ?_
      refine R_istore (ls' := [_, _, _, _, _, _, _, _, _, _, _]) a_X11_has_16 rfl rfl rfl ?_
      refine R_iload a_X11_has_18 rfl ?_
      first | with_reducible refine R_if_eq_n a_X11_has_20 (by first | omega | exact Nat.lt_of_le_of_lt (inR_le _ _) (by decide) | exact Nat.lt_of_le_of_lt (bitN_le _ _) (by decide) | exact Nat.lt_of_le_of_lt (inI_le _ _ _) (by decide) | exact inI_le _ _ _ | exact inR_le _ _ | exact bitN_le _ _) (fun h20 => ?_) (fun h20 => ?_) | refine R_if_eq a_X11_has_20 (fun h20 => ?_) (fun h20 => ?_)
      · skip
        exact absurd h20 (by decide)
      · skip
        refine R_iload a_X11_has_23 rfl ?_
        refine R_iconst (v := nI 2) a_X11_has_25 rfl ?_
        first | with_reducible refine R_icmp_ne_n a_X11_has_26 (by first | omega | exact Nat.lt_of_le_of_lt (inR_le _ _) (by decide) | exact Nat.lt_of_le_of_lt (bitN_le _ _) (by decide) | exact Nat.lt_of_le_of_lt (inI_le _ _ _) (by decide) | exact inI_le _ _ _ | exact inR_le _ _ | exact bitN_le _ _) (by first | omega | exact Nat.lt_of_le_of_lt (inR_le _ _) (by decide) | exact Nat.lt_of_le_of_lt (bitN_le _ _) (by decide) | exact Nat.lt_of_le_of_lt (inI_le _ _ _) (by decide) | exact inI_le _ _ _ | exact inR_le _ _ | exact bitN_le _ _) (fun h26 => ?_) (fun h26 => ?_) | refine R_icmp_ne a_X11_has_26 (fun h26 => ?_) (fun h26 => ?_)
        · skip
          exact absurd rfl h26
        · skip
          refine R_iconst (v := nI 1) a_X11_has_29 rfl ?_
          refine R_goto a_X11_has_30 ?_
          refine R_istore (ls' := [_, _, _, _, _, _, _, _, _, _, _]) a_X11_has_34 rfl rfl rfl ?_
          refine R_aload_n a_X11_has_36 rfl ?_
          refine R_aload_n a_X11_has_37 rfl ?_
          refine R_get a_X11_has_38 hM rfl ?_
          refine R_iconst (v := nI 0) a_X11_has_41 rfl ?_
          refine R_iald_n a_X11_has_42 hSr (by first | omega | exact Nat.lt_of_le_of_lt (inR_le _ _) (by decide) | exact Nat.lt_of_le_of_lt (bitN_le _ _) (by decide) | exact Nat.lt_of_le_of_lt (inI_le _ _ _) (by decide) | exact inI_le _ _ _ | exact inR_le _ _ | exact bitN_le _ _) (by decide) ?_
          refine R_top (congrArg nI (sF_0 T h)) ?_
          refine R_iload a_X11_has_43 rfl ?_
          first | with_reducible refine R_if_eq_n a_X11_has_45 (by first | omega | exact Nat.lt_of_le_of_lt (inR_le _ _) (by decide) | exact Nat.lt_of_le_of_lt (bitN_le _ _) (by decide) | exact Nat.lt_of_le_of_lt (inI_le _ _ _) (by decide) | exact inI_le _ _ _ | exact inR_le _ _ | exact bitN_le _ _) (fun h45 => ?_) (fun h45 => ?_) | refine R_if_eq a_X11_has_45 (fun h45 => ?_) (fun h45 => ?_)
          · skip
            refine R_sipush (v := nI 128) a_X11_has_52 rfl ?_
            refine R_iload a_X11_has_55 rfl ?_
            first | with_reducible refine R_if_eq_n a_X11_has_57 (by first | omega | exact Nat.lt_of_le_of_lt (inR_le _ _) (by decide) | exact Nat.lt_of_le_of_lt (bitN_le _ _) (by decide) | exact Nat.lt_of_le_of_lt (inI_le _ _ _) (by decide) | exact inI_le _ _ _ | exact inR_le _ _ | exact bitN_le _ _) (fun h57 => ?_) (fun h57 => ?_) | refine R_if_eq a_X11_has_57 (fun h57 => ?_) (fun h57 => ?_)
            · skip
              exact absurd h57 (by decide)
            · skip
              refine R_iload a_X11_has_60 rfl ?_
              refine R_goto a_X11_has_62 ?_
              refine R_aload_n a_X11_has_68 rfl ?_
              refine R_get a_X11_has_69 hM rfl ?_
              refine R_bipush (v := nI 28) a_X11_has_72 rfl ?_
              refine R_iald_n a_X11_has_74 hTo (by first | omega | exact Nat.lt_of_le_of_lt (inR_le _ _) (by decide) | exact Nat.lt_of_le_of_lt (bitN_le _ _) (by decide) | exact Nat.lt_of_le_of_lt (inI_le _ _ _) (by decide) | exact inI_le _ _ _ | exact inR_le _ _ | exact bitN_le _ _) (by decide) ?_
              refine R_top t28 ?_
              refine R_aload_n a_X11_has_75 rfl ?_
              refine R_get a_X11_has_76 hM rfl ?_
              refine R_iconst (v := nI 2) a_X11_has_79 rfl ?_
              refine R_iald_n a_X11_has_80 hTo (by first | omega | exact Nat.lt_of_le_of_lt (inR_le _ _) (by decide) | exact Nat.lt_of_le_of_lt (bitN_le _ _) (by decide) | exact Nat.lt_of_le_of_lt (inI_le _ _ _) (by decide) | exact inI_le _ _ _ | exact inR_le _ _ | exact bitN_le _ _) (by decide) ?_
              refine R_top t2 ?_
              refine R_callVp a_X11_has_81 hM (md_comes hM hMT ok hsg (Or.inl rfl) hl2 (show T.so < 2 ^ 31 by omega) lw) rfl rfl rfl rfl rfl ?_
              refine R_top (show nI (comesF T (saltF T h) 128 (lcF T j t) T.so T.law) = nI (toW T (saltF T h) i s j t 2) from congrArg nI comes_swap) ?_
              refine R_istore (ls' := [_, _, _, _, _, _, _, _, _, _, _]) a_X11_has_84 rfl rfl rfl ?_
              refine R_iload_n a_X11_has_86 rfl ?_
              refine R_iload_n a_X11_has_87 rfl ?_
              first | with_reducible refine R_icmp_ne_n a_X11_has_88 (by first | omega | exact Nat.lt_of_le_of_lt (inR_le _ _) (by decide) | exact Nat.lt_of_le_of_lt (bitN_le _ _) (by decide) | exact Nat.lt_of_le_of_lt (inI_le _ _ _) (by decide) | exact inI_le _ _ _ | exact inR_le _ _ | exact bitN_le _ _) (by first | omega | exact Nat.lt_of_le_of_lt (inR_le _ _) (by decide) | exact Nat.lt_of_le_of_lt (bitN_le _ _) (by decide) | exact Nat.lt_of_le_of_lt (inI_le _ _ _) (by decide) | exact inI_le _ _ _ | exact inR_le _ _ | exact bitN_le _ _) (fun h88 => ?_) (fun h88 => ?_) | refine R_icmp_ne a_X11_has_88 (fun h88 => ?_) (fun h88 => ?_)
              · skip
                refine R_iload a_X11_has_112 rfl ?_
                first | with_reducible refine R_if_eq_n a_X11_has_114 (by first | omega | exact Nat.lt_of_le_of_lt (inR_le _ _) (by decide) | exact Nat.lt_of_le_of_lt (bitN_le _ _) (by decide) | exact Nat.lt_of_le_of_lt (inI_le _ _ _) (by decide) | exact inI_le _ _ _ | exact inR_le _ _ | exact bitN_le _ _) (fun h114 => ?_) (fun h114 => ?_) | refine R_if_eq a_X11_has_114 (fun h114 => ?_) (fun h114 => ?_)
                · skip
                  exact absurd h114 (by decide)
                · skip
                  refine R_aload_n a_X11_has_117 rfl ?_
                  refine R_iload a_X11_has_118 rfl ?_
                  refine R_iload a_X11_has_120 rfl ?_
                  refine R_bipush (v := nI 16) a_X11_has_122 rfl ?_
                  refine R_idiv_n a_X11_has_124 (by first | omega | exact Nat.lt_of_le_of_lt (inR_le _ _) (by decide) | exact Nat.lt_of_le_of_lt (bitN_le _ _) (by decide) | exact Nat.lt_of_le_of_lt (inI_le _ _ _) (by decide) | exact inI_le _ _ _ | exact inR_le _ _ | exact bitN_le _ _) (by first | omega | exact Nat.lt_of_le_of_lt (inR_le _ _) (by decide) | exact Nat.lt_of_le_of_lt (bitN_le _ _) (by decide) | exact Nat.lt_of_le_of_lt (inI_le _ _ _) (by decide) | exact inI_le _ _ _ | exact inR_le _ _ | exact bitN_le _ _) (by first | omega | exact Nat.lt_of_le_of_lt (inR_le _ _) (by decide) | exact Nat.lt_of_le_of_lt (bitN_le _ _) (by decide) | exact Nat.lt_of_le_of_lt (inI_le _ _ _) (by decide) | exact inI_le _ _ _ | exact inR_le _ _ | exact bitN_le _ _) ?_
                  refine R_top (congrArg nI (lc_div (show j < 8 by omega))) ?_
                  refine R_callVp a_X11_has_125 hM (md_counts hM hMT ok hj ht) rfl rfl rfl rfl rfl ?_
                  refine R_goto a_X11_has_128 ?_
                  refine R_istore (ls' := [_, _, _, _, _, _, _, _, _, _, _]) a_X11_has_132 rfl rfl rfl ?_
                  refine R_iload a_X11_has_134 rfl ?_
                  refine R_iload_n a_X11_has_136 rfl ?_
                  refine R_icmp_ne_n (a := toW T (saltF T h) i s j t 2) (b := j) a_X11_has_137 (by omega) (by omega) (fun h137 => ?_) (fun h137 => ?_)
                  · skip
                    have hz : g2W T (saltF T h) i s j t 2 = nI 0 - nI (cnt T j t) := by unfold g2W gainF; rw [if_neg h137]; rfl
                    refine R_iconst (v := nI 0) a_X11_has_144 rfl ?_
                    refine R_iload a_X11_has_145 rfl ?_
                    refine R_isub a_X11_has_147 ?_
                    refine R_iret a_X11_has_148 rfl ?_
                    exact ⟨by rw [hz], rfl⟩
                  · skip
                    have hz : g2W T (saltF T h) i s j t 2 = nI 5 - nI (cnt T j t) := by unfold g2W gainF; rw [if_pos h137]; rfl
                    refine R_iconst (v := nI 5) a_X11_has_140 rfl ?_
                    refine R_goto a_X11_has_141 ?_
                    refine R_iload a_X11_has_145 rfl ?_
                    refine R_isub a_X11_has_147 ?_
                    refine R_iret a_X11_has_148 rfl ?_
                    exact ⟨by rw [hz], rfl⟩
              · skip
                exact absurd h88.symm hij
          · skip
            exact absurd rfl h45
    · skip
      exact absurd h8 (by decide)

set_option maxRecDepth 20000 in
theorem md_has2_3 {σ : AHp} {tl u kn ns : Nat} {at_ : Int32} {ft : Nat → Int32} {T : Tb} (hM : σ 272 = some (mdO tl u kn ns at_)) (hMT : MT σ ft T) (ok : TbOk T) {h : Hs} (hSr : σ 276 = some (iA 0 43 (nF (sF T h)))) {i s j t : Nat} (hi : i < T.g) (hs : s < T.n) (hj : j < T.g) (ht : t < T.n) (hij : ¬ i = j) : EvP M_X11_has [.ref 272, .int (nI j), .int (nI i), .int (nI (lcF T i s)), .int (nI j), .int (nI (lcF T j t)), .int (nI 3)] σ (.int (g2W T (saltF T h) i s j t 3)) := by
  obtain ⟨hTo, t0, t1, t2, t3, t28, tkd, thn, tkn, thf⟩ := id hMT
  obtain ⟨g3, g8, n1, n6, lw, stg, son, kd4, hn10, kn63, hf4⟩ := id ok
  have hn64 : 2 ^ T.n ≤ 2 ^ 6 := Nat.pow_le_pow_right (by decide) n6
  have hsg := saltF_lt ok h
  have hb1 := bitN_le T.so s
  have hb2 := bitN_le T.so t
  have hl1 : CdOk T (lcF T i s) := CdOk.say ok hi hs (by omega)
  have hl2 : CdOk T (lcF T j t) := CdOk.say ok hj ht (by omega)
  have hl1e := hl1.le
  have hl2e := hl2.le
  have htw : toW T (saltF T h) i s j t 3 < T.g := comesF_lt (by omega) hsg
  refine Ev.of (ls := [_, _, _, _, _, _, _, _, _, _, _]) 4 (by decide) rfl rfl ?_
  refine R_iload a_X11_has_0 rfl ?_
  first | with_reducible refine R_if_eq_n a_X11_has_2 (by first | omega | exact Nat.lt_of_le_of_lt (inR_le _ _) (by decide) | exact Nat.lt_of_le_of_lt (bitN_le _ _) (by decide) | exact Nat.lt_of_le_of_lt (inI_le _ _ _) (by decide) | exact inI_le _ _ _ | exact inR_le _ _ | exact bitN_le _ _) (fun h2 => ?_) (fun h2 => ?_) | refine R_if_eq a_X11_has_2 (fun h2 => ?_) (fun h2 => ?_)
  · skip
    exact absurd h2 (by decide)
  · skip
    refine R_iload a_X11_has_5 rfl ?_
    refine R_iconst (v := nI 1) a_X11_has_7 rfl ?_
    first | with_reducible refine R_icmp_ne_n a_X11_has_8 (by first | omega | exact Nat.lt_of_le_of_lt (inR_le _ _) (by decide) | exact Nat.lt_of_le_of_lt (bitN_le _ _) (by decide) | exact Nat.lt_of_le_of_lt (inI_le _ _ _) (by decide) | exact inI_le _ _ _ | exact inR_le _ _ | exact bitN_le _ _) (by first | omega | exact Nat.lt_of_le_of_lt (inR_le _ _) (by decide) | exact Nat.lt_of_le_of_lt (bitN_le _ _) (by decide) | exact Nat.lt_of_le_of_lt (inI_le _ _ _) (by decide) | exact inI_le _ _ _ | exact inR_le _ _ | exact bitN_le _ _) (fun h8 => ?_) (fun h8 => ?_) | refine R_icmp_ne a_X11_has_8 (fun h8 => ?_) (fun h8 => ?_)
    · skip
      refine R_iconst (v := nI 0) a_X11_has_15 rfl ?_
      refine R_istore (ls' := [_, _, _, _, _, _, _, _, _, _, _]) a_X11_has_16 rfl rfl rfl ?_
      refine R_iload a_X11_has_18 rfl ?_
      first | with_reducible refine R_if_eq_n a_X11_has_20 (by first | omega | exact Nat.lt_of_le_of_lt (inR_le _ _) (by decide) | exact Nat.lt_of_le_of_lt (bitN_le _ _) (by decide) | exact Nat.lt_of_le_of_lt (inI_le _ _ _) (by decide) | exact inI_le _ _ _ | exact inR_le _ _ | exact bitN_le _ _) (fun h20 => ?_) (fun h20 => ?_) | refine R_if_eq a_X11_has_20 (fun h20 => ?_) (fun h20 => ?_)
      · skip
        exact absurd h20 (by decide)
      · skip
        refine R_iload a_X11_has_23 rfl ?_
        refine R_iconst (v := nI 2) a_X11_has_25 rfl ?_
        first | with_reducible refine R_icmp_ne_n a_X11_has_26 (by first | omega | exact Nat.lt_of_le_of_lt (inR_le _ _) (by decide) | exact Nat.lt_of_le_of_lt (bitN_le _ _) (by decide) | exact Nat.lt_of_le_of_lt (inI_le _ _ _) (by decide) | exact inI_le _ _ _ | exact inR_le _ _ | exact bitN_le _ _) (by first | omega | exact Nat.lt_of_le_of_lt (inR_le _ _) (by decide) | exact Nat.lt_of_le_of_lt (bitN_le _ _) (by decide) | exact Nat.lt_of_le_of_lt (inI_le _ _ _) (by decide) | exact inI_le _ _ _ | exact inR_le _ _ | exact bitN_le _ _) (fun h26 => ?_) (fun h26 => ?_) | refine R_icmp_ne a_X11_has_26 (fun h26 => ?_) (fun h26 => ?_)
        · skip
          refine R_iconst (v := nI 0) a_X11_has_33 rfl ?_
          refine R_istore (ls' := [_, _, _, _, _, _, _, _, _, _, _]) a_X11_has_34 rfl rfl rfl ?_
          refine R_aload_n a_X11_has_36 rfl ?_
          refine R_aload_n a_X11_has_37 rfl ?_
          refine R_get a_X11_has_38 hM rfl ?_
          refine R_iconst (v := nI 0) a_X11_has_41 rfl ?_
          refine R_iald_n a_X11_has_42 hSr (by first | omega | exact Nat.lt_of_le_of_lt (inR_le _ _) (by decide) | exact Nat.lt_of_le_of_lt (bitN_le _ _) (by decide) | exact Nat.lt_of_le_of_lt (inI_le _ _ _) (by decide) | exact inI_le _ _ _ | exact inR_le _ _ | exact bitN_le _ _) (by decide) ?_
          refine R_top (congrArg nI (sF_0 T h)) ?_
          refine R_iload a_X11_has_43 rfl ?_
          first | with_reducible refine R_if_eq_n a_X11_has_45 (by first | omega | exact Nat.lt_of_le_of_lt (inR_le _ _) (by decide) | exact Nat.lt_of_le_of_lt (bitN_le _ _) (by decide) | exact Nat.lt_of_le_of_lt (inI_le _ _ _) (by decide) | exact inI_le _ _ _ | exact inR_le _ _ | exact bitN_le _ _) (fun h45 => ?_) (fun h45 => ?_) | refine R_if_eq a_X11_has_45 (fun h45 => ?_) (fun h45 => ?_)
          · skip
            refine R_sipush (v := nI 128) a_X11_has_52 rfl ?_
            refine R_iload a_X11_has_55 rfl ?_
            first | with_reducible refine R_if_eq_n a_X11_has_57 (by first | omega | exact Nat.lt_of_le_of_lt (inR_le _ _) (by decide) | exact Nat.lt_of_le_of_lt (bitN_le _ _) (by decide) | exact Nat.lt_of_le_of_lt (inI_le _ _ _) (by decide) | exact inI_le _ _ _ | exact inR_le _ _ | exact bitN_le _ _) (fun h57 => ?_) (fun h57 => ?_) | refine R_if_eq a_X11_has_57 (fun h57 => ?_) (fun h57 => ?_)
            · skip
              refine R_sipush (v := nI 128) a_X11_has_65 rfl ?_
              refine R_aload_n a_X11_has_68 rfl ?_
              refine R_get a_X11_has_69 hM rfl ?_
              refine R_bipush (v := nI 28) a_X11_has_72 rfl ?_
              refine R_iald_n a_X11_has_74 hTo (by first | omega | exact Nat.lt_of_le_of_lt (inR_le _ _) (by decide) | exact Nat.lt_of_le_of_lt (bitN_le _ _) (by decide) | exact Nat.lt_of_le_of_lt (inI_le _ _ _) (by decide) | exact inI_le _ _ _ | exact inR_le _ _ | exact bitN_le _ _) (by decide) ?_
              refine R_top t28 ?_
              refine R_aload_n a_X11_has_75 rfl ?_
              refine R_get a_X11_has_76 hM rfl ?_
              refine R_iconst (v := nI 2) a_X11_has_79 rfl ?_
              refine R_iald_n a_X11_has_80 hTo (by first | omega | exact Nat.lt_of_le_of_lt (inR_le _ _) (by decide) | exact Nat.lt_of_le_of_lt (bitN_le _ _) (by decide) | exact Nat.lt_of_le_of_lt (inI_le _ _ _) (by decide) | exact inI_le _ _ _ | exact inR_le _ _ | exact bitN_le _ _) (by decide) ?_
              refine R_top t2 ?_
              refine R_callVp a_X11_has_81 hM (md_comes hM hMT ok hsg (Or.inl rfl) (Or.inl rfl) (show T.so < 2 ^ 31 by omega) lw) rfl rfl rfl rfl rfl ?_
              refine R_top (show nI (comesF T (saltF T h) 128 128 T.so T.law) = nI (toW T (saltF T h) i s j t 3) from rfl) ?_
              refine R_istore (ls' := [_, _, _, _, _, _, _, _, _, _, _]) a_X11_has_84 rfl rfl rfl ?_
              refine R_iload_n a_X11_has_86 rfl ?_
              refine R_iload_n a_X11_has_87 rfl ?_
              first | with_reducible refine R_icmp_ne_n a_X11_has_88 (by first | omega | exact Nat.lt_of_le_of_lt (inR_le _ _) (by decide) | exact Nat.lt_of_le_of_lt (bitN_le _ _) (by decide) | exact Nat.lt_of_le_of_lt (inI_le _ _ _) (by decide) | exact inI_le _ _ _ | exact inR_le _ _ | exact bitN_le _ _) (by first | omega | exact Nat.lt_of_le_of_lt (inR_le _ _) (by decide) | exact Nat.lt_of_le_of_lt (bitN_le _ _) (by decide) | exact Nat.lt_of_le_of_lt (inI_le _ _ _) (by decide) | exact inI_le _ _ _ | exact inR_le _ _ | exact bitN_le _ _) (fun h88 => ?_) (fun h88 => ?_) | refine R_icmp_ne a_X11_has_88 (fun h88 => ?_) (fun h88 => ?_)
              · skip
                refine R_iload a_X11_has_112 rfl ?_
                first | with_reducible refine R_if_eq_n a_X11_has_114 (by first | omega | exact Nat.lt_of_le_of_lt (inR_le _ _) (by decide) | exact Nat.lt_of_le_of_lt (bitN_le _ _) (by decide) | exact Nat.lt_of_le_of_lt (inI_le _ _ _) (by decide) | exact inI_le _ _ _ | exact inR_le _ _ | exact bitN_le _ _) (fun h114 => ?_) (fun h114 => ?_) | refine R_if_eq a_X11_has_114 (fun h114 => ?_) (fun h114 => ?_)
                · skip
                  refine R_iconst (v := nI 0) a_X11_has_131 rfl ?_
                  refine R_istore (ls' := [_, _, _, _, _, _, _, _, _, _, _]) a_X11_has_132 rfl rfl rfl ?_
                  refine R_iload a_X11_has_134 rfl ?_
                  refine R_iload_n a_X11_has_136 rfl ?_
                  refine R_icmp_ne_n (a := toW T (saltF T h) i s j t 3) (b := j) a_X11_has_137 (by omega) (by omega) (fun h137 => ?_) (fun h137 => ?_)
                  · skip
                    have hz : g2W T (saltF T h) i s j t 3 = nI 0 - nI (0) := by unfold g2W gainF; rw [if_neg h137]; rfl
                    refine R_iconst (v := nI 0) a_X11_has_144 rfl ?_
                    refine R_iload a_X11_has_145 rfl ?_
                    refine R_isub a_X11_has_147 ?_
                    refine R_iret a_X11_has_148 rfl ?_
                    exact ⟨by rw [hz], rfl⟩
                  · skip
                    have hz : g2W T (saltF T h) i s j t 3 = nI 5 - nI (0) := by unfold g2W gainF; rw [if_pos h137]; rfl
                    refine R_iconst (v := nI 5) a_X11_has_140 rfl ?_
                    refine R_goto a_X11_has_141 ?_
                    refine R_iload a_X11_has_145 rfl ?_
                    refine R_isub a_X11_has_147 ?_
                    refine R_iret a_X11_has_148 rfl ?_
                    exact ⟨by rw [hz], rfl⟩
                · skip
                  exact absurd rfl h114
              · skip
                exact absurd h88.symm hij
            · skip
              exact absurd rfl h57
          · skip
            exact absurd rfl h45
        · skip
          exact absurd h26 (by decide)
    · skip
      exact absurd h8 (by decide)

set_option maxRecDepth 20000 in
theorem lp_mrests {σ : AHp} {tl u kn ns : Nat} {at_ : Int32} {ft : Nat → Int32} {T : Tb} (hM : σ 272 = some (mdO tl u kn ns at_)) (hMT : MT σ ft T) (ok : TbOk T) {h : Hs} (hSr : σ 276 = some (iA 0 43 (nF (sF T h)))) {i s j t : Nat} (hi : i < T.g) (hs : s < T.n) (hj : j < T.g) (ht : t < T.n) (hij : ¬ i = j) {c : Nat} (hc : c < 2) : ∀ (n k m : Nat) (d v : Int32) (x11 x12 x13 : Option Value), k = n → k ≤ 4 → m = rsN (okW T (saltF T h) i s j t) k → d = rsF (okW T (saltF T h) i s j t) k → v = dcI k → Run M_X11_rests 114 [some (.ref 272), some (.int (nI i)), some (.int (nI s)), some (.int (nI j)), some (.int (nI t)), some (.int (nI c)), some (.int (nI (lcF T i s))), some (.int (nI (lcF T j t))), some (.int (nI m)), some (.int d), some (.int v), x11, x12, x13] [] σ 0 0 (fun r σ' => r = some (.int (if c = 0 then nI (rsN (okW T (saltF T h) i s j t) 0) else rsF (okW T (saltF T h) i s j t) 0)) ∧ σ' = σ) := by
  obtain ⟨hTo, t0, t1, t2, t3, t28, tkd, thn, tkn, thf⟩ := id hMT
  obtain ⟨g3, g8, n1, n6, lw, stg, son, kd4, hn10, kn63, hf4⟩ := id ok
  have hn64 : 2 ^ T.n ≤ 2 ^ 6 := Nat.pow_le_pow_right (by decide) n6
  have hsg := saltF_lt ok h
  have hb1 := bitN_le T.so s
  have hb2 := bitN_le T.so t
  have hl1 : CdOk T (lcF T i s) := CdOk.say ok hi hs (by omega)
  have hl2 : CdOk T (lcF T j t) := CdOk.say ok hj ht (by omega)
  have hl1e := hl1.le
  have hl2e := hl2.le
  intro n
  induction n using Nat.strongRecOn
  rename_i n ih
  intro k m d v x11 x12 x13 hm hk hn hf hv
  refine R_iload a_X11_rests_114 rfl ?_
  refine R_if_lt a_X11_rests_116 (fun h116 => ?_) (fun h116 => ?_)
  · skip
    have hk0 : k = 0 := by
      cases k with
      | zero => rfl
      | succ q => rw [hv] at h116; exact absurd h116 (nI_pos (show q < 2 ^ 31 by omega))
    subst hk0
    refine R_iload a_X11_rests_283 rfl ?_
    first | with_reducible refine R_if_ne_n a_X11_rests_285 (by first | omega | exact Nat.lt_of_le_of_lt (inR_le _ _) (by decide) | exact Nat.lt_of_le_of_lt (bitN_le _ _) (by decide) | exact Nat.lt_of_le_of_lt (inI_le _ _ _) (by decide) | exact inI_le _ _ _ | exact inR_le _ _ | exact bitN_le _ _) (fun h285 => ?_) (fun h285 => ?_) | refine R_if_ne a_X11_rests_285 (fun h285 => ?_) (fun h285 => ?_)
    · skip
      refine R_iload a_X11_rests_293 rfl ?_
      refine R_iret a_X11_rests_295 rfl ?_
      first | exact ⟨by rw [if_neg h285, hf], rfl⟩ | exact ⟨by rw [if_pos h285, hn], rfl⟩
    · skip
      refine R_iload a_X11_rests_288 rfl ?_
      refine R_goto a_X11_rests_290 ?_
      refine R_iret a_X11_rests_295 rfl ?_
      first | exact ⟨by rw [if_neg h285, hf], rfl⟩ | exact ⟨by rw [if_pos h285, hn], rfl⟩
  · skip
    obtain ⟨q, rfl⟩ : ∃ q, k = q + 1 := by
      cases k with
      | zero => rw [hv] at h116; exact absurd (by decide) h116
      | succ q => exact ⟨q, rfl⟩
    have hv : v = nI q := hv
    subst hv
    refine R_iload a_X11_rests_119 rfl ?_
    first | with_reducible refine R_if_ne_n a_X11_rests_121 (by first | omega | exact Nat.lt_of_le_of_lt (inR_le _ _) (by decide) | exact Nat.lt_of_le_of_lt (bitN_le _ _) (by decide) | exact Nat.lt_of_le_of_lt (inI_le _ _ _) (by decide) | exact inI_le _ _ _ | exact inR_le _ _ | exact bitN_le _ _) (fun h121 => ?_) (fun h121 => ?_) | refine R_if_ne a_X11_rests_121 (fun h121 => ?_) (fun h121 => ?_)
    · skip
      refine R_iload a_X11_rests_128 rfl ?_
      refine R_iconst (v := nI 1) a_X11_rests_130 rfl ?_
      first | with_reducible refine R_icmp_ne_n a_X11_rests_131 (by first | omega | exact Nat.lt_of_le_of_lt (inR_le _ _) (by decide) | exact Nat.lt_of_le_of_lt (bitN_le _ _) (by decide) | exact Nat.lt_of_le_of_lt (inI_le _ _ _) (by decide) | exact inI_le _ _ _ | exact inR_le _ _ | exact bitN_le _ _) (by first | omega | exact Nat.lt_of_le_of_lt (inR_le _ _) (by decide) | exact Nat.lt_of_le_of_lt (bitN_le _ _) (by decide) | exact Nat.lt_of_le_of_lt (inI_le _ _ _) (by decide) | exact inI_le _ _ _ | exact inR_le _ _ | exact bitN_le _ _) (fun h131 => ?_) (fun h131 => ?_) | refine R_icmp_ne a_X11_rests_131 (fun h131 => ?_) (fun h131 => ?_)
      · skip
        refine R_iload a_X11_rests_138 rfl ?_
        refine R_iconst (v := nI 2) a_X11_rests_140 rfl ?_
        first | with_reducible refine R_icmp_ne_n a_X11_rests_141 (by first | omega | exact Nat.lt_of_le_of_lt (inR_le _ _) (by decide) | exact Nat.lt_of_le_of_lt (bitN_le _ _) (by decide) | exact Nat.lt_of_le_of_lt (inI_le _ _ _) (by decide) | exact inI_le _ _ _ | exact inR_le _ _ | exact bitN_le _ _) (by first | omega | exact Nat.lt_of_le_of_lt (inR_le _ _) (by decide) | exact Nat.lt_of_le_of_lt (bitN_le _ _) (by decide) | exact Nat.lt_of_le_of_lt (inI_le _ _ _) (by decide) | exact inI_le _ _ _ | exact inR_le _ _ | exact bitN_le _ _) (fun h141 => ?_) (fun h141 => ?_) | refine R_icmp_ne a_X11_rests_141 (fun h141 => ?_) (fun h141 => ?_)
        · skip
          have hq3 : q = 3 := by omega
          subst hq3
          refine R_iconst (v := nI 1) a_X11_rests_148 rfl ?_
          refine R_istore (ls' := [_, _, _, _, _, _, _, _, _, _, _, _, _, _]) a_X11_rests_149 rfl rfl rfl ?_
          refine R_iload a_X11_rests_151 rfl ?_
          first | with_reducible refine R_if_ne_n a_X11_rests_153 (by first | omega | exact Nat.lt_of_le_of_lt (inR_le _ _) (by decide) | exact Nat.lt_of_le_of_lt (bitN_le _ _) (by decide) | exact Nat.lt_of_le_of_lt (inI_le _ _ _) (by decide) | exact inI_le _ _ _ | exact inR_le _ _ | exact bitN_le _ _) (fun h153 => ?_) (fun h153 => ?_) | refine R_if_ne a_X11_rests_153 (fun h153 => ?_) (fun h153 => ?_)
          · skip
            refine R_iload a_X11_rests_160 rfl ?_
            refine R_iconst (v := nI 1) a_X11_rests_162 rfl ?_
            first | with_reducible refine R_icmp_ne_n a_X11_rests_163 (by first | omega | exact Nat.lt_of_le_of_lt (inR_le _ _) (by decide) | exact Nat.lt_of_le_of_lt (bitN_le _ _) (by decide) | exact Nat.lt_of_le_of_lt (inI_le _ _ _) (by decide) | exact inI_le _ _ _ | exact inR_le _ _ | exact bitN_le _ _) (by first | omega | exact Nat.lt_of_le_of_lt (inR_le _ _) (by decide) | exact Nat.lt_of_le_of_lt (bitN_le _ _) (by decide) | exact Nat.lt_of_le_of_lt (inI_le _ _ _) (by decide) | exact inI_le _ _ _ | exact inR_le _ _ | exact bitN_le _ _) (fun h163 => ?_) (fun h163 => ?_) | refine R_icmp_ne a_X11_rests_163 (fun h163 => ?_) (fun h163 => ?_)
            · skip
              refine R_iload a_X11_rests_170 rfl ?_
              refine R_iconst (v := nI 2) a_X11_rests_172 rfl ?_
              first | with_reducible refine R_icmp_ne_n a_X11_rests_173 (by first | omega | exact Nat.lt_of_le_of_lt (inR_le _ _) (by decide) | exact Nat.lt_of_le_of_lt (bitN_le _ _) (by decide) | exact Nat.lt_of_le_of_lt (inI_le _ _ _) (by decide) | exact inI_le _ _ _ | exact inR_le _ _ | exact bitN_le _ _) (by first | omega | exact Nat.lt_of_le_of_lt (inR_le _ _) (by decide) | exact Nat.lt_of_le_of_lt (bitN_le _ _) (by decide) | exact Nat.lt_of_le_of_lt (inI_le _ _ _) (by decide) | exact inI_le _ _ _ | exact inR_le _ _ | exact bitN_le _ _) (fun h173 => ?_) (fun h173 => ?_) | refine R_icmp_ne a_X11_rests_173 (fun h173 => ?_) (fun h173 => ?_)
              · skip
                refine R_iconst (v := nI 2) a_X11_rests_180 rfl ?_
                refine R_istore (ls' := [_, _, _, _, _, _, _, _, _, _, _, _, _, _]) a_X11_rests_181 rfl rfl rfl ?_
                refine R_dian 246 (fun v => v = b2n ((okW T (saltF T h) i s j t) 3)) (fun hJ183 => ?_) (fun v183 e183 => ?_)
                · skip
                  refine R_aload_n a_X11_rests_183 rfl ?_
                  refine R_iload_n a_X11_rests_184 rfl ?_
                  refine R_iload_n a_X11_rests_185 rfl ?_
                  refine R_iload a_X11_rests_186 rfl ?_
                  refine R_iload_n a_X11_rests_188 rfl ?_
                  refine R_iload a_X11_rests_189 rfl ?_
                  refine R_iload a_X11_rests_191 rfl ?_
                  refine R_callVp a_X11_rests_193 hM (md_has1_3 hM hMT ok hSr hi hs hj ht hij) rfl rfl rfl rfl rfl ?_
                  refine R_aload_n a_X11_rests_196 rfl ?_
                  refine R_iload_n a_X11_rests_197 rfl ?_
                  refine R_iload_n a_X11_rests_198 rfl ?_
                  refine R_iload a_X11_rests_199 rfl ?_
                  refine R_iload_n a_X11_rests_201 rfl ?_
                  refine R_iload a_X11_rests_202 rfl ?_
                  refine R_iload a_X11_rests_204 rfl ?_
                  refine R_callVp a_X11_rests_206 hM (md_has1_1 hM hMT ok hSr hi hs hj ht hij) rfl rfl rfl rfl rfl ?_
                  refine R_icmp_lt a_X11_rests_209 (fun h209 => ?_) (fun h209 => ?_)
                  · skip
                    have he : 0 = b2n ((okW T (saltF T h) i s j t) 3) := by rw [okW_f1 (x := 1) rfl h209]; rfl
                    refine R_iconst (v := nI 0) a_X11_rests_245 rfl ?_
                    exact hJ183 _ he
                  · skip
                    refine R_aload_n a_X11_rests_212 rfl ?_
                    refine R_iload_n a_X11_rests_213 rfl ?_
                    refine R_iload_n a_X11_rests_214 rfl ?_
                    refine R_iload a_X11_rests_215 rfl ?_
                    refine R_iload_n a_X11_rests_217 rfl ?_
                    refine R_iload a_X11_rests_218 rfl ?_
                    refine R_iload a_X11_rests_220 rfl ?_
                    refine R_callVp a_X11_rests_222 hM (md_has2_3 hM hMT ok hSr hi hs hj ht hij) rfl rfl rfl rfl rfl ?_
                    refine R_aload_n a_X11_rests_225 rfl ?_
                    refine R_iload_n a_X11_rests_226 rfl ?_
                    refine R_iload_n a_X11_rests_227 rfl ?_
                    refine R_iload a_X11_rests_228 rfl ?_
                    refine R_iload_n a_X11_rests_230 rfl ?_
                    refine R_iload a_X11_rests_231 rfl ?_
                    refine R_iload a_X11_rests_233 rfl ?_
                    refine R_callVp a_X11_rests_235 hM (md_has2_2 hM hMT ok hSr hi hs hj ht hij) rfl rfl rfl rfl rfl ?_
                    refine R_icmp_lt a_X11_rests_238 (fun h238 => ?_) (fun h238 => ?_)
                    · skip
                      have he : 0 = b2n ((okW T (saltF T h) i s j t) 3) := by rw [okW_f2 (x := 2) rfl h238]; rfl
                      refine R_iconst (v := nI 0) a_X11_rests_245 rfl ?_
                      exact hJ183 _ he
                    · skip
                      have he : 1 = b2n ((okW T (saltF T h) i s j t) 3) := by rw [okW_t (x := 1) (y := 2) rfl rfl h209 h238]; rfl
                      refine R_iconst (v := nI 1) a_X11_rests_241 rfl ?_
                      refine R_goto a_X11_rests_242 ?_
                      exact hJ183 _ he
                · skip
                  have hb9 := b2n_le ((okW T (saltF T h) i s j t) 3)
                  refine R_istore (ls' := [_, _, _, _, _, _, _, _, _, _, _, _, _, _]) a_X11_rests_246 rfl rfl rfl ?_
                  refine R_iload a_X11_rests_248 rfl ?_
                  refine R_iload a_X11_rests_250 rfl ?_
                  first | with_reducible refine R_if_eq_n a_X11_rests_252 (by first | omega | exact Nat.lt_of_le_of_lt (inR_le _ _) (by decide) | exact Nat.lt_of_le_of_lt (bitN_le _ _) (by decide) | exact Nat.lt_of_le_of_lt (inI_le _ _ _) (by decide) | exact inI_le _ _ _ | exact inR_le _ _ | exact bitN_le _ _) (fun h252 => ?_) (fun h252 => ?_) | refine R_if_eq a_X11_rests_252 (fun h252 => ?_) (fun h252 => ?_)
                  · skip
                    have hko : (okW T (saltF T h) i s j t) 3 = false := by
                      rcases b2n_val ((okW T (saltF T h) i s j t) 3) with ⟨-, e⟩ | ⟨e, -⟩
                      · exact e
                      · rw [e183, e] at h252; cases h252
                    have hn2 : m + 0 = rsN (okW T (saltF T h) i s j t) 3 := by rw [rsN_step _ (show 3 < 4 by decide), hko, hn]; rfl
                    have hf2 : d = rsF (okW T (saltF T h) i s j t) 3 := by rw [rsF_step _ (show 3 < 4 by decide), hko, hf]; rfl
                    refine R_iconst (v := nI 0) a_X11_rests_259 rfl ?_
                    first | with_reducible refine R_iadd_n a_X11_rests_260 ?_ | refine R_iadd a_X11_rests_260 ?_
                    refine R_istore (ls' := [_, _, _, _, _, _, _, _, _, _, _, _, _, _]) a_X11_rests_261 rfl rfl rfl ?_
                    refine R_iload a_X11_rests_263 rfl ?_
                    first | with_reducible refine R_if_eq_n a_X11_rests_265 (by first | omega | exact Nat.lt_of_le_of_lt (inR_le _ _) (by decide) | exact Nat.lt_of_le_of_lt (bitN_le _ _) (by decide) | exact Nat.lt_of_le_of_lt (inI_le _ _ _) (by decide) | exact inI_le _ _ _ | exact inR_le _ _ | exact bitN_le _ _) (fun h265 => ?_) (fun h265 => ?_) | refine R_if_eq a_X11_rests_265 (fun h265 => ?_) (fun h265 => ?_)
                    · skip
                      refine R_iload a_X11_rests_273 rfl ?_
                      refine R_istore (ls' := [_, _, _, _, _, _, _, _, _, _, _, _, _, _]) a_X11_rests_275 rfl rfl rfl ?_
                      refine R_iinc (v := dcI 3) (ls' := [_, _, _, _, _, _, _, _, _, _, _, _, _, _]) a_X11_rests_277 rfl (dcI_dec 3) rfl rfl rfl ?_
                      refine R_goto a_X11_rests_280 ?_
                      exact ih _ (show 3 < n by omega) 3 _ _ _ _ _ _ rfl (by omega) hn2 hf2 rfl
                    · skip
                      exact absurd h252 h265
                  · skip
                    have hko : (okW T (saltF T h) i s j t) 3 = true := by
                      rcases b2n_val ((okW T (saltF T h) i s j t) 3) with ⟨e, -⟩ | ⟨-, e⟩
                      · rw [e183, e] at h252; exact absurd rfl h252
                      · exact e
                    have hn2 : m + 1 = rsN (okW T (saltF T h) i s j t) 3 := by rw [rsN_step _ (show 3 < 4 by decide), hko, hn]; rfl
                    have hf2 : nI 3 = rsF (okW T (saltF T h) i s j t) 3 := by rw [rsF_step _ (show 3 < 4 by decide), hko]; rfl
                    refine R_iconst (v := nI 1) a_X11_rests_255 rfl ?_
                    refine R_goto a_X11_rests_256 ?_
                    first | with_reducible refine R_iadd_n a_X11_rests_260 ?_ | refine R_iadd a_X11_rests_260 ?_
                    refine R_istore (ls' := [_, _, _, _, _, _, _, _, _, _, _, _, _, _]) a_X11_rests_261 rfl rfl rfl ?_
                    refine R_iload a_X11_rests_263 rfl ?_
                    first | with_reducible refine R_if_eq_n a_X11_rests_265 (by first | omega | exact Nat.lt_of_le_of_lt (inR_le _ _) (by decide) | exact Nat.lt_of_le_of_lt (bitN_le _ _) (by decide) | exact Nat.lt_of_le_of_lt (inI_le _ _ _) (by decide) | exact inI_le _ _ _ | exact inR_le _ _ | exact bitN_le _ _) (fun h265 => ?_) (fun h265 => ?_) | refine R_if_eq a_X11_rests_265 (fun h265 => ?_) (fun h265 => ?_)
                    · skip
                      exact absurd h265 h252
                    · skip
                      refine R_iload a_X11_rests_268 rfl ?_
                      refine R_goto a_X11_rests_270 ?_
                      refine R_istore (ls' := [_, _, _, _, _, _, _, _, _, _, _, _, _, _]) a_X11_rests_275 rfl rfl rfl ?_
                      refine R_iinc (v := dcI 3) (ls' := [_, _, _, _, _, _, _, _, _, _, _, _, _, _]) a_X11_rests_277 rfl (dcI_dec 3) rfl rfl rfl ?_
                      refine R_goto a_X11_rests_280 ?_
                      exact ih _ (show 3 < n by omega) 3 _ _ _ _ _ _ rfl (by omega) hn2 hf2 rfl
              · skip
                exact absurd h173 (by decide)
            · skip
              exact absurd h163 (by decide)
          · skip
            exact absurd h153 (by decide)
        · skip
          subst h141
          refine R_iconst (v := nI 0) a_X11_rests_144 rfl ?_
          refine R_goto a_X11_rests_145 ?_
          refine R_istore (ls' := [_, _, _, _, _, _, _, _, _, _, _, _, _, _]) a_X11_rests_149 rfl rfl rfl ?_
          refine R_iload a_X11_rests_151 rfl ?_
          first | with_reducible refine R_if_ne_n a_X11_rests_153 (by first | omega | exact Nat.lt_of_le_of_lt (inR_le _ _) (by decide) | exact Nat.lt_of_le_of_lt (bitN_le _ _) (by decide) | exact Nat.lt_of_le_of_lt (inI_le _ _ _) (by decide) | exact inI_le _ _ _ | exact inR_le _ _ | exact bitN_le _ _) (fun h153 => ?_) (fun h153 => ?_) | refine R_if_ne a_X11_rests_153 (fun h153 => ?_) (fun h153 => ?_)
          · skip
            refine R_iload a_X11_rests_160 rfl ?_
            refine R_iconst (v := nI 1) a_X11_rests_162 rfl ?_
            first | with_reducible refine R_icmp_ne_n a_X11_rests_163 (by first | omega | exact Nat.lt_of_le_of_lt (inR_le _ _) (by decide) | exact Nat.lt_of_le_of_lt (bitN_le _ _) (by decide) | exact Nat.lt_of_le_of_lt (inI_le _ _ _) (by decide) | exact inI_le _ _ _ | exact inR_le _ _ | exact bitN_le _ _) (by first | omega | exact Nat.lt_of_le_of_lt (inR_le _ _) (by decide) | exact Nat.lt_of_le_of_lt (bitN_le _ _) (by decide) | exact Nat.lt_of_le_of_lt (inI_le _ _ _) (by decide) | exact inI_le _ _ _ | exact inR_le _ _ | exact bitN_le _ _) (fun h163 => ?_) (fun h163 => ?_) | refine R_icmp_ne a_X11_rests_163 (fun h163 => ?_) (fun h163 => ?_)
            · skip
              refine R_iload a_X11_rests_170 rfl ?_
              refine R_iconst (v := nI 2) a_X11_rests_172 rfl ?_
              first | with_reducible refine R_icmp_ne_n a_X11_rests_173 (by first | omega | exact Nat.lt_of_le_of_lt (inR_le _ _) (by decide) | exact Nat.lt_of_le_of_lt (bitN_le _ _) (by decide) | exact Nat.lt_of_le_of_lt (inI_le _ _ _) (by decide) | exact inI_le _ _ _ | exact inR_le _ _ | exact bitN_le _ _) (by first | omega | exact Nat.lt_of_le_of_lt (inR_le _ _) (by decide) | exact Nat.lt_of_le_of_lt (bitN_le _ _) (by decide) | exact Nat.lt_of_le_of_lt (inI_le _ _ _) (by decide) | exact inI_le _ _ _ | exact inR_le _ _ | exact bitN_le _ _) (fun h173 => ?_) (fun h173 => ?_) | refine R_icmp_ne a_X11_rests_173 (fun h173 => ?_) (fun h173 => ?_)
              · skip
                exact absurd rfl h173
              · skip
                refine R_iconst (v := nI 3) a_X11_rests_176 rfl ?_
                refine R_goto a_X11_rests_177 ?_
                refine R_istore (ls' := [_, _, _, _, _, _, _, _, _, _, _, _, _, _]) a_X11_rests_181 rfl rfl rfl ?_
                refine R_dian 246 (fun v => v = b2n ((okW T (saltF T h) i s j t) 2)) (fun hJ183 => ?_) (fun v183 e183 => ?_)
                · skip
                  refine R_aload_n a_X11_rests_183 rfl ?_
                  refine R_iload_n a_X11_rests_184 rfl ?_
                  refine R_iload_n a_X11_rests_185 rfl ?_
                  refine R_iload a_X11_rests_186 rfl ?_
                  refine R_iload_n a_X11_rests_188 rfl ?_
                  refine R_iload a_X11_rests_189 rfl ?_
                  refine R_iload a_X11_rests_191 rfl ?_
                  refine R_callVp a_X11_rests_193 hM (md_has1_2 hM hMT ok hSr hi hs hj ht hij) rfl rfl rfl rfl rfl ?_
                  refine R_aload_n a_X11_rests_196 rfl ?_
                  refine R_iload_n a_X11_rests_197 rfl ?_
                  refine R_iload_n a_X11_rests_198 rfl ?_
                  refine R_iload a_X11_rests_199 rfl ?_
                  refine R_iload_n a_X11_rests_201 rfl ?_
                  refine R_iload a_X11_rests_202 rfl ?_
                  refine R_iload a_X11_rests_204 rfl ?_
                  refine R_callVp a_X11_rests_206 hM (md_has1_0 hM hMT ok hSr hi hs hj ht hij) rfl rfl rfl rfl rfl ?_
                  refine R_icmp_lt a_X11_rests_209 (fun h209 => ?_) (fun h209 => ?_)
                  · skip
                    have he : 0 = b2n ((okW T (saltF T h) i s j t) 2) := by rw [okW_f1 (x := 0) rfl h209]; rfl
                    refine R_iconst (v := nI 0) a_X11_rests_245 rfl ?_
                    exact hJ183 _ he
                  · skip
                    refine R_aload_n a_X11_rests_212 rfl ?_
                    refine R_iload_n a_X11_rests_213 rfl ?_
                    refine R_iload_n a_X11_rests_214 rfl ?_
                    refine R_iload a_X11_rests_215 rfl ?_
                    refine R_iload_n a_X11_rests_217 rfl ?_
                    refine R_iload a_X11_rests_218 rfl ?_
                    refine R_iload a_X11_rests_220 rfl ?_
                    refine R_callVp a_X11_rests_222 hM (md_has2_2 hM hMT ok hSr hi hs hj ht hij) rfl rfl rfl rfl rfl ?_
                    refine R_aload_n a_X11_rests_225 rfl ?_
                    refine R_iload_n a_X11_rests_226 rfl ?_
                    refine R_iload_n a_X11_rests_227 rfl ?_
                    refine R_iload a_X11_rests_228 rfl ?_
                    refine R_iload_n a_X11_rests_230 rfl ?_
                    refine R_iload a_X11_rests_231 rfl ?_
                    refine R_iload a_X11_rests_233 rfl ?_
                    refine R_callVp a_X11_rests_235 hM (md_has2_3 hM hMT ok hSr hi hs hj ht hij) rfl rfl rfl rfl rfl ?_
                    refine R_icmp_lt a_X11_rests_238 (fun h238 => ?_) (fun h238 => ?_)
                    · skip
                      have he : 0 = b2n ((okW T (saltF T h) i s j t) 2) := by rw [okW_f2 (x := 3) rfl h238]; rfl
                      refine R_iconst (v := nI 0) a_X11_rests_245 rfl ?_
                      exact hJ183 _ he
                    · skip
                      have he : 1 = b2n ((okW T (saltF T h) i s j t) 2) := by rw [okW_t (x := 0) (y := 3) rfl rfl h209 h238]; rfl
                      refine R_iconst (v := nI 1) a_X11_rests_241 rfl ?_
                      refine R_goto a_X11_rests_242 ?_
                      exact hJ183 _ he
                · skip
                  have hb9 := b2n_le ((okW T (saltF T h) i s j t) 2)
                  refine R_istore (ls' := [_, _, _, _, _, _, _, _, _, _, _, _, _, _]) a_X11_rests_246 rfl rfl rfl ?_
                  refine R_iload a_X11_rests_248 rfl ?_
                  refine R_iload a_X11_rests_250 rfl ?_
                  first | with_reducible refine R_if_eq_n a_X11_rests_252 (by first | omega | exact Nat.lt_of_le_of_lt (inR_le _ _) (by decide) | exact Nat.lt_of_le_of_lt (bitN_le _ _) (by decide) | exact Nat.lt_of_le_of_lt (inI_le _ _ _) (by decide) | exact inI_le _ _ _ | exact inR_le _ _ | exact bitN_le _ _) (fun h252 => ?_) (fun h252 => ?_) | refine R_if_eq a_X11_rests_252 (fun h252 => ?_) (fun h252 => ?_)
                  · skip
                    have hko : (okW T (saltF T h) i s j t) 2 = false := by
                      rcases b2n_val ((okW T (saltF T h) i s j t) 2) with ⟨-, e⟩ | ⟨e, -⟩
                      · exact e
                      · rw [e183, e] at h252; cases h252
                    have hn2 : m + 0 = rsN (okW T (saltF T h) i s j t) 2 := by rw [rsN_step _ (show 2 < 4 by decide), hko, hn]; rfl
                    have hf2 : d = rsF (okW T (saltF T h) i s j t) 2 := by rw [rsF_step _ (show 2 < 4 by decide), hko, hf]; rfl
                    refine R_iconst (v := nI 0) a_X11_rests_259 rfl ?_
                    first | with_reducible refine R_iadd_n a_X11_rests_260 ?_ | refine R_iadd a_X11_rests_260 ?_
                    refine R_istore (ls' := [_, _, _, _, _, _, _, _, _, _, _, _, _, _]) a_X11_rests_261 rfl rfl rfl ?_
                    refine R_iload a_X11_rests_263 rfl ?_
                    first | with_reducible refine R_if_eq_n a_X11_rests_265 (by first | omega | exact Nat.lt_of_le_of_lt (inR_le _ _) (by decide) | exact Nat.lt_of_le_of_lt (bitN_le _ _) (by decide) | exact Nat.lt_of_le_of_lt (inI_le _ _ _) (by decide) | exact inI_le _ _ _ | exact inR_le _ _ | exact bitN_le _ _) (fun h265 => ?_) (fun h265 => ?_) | refine R_if_eq a_X11_rests_265 (fun h265 => ?_) (fun h265 => ?_)
                    · skip
                      refine R_iload a_X11_rests_273 rfl ?_
                      refine R_istore (ls' := [_, _, _, _, _, _, _, _, _, _, _, _, _, _]) a_X11_rests_275 rfl rfl rfl ?_
                      refine R_iinc (v := dcI 2) (ls' := [_, _, _, _, _, _, _, _, _, _, _, _, _, _]) a_X11_rests_277 rfl (dcI_dec 2) rfl rfl rfl ?_
                      refine R_goto a_X11_rests_280 ?_
                      exact ih _ (show 2 < n by omega) 2 _ _ _ _ _ _ rfl (by omega) hn2 hf2 rfl
                    · skip
                      exact absurd h252 h265
                  · skip
                    have hko : (okW T (saltF T h) i s j t) 2 = true := by
                      rcases b2n_val ((okW T (saltF T h) i s j t) 2) with ⟨e, -⟩ | ⟨-, e⟩
                      · rw [e183, e] at h252; exact absurd rfl h252
                      · exact e
                    have hn2 : m + 1 = rsN (okW T (saltF T h) i s j t) 2 := by rw [rsN_step _ (show 2 < 4 by decide), hko, hn]; rfl
                    have hf2 : nI 2 = rsF (okW T (saltF T h) i s j t) 2 := by rw [rsF_step _ (show 2 < 4 by decide), hko]; rfl
                    refine R_iconst (v := nI 1) a_X11_rests_255 rfl ?_
                    refine R_goto a_X11_rests_256 ?_
                    first | with_reducible refine R_iadd_n a_X11_rests_260 ?_ | refine R_iadd a_X11_rests_260 ?_
                    refine R_istore (ls' := [_, _, _, _, _, _, _, _, _, _, _, _, _, _]) a_X11_rests_261 rfl rfl rfl ?_
                    refine R_iload a_X11_rests_263 rfl ?_
                    first | with_reducible refine R_if_eq_n a_X11_rests_265 (by first | omega | exact Nat.lt_of_le_of_lt (inR_le _ _) (by decide) | exact Nat.lt_of_le_of_lt (bitN_le _ _) (by decide) | exact Nat.lt_of_le_of_lt (inI_le _ _ _) (by decide) | exact inI_le _ _ _ | exact inR_le _ _ | exact bitN_le _ _) (fun h265 => ?_) (fun h265 => ?_) | refine R_if_eq a_X11_rests_265 (fun h265 => ?_) (fun h265 => ?_)
                    · skip
                      exact absurd h265 h252
                    · skip
                      refine R_iload a_X11_rests_268 rfl ?_
                      refine R_goto a_X11_rests_270 ?_
                      refine R_istore (ls' := [_, _, _, _, _, _, _, _, _, _, _, _, _, _]) a_X11_rests_275 rfl rfl rfl ?_
                      refine R_iinc (v := dcI 2) (ls' := [_, _, _, _, _, _, _, _, _, _, _, _, _, _]) a_X11_rests_277 rfl (dcI_dec 2) rfl rfl rfl ?_
                      refine R_goto a_X11_rests_280 ?_
                      exact ih _ (show 2 < n by omega) 2 _ _ _ _ _ _ rfl (by omega) hn2 hf2 rfl
            · skip
              exact absurd h163 (by decide)
          · skip
            exact absurd h153 (by decide)
      · skip
        subst h131
        refine R_iconst (v := nI 3) a_X11_rests_134 rfl ?_
        refine R_goto a_X11_rests_135 ?_
        refine R_istore (ls' := [_, _, _, _, _, _, _, _, _, _, _, _, _, _]) a_X11_rests_149 rfl rfl rfl ?_
        refine R_iload a_X11_rests_151 rfl ?_
        first | with_reducible refine R_if_ne_n a_X11_rests_153 (by first | omega | exact Nat.lt_of_le_of_lt (inR_le _ _) (by decide) | exact Nat.lt_of_le_of_lt (bitN_le _ _) (by decide) | exact Nat.lt_of_le_of_lt (inI_le _ _ _) (by decide) | exact inI_le _ _ _ | exact inR_le _ _ | exact bitN_le _ _) (fun h153 => ?_) (fun h153 => ?_) | refine R_if_ne a_X11_rests_153 (fun h153 => ?_) (fun h153 => ?_)
        · skip
          refine R_iload a_X11_rests_160 rfl ?_
          refine R_iconst (v := nI 1) a_X11_rests_162 rfl ?_
          first | with_reducible refine R_icmp_ne_n a_X11_rests_163 (by first | omega | exact Nat.lt_of_le_of_lt (inR_le _ _) (by decide) | exact Nat.lt_of_le_of_lt (bitN_le _ _) (by decide) | exact Nat.lt_of_le_of_lt (inI_le _ _ _) (by decide) | exact inI_le _ _ _ | exact inR_le _ _ | exact bitN_le _ _) (by first | omega | exact Nat.lt_of_le_of_lt (inR_le _ _) (by decide) | exact Nat.lt_of_le_of_lt (bitN_le _ _) (by decide) | exact Nat.lt_of_le_of_lt (inI_le _ _ _) (by decide) | exact inI_le _ _ _ | exact inR_le _ _ | exact bitN_le _ _) (fun h163 => ?_) (fun h163 => ?_) | refine R_icmp_ne a_X11_rests_163 (fun h163 => ?_) (fun h163 => ?_)
          · skip
            exact absurd rfl h163
          · skip
            refine R_iconst (v := nI 0) a_X11_rests_166 rfl ?_
            refine R_goto a_X11_rests_167 ?_
            refine R_istore (ls' := [_, _, _, _, _, _, _, _, _, _, _, _, _, _]) a_X11_rests_181 rfl rfl rfl ?_
            refine R_dian 246 (fun v => v = b2n ((okW T (saltF T h) i s j t) 1)) (fun hJ183 => ?_) (fun v183 e183 => ?_)
            · skip
              refine R_aload_n a_X11_rests_183 rfl ?_
              refine R_iload_n a_X11_rests_184 rfl ?_
              refine R_iload_n a_X11_rests_185 rfl ?_
              refine R_iload a_X11_rests_186 rfl ?_
              refine R_iload_n a_X11_rests_188 rfl ?_
              refine R_iload a_X11_rests_189 rfl ?_
              refine R_iload a_X11_rests_191 rfl ?_
              refine R_callVp a_X11_rests_193 hM (md_has1_1 hM hMT ok hSr hi hs hj ht hij) rfl rfl rfl rfl rfl ?_
              refine R_aload_n a_X11_rests_196 rfl ?_
              refine R_iload_n a_X11_rests_197 rfl ?_
              refine R_iload_n a_X11_rests_198 rfl ?_
              refine R_iload a_X11_rests_199 rfl ?_
              refine R_iload_n a_X11_rests_201 rfl ?_
              refine R_iload a_X11_rests_202 rfl ?_
              refine R_iload a_X11_rests_204 rfl ?_
              refine R_callVp a_X11_rests_206 hM (md_has1_3 hM hMT ok hSr hi hs hj ht hij) rfl rfl rfl rfl rfl ?_
              refine R_icmp_lt a_X11_rests_209 (fun h209 => ?_) (fun h209 => ?_)
              · skip
                have he : 0 = b2n ((okW T (saltF T h) i s j t) 1) := by rw [okW_f1 (x := 3) rfl h209]; rfl
                refine R_iconst (v := nI 0) a_X11_rests_245 rfl ?_
                exact hJ183 _ he
              · skip
                refine R_aload_n a_X11_rests_212 rfl ?_
                refine R_iload_n a_X11_rests_213 rfl ?_
                refine R_iload_n a_X11_rests_214 rfl ?_
                refine R_iload a_X11_rests_215 rfl ?_
                refine R_iload_n a_X11_rests_217 rfl ?_
                refine R_iload a_X11_rests_218 rfl ?_
                refine R_iload a_X11_rests_220 rfl ?_
                refine R_callVp a_X11_rests_222 hM (md_has2_1 hM hMT ok hSr hi hs hj ht hij) rfl rfl rfl rfl rfl ?_
                refine R_aload_n a_X11_rests_225 rfl ?_
                refine R_iload_n a_X11_rests_226 rfl ?_
                refine R_iload_n a_X11_rests_227 rfl ?_
                refine R_iload a_X11_rests_228 rfl ?_
                refine R_iload_n a_X11_rests_230 rfl ?_
                refine R_iload a_X11_rests_231 rfl ?_
                refine R_iload a_X11_rests_233 rfl ?_
                refine R_callVp a_X11_rests_235 hM (md_has2_0 hM hMT ok hSr hi hs hj ht hij) rfl rfl rfl rfl rfl ?_
                refine R_icmp_lt a_X11_rests_238 (fun h238 => ?_) (fun h238 => ?_)
                · skip
                  have he : 0 = b2n ((okW T (saltF T h) i s j t) 1) := by rw [okW_f2 (x := 0) rfl h238]; rfl
                  refine R_iconst (v := nI 0) a_X11_rests_245 rfl ?_
                  exact hJ183 _ he
                · skip
                  have he : 1 = b2n ((okW T (saltF T h) i s j t) 1) := by rw [okW_t (x := 3) (y := 0) rfl rfl h209 h238]; rfl
                  refine R_iconst (v := nI 1) a_X11_rests_241 rfl ?_
                  refine R_goto a_X11_rests_242 ?_
                  exact hJ183 _ he
            · skip
              have hb9 := b2n_le ((okW T (saltF T h) i s j t) 1)
              refine R_istore (ls' := [_, _, _, _, _, _, _, _, _, _, _, _, _, _]) a_X11_rests_246 rfl rfl rfl ?_
              refine R_iload a_X11_rests_248 rfl ?_
              refine R_iload a_X11_rests_250 rfl ?_
              first | with_reducible refine R_if_eq_n a_X11_rests_252 (by first | omega | exact Nat.lt_of_le_of_lt (inR_le _ _) (by decide) | exact Nat.lt_of_le_of_lt (bitN_le _ _) (by decide) | exact Nat.lt_of_le_of_lt (inI_le _ _ _) (by decide) | exact inI_le _ _ _ | exact inR_le _ _ | exact bitN_le _ _) (fun h252 => ?_) (fun h252 => ?_) | refine R_if_eq a_X11_rests_252 (fun h252 => ?_) (fun h252 => ?_)
              · skip
                have hko : (okW T (saltF T h) i s j t) 1 = false := by
                  rcases b2n_val ((okW T (saltF T h) i s j t) 1) with ⟨-, e⟩ | ⟨e, -⟩
                  · exact e
                  · rw [e183, e] at h252; cases h252
                have hn2 : m + 0 = rsN (okW T (saltF T h) i s j t) 1 := by rw [rsN_step _ (show 1 < 4 by decide), hko, hn]; rfl
                have hf2 : d = rsF (okW T (saltF T h) i s j t) 1 := by rw [rsF_step _ (show 1 < 4 by decide), hko, hf]; rfl
                refine R_iconst (v := nI 0) a_X11_rests_259 rfl ?_
                first | with_reducible refine R_iadd_n a_X11_rests_260 ?_ | refine R_iadd a_X11_rests_260 ?_
                refine R_istore (ls' := [_, _, _, _, _, _, _, _, _, _, _, _, _, _]) a_X11_rests_261 rfl rfl rfl ?_
                refine R_iload a_X11_rests_263 rfl ?_
                first | with_reducible refine R_if_eq_n a_X11_rests_265 (by first | omega | exact Nat.lt_of_le_of_lt (inR_le _ _) (by decide) | exact Nat.lt_of_le_of_lt (bitN_le _ _) (by decide) | exact Nat.lt_of_le_of_lt (inI_le _ _ _) (by decide) | exact inI_le _ _ _ | exact inR_le _ _ | exact bitN_le _ _) (fun h265 => ?_) (fun h265 => ?_) | refine R_if_eq a_X11_rests_265 (fun h265 => ?_) (fun h265 => ?_)
                · skip
                  refine R_iload a_X11_rests_273 rfl ?_
                  refine R_istore (ls' := [_, _, _, _, _, _, _, _, _, _, _, _, _, _]) a_X11_rests_275 rfl rfl rfl ?_
                  refine R_iinc (v := dcI 1) (ls' := [_, _, _, _, _, _, _, _, _, _, _, _, _, _]) a_X11_rests_277 rfl (dcI_dec 1) rfl rfl rfl ?_
                  refine R_goto a_X11_rests_280 ?_
                  exact ih _ (show 1 < n by omega) 1 _ _ _ _ _ _ rfl (by omega) hn2 hf2 rfl
                · skip
                  exact absurd h252 h265
              · skip
                have hko : (okW T (saltF T h) i s j t) 1 = true := by
                  rcases b2n_val ((okW T (saltF T h) i s j t) 1) with ⟨e, -⟩ | ⟨-, e⟩
                  · rw [e183, e] at h252; exact absurd rfl h252
                  · exact e
                have hn2 : m + 1 = rsN (okW T (saltF T h) i s j t) 1 := by rw [rsN_step _ (show 1 < 4 by decide), hko, hn]; rfl
                have hf2 : nI 1 = rsF (okW T (saltF T h) i s j t) 1 := by rw [rsF_step _ (show 1 < 4 by decide), hko]; rfl
                refine R_iconst (v := nI 1) a_X11_rests_255 rfl ?_
                refine R_goto a_X11_rests_256 ?_
                first | with_reducible refine R_iadd_n a_X11_rests_260 ?_ | refine R_iadd a_X11_rests_260 ?_
                refine R_istore (ls' := [_, _, _, _, _, _, _, _, _, _, _, _, _, _]) a_X11_rests_261 rfl rfl rfl ?_
                refine R_iload a_X11_rests_263 rfl ?_
                first | with_reducible refine R_if_eq_n a_X11_rests_265 (by first | omega | exact Nat.lt_of_le_of_lt (inR_le _ _) (by decide) | exact Nat.lt_of_le_of_lt (bitN_le _ _) (by decide) | exact Nat.lt_of_le_of_lt (inI_le _ _ _) (by decide) | exact inI_le _ _ _ | exact inR_le _ _ | exact bitN_le _ _) (fun h265 => ?_) (fun h265 => ?_) | refine R_if_eq a_X11_rests_265 (fun h265 => ?_) (fun h265 => ?_)
                · skip
                  exact absurd h265 h252
                · skip
                  refine R_iload a_X11_rests_268 rfl ?_
                  refine R_goto a_X11_rests_270 ?_
                  refine R_istore (ls' := [_, _, _, _, _, _, _, _, _, _, _, _, _, _]) a_X11_rests_275 rfl rfl rfl ?_
                  refine R_iinc (v := dcI 1) (ls' := [_, _, _, _, _, _, _, _, _, _, _, _, _, _]) a_X11_rests_277 rfl (dcI_dec 1) rfl rfl rfl ?_
                  refine R_goto a_X11_rests_280 ?_
                  exact ih _ (show 1 < n by omega) 1 _ _ _ _ _ _ rfl (by omega) hn2 hf2 rfl
        · skip
          exact absurd h153 (by decide)
    · skip
      subst h121
      refine R_iconst (v := nI 2) a_X11_rests_124 rfl ?_
      refine R_goto a_X11_rests_125 ?_
      refine R_istore (ls' := [_, _, _, _, _, _, _, _, _, _, _, _, _, _]) a_X11_rests_149 rfl rfl rfl ?_
      refine R_iload a_X11_rests_151 rfl ?_
      first | with_reducible refine R_if_ne_n a_X11_rests_153 (by first | omega | exact Nat.lt_of_le_of_lt (inR_le _ _) (by decide) | exact Nat.lt_of_le_of_lt (bitN_le _ _) (by decide) | exact Nat.lt_of_le_of_lt (inI_le _ _ _) (by decide) | exact inI_le _ _ _ | exact inR_le _ _ | exact bitN_le _ _) (fun h153 => ?_) (fun h153 => ?_) | refine R_if_ne a_X11_rests_153 (fun h153 => ?_) (fun h153 => ?_)
      · skip
        exact absurd rfl h153
      · skip
        refine R_iconst (v := nI 1) a_X11_rests_156 rfl ?_
        refine R_goto a_X11_rests_157 ?_
        refine R_istore (ls' := [_, _, _, _, _, _, _, _, _, _, _, _, _, _]) a_X11_rests_181 rfl rfl rfl ?_
        refine R_dian 246 (fun v => v = b2n ((okW T (saltF T h) i s j t) 0)) (fun hJ183 => ?_) (fun v183 e183 => ?_)
        · skip
          refine R_aload_n a_X11_rests_183 rfl ?_
          refine R_iload_n a_X11_rests_184 rfl ?_
          refine R_iload_n a_X11_rests_185 rfl ?_
          refine R_iload a_X11_rests_186 rfl ?_
          refine R_iload_n a_X11_rests_188 rfl ?_
          refine R_iload a_X11_rests_189 rfl ?_
          refine R_iload a_X11_rests_191 rfl ?_
          refine R_callVp a_X11_rests_193 hM (md_has1_0 hM hMT ok hSr hi hs hj ht hij) rfl rfl rfl rfl rfl ?_
          refine R_aload_n a_X11_rests_196 rfl ?_
          refine R_iload_n a_X11_rests_197 rfl ?_
          refine R_iload_n a_X11_rests_198 rfl ?_
          refine R_iload a_X11_rests_199 rfl ?_
          refine R_iload_n a_X11_rests_201 rfl ?_
          refine R_iload a_X11_rests_202 rfl ?_
          refine R_iload a_X11_rests_204 rfl ?_
          refine R_callVp a_X11_rests_206 hM (md_has1_2 hM hMT ok hSr hi hs hj ht hij) rfl rfl rfl rfl rfl ?_
          refine R_icmp_lt a_X11_rests_209 (fun h209 => ?_) (fun h209 => ?_)
          · skip
            have he : 0 = b2n ((okW T (saltF T h) i s j t) 0) := by rw [okW_f1 (x := 2) rfl h209]; rfl
            refine R_iconst (v := nI 0) a_X11_rests_245 rfl ?_
            exact hJ183 _ he
          · skip
            refine R_aload_n a_X11_rests_212 rfl ?_
            refine R_iload_n a_X11_rests_213 rfl ?_
            refine R_iload_n a_X11_rests_214 rfl ?_
            refine R_iload a_X11_rests_215 rfl ?_
            refine R_iload_n a_X11_rests_217 rfl ?_
            refine R_iload a_X11_rests_218 rfl ?_
            refine R_iload a_X11_rests_220 rfl ?_
            refine R_callVp a_X11_rests_222 hM (md_has2_0 hM hMT ok hSr hi hs hj ht hij) rfl rfl rfl rfl rfl ?_
            refine R_aload_n a_X11_rests_225 rfl ?_
            refine R_iload_n a_X11_rests_226 rfl ?_
            refine R_iload_n a_X11_rests_227 rfl ?_
            refine R_iload a_X11_rests_228 rfl ?_
            refine R_iload_n a_X11_rests_230 rfl ?_
            refine R_iload a_X11_rests_231 rfl ?_
            refine R_iload a_X11_rests_233 rfl ?_
            refine R_callVp a_X11_rests_235 hM (md_has2_1 hM hMT ok hSr hi hs hj ht hij) rfl rfl rfl rfl rfl ?_
            refine R_icmp_lt a_X11_rests_238 (fun h238 => ?_) (fun h238 => ?_)
            · skip
              have he : 0 = b2n ((okW T (saltF T h) i s j t) 0) := by rw [okW_f2 (x := 1) rfl h238]; rfl
              refine R_iconst (v := nI 0) a_X11_rests_245 rfl ?_
              exact hJ183 _ he
            · skip
              have he : 1 = b2n ((okW T (saltF T h) i s j t) 0) := by rw [okW_t (x := 2) (y := 1) rfl rfl h209 h238]; rfl
              refine R_iconst (v := nI 1) a_X11_rests_241 rfl ?_
              refine R_goto a_X11_rests_242 ?_
              exact hJ183 _ he
        · skip
          have hb9 := b2n_le ((okW T (saltF T h) i s j t) 0)
          refine R_istore (ls' := [_, _, _, _, _, _, _, _, _, _, _, _, _, _]) a_X11_rests_246 rfl rfl rfl ?_
          refine R_iload a_X11_rests_248 rfl ?_
          refine R_iload a_X11_rests_250 rfl ?_
          first | with_reducible refine R_if_eq_n a_X11_rests_252 (by first | omega | exact Nat.lt_of_le_of_lt (inR_le _ _) (by decide) | exact Nat.lt_of_le_of_lt (bitN_le _ _) (by decide) | exact Nat.lt_of_le_of_lt (inI_le _ _ _) (by decide) | exact inI_le _ _ _ | exact inR_le _ _ | exact bitN_le _ _) (fun h252 => ?_) (fun h252 => ?_) | refine R_if_eq a_X11_rests_252 (fun h252 => ?_) (fun h252 => ?_)
          · skip
            have hko : (okW T (saltF T h) i s j t) 0 = false := by
              rcases b2n_val ((okW T (saltF T h) i s j t) 0) with ⟨-, e⟩ | ⟨e, -⟩
              · exact e
              · rw [e183, e] at h252; cases h252
            have hn2 : m + 0 = rsN (okW T (saltF T h) i s j t) 0 := by rw [rsN_step _ (show 0 < 4 by decide), hko, hn]; rfl
            have hf2 : d = rsF (okW T (saltF T h) i s j t) 0 := by rw [rsF_step _ (show 0 < 4 by decide), hko, hf]; rfl
            refine R_iconst (v := nI 0) a_X11_rests_259 rfl ?_
            first | with_reducible refine R_iadd_n a_X11_rests_260 ?_ | refine R_iadd a_X11_rests_260 ?_
            refine R_istore (ls' := [_, _, _, _, _, _, _, _, _, _, _, _, _, _]) a_X11_rests_261 rfl rfl rfl ?_
            refine R_iload a_X11_rests_263 rfl ?_
            first | with_reducible refine R_if_eq_n a_X11_rests_265 (by first | omega | exact Nat.lt_of_le_of_lt (inR_le _ _) (by decide) | exact Nat.lt_of_le_of_lt (bitN_le _ _) (by decide) | exact Nat.lt_of_le_of_lt (inI_le _ _ _) (by decide) | exact inI_le _ _ _ | exact inR_le _ _ | exact bitN_le _ _) (fun h265 => ?_) (fun h265 => ?_) | refine R_if_eq a_X11_rests_265 (fun h265 => ?_) (fun h265 => ?_)
            · skip
              refine R_iload a_X11_rests_273 rfl ?_
              refine R_istore (ls' := [_, _, _, _, _, _, _, _, _, _, _, _, _, _]) a_X11_rests_275 rfl rfl rfl ?_
              refine R_iinc (v := dcI 0) (ls' := [_, _, _, _, _, _, _, _, _, _, _, _, _, _]) a_X11_rests_277 rfl (dcI_dec 0) rfl rfl rfl ?_
              refine R_goto a_X11_rests_280 ?_
              exact ih _ (show 0 < n by omega) 0 _ _ _ _ _ _ rfl (by omega) hn2 hf2 rfl
            · skip
              exact absurd h252 h265
          · skip
            have hko : (okW T (saltF T h) i s j t) 0 = true := by
              rcases b2n_val ((okW T (saltF T h) i s j t) 0) with ⟨e, -⟩ | ⟨-, e⟩
              · rw [e183, e] at h252; exact absurd rfl h252
              · exact e
            have hn2 : m + 1 = rsN (okW T (saltF T h) i s j t) 0 := by rw [rsN_step _ (show 0 < 4 by decide), hko, hn]; rfl
            have hf2 : nI 0 = rsF (okW T (saltF T h) i s j t) 0 := by rw [rsF_step _ (show 0 < 4 by decide), hko]; rfl
            refine R_iconst (v := nI 1) a_X11_rests_255 rfl ?_
            refine R_goto a_X11_rests_256 ?_
            first | with_reducible refine R_iadd_n a_X11_rests_260 ?_ | refine R_iadd a_X11_rests_260 ?_
            refine R_istore (ls' := [_, _, _, _, _, _, _, _, _, _, _, _, _, _]) a_X11_rests_261 rfl rfl rfl ?_
            refine R_iload a_X11_rests_263 rfl ?_
            first | with_reducible refine R_if_eq_n a_X11_rests_265 (by first | omega | exact Nat.lt_of_le_of_lt (inR_le _ _) (by decide) | exact Nat.lt_of_le_of_lt (bitN_le _ _) (by decide) | exact Nat.lt_of_le_of_lt (inI_le _ _ _) (by decide) | exact inI_le _ _ _ | exact inR_le _ _ | exact bitN_le _ _) (fun h265 => ?_) (fun h265 => ?_) | refine R_if_eq a_X11_rests_265 (fun h265 => ?_) (fun h265 => ?_)
            · skip
              exact absurd h265 h252
            · skip
              refine R_iload a_X11_rests_268 rfl ?_
              refine R_goto a_X11_rests_270 ?_
              refine R_istore (ls' := [_, _, _, _, _, _, _, _, _, _, _, _, _, _]) a_X11_rests_275 rfl rfl rfl ?_
              refine R_iinc (v := dcI 0) (ls' := [_, _, _, _, _, _, _, _, _, _, _, _, _, _]) a_X11_rests_277 rfl (dcI_dec 0) rfl rfl rfl ?_
              refine R_goto a_X11_rests_280 ?_
              exact ih _ (show 0 < n by omega) 0 _ _ _ _ _ _ rfl (by omega) hn2 hf2 rfl

set_option maxRecDepth 20000 in
theorem md_rests {σ0 : AHp} {U : Us} {m : Nat} (hC : MP σ0 U) (hU : UOk U m) (hm : m < 2 ^ 20) {x y x' y' w : Int32} : EvW M_X11_rests [.ref 272, .int x, .int y, .int x', .int y', .int w] σ0 (some (.int (zRests U x y x' y' w))) (fun σ => MP σ (U) ∧ Fr σ0 σ 272 12) := by
  obtain ⟨at_, fx, ft, fd, fp, fi, fy, fw, fs, fb, fh, hM, hMX, hMT, hDr, hSr, hMPa, hMIm, hMSy, hWy, hSm, hBh, hHd⟩ := id hC
  obtain ⟨hTx, hTxv⟩ := id hMX
  obtain ⟨hTo, t0, t1, t2, t3, t28, tkd, thn, tkn, thf⟩ := id hMT
  obtain ⟨hPa, hPav⟩ := id hMPa
  obtain ⟨hIm, hImv⟩ := id hMIm
  obtain ⟨hSy, hSyv⟩ := id hMSy
  have ok := hU.T
  obtain ⟨g3, g8, n1, n6, lw, stg, son, kd4, hn10, kn63, hf4⟩ := id ok
  have hn64 : 2 ^ U.T.n ≤ 2 ^ 6 := Nat.pow_le_pow_right (by decide) n6
  have hg256 : 2 ^ U.T.g ≤ 2 ^ 8 := Nat.pow_le_pow_right (by decide) g8
  have hlen := hU.len
  have hu8 := hU.u8
  have hul := hU.ul
  have hkn2 := hU.kn2
  have hsg := saltF_lt ok U.h
  have hfr : ∀ j, j < 272 ∨ 284 ≤ j → σ0 j = σ0 j := fun _ _ => rfl
  refine Ev.of (ls := [_, _, _, _, _, _, _, _, _, _, _, _, _, _]) 8 (by decide) rfl rfl ?_
  refine R_aload_n a_X11_rests_0 rfl ?_
  refine R_iload_n a_X11_rests_1 rfl ?_
  refine R_callVp a_X11_rests_2 hM (md_isGuest hM hMT ok) rfl rfl rfl rfl rfl ?_
  first | with_reducible refine R_if_eq_n a_X11_rests_5 (by first | omega | exact Nat.lt_of_le_of_lt (inR_le _ _) (by decide) | exact Nat.lt_of_le_of_lt (bitN_le _ _) (by decide) | exact Nat.lt_of_le_of_lt (inI_le _ _ _) (by decide) | exact inI_le _ _ _ | exact inR_le _ _ | exact bitN_le _ _) (fun h5 => ?_) (fun h5 => ?_) | refine R_if_eq a_X11_rests_5 (fun h5 => ?_) (fun h5 => ?_)
  · skip
    have hz : zRests U x y x' y' w = -1 := by
      unfold zRests
      rw [gd_out h5]
    refine R_iconst (v := (-1)) a_X11_rests_48 rfl ?_
    refine R_iret a_X11_rests_49 rfl ?_
    exact ⟨by rw [hz], hC, Fr.rf _ _ _⟩
  · skip
    obtain ⟨i, hi, rfl⟩ := inR_nz (by omega) h5
    refine R_aload_n a_X11_rests_8 rfl ?_
    refine R_iload_n a_X11_rests_9 rfl ?_
    refine R_callVp a_X11_rests_10 hM (md_isThing hM hMT ok) rfl rfl rfl rfl rfl ?_
    first | with_reducible refine R_if_eq_n a_X11_rests_13 (by first | omega | exact Nat.lt_of_le_of_lt (inR_le _ _) (by decide) | exact Nat.lt_of_le_of_lt (bitN_le _ _) (by decide) | exact Nat.lt_of_le_of_lt (inI_le _ _ _) (by decide) | exact inI_le _ _ _ | exact inR_le _ _ | exact bitN_le _ _) (fun h13 => ?_) (fun h13 => ?_) | refine R_if_eq a_X11_rests_13 (fun h13 => ?_) (fun h13 => ?_)
    · skip
      have hz : zRests U (nI i) y x' y' w = -1 := by
        unfold zRests
        rw [gd_in hi (by omega)]
        rcases inR_split x' (g := U.T.g) (by omega) with ⟨q, -⟩ | ⟨-, j, hj, rfl⟩
        · rw [gd_out q]
        · rw [gd_in hj (by omega), gd_out h13, ite_self]
      refine R_iconst (v := (-1)) a_X11_rests_48 rfl ?_
      refine R_iret a_X11_rests_49 rfl ?_
      exact ⟨by rw [hz], hC, Fr.rf _ _ _⟩
    · skip
      obtain ⟨s, hs, rfl⟩ := inR_nz (by omega) h13
      refine R_aload_n a_X11_rests_16 rfl ?_
      refine R_iload_n a_X11_rests_17 rfl ?_
      refine R_callVp a_X11_rests_18 hM (md_isGuest hM hMT ok) rfl rfl rfl rfl rfl ?_
      first | with_reducible refine R_if_eq_n a_X11_rests_21 (by first | omega | exact Nat.lt_of_le_of_lt (inR_le _ _) (by decide) | exact Nat.lt_of_le_of_lt (bitN_le _ _) (by decide) | exact Nat.lt_of_le_of_lt (inI_le _ _ _) (by decide) | exact inI_le _ _ _ | exact inR_le _ _ | exact bitN_le _ _) (fun h21 => ?_) (fun h21 => ?_) | refine R_if_eq a_X11_rests_21 (fun h21 => ?_) (fun h21 => ?_)
      · skip
        have hz : zRests U (nI i) (nI s) x' y' w = -1 := by
          unfold zRests
          rw [gd_in hi (by omega), gd_out h21]
        refine R_iconst (v := (-1)) a_X11_rests_48 rfl ?_
        refine R_iret a_X11_rests_49 rfl ?_
        exact ⟨by rw [hz], hC, Fr.rf _ _ _⟩
      · skip
        obtain ⟨j, hj, rfl⟩ := inR_nz (by omega) h21
        refine R_aload_n a_X11_rests_24 rfl ?_
        refine R_iload a_X11_rests_25 rfl ?_
        refine R_callVp a_X11_rests_27 hM (md_isThing hM hMT ok) rfl rfl rfl rfl rfl ?_
        first | with_reducible refine R_if_eq_n a_X11_rests_30 (by first | omega | exact Nat.lt_of_le_of_lt (inR_le _ _) (by decide) | exact Nat.lt_of_le_of_lt (bitN_le _ _) (by decide) | exact Nat.lt_of_le_of_lt (inI_le _ _ _) (by decide) | exact inI_le _ _ _ | exact inR_le _ _ | exact bitN_le _ _) (fun h30 => ?_) (fun h30 => ?_) | refine R_if_eq a_X11_rests_30 (fun h30 => ?_) (fun h30 => ?_)
        · skip
          have hz : zRests U (nI i) (nI s) (nI j) y' w = -1 := by
            unfold zRests
            rw [gd_in hi (by omega), gd_in hj (by omega), gd_in hs (by omega), gd_out h30, ite_self]
          refine R_iconst (v := (-1)) a_X11_rests_48 rfl ?_
          refine R_iret a_X11_rests_49 rfl ?_
          exact ⟨by rw [hz], hC, Fr.rf _ _ _⟩
        · skip
          obtain ⟨k, hk, rfl⟩ := inR_nz (by omega) h30
          refine R_iload_n a_X11_rests_33 rfl ?_
          refine R_iload_n a_X11_rests_34 rfl ?_
          first | with_reducible refine R_icmp_eq_n a_X11_rests_35 (by first | omega | exact Nat.lt_of_le_of_lt (inR_le _ _) (by decide) | exact Nat.lt_of_le_of_lt (bitN_le _ _) (by decide) | exact Nat.lt_of_le_of_lt (inI_le _ _ _) (by decide) | exact inI_le _ _ _ | exact inR_le _ _ | exact bitN_le _ _) (by first | omega | exact Nat.lt_of_le_of_lt (inR_le _ _) (by decide) | exact Nat.lt_of_le_of_lt (bitN_le _ _) (by decide) | exact Nat.lt_of_le_of_lt (inI_le _ _ _) (by decide) | exact inI_le _ _ _ | exact inR_le _ _ | exact bitN_le _ _) (fun h35 => ?_) (fun h35 => ?_) | refine R_icmp_eq a_X11_rests_35 (fun h35 => ?_) (fun h35 => ?_)
          · skip
            have hz : zRests U (nI i) (nI s) (nI j) (nI k) w = -1 := by
              unfold zRests
              rw [gd_in hi (by omega), gd_in hj (by omega), if_pos h35]
            refine R_iconst (v := (-1)) a_X11_rests_48 rfl ?_
            refine R_iret a_X11_rests_49 rfl ?_
            exact ⟨by rw [hz], hC, Fr.rf _ _ _⟩
          · skip
            have hij : ¬ i = j := h35
            refine R_iload a_X11_rests_38 rfl ?_
            refine R_iconst (v := nI 0) a_X11_rests_40 rfl ?_
            refine R_iconst (v := nI 1) a_X11_rests_41 rfl ?_
            refine R_callSp a_X11_rests_42 md_in rfl rfl rfl rfl rfl ?_
            refine R_top (congrArg nI (inI_c w (n := 1) (by decide))) ?_
            first | with_reducible refine R_if_ne_n a_X11_rests_45 (by first | omega | exact Nat.lt_of_le_of_lt (inR_le _ _) (by decide) | exact Nat.lt_of_le_of_lt (bitN_le _ _) (by decide) | exact Nat.lt_of_le_of_lt (inI_le _ _ _) (by decide) | exact inI_le _ _ _ | exact inR_le _ _ | exact bitN_le _ _) (fun h45 => ?_) (fun h45 => ?_) | refine R_if_ne a_X11_rests_45 (fun h45 => ?_) (fun h45 => ?_)
            · skip
              obtain ⟨c, hc, rfl⟩ := inR_nz (by omega) h45
              have hz : zRests U (nI i) (nI s) (nI j) (nI k) (nI c) = if c = 0 then nI (rsN (okW U.T (saltF U.T U.h) i s j k) 0) else rsF (okW U.T (saltF U.T U.h) i s j k) 0 := by unfold zRests; rw [gd_in hi (by omega), gd_in hj (by omega), if_neg hij, gd_in hs (by omega), gd_in hk (by omega), gd_in hc (by decide)]
              refine R_dian 74 (fun v => v = lcF U.T i s) (fun hJ50 => ?_) (fun v50 e50 => ?_)
              · skip
                refine R_iload_n a_X11_rests_50 rfl ?_
                refine R_iload_n a_X11_rests_51 rfl ?_
                refine R_aload_n a_X11_rests_52 rfl ?_
                refine R_get a_X11_rests_53 hM rfl ?_
                refine R_bipush (v := nI 28) a_X11_rests_56 rfl ?_
                refine R_iald_n a_X11_rests_58 hTo (by first | omega | exact Nat.lt_of_le_of_lt (inR_le _ _) (by decide) | exact Nat.lt_of_le_of_lt (bitN_le _ _) (by decide) | exact Nat.lt_of_le_of_lt (inI_le _ _ _) (by decide) | exact inI_le _ _ _ | exact inR_le _ _ | exact bitN_le _ _) (by decide) ?_
                refine R_top t28 ?_
                refine R_iload_n a_X11_rests_59 rfl ?_
                first | with_reducible refine R_ishr_n a_X11_rests_60 (by first | omega | exact Nat.lt_of_le_of_lt (inR_le _ _) (by decide) | exact Nat.lt_of_le_of_lt (bitN_le _ _) (by decide) | exact Nat.lt_of_le_of_lt (inI_le _ _ _) (by decide) | exact inI_le _ _ _ | exact inR_le _ _ | exact bitN_le _ _) (by first | omega | exact Nat.lt_of_le_of_lt (inR_le _ _) (by decide) | exact Nat.lt_of_le_of_lt (bitN_le _ _) (by decide) | exact Nat.lt_of_le_of_lt (inI_le _ _ _) (by decide) | exact inI_le _ _ _ | exact inR_le _ _ | exact bitN_le _ _) ?_ | refine R_ishr a_X11_rests_60 ?_
                refine R_iconst (v := nI 1) a_X11_rests_61 rfl ?_
                first | with_reducible refine R_iand1 a_X11_rests_62 ?_ | with_reducible refine R_iand_n a_X11_rests_62 ?_ | refine R_iand a_X11_rests_62 ?_
                refine R_if_ne_n (a := bitN U.T.so s) a_X11_rests_63 (Nat.lt_of_le_of_lt (bitN_le _ _) (by decide)) (fun h63 => ?_) (fun h63 => ?_)
                · skip
                  have hlc : sayC i s 0 = lcF U.T i s := by unfold lcF; rw [bit_b h63]
                  refine R_iconst (v := nI 0) a_X11_rests_70 rfl ?_
                  refine R_callSp a_X11_rests_71 (md_saying (by decide)) rfl rfl rfl rfl rfl ?_
                  exact hJ50 _ hlc
                · skip
                  have hlc : sayC i s 1 = lcF U.T i s := by unfold lcF; rw [h63]
                  refine R_iconst (v := nI 1) a_X11_rests_66 rfl ?_
                  refine R_goto a_X11_rests_67 ?_
                  refine R_callSp a_X11_rests_71 (md_saying (by decide)) rfl rfl rfl rfl rfl ?_
                  exact hJ50 _ hlc
              · skip
                subst e50
                refine R_istore (ls' := [_, _, _, _, _, _, _, _, _, _, _, _, _, _]) a_X11_rests_74 rfl rfl rfl ?_
                refine R_dian 102 (fun v => v = lcF U.T j k) (fun hJ76 => ?_) (fun v76 e76 => ?_)
                · skip
                  refine R_iload_n a_X11_rests_76 rfl ?_
                  refine R_iload a_X11_rests_77 rfl ?_
                  refine R_aload_n a_X11_rests_79 rfl ?_
                  refine R_get a_X11_rests_80 hM rfl ?_
                  refine R_bipush (v := nI 28) a_X11_rests_83 rfl ?_
                  refine R_iald_n a_X11_rests_85 hTo (by first | omega | exact Nat.lt_of_le_of_lt (inR_le _ _) (by decide) | exact Nat.lt_of_le_of_lt (bitN_le _ _) (by decide) | exact Nat.lt_of_le_of_lt (inI_le _ _ _) (by decide) | exact inI_le _ _ _ | exact inR_le _ _ | exact bitN_le _ _) (by decide) ?_
                  refine R_top t28 ?_
                  refine R_iload a_X11_rests_86 rfl ?_
                  first | with_reducible refine R_ishr_n a_X11_rests_88 (by first | omega | exact Nat.lt_of_le_of_lt (inR_le _ _) (by decide) | exact Nat.lt_of_le_of_lt (bitN_le _ _) (by decide) | exact Nat.lt_of_le_of_lt (inI_le _ _ _) (by decide) | exact inI_le _ _ _ | exact inR_le _ _ | exact bitN_le _ _) (by first | omega | exact Nat.lt_of_le_of_lt (inR_le _ _) (by decide) | exact Nat.lt_of_le_of_lt (bitN_le _ _) (by decide) | exact Nat.lt_of_le_of_lt (inI_le _ _ _) (by decide) | exact inI_le _ _ _ | exact inR_le _ _ | exact bitN_le _ _) ?_ | refine R_ishr a_X11_rests_88 ?_
                  refine R_iconst (v := nI 1) a_X11_rests_89 rfl ?_
                  first | with_reducible refine R_iand1 a_X11_rests_90 ?_ | with_reducible refine R_iand_n a_X11_rests_90 ?_ | refine R_iand a_X11_rests_90 ?_
                  refine R_if_ne_n (a := bitN U.T.so k) a_X11_rests_91 (Nat.lt_of_le_of_lt (bitN_le _ _) (by decide)) (fun h91 => ?_) (fun h91 => ?_)
                  · skip
                    have hlc : sayC j k 0 = lcF U.T j k := by unfold lcF; rw [bit_b h91]
                    refine R_iconst (v := nI 0) a_X11_rests_98 rfl ?_
                    refine R_callSp a_X11_rests_99 (md_saying (by decide)) rfl rfl rfl rfl rfl ?_
                    exact hJ76 _ hlc
                  · skip
                    have hlc : sayC j k 1 = lcF U.T j k := by unfold lcF; rw [h91]
                    refine R_iconst (v := nI 1) a_X11_rests_94 rfl ?_
                    refine R_goto a_X11_rests_95 ?_
                    refine R_callSp a_X11_rests_99 (md_saying (by decide)) rfl rfl rfl rfl rfl ?_
                    exact hJ76 _ hlc
                · skip
                  subst e76
                  refine R_istore (ls' := [_, _, _, _, _, _, _, _, _, _, _, _, _, _]) a_X11_rests_102 rfl rfl rfl ?_
                  refine R_iconst (v := nI 0) a_X11_rests_104 rfl ?_
                  refine R_istore (ls' := [_, _, _, _, _, _, _, _, _, _, _, _, _, _]) a_X11_rests_105 rfl rfl rfl ?_
                  refine R_bipush (v := (-4)) a_X11_rests_107 rfl ?_
                  refine R_istore (ls' := [_, _, _, _, _, _, _, _, _, _, _, _, _, _]) a_X11_rests_109 rfl rfl rfl ?_
                  refine R_iconst (v := nI 3) a_X11_rests_111 rfl ?_
                  refine R_istore (ls' := [_, _, _, _, _, _, _, _, _, _, _, _, _, _]) a_X11_rests_112 rfl rfl rfl ?_
                  rw [hz]
                  refine Run.eqQ (lp_mrests hM hMT ok hSr hi hs hj hk hij hc _ 4 0 (-4) _ none none none rfl (by decide) rfl rfl rfl) (fun r σ2 hq => ⟨hq.1, ?_⟩)
                  rw [hq.2]
                  exact ⟨hC, Fr.rf _ _ _⟩
            · skip
              have hz : zRests U (nI i) (nI s) (nI j) (nI k) w = -1 := by
                unfold zRests
                rw [gd_in hi (by omega), gd_in hj (by omega), if_neg hij, gd_in hs (by omega), gd_in hk (by omega), gd_out h45]
              refine R_iconst (v := (-1)) a_X11_rests_48 rfl ?_
              refine R_iret a_X11_rests_49 rfl ?_
              exact ⟨by rw [hz], hC, Fr.rf _ _ _⟩

