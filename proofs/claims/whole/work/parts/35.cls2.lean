/-! ===== SaltToLiars: the public methods that write ===== -/
theorem RdOk.one {T : Tb} {w tp sd : Nat → Nat} {i t b x1 x2 x3 x4 : Nat} (hi : i < T.g) (ht : t < T.n) (hb : b ≤ 1) : RdOk T (0 + 1, uN w 0 i, uN tp 0 t, uN sd 0 b, x1, x2, x3, x4) := by
  refine ⟨by show 0 + 1 ≤ 2; decide, fun q hq => ?_⟩
  have hq1 : q < 0 + 1 := hq
  have hq0 : q = 0 := by omega
  subst hq0
  exact ⟨hi, ht, hb⟩
theorem RdOk.two {T : Tb} {w tp sd : Nat → Nat} {i t b i' t' b' x1 x2 x3 x4 : Nat} (hi : i < T.g) (ht : t < T.n) (hb : b ≤ 1) (hi' : i' < T.g) (ht' : t' < T.n) (hb' : b' ≤ 1) : RdOk T (0 + 1 + 1, uN (uN w 0 i) (0 + 1) i', uN (uN tp 0 t) (0 + 1) t', uN (uN sd 0 b) (0 + 1) b', x1, x2, x3, x4) := by
  refine ⟨by show 0 + 1 + 1 ≤ 2; decide, fun q hq => ?_⟩
  have hq1 : q < 0 + 1 + 1 := hq
  rcases (show q = 0 ∨ q = 1 by omega) with rfl | rfl
  · exact ⟨hi, ht, hb⟩
  · exact ⟨hi', ht', hb'⟩
theorem CP.ofW {σ σ' : AHp} {U : Us} (h : CP σ U) (hn : CW σ') (hk : ∀ j, j < 232 ∨ 232 + 6 ≤ j → σ' j = σ j) : CP σ' U := by
  obtain ⟨t, d, htd, hO, hL, hR, hV, hK, hW, hA, hPc, hS, hF, hT, hD⟩ := h
  have htd' := htd
  unfold TD at htd'
  exact ⟨t, d, htd, (hk _ (by omega)).trans hO, hL.kept (fun j a b => hk j (by omega)), hR.kept (fun j a b => hk j (by omega)), hV.kept (fun j a b => hk j (by omega)), hK.kept (fun j a b => hk j (by omega)), hn, hA.kept (fun j a b => hk j (by omega)), hPc.kept (fun j a b => hk j (by omega)), hS.kept (fun j a b => hk j (by omega)), hF.kept (fun j a b => hk j (by omega)), hT.kept (fun j a b => hk j (by omega)), hD.kept (fun j a b => hk j (by omega))⟩
theorem CP.ofA {σ σ' : AHp} {U : Us} (h : CP σ U) (hn : CA σ') (hk : ∀ j, j < 238 ∨ 238 + 7 ≤ j → σ' j = σ j) : CP σ' U := by
  obtain ⟨t, d, htd, hO, hL, hR, hV, hK, hW, hA, hPc, hS, hF, hT, hD⟩ := h
  have htd' := htd
  unfold TD at htd'
  exact ⟨t, d, htd, (hk _ (by omega)).trans hO, hL.kept (fun j a b => hk j (by omega)), hR.kept (fun j a b => hk j (by omega)), hV.kept (fun j a b => hk j (by omega)), hK.kept (fun j a b => hk j (by omega)), hW.kept (fun j a b => hk j (by omega)), hn, hPc.kept (fun j a b => hk j (by omega)), hS.kept (fun j a b => hk j (by omega)), hF.kept (fun j a b => hk j (by omega)), hT.kept (fun j a b => hk j (by omega)), hD.kept (fun j a b => hk j (by omega))⟩
theorem CP.ofT {σ σ' : AHp} {U : Us} (h : CP σ U) (hn : CT σ') (hk : ∀ j, j < 245 ∨ 245 + 9 ≤ j → σ' j = σ j) : CP σ' U := by
  obtain ⟨t, d, htd, hO, hL, hR, hV, hK, hW, hA, hPc, hS, hF, hT, hD⟩ := h
  have htd' := htd
  unfold TD at htd'
  exact ⟨t, d, htd, (hk _ (by omega)).trans hO, hL.kept (fun j a b => hk j (by omega)), hR.kept (fun j a b => hk j (by omega)), hV.kept (fun j a b => hk j (by omega)), hK.kept (fun j a b => hk j (by omega)), hW.kept (fun j a b => hk j (by omega)), hA.kept (fun j a b => hk j (by omega)), hn, hS.kept (fun j a b => hk j (by omega)), hF.kept (fun j a b => hk j (by omega)), hT.kept (fun j a b => hk j (by omega)), hD.kept (fun j a b => hk j (by omega))⟩
theorem CP.ofF {σ σ' : AHp} {U : Us} (h : CP σ U) (hn : CF σ') (hk : ∀ j, j < 257 ∨ 257 + 5 ≤ j → σ' j = σ j) : CP σ' U := by
  obtain ⟨t, d, htd, hO, hL, hR, hV, hK, hW, hA, hPc, hS, hF, hT, hD⟩ := h
  have htd' := htd
  unfold TD at htd'
  exact ⟨t, d, htd, (hk _ (by omega)).trans hO, hL.kept (fun j a b => hk j (by omega)), hR.kept (fun j a b => hk j (by omega)), hV.kept (fun j a b => hk j (by omega)), hK.kept (fun j a b => hk j (by omega)), hW.kept (fun j a b => hk j (by omega)), hA.kept (fun j a b => hk j (by omega)), hPc.kept (fun j a b => hk j (by omega)), hS.kept (fun j a b => hk j (by omega)), hn, hT.kept (fun j a b => hk j (by omega)), hD.kept (fun j a b => hk j (by omega))⟩
theorem CP.ofL {σ σ' : AHp} {U : Us} (h : CP σ U) {f : Nat → Nat} {n : Nat} (hn : LtP σ' f n) (hk : ∀ j, j < 2 ∨ 2 + 2 ≤ j → σ' j = σ j) : CP σ' (f, n, U.2.2) := by
  obtain ⟨t, d, htd, hO, hL, hR, hV, hK, hW, hA, hPc, hS, hF, hT, hD⟩ := h
  have htd' := htd
  unfold TD at htd'
  exact ⟨t, d, htd, (hk _ (by omega)).trans hO, hn, hR.kept (fun j a b => hk j (by omega)), hV.kept (fun j a b => hk j (by omega)), hK.kept (fun j a b => hk j (by omega)), hW.kept (fun j a b => hk j (by omega)), hA.kept (fun j a b => hk j (by omega)), hPc.kept (fun j a b => hk j (by omega)), hS.kept (fun j a b => hk j (by omega)), hF.kept (fun j a b => hk j (by omega)), hT.kept (fun j a b => hk j (by omega)), hD.kept (fun j a b => hk j (by omega))⟩
theorem CP.ofV {σ σ' : AHp} {U : Us} (h : CP σ U) {g : Hs} {v : Nat} (hn : CVe σ' U.T g v) (hk : ∀ j, j < 6 ∨ 6 + 75 ≤ j → σ' j = σ j) : CP σ' (U.tf, U.tl, U.T, U.D, g, v, U.2.2.2.2.2.2) := by
  obtain ⟨t, d, htd, hO, hL, hR, hV, hK, hW, hA, hPc, hS, hF, hT, hD⟩ := h
  have htd' := htd
  unfold TD at htd'
  exact ⟨t, d, htd, (hk _ (by omega)).trans hO, hL.kept (fun j a b => hk j (by omega)), hR.kept (fun j a b => hk j (by omega)), hn, hK.kept (fun j a b => hk j (by omega)), hW.kept (fun j a b => hk j (by omega)), hA.kept (fun j a b => hk j (by omega)), hPc.kept (fun j a b => hk j (by omega)), hS.kept (fun j a b => hk j (by omega)), hF.kept (fun j a b => hk j (by omega)), hT.kept (fun j a b => hk j (by omega)), hD.kept (fun j a b => hk j (by omega))⟩
theorem CP.ofS {σ σ' : AHp} {U : Us} (h : CP σ U) {n : Nat} {w s : Nat → Nat} (hn : SyR σ' n w s) (hk : ∀ j, j < 254 ∨ 254 + 3 ≤ j → σ' j = σ j) : CP σ' (U.tf, U.tl, U.T, U.D, U.h, U.u, U.kp, U.kn, n, w, s) := by
  obtain ⟨t, d, htd, hO, hL, hR, hV, hK, hW, hA, hPc, hS, hF, hT, hD⟩ := h
  have htd' := htd
  unfold TD at htd'
  exact ⟨t, d, htd, (hk _ (by omega)).trans hO, hL.kept (fun j a b => hk j (by omega)), hR.kept (fun j a b => hk j (by omega)), hV.kept (fun j a b => hk j (by omega)), hK.kept (fun j a b => hk j (by omega)), hW.kept (fun j a b => hk j (by omega)), hA.kept (fun j a b => hk j (by omega)), hPc.kept (fun j a b => hk j (by omega)), hn, hF.kept (fun j a b => hk j (by omega)), hT.kept (fun j a b => hk j (by omega)), hD.kept (fun j a b => hk j (by omega))⟩
set_option maxRecDepth 20000 in
theorem cl_fits {σ0 : AHp} {U : Us} {m : Nat} (hC : CP σ0 U) (hU : UOk U m) (hm : m < 2 ^ 20) {w : Int32} : EvW M_X10_fits [.ref 1, .int w] σ0 (some (.int (zFits U w))) (fun σ => CP σ (U) ∧ Fr σ0 σ 1 271) := by
  obtain ⟨t, d, htd, hO, hL, hR, hV, hK, hW, hA, hPc, hS, hF, hTP, hDP⟩ := id hC
  have htd' := htd
  unfold TD at htd'
  obtain ⟨V, hE, hVH⟩ := id hV
  obtain ⟨he0, hEo, hEl, hEg, hEr⟩ := id hE
  obtain ⟨hL1, hL2, hL3⟩ := id hL
  obtain ⟨hS1, hS2, hS3, hS4⟩ := id hS
  obtain ⟨ht0, hT, hTk, hTh, hTn, hTf⟩ := id hTP
  have ok := hU.T
  obtain ⟨g3, g8, n1, n6, lw, stg, son, kd4, hn10, kn63, hf4⟩ := id ok
  obtain ⟨v1, v2, v3, v4, v5, v6, v7, v8⟩ := id hVH
  have hlen := hU.len
  have hu8 := hU.u8
  have hul := hU.ul
  have hkn2 := hU.kn2
  have hsg := saltF_lt ok U.h
  have hn64 : 2 ^ U.T.n ≤ 2 ^ 6 := Nat.pow_le_pow_right (by decide) n6
  have hg256 : 2 ^ U.T.g ≤ 2 ^ 8 := Nat.pow_le_pow_right (by decide) g8
  obtain ⟨wa, wlo, wal, wne, wqu, wwo, wg, wR, hWR⟩ := id hW
  obtain ⟨hW1, -, -⟩ := id hWR
  have hnf : nfK (explF U.T U.h U.T.law) (2 ^ U.T.n) ≤ 2 ^ U.T.n := nfK_le U.P (2 ^ U.T.n)
  have hnf2 : U.nf ≤ 2 ^ U.T.n := nfK_le U.P (2 ^ U.T.n)
  refine Ev.of (ls := [_, _]) 0 (by decide) rfl rfl ?_
  refine R_iload_n a_X10_fits_0 rfl ?_
  refine R_if_lt a_X10_fits_1 (fun h1 => ?_) (fun h1 => ?_)
  · skip
    have hz : zFits U w = -1 := by unfold zFits; rw [gd_out (inR_0a h1)]
    refine R_iconst (v := (-1)) a_X10_fits_9 rfl ?_
    refine R_iret a_X10_fits_10 rfl ?_
    exact ⟨by rw [hz], hC, Fr.rf _ _ _⟩
  · skip
    refine R_iload_n a_X10_fits_4 rfl ?_
    refine R_iconst (v := nI 1) a_X10_fits_5 rfl ?_
    refine R_icmp_le a_X10_fits_6 (fun h6 => ?_) (fun h6 => ?_)
    · skip
      obtain ⟨c, hc, rfl⟩ := le_in (n := 1) (by decide) h1 (Int32.not_lt.mpr h6)
      refine R_aload_n a_X10_fits_11 rfl ?_
      refine R_get a_X10_fits_12 hO rfl ?_
      refine R_aload_n a_X10_fits_15 rfl ?_
      refine R_get a_X10_fits_16 hO rfl ?_
      refine R_aload_n a_X10_fits_19 rfl ?_
      refine R_get a_X10_fits_20 hO rfl ?_
      refine R_callVv a_X10_fits_23 hW1 (ev_sift hTP ok hE hVH (by omega) (by omega) (by omega) hWR) rfl rfl rfl rfl rfl (fun σ hP => ?_)
      obtain ⟨⟨g', R', hWn, hgw⟩, hf⟩ := hP
      have hO := (hf 1 (by omega)).trans hO
      have hT := (hf t (by omega)).trans hT
      have hEo := (hf 6 (by omega)).trans hEo
      have hC1 := hC.ofW ⟨_, _, _, _, _, _, _, _, hWn⟩ hf
      obtain ⟨hW1, hW2, hW3⟩ := id hWn
      have hfr : Fr σ0 σ 1 271 := hf.wide (by omega) (by omega)
      refine R_iload_n a_X10_fits_26 rfl ?_
      first | with_reducible refine R_if_ne_n a_X10_fits_27 (by first | omega | exact Nat.lt_of_le_of_lt (inR_le _ _) (by decide) | exact Nat.lt_of_le_of_lt (bitN_le _ _) (by decide)) (fun h27 => ?_) (fun h27 => ?_) | refine R_if_ne a_X10_fits_27 (fun h27 => ?_) (fun h27 => ?_)
      · skip
        have hz : zFits U (nI c) = lowI (loK U.P (2 ^ U.T.n)) := by unfold zFits; rw [gd_in hc (by decide), if_neg h27]
        refine R_aload_n a_X10_fits_40 rfl ?_
        refine R_get a_X10_fits_41 hO rfl ?_
        refine R_get a_X10_fits_44 hW1 rfl ?_
        refine R_iret a_X10_fits_47 rfl ?_
        exact ⟨by rw [hz], hC1, hfr⟩
      · skip
        have hz : zFits U (nI c) = nI U.nf := by unfold zFits; rw [gd_in hc (by decide), if_pos h27]
        refine R_aload_n a_X10_fits_30 rfl ?_
        refine R_get a_X10_fits_31 hO rfl ?_
        refine R_get a_X10_fits_34 hW1 rfl ?_
        refine R_goto a_X10_fits_37 ?_
        refine R_iret a_X10_fits_47 rfl ?_
        exact ⟨by rw [hz], hC1, hfr⟩
    · skip
      have hz : zFits U w = -1 := by unfold zFits; rw [gd_out (gt_out (by decide) (Int32.not_le.mp h6))]
      refine R_iconst (v := (-1)) a_X10_fits_9 rfl ?_
      refine R_iret a_X10_fits_10 rfl ?_
      exact ⟨by rw [hz], hC, Fr.rf _ _ _⟩

set_option maxRecDepth 20000 in
theorem cl_sure {σ0 : AHp} {U : Us} {m : Nat} (hC : CP σ0 U) (hU : UOk U m) (hm : m < 2 ^ 20) {b : Nat} (hb : b ≤ 1) : EvW M_X10_sure [.ref 1, .int (nI b)] σ0 (some (.int (zSure U b))) (fun σ => CP σ (U) ∧ Fr σ0 σ 1 271) := by
  obtain ⟨t, d, htd, hO, hL, hR, hV, hK, hW, hA, hPc, hS, hF, hTP, hDP⟩ := id hC
  have htd' := htd
  unfold TD at htd'
  obtain ⟨V, hE, hVH⟩ := id hV
  obtain ⟨he0, hEo, hEl, hEg, hEr⟩ := id hE
  obtain ⟨hL1, hL2, hL3⟩ := id hL
  obtain ⟨hS1, hS2, hS3, hS4⟩ := id hS
  obtain ⟨ht0, hT, hTk, hTh, hTn, hTf⟩ := id hTP
  have ok := hU.T
  obtain ⟨g3, g8, n1, n6, lw, stg, son, kd4, hn10, kn63, hf4⟩ := id ok
  obtain ⟨v1, v2, v3, v4, v5, v6, v7, v8⟩ := id hVH
  have hlen := hU.len
  have hu8 := hU.u8
  have hul := hU.ul
  have hkn2 := hU.kn2
  have hsg := saltF_lt ok U.h
  have hn64 : 2 ^ U.T.n ≤ 2 ^ 6 := Nat.pow_le_pow_right (by decide) n6
  have hg256 : 2 ^ U.T.g ≤ 2 ^ 8 := Nat.pow_le_pow_right (by decide) g8
  obtain ⟨wa, wlo, wal, wne, wqu, wwo, wg, wR, hWR⟩ := id hW
  obtain ⟨hW1, -, -⟩ := id hWR
  have hnf : nfK (explF U.T U.h U.T.law) (2 ^ U.T.n) ≤ 2 ^ U.T.n := nfK_le U.P (2 ^ U.T.n)
  have hnf2 : U.nf ≤ 2 ^ U.T.n := nfK_le U.P (2 ^ U.T.n)
  refine Ev.of (ls := [_, _]) 0 (by decide) rfl rfl ?_
  refine R_aload_n a_X10_sure_0 rfl ?_
  refine R_get a_X10_sure_1 hO rfl ?_
  refine R_aload_n a_X10_sure_4 rfl ?_
  refine R_get a_X10_sure_5 hO rfl ?_
  refine R_aload_n a_X10_sure_8 rfl ?_
  refine R_get a_X10_sure_9 hO rfl ?_
  refine R_callVv a_X10_sure_12 hW1 (ev_sift hTP ok hE hVH (by omega) (by omega) (by omega) hWR) rfl rfl rfl rfl rfl (fun σ hP => ?_)
  obtain ⟨⟨g', R', hWn, hgw⟩, hf⟩ := hP
  have hO := (hf 1 (by omega)).trans hO
  have hT := (hf t (by omega)).trans hT
  have hEo := (hf 6 (by omega)).trans hEo
  have hC1 := hC.ofW ⟨_, _, _, _, _, _, _, _, hWn⟩ hf
  obtain ⟨hW1, hW2, hW3⟩ := id hWn
  have hfr : Fr σ0 σ 1 271 := hf.wide (by omega) (by omega)
  refine R_aload_n a_X10_sure_15 rfl ?_
  refine R_get a_X10_sure_16 hO rfl ?_
  refine R_get a_X10_sure_19 hW1 rfl ?_
  first | with_reducible refine R_if_ne_n a_X10_sure_22 (by first | omega | exact Nat.lt_of_le_of_lt (inR_le _ _) (by decide) | exact Nat.lt_of_le_of_lt (bitN_le _ _) (by decide)) (fun h22 => ?_) (fun h22 => ?_) | refine R_if_ne a_X10_sure_22 (fun h22 => ?_) (fun h22 => ?_)
  · skip
    refine R_iload_n a_X10_sure_28 rfl ?_
    first | with_reducible refine R_if_eq_n a_X10_sure_29 (by first | omega | exact Nat.lt_of_le_of_lt (inR_le _ _) (by decide) | exact Nat.lt_of_le_of_lt (bitN_le _ _) (by decide)) (fun h29 => ?_) (fun h29 => ?_) | refine R_if_eq a_X10_sure_29 (fun h29 => ?_) (fun h29 => ?_)
    · skip
      have hz : zSure U b = nI (neK U.P (2 ^ U.T.n - 1) (2 ^ U.T.n)) := by unfold zSure; rw [if_neg h22, if_pos h29]
      refine R_aload_n a_X10_sure_42 rfl ?_
      refine R_get a_X10_sure_43 hO rfl ?_
      refine R_get a_X10_sure_46 hW1 rfl ?_
      refine R_iret a_X10_sure_49 rfl ?_
      exact ⟨by rw [hz], hC1, hfr⟩
    · skip
      have hz : zSure U b = nI (alK U.P (2 ^ U.T.n - 1) (2 ^ U.T.n)) := by unfold zSure; rw [if_neg h22, if_neg h29]
      refine R_aload_n a_X10_sure_32 rfl ?_
      refine R_get a_X10_sure_33 hO rfl ?_
      refine R_get a_X10_sure_36 hW1 rfl ?_
      refine R_goto a_X10_sure_39 ?_
      refine R_iret a_X10_sure_49 rfl ?_
      exact ⟨by rw [hz], hC1, hfr⟩
  · skip
    have hz : zSure U b = -4 := by unfold zSure; rw [if_pos h22]
    refine R_bipush (v := (-4)) a_X10_sure_25 rfl ?_
    refine R_iret a_X10_sure_27 rfl ?_
    exact ⟨by rw [hz], hC1, hfr⟩

theorem maF_congr {T : Tb} {a s i t : Nat} {g g' : Nat → Nat} (h : g t = g' t) : maF T a g s i t = maF T a g' s i t := by unfold maF; rw [h]
theorem qIn_congr {ma ma' : Nat → Nat → Nat} {i : Nat} : ∀ (n : Nat) (x : Int32 × Nat), (∀ t, t < n → ma i t = ma' i t) → qIn ma i n x = qIn ma' i n x := by
  intro n
  induction n with
  | zero => intro x _; rfl
  | succ n ih =>
    intro x h
    simp only [qIn]
    rw [ih x (fun t ht => h t (by omega)), h n (by omega)]
theorem qOut_congr {ma ma' : Nat → Nat → Nat} {n : Nat} (h : ∀ i t, t < n → ma i t = ma' i t) : ∀ (g : Nat) (x : Int32 × Nat), qOut ma n g x = qOut ma' n g x := by
  intro g
  induction g with
  | zero => intro x; rfl
  | succ g ih =>
    intro x
    simp only [qOut]
    rw [ih x]
    exact qIn_congr _ _ (fun t ht => h g t ht)
set_option maxRecDepth 20000 in
theorem cl_ask {σ0 : AHp} {U : Us} {m : Nat} (hC : CP σ0 U) (hU : UOk U m) (hm : m < 2 ^ 20) {w : Int32} : EvW M_X10_ask [.ref 1, .int w] σ0 (some (.int (zAsk U w))) (fun σ => CP σ (U) ∧ Fr σ0 σ 1 271) := by
  obtain ⟨t, d, htd, hO, hL, hR, hV, hK, hW, hA, hPc, hS, hF, hTP, hDP⟩ := id hC
  have htd' := htd
  unfold TD at htd'
  obtain ⟨V, hE, hVH⟩ := id hV
  obtain ⟨he0, hEo, hEl, hEg, hEr⟩ := id hE
  obtain ⟨hL1, hL2, hL3⟩ := id hL
  obtain ⟨hS1, hS2, hS3, hS4⟩ := id hS
  obtain ⟨ht0, hT, hTk, hTh, hTn, hTf⟩ := id hTP
  have ok := hU.T
  obtain ⟨g3, g8, n1, n6, lw, stg, son, kd4, hn10, kn63, hf4⟩ := id ok
  obtain ⟨v1, v2, v3, v4, v5, v6, v7, v8⟩ := id hVH
  have hlen := hU.len
  have hu8 := hU.u8
  have hul := hU.ul
  have hkn2 := hU.kn2
  have hsg := saltF_lt ok U.h
  have hn64 : 2 ^ U.T.n ≤ 2 ^ 6 := Nat.pow_le_pow_right (by decide) n6
  have hg256 : 2 ^ U.T.g ≤ 2 ^ 8 := Nat.pow_le_pow_right (by decide) g8
  obtain ⟨wa, wlo, wal, wne, wqu, wwo, wg, wR, hWR⟩ := id hW
  obtain ⟨hW1, -, -⟩ := id hWR
  have hnf : nfK (explF U.T U.h U.T.law) (2 ^ U.T.n) ≤ 2 ^ U.T.n := nfK_le U.P (2 ^ U.T.n)
  have hnf2 : U.nf ≤ 2 ^ U.T.n := nfK_le U.P (2 ^ U.T.n)
  refine Ev.of (ls := [_, _]) 0 (by decide) rfl rfl ?_
  refine R_iload_n a_X10_ask_0 rfl ?_
  refine R_if_lt a_X10_ask_1 (fun h1 => ?_) (fun h1 => ?_)
  · skip
    have hz : zAsk U w = -1 := by unfold zAsk; rw [gd_out (inR_0a h1)]
    refine R_iconst (v := (-1)) a_X10_ask_9 rfl ?_
    refine R_iret a_X10_ask_10 rfl ?_
    exact ⟨by rw [hz], hC, Fr.rf _ _ _⟩
  · skip
    refine R_iload_n a_X10_ask_4 rfl ?_
    refine R_iconst (v := nI 1) a_X10_ask_5 rfl ?_
    refine R_icmp_le a_X10_ask_6 (fun h6 => ?_) (fun h6 => ?_)
    · skip
      obtain ⟨c, hc, rfl⟩ := le_in (n := 1) (by decide) h1 (Int32.not_lt.mpr h6)
      refine R_aload_n a_X10_ask_11 rfl ?_
      refine R_get a_X10_ask_12 hO rfl ?_
      refine R_aload_n a_X10_ask_15 rfl ?_
      refine R_get a_X10_ask_16 hO rfl ?_
      refine R_aload_n a_X10_ask_19 rfl ?_
      refine R_get a_X10_ask_20 hO rfl ?_
      refine R_callVv a_X10_ask_23 hW1 (ev_sift hTP ok hE hVH (by omega) (by omega) (by omega) hWR) rfl rfl rfl rfl rfl (fun σ hP => ?_)
      obtain ⟨⟨g', R', hWn, hgw⟩, hf⟩ := hP
      have hO := (hf 1 (by omega)).trans hO
      have hT := (hf t (by omega)).trans hT
      have hEo := (hf 6 (by omega)).trans hEo
      have hC1 := hC.ofW ⟨_, _, _, _, _, _, _, _, hWn⟩ hf
      obtain ⟨hW1, hW2, hW3⟩ := id hWn
      have hfr : Fr σ0 σ 1 271 := hf.wide (by omega) (by omega)
      have hTP := hTP.fr hf (by omega)
      have hf0 := hf
      refine R_aload_n a_X10_ask_26 rfl ?_
      refine R_get a_X10_ask_27 hO rfl ?_
      refine R_get a_X10_ask_30 hW1 rfl ?_
      first | with_reducible refine R_if_ne_n a_X10_ask_33 (by first | omega | exact Nat.lt_of_le_of_lt (inR_le _ _) (by decide) | exact Nat.lt_of_le_of_lt (bitN_le _ _) (by decide)) (fun h33 => ?_) (fun h33 => ?_) | refine R_if_ne a_X10_ask_33 (fun h33 => ?_) (fun h33 => ?_)
      · skip
        refine R_aload_n a_X10_ask_39 rfl ?_
        refine R_get a_X10_ask_40 hO rfl ?_
        refine R_aload_n a_X10_ask_43 rfl ?_
        refine R_get a_X10_ask_44 hO rfl ?_
        refine R_aload_n a_X10_ask_47 rfl ?_
        refine R_get a_X10_ask_48 hO rfl ?_
        refine R_get a_X10_ask_51 hEo rfl ?_
        refine R_callVv a_X10_ask_54 hW1 (ev_findQuestion hTP ok (by omega) (show U.nf < 2 ^ 20 by omega) (fun k hk => by rw [hgw k hk]; exact wsK_le _ _ _) (show V.sa < U.T.g by rw [v1]; exact hsg) hWn) rfl rfl rfl rfl rfl (fun σ hP => ?_)
        obtain ⟨⟨R2, hWm⟩, hf2⟩ := hP
        have hO := (hf2 1 (by omega)).trans hO
        have hC1 := hC1.ofW ⟨_, _, _, _, _, _, _, _, hWm⟩ hf2
        have hfr : Fr σ0 σ 1 271 := hfr.trans (hf2.wide (by omega) (by omega))
        have hq : qOut (maF U.T U.nf g' V.sa) U.T.n U.T.g (-4, U.nf + 1) = qU U := by
          unfold qU
          rw [v1]
          exact qOut_congr (fun i k hk => maF_congr (hgw k hk)) _ _
        rw [hq] at hWm
        obtain ⟨hW1, hW2, hW3⟩ := id hWm
        refine R_iload_n a_X10_ask_57 rfl ?_
        first | with_reducible refine R_if_ne_n a_X10_ask_58 (by first | omega | exact Nat.lt_of_le_of_lt (inR_le _ _) (by decide) | exact Nat.lt_of_le_of_lt (bitN_le _ _) (by decide)) (fun h58 => ?_) (fun h58 => ?_) | refine R_if_ne a_X10_ask_58 (fun h58 => ?_) (fun h58 => ?_)
        · skip
          have hz : zAsk U (nI c) = nI (qU U).2 := by unfold zAsk; rw [gd_in hc (by decide), if_neg h33, if_neg h58]
          refine R_aload_n a_X10_ask_71 rfl ?_
          refine R_get a_X10_ask_72 hO rfl ?_
          refine R_get a_X10_ask_75 hW1 rfl ?_
          refine R_iret a_X10_ask_78 rfl ?_
          exact ⟨by rw [hz], hC1, hfr⟩
        · skip
          have hz : zAsk U (nI c) = (qU U).1 := by unfold zAsk; rw [gd_in hc (by decide), if_neg h33, if_pos h58]
          refine R_aload_n a_X10_ask_61 rfl ?_
          refine R_get a_X10_ask_62 hO rfl ?_
          refine R_get a_X10_ask_65 hW1 rfl ?_
          refine R_goto a_X10_ask_68 ?_
          refine R_iret a_X10_ask_78 rfl ?_
          exact ⟨by rw [hz], hC1, hfr⟩
      · skip
        have hz : zAsk U (nI c) = -4 := by unfold zAsk; rw [gd_in hc (by decide), if_pos h33]
        refine R_bipush (v := (-4)) a_X10_ask_36 rfl ?_
        refine R_iret a_X10_ask_38 rfl ?_
        exact ⟨by rw [hz], hC1, hfr⟩
    · skip
      have hz : zAsk U w = -1 := by unfold zAsk; rw [gd_out (gt_out (by decide) (Int32.not_le.mp h6))]
      refine R_iconst (v := (-1)) a_X10_ask_9 rfl ?_
      refine R_iret a_X10_ask_10 rfl ?_
      exact ⟨by rw [hz], hC, Fr.rf _ _ _⟩

set_option maxRecDepth 20000 in
theorem cl_dinner {σ0 : AHp} {U : Us} {m : Nat} (hC : CP σ0 U) (hU : UOk U m) (hm : m < 2 ^ 20) {x y w : Int32} : EvW M_X10_dinner [.ref 1, .int x, .int y, .int w] σ0 (some (.int (zDinner U x y w))) (fun σ => CP σ (U) ∧ Fr σ0 σ 1 271) := by
  obtain ⟨t, d, htd, hO, hL, hR, hV, hK, hW, hA, hPc, hS, hF, hTP, hDP⟩ := id hC
  have htd' := htd
  unfold TD at htd'
  obtain ⟨V, hE, hVH⟩ := id hV
  obtain ⟨he0, hEo, hEl, hEg, hEr⟩ := id hE
  obtain ⟨hL1, hL2, hL3⟩ := id hL
  obtain ⟨hS1, hS2, hS3, hS4⟩ := id hS
  obtain ⟨ht0, hT, hTk, hTh, hTn, hTf⟩ := id hTP
  have ok := hU.T
  obtain ⟨g3, g8, n1, n6, lw, stg, son, kd4, hn10, kn63, hf4⟩ := id ok
  obtain ⟨v1, v2, v3, v4, v5, v6, v7, v8⟩ := id hVH
  have hlen := hU.len
  have hu8 := hU.u8
  have hul := hU.ul
  have hkn2 := hU.kn2
  have hsg := saltF_lt ok U.h
  have hn64 : 2 ^ U.T.n ≤ 2 ^ 6 := Nat.pow_le_pow_right (by decide) n6
  have hg256 : 2 ^ U.T.g ≤ 2 ^ 8 := Nat.pow_le_pow_right (by decide) g8
  obtain ⟨fs_, fu_, fR, hFs⟩ := id hF
  obtain ⟨hF1, -⟩ := id hFs
  refine Ev.of (ls := [_, _, _, _]) 0 (by decide) rfl rfl ?_
  refine R_iload_n a_X10_dinner_0 rfl ?_
  refine R_if_lt a_X10_dinner_1 (fun h1 => ?_) (fun h1 => ?_)
  · skip
    have hz : zDinner U x y w = -1 := by unfold zDinner; rw [gd_out (inR_0a h1)]
    refine R_iconst (v := (-1)) a_X10_dinner_31 rfl ?_
    refine R_iret a_X10_dinner_32 rfl ?_
    exact ⟨by rw [hz], hC, Fr.rf _ _ _⟩
  · skip
    refine R_iload_n a_X10_dinner_4 rfl ?_
    refine R_sipush (v := nI 9999) a_X10_dinner_5 rfl ?_
    refine R_icmp_gt a_X10_dinner_8 (fun h8 => ?_) (fun h8 => ?_)
    · skip
      have hz : zDinner U x y w = -1 := by unfold zDinner; rw [gd_out (gt_out (n := 9999) (by decide) h8)]
      refine R_iconst (v := (-1)) a_X10_dinner_31 rfl ?_
      refine R_iret a_X10_dinner_32 rfl ?_
      exact ⟨by rw [hz], hC, Fr.rf _ _ _⟩
    · skip
      obtain ⟨z, hz9, rfl⟩ := le_in (n := 9999) (by decide) h1 h8
      refine R_iload_n a_X10_dinner_11 rfl ?_
      refine R_iconst (v := nI 1) a_X10_dinner_12 rfl ?_
      refine R_icmp_lt a_X10_dinner_13 (fun h13 => ?_) (fun h13 => ?_)
      · skip
        have hz : zDinner U (nI z) y w = -1 := by
          unfold zDinner
          rw [gd_in hz9 (by decide)]
          rcases inR_split y (g := 61) (by decide) with ⟨q, -⟩ | ⟨-, k, hk, rfl⟩
          · rw [gd_out q]
          · rw [gd_in hk (by decide), if_pos (by have := (nI_ltI (b := 1) (by omega) (by decide)).mp h13; omega)]
        refine R_iconst (v := (-1)) a_X10_dinner_31 rfl ?_
        refine R_iret a_X10_dinner_32 rfl ?_
        exact ⟨by rw [hz], hC, Fr.rf _ _ _⟩
      · skip
        refine R_iload_n a_X10_dinner_16 rfl ?_
        refine R_bipush (v := nI 60) a_X10_dinner_17 rfl ?_
        refine R_icmp_gt a_X10_dinner_19 (fun h19 => ?_) (fun h19 => ?_)
        · skip
          have hz : zDinner U (nI z) y w = -1 := by unfold zDinner; rw [gd_in hz9 (by decide), gd_out (gt_out (n := 60) (by decide) h19)]
          refine R_iconst (v := (-1)) a_X10_dinner_31 rfl ?_
          refine R_iret a_X10_dinner_32 rfl ?_
          exact ⟨by rw [hz], hC, Fr.rf _ _ _⟩
        · skip
          have hy0 : ¬ y < 0 := fun q => h13 (Int32.lt_trans q (by decide))
          obtain ⟨k, hk, rfl⟩ := le_in (n := 60) (by decide) hy0 h19
          have hk0 : ¬ k = 0 := fun q => h13 (by subst q; decide)
          refine R_iload_n a_X10_dinner_22 rfl ?_
          refine R_if_lt a_X10_dinner_23 (fun h23 => ?_) (fun h23 => ?_)
          · skip
            have hz : zDinner U (nI z) (nI k) w = -1 := by unfold zDinner; rw [gd_in hz9 (by decide), gd_in hk (by decide), if_neg hk0, gd_out (inR_0a h23)]
            refine R_iconst (v := (-1)) a_X10_dinner_31 rfl ?_
            refine R_iret a_X10_dinner_32 rfl ?_
            exact ⟨by rw [hz], hC, Fr.rf _ _ _⟩
          · skip
            refine R_iload_n a_X10_dinner_26 rfl ?_
            refine R_iconst (v := nI 1) a_X10_dinner_27 rfl ?_
            refine R_icmp_le a_X10_dinner_28 (fun h28 => ?_) (fun h28 => ?_)
            · skip
              obtain ⟨c, hc, rfl⟩ := le_in (n := 1) (by decide) h23 (Int32.not_lt.mpr h28)
              refine R_aload_n a_X10_dinner_33 rfl ?_
              refine R_get a_X10_dinner_34 hO rfl ?_
              refine R_aload_n a_X10_dinner_37 rfl ?_
              refine R_get a_X10_dinner_38 hO rfl ?_
              refine R_aload_n a_X10_dinner_41 rfl ?_
              refine R_get a_X10_dinner_42 hO rfl ?_
              refine R_get a_X10_dinner_45 hEo rfl ?_
              refine R_iload_n a_X10_dinner_48 rfl ?_
              refine R_iload_n a_X10_dinner_49 rfl ?_
              refine R_callVv a_X10_dinner_50 hF1 (ev_hold hTP ok (by omega) (show V.sa < U.T.g by rw [v1]; exact hsg) (show z ≤ 9999 by omega) (show k ≤ 60 by omega) hFs) rfl rfl rfl rfl rfl (fun σ hP => ?_)
              obtain ⟨⟨R2, hFn⟩, hf⟩ := hP
              have hO := (hf 1 (by omega)).trans hO
              have hC1 := hC.ofF ⟨_, _, _, hFn⟩ hf
              have hfr : Fr σ0 σ 1 271 := hf.wide (by omega) (by omega)
              obtain ⟨hF1, -⟩ := id hFn
              refine R_iload_n a_X10_dinner_53 rfl ?_
              first | with_reducible refine R_if_ne_n a_X10_dinner_54 (by first | omega | exact Nat.lt_of_le_of_lt (inR_le _ _) (by decide) | exact Nat.lt_of_le_of_lt (bitN_le _ _) (by decide)) (fun h54 => ?_) (fun h54 => ?_) | refine R_if_ne a_X10_dinner_54 (fun h54 => ?_) (fun h54 => ?_)
              · skip
                have hz : zDinner U (nI z) (nI k) (nI c) = nI (dnK U.T V.sa z k).2 := by unfold zDinner; rw [gd_in hz9 (by decide), gd_in hk (by decide), if_neg hk0, gd_in hc (by decide), if_neg h54, v1]
                refine R_aload_n a_X10_dinner_67 rfl ?_
                refine R_get a_X10_dinner_68 hO rfl ?_
                refine R_get a_X10_dinner_71 hF1 rfl ?_
                refine R_iret a_X10_dinner_74 rfl ?_
                exact ⟨by rw [hz], hC1, hfr⟩
              · skip
                have hz : zDinner U (nI z) (nI k) (nI c) = nI (dnK U.T V.sa z k).1 := by unfold zDinner; rw [gd_in hz9 (by decide), gd_in hk (by decide), if_neg hk0, gd_in hc (by decide), if_pos h54, v1]
                refine R_aload_n a_X10_dinner_57 rfl ?_
                refine R_get a_X10_dinner_58 hO rfl ?_
                refine R_get a_X10_dinner_61 hF1 rfl ?_
                refine R_goto a_X10_dinner_64 ?_
                refine R_iret a_X10_dinner_74 rfl ?_
                exact ⟨by rw [hz], hC1, hfr⟩
            · skip
              have hz : zDinner U (nI z) (nI k) w = -1 := by unfold zDinner; rw [gd_in hz9 (by decide), gd_in hk (by decide), if_neg hk0, gd_out (gt_out (by decide) (Int32.not_le.mp h28))]
              refine R_iconst (v := (-1)) a_X10_dinner_31 rfl ?_
              refine R_iret a_X10_dinner_32 rfl ?_
              exact ⟨by rw [hz], hC, Fr.rf _ _ _⟩

theorem i32_nt {x : Int32} {a b : Nat} (ha : a < 2 ^ 31) (hb : b + 1 < 2 ^ 31) (h1 : ¬ x < nI a) (h2 : ¬ nI b < x) : ∃ i, a ≤ i ∧ i ≤ b ∧ x = nI i := by
  have h0 : ¬ x < 0 := fun q => h1 (Int32.lt_of_lt_of_le q (nI_pos' ha))
  obtain ⟨i, hi, rfl⟩ := le_in hb h0 h2
  exact ⟨i, Nat.not_lt.mp (fun q => h1 (nI_lt q ha)), by omega, rfl⟩
set_option maxRecDepth 20000 in
theorem cl_write {σ0 : AHp} {U : Us} {m : Nat} (hC : CP σ0 U) (hU : UOk U m) (hm : m < 2 ^ 20) {x : Int32} : EvW M_X10_write [.ref 1, .int x] σ0 (some (.int ((zWrite U x).1))) (fun σ => CP σ ((zWrite U x).2) ∧ Fr σ0 σ 1 271) := by
  obtain ⟨t, d, htd, hO, hL, hR, hV, hK, hW, hA, hPc, hS, hF, hTP, hDP⟩ := id hC
  have htd' := htd
  unfold TD at htd'
  obtain ⟨V, hE, hVH⟩ := id hV
  obtain ⟨he0, hEo, hEl, hEg, hEr⟩ := id hE
  obtain ⟨hL1, hL2, hL3⟩ := id hL
  obtain ⟨hS1, hS2, hS3, hS4⟩ := id hS
  obtain ⟨ht0, hT, hTk, hTh, hTn, hTf⟩ := id hTP
  have ok := hU.T
  obtain ⟨g3, g8, n1, n6, lw, stg, son, kd4, hn10, kn63, hf4⟩ := id ok
  obtain ⟨v1, v2, v3, v4, v5, v6, v7, v8⟩ := id hVH
  have hlen := hU.len
  have hu8 := hU.u8
  have hul := hU.ul
  have hkn2 := hU.kn2
  have hsg := saltF_lt ok U.h
  have hn64 : 2 ^ U.T.n ≤ 2 ^ 6 := Nat.pow_le_pow_right (by decide) n6
  have hg256 : 2 ^ U.T.g ≤ 2 ^ 8 := Nat.pow_le_pow_right (by decide) g8
  refine Ev.of (ls := [_, _]) 0 (by decide) rfl rfl ?_
  refine R_iload_n a_X10_write_0 rfl ?_
  refine R_bipush (v := nI 32) a_X10_write_1 rfl ?_
  refine R_icmp_lt a_X10_write_3 (fun h3 => ?_) (fun h3 => ?_)
  · skip
    have hz : zWrite U x = bad U := by unfold zWrite; rw [if_pos (Or.inl h3)]
    refine R_iconst (v := (-1)) a_X10_write_12 rfl ?_
    refine R_iret a_X10_write_13 rfl ?_
    rw [hz]
    exact ⟨rfl, hC, Fr.rf _ _ _⟩
  · skip
    refine R_iload_n a_X10_write_6 rfl ?_
    refine R_bipush (v := nI 126) a_X10_write_7 rfl ?_
    refine R_icmp_le a_X10_write_9 (fun h9 => ?_) (fun h9 => ?_)
    · skip
      obtain ⟨c, hc1, hc2, rfl⟩ := i32_nt (a := 32) (b := 126) (by decide) (by decide) h3 (Int32.not_lt.mpr h9)
      refine R_aload_n a_X10_write_14 rfl ?_
      refine R_get a_X10_write_15 hO rfl ?_
      refine R_iload_n a_X10_write_18 rfl ?_
      refine R_callVs a_X10_write_19 hL1 (ev_Ladd hL) rfl rfl rfl rfl rfl (fun σ hP => ?_)
      obtain ⟨hLn, hf⟩ := hP
      have hO := (hf 1 (by omega)).trans hO
      have hfr : Fr σ0 σ 1 271 := hf.wide (by omega) (by omega)
      have hb2 : (if U.tl < 200 then 1 else 0) ≤ 1 := by split <;> omega
      first | with_reducible refine R_if_eq_n a_X10_write_22 (by first | omega | exact Nat.lt_of_le_of_lt (inR_le _ _) (by decide) | exact Nat.lt_of_le_of_lt (bitN_le _ _) (by decide)) (fun h22 => ?_) (fun h22 => ?_) | refine R_if_eq a_X10_write_22 (fun h22 => ?_) (fun h22 => ?_)
      · skip
        have hfu : ¬ U.tl < 200 := by
          intro q
          rw [if_pos q] at h22
          cases h22
        rw [if_neg hfu] at hLn
        have hz : zWrite U (nI c) = (-3, U) := by unfold zWrite; rw [if_neg (fun q => q.elim h3 (fun q => absurd h9 (Int32.not_le.mpr q))), if_neg hfu]
        refine R_bipush (v := (-3)) a_X10_write_35 rfl ?_
        refine R_iret a_X10_write_37 rfl ?_
        rw [hz]
        exact ⟨rfl, hC.ofL hLn hf, hfr⟩
      · skip
        have hfu : U.tl < 200 := Nat.not_le.mp (fun q => h22 (by rw [if_neg (by omega)]))
        rw [if_pos hfu] at hLn
        have hz : zWrite U (nI c) = (nI (U.tl + 1), (uN U.tf U.tl c, U.tl + 1, U.2.2)) := by unfold zWrite; rw [if_neg (fun q => q.elim h3 (fun q => absurd h9 (Int32.not_le.mpr q))), if_pos hfu, iN_nI (by omega)]
        obtain ⟨hL1, -, -⟩ := id hLn
        refine R_aload_n a_X10_write_25 rfl ?_
        refine R_get a_X10_write_26 hO rfl ?_
        refine R_get a_X10_write_29 hL1 rfl ?_
        refine R_goto a_X10_write_32 ?_
        refine R_iret a_X10_write_37 rfl ?_
        rw [hz]
        exact ⟨rfl, hC.ofL hLn hf, hfr⟩
    · skip
      have hz : zWrite U x = bad U := by unfold zWrite; rw [if_pos (Or.inr (Int32.not_le.mp h9))]
      refine R_iconst (v := (-1)) a_X10_write_12 rfl ?_
      refine R_iret a_X10_write_13 rfl ?_
      rw [hz]
      exact ⟨rfl, hC, Fr.rf _ _ _⟩

set_option maxRecDepth 20000 in
theorem cl_wipe {σ0 : AHp} {U : Us} {m : Nat} (hC : CP σ0 U) (hU : UOk U m) (hm : m < 2 ^ 20) : EvW M_X10_wipe [.ref 1] σ0 (some (.int ((zWipe U).1))) (fun σ => CP σ ((zWipe U).2) ∧ Fr σ0 σ 1 271) := by
  obtain ⟨t, d, htd, hO, hL, hR, hV, hK, hW, hA, hPc, hS, hF, hTP, hDP⟩ := id hC
  have htd' := htd
  unfold TD at htd'
  obtain ⟨V, hE, hVH⟩ := id hV
  obtain ⟨he0, hEo, hEl, hEg, hEr⟩ := id hE
  obtain ⟨hL1, hL2, hL3⟩ := id hL
  obtain ⟨hS1, hS2, hS3, hS4⟩ := id hS
  obtain ⟨ht0, hT, hTk, hTh, hTn, hTf⟩ := id hTP
  have ok := hU.T
  obtain ⟨g3, g8, n1, n6, lw, stg, son, kd4, hn10, kn63, hf4⟩ := id ok
  obtain ⟨v1, v2, v3, v4, v5, v6, v7, v8⟩ := id hVH
  have hlen := hU.len
  have hu8 := hU.u8
  have hul := hU.ul
  have hkn2 := hU.kn2
  have hsg := saltF_lt ok U.h
  have hn64 : 2 ^ U.T.n ≤ 2 ^ 6 := Nat.pow_le_pow_right (by decide) n6
  have hg256 : 2 ^ U.T.g ≤ 2 ^ 8 := Nat.pow_le_pow_right (by decide) g8
  refine Ev.of (ls := [_, _]) 1 (by decide) rfl rfl ?_
  refine R_aload_n a_X10_wipe_0 rfl ?_
  refine R_get a_X10_wipe_1 hO rfl ?_
  refine R_get a_X10_wipe_4 hL1 rfl ?_
  refine R_istore_n (ls' := [_, _]) a_X10_wipe_7 rfl rfl rfl ?_
  refine R_aload_n a_X10_wipe_8 rfl ?_
  refine R_get a_X10_wipe_9 hO rfl ?_
  refine R_callVv a_X10_wipe_12 hL1 (ev_Lclear hL) rfl rfl rfl rfl rfl (fun σ hP => ?_)
  obtain ⟨hLn, hf⟩ := hP
  refine R_iload_n a_X10_wipe_15 rfl ?_
  refine R_iret a_X10_wipe_16 rfl ?_
  exact ⟨rfl, hC.ofL hLn hf, hf.wide (by omega) (by omega)⟩

set_option maxRecDepth 20000 in
theorem cl_tell {σ0 : AHp} {U : Us} {m : Nat} (hC : CP σ0 U) (hU : UOk U m) (hm : m < 2 ^ 20) {x : Int32} {b : Nat} (hb : b ≤ 1) : EvW M_X10_tell [.ref 1, .int x, .int (nI b)] σ0 (some (.int ((zTell U x b).1))) (fun σ => CP σ ((zTell U x b).2) ∧ Fr σ0 σ 1 271) := by
  obtain ⟨t, d, htd, hO, hL, hR, hV, hK, hW, hA, hPc, hS, hF, hTP, hDP⟩ := id hC
  have htd' := htd
  unfold TD at htd'
  obtain ⟨V, hE, hVH⟩ := id hV
  obtain ⟨he0, hEo, hEl, hEg, hEr⟩ := id hE
  obtain ⟨hL1, hL2, hL3⟩ := id hL
  obtain ⟨hS1, hS2, hS3, hS4⟩ := id hS
  obtain ⟨ht0, hT, hTk, hTh, hTn, hTf⟩ := id hTP
  have ok := hU.T
  obtain ⟨g3, g8, n1, n6, lw, stg, son, kd4, hn10, kn63, hf4⟩ := id ok
  obtain ⟨v1, v2, v3, v4, v5, v6, v7, v8⟩ := id hVH
  have hlen := hU.len
  have hu8 := hU.u8
  have hul := hU.ul
  have hkn2 := hU.kn2
  have hsg := saltF_lt ok U.h
  have hn64 : 2 ^ U.T.n ≤ 2 ^ 6 := Nat.pow_le_pow_right (by decide) n6
  have hg256 : 2 ^ U.T.g ≤ 2 ^ 8 := Nat.pow_le_pow_right (by decide) g8
  refine Ev.of (ls := [_, _, _]) 0 (by decide) rfl rfl ?_
  refine R_aload_n a_X10_tell_0 rfl ?_
  refine R_get a_X10_tell_1 hO rfl ?_
  refine R_iload_n a_X10_tell_4 rfl ?_
  refine R_callVp a_X10_tell_5 hT (ev_hasGuest hTP ok) rfl rfl rfl rfl rfl ?_
  first | with_reducible refine R_if_ne_n a_X10_tell_8 (by first | omega | exact Nat.lt_of_le_of_lt (inR_le _ _) (by decide) | exact Nat.lt_of_le_of_lt (bitN_le _ _) (by decide)) (fun h8 => ?_) (fun h8 => ?_) | refine R_if_ne a_X10_tell_8 (fun h8 => ?_) (fun h8 => ?_)
  · skip
    obtain ⟨i, hi, rfl⟩ := inR_nz (by omega) h8
    refine R_aload_n a_X10_tell_13 rfl ?_
    refine R_get a_X10_tell_14 hO rfl ?_
    refine R_iload_n a_X10_tell_17 rfl ?_
    refine R_iload_n a_X10_tell_18 rfl ?_
    refine R_callVs a_X10_tell_19 hS1 (ev_Sadd hS hb) rfl rfl rfl rfl rfl (fun σ hP => ?_)
    obtain ⟨hLn, hf⟩ := hP
    have hO := (hf 1 (by omega)).trans hO
    have hfr : Fr σ0 σ 1 271 := hf.wide (by omega) (by omega)
    have hb2 : (if U.ns < 8 then 1 else 0) ≤ 1 := by split <;> omega
    first | with_reducible refine R_if_eq_n a_X10_tell_22 (by first | omega | exact Nat.lt_of_le_of_lt (inR_le _ _) (by decide) | exact Nat.lt_of_le_of_lt (bitN_le _ _) (by decide)) (fun h22 => ?_) (fun h22 => ?_) | refine R_if_eq a_X10_tell_22 (fun h22 => ?_) (fun h22 => ?_)
    · skip
      have hfu : ¬ U.ns < 8 := by
        intro q
        rw [if_pos q] at h22
        cases h22
      rw [if_neg hfu] at hLn
      have hz : zTell U (nI i) b = (-3, U) := by unfold zTell; rw [gd_in hi (by omega), if_neg hfu]
      refine R_bipush (v := (-3)) a_X10_tell_35 rfl ?_
      refine R_iret a_X10_tell_37 rfl ?_
      rw [hz]
      exact ⟨rfl, hC.ofS hLn hf, hfr⟩
    · skip
      have hfu : U.ns < 8 := Nat.not_le.mp (fun q => h22 (by rw [if_neg (by omega)]))
      rw [if_pos hfu] at hLn
      have hz : zTell U (nI i) b = (nI (U.ns + 1), (U.tf, U.tl, U.T, U.D, U.h, U.u, U.kp, U.kn, U.ns + 1, uN U.sw U.ns i, uN U.ss U.ns b)) := by unfold zTell; rw [gd_in hi (by omega), if_pos hfu]
      obtain ⟨hS1, -, -⟩ := id hLn
      refine R_aload_n a_X10_tell_25 rfl ?_
      refine R_get a_X10_tell_26 hO rfl ?_
      refine R_get a_X10_tell_29 hS1 rfl ?_
      refine R_goto a_X10_tell_32 ?_
      refine R_iret a_X10_tell_37 rfl ?_
      rw [hz]
      exact ⟨rfl, hC.ofS hLn hf, hfr⟩
  · skip
    refine R_iconst (v := (-1)) a_X10_tell_11 rfl ?_
    refine R_iret a_X10_tell_12 rfl ?_
    rw [show zTell U x b = bad U by unfold zTell; rw [gd_out h8]]
    exact ⟨rfl, hC, Fr.rf _ _ _⟩

set_option maxRecDepth 20000 in
theorem cl_forget {σ0 : AHp} {U : Us} {m : Nat} (hC : CP σ0 U) (hU : UOk U m) (hm : m < 2 ^ 20) : EvW M_X10_forget [.ref 1] σ0 (some (.int ((zForget U).1))) (fun σ => CP σ ((zForget U).2) ∧ Fr σ0 σ 1 271) := by
  obtain ⟨t, d, htd, hO, hL, hR, hV, hK, hW, hA, hPc, hS, hF, hTP, hDP⟩ := id hC
  have htd' := htd
  unfold TD at htd'
  obtain ⟨V, hE, hVH⟩ := id hV
  obtain ⟨he0, hEo, hEl, hEg, hEr⟩ := id hE
  obtain ⟨hL1, hL2, hL3⟩ := id hL
  obtain ⟨hS1, hS2, hS3, hS4⟩ := id hS
  obtain ⟨ht0, hT, hTk, hTh, hTn, hTf⟩ := id hTP
  have ok := hU.T
  obtain ⟨g3, g8, n1, n6, lw, stg, son, kd4, hn10, kn63, hf4⟩ := id ok
  obtain ⟨v1, v2, v3, v4, v5, v6, v7, v8⟩ := id hVH
  have hlen := hU.len
  have hu8 := hU.u8
  have hul := hU.ul
  have hkn2 := hU.kn2
  have hsg := saltF_lt ok U.h
  have hn64 : 2 ^ U.T.n ≤ 2 ^ 6 := Nat.pow_le_pow_right (by decide) n6
  have hg256 : 2 ^ U.T.g ≤ 2 ^ 8 := Nat.pow_le_pow_right (by decide) g8
  refine Ev.of (ls := [_, _]) 1 (by decide) rfl rfl ?_
  refine R_aload_n a_X10_forget_0 rfl ?_
  refine R_get a_X10_forget_1 hO rfl ?_
  refine R_get a_X10_forget_4 hS1 rfl ?_
  refine R_istore_n (ls' := [_, _]) a_X10_forget_7 rfl rfl rfl ?_
  refine R_aload_n a_X10_forget_8 rfl ?_
  refine R_get a_X10_forget_9 hO rfl ?_
  refine R_callVv a_X10_forget_12 hS1 (ev_Sclear hS) rfl rfl rfl rfl rfl (fun σ hP => ?_)
  obtain ⟨hLn, hf⟩ := hP
  refine R_iload_n a_X10_forget_15 rfl ?_
  refine R_iret a_X10_forget_16 rfl ?_
  exact ⟨rfl, hC.ofS hLn hf, hf.wide (by omega) (by omega)⟩

set_option maxRecDepth 20000 in
theorem cl_hush {σ0 : AHp} {U : Us} {m : Nat} (hC : CP σ0 U) (hU : UOk U m) (hm : m < 2 ^ 20) : EvW M_X10_hush [.ref 1] σ0 (some (.int ((zGo U 128 128).1))) (fun σ => CP σ ((zGo U 128 128).2) ∧ Fr σ0 σ 1 271) := by
  obtain ⟨t, d, htd, hO, hL, hR, hV, hK, hW, hA, hPc, hS, hF, hTP, hDP⟩ := id hC
  have htd' := htd
  unfold TD at htd'
  obtain ⟨V, hE, hVH⟩ := id hV
  obtain ⟨he0, hEo, hEl, hEg, hEr⟩ := id hE
  obtain ⟨hL1, hL2, hL3⟩ := id hL
  obtain ⟨hS1, hS2, hS3, hS4⟩ := id hS
  obtain ⟨ht0, hT, hTk, hTh, hTn, hTf⟩ := id hTP
  have ok := hU.T
  obtain ⟨g3, g8, n1, n6, lw, stg, son, kd4, hn10, kn63, hf4⟩ := id ok
  obtain ⟨v1, v2, v3, v4, v5, v6, v7, v8⟩ := id hVH
  have hlen := hU.len
  have hu8 := hU.u8
  have hul := hU.ul
  have hkn2 := hU.kn2
  have hsg := saltF_lt ok U.h
  have hn64 : 2 ^ U.T.n ≤ 2 ^ 6 := Nat.pow_le_pow_right (by decide) n6
  have hg256 : 2 ^ U.T.g ≤ 2 ^ 8 := Nat.pow_le_pow_right (by decide) g8
  refine Ev.of (ls := [_]) 0 (by decide) rfl rfl ?_
  refine R_aload_n a_X10_hush_0 rfl ?_
  refine R_get a_X10_hush_1 hO rfl ?_
  refine R_callVp a_X10_hush_4 hEo (ev_upcoming hE (by omega)) rfl rfl rfl rfl rfl ?_
  have hm18 : V.ro % 18 < 18 := Nat.mod_lt _ (by decide)
  have hRP0 := hEr (V.ro % 18) hm18
  have hsd0 := v7 (V.ro % 18) hm18
  obtain ⟨-, hRo, -⟩ := id hRP0
  refine R_callVv a_X10_hush_7 hRo (ev_Rclear hRP0) rfl rfl rfl rfl rfl (fun σ hP => ?_)
  obtain ⟨hRP1, hf1⟩ := hP
  obtain ⟨-, hRo, -⟩ := id hRP1
  have hO := (hf1 1 (by omega)).trans hO
  have hEo := (hf1 6 (by omega)).trans hEo
  refine R_aload_n a_X10_hush_10 rfl ?_
  refine R_get a_X10_hush_11 hO rfl ?_
  refine R_aload_n a_X10_hush_14 rfl ?_
  refine R_get a_X10_hush_15 hO rfl ?_
  refine R_callVs a_X10_hush_18 hEo (ev_playC hE hVH hu8 (by omega) hRP1 hf1 (hTP.fr hf1 (by omega)) ok ⟨Nat.zero_le 2, fun k hk => absurd hk (Nat.not_lt_zero k)⟩ hsd0 (by omega)) rfl rfl rfl rfl rfl (fun σ hP => ?_)
  obtain ⟨hVn, hf3⟩ := hP
  refine R_iret a_X10_hush_21 rfl ?_
  have hfa : Fr σ0 σ 6 75 := (hf1.wide (by omega) (by omega)).trans hf3
  exact ⟨rfl, hC.ofV hVn hfa, hfa.wide (by omega) (by omega)⟩

set_option maxRecDepth 20000 in
theorem cl_say {σ0 : AHp} {U : Us} {m : Nat} (hC : CP σ0 U) (hU : UOk U m) (hm : m < 2 ^ 20) {x y : Int32} {b : Nat} (hb : b ≤ 1) : EvW M_X10_say [.ref 1, .int x, .int y, .int (nI b)] σ0 (some (.int ((zSay U x y b).1))) (fun σ => CP σ ((zSay U x y b).2) ∧ Fr σ0 σ 1 271) := by
  obtain ⟨t, d, htd, hO, hL, hR, hV, hK, hW, hA, hPc, hS, hF, hTP, hDP⟩ := id hC
  have htd' := htd
  unfold TD at htd'
  obtain ⟨V, hE, hVH⟩ := id hV
  obtain ⟨he0, hEo, hEl, hEg, hEr⟩ := id hE
  obtain ⟨hL1, hL2, hL3⟩ := id hL
  obtain ⟨hS1, hS2, hS3, hS4⟩ := id hS
  obtain ⟨ht0, hT, hTk, hTh, hTn, hTf⟩ := id hTP
  have ok := hU.T
  obtain ⟨g3, g8, n1, n6, lw, stg, son, kd4, hn10, kn63, hf4⟩ := id ok
  obtain ⟨v1, v2, v3, v4, v5, v6, v7, v8⟩ := id hVH
  have hlen := hU.len
  have hu8 := hU.u8
  have hul := hU.ul
  have hkn2 := hU.kn2
  have hsg := saltF_lt ok U.h
  have hn64 : 2 ^ U.T.n ≤ 2 ^ 6 := Nat.pow_le_pow_right (by decide) n6
  have hg256 : 2 ^ U.T.g ≤ 2 ^ 8 := Nat.pow_le_pow_right (by decide) g8
  refine Ev.of (ls := [_, _, _, _, _]) 1 (by decide) rfl rfl ?_
  refine R_aload_n a_X10_say_0 rfl ?_
  refine R_get a_X10_say_1 hO rfl ?_
  refine R_iload_n a_X10_say_4 rfl ?_
  refine R_callVp a_X10_say_5 hT (ev_hasGuest hTP ok) rfl rfl rfl rfl rfl ?_
  first | with_reducible refine R_if_eq_n a_X10_say_8 (by first | omega | exact Nat.lt_of_le_of_lt (inR_le _ _) (by decide) | exact Nat.lt_of_le_of_lt (bitN_le _ _) (by decide)) (fun h8 => ?_) (fun h8 => ?_) | refine R_if_eq a_X10_say_8 (fun h8 => ?_) (fun h8 => ?_)
  · skip
    have hz : zSay U x y b = bad U := by unfold zSay; rw [gd_out h8]
    refine R_iconst (v := (-1)) a_X10_say_22 rfl ?_
    refine R_iret a_X10_say_23 rfl ?_
    rw [hz]
    exact ⟨rfl, hC, Fr.rf _ _ _⟩
  · skip
    obtain ⟨i, hi, rfl⟩ := inR_nz (by omega) h8
    refine R_aload_n a_X10_say_11 rfl ?_
    refine R_get a_X10_say_12 hO rfl ?_
    refine R_iload_n a_X10_say_15 rfl ?_
    refine R_callVp a_X10_say_16 hT (ev_hasThing hTP ok) rfl rfl rfl rfl rfl ?_
    first | with_reducible refine R_if_ne_n a_X10_say_19 (by first | omega | exact Nat.lt_of_le_of_lt (inR_le _ _) (by decide) | exact Nat.lt_of_le_of_lt (bitN_le _ _) (by decide)) (fun h19 => ?_) (fun h19 => ?_) | refine R_if_ne a_X10_say_19 (fun h19 => ?_) (fun h19 => ?_)
    · skip
      obtain ⟨k, hk, rfl⟩ := inR_nz (by omega) h19
      have hz : zSay U (nI i) (nI k) b = zGo U (sayC i k b) 128 := by unfold zSay; rw [gd_in hi (by omega), gd_in hk (by omega)]
      refine R_aload_n a_X10_say_24 rfl ?_
      refine R_get a_X10_say_25 hO rfl ?_
      refine R_callVp a_X10_say_28 hEo (ev_upcoming hE (by omega)) rfl rfl rfl rfl rfl ?_
      have hm18 : V.ro % 18 < 18 := Nat.mod_lt _ (by decide)
      have hRP0 := hEr (V.ro % 18) hm18
      have hsd0 := v7 (V.ro % 18) hm18
      obtain ⟨-, hRo, -⟩ := id hRP0
      refine R_astore (ls' := [_, _, _, _, _]) a_X10_say_31 rfl rfl rfl ?_
      refine R_aload a_X10_say_33 rfl ?_
      refine R_callVv a_X10_say_35 hRo (ev_Rclear hRP0) rfl rfl rfl rfl rfl (fun σ hP => ?_)
      obtain ⟨hRP1, hf1⟩ := hP
      obtain ⟨-, hRo, -⟩ := id hRP1
      refine R_aload a_X10_say_38 rfl ?_
      refine R_iload_n a_X10_say_40 rfl ?_
      refine R_iload_n a_X10_say_41 rfl ?_
      refine R_iload_n a_X10_say_42 rfl ?_
      refine R_callVv a_X10_say_43 hRo (ev_Radd hRP1 (show 0 < 2 by decide) hb) rfl rfl rfl rfl rfl (fun σ hP => ?_)
      obtain ⟨hRP2, hf2⟩ := hP
      have hf2 := hf1.trans hf2
      obtain ⟨-, hRo, -⟩ := id hRP2
      have hO := (hf2 1 (by omega)).trans hO
      have hEo := (hf2 6 (by omega)).trans hEo
      refine R_aload_n a_X10_say_46 rfl ?_
      refine R_get a_X10_say_47 hO rfl ?_
      refine R_aload_n a_X10_say_50 rfl ?_
      refine R_get a_X10_say_51 hO rfl ?_
      refine R_callVs a_X10_say_54 hEo (ev_playC hE hVH hu8 (by omega) hRP2 hf2 (hTP.fr hf2 (by omega)) ok (RdOk.one hi hk hb) (fun q hq => by show uN _ 0 b q ≤ 1; unfold uN; split; exact hb; exact hsd0 q hq) (by omega)) rfl rfl rfl rfl rfl (fun σ hP => ?_)
      obtain ⟨hVn, hf3⟩ := hP
      refine R_iret a_X10_say_57 rfl ?_
      have hfa : Fr σ0 σ 6 75 := (hf2.wide (by omega) (by omega)).trans hf3
      rw [hz]
      exact ⟨rfl, hC.ofV hVn hfa, hfa.wide (by omega) (by omega)⟩
    · skip
      have hz : zSay U (nI i) y b = bad U := by unfold zSay; rw [gd_in hi (by omega), gd_out h19]
      refine R_iconst (v := (-1)) a_X10_say_22 rfl ?_
      refine R_iret a_X10_say_23 rfl ?_
      rw [hz]
      exact ⟨rfl, hC, Fr.rf _ _ _⟩

set_option maxRecDepth 20000 in
theorem cl_arePair {σ0 : AHp} {U : Us} {m : Nat} (hC : CP σ0 U) (hU : UOk U m) (hm : m < 2 ^ 20) {x y : Int32} : EvP M_X10_arePair [.ref 1, .int x, .int y] σ0 (.int (nI (gd 0 x U.T.g fun i => gd 0 y U.T.g fun j => if i = j then 0 else 1))) := by
  obtain ⟨t, d, htd, hO, hL, hR, hV, hK, hW, hA, hPc, hS, hF, hTP, hDP⟩ := id hC
  have htd' := htd
  unfold TD at htd'
  obtain ⟨V, hE, hVH⟩ := id hV
  obtain ⟨he0, hEo, hEl, hEg, hEr⟩ := id hE
  obtain ⟨hL1, hL2, hL3⟩ := id hL
  obtain ⟨hS1, hS2, hS3, hS4⟩ := id hS
  obtain ⟨ht0, hT, hTk, hTh, hTn, hTf⟩ := id hTP
  have ok := hU.T
  obtain ⟨g3, g8, n1, n6, lw, stg, son, kd4, hn10, kn63, hf4⟩ := id ok
  obtain ⟨v1, v2, v3, v4, v5, v6, v7, v8⟩ := id hVH
  have hlen := hU.len
  have hu8 := hU.u8
  have hul := hU.ul
  have hkn2 := hU.kn2
  have hsg := saltF_lt ok U.h
  have hn64 : 2 ^ U.T.n ≤ 2 ^ 6 := Nat.pow_le_pow_right (by decide) n6
  have hg256 : 2 ^ U.T.g ≤ 2 ^ 8 := Nat.pow_le_pow_right (by decide) g8
  refine Ev.of (ls := [_, _, _]) 0 (by decide) rfl rfl ?_
  refine R_aload_n a_X10_arePair_0 rfl ?_
  refine R_get a_X10_arePair_1 hO rfl ?_
  refine R_iload_n a_X10_arePair_4 rfl ?_
  refine R_callVp a_X10_arePair_5 hT (ev_hasGuest hTP ok) rfl rfl rfl rfl rfl ?_
  first | with_reducible refine R_if_eq_n a_X10_arePair_8 (by first | omega | exact Nat.lt_of_le_of_lt (inR_le _ _) (by decide) | exact Nat.lt_of_le_of_lt (bitN_le _ _) (by decide)) (fun h8 => ?_) (fun h8 => ?_) | refine R_if_eq a_X10_arePair_8 (fun h8 => ?_) (fun h8 => ?_)
  · skip
    have hz : (gd 0 x U.T.g fun i => gd 0 y U.T.g fun j => if i = j then 0 else 1) = 0 := gd_out h8
    refine R_iconst (v := nI 0) a_X10_arePair_31 rfl ?_
    refine R_zret_n a_X10_arePair_32 rfl (by first | omega | exact Nat.lt_of_le_of_lt (inR_le _ _) (by decide) | exact Nat.lt_of_le_of_lt (bitN_le _ _) (by decide)) ?_
    exact ⟨by rw [hz], rfl⟩
  · skip
    obtain ⟨i, hi, rfl⟩ := inR_nz (by omega) h8
    refine R_aload_n a_X10_arePair_11 rfl ?_
    refine R_get a_X10_arePair_12 hO rfl ?_
    refine R_iload_n a_X10_arePair_15 rfl ?_
    refine R_callVp a_X10_arePair_16 hT (ev_hasGuest hTP ok) rfl rfl rfl rfl rfl ?_
    first | with_reducible refine R_if_eq_n a_X10_arePair_19 (by first | omega | exact Nat.lt_of_le_of_lt (inR_le _ _) (by decide) | exact Nat.lt_of_le_of_lt (bitN_le _ _) (by decide)) (fun h19 => ?_) (fun h19 => ?_) | refine R_if_eq a_X10_arePair_19 (fun h19 => ?_) (fun h19 => ?_)
    · skip
      have hz : (gd 0 (nI i) U.T.g fun i => gd 0 y U.T.g fun j => if i = j then 0 else 1) = 0 := by rw [gd_in hi (by omega), gd_out h19]
      refine R_iconst (v := nI 0) a_X10_arePair_31 rfl ?_
      refine R_zret_n a_X10_arePair_32 rfl (by first | omega | exact Nat.lt_of_le_of_lt (inR_le _ _) (by decide) | exact Nat.lt_of_le_of_lt (bitN_le _ _) (by decide)) ?_
      exact ⟨by rw [hz], rfl⟩
    · skip
      obtain ⟨j, hj, rfl⟩ := inR_nz (by omega) h19
      refine R_iload_n a_X10_arePair_22 rfl ?_
      refine R_iload_n a_X10_arePair_23 rfl ?_
      first | with_reducible refine R_icmp_eq_n a_X10_arePair_24 (by first | omega | exact Nat.lt_of_le_of_lt (inR_le _ _) (by decide) | exact Nat.lt_of_le_of_lt (bitN_le _ _) (by decide)) (by first | omega | exact Nat.lt_of_le_of_lt (inR_le _ _) (by decide) | exact Nat.lt_of_le_of_lt (bitN_le _ _) (by decide)) (fun h24 => ?_) (fun h24 => ?_) | refine R_icmp_eq a_X10_arePair_24 (fun h24 => ?_) (fun h24 => ?_)
      · skip
        have hz : (gd 0 (nI i) U.T.g fun i => gd 0 (nI j) U.T.g fun j => if i = j then 0 else 1) = 0 := by rw [gd_in hi (by omega), gd_in hj (by omega), if_pos h24]
        refine R_iconst (v := nI 0) a_X10_arePair_31 rfl ?_
        refine R_zret_n a_X10_arePair_32 rfl (by first | omega | exact Nat.lt_of_le_of_lt (inR_le _ _) (by decide) | exact Nat.lt_of_le_of_lt (bitN_le _ _) (by decide)) ?_
        exact ⟨by rw [hz], rfl⟩
      · skip
        have hz : (gd 0 (nI i) U.T.g fun i => gd 0 (nI j) U.T.g fun j => if i = j then 0 else 1) = 1 := by rw [gd_in hi (by omega), gd_in hj (by omega), if_neg h24]
        refine R_iconst (v := nI 1) a_X10_arePair_27 rfl ?_
        refine R_goto a_X10_arePair_28 ?_
        refine R_zret_n a_X10_arePair_32 rfl (by first | omega | exact Nat.lt_of_le_of_lt (inR_le _ _) (by decide) | exact Nat.lt_of_le_of_lt (bitN_le _ _) (by decide)) ?_
        exact ⟨by rw [hz], rfl⟩

set_option maxRecDepth 20000 in
theorem cl_sayBoth {σ0 : AHp} {U : Us} {m : Nat} (hC : CP σ0 U) (hU : UOk U m) (hm : m < 2 ^ 20) {x y x' y' : Int32} {b b' : Nat} (hb : b ≤ 1) (hb' : b' ≤ 1) : EvW M_X10_sayBoth [.ref 1, .int x, .int y, .int (nI b), .int x', .int y', .int (nI b')] σ0 (some (.int ((zBoth U x y b x' y' b').1))) (fun σ => CP σ ((zBoth U x y b x' y' b').2) ∧ Fr σ0 σ 1 271) := by
  obtain ⟨t, d, htd, hO, hL, hR, hV, hK, hW, hA, hPc, hS, hF, hTP, hDP⟩ := id hC
  have htd' := htd
  unfold TD at htd'
  obtain ⟨V, hE, hVH⟩ := id hV
  obtain ⟨he0, hEo, hEl, hEg, hEr⟩ := id hE
  obtain ⟨hL1, hL2, hL3⟩ := id hL
  obtain ⟨hS1, hS2, hS3, hS4⟩ := id hS
  obtain ⟨ht0, hT, hTk, hTh, hTn, hTf⟩ := id hTP
  have ok := hU.T
  obtain ⟨g3, g8, n1, n6, lw, stg, son, kd4, hn10, kn63, hf4⟩ := id ok
  obtain ⟨v1, v2, v3, v4, v5, v6, v7, v8⟩ := id hVH
  have hlen := hU.len
  have hu8 := hU.u8
  have hul := hU.ul
  have hkn2 := hU.kn2
  have hsg := saltF_lt ok U.h
  have hn64 : 2 ^ U.T.n ≤ 2 ^ 6 := Nat.pow_le_pow_right (by decide) n6
  have hg256 : 2 ^ U.T.g ≤ 2 ^ 8 := Nat.pow_le_pow_right (by decide) g8
  refine Ev.of (ls := [_, _, _, _, _, _, _, _]) 1 (by decide) rfl rfl ?_
  refine R_aload_n a_X10_sayBoth_0 rfl ?_
  refine R_iload_n a_X10_sayBoth_1 rfl ?_
  refine R_iload a_X10_sayBoth_2 rfl ?_
  refine R_callVp a_X10_sayBoth_4 hO (cl_arePair hC hU hm) rfl rfl rfl rfl rfl ?_
  have hpl : (gd 0 x U.T.g fun i => gd 0 x' U.T.g fun j => if i = j then 0 else 1) ≤ 1 := by
    unfold gd
    dsimp only
    split
    · split
      · split <;> omega
      · omega
    · omega
  first | with_reducible refine R_if_eq_n a_X10_sayBoth_7 (by first | omega | exact Nat.lt_of_le_of_lt (inR_le _ _) (by decide) | exact Nat.lt_of_le_of_lt (bitN_le _ _) (by decide)) (fun hpr => ?_) (fun hpr => ?_) | refine R_if_eq a_X10_sayBoth_7 (fun hpr => ?_) (fun hpr => ?_)
  · skip
    have hz : zBoth U x y b x' y' b' = bad U := by
      unfold zBoth
      rcases inR_split x (g := U.T.g) (by omega) with ⟨q, -⟩ | ⟨-, i, hi, rfl⟩
      · rw [gd_out q]
      · rw [gd_in hi (by omega)] at hpr ⊢
        rcases inR_split x' (g := U.T.g) (by omega) with ⟨q, -⟩ | ⟨-, j, hj, rfl⟩
        · rw [gd_out q]
        · rw [gd_in hj (by omega)] at hpr ⊢
          by_cases e : i = j
          · rw [if_pos e]
          · rw [if_neg e] at hpr; cases hpr
    refine R_iconst (v := (-1)) a_X10_sayBoth_33 rfl ?_
    refine R_iret a_X10_sayBoth_34 rfl ?_
    rw [hz]
    exact ⟨rfl, hC, Fr.rf _ _ _⟩
  · skip
    obtain ⟨i, j, hi, hj, hij, rfl, rfl⟩ : ∃ i j, i < U.T.g ∧ j < U.T.g ∧ ¬ i = j ∧ x = nI i ∧ x' = nI j := by
      rcases inR_split x (g := U.T.g) (by omega) with ⟨q, -⟩ | ⟨-, i, hi, rfl⟩
      · rw [gd_out q] at hpr; exact absurd rfl hpr
      · rw [gd_in hi (by omega)] at hpr
        rcases inR_split x' (g := U.T.g) (by omega) with ⟨q, -⟩ | ⟨-, j, hj, rfl⟩
        · rw [gd_out q] at hpr; exact absurd rfl hpr
        · rw [gd_in hj (by omega)] at hpr
          by_cases e : i = j
          · rw [if_pos e] at hpr; exact absurd rfl hpr
          · exact ⟨i, j, hi, hj, e, rfl, rfl⟩
    refine R_aload_n a_X10_sayBoth_10 rfl ?_
    refine R_get a_X10_sayBoth_11 hO rfl ?_
    refine R_iload_n a_X10_sayBoth_14 rfl ?_
    refine R_callVp a_X10_sayBoth_15 hT (ev_hasThing hTP ok) rfl rfl rfl rfl rfl ?_
    first | with_reducible refine R_if_eq_n a_X10_sayBoth_18 (by first | omega | exact Nat.lt_of_le_of_lt (inR_le _ _) (by decide) | exact Nat.lt_of_le_of_lt (bitN_le _ _) (by decide)) (fun h18 => ?_) (fun h18 => ?_) | refine R_if_eq a_X10_sayBoth_18 (fun h18 => ?_) (fun h18 => ?_)
    · skip
      have hz : zBoth U (nI i) y b (nI j) y' b' = bad U := by unfold zBoth; rw [gd_in hi (by omega), gd_in hj (by omega), if_neg hij, gd_out h18]
      refine R_iconst (v := (-1)) a_X10_sayBoth_33 rfl ?_
      refine R_iret a_X10_sayBoth_34 rfl ?_
      rw [hz]
      exact ⟨rfl, hC, Fr.rf _ _ _⟩
    · skip
      obtain ⟨k, hk, rfl⟩ := inR_nz (by omega) h18
      refine R_aload_n a_X10_sayBoth_21 rfl ?_
      refine R_get a_X10_sayBoth_22 hO rfl ?_
      refine R_iload a_X10_sayBoth_25 rfl ?_
      refine R_callVp a_X10_sayBoth_27 hT (ev_hasThing hTP ok) rfl rfl rfl rfl rfl ?_
      first | with_reducible refine R_if_ne_n a_X10_sayBoth_30 (by first | omega | exact Nat.lt_of_le_of_lt (inR_le _ _) (by decide) | exact Nat.lt_of_le_of_lt (bitN_le _ _) (by decide)) (fun h30 => ?_) (fun h30 => ?_) | refine R_if_ne a_X10_sayBoth_30 (fun h30 => ?_) (fun h30 => ?_)
      · skip
        obtain ⟨s, hs, rfl⟩ := inR_nz (by omega) h30
        have hz : zBoth U (nI i) (nI k) b (nI j) (nI s) b' = zGo U (sayC i k b) (sayC j s b') := by unfold zBoth; rw [gd_in hi (by omega), gd_in hj (by omega), if_neg hij, gd_in hk (by omega), gd_in hs (by omega)]
        refine R_aload_n a_X10_sayBoth_35 rfl ?_
        refine R_get a_X10_sayBoth_36 hO rfl ?_
        refine R_callVp a_X10_sayBoth_39 hEo (ev_upcoming hE (by omega)) rfl rfl rfl rfl rfl ?_
        have hm18 : V.ro % 18 < 18 := Nat.mod_lt _ (by decide)
        have hRP0 := hEr (V.ro % 18) hm18
        have hsd0 := v7 (V.ro % 18) hm18
        obtain ⟨-, hRo, -⟩ := id hRP0
        refine R_astore (ls' := [_, _, _, _, _, _, _, _]) a_X10_sayBoth_42 rfl rfl rfl ?_
        refine R_aload a_X10_sayBoth_44 rfl ?_
        refine R_callVv a_X10_sayBoth_46 hRo (ev_Rclear hRP0) rfl rfl rfl rfl rfl (fun σ hP => ?_)
        obtain ⟨hRP1, hf1⟩ := hP
        obtain ⟨-, hRo, -⟩ := id hRP1
        refine R_aload a_X10_sayBoth_49 rfl ?_
        refine R_iload_n a_X10_sayBoth_51 rfl ?_
        refine R_iload_n a_X10_sayBoth_52 rfl ?_
        refine R_iload_n a_X10_sayBoth_53 rfl ?_
        refine R_callVv a_X10_sayBoth_54 hRo (ev_Radd hRP1 (show 0 < 2 by decide) hb) rfl rfl rfl rfl rfl (fun σ hP => ?_)
        obtain ⟨hRP2, hf2⟩ := hP
        have hf2 := hf1.trans hf2
        obtain ⟨-, hRo, -⟩ := id hRP2
        refine R_aload a_X10_sayBoth_57 rfl ?_
        refine R_iload a_X10_sayBoth_59 rfl ?_
        refine R_iload a_X10_sayBoth_61 rfl ?_
        refine R_iload a_X10_sayBoth_63 rfl ?_
        refine R_callVv a_X10_sayBoth_65 hRo (ev_Radd hRP2 (show 0 + 1 < 2 by decide) hb') rfl rfl rfl rfl rfl (fun σ hP => ?_)
        obtain ⟨hRP3, hf4⟩ := hP
        have hf4 := hf2.trans hf4
        obtain ⟨-, hRo, -⟩ := id hRP3
        have hO := (hf4 1 (by omega)).trans hO
        have hEo := (hf4 6 (by omega)).trans hEo
        refine R_aload_n a_X10_sayBoth_68 rfl ?_
        refine R_get a_X10_sayBoth_69 hO rfl ?_
        refine R_aload_n a_X10_sayBoth_72 rfl ?_
        refine R_get a_X10_sayBoth_73 hO rfl ?_
        refine R_callVs a_X10_sayBoth_76 hEo (ev_playC hE hVH hu8 (by omega) hRP3 hf4 (hTP.fr hf4 (by omega)) ok (RdOk.two hi hk hb hj hs hb') (fun q hq => by show uN (uN _ 0 b) (0 + 1) b' q ≤ 1; unfold uN; split; exact hb'; split; exact hb; exact hsd0 q hq) (by omega)) rfl rfl rfl rfl rfl (fun σ hP => ?_)
        obtain ⟨hVn, hf3⟩ := hP
        refine R_iret a_X10_sayBoth_79 rfl ?_
        have hfa : Fr σ0 σ 6 75 := (hf4.wide (by omega) (by omega)).trans hf3
        rw [hz]
        exact ⟨rfl, hC.ofV hVn hfa, hfa.wide (by omega) (by omega)⟩
      · skip
        have hz : zBoth U (nI i) (nI k) b (nI j) y' b' = bad U := by unfold zBoth; rw [gd_in hi (by omega), gd_in hj (by omega), if_neg hij, gd_in hk (by omega), gd_out h30]
        refine R_iconst (v := (-1)) a_X10_sayBoth_33 rfl ?_
        refine R_iret a_X10_sayBoth_34 rfl ?_
        rw [hz]
        exact ⟨rfl, hC, Fr.rf _ _ _⟩

set_option maxRecDepth 20000 in
theorem cl_undo {σ0 : AHp} {U : Us} {m : Nat} (hC : CP σ0 U) (hU : UOk U m) (hm : m < 2 ^ 20) : EvW M_X10_undo [.ref 1] σ0 (some (.int ((zUndo U).1))) (fun σ => CP σ ((zUndo U).2) ∧ Fr σ0 σ 1 271) := by
  obtain ⟨t, d, htd, hO, hL, hR, hV, hK, hW, hA, hPc, hS, hF, hTP, hDP⟩ := id hC
  have htd' := htd
  unfold TD at htd'
  obtain ⟨V, hE, hVH⟩ := id hV
  obtain ⟨he0, hEo, hEl, hEg, hEr⟩ := id hE
  obtain ⟨hL1, hL2, hL3⟩ := id hL
  obtain ⟨hS1, hS2, hS3, hS4⟩ := id hS
  obtain ⟨ht0, hT, hTk, hTh, hTn, hTf⟩ := id hTP
  have ok := hU.T
  obtain ⟨g3, g8, n1, n6, lw, stg, son, kd4, hn10, kn63, hf4⟩ := id ok
  obtain ⟨v1, v2, v3, v4, v5, v6, v7, v8⟩ := id hVH
  have hlen := hU.len
  have hu8 := hU.u8
  have hul := hU.ul
  have hkn2 := hU.kn2
  have hsg := saltF_lt ok U.h
  have hn64 : 2 ^ U.T.n ≤ 2 ^ 6 := Nat.pow_le_pow_right (by decide) n6
  have hg256 : 2 ^ U.T.g ≤ 2 ^ 8 := Nat.pow_le_pow_right (by decide) g8
  refine Ev.of (ls := [_]) 0 (by decide) rfl rfl ?_
  refine R_aload_n a_X10_undo_0 rfl ?_
  refine R_get a_X10_undo_1 hO rfl ?_
  refine R_get a_X10_undo_4 hEo rfl ?_
  first | with_reducible refine R_if_ne_n a_X10_undo_7 (by first | omega | exact Nat.lt_of_le_of_lt (inR_le _ _) (by decide) | exact Nat.lt_of_le_of_lt (bitN_le _ _) (by decide)) (fun h7 => ?_) (fun h7 => ?_) | refine R_if_ne a_X10_undo_7 (fun h7 => ?_) (fun h7 => ?_)
  · skip
    have hu1 : 1 ≤ U.u := by omega
    obtain ⟨c, h', hh⟩ : ∃ c h', U.h = c :: h' := by
      cases e : U.h with
      | nil => rw [e] at hul; simp at hul; omega
      | cons c h' => exact ⟨c, h', rfl⟩
    have hz : zUndo U = (nI (U.u - 1), (U.tf, U.tl, U.T, U.D, h', U.u - 1, U.2.2.2.2.2.2)) := by unfold zUndo; rw [if_neg (by omega), hh]; rfl
    rw [hh] at hVH
    have hVb := hVH.back hu1 ok
    obtain ⟨b1, b2, b3, b4⟩ := hVH.backPre ok
    refine R_aload_n a_X10_undo_13 rfl ?_
    refine R_get a_X10_undo_14 hO rfl ?_
    refine R_callVv a_X10_undo_17 hEo (ev_takeBack hE (by rw [v2, hh]; simp) (by omega) (by omega) b1 b2 b3 b4) rfl rfl rfl rfl rfl (fun σ hP => ?_)
    obtain ⟨hEn, hf⟩ := hP
    have hO := (hf 1 (by omega)).trans hO
    obtain ⟨-, hEo, -⟩ := id hEn
    refine R_aload_n a_X10_undo_20 rfl ?_
    refine R_get a_X10_undo_21 hO rfl ?_
    refine R_get a_X10_undo_24 hEo rfl ?_
    refine R_iret a_X10_undo_27 rfl ?_
    rw [hz]
    exact ⟨by rw [← v5]; rfl, hC.ofV ⟨_, hEn, hVb⟩ hf, hf.wide (by omega) (by omega)⟩
  · skip
    have hz : zUndo U = (-2, U) := by unfold zUndo; rw [if_pos (by omega)]
    refine R_bipush (v := (-2)) a_X10_undo_10 rfl ?_
    refine R_iret a_X10_undo_12 rfl ?_
    rw [hz]
    exact ⟨rfl, hC, Fr.rf _ _ _⟩

