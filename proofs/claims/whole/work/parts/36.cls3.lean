/-! ===== SaltToLiars: laying, paths, pacts, keeping ===== -/
theorem CP.ofD {σ σ' : AHp} {U : Us} {t d : Nat} {D : Tb} (htd : TD t d) (hO : σ 1 = some (clO t d U.kn)) (h : CP σ U) (hR : CR σ') (hD : TbP σ' d D) (hk : ∀ j, (j < 4 ∨ 6 ≤ j) ∧ (j < d ∨ d + 5 ≤ j) → σ' j = σ j) : CP σ' (U.tf, U.tl, U.T, D, U.2.2.2.2) := by
  obtain ⟨t', d', htd2, hO', hL, -, hV, hK, hW, hA, hPc, hS, hF, hT, -⟩ := h
  rw [hO] at hO'
  injection hO' with hO'
  injection hO' with hO'
  injection hO' with hO'
  have e1 : t = t' ∧ d = d' := by simpa using (Prod.mk.inj hO').2
  obtain ⟨rfl, rfl⟩ := e1
  have htd' := htd
  unfold TD at htd'
  exact ⟨t, d, htd, (hk _ (by omega)).trans hO, hL.kept (fun j a b => hk j (by omega)), hR, hV.kept (fun j a b => hk j (by omega)), hK.kept (fun j a b => hk j (by omega)), hW.kept (fun j a b => hk j (by omega)), hA.kept (fun j a b => hk j (by omega)), hPc.kept (fun j a b => hk j (by omega)), hS.kept (fun j a b => hk j (by omega)), hF.kept (fun j a b => hk j (by omega)), hT.kept (fun j a b => hk j (by omega)), hD⟩
set_option maxRecDepth 20000 in
theorem cl_fault {σ0 : AHp} {U : Us} {m : Nat} (hC : CP σ0 U) (hU : UOk U m) (hm : m < 2 ^ 20) : EvW M_X10_fault [.ref 1] σ0 (some (.int ((zFault U).1))) (fun σ => CP σ ((zFault U).2) ∧ Fr σ0 σ 1 271) := by
  obtain ⟨t, d, htd, hO, hL, hR, hV, hK, hW, hA, hPc, hS, hF, hTP, hDP⟩ := id hC
  have htd' := htd
  unfold TD at htd'
  obtain ⟨V, hE, hVH⟩ := id hV
  obtain ⟨he0, hEo, hEl, hEg, hEr⟩ := id hE
  obtain ⟨hL1, hL2, hL3⟩ := id hL
  obtain ⟨hS1, hS2, hS3, hS4⟩ := id hS
  obtain ⟨ht0, hT, hTk, hTh, hTn, hTf⟩ := id hTP
  have ok := hU.T
  obtain ⟨g3, g8, n1, n6, lw, stg, son, kd4, hn10, kn63, hf4⟩ := id ok
  obtain ⟨v1, v2, v3, v4, v5, v6, v7, v8⟩ := id hVH
  have hlen := hU.len
  have hu8 := hU.u8
  have hul := hU.ul
  have hkn2 := hU.kn2
  have hsg := saltF_lt ok U.h
  have hn64 : 2 ^ U.T.n ≤ 2 ^ 6 := Nat.pow_le_pow_right (by decide) n6
  have hg256 : 2 ^ U.T.g ≤ 2 ^ 8 := Nat.pow_le_pow_right (by decide) g8
  obtain ⟨rnf, rpl, hRr⟩ := id hR
  obtain ⟨hR1, -⟩ := id hRr
  obtain ⟨hd0, hD1, -⟩ := id hDP
  refine Ev.of (ls := [_]) 0 (by decide) rfl rfl ?_
  refine R_aload_n a_X10_fault_0 rfl ?_
  refine R_get a_X10_fault_1 hO rfl ?_
  refine R_aload_n a_X10_fault_4 rfl ?_
  refine R_get a_X10_fault_5 hO rfl ?_
  refine R_aload_n a_X10_fault_8 rfl ?_
  refine R_get a_X10_fault_9 hO rfl ?_
  refine R_callVs a_X10_fault_12 hR1 (ev_read hL hU.txt hRr hDP (by omega)) rfl rfl rfl rfl rfl (fun σ hP => ?_)
  obtain ⟨hDn, hRn, hf⟩ := hP
  have hfr : Fr σ0 σ 1 271 := fun j hj => hf j (by omega)
  have hC1 : CP σ (U.tf, U.tl, U.T, (rdU U).2, U.2.2.2.2) := CP.ofD htd hO hC hRn hDn hf
  refine R_iret a_X10_fault_15 rfl ?_
  exact ⟨rfl, hC1, hfr⟩

set_option maxRecDepth 20000 in
theorem cl_takeDraft {σ0 : AHp} {t d kn ns : Nat} {T D : Tb} {V : Vs} {sw ss : Nat → Nat} (htd : TD t d) (hO : σ0 1 = some (clO t d kn)) (hE : EvR σ0 6 V) (hS : SyR σ0 ns sw ss) (hTP : TbP σ0 t T) (hDP : TbP σ0 d D) (hst : D.st < 8) : EvW M_X10_takeDraft [.ref 1] σ0 none (fun σ => σ 1 = some (clO d t 0) ∧ EvR σ 6 (D.st, 0, 0, 2 ^ D.st, 0, fun _ => 0, V.rf) ∧ SyR σ 0 sw ss ∧ ∀ j, (j ≠ 1 ∧ (j < 6 ∨ 81 ≤ j) ∧ (j < 254 ∨ 257 ≤ j)) → σ j = σ0 j) := by
  have htd' := htd
  unfold TD at htd'
  obtain ⟨he0, hEo, -⟩ := id hE
  obtain ⟨hS1, -⟩ := id hS
  obtain ⟨ht0, hT, -⟩ := id hTP
  obtain ⟨hd0, hD1, -⟩ := id hDP
  have hfr : ∀ j, j ≠ 1 ∧ (j < 6 ∨ 81 ≤ j) ∧ (j < 254 ∨ 257 ≤ j) → σ0 j = σ0 j := fun _ _ => rfl
  have hfo : ∀ j, j ≠ 1 → σ0 j = σ0 j := fun _ _ => rfl
  refine Ev.of (ls := [_, _]) 1 (by decide) rfl rfl ?_
  refine R_aload_n a_X10_takeDraft_0 rfl ?_
  refine R_get a_X10_takeDraft_1 hO rfl ?_
  refine R_astore_n (ls' := [_, _]) a_X10_takeDraft_4 rfl rfl rfl ?_
  refine R_aload_n a_X10_takeDraft_5 rfl ?_
  refine R_aload_n a_X10_takeDraft_6 rfl ?_
  refine R_get a_X10_takeDraft_7 hO rfl ?_
  refine R_putaK (fs' := [_, _, _, _, _, _, _, _, _, _, _, _]) a_X10_takeDraft_10 hO (fun _ => ⟨rfl, rfl⟩) rfl rfl (fun σ hO ho => ?_)
  have hEo := (ho _ (by omega)).trans hEo
  have hS1 := (ho _ (by omega)).trans hS1
  have hfr : ∀ j, j ≠ 1 ∧ (j < 6 ∨ 81 ≤ j) ∧ (j < 254 ∨ 257 ≤ j) → σ j = σ0 j := fun j hj => (ho j (by omega)).trans (hfr j hj)
  have hfo : ∀ j, j ≠ 1 → σ j = σ0 j := fun j hj => (ho j hj).trans (hfo j hj)
  refine R_aload_n a_X10_takeDraft_13 rfl ?_
  refine R_aload_n a_X10_takeDraft_14 rfl ?_
  refine R_putaK (fs' := [_, _, _, _, _, _, _, _, _, _, _, _]) a_X10_takeDraft_15 hO (fun _ => ⟨rfl, rfl⟩) rfl rfl (fun σ hO ho => ?_)
  have hEo := (ho _ (by omega)).trans hEo
  have hS1 := (ho _ (by omega)).trans hS1
  have hfr : ∀ j, j ≠ 1 ∧ (j < 6 ∨ 81 ≤ j) ∧ (j < 254 ∨ 257 ≤ j) → σ j = σ0 j := fun j hj => (ho j (by omega)).trans (hfr j hj)
  have hfo : ∀ j, j ≠ 1 → σ j = σ0 j := fun j hj => (ho j hj).trans (hfo j hj)
  refine R_aload_n a_X10_takeDraft_18 rfl ?_
  refine R_get a_X10_takeDraft_19 hO rfl ?_
  refine R_aload_n a_X10_takeDraft_22 rfl ?_
  refine R_get a_X10_takeDraft_23 hO rfl ?_
  refine R_callVv a_X10_takeDraft_26 hEo (ev_begin (hE.kept (fun j h1 h2 => hfo j (by omega))) (hDP.kept (fun j h1 h2 => hfo j (by omega))) hst (by omega)) rfl rfl rfl rfl rfl (fun σ hP => ?_)
  obtain ⟨hEn, hf⟩ := hP
  have hO := (hf 1 (by omega)).trans hO
  have hS1 := (hf 254 (by omega)).trans hS1
  have hS := (hS.kept (fun j h1 h2 => hfo j (by omega))).kept (fun j h1 h2 => hf j (by omega))
  have hfr : ∀ j, j ≠ 1 ∧ (j < 6 ∨ 81 ≤ j) ∧ (j < 254 ∨ 257 ≤ j) → σ j = σ0 j := fun j hj => (hf j (by omega)).trans (hfr j hj)
  refine R_aload_n a_X10_takeDraft_29 rfl ?_
  refine R_get a_X10_takeDraft_30 hO rfl ?_
  refine R_callVv a_X10_takeDraft_33 hS1 (ev_Sclear hS) rfl rfl rfl rfl rfl (fun σ hP => ?_)
  obtain ⟨hSn, hf⟩ := hP
  have hO := (hf 1 (by omega)).trans hO
  have hEn := hEn.fr hf (by omega)
  obtain ⟨he0, hEo, -⟩ := id hEn
  obtain ⟨hS1, -⟩ := id hSn
  have hfr : ∀ j, j ≠ 1 ∧ (j < 6 ∨ 81 ≤ j) ∧ (j < 254 ∨ 257 ≤ j) → σ j = σ0 j := fun j hj => (hf j (by omega)).trans (hfr j hj)
  refine R_aload_n a_X10_takeDraft_36 rfl ?_
  refine R_iconst (v := nI 0) a_X10_takeDraft_37 rfl ?_
  refine R_putiK (fs' := [_, _, _, _, _, _, _, _, _, _, _, _]) a_X10_takeDraft_38 hO rfl rfl (fun σ hO ho => ?_)
  have hEo := (ho _ (by omega)).trans hEo
  have hS1 := (ho _ (by omega)).trans hS1
  have hfr : ∀ j, j ≠ 1 ∧ (j < 6 ∨ 81 ≤ j) ∧ (j < 254 ∨ 257 ≤ j) → σ j = σ0 j := fun j hj => (ho j (by omega)).trans (hfr j hj)
  have hEn := hEn.kept (fun j h1 h2 => ho j (by omega))
  have hSn := hSn.kept (fun j h1 h2 => ho j (by omega))
  refine R_vret a_X10_takeDraft_41 rfl ?_
  exact ⟨rfl, hO, hEn, hSn, hfr⟩

theorem CP.lay {σ σ' : AHp} {U : Us} {t d : Nat} {D : Tb} {V : Vs} (htd : TD t d) (hv7 : ∀ k, k < 18 → ∀ m, m < 2 → (V.rf k).sd m ≤ 1) (hL : LtP σ U.tf U.tl) (hR : CR σ) (hK : CK σ U.T U.kp U.kn) (hW : CW σ) (hA : CA σ) (hPc : CT σ) (hF : CF σ) (hT : TbP σ t U.T) (hD : TbP σ d D) (hO : σ' 1 = some (clO d t 0)) (hE : EvR σ' 6 (D.st, 0, 0, 2 ^ D.st, 0, fun _ => 0, V.rf)) (hS : SyR σ' 0 U.sw U.ss) (hk : ∀ j, (j ≠ 1 ∧ (j < 6 ∨ 81 ≤ j) ∧ (j < 254 ∨ 257 ≤ j)) → σ' j = σ j) : CP σ' (U.tf, U.tl, D, U.T, [], 0, U.kp, 0, 0, U.sw, U.ss) := by
  have htd' := htd
  unfold TD at htd'
  have hK' : CK σ' D U.kp 0 := by
    have h2 := hK.kept (σ' := σ') (fun j a b => hk j (by omega))
    exact ⟨h2.1, fun k hk2 => by obtain ⟨V', a, b, -⟩ := h2.2 k hk2; exact ⟨V', a, b, fun q => absurd q (Nat.not_lt_zero _)⟩⟩
  exact ⟨d, t, (by unfold TD; omega), hO, hL.kept (fun j a b => hk j (by omega)), hR.kept (fun j a b => hk j (by omega)), ⟨_, hE, VH.begin hv7⟩, hK', hW.kept (fun j a b => hk j (by omega)), hA.kept (fun j a b => hk j (by omega)), hPc.kept (fun j a b => hk j (by omega)), hS, hF.kept (fun j a b => hk j (by omega)), hD.kept (fun j a b => hk j (by omega)), hT.kept (fun j a b => hk j (by omega))⟩
theorem rdA_in (t : Nat → Nat) (len : Nat) : ∀ (n p : Nat) (T : Tb), TbIn T → TbIn (rdA t len n p T).2 := by
  intro n
  induction n with
  | zero => intro p T h; exact h
  | succ n ih =>
    intro p T h
    simp only [rdA]
    split
    · split
      · exact h
      · split
        · exact h
        · split
          · exact ih _ _ (TbIn.tk h _ _)
          · exact h
    · exact h
theorem rdA_flt {t : Nat → Nat} {len : Nat} : ∀ {n p : Nat} {T : Tb} {a : Nat}, (rdA t len n p T).1 = some a → a < len := by
  intro n
  induction n with
  | zero => intro p T a h; cases h
  | succ n ih =>
    intro p T a h
    simp only [rdA] at h
    split at h
    · rename_i hp
      split at h
      · cases h; exact hp
      · split at h
        · cases h; exact hp
        · split at h
          · exact ih h
          · cases h; exact hp
    · cases h
set_option maxRecDepth 20000 in
theorem cl_lay {σ0 : AHp} {U : Us} {m : Nat} (hC : CP σ0 U) (hU : UOk U m) (hm : m < 2 ^ 20) : EvW M_X10_lay [.ref 1] σ0 (some (.int ((zLay U).1))) (fun σ => CP σ ((zLay U).2) ∧ Fr σ0 σ 1 271) := by
  obtain ⟨t, d, htd, hO, hL, hR, hV, hK, hW, hA, hPc, hS, hF, hTP, hDP⟩ := id hC
  have htd' := htd
  unfold TD at htd'
  obtain ⟨V, hE, hVH⟩ := id hV
  obtain ⟨he0, hEo, hEl, hEg, hEr⟩ := id hE
  obtain ⟨hL1, hL2, hL3⟩ := id hL
  obtain ⟨hS1, hS2, hS3, hS4⟩ := id hS
  obtain ⟨ht0, hT, hTk, hTh, hTn, hTf⟩ := id hTP
  have ok := hU.T
  obtain ⟨g3, g8, n1, n6, lw, stg, son, kd4, hn10, kn63, hf4⟩ := id ok
  obtain ⟨v1, v2, v3, v4, v5, v6, v7, v8⟩ := id hVH
  have hlen := hU.len
  have hu8 := hU.u8
  have hul := hU.ul
  have hkn2 := hU.kn2
  have hsg := saltF_lt ok U.h
  have hn64 : 2 ^ U.T.n ≤ 2 ^ 6 := Nat.pow_le_pow_right (by decide) n6
  have hg256 : 2 ^ U.T.g ≤ 2 ^ 8 := Nat.pow_le_pow_right (by decide) g8
  obtain ⟨rnf, rpl, hRr⟩ := id hR
  obtain ⟨hR1, -⟩ := id hRr
  obtain ⟨hd0, hD1, -⟩ := id hDP
  refine Ev.of (ls := [_]) 0 (by decide) rfl rfl ?_
  refine R_aload_n a_X10_lay_0 rfl ?_
  refine R_get a_X10_lay_1 hO rfl ?_
  refine R_aload_n a_X10_lay_4 rfl ?_
  refine R_get a_X10_lay_5 hO rfl ?_
  refine R_aload_n a_X10_lay_8 rfl ?_
  refine R_get a_X10_lay_9 hO rfl ?_
  refine R_callVs a_X10_lay_12 hR1 (ev_read hL hU.txt hRr hDP (by omega)) rfl rfl rfl rfl rfl (fun σ hP => ?_)
  obtain ⟨hDn, hRn, hf⟩ := hP
  have hfr : Fr σ0 σ 1 271 := fun j hj => hf j (by omega)
  have hC1 : CP σ (U.tf, U.tl, U.T, (rdU U).2, U.2.2.2.2) := CP.ofD htd hO hC hRn hDn hf
  have hTi : TbIn (rdU U).2 := rdA_in (tg U.tf U.tl) U.tl 200 0 (clr U.D) (TbIn.zero U.D)
  have hO := (hf 1 (by omega)).trans hO
  obtain ⟨-, hD1, -⟩ := id hDn
  refine R_bipush (v := (-4)) a_X10_lay_15 rfl ?_
  refine R_icmp_ne a_X10_lay_17 (fun h17 => ?_) (fun h17 => ?_)
  · skip
    have hz : zLay U = (-2, (U.tf, U.tl, U.T, (rdU U).2, U.2.2.2.2)) := by unfold zLay; rw [if_neg (fun q => h17 (by show fauI (rdU U).1 = -4; rw [q.1]; rfl))]
    refine R_bipush (v := (-2)) a_X10_lay_30 rfl ?_
    refine R_iret a_X10_lay_32 rfl ?_
    rw [hz]
    exact ⟨rfl, hC1, hfr⟩
  · skip
    have hno : (rdU U).1 = none := by
      have h17 : fauI (rdU U).1 = -4 := h17
      cases e : (rdU U).1 with
      | none => rfl
      | some a =>
        have ha : a < U.tl := rdA_flt e
        rw [e] at h17
        exact absurd h17 (by intro q; have q2 : nI a = -4 := q; have q3 := nI_pos (show a < 2 ^ 31 by omega); rw [q2] at q3; exact q3 (by decide))
    obtain ⟨i1, i2, i3, i4, i5, i6, i7, i8, i9⟩ := id hTi
    have hcl : b2n (canL (rdU U).2) ≤ 1 := b2n_le _
    refine R_aload_n a_X10_lay_20 rfl ?_
    refine R_get a_X10_lay_21 hO rfl ?_
    refine R_callVp a_X10_lay_24 hD1 (ev_canBeLaid hDn (show (rdU U).2.g < 2 ^ 20 by omega) (show (rdU U).2.n < 2 ^ 20 by omega) (show (rdU U).2.st < 2 ^ 20 by omega)) rfl rfl rfl rfl rfl ?_
    refine R_if_ne_n (a := b2n (canL (rdU U).2)) a_X10_lay_27 (by omega) (fun h27 => ?_) (fun h27 => ?_)
    · skip
      have hcn : canL (rdU U).2 = true := by
        rcases b2n_val (canL (rdU U).2) with ⟨q, -⟩ | ⟨-, q⟩
        · exact absurd q h27
        · exact q
      have hz : zLay U = (nI (rdU U).2.g, (U.tf, U.tl, (rdU U).2, U.T, [], 0, U.kp, 0, 0, U.sw, U.ss)) := by unfold zLay; rw [if_pos ⟨hno, hcn⟩]
      refine R_aload_n a_X10_lay_33 rfl ?_
      refine R_callVv a_X10_lay_34 hO (cl_takeDraft (D := (rdU U).2) htd hO (hE.kept (fun j h1 h2 => hf j (by omega))) (hS.kept (fun j h1 h2 => hf j (by omega))) (hTP.kept (fun j h1 h2 => hf j (by omega))) hDn i4) rfl rfl rfl rfl rfl (fun σ hP => ?_)
      obtain ⟨hO2, hE2, hS2_, hf2⟩ := hP
      have hC2 := CP.lay htd v7 (hL.kept (fun j h1 h2 => hf j (by omega))) hRn (hK.kept (fun j h1 h2 => hf j (by omega))) (hW.kept (fun j h1 h2 => hf j (by omega))) (hA.kept (fun j h1 h2 => hf j (by omega))) (hPc.kept (fun j h1 h2 => hf j (by omega))) (hF.kept (fun j h1 h2 => hf j (by omega))) (hTP.kept (fun j h1 h2 => hf j (by omega))) hDn hO2 hE2 hS2_ hf2
      have hfr : Fr σ0 σ 1 271 := fun j hj => (hf2 j (by omega)).trans (hfr j hj)
      have hO := hO2
      have hT := (hf2 d (by omega)).trans hD1
      refine R_aload_n a_X10_lay_37 rfl ?_
      refine R_get a_X10_lay_38 hO rfl ?_
      refine R_get a_X10_lay_41 hT rfl ?_
      refine R_iret a_X10_lay_44 rfl ?_
      rw [hz]
      exact ⟨rfl, hC2, hfr⟩
    · skip
      have hz : zLay U = (-2, (U.tf, U.tl, U.T, (rdU U).2, U.2.2.2.2)) := by unfold zLay; rw [if_neg (fun q => by rw [q.2] at h27; cases h27)]
      refine R_bipush (v := (-2)) a_X10_lay_30 rfl ?_
      refine R_iret a_X10_lay_32 rfl ?_
      rw [hz]
      exact ⟨rfl, hC1, hfr⟩

theorem sprK_congr {T : Tb} {c : Nat} {f f' x x' : Nat → Nat} (hc : ∀ j, j < T.g → f j = f' j) (hx : ∀ j, j < T.g → x j = x' j) : ∀ k, k ≤ T.g → ∀ j, j < T.g → sprK T c f x k j = sprK T c f' x' k j := by
  intro k
  induction k with
  | zero => intro _ j hj; exact hx j hj
  | succ k ih =>
    intro hk j hj
    have ih := ih (by omega)
    simp only [sprK]
    rw [hc k (by omega)]
    by_cases h : f' k < 1000
    · rw [if_pos h, if_pos h]
      unfold uN
      by_cases e : j = comesF T k c 128 T.so T.law
      · rw [if_pos e, if_pos e, ih _ (by rw [← e]; exact hj)]
      · rw [if_neg e, if_neg e]; exact ih j hj
    · rw [if_neg h, if_neg h]; exact ih j hj
theorem grIn_congr {T : Tb} {f f' x x' : Nat → Nat} {i : Nat} (hc : ∀ j, j < T.g → f j = f' j) (hx : ∀ j, j < T.g → x j = x' j) : ∀ k j, j < T.g → grIn T f i x k j = grIn T f' i x' k j := by
  intro k
  induction k with
  | zero => exact hx
  | succ k ih =>
    intro j hj
    simp only [grIn]
    by_cases h : bitN (T.kn i) k = 1
    · rw [if_pos h, if_pos h]
      exact sprK_congr hc (sprK_congr hc ih T.g (Nat.le_refl _)) T.g (Nat.le_refl _) j hj
    · rw [if_neg h, if_neg h]
      exact ih j hj
theorem grOut_congr {T : Tb} {f f' x x' : Nat → Nat} (hc : ∀ j, j < T.g → f j = f' j) (hx : ∀ j, j < T.g → x j = x' j) : ∀ k j, j < T.g → grOut T f x k j = grOut T f' x' k j := by
  intro k
  induction k with
  | zero => exact hx
  | succ k ih => exact grIn_congr hc ih T.n
theorem grF_congr {T : Tb} {f f' x x' : Nat → Nat} (hc : ∀ j, j < T.g → f j = f' j) (hx : ∀ j, j < T.g → x j = x' j) : ∀ j, j < T.g → grF T f x j = grF T f' x' j := grOut_congr hc (sprK_congr hc hx T.g (Nat.le_refl _)) T.g
theorem fwF_le (T : Tb) (s : Nat) : ∀ n, Le3 T.g (fwF T s n) := by
  intro n
  cases n with
  | zero =>
    intro j _
    show (if j = s then 0 else 1000) ≤ 1000
    split <;> omega
  | succ n => exact grOut_le (sprK_le (fun j _ => Nat.le_refl 1000) T.g) T.g
set_option maxRecDepth 20000 in
theorem lp_fewest {σ0 : AHp} {U : Us} {m : Nat} (hC : CP σ0 U) (hU : UOk U m) (hm : m < 2 ^ 20) {k n : Nat} (hk : k < U.T.g) (hn : n < 7) : ∀ (q i : Nat) (σ : AHp) (c d : Nat) (fc fd : Nat → Nat) (R : Rs), n - i = q → i ≤ n → PaP σ c d fc fd R → (∀ j, j < U.T.g → fc j = fwF U.T (saltF U.T U.h) i j) → (∀ j, j < 238 ∨ 238 + 7 ≤ j → σ j = σ0 j) → Run M_X10_fewest 43 [some (.ref 1), some (.int (nI k)), some (.int (nI n)), some (.int (nI i))] [] σ 0 0 (fun r σ => r = some (.int (if fwF U.T (saltF U.T U.h) n k < 1000 then nI (fwF U.T (saltF U.T U.h) n k) else -4)) ∧ CP σ U ∧ Fr σ0 σ 1 271) := by
  obtain ⟨t, d, htd, hO, hL, hR, hV, hK, hW, hA, hPc, hS, hF, hTP, hDP⟩ := id hC
  have htd' := htd
  unfold TD at htd'
  obtain ⟨V, hE, hVH⟩ := id hV
  obtain ⟨he0, hEo, hEl, hEg, hEr⟩ := id hE
  obtain ⟨hL1, hL2, hL3⟩ := id hL
  obtain ⟨hS1, hS2, hS3, hS4⟩ := id hS
  obtain ⟨ht0, hT, hTk, hTh, hTn, hTf⟩ := id hTP
  have ok := hU.T
  obtain ⟨g3, g8, n1, n6, lw, stg, son, kd4, hn10, kn63, hf4⟩ := id ok
  obtain ⟨v1, v2, v3, v4, v5, v6, v7, v8⟩ := id hVH
  have hlen := hU.len
  have hu8 := hU.u8
  have hul := hU.ul
  have hkn2 := hU.kn2
  have hsg := saltF_lt ok U.h
  have hn64 : 2 ^ U.T.n ≤ 2 ^ 6 := Nat.pow_le_pow_right (by decide) n6
  have hg256 : 2 ^ U.T.g ≤ 2 ^ 8 := Nat.pow_le_pow_right (by decide) g8
  intro q
  induction q using Nat.strongRecOn
  rename_i q ih
  intro i σ c_ d_ fc fd R hq hi hPa hfc hfr
  have hO := (hfr 1 (by omega)).trans hO
  have hT := (hfr t (by omega)).trans hT
  have hTP : TbP σ t U.T := hTP.kept (fun j h1 h2 => hfr j (by omega))
  obtain ⟨hA1, -⟩ := id hPa
  have hfw := fwF_le U.T (saltF U.T U.h) i
  have hl3 : Le3 U.T.g fc := fun j hj => by rw [hfc j hj]; exact hfw j hj
  refine R_iload_n a_X10_fewest_43 rfl ?_
  refine R_iload_n a_X10_fewest_44 rfl ?_
  first | with_reducible refine R_icmp_ge_n a_X10_fewest_45 (by first | omega | exact Nat.lt_of_le_of_lt (inR_le _ _) (by decide) | exact Nat.lt_of_le_of_lt (bitN_le _ _) (by decide)) (by first | omega | exact Nat.lt_of_le_of_lt (inR_le _ _) (by decide) | exact Nat.lt_of_le_of_lt (bitN_le _ _) (by decide)) (fun h45 => ?_) (fun h45 => ?_) | refine R_icmp_ge a_X10_fewest_45 (fun h45 => ?_) (fun h45 => ?_)
  · skip
    have hin : i = n := by omega
    subst hin
    refine R_aload_n a_X10_fewest_65 rfl ?_
    refine R_get a_X10_fewest_66 hO rfl ?_
    refine R_iload_n a_X10_fewest_69 rfl ?_
    refine R_callVp a_X10_fewest_70 hA1 (ev_costOf hPa (by omega) (hl3 k hk)) rfl rfl rfl rfl rfl ?_
    refine R_iret a_X10_fewest_73 rfl ?_
    exact ⟨by rw [hfc k hk], hC.ofA ⟨_, _, _, _, _, hPa⟩ hfr, fun j hj => hfr j (by omega)⟩
  · skip
    refine R_aload_n a_X10_fewest_48 rfl ?_
    refine R_get a_X10_fewest_49 hO rfl ?_
    refine R_aload_n a_X10_fewest_52 rfl ?_
    refine R_get a_X10_fewest_53 hO rfl ?_
    refine R_callVv a_X10_fewest_56 hA1 (ev_goOne hTP ok (by omega) hl3 hPa) rfl rfl rfl rfl rfl (fun σ hP => ?_)
    obtain ⟨⟨nx0, R2, hnx, hPa2⟩, hf2⟩ := hP
    have hfc2 : ∀ j, j < U.T.g → grF U.T fc nx0 j = fwF U.T (saltF U.T U.h) (i + 1) j := grF_congr hfc hnx
    have hfr2 : ∀ j, j < 238 ∨ 238 + 7 ≤ j → σ j = σ0 j := fun j hj => (hf2 j hj).trans (hfr j hj)
    first | with_reducible refine R_iinc_n (ls' := [_, _, _, _]) a_X10_fewest_59 rfl rfl rfl rfl ?_ | refine R_iinc (ls' := [_, _, _, _]) a_X10_fewest_59 rfl rfl rfl rfl rfl ?_
    refine R_goto a_X10_fewest_62 ?_
    exact ih _ (show n - (i + 1) < q by omega) (i + 1) σ _ _ _ _ _ rfl (by omega) hPa2 hfc2 hfr2

set_option maxRecDepth 20000 in
theorem cl_fewest {σ0 : AHp} {U : Us} {m : Nat} (hC : CP σ0 U) (hU : UOk U m) (hm : m < 2 ^ 20) {x y : Int32} : EvW M_X10_fewest [.ref 1, .int x, .int y] σ0 (some (.int (zFewest U x y))) (fun σ => CP σ (U) ∧ Fr σ0 σ 1 271) := by
  obtain ⟨t, d, htd, hO, hL, hR, hV, hK, hW, hA, hPc, hS, hF, hTP, hDP⟩ := id hC
  have htd' := htd
  unfold TD at htd'
  obtain ⟨V, hE, hVH⟩ := id hV
  obtain ⟨he0, hEo, hEl, hEg, hEr⟩ := id hE
  obtain ⟨hL1, hL2, hL3⟩ := id hL
  obtain ⟨hS1, hS2, hS3, hS4⟩ := id hS
  obtain ⟨ht0, hT, hTk, hTh, hTn, hTf⟩ := id hTP
  have ok := hU.T
  obtain ⟨g3, g8, n1, n6, lw, stg, son, kd4, hn10, kn63, hf4⟩ := id ok
  obtain ⟨v1, v2, v3, v4, v5, v6, v7, v8⟩ := id hVH
  have hlen := hU.len
  have hu8 := hU.u8
  have hul := hU.ul
  have hkn2 := hU.kn2
  have hsg := saltF_lt ok U.h
  have hn64 : 2 ^ U.T.n ≤ 2 ^ 6 := Nat.pow_le_pow_right (by decide) n6
  have hg256 : 2 ^ U.T.g ≤ 2 ^ 8 := Nat.pow_le_pow_right (by decide) g8
  obtain ⟨pc_, pd_, pfc, pfd, pR, hPa⟩ := id hA
  obtain ⟨hA1, -⟩ := id hPa
  refine Ev.of (ls := [_, _, _, _]) 1 (by decide) rfl rfl ?_
  refine R_aload_n a_X10_fewest_0 rfl ?_
  refine R_get a_X10_fewest_1 hO rfl ?_
  refine R_iload_n a_X10_fewest_4 rfl ?_
  refine R_callVp a_X10_fewest_5 hT (ev_hasGuest hTP ok) rfl rfl rfl rfl rfl ?_
  first | with_reducible refine R_if_eq_n a_X10_fewest_8 (by first | omega | exact Nat.lt_of_le_of_lt (inR_le _ _) (by decide) | exact Nat.lt_of_le_of_lt (bitN_le _ _) (by decide)) (fun h8 => ?_) (fun h8 => ?_) | refine R_if_eq a_X10_fewest_8 (fun h8 => ?_) (fun h8 => ?_)
  · skip
    have hz : zFewest U x y = -1 := by unfold zFewest; rw [gd_out h8]
    refine R_iconst (v := (-1)) a_X10_fewest_21 rfl ?_
    refine R_iret a_X10_fewest_22 rfl ?_
    exact ⟨by rw [hz], hC, Fr.rf _ _ _⟩
  · skip
    obtain ⟨k, hk, rfl⟩ := inR_nz (by omega) h8
    refine R_iload_n a_X10_fewest_11 rfl ?_
    refine R_if_lt a_X10_fewest_12 (fun h12 => ?_) (fun h12 => ?_)
    · skip
      have hz : zFewest U (nI k) y = -1 := by unfold zFewest; rw [gd_in hk (by omega), gd_out (inR_0a h12)]
      refine R_iconst (v := (-1)) a_X10_fewest_21 rfl ?_
      refine R_iret a_X10_fewest_22 rfl ?_
      exact ⟨by rw [hz], hC, Fr.rf _ _ _⟩
    · skip
      refine R_iload_n a_X10_fewest_15 rfl ?_
      refine R_bipush (v := nI 6) a_X10_fewest_16 rfl ?_
      refine R_icmp_le a_X10_fewest_18 (fun h18 => ?_) (fun h18 => ?_)
      · skip
        obtain ⟨n, hn, rfl⟩ := le_in (n := 6) (by decide) h12 (Int32.not_lt.mpr h18)
        have hz : zFewest U (nI k) (nI n) = if fwF U.T (saltF U.T U.h) n k < 1000 then nI (fwF U.T (saltF U.T U.h) n k) else -4 := by unfold zFewest; rw [gd_in hk (by omega), gd_in hn (by decide)]
        refine R_aload_n a_X10_fewest_23 rfl ?_
        refine R_get a_X10_fewest_24 hO rfl ?_
        refine R_aload_n a_X10_fewest_27 rfl ?_
        refine R_get a_X10_fewest_28 hO rfl ?_
        refine R_aload_n a_X10_fewest_31 rfl ?_
        refine R_get a_X10_fewest_32 hO rfl ?_
        refine R_get a_X10_fewest_35 hEo rfl ?_
        refine R_callVv a_X10_fewest_38 hA1 (ev_pbegin hTP ok (by omega) (show V.sa < U.T.g by rw [v1]; exact hsg) hPa) rfl rfl rfl rfl rfl (fun σ hP => ?_)
        obtain ⟨⟨f0, hPa2, hf0⟩, hf2⟩ := hP
        refine R_iconst (v := nI 0) a_X10_fewest_41 rfl ?_
        refine R_istore_n (ls' := [_, _, _, _]) a_X10_fewest_42 rfl rfl rfl ?_
        rw [hz]
        exact lp_fewest hC hU hm hk hn _ 0 σ _ _ _ _ _ rfl (Nat.zero_le _) hPa2 (fun j hj => by rw [hf0 j hj, v1]; rfl) hf2
      · skip
        have hz : zFewest U (nI k) y = -1 := by unfold zFewest; rw [gd_in hk (by omega), gd_out (gt_out (by decide) (Int32.not_le.mp h18))]
        refine R_iconst (v := (-1)) a_X10_fewest_21 rfl ?_
        refine R_iret a_X10_fewest_22 rfl ?_
        exact ⟨by rw [hz], hC, Fr.rf _ _ _⟩

set_option maxRecDepth 20000 in
theorem cl_rests {σ0 : AHp} {U : Us} {m : Nat} (hC : CP σ0 U) (hU : UOk U m) (hm : m < 2 ^ 20) {x y x' y' w : Int32} : EvW M_X10_rests [.ref 1, .int x, .int y, .int x', .int y', .int w] σ0 (some (.int (zRests U x y x' y' w))) (fun σ => CP σ (U) ∧ Fr σ0 σ 1 271) := by
  obtain ⟨t, d, htd, hO, hL, hR, hV, hK, hW, hA, hPc, hS, hF, hTP, hDP⟩ := id hC
  have htd' := htd
  unfold TD at htd'
  obtain ⟨V, hE, hVH⟩ := id hV
  obtain ⟨he0, hEo, hEl, hEg, hEr⟩ := id hE
  obtain ⟨hL1, hL2, hL3⟩ := id hL
  obtain ⟨hS1, hS2, hS3, hS4⟩ := id hS
  obtain ⟨ht0, hT, hTk, hTh, hTn, hTf⟩ := id hTP
  have ok := hU.T
  obtain ⟨g3, g8, n1, n6, lw, stg, son, kd4, hn10, kn63, hf4⟩ := id ok
  obtain ⟨v1, v2, v3, v4, v5, v6, v7, v8⟩ := id hVH
  have hlen := hU.len
  have hu8 := hU.u8
  have hul := hU.ul
  have hkn2 := hU.kn2
  have hsg := saltF_lt ok U.h
  have hn64 : 2 ^ U.T.n ≤ 2 ^ 6 := Nat.pow_le_pow_right (by decide) n6
  have hg256 : 2 ^ U.T.g ≤ 2 ^ 8 := Nat.pow_le_pow_right (by decide) g8
  obtain ⟨pst, pfs, pw, ptp, pf1, pf2, pR, hPr⟩ := id hPc
  obtain ⟨hPc1, -⟩ := id hPr
  refine Ev.of (ls := [_, _, _, _, _, _]) 0 (by decide) rfl rfl ?_
  refine R_aload_n a_X10_rests_0 rfl ?_
  refine R_iload_n a_X10_rests_1 rfl ?_
  refine R_iload_n a_X10_rests_2 rfl ?_
  refine R_callVp a_X10_rests_3 hO (cl_arePair hC hU hm) rfl rfl rfl rfl rfl ?_
  have hpl : (gd 0 x U.T.g fun i => gd 0 x' U.T.g fun j => if i = j then 0 else 1) ≤ 1 := by
    unfold gd
    dsimp only
    split
    · split
      · split <;> omega
      · omega
    · omega
  first | with_reducible refine R_if_eq_n a_X10_rests_6 (by first | omega | exact Nat.lt_of_le_of_lt (inR_le _ _) (by decide) | exact Nat.lt_of_le_of_lt (bitN_le _ _) (by decide)) (fun hpr => ?_) (fun hpr => ?_) | refine R_if_eq a_X10_rests_6 (fun hpr => ?_) (fun hpr => ?_)
  · skip
    have hz : zRests U x y x' y' w = -1 := by
      unfold zRests
      rcases inR_split x (g := U.T.g) (by omega) with ⟨q, -⟩ | ⟨-, i, hi, rfl⟩
      · rw [gd_out q]
      · rw [gd_in hi (by omega)] at hpr ⊢
        rcases inR_split x' (g := U.T.g) (by omega) with ⟨q, -⟩ | ⟨-, j, hj, rfl⟩
        · rw [gd_out q]
        · rw [gd_in hj (by omega)] at hpr ⊢
          by_cases e : i = j
          · rw [if_pos e]
          · rw [if_neg e] at hpr; cases hpr
    refine R_iconst (v := (-1)) a_X10_rests_43 rfl ?_
    refine R_iret a_X10_rests_44 rfl ?_
    exact ⟨by rw [hz], hC, Fr.rf _ _ _⟩
  · skip
    obtain ⟨i, j, hi, hj, hij, rfl, rfl⟩ : ∃ i j, i < U.T.g ∧ j < U.T.g ∧ ¬ i = j ∧ x = nI i ∧ x' = nI j := by
      rcases inR_split x (g := U.T.g) (by omega) with ⟨q, -⟩ | ⟨-, i, hi, rfl⟩
      · rw [gd_out q] at hpr; exact absurd rfl hpr
      · rw [gd_in hi (by omega)] at hpr
        rcases inR_split x' (g := U.T.g) (by omega) with ⟨q, -⟩ | ⟨-, j, hj, rfl⟩
        · rw [gd_out q] at hpr; exact absurd rfl hpr
        · rw [gd_in hj (by omega)] at hpr
          by_cases e : i = j
          · rw [if_pos e] at hpr; exact absurd rfl hpr
          · exact ⟨i, j, hi, hj, e, rfl, rfl⟩
    refine R_aload_n a_X10_rests_9 rfl ?_
    refine R_get a_X10_rests_10 hO rfl ?_
    refine R_iload_n a_X10_rests_13 rfl ?_
    refine R_callVp a_X10_rests_14 hT (ev_hasThing hTP ok) rfl rfl rfl rfl rfl ?_
    first | with_reducible refine R_if_eq_n a_X10_rests_17 (by first | omega | exact Nat.lt_of_le_of_lt (inR_le _ _) (by decide) | exact Nat.lt_of_le_of_lt (bitN_le _ _) (by decide)) (fun h17 => ?_) (fun h17 => ?_) | refine R_if_eq a_X10_rests_17 (fun h17 => ?_) (fun h17 => ?_)
    · skip
      have hz : zRests U (nI i) y (nI j) y' w = -1 := by unfold zRests; rw [gd_in hi (by omega), gd_in hj (by omega), if_neg hij, gd_out h17]
      refine R_iconst (v := (-1)) a_X10_rests_43 rfl ?_
      refine R_iret a_X10_rests_44 rfl ?_
      exact ⟨by rw [hz], hC, Fr.rf _ _ _⟩
    · skip
      obtain ⟨s, hs, rfl⟩ := inR_nz (by omega) h17
      refine R_aload_n a_X10_rests_20 rfl ?_
      refine R_get a_X10_rests_21 hO rfl ?_
      refine R_iload a_X10_rests_24 rfl ?_
      refine R_callVp a_X10_rests_26 hT (ev_hasThing hTP ok) rfl rfl rfl rfl rfl ?_
      first | with_reducible refine R_if_eq_n a_X10_rests_29 (by first | omega | exact Nat.lt_of_le_of_lt (inR_le _ _) (by decide) | exact Nat.lt_of_le_of_lt (bitN_le _ _) (by decide)) (fun h29 => ?_) (fun h29 => ?_) | refine R_if_eq a_X10_rests_29 (fun h29 => ?_) (fun h29 => ?_)
      · skip
        have hz : zRests U (nI i) (nI s) (nI j) y' w = -1 := by unfold zRests; rw [gd_in hi (by omega), gd_in hj (by omega), if_neg hij, gd_in hs (by omega), gd_out h29]
        refine R_iconst (v := (-1)) a_X10_rests_43 rfl ?_
        refine R_iret a_X10_rests_44 rfl ?_
        exact ⟨by rw [hz], hC, Fr.rf _ _ _⟩
      · skip
        obtain ⟨k, hk, rfl⟩ := inR_nz (by omega) h29
        refine R_iload a_X10_rests_32 rfl ?_
        refine R_if_lt a_X10_rests_34 (fun h34 => ?_) (fun h34 => ?_)
        · skip
          have hz : zRests U (nI i) (nI s) (nI j) (nI k) w = -1 := by unfold zRests; rw [gd_in hi (by omega), gd_in hj (by omega), if_neg hij, gd_in hs (by omega), gd_in hk (by omega), gd_out (inR_0a h34)]
          refine R_iconst (v := (-1)) a_X10_rests_43 rfl ?_
          refine R_iret a_X10_rests_44 rfl ?_
          exact ⟨by rw [hz], hC, Fr.rf _ _ _⟩
        · skip
          refine R_iload a_X10_rests_37 rfl ?_
          refine R_iconst (v := nI 1) a_X10_rests_39 rfl ?_
          refine R_icmp_le a_X10_rests_40 (fun h40 => ?_) (fun h40 => ?_)
          · skip
            obtain ⟨c, hc, rfl⟩ := le_in (n := 1) (by decide) h34 (Int32.not_lt.mpr h40)
            refine R_aload_n a_X10_rests_45 rfl ?_
            refine R_get a_X10_rests_46 hO rfl ?_
            refine R_iload_n a_X10_rests_49 rfl ?_
            refine R_iload_n a_X10_rests_50 rfl ?_
            refine R_iload_n a_X10_rests_51 rfl ?_
            refine R_iload a_X10_rests_52 rfl ?_
            refine R_callVv a_X10_rests_54 hPc1 (ev_between hPr) rfl rfl rfl rfl rfl (fun σ hP => ?_)
            obtain ⟨hPn, hf⟩ := hP
            have hO := (hf 1 (by omega)).trans hO
            have hT := (hf t (by omega)).trans hT
            have hEo := (hf 6 (by omega)).trans hEo
            have hTP := hTP.fr hf (by omega)
            obtain ⟨hPc1, -⟩ := id hPn
            refine R_aload_n a_X10_rests_57 rfl ?_
            refine R_get a_X10_rests_58 hO rfl ?_
            refine R_aload_n a_X10_rests_61 rfl ?_
            refine R_get a_X10_rests_62 hO rfl ?_
            refine R_aload_n a_X10_rests_65 rfl ?_
            refine R_get a_X10_rests_66 hO rfl ?_
            refine R_get a_X10_rests_69 hEo rfl ?_
            refine R_callVv a_X10_rests_72 hPc1 (ev_weigh hTP ok (by omega) (show V.sa < U.T.g by rw [v1]; exact hsg) hi hs hj hk hPn) rfl rfl rfl rfl rfl (fun σ hP => ?_)
            obtain ⟨⟨f1, f2, R2, hPm⟩, hf2⟩ := hP
            have hO := (hf2 1 (by omega)).trans hO
            have hPm : PcR σ (rsN (okW U.T V.sa i s j k) 0) (rsF (okW U.T V.sa i s j k) 0) _ _ f1 f2 R2 := hPm
            have hf := hf.trans hf2
            obtain ⟨hPc1, -⟩ := id hPm
            refine R_iload a_X10_rests_75 rfl ?_
            first | with_reducible refine R_if_ne_n a_X10_rests_77 (by first | omega | exact Nat.lt_of_le_of_lt (inR_le _ _) (by decide) | exact Nat.lt_of_le_of_lt (bitN_le _ _) (by decide)) (fun h77 => ?_) (fun h77 => ?_) | refine R_if_ne a_X10_rests_77 (fun h77 => ?_) (fun h77 => ?_)
            · skip
              have hz : zRests U (nI i) (nI s) (nI j) (nI k) (nI c) = rsF (okW U.T V.sa i s j k) 0 := by unfold zRests; rw [gd_in hi (by omega), gd_in hj (by omega), if_neg hij, gd_in hs (by omega), gd_in hk (by omega), gd_in hc (by decide), if_neg h77, v1]
              refine R_aload_n a_X10_rests_90 rfl ?_
              refine R_get a_X10_rests_91 hO rfl ?_
              refine R_get a_X10_rests_94 hPc1 rfl ?_
              refine R_iret a_X10_rests_97 rfl ?_
              exact ⟨by rw [hz], hC.ofT ⟨_, _, _, _, _, _, _, hPm⟩ hf, hf.wide (by omega) (by omega)⟩
            · skip
              have hz : zRests U (nI i) (nI s) (nI j) (nI k) (nI c) = nI (rsN (okW U.T V.sa i s j k) 0) := by unfold zRests; rw [gd_in hi (by omega), gd_in hj (by omega), if_neg hij, gd_in hs (by omega), gd_in hk (by omega), gd_in hc (by decide), if_pos h77, v1]
              refine R_aload_n a_X10_rests_80 rfl ?_
              refine R_get a_X10_rests_81 hO rfl ?_
              refine R_get a_X10_rests_84 hPc1 rfl ?_
              refine R_goto a_X10_rests_87 ?_
              refine R_iret a_X10_rests_97 rfl ?_
              exact ⟨by rw [hz], hC.ofT ⟨_, _, _, _, _, _, _, hPm⟩ hf, hf.wide (by omega) (by omega)⟩
          · skip
            have hz : zRests U (nI i) (nI s) (nI j) (nI k) w = -1 := by unfold zRests; rw [gd_in hi (by omega), gd_in hj (by omega), if_neg hij, gd_in hs (by omega), gd_in hk (by omega), gd_out (gt_out (by decide) (Int32.not_le.mp h40))]
            refine R_iconst (v := (-1)) a_X10_rests_43 rfl ?_
            refine R_iret a_X10_rests_44 rfl ?_
            exact ⟨by rw [hz], hC, Fr.rf _ _ _⟩

theorem CP.keep {σ σ' : AHp} {U : Us} {t d : Nat} {V : Vs} (htd : TD t d) (hk2 : U.kn < 2) (hVH : VH V U.T U.h U.u) (hL : LtP σ U.tf U.tl) (hR : CR σ) (hV : CVe σ U.T U.h U.u) (hK : CK σ U.T U.kp U.kn) (hW : CW σ) (hA : CA σ) (hPc : CT σ) (hS : SyR σ U.ns U.sw U.ss) (hF : CF σ) (hT : TbP σ t U.T) (hD : TbP σ d U.D) (hO : σ' 1 = some (clO t d (U.kn + 1))) (hE : EvR σ' (82 + 75 * U.kn) (V.sa, V.ro, V.un, V.tr, 0, V.ld, V.rf)) (hk : ∀ j, j ≠ 1 ∧ (j < 82 + 75 * U.kn ∨ 82 + 75 * U.kn + 75 ≤ j) → σ' j = σ j) : CP σ' (U.tf, U.tl, U.T, U.D, U.h, U.u, kpU U, U.kn + 1, U.2.2.2.2.2.2.2.2) := by
  have htd' := htd
  unfold TD at htd'
  have hK' : CK σ' U.T (kpU U) (U.kn + 1) := by
    refine ⟨(hk _ (by omega)).trans hK.1, fun k h2 => ?_⟩
    by_cases e : k = U.kn
    · subst e
      refine ⟨_, hE, hVH.2.2.2.2.2.2.1, fun _ => ?_⟩
      rw [show kpU U U.kn = U.h from if_pos rfl]
      exact hVH.copy
    · obtain ⟨V', a, b, c⟩ := hK.2 k h2
      refine ⟨V', a.kept (fun j h1 h2 => hk j (by omega)), b, fun h3 => ?_⟩
      rw [show kpU U k = U.kp k from if_neg e]
      exact c (by omega)
  exact ⟨t, d, htd, hO, hL.kept (fun j a b => hk j (by omega)), hR.kept (fun j a b => hk j (by omega)), hV.kept (fun j a b => hk j (by omega)), hK', hW.kept (fun j a b => hk j (by omega)), hA.kept (fun j a b => hk j (by omega)), hPc.kept (fun j a b => hk j (by omega)), hS.kept (fun j a b => hk j (by omega)), hF.kept (fun j a b => hk j (by omega)), hT.kept (fun j a b => hk j (by omega)), hD.kept (fun j a b => hk j (by omega))⟩
theorem CP.back {σ σ' : AHp} {U : Us} {t d : Nat} {V : Vs} (htd : TD t d) (hk2 : U.kn ≤ 2) (hVH : VH V U.T (U.kp (U.kn - 1)) 0) (hL : LtP σ U.tf U.tl) (hR : CR σ) (hK : CK σ U.T U.kp U.kn) (hW : CW σ) (hA : CA σ) (hPc : CT σ) (hS : SyR σ U.ns U.sw U.ss) (hF : CF σ) (hT : TbP σ t U.T) (hD : TbP σ d U.D) (hO : σ' 1 = some (clO t d (U.kn - 1))) (hE : EvR σ' 6 (V.sa, V.ro, V.un, V.tr, 0, V.ld, V.rf)) (hk : ∀ j, j ≠ 1 ∧ (j < 6 ∨ 6 + 75 ≤ j) → σ' j = σ j) : CP σ' (U.tf, U.tl, U.T, U.D, U.kp (U.kn - 1), 0, U.kp, U.kn - 1, U.2.2.2.2.2.2.2.2) := by
  have htd' := htd
  unfold TD at htd'
  have hK' : CK σ' U.T U.kp (U.kn - 1) := by
    have h2 := hK.kept (σ' := σ') (fun j a b => hk j (by omega))
    exact ⟨h2.1, fun k hk2 => by obtain ⟨V', a, b, c⟩ := h2.2 k hk2; exact ⟨V', a, b, fun q => c (by omega)⟩⟩
  exact ⟨t, d, htd, hO, hL.kept (fun j a b => hk j (by omega)), hR.kept (fun j a b => hk j (by omega)), ⟨_, hE, hVH.copy⟩, hK', hW.kept (fun j a b => hk j (by omega)), hA.kept (fun j a b => hk j (by omega)), hPc.kept (fun j a b => hk j (by omega)), hS.kept (fun j a b => hk j (by omega)), hF.kept (fun j a b => hk j (by omega)), hT.kept (fun j a b => hk j (by omega)), hD.kept (fun j a b => hk j (by omega))⟩
set_option maxRecDepth 20000 in
theorem cl_keep {σ0 : AHp} {U : Us} {m : Nat} (hC : CP σ0 U) (hU : UOk U m) (hm : m < 2 ^ 20) : EvW M_X10_keep [.ref 1] σ0 (some (.int ((zKeep U).1))) (fun σ => CP σ ((zKeep U).2) ∧ Fr σ0 σ 1 271) := by
  obtain ⟨t, d, htd, hO, hL, hR, hV, hK, hW, hA, hPc, hS, hF, hTP, hDP⟩ := id hC
  have htd' := htd
  unfold TD at htd'
  obtain ⟨V, hE, hVH⟩ := id hV
  obtain ⟨he0, hEo, hEl, hEg, hEr⟩ := id hE
  obtain ⟨hL1, hL2, hL3⟩ := id hL
  obtain ⟨hS1, hS2, hS3, hS4⟩ := id hS
  obtain ⟨ht0, hT, hTk, hTh, hTn, hTf⟩ := id hTP
  have ok := hU.T
  obtain ⟨g3, g8, n1, n6, lw, stg, son, kd4, hn10, kn63, hf4⟩ := id ok
  obtain ⟨v1, v2, v3, v4, v5, v6, v7, v8⟩ := id hVH
  have hlen := hU.len
  have hu8 := hU.u8
  have hul := hU.ul
  have hkn2 := hU.kn2
  have hsg := saltF_lt ok U.h
  have hn64 : 2 ^ U.T.n ≤ 2 ^ 6 := Nat.pow_le_pow_right (by decide) n6
  have hg256 : 2 ^ U.T.g ≤ 2 ^ 8 := Nat.pow_le_pow_right (by decide) g8
  obtain ⟨hK1, hK2⟩ := id hK
  refine Ev.of (ls := [_]) 0 (by decide) rfl rfl ?_
  refine R_aload_n a_X10_keep_0 rfl ?_
  refine R_get a_X10_keep_1 hO rfl ?_
  refine R_iconst (v := nI 2) a_X10_keep_4 rfl ?_
  first | with_reducible refine R_icmp_lt_n a_X10_keep_5 (by first | omega | exact Nat.lt_of_le_of_lt (inR_le _ _) (by decide) | exact Nat.lt_of_le_of_lt (bitN_le _ _) (by decide)) (by first | omega | exact Nat.lt_of_le_of_lt (inR_le _ _) (by decide) | exact Nat.lt_of_le_of_lt (bitN_le _ _) (by decide)) (fun h5 => ?_) (fun h5 => ?_) | refine R_icmp_lt a_X10_keep_5 (fun h5 => ?_) (fun h5 => ?_)
  · skip
    have hz : zKeep U = (nI (U.kn + 1), (U.tf, U.tl, U.T, U.D, U.h, U.u, kpU U, U.kn + 1, U.2.2.2.2.2.2.2.2)) := by unfold zKeep; rw [if_pos h5]
    obtain ⟨V2, hE2, hsd2, -⟩ := hK2 U.kn h5
    obtain ⟨-, hKo, -⟩ := id hE2
    refine R_aload_n a_X10_keep_11 rfl ?_
    refine R_get a_X10_keep_12 hO rfl ?_
    refine R_aload_n a_X10_keep_15 rfl ?_
    refine R_get a_X10_keep_16 hO rfl ?_
    refine R_aald_n a_X10_keep_19 hK1 (by first | omega | exact Nat.lt_of_le_of_lt (inR_le _ _) (by decide) | exact Nat.lt_of_le_of_lt (bitN_le _ _) (by decide)) (by decide) rfl ?_
    refine R_aload_n a_X10_keep_20 rfl ?_
    refine R_get a_X10_keep_21 hO rfl ?_
    refine R_callVv a_X10_keep_24 hKo (ev_copyE hE2 hE (by omega) v7) rfl rfl rfl rfl rfl (fun σ hP => ?_)
    obtain ⟨hEn, hf⟩ := hP
    have hO := (hf 1 (by omega)).trans hO
    refine R_aload_n a_X10_keep_27 rfl ?_
    refine R_dup a_X10_keep_28 rfl ?_
    refine R_get a_X10_keep_29 hO rfl ?_
    refine R_iconst (v := nI 1) a_X10_keep_32 rfl ?_
    first | with_reducible refine R_iadd_n a_X10_keep_33 ?_ | refine R_iadd a_X10_keep_33 ?_
    refine R_putiK (fs' := [_, _, _, _, _, _, _, _, _, _, _, _]) a_X10_keep_34 hO rfl rfl (fun σ hO ho => ?_)
    have hk : ∀ j, j ≠ 1 ∧ (j < 82 + 75 * U.kn ∨ 82 + 75 * U.kn + 75 ≤ j) → σ j = σ0 j := fun j hj => (ho j hj.1).trans (hf j hj.2)
    have hEn := hEn.kept (fun j h1 h2 => ho j (by omega))
    refine R_aload_n a_X10_keep_37 rfl ?_
    refine R_get a_X10_keep_38 hO rfl ?_
    refine R_iret a_X10_keep_41 rfl ?_
    rw [hz]
    exact ⟨rfl, CP.keep htd h5 hVH hL hR hV hK hW hA hPc hS hF hTP hDP hO hEn hk, fun j hj => hk j (by omega)⟩
  · skip
    have hz : zKeep U = (-3, U) := by unfold zKeep; rw [if_neg (by omega)]
    refine R_bipush (v := (-3)) a_X10_keep_8 rfl ?_
    refine R_iret a_X10_keep_10 rfl ?_
    rw [hz]
    exact ⟨rfl, hC, Fr.rf _ _ _⟩

set_option maxRecDepth 20000 in
theorem cl_back {σ0 : AHp} {U : Us} {m : Nat} (hC : CP σ0 U) (hU : UOk U m) (hm : m < 2 ^ 20) : EvW M_X10_back [.ref 1] σ0 (some (.int ((zBack U).1))) (fun σ => CP σ ((zBack U).2) ∧ Fr σ0 σ 1 271) := by
  obtain ⟨t, d, htd, hO, hL, hR, hV, hK, hW, hA, hPc, hS, hF, hTP, hDP⟩ := id hC
  have htd' := htd
  unfold TD at htd'
  obtain ⟨V, hE, hVH⟩ := id hV
  obtain ⟨he0, hEo, hEl, hEg, hEr⟩ := id hE
  obtain ⟨hL1, hL2, hL3⟩ := id hL
  obtain ⟨hS1, hS2, hS3, hS4⟩ := id hS
  obtain ⟨ht0, hT, hTk, hTh, hTn, hTf⟩ := id hTP
  have ok := hU.T
  obtain ⟨g3, g8, n1, n6, lw, stg, son, kd4, hn10, kn63, hf4⟩ := id ok
  obtain ⟨v1, v2, v3, v4, v5, v6, v7, v8⟩ := id hVH
  have hlen := hU.len
  have hu8 := hU.u8
  have hul := hU.ul
  have hkn2 := hU.kn2
  have hsg := saltF_lt ok U.h
  have hn64 : 2 ^ U.T.n ≤ 2 ^ 6 := Nat.pow_le_pow_right (by decide) n6
  have hg256 : 2 ^ U.T.g ≤ 2 ^ 8 := Nat.pow_le_pow_right (by decide) g8
  obtain ⟨hK1, hK2⟩ := id hK
  refine Ev.of (ls := [_]) 0 (by decide) rfl rfl ?_
  refine R_aload_n a_X10_back_0 rfl ?_
  refine R_get a_X10_back_1 hO rfl ?_
  first | with_reducible refine R_if_gt_n a_X10_back_4 (by first | omega | exact Nat.lt_of_le_of_lt (inR_le _ _) (by decide) | exact Nat.lt_of_le_of_lt (bitN_le _ _) (by decide)) (fun h4 => ?_) (fun h4 => ?_) | refine R_if_gt a_X10_back_4 (fun h4 => ?_) (fun h4 => ?_)
  · skip
    have hz : zBack U = (nI (U.kn - 1), (U.tf, U.tl, U.T, U.D, U.kp (U.kn - 1), 0, U.kp, U.kn - 1, U.2.2.2.2.2.2.2.2)) := by unfold zBack; rw [if_neg (by omega)]
    obtain ⟨V2, hE2, hsd2, hv2⟩ := hK2 (U.kn - 1) (by omega)
    obtain ⟨-, hKo, -⟩ := id hE2
    refine R_aload_n a_X10_back_10 rfl ?_
    refine R_dup a_X10_back_11 rfl ?_
    refine R_get a_X10_back_12 hO rfl ?_
    refine R_iconst (v := nI 1) a_X10_back_15 rfl ?_
    first | with_reducible refine R_isub_n a_X10_back_16 (by first | omega | exact Nat.lt_of_le_of_lt (inR_le _ _) (by decide) | exact Nat.lt_of_le_of_lt (bitN_le _ _) (by decide)) ?_ | refine R_isub a_X10_back_16 ?_
    refine R_putiK (fs' := [_, _, _, _, _, _, _, _, _, _, _, _]) a_X10_back_17 hO rfl rfl (fun σ hO ho => ?_)
    have hk0 : ∀ j, j ≠ 1 → σ j = σ0 j := ho
    have hEo := (ho 6 (by omega)).trans hEo
    have hK1 := (ho 81 (by omega)).trans hK1
    have hKo := (ho _ (by omega)).trans hKo
    refine R_aload_n a_X10_back_20 rfl ?_
    refine R_get a_X10_back_21 hO rfl ?_
    refine R_aload_n a_X10_back_24 rfl ?_
    refine R_get a_X10_back_25 hO rfl ?_
    refine R_aload_n a_X10_back_28 rfl ?_
    refine R_get a_X10_back_29 hO rfl ?_
    refine R_aald_n a_X10_back_32 hK1 (by first | omega | exact Nat.lt_of_le_of_lt (inR_le _ _) (by decide) | exact Nat.lt_of_le_of_lt (bitN_le _ _) (by decide)) (by decide) rfl ?_
    refine R_callVv a_X10_back_33 hEo (ev_copyE (hE.kept (fun j h1 h2 => hk0 j (by omega))) (hE2.kept (fun j h1 h2 => hk0 j (by omega))) (by omega) hsd2) rfl rfl rfl rfl rfl (fun σ hP => ?_)
    obtain ⟨hEn, hf⟩ := hP
    have hO := (hf 1 (by omega)).trans hO
    have hk : ∀ j, j ≠ 1 ∧ (j < 6 ∨ 6 + 75 ≤ j) → σ j = σ0 j := fun j hj => (hf j hj.2).trans (hk0 j hj.1)
    refine R_aload_n a_X10_back_36 rfl ?_
    refine R_get a_X10_back_37 hO rfl ?_
    refine R_iret a_X10_back_40 rfl ?_
    rw [hz]
    exact ⟨rfl, CP.back htd hkn2 (hv2 (by omega)) hL hR hK hW hA hPc hS hF hTP hDP hO hEn hk, fun j hj => hk j (by omega)⟩
  · skip
    have hz : zBack U = (-2, U) := by unfold zBack; rw [if_pos h4]
    refine R_bipush (v := (-2)) a_X10_back_7 rfl ?_
    refine R_iret a_X10_back_9 rfl ?_
    rw [hz]
    exact ⟨rfl, hC, Fr.rf _ _ _⟩

