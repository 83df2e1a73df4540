/-! ===== SaltToLiars: the public methods ===== -/
theorem EvP.cp {M : MI} {av : List Value} {σ : AHp} {x : Value} {U : Us} (h : EvP M av σ x) (hC : CP σ U) : EvW M av σ (some x) (fun σ' => CP σ' U ∧ Fr σ σ' 1 271) := Ev.mono h (fun r σ' g => ⟨g.1, by rw [g.2]; exact ⟨hC, Fr.rf _ _ _⟩⟩)
theorem ne_out {x : Int32} {g : Nat} (hg : g < 2 ^ 31) (h : ∀ j, j < g → ¬ x = nI j) : inR x g = 0 := by
  rcases inR_split x hg with h1 | ⟨-, j, hj, e⟩
  · exact h1.1
  · exact absurd e (h j hj)
theorem bitN_le (w t : Nat) : bitN w t ≤ 1 := by unfold bitN; omega
theorem bit_b {w t : Nat} (h : ¬ bitN w t = 0) : bitN w t = 1 := by have := bitN_le w t; omega
theorem cd_sp {T : Tb} {R : Rs} (ok : TbOk T) (hr : RdOk T R) : R.sp = spoke (cd R 0, cd R 1) := by
  obtain ⟨h1, h2⟩ := hr
  have hn := ok.2.2.2.1
  have hg := ok.2.1
  have hin : ∀ k, k < R.sp → ¬ cd R k = 128 := by
    intro k hk
    have := h2 k hk
    unfold cd
    rw [if_pos hk]
    omega
  have hout : ∀ k, ¬ k < R.sp → cd R k = 128 := by
    intro k hk
    unfold cd
    rw [if_neg hk]
  unfold spoke
  rcases (show R.sp = 0 ∨ R.sp = 1 ∨ R.sp = 2 by omega) with h | h | h
  · rw [if_pos (hout 0 (by omega)), if_pos (hout 1 (by omega)), h]
  · rw [if_neg (hin 0 (by omega)), if_pos (hout 1 (by omega)), h]
  · rw [if_neg (hin 0 (by omega)), if_neg (hin 1 (by omega)), h]
theorem ev_playQ {σ0 : AHp} {e p : Nat} {V : Vs} {T : Tb} {R : Rs} (hR : V.rf (V.ro % 18) = R) (h : EvR σ0 e V) (hT0 : TbP σ0 p T) (ok : TbOk T) (hr : RdOk T R) (hsa : V.sa < T.g) (hro : V.ro < 2 ^ 30) (hun : V.un < 2 ^ 30) (hud : V.ud ≤ 8) (hd : p + 5 ≤ e ∨ e + 75 ≤ p) : EvW M_X0_play [.ref e, .ref p] σ0 (some (.int (nI (comesF T V.sa (cd R 0) (cd R 1) T.so T.law)))) (fun σ => EvR σ e (vPlay V (rdAft R V.sa (comesF T V.sa (cd R 0) (cd R 1) T.so T.law) V.tr (liK R T.so R.sp)) (V.ro % 18)) ∧ Fr σ0 σ e 75) := by
  subst hR
  exact ev_play h hT0 ok hr hsa hro hun hud hd
theorem ev_playC {σ0 σ1 : AHp} {V : Vs} {T : Tb} {h : Hs} {u p : Nat} {R : Rs} (hE : EvR σ0 6 V) (hVH : VH V T h u) (hu : u ≤ 8) (hl : h.length < 2 ^ 20) (hR : RdP σ1 (6 + 3 + 4 * (V.ro % 18)) R) (hf : Fr σ0 σ1 (6 + 3 + 4 * (V.ro % 18)) 4) (hTP : TbP σ1 p T) (ok : TbOk T) (hr : RdOk T R) (hsd : ∀ k, k < 2 → R.sd k ≤ 1) (hp : 262 ≤ p) : EvW M_X0_play [.ref 6, .ref p] σ1 (some (.int (nI (saltF T ((cd R 0, cd R 1) :: h))))) (fun σ => CVe σ T ((cd R 0, cd R 1) :: h) (min (u + 1) 8) ∧ Fr σ1 σ 6 75) := by
  obtain ⟨v1, v2, v3, v4, v5, -⟩ := id hVH
  have hm : V.ro % 18 < 18 := Nat.mod_lt _ (by decide)
  have hE' : EvR σ1 6 (V.sa, V.ro, V.un, V.tr, V.ud, V.ld, fun k => if k = V.ro % 18 then R else V.rf k) := by
    obtain ⟨e0, e1, e2, e3, e4⟩ := hE
    refine ⟨e0, (hf _ (by omega)).trans e1, (hf _ (by omega)).trans e2, (hf _ (by omega)).trans e3, fun k hk => ?_⟩
    show RdP σ1 (6 + 3 + 4 * k) (if k = V.ro % 18 then R else V.rf k)
    by_cases hkm : k = V.ro % 18
    · rw [if_pos hkm, hkm]; exact hR
    · rw [if_neg hkm]; exact (e4 k hk).kept (fun j h1 h2 => hf j (by omega))
  have hun := untF_le T h
  have key := ev_playQ (V := (V.sa, V.ro, V.un, V.tr, V.ud, V.ld, fun k => if k = V.ro % 18 then R else V.rf k)) (R := R) (if_pos rfl) hE' hTP ok hr (by show V.sa < T.g; rw [v1]; exact saltF_lt ok h) (by show V.ro < 2 ^ 30; omega) (by show V.un < 2 ^ 30; omega) (by show V.ud ≤ 8; omega) (by omega)
  have e : comesF T V.sa (cd R 0) (cd R 1) T.so T.law = saltF T ((cd R 0, cd R 1) :: h) := by rw [v1]; rfl
  rw [← e]
  refine EvW.mono key (fun σ hP => ⟨⟨_, hP.1, ?_⟩, hP.2⟩)
  exact VH.play hVH hu ok hr hsd (by rw [v2]) (fun k hk => if_neg hk)
set_option maxRecDepth 20000 in
theorem cl_guest {σ0 : AHp} {U : Us} {m : Nat} (hC : CP σ0 U) (hU : UOk U m) (hm : m < 2 ^ 20) {x w : Int32} : EvP M_X10_guest [.ref 1, .int x, .int w] σ0 (.int (zGuest U x w)) := by
  obtain ⟨t, d, htd, hO, hL, hR, hV, hK, hW, hA, hPc, hS, hF, hTP, hDP⟩ := id hC
  have htd' := htd
  unfold TD at htd'
  obtain ⟨V, hE, hVH⟩ := id hV
  obtain ⟨he0, hEo, hEl, hEg, hEr⟩ := id hE
  obtain ⟨hL1, hL2, hL3⟩ := id hL
  obtain ⟨hS1, hS2, hS3, hS4⟩ := id hS
  obtain ⟨ht0, hT, hTk, hTh, hTn, hTf⟩ := id hTP
  have ok := hU.T
  obtain ⟨g3, g8, n1, n6, lw, stg, son, kd4, hn10, kn63, hf4⟩ := id ok
  obtain ⟨v1, v2, v3, v4, v5, v6, v7, v8⟩ := id hVH
  have hlen := hU.len
  have hu8 := hU.u8
  have hul := hU.ul
  have hkn2 := hU.kn2
  have hsg := saltF_lt ok U.h
  have hn64 : 2 ^ U.T.n ≤ 2 ^ 6 := Nat.pow_le_pow_right (by decide) n6
  have hg256 : 2 ^ U.T.g ≤ 2 ^ 8 := Nat.pow_le_pow_right (by decide) g8
  refine Ev.of (ls := [_, _, _]) 0 (by decide) rfl rfl ?_
  refine R_aload_n a_X10_guest_0 rfl ?_
  refine R_get a_X10_guest_1 hO rfl ?_
  refine R_iload_n a_X10_guest_4 rfl ?_
  refine R_callVp a_X10_guest_5 hT (ev_hasGuest hTP ok) rfl rfl rfl rfl rfl ?_
  first | with_reducible refine R_if_ne_n a_X10_guest_8 (by first | omega | exact Nat.lt_of_le_of_lt (inR_le _ _) (by decide) | exact Nat.lt_of_le_of_lt (bitN_le _ _) (by decide)) (fun h8 => ?_) (fun h8 => ?_) | refine R_if_ne a_X10_guest_8 (fun h8 => ?_) (fun h8 => ?_)
  · skip
    obtain ⟨i, hi, rfl⟩ := inR_nz (by omega) h8
    refine R_iload_n a_X10_guest_13 rfl ?_
    by_cases hs0 : w = nI 0
    · refine R_tswI (c0 := 0) (off := 34) (tgt := 48) a_X10_guest_14 (by rw [hs0]; rfl) (by decide) (by decide) rfl rfl ?_
      refine R_aload_n a_X10_guest_48 rfl ?_
      refine R_get a_X10_guest_49 hO rfl ?_
      refine R_get a_X10_guest_52 hT rfl ?_
      refine R_iload_n a_X10_guest_55 rfl ?_
      refine R_iald_n a_X10_guest_56 hTk (by first | omega | exact Nat.lt_of_le_of_lt (inR_le _ _) (by decide) | exact Nat.lt_of_le_of_lt (bitN_le _ _) (by decide)) (by decide) ?_
      refine R_iret a_X10_guest_57 rfl ?_
      exact ⟨by unfold zGuest; rw [gd_in hi (by omega), hs0, gd_in (by decide) (by decide)]; rfl, rfl⟩
    by_cases hs1 : w = nI 1
    · refine R_tswI (c0 := 1) (off := 44) (tgt := 58) a_X10_guest_14 (by rw [hs1]; rfl) (by decide) (by decide) rfl rfl ?_
      refine R_aload_n a_X10_guest_58 rfl ?_
      refine R_get a_X10_guest_59 hO rfl ?_
      refine R_get a_X10_guest_62 hT rfl ?_
      refine R_iload_n a_X10_guest_65 rfl ?_
      refine R_iald_n a_X10_guest_66 hTh (by first | omega | exact Nat.lt_of_le_of_lt (inR_le _ _) (by decide) | exact Nat.lt_of_le_of_lt (bitN_le _ _) (by decide)) (by decide) ?_
      refine R_iret a_X10_guest_67 rfl ?_
      exact ⟨by unfold zGuest; rw [gd_in hi (by omega), hs1, gd_in (by decide) (by decide)]; rfl, rfl⟩
    by_cases hs2 : w = nI 2
    · refine R_tswI (c0 := 2) (off := 54) (tgt := 68) a_X10_guest_14 (by rw [hs2]; rfl) (by decide) (by decide) rfl rfl ?_
      refine R_aload_n a_X10_guest_68 rfl ?_
      refine R_get a_X10_guest_69 hO rfl ?_
      refine R_get a_X10_guest_72 hT rfl ?_
      refine R_iload_n a_X10_guest_75 rfl ?_
      refine R_iald_n a_X10_guest_76 hTn (by first | omega | exact Nat.lt_of_le_of_lt (inR_le _ _) (by decide) | exact Nat.lt_of_le_of_lt (bitN_le _ _) (by decide)) (by decide) ?_
      refine R_iret a_X10_guest_77 rfl ?_
      exact ⟨by unfold zGuest; rw [gd_in hi (by omega), hs2, gd_in (by decide) (by decide)]; rfl, rfl⟩
    by_cases hs3 : w = nI 3
    · refine R_tswI (c0 := 3) (off := 64) (tgt := 78) a_X10_guest_14 (by rw [hs3]; rfl) (by decide) (by decide) rfl rfl ?_
      refine R_aload_n a_X10_guest_78 rfl ?_
      refine R_get a_X10_guest_79 hO rfl ?_
      refine R_get a_X10_guest_82 hEo rfl ?_
      refine R_iload_n a_X10_guest_85 rfl ?_
      refine R_iald_n a_X10_guest_86 hEl (by first | omega | exact Nat.lt_of_le_of_lt (inR_le _ _) (by decide) | exact Nat.lt_of_le_of_lt (bitN_le _ _) (by decide)) (by decide) ?_
      refine R_iret a_X10_guest_87 rfl ?_
      exact ⟨by unfold zGuest; rw [gd_in hi (by omega), hs3, gd_in (by decide) (by decide), ← v6]; rfl, rfl⟩
    by_cases hs4 : w = nI 4
    · refine R_tswI (c0 := 4) (off := 74) (tgt := 88) a_X10_guest_14 (by rw [hs4]; rfl) (by decide) (by decide) rfl rfl ?_
      refine R_aload_n a_X10_guest_88 rfl ?_
      refine R_get a_X10_guest_89 hO rfl ?_
      refine R_aload_n a_X10_guest_92 rfl ?_
      refine R_get a_X10_guest_93 hO rfl ?_
      refine R_get a_X10_guest_96 hEo rfl ?_
      refine R_iload_n a_X10_guest_99 rfl ?_
      refine R_callVp a_X10_guest_100 hT (ev_apart hTP ok (show V.sa < U.T.g by rw [v1]; exact hsg) hi) rfl rfl rfl rfl rfl ?_
      refine R_iret a_X10_guest_103 rfl ?_
      exact ⟨by unfold zGuest; rw [gd_in hi (by omega), hs4, gd_in (by decide) (by decide), ← v1]; rfl, rfl⟩
    refine R_tswO (tgt := 104) a_X10_guest_14 (by have g0 := i32_ne hs0 (by decide); have g1 := i32_ne hs1 (by decide); have g2 := i32_ne hs2 (by decide); have g3 := i32_ne hs3 (by decide); have g4 := i32_ne hs4 (by decide); omega) rfl ?_
    have hout : inR w 5 = 0 := ne_out (by decide) (fun j hj e => by
      rcases (show j = 0 ∨ j = 1 ∨ j = 2 ∨ j = 3 ∨ j = 4 by omega) with rfl | rfl | rfl | rfl | rfl
      · exact hs0 e
      · exact hs1 e
      · exact hs2 e
      · exact hs3 e
      · exact hs4 e)
    refine R_iconst (v := (-1)) a_X10_guest_104 rfl ?_
    refine R_iret a_X10_guest_105 rfl ?_
    exact ⟨by unfold zGuest; rw [gd_in hi (by omega), gd_out hout], rfl⟩
  · skip
    refine R_iconst (v := (-1)) a_X10_guest_11 rfl ?_
    refine R_iret a_X10_guest_12 rfl ?_
    exact ⟨by unfold zGuest; rw [gd_out h8], rfl⟩

set_option maxRecDepth 20000 in
theorem cl_thing {σ0 : AHp} {U : Us} {m : Nat} (hC : CP σ0 U) (hU : UOk U m) (hm : m < 2 ^ 20) {x w : Int32} : EvP M_X10_thing [.ref 1, .int x, .int w] σ0 (.int (zThing U x w)) := by
  obtain ⟨t, d, htd, hO, hL, hR, hV, hK, hW, hA, hPc, hS, hF, hTP, hDP⟩ := id hC
  have htd' := htd
  unfold TD at htd'
  obtain ⟨V, hE, hVH⟩ := id hV
  obtain ⟨he0, hEo, hEl, hEg, hEr⟩ := id hE
  obtain ⟨hL1, hL2, hL3⟩ := id hL
  obtain ⟨hS1, hS2, hS3, hS4⟩ := id hS
  obtain ⟨ht0, hT, hTk, hTh, hTn, hTf⟩ := id hTP
  have ok := hU.T
  obtain ⟨g3, g8, n1, n6, lw, stg, son, kd4, hn10, kn63, hf4⟩ := id ok
  obtain ⟨v1, v2, v3, v4, v5, v6, v7, v8⟩ := id hVH
  have hlen := hU.len
  have hu8 := hU.u8
  have hul := hU.ul
  have hkn2 := hU.kn2
  have hsg := saltF_lt ok U.h
  have hn64 : 2 ^ U.T.n ≤ 2 ^ 6 := Nat.pow_le_pow_right (by decide) n6
  have hg256 : 2 ^ U.T.g ≤ 2 ^ 8 := Nat.pow_le_pow_right (by decide) g8
  refine Ev.of (ls := [_, _, _]) 0 (by decide) rfl rfl ?_
  refine R_aload_n a_X10_thing_0 rfl ?_
  refine R_get a_X10_thing_1 hO rfl ?_
  refine R_iload_n a_X10_thing_4 rfl ?_
  refine R_callVp a_X10_thing_5 hT (ev_hasThing hTP ok) rfl rfl rfl rfl rfl ?_
  first | with_reducible refine R_if_ne_n a_X10_thing_8 (by first | omega | exact Nat.lt_of_le_of_lt (inR_le _ _) (by decide) | exact Nat.lt_of_le_of_lt (bitN_le _ _) (by decide)) (fun h8 => ?_) (fun h8 => ?_) | refine R_if_ne a_X10_thing_8 (fun h8 => ?_) (fun h8 => ?_)
  · skip
    obtain ⟨i, hi, rfl⟩ := inR_nz (by omega) h8
    refine R_iload_n a_X10_thing_13 rfl ?_
    by_cases hs0 : w = nI 0
    · refine R_lsw (off := 26) (tgt := 40) a_X10_thing_14 (by decide) (by rw [hs0]; rfl) rfl ?_
      refine R_aload_n a_X10_thing_40 rfl ?_
      refine R_get a_X10_thing_41 hO rfl ?_
      refine R_get a_X10_thing_44 hT rfl ?_
      refine R_iload_n a_X10_thing_47 rfl ?_
      refine R_callSp a_X10_thing_48 (ev_isSo (show U.T.so < 2 ^ 31 by omega) (show i < 32 by omega)) rfl rfl rfl rfl rfl ?_
      first | with_reducible refine R_if_eq_n a_X10_thing_51 (by first | omega | exact Nat.lt_of_le_of_lt (inR_le _ _) (by decide) | exact Nat.lt_of_le_of_lt (bitN_le _ _) (by decide)) (fun h51 => ?_) (fun h51 => ?_) | refine R_if_eq a_X10_thing_51 (fun h51 => ?_) (fun h51 => ?_)
      · skip
        have hz : zThing U (nI i) w = nI 0 := by unfold zThing; rw [gd_in hi (by omega), hs0, gd_in (by decide) (by decide), if_pos rfl, h51]
        refine R_iconst (v := nI 0) a_X10_thing_58 rfl ?_
        refine R_iret a_X10_thing_59 rfl ?_
        exact ⟨by rw [hz], rfl⟩
      · skip
        have hz : zThing U (nI i) w = nI 1 := by unfold zThing; rw [gd_in hi (by omega), hs0, gd_in (by decide) (by decide), if_pos rfl, bit_b h51]
        refine R_iconst (v := nI 1) a_X10_thing_54 rfl ?_
        refine R_goto a_X10_thing_55 ?_
        refine R_iret a_X10_thing_59 rfl ?_
        exact ⟨by rw [hz], rfl⟩
    by_cases hs1 : w = nI 1
    · refine R_lsw (off := 46) (tgt := 60) a_X10_thing_14 (by decide) (by rw [hs1]; rfl) rfl ?_
      refine R_aload_n a_X10_thing_60 rfl ?_
      refine R_get a_X10_thing_61 hO rfl ?_
      refine R_get a_X10_thing_64 hT rfl ?_
      refine R_iload_n a_X10_thing_67 rfl ?_
      refine R_iald_n a_X10_thing_68 hTf (by first | omega | exact Nat.lt_of_le_of_lt (inR_le _ _) (by decide) | exact Nat.lt_of_le_of_lt (bitN_le _ _) (by decide)) (by decide) ?_
      refine R_iret a_X10_thing_69 rfl ?_
      exact ⟨by unfold zThing; rw [gd_in hi (by omega), hs1, gd_in (by decide) (by decide)]; rfl, rfl⟩
    refine R_lsw (off := 56) (tgt := 70) a_X10_thing_14 (by decide) (by have e0 := i32_ne hs0 (by decide); have e1 := i32_ne hs1 (by decide); have e0 : ¬ 0 = w.toInt := fun q => e0 q.symm; have e1 : ¬ 1 = w.toInt := fun q => e1 q.symm; simp [Op.lookupswitch.offset, e0, e1]) rfl ?_
    have hout : inR w 2 = 0 := ne_out (by decide) (fun j hj e => by
      rcases (show j = 0 ∨ j = 1 by omega) with rfl | rfl
      · exact hs0 e
      · exact hs1 e)
    refine R_iconst (v := (-1)) a_X10_thing_70 rfl ?_
    refine R_iret a_X10_thing_71 rfl ?_
    exact ⟨by unfold zThing; rw [gd_in hi (by omega), gd_out hout], rfl⟩
  · skip
    refine R_iconst (v := (-1)) a_X10_thing_11 rfl ?_
    refine R_iret a_X10_thing_12 rfl ?_
    exact ⟨by unfold zThing; rw [gd_out h8], rfl⟩

set_option maxRecDepth 20000 in
theorem cl_weight {σ0 : AHp} {U : Us} {m : Nat} (hC : CP σ0 U) (hU : UOk U m) (hm : m < 2 ^ 20) {x y : Int32} : EvP M_X10_weight [.ref 1, .int x, .int y] σ0 (.int (zWeight U x y)) := by
  obtain ⟨t, d, htd, hO, hL, hR, hV, hK, hW, hA, hPc, hS, hF, hTP, hDP⟩ := id hC
  have htd' := htd
  unfold TD at htd'
  obtain ⟨V, hE, hVH⟩ := id hV
  obtain ⟨he0, hEo, hEl, hEg, hEr⟩ := id hE
  obtain ⟨hL1, hL2, hL3⟩ := id hL
  obtain ⟨hS1, hS2, hS3, hS4⟩ := id hS
  obtain ⟨ht0, hT, hTk, hTh, hTn, hTf⟩ := id hTP
  have ok := hU.T
  obtain ⟨g3, g8, n1, n6, lw, stg, son, kd4, hn10, kn63, hf4⟩ := id ok
  obtain ⟨v1, v2, v3, v4, v5, v6, v7, v8⟩ := id hVH
  have hlen := hU.len
  have hu8 := hU.u8
  have hul := hU.ul
  have hkn2 := hU.kn2
  have hsg := saltF_lt ok U.h
  have hn64 : 2 ^ U.T.n ≤ 2 ^ 6 := Nat.pow_le_pow_right (by decide) n6
  have hg256 : 2 ^ U.T.g ≤ 2 ^ 8 := Nat.pow_le_pow_right (by decide) g8
  refine Ev.of (ls := [_, _, _]) 0 (by decide) rfl rfl ?_
  refine R_aload_n a_X10_weight_0 rfl ?_
  refine R_get a_X10_weight_1 hO rfl ?_
  refine R_iload_n a_X10_weight_4 rfl ?_
  refine R_callVp a_X10_weight_5 hT (ev_hasGuest hTP ok) rfl rfl rfl rfl rfl ?_
  first | with_reducible refine R_if_eq_n a_X10_weight_8 (by first | omega | exact Nat.lt_of_le_of_lt (inR_le _ _) (by decide) | exact Nat.lt_of_le_of_lt (bitN_le _ _) (by decide)) (fun h8 => ?_) (fun h8 => ?_) | refine R_if_eq a_X10_weight_8 (fun h8 => ?_) (fun h8 => ?_)
  · skip
    have hz : zWeight U x y = -1 := by unfold zWeight; rw [gd_out h8]
    refine R_iconst (v := (-1)) a_X10_weight_34 rfl ?_
    refine R_iret a_X10_weight_35 rfl ?_
    exact ⟨by rw [hz], rfl⟩
  · skip
    obtain ⟨i, hi, rfl⟩ := inR_nz (by omega) h8
    refine R_aload_n a_X10_weight_11 rfl ?_
    refine R_get a_X10_weight_12 hO rfl ?_
    refine R_iload_n a_X10_weight_15 rfl ?_
    refine R_callVp a_X10_weight_16 hT (ev_hasThing hTP ok) rfl rfl rfl rfl rfl ?_
    first | with_reducible refine R_if_eq_n a_X10_weight_19 (by first | omega | exact Nat.lt_of_le_of_lt (inR_le _ _) (by decide) | exact Nat.lt_of_le_of_lt (bitN_le _ _) (by decide)) (fun h19 => ?_) (fun h19 => ?_) | refine R_if_eq a_X10_weight_19 (fun h19 => ?_) (fun h19 => ?_)
    · skip
      have hz : zWeight U (nI i) y = -1 := by unfold zWeight; rw [gd_in hi (by omega), gd_out h19]
      refine R_iconst (v := (-1)) a_X10_weight_34 rfl ?_
      refine R_iret a_X10_weight_35 rfl ?_
      exact ⟨by rw [hz], rfl⟩
    · skip
      obtain ⟨k, hk, rfl⟩ := inR_nz (by omega) h19
      have hz : zWeight U (nI i) (nI k) = nI (cnt U.T i k) := by unfold zWeight; rw [gd_in hi (by omega), gd_in hk (by omega)]
      refine R_aload_n a_X10_weight_22 rfl ?_
      refine R_get a_X10_weight_23 hO rfl ?_
      refine R_iload_n a_X10_weight_26 rfl ?_
      refine R_iload_n a_X10_weight_27 rfl ?_
      refine R_callVp a_X10_weight_28 hT (ev_ttally hTP ok hi hk) rfl rfl rfl rfl rfl ?_
      refine R_goto a_X10_weight_31 ?_
      refine R_iret a_X10_weight_35 rfl ?_
      exact ⟨by rw [hz], rfl⟩

set_option maxRecDepth 20000 in
theorem cl_trail {σ0 : AHp} {U : Us} {m : Nat} (hC : CP σ0 U) (hU : UOk U m) (hm : m < 2 ^ 20) : EvP M_X10_trail [.ref 1] σ0 (.int (zTrail U)) := by
  obtain ⟨t, d, htd, hO, hL, hR, hV, hK, hW, hA, hPc, hS, hF, hTP, hDP⟩ := id hC
  have htd' := htd
  unfold TD at htd'
  obtain ⟨V, hE, hVH⟩ := id hV
  obtain ⟨he0, hEo, hEl, hEg, hEr⟩ := id hE
  obtain ⟨hL1, hL2, hL3⟩ := id hL
  obtain ⟨hS1, hS2, hS3, hS4⟩ := id hS
  obtain ⟨ht0, hT, hTk, hTh, hTn, hTf⟩ := id hTP
  have ok := hU.T
  obtain ⟨g3, g8, n1, n6, lw, stg, son, kd4, hn10, kn63, hf4⟩ := id ok
  obtain ⟨v1, v2, v3, v4, v5, v6, v7, v8⟩ := id hVH
  have hlen := hU.len
  have hu8 := hU.u8
  have hul := hU.ul
  have hkn2 := hU.kn2
  have hsg := saltF_lt ok U.h
  have hn64 : 2 ^ U.T.n ≤ 2 ^ 6 := Nat.pow_le_pow_right (by decide) n6
  have hg256 : 2 ^ U.T.g ≤ 2 ^ 8 := Nat.pow_le_pow_right (by decide) g8
  refine Ev.of (ls := [_]) 0 (by decide) rfl rfl ?_
  refine R_aload_n a_X10_trail_0 rfl ?_
  refine R_get a_X10_trail_1 hO rfl ?_
  refine R_get a_X10_trail_4 hEo rfl ?_
  refine R_iret a_X10_trail_7 rfl ?_
  exact ⟨by unfold zTrail; rw [← v4], rfl⟩

set_option maxRecDepth 20000 in
theorem cl_laws {σ0 : AHp} {U : Us} {m : Nat} (hC : CP σ0 U) (hU : UOk U m) (hm : m < 2 ^ 20) : EvP M_X10_laws [.ref 1] σ0 (.int (zLaws U)) := by
  obtain ⟨t, d, htd, hO, hL, hR, hV, hK, hW, hA, hPc, hS, hF, hTP, hDP⟩ := id hC
  have htd' := htd
  unfold TD at htd'
  obtain ⟨V, hE, hVH⟩ := id hV
  obtain ⟨he0, hEo, hEl, hEg, hEr⟩ := id hE
  obtain ⟨hL1, hL2, hL3⟩ := id hL
  obtain ⟨hS1, hS2, hS3, hS4⟩ := id hS
  obtain ⟨ht0, hT, hTk, hTh, hTn, hTf⟩ := id hTP
  have ok := hU.T
  obtain ⟨g3, g8, n1, n6, lw, stg, son, kd4, hn10, kn63, hf4⟩ := id ok
  obtain ⟨v1, v2, v3, v4, v5, v6, v7, v8⟩ := id hVH
  have hlen := hU.len
  have hu8 := hU.u8
  have hul := hU.ul
  have hkn2 := hU.kn2
  have hsg := saltF_lt ok U.h
  have hn64 : 2 ^ U.T.n ≤ 2 ^ 6 := Nat.pow_le_pow_right (by decide) n6
  have hg256 : 2 ^ U.T.g ≤ 2 ^ 8 := Nat.pow_le_pow_right (by decide) g8
  refine Ev.of (ls := [_]) 0 (by decide) rfl rfl ?_
  refine R_aload_n a_X10_laws_0 rfl ?_
  refine R_get a_X10_laws_1 hO rfl ?_
  refine R_aload_n a_X10_laws_4 rfl ?_
  refine R_get a_X10_laws_5 hO rfl ?_
  refine R_callSp a_X10_laws_8 (ev_laws hTP ok hE hVH (by omega)) rfl rfl rfl rfl rfl ?_
  refine R_iret a_X10_laws_11 rfl ?_
  exact ⟨rfl, rfl⟩

set_option maxRecDepth 20000 in
theorem cl_count {σ0 : AHp} {U : Us} {m : Nat} (hC : CP σ0 U) (hU : UOk U m) (hm : m < 2 ^ 20) {w : Int32} : EvP M_X10_count [.ref 1, .int w] σ0 (.int (zCount U w)) := by
  obtain ⟨t, d, htd, hO, hL, hR, hV, hK, hW, hA, hPc, hS, hF, hTP, hDP⟩ := id hC
  have htd' := htd
  unfold TD at htd'
  obtain ⟨V, hE, hVH⟩ := id hV
  obtain ⟨he0, hEo, hEl, hEg, hEr⟩ := id hE
  obtain ⟨hL1, hL2, hL3⟩ := id hL
  obtain ⟨hS1, hS2, hS3, hS4⟩ := id hS
  obtain ⟨ht0, hT, hTk, hTh, hTn, hTf⟩ := id hTP
  have ok := hU.T
  obtain ⟨g3, g8, n1, n6, lw, stg, son, kd4, hn10, kn63, hf4⟩ := id ok
  obtain ⟨v1, v2, v3, v4, v5, v6, v7, v8⟩ := id hVH
  have hlen := hU.len
  have hu8 := hU.u8
  have hul := hU.ul
  have hkn2 := hU.kn2
  have hsg := saltF_lt ok U.h
  have hn64 : 2 ^ U.T.n ≤ 2 ^ 6 := Nat.pow_le_pow_right (by decide) n6
  have hg256 : 2 ^ U.T.g ≤ 2 ^ 8 := Nat.pow_le_pow_right (by decide) g8
  refine Ev.of (ls := [_, _]) 0 (by decide) rfl rfl ?_
  refine R_iload_n a_X10_count_0 rfl ?_
  by_cases hs0 : w = nI 0
  · refine R_tswI (c0 := 0) (off := 55) (tgt := 56) a_X10_count_1 (by rw [hs0]; rfl) (by decide) (by decide) rfl rfl ?_
    refine R_aload_n a_X10_count_56 rfl ?_
    refine R_get a_X10_count_57 hO rfl ?_
    refine R_get a_X10_count_60 hT rfl ?_
    refine R_iret a_X10_count_63 rfl ?_
    exact ⟨by unfold zCount; rw [hs0, gd_in (by decide) (by decide)]; rfl, rfl⟩
  by_cases hs1 : w = nI 1
  · refine R_tswI (c0 := 1) (off := 63) (tgt := 64) a_X10_count_1 (by rw [hs1]; rfl) (by decide) (by decide) rfl rfl ?_
    refine R_aload_n a_X10_count_64 rfl ?_
    refine R_get a_X10_count_65 hO rfl ?_
    refine R_get a_X10_count_68 hT rfl ?_
    refine R_iret a_X10_count_71 rfl ?_
    exact ⟨by unfold zCount; rw [hs1, gd_in (by decide) (by decide)]; rfl, rfl⟩
  by_cases hs2 : w = nI 2
  · refine R_tswI (c0 := 2) (off := 71) (tgt := 72) a_X10_count_1 (by rw [hs2]; rfl) (by decide) (by decide) rfl rfl ?_
    refine R_aload_n a_X10_count_72 rfl ?_
    refine R_get a_X10_count_73 hO rfl ?_
    refine R_get a_X10_count_76 hT rfl ?_
    refine R_iret a_X10_count_79 rfl ?_
    exact ⟨by unfold zCount; rw [hs2, gd_in (by decide) (by decide)]; rfl, rfl⟩
  by_cases hs3 : w = nI 3
  · refine R_tswI (c0 := 3) (off := 79) (tgt := 80) a_X10_count_1 (by rw [hs3]; rfl) (by decide) (by decide) rfl rfl ?_
    refine R_aload_n a_X10_count_80 rfl ?_
    refine R_get a_X10_count_81 hO rfl ?_
    refine R_get a_X10_count_84 hEo rfl ?_
    refine R_iret a_X10_count_87 rfl ?_
    exact ⟨by unfold zCount; rw [hs3, gd_in (by decide) (by decide), ← v1]; rfl, rfl⟩
  by_cases hs4 : w = nI 4
  · refine R_tswI (c0 := 4) (off := 87) (tgt := 88) a_X10_count_1 (by rw [hs4]; rfl) (by decide) (by decide) rfl rfl ?_
    refine R_aload_n a_X10_count_88 rfl ?_
    refine R_get a_X10_count_89 hO rfl ?_
    refine R_get a_X10_count_92 hEo rfl ?_
    refine R_iret a_X10_count_95 rfl ?_
    exact ⟨by unfold zCount; rw [hs4, gd_in (by decide) (by decide), ← v2]; rfl, rfl⟩
  by_cases hs5 : w = nI 5
  · refine R_tswI (c0 := 5) (off := 95) (tgt := 96) a_X10_count_1 (by rw [hs5]; rfl) (by decide) (by decide) rfl rfl ?_
    refine R_aload_n a_X10_count_96 rfl ?_
    refine R_get a_X10_count_97 hO rfl ?_
    refine R_get a_X10_count_100 hEo rfl ?_
    refine R_iret a_X10_count_103 rfl ?_
    exact ⟨by unfold zCount; rw [hs5, gd_in (by decide) (by decide), ← v3]; rfl, rfl⟩
  by_cases hs6 : w = nI 6
  · refine R_tswI (c0 := 6) (off := 103) (tgt := 104) a_X10_count_1 (by rw [hs6]; rfl) (by decide) (by decide) rfl rfl ?_
    refine R_aload_n a_X10_count_104 rfl ?_
    refine R_get a_X10_count_105 hO rfl ?_
    refine R_get a_X10_count_108 hS1 rfl ?_
    refine R_iret a_X10_count_111 rfl ?_
    exact ⟨by unfold zCount; rw [hs6, gd_in (by decide) (by decide)]; rfl, rfl⟩
  by_cases hs7 : w = nI 7
  · refine R_tswI (c0 := 7) (off := 111) (tgt := 112) a_X10_count_1 (by rw [hs7]; rfl) (by decide) (by decide) rfl rfl ?_
    refine R_aload_n a_X10_count_112 rfl ?_
    refine R_get a_X10_count_113 hO rfl ?_
    refine R_get a_X10_count_116 hEo rfl ?_
    refine R_iret a_X10_count_119 rfl ?_
    exact ⟨by unfold zCount; rw [hs7, gd_in (by decide) (by decide), ← v5]; rfl, rfl⟩
  by_cases hs8 : w = nI 8
  · refine R_tswI (c0 := 8) (off := 119) (tgt := 120) a_X10_count_1 (by rw [hs8]; rfl) (by decide) (by decide) rfl rfl ?_
    refine R_aload_n a_X10_count_120 rfl ?_
    refine R_get a_X10_count_121 hO rfl ?_
    refine R_iret a_X10_count_124 rfl ?_
    exact ⟨by unfold zCount; rw [hs8, gd_in (by decide) (by decide)]; rfl, rfl⟩
  by_cases hs9 : w = nI 9
  · refine R_tswI (c0 := 9) (off := 124) (tgt := 125) a_X10_count_1 (by rw [hs9]; rfl) (by decide) (by decide) rfl rfl ?_
    refine R_aload_n a_X10_count_125 rfl ?_
    refine R_get a_X10_count_126 hO rfl ?_
    refine R_get a_X10_count_129 hL1 rfl ?_
    refine R_iret a_X10_count_132 rfl ?_
    exact ⟨by unfold zCount; rw [hs9, gd_in (by decide) (by decide)]; rfl, rfl⟩
  refine R_tswO (tgt := 133) a_X10_count_1 (by have g0 := i32_ne hs0 (by decide); have g1 := i32_ne hs1 (by decide); have g2 := i32_ne hs2 (by decide); have g3 := i32_ne hs3 (by decide); have g4 := i32_ne hs4 (by decide); have g5 := i32_ne hs5 (by decide); have g6 := i32_ne hs6 (by decide); have g7 := i32_ne hs7 (by decide); have g8 := i32_ne hs8 (by decide); have g9 := i32_ne hs9 (by decide); omega) rfl ?_
  have hout : inR w 10 = 0 := ne_out (by decide) (fun j hj e => by
    rcases (show j = 0 ∨ j = 1 ∨ j = 2 ∨ j = 3 ∨ j = 4 ∨ j = 5 ∨ j = 6 ∨ j = 7 ∨ j = 8 ∨ j = 9 by omega) with rfl | rfl | rfl | rfl | rfl | rfl | rfl | rfl | rfl | rfl
    · exact hs0 e
    · exact hs1 e
    · exact hs2 e
    · exact hs3 e
    · exact hs4 e
    · exact hs5 e
    · exact hs6 e
    · exact hs7 e
    · exact hs8 e
    · exact hs9 e)
  refine R_iconst (v := (-1)) a_X10_count_133 rfl ?_
  refine R_iret a_X10_count_134 rfl ?_
  exact ⟨by unfold zCount; rw [gd_out hout], rfl⟩

set_option maxRecDepth 20000 in
theorem cl_went {σ0 : AHp} {U : Us} {m : Nat} (hC : CP σ0 U) (hU : UOk U m) (hm : m < 2 ^ 20) {x w : Int32} : EvP M_X10_went [.ref 1, .int x, .int w] σ0 (.int (zWent U x w)) := by
  obtain ⟨t, d, htd, hO, hL, hR, hV, hK, hW, hA, hPc, hS, hF, hTP, hDP⟩ := id hC
  have htd' := htd
  unfold TD at htd'
  obtain ⟨V, hE, hVH⟩ := id hV
  obtain ⟨he0, hEo, hEl, hEg, hEr⟩ := id hE
  obtain ⟨hL1, hL2, hL3⟩ := id hL
  obtain ⟨hS1, hS2, hS3, hS4⟩ := id hS
  obtain ⟨ht0, hT, hTk, hTh, hTn, hTf⟩ := id hTP
  have ok := hU.T
  obtain ⟨g3, g8, n1, n6, lw, stg, son, kd4, hn10, kn63, hf4⟩ := id ok
  obtain ⟨v1, v2, v3, v4, v5, v6, v7, v8⟩ := id hVH
  have hlen := hU.len
  have hu8 := hU.u8
  have hul := hU.ul
  have hkn2 := hU.kn2
  have hsg := saltF_lt ok U.h
  have hn64 : 2 ^ U.T.n ≤ 2 ^ 6 := Nat.pow_le_pow_right (by decide) n6
  have hg256 : 2 ^ U.T.g ≤ 2 ^ 8 := Nat.pow_le_pow_right (by decide) g8
  refine Ev.of (ls := [_, _, _, _]) 1 (by decide) rfl rfl ?_
  refine R_iload_n a_X10_went_0 rfl ?_
  refine R_if_lt a_X10_went_1 (fun h1 => ?_) (fun h1 => ?_)
  · skip
    have hz : zWent U x w = -1 := by unfold zWent; rw [gd_out (inR_0a h1)]
    refine R_iconst (v := (-1)) a_X10_went_15 rfl ?_
    refine R_iret a_X10_went_16 rfl ?_
    exact ⟨by rw [hz], rfl⟩
  · skip
    refine R_iload_n a_X10_went_4 rfl ?_
    refine R_aload_n a_X10_went_5 rfl ?_
    refine R_get a_X10_went_6 hO rfl ?_
    refine R_callVp a_X10_went_9 hEo (ev_remembered hE (by omega)) rfl rfl rfl rfl rfl ?_
    refine R_icmp_lt a_X10_went_12 (fun h12 => ?_) (fun h12 => ?_)
    · skip
      have hx : ∃ k, k < min U.h.length 10 ∧ x = nI k := by
        rcases pk_ix x (n := min U.h.length 10) (by omega) with q | q | q
        · exact absurd q h1
        · rw [v2] at h12; exact absurd h12 (by rw [Int32.not_lt]; exact q)
        · exact q
      obtain ⟨k, hk, rfl⟩ := hx
      have hRI := v8 k (by omega) (by omega)
      have hRP := hEr ((V.ro - 1 - k) % 18) (Nat.mod_lt _ (by decide))
      rw [← v2] at hRI
      generalize hRe : V.rf ((V.ro - 1 - k) % 18) = R at hRI hRP
      obtain ⟨hr0, hRo, -⟩ := id hRP
      obtain ⟨r1, r2, r3, r4, r5, -⟩ := hRI
      refine R_aload_n a_X10_went_17 rfl ?_
      refine R_get a_X10_went_18 hO rfl ?_
      refine R_iload_n a_X10_went_21 rfl ?_
      refine R_callVp a_X10_went_22 hEo (ev_past hE (by omega) (show k < V.ro by omega)) rfl rfl rfl rfl rfl ?_
      refine R_astore_n (ls' := [_, _, _, _]) a_X10_went_25 rfl rfl rfl ?_
      refine R_iload_n a_X10_went_26 rfl ?_
      by_cases hs0 : w = nI 0
      · refine R_tswI (c0 := 0) (off := 25) (tgt := 52) a_X10_went_27 (by rw [hs0]; rfl) (by decide) (by decide) rfl rfl ?_
        refine R_aload_n a_X10_went_52 rfl ?_
        refine R_get a_X10_went_53 hRo rfl ?_
        refine R_iret a_X10_went_56 rfl ?_
        exact ⟨by unfold zWent; rw [gd_in hk (by omega), hs0, gd_in (by decide) (by decide), r4]; rfl, rfl⟩
      by_cases hs1 : w = nI 1
      · refine R_tswI (c0 := 1) (off := 30) (tgt := 57) a_X10_went_27 (by rw [hs1]; rfl) (by decide) (by decide) rfl rfl ?_
        refine R_aload_n a_X10_went_57 rfl ?_
        refine R_get a_X10_went_58 hRo rfl ?_
        refine R_iret a_X10_went_61 rfl ?_
        exact ⟨by unfold zWent; rw [gd_in hk (by omega), hs1, gd_in (by decide) (by decide), r5]; rfl, rfl⟩
      by_cases hs2 : w = nI 2
      · refine R_tswI (c0 := 2) (off := 35) (tgt := 62) a_X10_went_27 (by rw [hs2]; rfl) (by decide) (by decide) rfl rfl ?_
        refine R_aload_n a_X10_went_62 rfl ?_
        refine R_get a_X10_went_63 hRo rfl ?_
        refine R_iret a_X10_went_66 rfl ?_
        exact ⟨by unfold zWent; rw [gd_in hk (by omega), hs2, gd_in (by decide) (by decide), cd_sp ok r1, r2, r3]; rfl, rfl⟩
      refine R_tswO (tgt := 67) a_X10_went_27 (by have g0 := i32_ne hs0 (by decide); have g1 := i32_ne hs1 (by decide); have g2 := i32_ne hs2 (by decide); omega) rfl ?_
      have hout : inR w 3 = 0 := ne_out (by decide) (fun j hj e => by
        rcases (show j = 0 ∨ j = 1 ∨ j = 2 by omega) with rfl | rfl | rfl
        · exact hs0 e
        · exact hs1 e
        · exact hs2 e)
      refine R_iconst (v := (-1)) a_X10_went_67 rfl ?_
      refine R_iret a_X10_went_68 rfl ?_
      exact ⟨by unfold zWent; rw [gd_in hk (by omega), gd_out hout], rfl⟩
    · skip
      have hz : zWent U x w = -1 := by unfold zWent; rw [gd_out]; rcases inR_split x (g := min U.h.length 10) (by omega) with ⟨q, -⟩ | ⟨-, j, hj, rfl⟩; exact q; exact absurd ((nI_ltI (by omega) (by omega)).mpr (show j < min V.ro 10 by omega)) h12
      refine R_iconst (v := (-1)) a_X10_went_15 rfl ?_
      refine R_iret a_X10_went_16 rfl ?_
      exact ⟨by rw [hz], rfl⟩

set_option maxRecDepth 20000 in
theorem cl_believe {σ0 : AHp} {U : Us} {m : Nat} (hC : CP σ0 U) (hU : UOk U m) (hm : m < 2 ^ 20) {x : Int32} : EvP M_X10_believe [.ref 1, .int x] σ0 (.long (zBelieve U x)) := by
  obtain ⟨t, d, htd, hO, hL, hR, hV, hK, hW, hA, hPc, hS, hF, hTP, hDP⟩ := id hC
  have htd' := htd
  unfold TD at htd'
  obtain ⟨V, hE, hVH⟩ := id hV
  obtain ⟨he0, hEo, hEl, hEg, hEr⟩ := id hE
  obtain ⟨hL1, hL2, hL3⟩ := id hL
  obtain ⟨hS1, hS2, hS3, hS4⟩ := id hS
  obtain ⟨ht0, hT, hTk, hTh, hTn, hTf⟩ := id hTP
  have ok := hU.T
  obtain ⟨g3, g8, n1, n6, lw, stg, son, kd4, hn10, kn63, hf4⟩ := id ok
  obtain ⟨v1, v2, v3, v4, v5, v6, v7, v8⟩ := id hVH
  have hlen := hU.len
  have hu8 := hU.u8
  have hul := hU.ul
  have hkn2 := hU.kn2
  have hsg := saltF_lt ok U.h
  have hn64 : 2 ^ U.T.n ≤ 2 ^ 6 := Nat.pow_le_pow_right (by decide) n6
  have hg256 : 2 ^ U.T.g ≤ 2 ^ 8 := Nat.pow_le_pow_right (by decide) g8
  refine Ev.of (ls := [_, _]) 0 (by decide) rfl rfl ?_
  refine R_iload_n a_X10_believe_0 rfl ?_
  refine R_if_lt a_X10_believe_1 (fun h1 => ?_) (fun h1 => ?_)
  · skip
    have hz : zBelieve U x = -1 := by unfold zBelieve; rw [gd_out (inR_0a h1)]
    refine R_ldc2 a_X10_believe_9 ck_X10_265 ?_
    refine R_lret a_X10_believe_12 rfl ?_
    exact ⟨by rw [hz], rfl⟩
  · skip
    refine R_iload_n a_X10_believe_4 rfl ?_
    refine R_iconst (v := nI 1) a_X10_believe_5 rfl ?_
    refine R_icmp_le a_X10_believe_6 (fun h6 => ?_) (fun h6 => ?_)
    · skip
      obtain ⟨c, hc, rfl⟩ := le_in (n := 1) (by decide) h1 (Int32.not_lt.mpr h6)
      obtain ⟨-, -, -, -, -, -, -, -, -, hns8, hsy⟩ := id hU
      refine R_aload_n a_X10_believe_13 rfl ?_
      refine R_get a_X10_believe_14 hO rfl ?_
      refine R_aload_n a_X10_believe_17 rfl ?_
      refine R_get a_X10_believe_18 hO rfl ?_
      refine R_iload_n a_X10_believe_21 rfl ?_
      first | with_reducible refine R_if_ne_n a_X10_believe_22 (by first | omega | exact Nat.lt_of_le_of_lt (inR_le _ _) (by decide) | exact Nat.lt_of_le_of_lt (bitN_le _ _) (by decide)) (fun h22 => ?_) (fun h22 => ?_) | refine R_if_ne a_X10_believe_22 (fun h22 => ?_) (fun h22 => ?_)
      · skip
        have hcz : nI 0 = nI (b2n (decide (c = 0))) := by rw [decide_eq_false h22]; rfl
        refine R_iconst (v := nI (b2n (decide (c = 0)))) a_X10_believe_29 hcz ?_
        skip
        refine R_callVp a_X10_believe_30 hS1 (ev_chance (ab := decide (c = 0)) hS hTP ok (fun k hk => (hsy k hk).1) (fun k hk => (hsy k hk).2)) rfl rfl rfl rfl rfl ?_
        refine R_lret a_X10_believe_33 rfl ?_
        exact ⟨by unfold zBelieve; rw [gd_in hc (by decide)], rfl⟩
      · skip
        have hcz : nI 1 = nI (b2n (decide (c = 0))) := by rw [decide_eq_true h22]; rfl
        refine R_iconst (v := nI (b2n (decide (c = 0)))) a_X10_believe_25 hcz ?_
        skip
        refine R_goto a_X10_believe_26 ?_
        refine R_callVp a_X10_believe_30 hS1 (ev_chance (ab := decide (c = 0)) hS hTP ok (fun k hk => (hsy k hk).1) (fun k hk => (hsy k hk).2)) rfl rfl rfl rfl rfl ?_
        refine R_lret a_X10_believe_33 rfl ?_
        exact ⟨by unfold zBelieve; rw [gd_in hc (by decide)], rfl⟩
    · skip
      have hz : zBelieve U x = -1 := by unfold zBelieve; rw [gd_out (gt_out (by decide) (Int32.not_le.mp h6))]
      refine R_ldc2 a_X10_believe_9 ck_X10_265 ?_
      refine R_lret a_X10_believe_12 rfl ?_
      exact ⟨by rw [hz], rfl⟩

set_option maxRecDepth 20000 in
theorem cl_story {σ0 : AHp} {U : Us} {m : Nat} (hC : CP σ0 U) (hU : UOk U m) (hm : m < 2 ^ 20) {x w : Int32} : EvP M_X10_story [.ref 1, .int x, .int w] σ0 (.int (zStory U x w)) := by
  obtain ⟨t, d, htd, hO, hL, hR, hV, hK, hW, hA, hPc, hS, hF, hTP, hDP⟩ := id hC
  have htd' := htd
  unfold TD at htd'
  obtain ⟨V, hE, hVH⟩ := id hV
  obtain ⟨he0, hEo, hEl, hEg, hEr⟩ := id hE
  obtain ⟨hL1, hL2, hL3⟩ := id hL
  obtain ⟨hS1, hS2, hS3, hS4⟩ := id hS
  obtain ⟨ht0, hT, hTk, hTh, hTn, hTf⟩ := id hTP
  have ok := hU.T
  obtain ⟨g3, g8, n1, n6, lw, stg, son, kd4, hn10, kn63, hf4⟩ := id ok
  obtain ⟨v1, v2, v3, v4, v5, v6, v7, v8⟩ := id hVH
  have hlen := hU.len
  have hu8 := hU.u8
  have hul := hU.ul
  have hkn2 := hU.kn2
  have hsg := saltF_lt ok U.h
  have hn64 : 2 ^ U.T.n ≤ 2 ^ 6 := Nat.pow_le_pow_right (by decide) n6
  have hg256 : 2 ^ U.T.g ≤ 2 ^ 8 := Nat.pow_le_pow_right (by decide) g8
  refine Ev.of (ls := [_, _, _, _]) 1 (by decide) rfl rfl ?_
  refine R_iload_n a_X10_story_0 rfl ?_
  refine R_if_lt a_X10_story_1 (fun h1 => ?_) (fun h1 => ?_)
  · skip
    have hz : zStory U x w = -1 := by unfold zStory; rw [gd_out (inR_0a h1)]
    refine R_iconst (v := (-1)) a_X10_story_26 rfl ?_
    refine R_iret a_X10_story_27 rfl ?_
    exact ⟨by rw [hz], rfl⟩
  · skip
    refine R_iload_n a_X10_story_4 rfl ?_
    refine R_iconst (v := nI 1) a_X10_story_5 rfl ?_
    refine R_aload_n a_X10_story_6 rfl ?_
    refine R_get a_X10_story_7 hO rfl ?_
    refine R_get a_X10_story_10 hT rfl ?_
    first | with_reducible refine R_ishl1 a_X10_story_13 (by first | omega | exact Nat.lt_of_le_of_lt (inR_le _ _) (by decide) | exact Nat.lt_of_le_of_lt (bitN_le _ _) (by decide)) ?_ | with_reducible refine R_ishl_n a_X10_story_13 (by first | omega | exact Nat.lt_of_le_of_lt (inR_le _ _) (by decide) | exact Nat.lt_of_le_of_lt (bitN_le _ _) (by decide)) (by first | omega | exact Nat.lt_of_le_of_lt (inR_le _ _) (by decide) | exact Nat.lt_of_le_of_lt (bitN_le _ _) (by decide)) ?_ | refine R_ishl a_X10_story_13 ?_
    refine R_icmp_ge a_X10_story_14 (fun h14 => ?_) (fun h14 => ?_)
    · skip
      have hz : zStory U x w = -1 := by unfold zStory; rw [gd_out (inR_0b h14)]
      refine R_iconst (v := (-1)) a_X10_story_26 rfl ?_
      refine R_iret a_X10_story_27 rfl ?_
      exact ⟨by rw [hz], rfl⟩
    · skip
      obtain ⟨st, hst, rfl⟩ := inR_nz (by omega) (show ¬ inR x (2 ^ U.T.g) = 0 by rw [inR_1 h1 h14]; decide)
      refine R_iload_n a_X10_story_17 rfl ?_
      refine R_if_lt a_X10_story_18 (fun h18 => ?_) (fun h18 => ?_)
      · skip
        have hz : zStory U (nI st) w = -1 := by unfold zStory; rw [gd_in hst (by omega), gd_out (inR_0a h18)]
        refine R_iconst (v := (-1)) a_X10_story_26 rfl ?_
        refine R_iret a_X10_story_27 rfl ?_
        exact ⟨by rw [hz], rfl⟩
      · skip
        refine R_iload_n a_X10_story_21 rfl ?_
        refine R_iconst (v := nI 1) a_X10_story_22 rfl ?_
        refine R_icmp_le a_X10_story_23 (fun h23 => ?_) (fun h23 => ?_)
        · skip
          obtain ⟨c, hc, rfl⟩ := le_in (n := 1) (by decide) h18 (Int32.not_lt.mpr h23)
          refine R_aload_n a_X10_story_28 rfl ?_
          refine R_get a_X10_story_29 hO rfl ?_
          refine R_iload_n a_X10_story_32 rfl ?_
          refine R_callVp a_X10_story_33 hT (ev_knownBy hTP ok (show st < 256 by omega)) rfl rfl rfl rfl rfl ?_
          refine R_istore_n (ls' := [_, _, _, _]) a_X10_story_36 rfl rfl rfl ?_
          refine R_iload_n a_X10_story_37 rfl ?_
          first | with_reducible refine R_if_ne_n a_X10_story_38 (by first | omega | exact Nat.lt_of_le_of_lt (inR_le _ _) (by decide) | exact Nat.lt_of_le_of_lt (bitN_le _ _) (by decide)) (fun h38 => ?_) (fun h38 => ?_) | refine R_if_ne a_X10_story_38 (fun h38 => ?_) (fun h38 => ?_)
          · skip
            have hz : zStory U (nI st) (nI c) = stoF U.T st := by unfold zStory; rw [gd_in hst (by omega), gd_in hc (by decide), if_neg h38]
            refine R_aload_n a_X10_story_45 rfl ?_
            refine R_get a_X10_story_46 hO rfl ?_
            refine R_callVp a_X10_story_49 hT (ev_allThings hTP ok) rfl rfl rfl rfl rfl ?_
            refine R_aload_n a_X10_story_52 rfl ?_
            refine R_get a_X10_story_53 hO rfl ?_
            refine R_get a_X10_story_56 hT rfl ?_
            refine R_iconst (v := (-1)) a_X10_story_59 rfl ?_
            first | with_reducible refine R_ixor_n a_X10_story_60 ?_ | refine R_ixor a_X10_story_60 ?_
            first | with_reducible refine R_iand1 a_X10_story_61 ?_ | with_reducible refine R_iand_n a_X10_story_61 ?_ | refine R_iand a_X10_story_61 ?_
            refine R_iload_n a_X10_story_62 rfl ?_
            refine R_iconst (v := (-1)) a_X10_story_63 rfl ?_
            first | with_reducible refine R_ixor_n a_X10_story_64 ?_ | refine R_ixor a_X10_story_64 ?_
            first | with_reducible refine R_iand1 a_X10_story_65 ?_ | with_reducible refine R_iand_n a_X10_story_65 ?_ | refine R_iand a_X10_story_65 ?_
            refine R_callSp a_X10_story_66 ev_bitCount rfl rfl rfl rfl rfl ?_
            refine R_iret a_X10_story_69 rfl ?_
            exact ⟨by rw [hz] <;> rfl, rfl⟩
          · skip
            have hz : zStory U (nI st) (nI c) = nI (knF U.T st) := by unfold zStory; rw [gd_in hst (by omega), gd_in hc (by decide), if_pos h38]
            refine R_iload_n a_X10_story_41 rfl ?_
            refine R_goto a_X10_story_42 ?_
            refine R_iret a_X10_story_69 rfl ?_
            exact ⟨by rw [hz] <;> rfl, rfl⟩
        · skip
          have hz : zStory U (nI st) w = -1 := by unfold zStory; rw [gd_in hst (by omega), gd_out (gt_out (by decide) (Int32.not_le.mp h23))]
          refine R_iconst (v := (-1)) a_X10_story_26 rfl ?_
          refine R_iret a_X10_story_27 rfl ?_
          exact ⟨by rw [hz], rfl⟩

