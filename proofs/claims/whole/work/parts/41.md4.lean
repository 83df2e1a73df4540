/-! ===== SaltToLiarsModel: small calls ===== -/
theorem tell_row {n b i : Nat} {sw ss : Nat → Nat} {fy : Nat → Int32} (h : ∀ k, k < n → fy k = nI (2 * sw k + ss k)) : ∀ k, k < n + 1 → upd fy n (nI (2 * i + b)) k = nI (2 * uN sw n i k + uN ss n b k) := by
  intro k hk
  unfold upd uN
  split
  · rfl
  · exact h k (by omega)
set_option maxRecDepth 20000 in
theorem md_trail {σ0 : AHp} {U : Us} {m : Nat} (hC : MP σ0 U) (hU : UOk U m) (hm : m < 2 ^ 20) : EvW M_X11_trail [.ref 272] σ0 (some (.int (zTrail U))) (fun σ => MP σ (U) ∧ Fr σ0 σ 272 12) := by
  obtain ⟨at_, fx, ft, fd, fp, fi, fy, fw, fs, fb, fh, hM, hMX, hMT, hDr, hSr, hMPa, hMIm, hMSy, hWy, hSm, hBh, hHd⟩ := id hC
  obtain ⟨hTx, hTxv⟩ := id hMX
  obtain ⟨hTo, t0, t1, t2, t3, t28, tkd, thn, tkn, thf⟩ := id hMT
  obtain ⟨hPa, hPav⟩ := id hMPa
  obtain ⟨hIm, hImv⟩ := id hMIm
  obtain ⟨hSy, hSyv⟩ := id hMSy
  have ok := hU.T
  obtain ⟨g3, g8, n1, n6, lw, stg, son, kd4, hn10, kn63, hf4⟩ := id ok
  have hn64 : 2 ^ U.T.n ≤ 2 ^ 6 := Nat.pow_le_pow_right (by decide) n6
  have hg256 : 2 ^ U.T.g ≤ 2 ^ 8 := Nat.pow_le_pow_right (by decide) g8
  have hlen := hU.len
  have hu8 := hU.u8
  have hul := hU.ul
  have hkn2 := hU.kn2
  have hsg := saltF_lt ok U.h
  have hfr : ∀ j, j < 272 ∨ 284 ≤ j → σ0 j = σ0 j := fun _ _ => rfl
  refine Ev.of (ls := [_]) 0 (by decide) rfl rfl ?_
  refine R_aload_n a_X11_trail_0 rfl ?_
  refine R_get a_X11_trail_1 hM rfl ?_
  refine R_iconst (v := nI 3) a_X11_trail_4 rfl ?_
  refine R_iald_n a_X11_trail_5 hSr (by first | omega | exact Nat.lt_of_le_of_lt (inR_le _ _) (by decide) | exact Nat.lt_of_le_of_lt (bitN_le _ _) (by decide) | exact Nat.lt_of_le_of_lt (inI_le _ _ _) (by decide) | exact inI_le _ _ _ | exact inR_le _ _ | exact bitN_le _ _) (by decide) ?_
  refine R_top (congrArg nI (sF_3 U.T U.h)) ?_
  refine R_iret a_X11_trail_6 rfl ?_
  exact ⟨rfl, hC, Fr.rf _ _ _⟩

set_option maxRecDepth 20000 in
theorem md_count {σ0 : AHp} {U : Us} {m : Nat} (hC : MP σ0 U) (hU : UOk U m) (hm : m < 2 ^ 20) {w : Int32} : EvW M_X11_count [.ref 272, .int w] σ0 (some (.int (zCount U w))) (fun σ => MP σ (U) ∧ Fr σ0 σ 272 12) := by
  obtain ⟨at_, fx, ft, fd, fp, fi, fy, fw, fs, fb, fh, hM, hMX, hMT, hDr, hSr, hMPa, hMIm, hMSy, hWy, hSm, hBh, hHd⟩ := id hC
  obtain ⟨hTx, hTxv⟩ := id hMX
  obtain ⟨hTo, t0, t1, t2, t3, t28, tkd, thn, tkn, thf⟩ := id hMT
  obtain ⟨hPa, hPav⟩ := id hMPa
  obtain ⟨hIm, hImv⟩ := id hMIm
  obtain ⟨hSy, hSyv⟩ := id hMSy
  have ok := hU.T
  obtain ⟨g3, g8, n1, n6, lw, stg, son, kd4, hn10, kn63, hf4⟩ := id ok
  have hn64 : 2 ^ U.T.n ≤ 2 ^ 6 := Nat.pow_le_pow_right (by decide) n6
  have hg256 : 2 ^ U.T.g ≤ 2 ^ 8 := Nat.pow_le_pow_right (by decide) g8
  have hlen := hU.len
  have hu8 := hU.u8
  have hul := hU.ul
  have hkn2 := hU.kn2
  have hsg := saltF_lt ok U.h
  have hfr : ∀ j, j < 272 ∨ 284 ≤ j → σ0 j = σ0 j := fun _ _ => rfl
  refine Ev.of (ls := [_, _]) 0 (by decide) rfl rfl ?_
  refine R_iload_n a_X11_count_0 rfl ?_
  by_cases hs0 : w = nI 0
  · refine R_tswI (c0 := 0) (off := 55) (tgt := 56) a_X11_count_1 (by rw [hs0]; rfl) (by decide) (by decide) rfl rfl ?_
    refine R_aload_n a_X11_count_56 rfl ?_
    refine R_get a_X11_count_57 hM rfl ?_
    refine R_iconst (v := nI 0) a_X11_count_60 rfl ?_
    refine R_iald_n a_X11_count_61 hTo (by first | omega | exact Nat.lt_of_le_of_lt (inR_le _ _) (by decide) | exact Nat.lt_of_le_of_lt (bitN_le _ _) (by decide) | exact Nat.lt_of_le_of_lt (inI_le _ _ _) (by decide) | exact inI_le _ _ _ | exact inR_le _ _ | exact bitN_le _ _) (by decide) ?_
    refine R_top t0 ?_
    refine R_iret a_X11_count_62 rfl ?_
    exact ⟨by unfold zCount; rw [hs0, gd_in (by decide) (by decide)]; rfl, hC, Fr.rf _ _ _⟩
  by_cases hs1 : w = nI 1
  · refine R_tswI (c0 := 1) (off := 62) (tgt := 63) a_X11_count_1 (by rw [hs1]; rfl) (by decide) (by decide) rfl rfl ?_
    refine R_aload_n a_X11_count_63 rfl ?_
    refine R_get a_X11_count_64 hM rfl ?_
    refine R_iconst (v := nI 1) a_X11_count_67 rfl ?_
    refine R_iald_n a_X11_count_68 hTo (by first | omega | exact Nat.lt_of_le_of_lt (inR_le _ _) (by decide) | exact Nat.lt_of_le_of_lt (bitN_le _ _) (by decide) | exact Nat.lt_of_le_of_lt (inI_le _ _ _) (by decide) | exact inI_le _ _ _ | exact inR_le _ _ | exact bitN_le _ _) (by decide) ?_
    refine R_top t1 ?_
    refine R_iret a_X11_count_69 rfl ?_
    exact ⟨by unfold zCount; rw [hs1, gd_in (by decide) (by decide)]; rfl, hC, Fr.rf _ _ _⟩
  by_cases hs2 : w = nI 2
  · refine R_tswI (c0 := 2) (off := 69) (tgt := 70) a_X11_count_1 (by rw [hs2]; rfl) (by decide) (by decide) rfl rfl ?_
    refine R_aload_n a_X11_count_70 rfl ?_
    refine R_get a_X11_count_71 hM rfl ?_
    refine R_iconst (v := nI 2) a_X11_count_74 rfl ?_
    refine R_iald_n a_X11_count_75 hTo (by first | omega | exact Nat.lt_of_le_of_lt (inR_le _ _) (by decide) | exact Nat.lt_of_le_of_lt (bitN_le _ _) (by decide) | exact Nat.lt_of_le_of_lt (inI_le _ _ _) (by decide) | exact inI_le _ _ _ | exact inR_le _ _ | exact bitN_le _ _) (by decide) ?_
    refine R_top t2 ?_
    refine R_iret a_X11_count_76 rfl ?_
    exact ⟨by unfold zCount; rw [hs2, gd_in (by decide) (by decide)]; rfl, hC, Fr.rf _ _ _⟩
  by_cases hs3 : w = nI 3
  · refine R_tswI (c0 := 3) (off := 76) (tgt := 77) a_X11_count_1 (by rw [hs3]; rfl) (by decide) (by decide) rfl rfl ?_
    refine R_aload_n a_X11_count_77 rfl ?_
    refine R_get a_X11_count_78 hM rfl ?_
    refine R_iconst (v := nI 0) a_X11_count_81 rfl ?_
    refine R_iald_n a_X11_count_82 hSr (by first | omega | exact Nat.lt_of_le_of_lt (inR_le _ _) (by decide) | exact Nat.lt_of_le_of_lt (bitN_le _ _) (by decide) | exact Nat.lt_of_le_of_lt (inI_le _ _ _) (by decide) | exact inI_le _ _ _ | exact inR_le _ _ | exact bitN_le _ _) (by decide) ?_
    refine R_top (congrArg nI (sF_0 U.T U.h)) ?_
    refine R_iret a_X11_count_83 rfl ?_
    exact ⟨by unfold zCount; rw [hs3, gd_in (by decide) (by decide)]; rfl, hC, Fr.rf _ _ _⟩
  by_cases hs4 : w = nI 4
  · refine R_tswI (c0 := 4) (off := 83) (tgt := 84) a_X11_count_1 (by rw [hs4]; rfl) (by decide) (by decide) rfl rfl ?_
    refine R_aload_n a_X11_count_84 rfl ?_
    refine R_get a_X11_count_85 hM rfl ?_
    refine R_iconst (v := nI 1) a_X11_count_88 rfl ?_
    refine R_iald_n a_X11_count_89 hSr (by first | omega | exact Nat.lt_of_le_of_lt (inR_le _ _) (by decide) | exact Nat.lt_of_le_of_lt (bitN_le _ _) (by decide) | exact Nat.lt_of_le_of_lt (inI_le _ _ _) (by decide) | exact inI_le _ _ _ | exact inR_le _ _ | exact bitN_le _ _) (by decide) ?_
    refine R_top (congrArg nI (sF_1 U.T U.h)) ?_
    refine R_iret a_X11_count_90 rfl ?_
    exact ⟨by unfold zCount; rw [hs4, gd_in (by decide) (by decide)]; rfl, hC, Fr.rf _ _ _⟩
  by_cases hs5 : w = nI 5
  · refine R_tswI (c0 := 5) (off := 90) (tgt := 91) a_X11_count_1 (by rw [hs5]; rfl) (by decide) (by decide) rfl rfl ?_
    refine R_aload_n a_X11_count_91 rfl ?_
    refine R_get a_X11_count_92 hM rfl ?_
    refine R_iconst (v := nI 2) a_X11_count_95 rfl ?_
    refine R_iald_n a_X11_count_96 hSr (by first | omega | exact Nat.lt_of_le_of_lt (inR_le _ _) (by decide) | exact Nat.lt_of_le_of_lt (bitN_le _ _) (by decide) | exact Nat.lt_of_le_of_lt (inI_le _ _ _) (by decide) | exact inI_le _ _ _ | exact inR_le _ _ | exact bitN_le _ _) (by decide) ?_
    refine R_top (congrArg nI (sF_2 U.T U.h)) ?_
    refine R_iret a_X11_count_97 rfl ?_
    exact ⟨by unfold zCount; rw [hs5, gd_in (by decide) (by decide)]; rfl, hC, Fr.rf _ _ _⟩
  by_cases hs6 : w = nI 6
  · refine R_tswI (c0 := 6) (off := 97) (tgt := 98) a_X11_count_1 (by rw [hs6]; rfl) (by decide) (by decide) rfl rfl ?_
    refine R_aload_n a_X11_count_98 rfl ?_
    refine R_get a_X11_count_99 hM rfl ?_
    refine R_iret a_X11_count_102 rfl ?_
    exact ⟨by unfold zCount; rw [hs6, gd_in (by decide) (by decide)]; rfl, hC, Fr.rf _ _ _⟩
  by_cases hs7 : w = nI 7
  · refine R_tswI (c0 := 7) (off := 102) (tgt := 103) a_X11_count_1 (by rw [hs7]; rfl) (by decide) (by decide) rfl rfl ?_
    refine R_aload_n a_X11_count_103 rfl ?_
    refine R_get a_X11_count_104 hM rfl ?_
    refine R_iret a_X11_count_107 rfl ?_
    exact ⟨by unfold zCount; rw [hs7, gd_in (by decide) (by decide)]; rfl, hC, Fr.rf _ _ _⟩
  by_cases hs8 : w = nI 8
  · refine R_tswI (c0 := 8) (off := 107) (tgt := 108) a_X11_count_1 (by rw [hs8]; rfl) (by decide) (by decide) rfl rfl ?_
    refine R_aload_n a_X11_count_108 rfl ?_
    refine R_get a_X11_count_109 hM rfl ?_
    refine R_iret a_X11_count_112 rfl ?_
    exact ⟨by unfold zCount; rw [hs8, gd_in (by decide) (by decide)]; rfl, hC, Fr.rf _ _ _⟩
  by_cases hs9 : w = nI 9
  · refine R_tswI (c0 := 9) (off := 112) (tgt := 113) a_X11_count_1 (by rw [hs9]; rfl) (by decide) (by decide) rfl rfl ?_
    refine R_aload_n a_X11_count_113 rfl ?_
    refine R_get a_X11_count_114 hM rfl ?_
    refine R_iret a_X11_count_117 rfl ?_
    exact ⟨by unfold zCount; rw [hs9, gd_in (by decide) (by decide)]; rfl, hC, Fr.rf _ _ _⟩
  refine R_tswO (tgt := 118) a_X11_count_1 (by have g0 := i32_ne hs0 (by decide); have g1 := i32_ne hs1 (by decide); have g2 := i32_ne hs2 (by decide); have g3 := i32_ne hs3 (by decide); have g4 := i32_ne hs4 (by decide); have g5 := i32_ne hs5 (by decide); have g6 := i32_ne hs6 (by decide); have g7 := i32_ne hs7 (by decide); have g8 := i32_ne hs8 (by decide); have g9 := i32_ne hs9 (by decide); omega) rfl ?_
  have hout : inR w 10 = 0 := ne_out (by decide) (fun j hj e => by
    rcases (show j = 0 ∨ j = 1 ∨ j = 2 ∨ j = 3 ∨ j = 4 ∨ j = 5 ∨ j = 6 ∨ j = 7 ∨ j = 8 ∨ j = 9 by omega) with rfl | rfl | rfl | rfl | rfl | rfl | rfl | rfl | rfl | rfl
    · exact hs0 e
    · exact hs1 e
    · exact hs2 e
    · exact hs3 e
    · exact hs4 e
    · exact hs5 e
    · exact hs6 e
    · exact hs7 e
    · exact hs8 e
    · exact hs9 e)
  refine R_iconst (v := (-1)) a_X11_count_118 rfl ?_
  refine R_iret a_X11_count_119 rfl ?_
  exact ⟨by unfold zCount; rw [gd_out hout], hC, Fr.rf _ _ _⟩

set_option maxRecDepth 20000 in
theorem md_guest {σ0 : AHp} {U : Us} {m : Nat} (hC : MP σ0 U) (hU : UOk U m) (hm : m < 2 ^ 20) {x w : Int32} : EvW M_X11_guest [.ref 272, .int x, .int w] σ0 (some (.int (zGuest U x w))) (fun σ => MP σ (U) ∧ Fr σ0 σ 272 12) := by
  obtain ⟨at_, fx, ft, fd, fp, fi, fy, fw, fs, fb, fh, hM, hMX, hMT, hDr, hSr, hMPa, hMIm, hMSy, hWy, hSm, hBh, hHd⟩ := id hC
  obtain ⟨hTx, hTxv⟩ := id hMX
  obtain ⟨hTo, t0, t1, t2, t3, t28, tkd, thn, tkn, thf⟩ := id hMT
  obtain ⟨hPa, hPav⟩ := id hMPa
  obtain ⟨hIm, hImv⟩ := id hMIm
  obtain ⟨hSy, hSyv⟩ := id hMSy
  have ok := hU.T
  obtain ⟨g3, g8, n1, n6, lw, stg, son, kd4, hn10, kn63, hf4⟩ := id ok
  have hn64 : 2 ^ U.T.n ≤ 2 ^ 6 := Nat.pow_le_pow_right (by decide) n6
  have hg256 : 2 ^ U.T.g ≤ 2 ^ 8 := Nat.pow_le_pow_right (by decide) g8
  have hlen := hU.len
  have hu8 := hU.u8
  have hul := hU.ul
  have hkn2 := hU.kn2
  have hsg := saltF_lt ok U.h
  have hfr : ∀ j, j < 272 ∨ 284 ≤ j → σ0 j = σ0 j := fun _ _ => rfl
  refine Ev.of (ls := [_, _, _]) 0 (by decide) rfl rfl ?_
  refine R_aload_n a_X11_guest_0 rfl ?_
  refine R_iload_n a_X11_guest_1 rfl ?_
  refine R_callVp a_X11_guest_2 hM (md_isGuest hM hMT ok) rfl rfl rfl rfl rfl ?_
  first | with_reducible refine R_if_ne_n a_X11_guest_5 (by first | omega | exact Nat.lt_of_le_of_lt (inR_le _ _) (by decide) | exact Nat.lt_of_le_of_lt (bitN_le _ _) (by decide) | exact Nat.lt_of_le_of_lt (inI_le _ _ _) (by decide) | exact inI_le _ _ _ | exact inR_le _ _ | exact bitN_le _ _) (fun h5 => ?_) (fun h5 => ?_) | refine R_if_ne a_X11_guest_5 (fun h5 => ?_) (fun h5 => ?_)
  · skip
    obtain ⟨i, hi, rfl⟩ := inR_nz (by omega) h5
    refine R_iload_n a_X11_guest_10 rfl ?_
    by_cases hs0 : w = nI 0
    · refine R_tswI (c0 := 0) (off := 33) (tgt := 44) a_X11_guest_11 (by rw [hs0]; rfl) (by decide) (by decide) rfl rfl ?_
      refine R_aload_n a_X11_guest_44 rfl ?_
      refine R_get a_X11_guest_45 hM rfl ?_
      refine R_iconst (v := nI 4) a_X11_guest_48 rfl ?_
      refine R_iload_n a_X11_guest_49 rfl ?_
      first | with_reducible refine R_iadd_n a_X11_guest_50 ?_ | refine R_iadd a_X11_guest_50 ?_
      refine R_iald_n a_X11_guest_51 hTo (by first | omega | exact Nat.lt_of_le_of_lt (inR_le _ _) (by decide) | exact Nat.lt_of_le_of_lt (bitN_le _ _) (by decide) | exact Nat.lt_of_le_of_lt (inI_le _ _ _) (by decide) | exact inI_le _ _ _ | exact inR_le _ _ | exact bitN_le _ _) (by decide) ?_
      refine R_top (tkd _ (by first | omega | exact Nat.lt_of_le_of_lt (inR_le _ _) (by decide) | exact Nat.lt_of_le_of_lt (bitN_le _ _) (by decide) | exact Nat.lt_of_le_of_lt (inI_le _ _ _) (by decide) | exact inI_le _ _ _ | exact inR_le _ _ | exact bitN_le _ _)) ?_
      refine R_iret a_X11_guest_52 rfl ?_
      exact ⟨by unfold zGuest; rw [gd_in hi (by omega), hs0, gd_in (by decide) (by decide)]; rfl, hC, Fr.rf _ _ _⟩
    by_cases hs1 : w = nI 1
    · refine R_tswI (c0 := 1) (off := 42) (tgt := 53) a_X11_guest_11 (by rw [hs1]; rfl) (by decide) (by decide) rfl rfl ?_
      refine R_aload_n a_X11_guest_53 rfl ?_
      refine R_get a_X11_guest_54 hM rfl ?_
      refine R_bipush (v := nI 12) a_X11_guest_57 rfl ?_
      refine R_iload_n a_X11_guest_59 rfl ?_
      first | with_reducible refine R_iadd_n a_X11_guest_60 ?_ | refine R_iadd a_X11_guest_60 ?_
      refine R_iald_n a_X11_guest_61 hTo (by first | omega | exact Nat.lt_of_le_of_lt (inR_le _ _) (by decide) | exact Nat.lt_of_le_of_lt (bitN_le _ _) (by decide) | exact Nat.lt_of_le_of_lt (inI_le _ _ _) (by decide) | exact inI_le _ _ _ | exact inR_le _ _ | exact bitN_le _ _) (by decide) ?_
      refine R_top (thn _ (by first | omega | exact Nat.lt_of_le_of_lt (inR_le _ _) (by decide) | exact Nat.lt_of_le_of_lt (bitN_le _ _) (by decide) | exact Nat.lt_of_le_of_lt (inI_le _ _ _) (by decide) | exact inI_le _ _ _ | exact inR_le _ _ | exact bitN_le _ _)) ?_
      refine R_iret a_X11_guest_62 rfl ?_
      exact ⟨by unfold zGuest; rw [gd_in hi (by omega), hs1, gd_in (by decide) (by decide)]; rfl, hC, Fr.rf _ _ _⟩
    by_cases hs2 : w = nI 2
    · refine R_tswI (c0 := 2) (off := 52) (tgt := 63) a_X11_guest_11 (by rw [hs2]; rfl) (by decide) (by decide) rfl rfl ?_
      refine R_aload_n a_X11_guest_63 rfl ?_
      refine R_get a_X11_guest_64 hM rfl ?_
      refine R_bipush (v := nI 20) a_X11_guest_67 rfl ?_
      refine R_iload_n a_X11_guest_69 rfl ?_
      first | with_reducible refine R_iadd_n a_X11_guest_70 ?_ | refine R_iadd a_X11_guest_70 ?_
      refine R_iald_n a_X11_guest_71 hTo (by first | omega | exact Nat.lt_of_le_of_lt (inR_le _ _) (by decide) | exact Nat.lt_of_le_of_lt (bitN_le _ _) (by decide) | exact Nat.lt_of_le_of_lt (inI_le _ _ _) (by decide) | exact inI_le _ _ _ | exact inR_le _ _ | exact bitN_le _ _) (by decide) ?_
      refine R_top (tkn _ (by first | omega | exact Nat.lt_of_le_of_lt (inR_le _ _) (by decide) | exact Nat.lt_of_le_of_lt (bitN_le _ _) (by decide) | exact Nat.lt_of_le_of_lt (inI_le _ _ _) (by decide) | exact inI_le _ _ _ | exact inR_le _ _ | exact bitN_le _ _)) ?_
      refine R_iret a_X11_guest_72 rfl ?_
      exact ⟨by unfold zGuest; rw [gd_in hi (by omega), hs2, gd_in (by decide) (by decide)]; rfl, hC, Fr.rf _ _ _⟩
    by_cases hs3 : w = nI 3
    · refine R_tswI (c0 := 3) (off := 62) (tgt := 73) a_X11_guest_11 (by rw [hs3]; rfl) (by decide) (by decide) rfl rfl ?_
      refine R_aload_n a_X11_guest_73 rfl ?_
      refine R_get a_X11_guest_74 hM rfl ?_
      refine R_iconst (v := nI 5) a_X11_guest_77 rfl ?_
      refine R_iload_n a_X11_guest_78 rfl ?_
      first | with_reducible refine R_iadd_n a_X11_guest_79 ?_ | refine R_iadd a_X11_guest_79 ?_
      refine R_iald_n a_X11_guest_80 hSr (by first | omega | exact Nat.lt_of_le_of_lt (inR_le _ _) (by decide) | exact Nat.lt_of_le_of_lt (bitN_le _ _) (by decide) | exact Nat.lt_of_le_of_lt (inI_le _ _ _) (by decide) | exact inI_le _ _ _ | exact inR_le _ _ | exact bitN_le _ _) (by decide) ?_
      refine R_top (congrArg nI (sF_ld U.T U.h (show i < 8 by omega))) ?_
      refine R_iret a_X11_guest_81 rfl ?_
      exact ⟨by unfold zGuest; rw [gd_in hi (by omega), hs3, gd_in (by decide) (by decide)]; rfl, hC, Fr.rf _ _ _⟩
    by_cases hs4 : w = nI 4
    · refine R_tswI (c0 := 4) (off := 71) (tgt := 82) a_X11_guest_11 (by rw [hs4]; rfl) (by decide) (by decide) rfl rfl ?_
      refine R_aload_n a_X11_guest_82 rfl ?_
      refine R_aload_n a_X11_guest_83 rfl ?_
      refine R_get a_X11_guest_84 hM rfl ?_
      refine R_iconst (v := nI 0) a_X11_guest_87 rfl ?_
      refine R_iald_n a_X11_guest_88 hSr (by first | omega | exact Nat.lt_of_le_of_lt (inR_le _ _) (by decide) | exact Nat.lt_of_le_of_lt (bitN_le _ _) (by decide) | exact Nat.lt_of_le_of_lt (inI_le _ _ _) (by decide) | exact inI_le _ _ _ | exact inR_le _ _ | exact bitN_le _ _) (by decide) ?_
      refine R_top (congrArg nI (sF_0 U.T U.h)) ?_
      refine R_iload_n a_X11_guest_89 rfl ?_
      refine R_callVp a_X11_guest_90 hM (md_far hM hMT ok hsg hi) rfl rfl rfl rfl rfl ?_
      refine R_iret a_X11_guest_93 rfl ?_
      exact ⟨by unfold zGuest; rw [gd_in hi (by omega), hs4, gd_in (by decide) (by decide)]; rfl, hC, Fr.rf _ _ _⟩
    refine R_tswO (tgt := 94) a_X11_guest_11 (by have g0 := i32_ne hs0 (by decide); have g1 := i32_ne hs1 (by decide); have g2 := i32_ne hs2 (by decide); have g3 := i32_ne hs3 (by decide); have g4 := i32_ne hs4 (by decide); omega) rfl ?_
    have hout : inR w 5 = 0 := ne_out (by decide) (fun j hj e => by
      rcases (show j = 0 ∨ j = 1 ∨ j = 2 ∨ j = 3 ∨ j = 4 by omega) with rfl | rfl | rfl | rfl | rfl
      · exact hs0 e
      · exact hs1 e
      · exact hs2 e
      · exact hs3 e
      · exact hs4 e)
    refine R_iconst (v := (-1)) a_X11_guest_94 rfl ?_
    refine R_iret a_X11_guest_95 rfl ?_
    exact ⟨by unfold zGuest; rw [gd_in hi (by omega), gd_out hout], hC, Fr.rf _ _ _⟩
  · skip
    refine R_iconst (v := (-1)) a_X11_guest_8 rfl ?_
    refine R_iret a_X11_guest_9 rfl ?_
    exact ⟨by unfold zGuest; rw [gd_out h5], hC, Fr.rf _ _ _⟩

set_option maxRecDepth 20000 in
theorem md_thing {σ0 : AHp} {U : Us} {m : Nat} (hC : MP σ0 U) (hU : UOk U m) (hm : m < 2 ^ 20) {x w : Int32} : EvW M_X11_thing [.ref 272, .int x, .int w] σ0 (some (.int (zThing U x w))) (fun σ => MP σ (U) ∧ Fr σ0 σ 272 12) := by
  obtain ⟨at_, fx, ft, fd, fp, fi, fy, fw, fs, fb, fh, hM, hMX, hMT, hDr, hSr, hMPa, hMIm, hMSy, hWy, hSm, hBh, hHd⟩ := id hC
  obtain ⟨hTx, hTxv⟩ := id hMX
  obtain ⟨hTo, t0, t1, t2, t3, t28, tkd, thn, tkn, thf⟩ := id hMT
  obtain ⟨hPa, hPav⟩ := id hMPa
  obtain ⟨hIm, hImv⟩ := id hMIm
  obtain ⟨hSy, hSyv⟩ := id hMSy
  have ok := hU.T
  obtain ⟨g3, g8, n1, n6, lw, stg, son, kd4, hn10, kn63, hf4⟩ := id ok
  have hn64 : 2 ^ U.T.n ≤ 2 ^ 6 := Nat.pow_le_pow_right (by decide) n6
  have hg256 : 2 ^ U.T.g ≤ 2 ^ 8 := Nat.pow_le_pow_right (by decide) g8
  have hlen := hU.len
  have hu8 := hU.u8
  have hul := hU.ul
  have hkn2 := hU.kn2
  have hsg := saltF_lt ok U.h
  have hfr : ∀ j, j < 272 ∨ 284 ≤ j → σ0 j = σ0 j := fun _ _ => rfl
  refine Ev.of (ls := [_, _, _]) 0 (by decide) rfl rfl ?_
  refine R_aload_n a_X11_thing_0 rfl ?_
  refine R_iload_n a_X11_thing_1 rfl ?_
  refine R_callVp a_X11_thing_2 hM (md_isThing hM hMT ok) rfl rfl rfl rfl rfl ?_
  first | with_reducible refine R_if_eq_n a_X11_thing_5 (by first | omega | exact Nat.lt_of_le_of_lt (inR_le _ _) (by decide) | exact Nat.lt_of_le_of_lt (bitN_le _ _) (by decide) | exact Nat.lt_of_le_of_lt (inI_le _ _ _) (by decide) | exact inI_le _ _ _ | exact inR_le _ _ | exact bitN_le _ _) (fun h5 => ?_) (fun h5 => ?_) | refine R_if_eq a_X11_thing_5 (fun h5 => ?_) (fun h5 => ?_)
  · skip
    have hz : zThing U x w = -1 := by unfold zThing; rw [gd_out h5]
    refine R_iconst (v := (-1)) a_X11_thing_17 rfl ?_
    refine R_iret a_X11_thing_18 rfl ?_
    exact ⟨by rw [hz], hC, Fr.rf _ _ _⟩
  · skip
    obtain ⟨k, hk, rfl⟩ := inR_nz (by omega) h5
    refine R_iload_n a_X11_thing_8 rfl ?_
    refine R_iconst (v := nI 0) a_X11_thing_9 rfl ?_
    refine R_iconst (v := nI 1) a_X11_thing_10 rfl ?_
    refine R_callSp a_X11_thing_11 md_in rfl rfl rfl rfl rfl ?_
    refine R_top (congrArg nI (inI_c w (n := 1) (by decide))) ?_
    first | with_reducible refine R_if_ne_n a_X11_thing_14 (by first | omega | exact Nat.lt_of_le_of_lt (inR_le _ _) (by decide) | exact Nat.lt_of_le_of_lt (bitN_le _ _) (by decide) | exact Nat.lt_of_le_of_lt (inI_le _ _ _) (by decide) | exact inI_le _ _ _ | exact inR_le _ _ | exact bitN_le _ _) (fun h14 => ?_) (fun h14 => ?_) | refine R_if_ne a_X11_thing_14 (fun h14 => ?_) (fun h14 => ?_)
    · skip
      obtain ⟨c, hc, rfl⟩ := inR_nz (by omega) h14
      refine R_iload_n a_X11_thing_19 rfl ?_
      first | with_reducible refine R_if_ne_n a_X11_thing_20 (by first | omega | exact Nat.lt_of_le_of_lt (inR_le _ _) (by decide) | exact Nat.lt_of_le_of_lt (bitN_le _ _) (by decide) | exact Nat.lt_of_le_of_lt (inI_le _ _ _) (by decide) | exact inI_le _ _ _ | exact inR_le _ _ | exact bitN_le _ _) (fun h20 => ?_) (fun h20 => ?_) | refine R_if_ne a_X11_thing_20 (fun h20 => ?_) (fun h20 => ?_)
      · skip
        have hz : zThing U (nI k) (nI c) = nI (U.T.hf k) := by unfold zThing; rw [gd_in hk (by omega), gd_in hc (by decide), if_neg h20]
        refine R_aload_n a_X11_thing_37 rfl ?_
        refine R_get a_X11_thing_38 hM rfl ?_
        refine R_bipush (v := nI 29) a_X11_thing_41 rfl ?_
        refine R_iload_n a_X11_thing_43 rfl ?_
        first | with_reducible refine R_iadd_n a_X11_thing_44 ?_ | refine R_iadd a_X11_thing_44 ?_
        refine R_iald_n a_X11_thing_45 hTo (by first | omega | exact Nat.lt_of_le_of_lt (inR_le _ _) (by decide) | exact Nat.lt_of_le_of_lt (bitN_le _ _) (by decide) | exact Nat.lt_of_le_of_lt (inI_le _ _ _) (by decide) | exact inI_le _ _ _ | exact inR_le _ _ | exact bitN_le _ _) (by decide) ?_
        refine R_top (thf _ (by first | omega | exact Nat.lt_of_le_of_lt (inR_le _ _) (by decide) | exact Nat.lt_of_le_of_lt (bitN_le _ _) (by decide) | exact Nat.lt_of_le_of_lt (inI_le _ _ _) (by decide) | exact inI_le _ _ _ | exact inR_le _ _ | exact bitN_le _ _)) ?_
        refine R_iret a_X11_thing_46 rfl ?_
        exact ⟨by rw [hz] <;> rfl, hC, Fr.rf _ _ _⟩
      · skip
        have hz : zThing U (nI k) (nI c) = nI (bitN U.T.so k) := by unfold zThing; rw [gd_in hk (by omega), gd_in hc (by decide), if_pos h20]
        refine R_aload_n a_X11_thing_23 rfl ?_
        refine R_get a_X11_thing_24 hM rfl ?_
        refine R_bipush (v := nI 28) a_X11_thing_27 rfl ?_
        refine R_iald_n a_X11_thing_29 hTo (by first | omega | exact Nat.lt_of_le_of_lt (inR_le _ _) (by decide) | exact Nat.lt_of_le_of_lt (bitN_le _ _) (by decide) | exact Nat.lt_of_le_of_lt (inI_le _ _ _) (by decide) | exact inI_le _ _ _ | exact inR_le _ _ | exact bitN_le _ _) (by decide) ?_
        refine R_top t28 ?_
        refine R_iload_n a_X11_thing_30 rfl ?_
        first | with_reducible refine R_ishr_n a_X11_thing_31 (by first | omega | exact Nat.lt_of_le_of_lt (inR_le _ _) (by decide) | exact Nat.lt_of_le_of_lt (bitN_le _ _) (by decide) | exact Nat.lt_of_le_of_lt (inI_le _ _ _) (by decide) | exact inI_le _ _ _ | exact inR_le _ _ | exact bitN_le _ _) (by first | omega | exact Nat.lt_of_le_of_lt (inR_le _ _) (by decide) | exact Nat.lt_of_le_of_lt (bitN_le _ _) (by decide) | exact Nat.lt_of_le_of_lt (inI_le _ _ _) (by decide) | exact inI_le _ _ _ | exact inR_le _ _ | exact bitN_le _ _) ?_ | refine R_ishr a_X11_thing_31 ?_
        refine R_iconst (v := nI 1) a_X11_thing_32 rfl ?_
        first | with_reducible refine R_iand1 a_X11_thing_33 ?_ | with_reducible refine R_iand_n a_X11_thing_33 ?_ | refine R_iand a_X11_thing_33 ?_
        refine R_goto a_X11_thing_34 ?_
        refine R_iret a_X11_thing_46 rfl ?_
        exact ⟨by rw [hz] <;> rfl, hC, Fr.rf _ _ _⟩
    · skip
      have hz : zThing U (nI k) w = -1 := by unfold zThing; rw [gd_in hk (by omega), gd_out h14]
      refine R_iconst (v := (-1)) a_X11_thing_17 rfl ?_
      refine R_iret a_X11_thing_18 rfl ?_
      exact ⟨by rw [hz], hC, Fr.rf _ _ _⟩

set_option maxRecDepth 20000 in
theorem md_weight {σ0 : AHp} {U : Us} {m : Nat} (hC : MP σ0 U) (hU : UOk U m) (hm : m < 2 ^ 20) {x y : Int32} : EvW M_X11_weight [.ref 272, .int x, .int y] σ0 (some (.int (zWeight U x y))) (fun σ => MP σ (U) ∧ Fr σ0 σ 272 12) := by
  obtain ⟨at_, fx, ft, fd, fp, fi, fy, fw, fs, fb, fh, hM, hMX, hMT, hDr, hSr, hMPa, hMIm, hMSy, hWy, hSm, hBh, hHd⟩ := id hC
  obtain ⟨hTx, hTxv⟩ := id hMX
  obtain ⟨hTo, t0, t1, t2, t3, t28, tkd, thn, tkn, thf⟩ := id hMT
  obtain ⟨hPa, hPav⟩ := id hMPa
  obtain ⟨hIm, hImv⟩ := id hMIm
  obtain ⟨hSy, hSyv⟩ := id hMSy
  have ok := hU.T
  obtain ⟨g3, g8, n1, n6, lw, stg, son, kd4, hn10, kn63, hf4⟩ := id ok
  have hn64 : 2 ^ U.T.n ≤ 2 ^ 6 := Nat.pow_le_pow_right (by decide) n6
  have hg256 : 2 ^ U.T.g ≤ 2 ^ 8 := Nat.pow_le_pow_right (by decide) g8
  have hlen := hU.len
  have hu8 := hU.u8
  have hul := hU.ul
  have hkn2 := hU.kn2
  have hsg := saltF_lt ok U.h
  have hfr : ∀ j, j < 272 ∨ 284 ≤ j → σ0 j = σ0 j := fun _ _ => rfl
  refine Ev.of (ls := [_, _, _]) 0 (by decide) rfl rfl ?_
  refine R_aload_n a_X11_weight_0 rfl ?_
  refine R_iload_n a_X11_weight_1 rfl ?_
  refine R_callVp a_X11_weight_2 hM (md_isGuest hM hMT ok) rfl rfl rfl rfl rfl ?_
  first | with_reducible refine R_if_eq_n a_X11_weight_5 (by first | omega | exact Nat.lt_of_le_of_lt (inR_le _ _) (by decide) | exact Nat.lt_of_le_of_lt (bitN_le _ _) (by decide) | exact Nat.lt_of_le_of_lt (inI_le _ _ _) (by decide) | exact inI_le _ _ _ | exact inR_le _ _ | exact bitN_le _ _) (fun h5 => ?_) (fun h5 => ?_) | refine R_if_eq a_X11_weight_5 (fun h5 => ?_) (fun h5 => ?_)
  · skip
    have hz : zWeight U x y = -1 := by unfold zWeight; rw [gd_out h5]
    refine R_iconst (v := (-1)) a_X11_weight_25 rfl ?_
    refine R_iret a_X11_weight_26 rfl ?_
    exact ⟨by rw [hz], hC, Fr.rf _ _ _⟩
  · skip
    obtain ⟨i, hi, rfl⟩ := inR_nz (by omega) h5
    refine R_aload_n a_X11_weight_8 rfl ?_
    refine R_iload_n a_X11_weight_9 rfl ?_
    refine R_callVp a_X11_weight_10 hM (md_isThing hM hMT ok) rfl rfl rfl rfl rfl ?_
    first | with_reducible refine R_if_eq_n a_X11_weight_13 (by first | omega | exact Nat.lt_of_le_of_lt (inR_le _ _) (by decide) | exact Nat.lt_of_le_of_lt (bitN_le _ _) (by decide) | exact Nat.lt_of_le_of_lt (inI_le _ _ _) (by decide) | exact inI_le _ _ _ | exact inR_le _ _ | exact bitN_le _ _) (fun h13 => ?_) (fun h13 => ?_) | refine R_if_eq a_X11_weight_13 (fun h13 => ?_) (fun h13 => ?_)
    · skip
      have hz : zWeight U (nI i) y = -1 := by unfold zWeight; rw [gd_in hi (by omega), gd_out h13]
      refine R_iconst (v := (-1)) a_X11_weight_25 rfl ?_
      refine R_iret a_X11_weight_26 rfl ?_
      exact ⟨by rw [hz], hC, Fr.rf _ _ _⟩
    · skip
      obtain ⟨k, hk, rfl⟩ := inR_nz (by omega) h13
      have hz : zWeight U (nI i) (nI k) = nI (cnt U.T i k) := by unfold zWeight; rw [gd_in hi (by omega), gd_in hk (by omega)]
      refine R_aload_n a_X11_weight_16 rfl ?_
      refine R_iload_n a_X11_weight_17 rfl ?_
      refine R_iload_n a_X11_weight_18 rfl ?_
      refine R_callVp a_X11_weight_19 hM (md_counts hM hMT ok hi hk) rfl rfl rfl rfl rfl ?_
      refine R_goto a_X11_weight_22 ?_
      refine R_iret a_X11_weight_26 rfl ?_
      exact ⟨by rw [hz], hC, Fr.rf _ _ _⟩

set_option maxRecDepth 20000 in
theorem md_wipe {σ0 : AHp} {U : Us} {m : Nat} (hC : MP σ0 U) (hU : UOk U m) (hm : m < 2 ^ 20) : EvW M_X11_wipe [.ref 272] σ0 (some (.int ((zWipe U).1))) (fun σ => MP σ ((zWipe U).2) ∧ Fr σ0 σ 272 12) := by
  obtain ⟨at_, fx, ft, fd, fp, fi, fy, fw, fs, fb, fh, hM, hMX, hMT, hDr, hSr, hMPa, hMIm, hMSy, hWy, hSm, hBh, hHd⟩ := id hC
  obtain ⟨hTx, hTxv⟩ := id hMX
  obtain ⟨hTo, t0, t1, t2, t3, t28, tkd, thn, tkn, thf⟩ := id hMT
  obtain ⟨hPa, hPav⟩ := id hMPa
  obtain ⟨hIm, hImv⟩ := id hMIm
  obtain ⟨hSy, hSyv⟩ := id hMSy
  have ok := hU.T
  obtain ⟨g3, g8, n1, n6, lw, stg, son, kd4, hn10, kn63, hf4⟩ := id ok
  have hn64 : 2 ^ U.T.n ≤ 2 ^ 6 := Nat.pow_le_pow_right (by decide) n6
  have hg256 : 2 ^ U.T.g ≤ 2 ^ 8 := Nat.pow_le_pow_right (by decide) g8
  have hlen := hU.len
  have hu8 := hU.u8
  have hul := hU.ul
  have hkn2 := hU.kn2
  have hsg := saltF_lt ok U.h
  have hfr : ∀ j, j < 272 ∨ 284 ≤ j → σ0 j = σ0 j := fun _ _ => rfl
  refine Ev.of (ls := [_, _]) 1 (by decide) rfl rfl ?_
  refine R_aload_n a_X11_wipe_0 rfl ?_
  refine R_get a_X11_wipe_1 hM rfl ?_
  refine R_istore_n (ls' := [_, _]) a_X11_wipe_4 rfl rfl rfl ?_
  refine R_aload_n a_X11_wipe_5 rfl ?_
  refine R_iconst (v := nI 0) a_X11_wipe_6 rfl ?_
  refine R_putiK (fs' := [_, _, _, _, _, _, _, _, _, _, _, _, _, _, _, _]) a_X11_wipe_7 hM rfl rfl (fun σ hM ho => ?_)
  have hTx := (ho _ (by omega)).trans hTx
  have hTo := (ho _ (by omega)).trans hTo
  have hDr := (ho _ (by omega)).trans hDr
  have hSr := (ho _ (by omega)).trans hSr
  have hPa := (ho _ (by omega)).trans hPa
  have hIm := (ho _ (by omega)).trans hIm
  have hSy := (ho _ (by omega)).trans hSy
  have hWy := (ho _ (by omega)).trans hWy
  have hSm := (ho _ (by omega)).trans hSm
  have hBh := (ho _ (by omega)).trans hBh
  have hHd := (ho _ (by omega)).trans hHd
  have hfr : ∀ j, j < 272 ∨ 284 ≤ j → σ j = σ0 j := fun j hj => (ho j (by omega)).trans (hfr j hj)
  refine R_iload_n a_X11_wipe_10 rfl ?_
  refine R_iret a_X11_wipe_11 rfl ?_
  exact ⟨rfl, ⟨_, _, _, _, _, _, _, _, _, _, _, hM, ⟨hTx, fun j hj => absurd hj (Nat.not_lt_zero j)⟩, ⟨hTo, t0, t1, t2, t3, t28, tkd, thn, tkn, thf⟩, hDr, hSr, ⟨hPa, hPav⟩, ⟨hIm, hImv⟩, ⟨hSy, hSyv⟩, hWy, hSm, hBh, hHd⟩, fun j hj => hfr j (by omega)⟩

set_option maxRecDepth 20000 in
theorem md_forget {σ0 : AHp} {U : Us} {m : Nat} (hC : MP σ0 U) (hU : UOk U m) (hm : m < 2 ^ 20) : EvW M_X11_forget [.ref 272] σ0 (some (.int ((zForget U).1))) (fun σ => MP σ ((zForget U).2) ∧ Fr σ0 σ 272 12) := by
  obtain ⟨at_, fx, ft, fd, fp, fi, fy, fw, fs, fb, fh, hM, hMX, hMT, hDr, hSr, hMPa, hMIm, hMSy, hWy, hSm, hBh, hHd⟩ := id hC
  obtain ⟨hTx, hTxv⟩ := id hMX
  obtain ⟨hTo, t0, t1, t2, t3, t28, tkd, thn, tkn, thf⟩ := id hMT
  obtain ⟨hPa, hPav⟩ := id hMPa
  obtain ⟨hIm, hImv⟩ := id hMIm
  obtain ⟨hSy, hSyv⟩ := id hMSy
  have ok := hU.T
  obtain ⟨g3, g8, n1, n6, lw, stg, son, kd4, hn10, kn63, hf4⟩ := id ok
  have hn64 : 2 ^ U.T.n ≤ 2 ^ 6 := Nat.pow_le_pow_right (by decide) n6
  have hg256 : 2 ^ U.T.g ≤ 2 ^ 8 := Nat.pow_le_pow_right (by decide) g8
  have hlen := hU.len
  have hu8 := hU.u8
  have hul := hU.ul
  have hkn2 := hU.kn2
  have hsg := saltF_lt ok U.h
  have hfr : ∀ j, j < 272 ∨ 284 ≤ j → σ0 j = σ0 j := fun _ _ => rfl
  refine Ev.of (ls := [_, _]) 1 (by decide) rfl rfl ?_
  refine R_aload_n a_X11_forget_0 rfl ?_
  refine R_get a_X11_forget_1 hM rfl ?_
  refine R_istore_n (ls' := [_, _]) a_X11_forget_4 rfl rfl rfl ?_
  refine R_aload_n a_X11_forget_5 rfl ?_
  refine R_iconst (v := nI 0) a_X11_forget_6 rfl ?_
  refine R_putiK (fs' := [_, _, _, _, _, _, _, _, _, _, _, _, _, _, _, _]) a_X11_forget_7 hM rfl rfl (fun σ hM ho => ?_)
  have hTx := (ho _ (by omega)).trans hTx
  have hTo := (ho _ (by omega)).trans hTo
  have hDr := (ho _ (by omega)).trans hDr
  have hSr := (ho _ (by omega)).trans hSr
  have hPa := (ho _ (by omega)).trans hPa
  have hIm := (ho _ (by omega)).trans hIm
  have hSy := (ho _ (by omega)).trans hSy
  have hWy := (ho _ (by omega)).trans hWy
  have hSm := (ho _ (by omega)).trans hSm
  have hBh := (ho _ (by omega)).trans hBh
  have hHd := (ho _ (by omega)).trans hHd
  have hfr : ∀ j, j < 272 ∨ 284 ≤ j → σ j = σ0 j := fun j hj => (ho j (by omega)).trans (hfr j hj)
  refine R_iload_n a_X11_forget_10 rfl ?_
  refine R_iret a_X11_forget_11 rfl ?_
  exact ⟨rfl, ⟨_, _, _, _, _, _, _, _, _, _, _, hM, ⟨hTx, hTxv⟩, ⟨hTo, t0, t1, t2, t3, t28, tkd, thn, tkn, thf⟩, hDr, hSr, ⟨hPa, hPav⟩, ⟨hIm, hImv⟩, ⟨hSy, fun j hj => absurd hj (Nat.not_lt_zero j)⟩, hWy, hSm, hBh, hHd⟩, fun j hj => hfr j (by omega)⟩

set_option maxRecDepth 20000 in
theorem md_tell {σ0 : AHp} {U : Us} {m : Nat} (hC : MP σ0 U) (hU : UOk U m) (hm : m < 2 ^ 20) {x : Int32} {b : Nat} (hb : b ≤ 1) : EvW M_X11_tell [.ref 272, .int x, .int (nI b)] σ0 (some (.int ((zTell U x b).1))) (fun σ => MP σ ((zTell U x b).2) ∧ Fr σ0 σ 272 12) := by
  obtain ⟨at_, fx, ft, fd, fp, fi, fy, fw, fs, fb, fh, hM, hMX, hMT, hDr, hSr, hMPa, hMIm, hMSy, hWy, hSm, hBh, hHd⟩ := id hC
  obtain ⟨hTx, hTxv⟩ := id hMX
  obtain ⟨hTo, t0, t1, t2, t3, t28, tkd, thn, tkn, thf⟩ := id hMT
  obtain ⟨hPa, hPav⟩ := id hMPa
  obtain ⟨hIm, hImv⟩ := id hMIm
  obtain ⟨hSy, hSyv⟩ := id hMSy
  have ok := hU.T
  obtain ⟨g3, g8, n1, n6, lw, stg, son, kd4, hn10, kn63, hf4⟩ := id ok
  have hn64 : 2 ^ U.T.n ≤ 2 ^ 6 := Nat.pow_le_pow_right (by decide) n6
  have hg256 : 2 ^ U.T.g ≤ 2 ^ 8 := Nat.pow_le_pow_right (by decide) g8
  have hlen := hU.len
  have hu8 := hU.u8
  have hul := hU.ul
  have hkn2 := hU.kn2
  have hsg := saltF_lt ok U.h
  have hfr : ∀ j, j < 272 ∨ 284 ≤ j → σ0 j = σ0 j := fun _ _ => rfl
  have hns8 := hU.2.2.2.2.2.2.2.2.2.1
  refine Ev.of (ls := [_, _, _]) 0 (by decide) rfl rfl ?_
  refine R_aload_n a_X11_tell_0 rfl ?_
  refine R_iload_n a_X11_tell_1 rfl ?_
  refine R_callVp a_X11_tell_2 hM (md_isGuest hM hMT ok) rfl rfl rfl rfl rfl ?_
  first | with_reducible refine R_if_ne_n a_X11_tell_5 (by first | omega | exact Nat.lt_of_le_of_lt (inR_le _ _) (by decide) | exact Nat.lt_of_le_of_lt (bitN_le _ _) (by decide) | exact Nat.lt_of_le_of_lt (inI_le _ _ _) (by decide) | exact inI_le _ _ _ | exact inR_le _ _ | exact bitN_le _ _) (fun h5 => ?_) (fun h5 => ?_) | refine R_if_ne a_X11_tell_5 (fun h5 => ?_) (fun h5 => ?_)
  · skip
    obtain ⟨i, hi, rfl⟩ := inR_nz (by omega) h5
    refine R_aload_n a_X11_tell_10 rfl ?_
    refine R_get a_X11_tell_11 hM rfl ?_
    refine R_bipush (v := nI 8) a_X11_tell_14 rfl ?_
    first | with_reducible refine R_icmp_ne_n a_X11_tell_16 (by first | omega | exact Nat.lt_of_le_of_lt (inR_le _ _) (by decide) | exact Nat.lt_of_le_of_lt (bitN_le _ _) (by decide) | exact Nat.lt_of_le_of_lt (inI_le _ _ _) (by decide) | exact inI_le _ _ _ | exact inR_le _ _ | exact bitN_le _ _) (by first | omega | exact Nat.lt_of_le_of_lt (inR_le _ _) (by decide) | exact Nat.lt_of_le_of_lt (bitN_le _ _) (by decide) | exact Nat.lt_of_le_of_lt (inI_le _ _ _) (by decide) | exact inI_le _ _ _ | exact inR_le _ _ | exact bitN_le _ _) (fun h16 => ?_) (fun h16 => ?_) | refine R_icmp_ne a_X11_tell_16 (fun h16 => ?_) (fun h16 => ?_)
    · skip
      have hns : U.ns < 8 := by omega
      have hz : zTell U (nI i) b = (nI (U.ns + 1), (U.tf, U.tl, U.T, U.D, U.h, U.u, U.kp, U.kn, U.ns + 1, uN U.sw U.ns i, uN U.ss U.ns b)) := by unfold zTell; rw [gd_in hi (by omega), if_pos hns]
      refine R_aload_n a_X11_tell_22 rfl ?_
      refine R_get a_X11_tell_23 hM rfl ?_
      refine R_aload_n a_X11_tell_26 rfl ?_
      refine R_get a_X11_tell_27 hM rfl ?_
      refine R_iconst (v := nI 2) a_X11_tell_30 rfl ?_
      refine R_iload_n a_X11_tell_31 rfl ?_
      first | with_reducible refine R_imul_n a_X11_tell_32 ?_ | refine R_imul a_X11_tell_32 ?_
      refine R_iload_n a_X11_tell_33 rfl ?_
      first | with_reducible refine R_if_eq_n a_X11_tell_34 (by first | omega | exact Nat.lt_of_le_of_lt (inR_le _ _) (by decide) | exact Nat.lt_of_le_of_lt (bitN_le _ _) (by decide) | exact Nat.lt_of_le_of_lt (inI_le _ _ _) (by decide) | exact inI_le _ _ _ | exact inR_le _ _ | exact bitN_le _ _) (fun h34 => ?_) (fun h34 => ?_) | refine R_if_eq a_X11_tell_34 (fun h34 => ?_) (fun h34 => ?_)
      · skip
        have hb0 : b = 0 := h34
        subst hb0
        refine R_iconst (v := nI 0) a_X11_tell_41 rfl ?_
        first | with_reducible refine R_iadd_n a_X11_tell_42 ?_ | refine R_iadd a_X11_tell_42 ?_
        refine R_iastK a_X11_tell_43 (by omega) hSy (by first | omega | exact Nat.lt_of_le_of_lt (inR_le _ _) (by decide) | exact Nat.lt_of_le_of_lt (bitN_le _ _) (by decide) | exact Nat.lt_of_le_of_lt (inI_le _ _ _) (by decide) | exact inI_le _ _ _ | exact inR_le _ _ | exact bitN_le _ _) (by decide) (fun σ hSy ho => ?_)
        have hM := (ho _ (by omega)).trans hM
        have hTx := (ho _ (by omega)).trans hTx
        have hTo := (ho _ (by omega)).trans hTo
        have hDr := (ho _ (by omega)).trans hDr
        have hSr := (ho _ (by omega)).trans hSr
        have hPa := (ho _ (by omega)).trans hPa
        have hIm := (ho _ (by omega)).trans hIm
        have hWy := (ho _ (by omega)).trans hWy
        have hSm := (ho _ (by omega)).trans hSm
        have hBh := (ho _ (by omega)).trans hBh
        have hHd := (ho _ (by omega)).trans hHd
        have hfr : ∀ j, j < 272 ∨ 284 ≤ j → σ j = σ0 j := fun j hj => (ho j (by omega)).trans (hfr j hj)
        refine R_aload_n a_X11_tell_44 rfl ?_
        refine R_dup a_X11_tell_45 rfl ?_
        refine R_get a_X11_tell_46 hM rfl ?_
        refine R_iconst (v := nI 1) a_X11_tell_49 rfl ?_
        first | with_reducible refine R_iadd_n a_X11_tell_50 ?_ | refine R_iadd a_X11_tell_50 ?_
        refine R_putiK (fs' := [_, _, _, _, _, _, _, _, _, _, _, _, _, _, _, _]) a_X11_tell_51 hM rfl rfl (fun σ hM ho => ?_)
        have hTx := (ho _ (by omega)).trans hTx
        have hTo := (ho _ (by omega)).trans hTo
        have hDr := (ho _ (by omega)).trans hDr
        have hSr := (ho _ (by omega)).trans hSr
        have hPa := (ho _ (by omega)).trans hPa
        have hIm := (ho _ (by omega)).trans hIm
        have hSy := (ho _ (by omega)).trans hSy
        have hWy := (ho _ (by omega)).trans hWy
        have hSm := (ho _ (by omega)).trans hSm
        have hBh := (ho _ (by omega)).trans hBh
        have hHd := (ho _ (by omega)).trans hHd
        have hfr : ∀ j, j < 272 ∨ 284 ≤ j → σ j = σ0 j := fun j hj => (ho j (by omega)).trans (hfr j hj)
        refine R_aload_n a_X11_tell_54 rfl ?_
        refine R_get a_X11_tell_55 hM rfl ?_
        refine R_iret a_X11_tell_58 rfl ?_
        rw [hz]
        exact ⟨rfl, ⟨_, _, _, _, _, _, _, _, _, _, _, hM, ⟨hTx, hTxv⟩, ⟨hTo, t0, t1, t2, t3, t28, tkd, thn, tkn, thf⟩, hDr, hSr, ⟨hPa, hPav⟩, ⟨hIm, hImv⟩, ⟨hSy, tell_row hSyv⟩, hWy, hSm, hBh, hHd⟩, fun j hj => hfr j (by omega)⟩
      · skip
        have hb1 : b = 1 := by omega
        subst hb1
        refine R_iconst (v := nI 1) a_X11_tell_37 rfl ?_
        refine R_goto a_X11_tell_38 ?_
        first | with_reducible refine R_iadd_n a_X11_tell_42 ?_ | refine R_iadd a_X11_tell_42 ?_
        refine R_iastK a_X11_tell_43 (by omega) hSy (by first | omega | exact Nat.lt_of_le_of_lt (inR_le _ _) (by decide) | exact Nat.lt_of_le_of_lt (bitN_le _ _) (by decide) | exact Nat.lt_of_le_of_lt (inI_le _ _ _) (by decide) | exact inI_le _ _ _ | exact inR_le _ _ | exact bitN_le _ _) (by decide) (fun σ hSy ho => ?_)
        have hM := (ho _ (by omega)).trans hM
        have hTx := (ho _ (by omega)).trans hTx
        have hTo := (ho _ (by omega)).trans hTo
        have hDr := (ho _ (by omega)).trans hDr
        have hSr := (ho _ (by omega)).trans hSr
        have hPa := (ho _ (by omega)).trans hPa
        have hIm := (ho _ (by omega)).trans hIm
        have hWy := (ho _ (by omega)).trans hWy
        have hSm := (ho _ (by omega)).trans hSm
        have hBh := (ho _ (by omega)).trans hBh
        have hHd := (ho _ (by omega)).trans hHd
        have hfr : ∀ j, j < 272 ∨ 284 ≤ j → σ j = σ0 j := fun j hj => (ho j (by omega)).trans (hfr j hj)
        refine R_aload_n a_X11_tell_44 rfl ?_
        refine R_dup a_X11_tell_45 rfl ?_
        refine R_get a_X11_tell_46 hM rfl ?_
        refine R_iconst (v := nI 1) a_X11_tell_49 rfl ?_
        first | with_reducible refine R_iadd_n a_X11_tell_50 ?_ | refine R_iadd a_X11_tell_50 ?_
        refine R_putiK (fs' := [_, _, _, _, _, _, _, _, _, _, _, _, _, _, _, _]) a_X11_tell_51 hM rfl rfl (fun σ hM ho => ?_)
        have hTx := (ho _ (by omega)).trans hTx
        have hTo := (ho _ (by omega)).trans hTo
        have hDr := (ho _ (by omega)).trans hDr
        have hSr := (ho _ (by omega)).trans hSr
        have hPa := (ho _ (by omega)).trans hPa
        have hIm := (ho _ (by omega)).trans hIm
        have hSy := (ho _ (by omega)).trans hSy
        have hWy := (ho _ (by omega)).trans hWy
        have hSm := (ho _ (by omega)).trans hSm
        have hBh := (ho _ (by omega)).trans hBh
        have hHd := (ho _ (by omega)).trans hHd
        have hfr : ∀ j, j < 272 ∨ 284 ≤ j → σ j = σ0 j := fun j hj => (ho j (by omega)).trans (hfr j hj)
        refine R_aload_n a_X11_tell_54 rfl ?_
        refine R_get a_X11_tell_55 hM rfl ?_
        refine R_iret a_X11_tell_58 rfl ?_
        rw [hz]
        exact ⟨rfl, ⟨_, _, _, _, _, _, _, _, _, _, _, hM, ⟨hTx, hTxv⟩, ⟨hTo, t0, t1, t2, t3, t28, tkd, thn, tkn, thf⟩, hDr, hSr, ⟨hPa, hPav⟩, ⟨hIm, hImv⟩, ⟨hSy, tell_row hSyv⟩, hWy, hSm, hBh, hHd⟩, fun j hj => hfr j (by omega)⟩
    · skip
      have hz : zTell U (nI i) b = (-3, U) := by unfold zTell; rw [gd_in hi (by omega), if_neg (by omega)]
      refine R_bipush (v := (-3)) a_X11_tell_19 rfl ?_
      refine R_iret a_X11_tell_21 rfl ?_
      rw [hz]
      exact ⟨rfl, hC, Fr.rf _ _ _⟩
  · skip
    refine R_iconst (v := (-1)) a_X11_tell_8 rfl ?_
    refine R_iret a_X11_tell_9 rfl ?_
    rw [show zTell U x b = bad U by unfold zTell; rw [gd_out h5]]
    exact ⟨rfl, hC, Fr.rf _ _ _⟩

theorem write_row {U : Us} {fx : Nat → Int32} {c : Nat} (h : ∀ j, j < U.tl → fx j = nI (U.tf j)) : ∀ j, j < U.tl + 1 → upd fx U.tl (nI c) j = nI (uN U.tf U.tl c j) := by
  intro j hj
  unfold upd uN
  split
  · rfl
  · exact h j (by omega)
set_option maxRecDepth 20000 in
theorem md_write {σ0 : AHp} {U : Us} {m : Nat} (hC : MP σ0 U) (hU : UOk U m) (hm : m < 2 ^ 20) {x : Int32} : EvW M_X11_write [.ref 272, .int x] σ0 (some (.int ((zWrite U x).1))) (fun σ => MP σ ((zWrite U x).2) ∧ Fr σ0 σ 272 12) := by
  obtain ⟨at_, fx, ft, fd, fp, fi, fy, fw, fs, fb, fh, hM, hMX, hMT, hDr, hSr, hMPa, hMIm, hMSy, hWy, hSm, hBh, hHd⟩ := id hC
  obtain ⟨hTx, hTxv⟩ := id hMX
  obtain ⟨hTo, t0, t1, t2, t3, t28, tkd, thn, tkn, thf⟩ := id hMT
  obtain ⟨hPa, hPav⟩ := id hMPa
  obtain ⟨hIm, hImv⟩ := id hMIm
  obtain ⟨hSy, hSyv⟩ := id hMSy
  have ok := hU.T
  obtain ⟨g3, g8, n1, n6, lw, stg, son, kd4, hn10, kn63, hf4⟩ := id ok
  have hn64 : 2 ^ U.T.n ≤ 2 ^ 6 := Nat.pow_le_pow_right (by decide) n6
  have hg256 : 2 ^ U.T.g ≤ 2 ^ 8 := Nat.pow_le_pow_right (by decide) g8
  have hlen := hU.len
  have hu8 := hU.u8
  have hul := hU.ul
  have hkn2 := hU.kn2
  have hsg := saltF_lt ok U.h
  have hfr : ∀ j, j < 272 ∨ 284 ≤ j → σ0 j = σ0 j := fun _ _ => rfl
  have htl := hU.1
  refine Ev.of (ls := [_, _]) 0 (by decide) rfl rfl ?_
  refine R_iload_n a_X11_write_0 rfl ?_
  refine R_bipush (v := nI 32) a_X11_write_1 rfl ?_
  refine R_bipush (v := nI 126) a_X11_write_3 rfl ?_
  refine R_callSp a_X11_write_5 md_in rfl rfl rfl rfl rfl ?_
  first | with_reducible refine R_if_ne_n a_X11_write_8 (by first | omega | exact Nat.lt_of_le_of_lt (inR_le _ _) (by decide) | exact Nat.lt_of_le_of_lt (bitN_le _ _) (by decide) | exact Nat.lt_of_le_of_lt (inI_le _ _ _) (by decide) | exact inI_le _ _ _ | exact inR_le _ _ | exact bitN_le _ _) (fun h8 => ?_) (fun h8 => ?_) | refine R_if_ne a_X11_write_8 (fun h8 => ?_) (fun h8 => ?_)
  · skip
    have hx : ¬ x < nI 32 ∧ ¬ nI 126 < x := by
      by_cases q : ¬ x < nI 32 ∧ ¬ nI 126 < x
      · exact q
      · unfold inI at h8; rw [if_neg q] at h8; exact absurd rfl h8
    obtain ⟨c, hc1, hc2, rfl⟩ := i32_nt (a := 32) (b := 126) (by decide) (by decide) hx.1 hx.2
    refine R_aload_n a_X11_write_13 rfl ?_
    refine R_get a_X11_write_14 hM rfl ?_
    refine R_sipush (v := nI 200) a_X11_write_17 rfl ?_
    first | with_reducible refine R_icmp_ne_n a_X11_write_20 (by first | omega | exact Nat.lt_of_le_of_lt (inR_le _ _) (by decide) | exact Nat.lt_of_le_of_lt (bitN_le _ _) (by decide) | exact Nat.lt_of_le_of_lt (inI_le _ _ _) (by decide) | exact inI_le _ _ _ | exact inR_le _ _ | exact bitN_le _ _) (by first | omega | exact Nat.lt_of_le_of_lt (inR_le _ _) (by decide) | exact Nat.lt_of_le_of_lt (bitN_le _ _) (by decide) | exact Nat.lt_of_le_of_lt (inI_le _ _ _) (by decide) | exact inI_le _ _ _ | exact inR_le _ _ | exact bitN_le _ _) (fun h20 => ?_) (fun h20 => ?_) | refine R_icmp_ne a_X11_write_20 (fun h20 => ?_) (fun h20 => ?_)
    · skip
      have hfu : U.tl < 200 := by omega
      have hz : zWrite U (nI c) = (nI (U.tl + 1), (uN U.tf U.tl c, U.tl + 1, U.2.2)) := by unfold zWrite; rw [if_neg (fun q => q.elim hx.1 hx.2), if_pos hfu, iN_nI (by omega)]
      refine R_aload_n a_X11_write_26 rfl ?_
      refine R_get a_X11_write_27 hM rfl ?_
      refine R_aload_n a_X11_write_30 rfl ?_
      refine R_get a_X11_write_31 hM rfl ?_
      refine R_iload_n a_X11_write_34 rfl ?_
      refine R_iastK a_X11_write_35 (by omega) hTx (by first | omega | exact Nat.lt_of_le_of_lt (inR_le _ _) (by decide) | exact Nat.lt_of_le_of_lt (bitN_le _ _) (by decide) | exact Nat.lt_of_le_of_lt (inI_le _ _ _) (by decide) | exact inI_le _ _ _ | exact inR_le _ _ | exact bitN_le _ _) (by decide) (fun σ hTx ho => ?_)
      have hM := (ho _ (by omega)).trans hM
      have hTo := (ho _ (by omega)).trans hTo
      have hDr := (ho _ (by omega)).trans hDr
      have hSr := (ho _ (by omega)).trans hSr
      have hPa := (ho _ (by omega)).trans hPa
      have hIm := (ho _ (by omega)).trans hIm
      have hSy := (ho _ (by omega)).trans hSy
      have hWy := (ho _ (by omega)).trans hWy
      have hSm := (ho _ (by omega)).trans hSm
      have hBh := (ho _ (by omega)).trans hBh
      have hHd := (ho _ (by omega)).trans hHd
      have hfr : ∀ j, j < 272 ∨ 284 ≤ j → σ j = σ0 j := fun j hj => (ho j (by omega)).trans (hfr j hj)
      refine R_aload_n a_X11_write_36 rfl ?_
      refine R_dup a_X11_write_37 rfl ?_
      refine R_get a_X11_write_38 hM rfl ?_
      refine R_iconst (v := nI 1) a_X11_write_41 rfl ?_
      first | with_reducible refine R_iadd_n a_X11_write_42 ?_ | refine R_iadd a_X11_write_42 ?_
      refine R_putiK (fs' := [_, _, _, _, _, _, _, _, _, _, _, _, _, _, _, _]) a_X11_write_43 hM rfl rfl (fun σ hM ho => ?_)
      have hTx := (ho _ (by omega)).trans hTx
      have hTo := (ho _ (by omega)).trans hTo
      have hDr := (ho _ (by omega)).trans hDr
      have hSr := (ho _ (by omega)).trans hSr
      have hPa := (ho _ (by omega)).trans hPa
      have hIm := (ho _ (by omega)).trans hIm
      have hSy := (ho _ (by omega)).trans hSy
      have hWy := (ho _ (by omega)).trans hWy
      have hSm := (ho _ (by omega)).trans hSm
      have hBh := (ho _ (by omega)).trans hBh
      have hHd := (ho _ (by omega)).trans hHd
      have hfr : ∀ j, j < 272 ∨ 284 ≤ j → σ j = σ0 j := fun j hj => (ho j (by omega)).trans (hfr j hj)
      refine R_aload_n a_X11_write_46 rfl ?_
      refine R_get a_X11_write_47 hM rfl ?_
      refine R_iret a_X11_write_50 rfl ?_
      rw [hz]
      exact ⟨rfl, ⟨_, _, _, _, _, _, _, _, _, _, _, hM, ⟨hTx, write_row hTxv⟩, ⟨hTo, t0, t1, t2, t3, t28, tkd, thn, tkn, thf⟩, hDr, hSr, ⟨hPa, hPav⟩, ⟨hIm, hImv⟩, ⟨hSy, hSyv⟩, hWy, hSm, hBh, hHd⟩, fun j hj => hfr j (by omega)⟩
    · skip
      have hz : zWrite U (nI c) = (-3, U) := by unfold zWrite; rw [if_neg (fun q => q.elim hx.1 hx.2), if_neg (by omega)]
      refine R_bipush (v := (-3)) a_X11_write_23 rfl ?_
      refine R_iret a_X11_write_25 rfl ?_
      rw [hz]
      exact ⟨rfl, hC, Fr.rf _ _ _⟩
  · skip
    have hz : zWrite U x = bad U := by
      unfold zWrite
      rw [if_pos]
      by_cases q1 : x < nI 32
      · exact Or.inl q1
      · by_cases q2 : nI 126 < x
        · exact Or.inr q2
        · unfold inI at h8; rw [if_pos ⟨q1, q2⟩] at h8; cases h8
    refine R_iconst (v := (-1)) a_X11_write_11 rfl ?_
    refine R_iret a_X11_write_12 rfl ?_
    rw [hz]
    exact ⟨rfl, hC, Fr.rf _ _ _⟩

theorem sF_w01 (T : Tb) (h : Hs) {k c : Nat} (hk : k < h.length) (hc : c < 2) : sF T h (13 + 3 * k + c) = if c = 0 then saltF T (h.drop (k + 1)) else saltF T (h.drop k) := by
  rcases (show c = 0 ∨ c = 1 by omega) with rfl | rfl
  · exact sF_w0 T h hk
  · exact sF_w1 T h hk
set_option maxRecDepth 20000 in
theorem md_went {σ0 : AHp} {U : Us} {m : Nat} (hC : MP σ0 U) (hU : UOk U m) (hm : m < 2 ^ 20) {x w : Int32} : EvW M_X11_went [.ref 272, .int x, .int w] σ0 (some (.int (zWent U x w))) (fun σ => MP σ (U) ∧ Fr σ0 σ 272 12) := by
  obtain ⟨at_, fx, ft, fd, fp, fi, fy, fw, fs, fb, fh, hM, hMX, hMT, hDr, hSr, hMPa, hMIm, hMSy, hWy, hSm, hBh, hHd⟩ := id hC
  obtain ⟨hTx, hTxv⟩ := id hMX
  obtain ⟨hTo, t0, t1, t2, t3, t28, tkd, thn, tkn, thf⟩ := id hMT
  obtain ⟨hPa, hPav⟩ := id hMPa
  obtain ⟨hIm, hImv⟩ := id hMIm
  obtain ⟨hSy, hSyv⟩ := id hMSy
  have ok := hU.T
  obtain ⟨g3, g8, n1, n6, lw, stg, son, kd4, hn10, kn63, hf4⟩ := id ok
  have hn64 : 2 ^ U.T.n ≤ 2 ^ 6 := Nat.pow_le_pow_right (by decide) n6
  have hg256 : 2 ^ U.T.g ≤ 2 ^ 8 := Nat.pow_le_pow_right (by decide) g8
  have hlen := hU.len
  have hu8 := hU.u8
  have hul := hU.ul
  have hkn2 := hU.kn2
  have hsg := saltF_lt ok U.h
  have hfr : ∀ j, j < 272 ∨ 284 ≤ j → σ0 j = σ0 j := fun _ _ => rfl
  have hHs := hU.2.2.2.1
  refine Ev.of (ls := [_, _, _, _]) 1 (by decide) rfl rfl ?_
  refine R_iload_n a_X11_went_0 rfl ?_
  refine R_iconst (v := nI 0) a_X11_went_1 rfl ?_
  refine R_aload_n a_X11_went_2 rfl ?_
  refine R_get a_X11_went_3 hM rfl ?_
  refine R_iconst (v := nI 4) a_X11_went_6 rfl ?_
  refine R_iald_n a_X11_went_7 hSr (by first | omega | exact Nat.lt_of_le_of_lt (inR_le _ _) (by decide) | exact Nat.lt_of_le_of_lt (bitN_le _ _) (by decide) | exact Nat.lt_of_le_of_lt (inI_le _ _ _) (by decide) | exact inI_le _ _ _ | exact inR_le _ _ | exact bitN_le _ _) (by decide) ?_
  refine R_top (congrArg nI (sF_4 U.T U.h)) ?_
  refine R_iconst (v := nI 1) a_X11_went_8 rfl ?_
  refine R_isub a_X11_went_9 ?_
  refine R_callSp a_X11_went_10 md_in rfl rfl rfl rfl rfl ?_
  refine R_top (congrArg nI (inI_R x (g := min U.h.length 10) (by omega))) ?_
  first | with_reducible refine R_if_eq_n a_X11_went_13 (by first | omega | exact Nat.lt_of_le_of_lt (inR_le _ _) (by decide) | exact Nat.lt_of_le_of_lt (bitN_le _ _) (by decide) | exact Nat.lt_of_le_of_lt (inI_le _ _ _) (by decide) | exact inI_le _ _ _ | exact inR_le _ _ | exact bitN_le _ _) (fun h13 => ?_) (fun h13 => ?_) | refine R_if_eq a_X11_went_13 (fun h13 => ?_) (fun h13 => ?_)
  · skip
    have hz : zWent U x w = -1 := by unfold zWent; rw [gd_out h13]
    refine R_iconst (v := (-1)) a_X11_went_25 rfl ?_
    refine R_iret a_X11_went_26 rfl ?_
    exact ⟨by rw [hz], hC, Fr.rf _ _ _⟩
  · skip
    obtain ⟨k, hk, rfl⟩ := inR_nz (by omega) h13
    have hcd := hAt_ok hHs k
    have hc1 := hcd.1.le
    have hc2 := hcd.2.le
    refine R_iload_n a_X11_went_16 rfl ?_
    refine R_iconst (v := nI 0) a_X11_went_17 rfl ?_
    refine R_iconst (v := nI 2) a_X11_went_18 rfl ?_
    refine R_callSp a_X11_went_19 md_in rfl rfl rfl rfl rfl ?_
    refine R_top (congrArg nI (inI_c w (n := 2) (by decide))) ?_
    first | with_reducible refine R_if_ne_n a_X11_went_22 (by first | omega | exact Nat.lt_of_le_of_lt (inR_le _ _) (by decide) | exact Nat.lt_of_le_of_lt (bitN_le _ _) (by decide) | exact Nat.lt_of_le_of_lt (inI_le _ _ _) (by decide) | exact inI_le _ _ _ | exact inR_le _ _ | exact bitN_le _ _) (fun h22 => ?_) (fun h22 => ?_) | refine R_if_ne a_X11_went_22 (fun h22 => ?_) (fun h22 => ?_)
    · skip
      obtain ⟨c, hc, rfl⟩ := inR_nz (by omega) h22
      refine R_aload_n a_X11_went_27 rfl ?_
      refine R_get a_X11_went_28 hM rfl ?_
      refine R_bipush (v := nI 13) a_X11_went_31 rfl ?_
      refine R_iconst (v := nI 3) a_X11_went_33 rfl ?_
      refine R_iload_n a_X11_went_34 rfl ?_
      first | with_reducible refine R_imul_n a_X11_went_35 ?_ | refine R_imul a_X11_went_35 ?_
      first | with_reducible refine R_iadd_n a_X11_went_36 ?_ | refine R_iadd a_X11_went_36 ?_
      refine R_iconst (v := nI 2) a_X11_went_37 rfl ?_
      first | with_reducible refine R_iadd_n a_X11_went_38 ?_ | refine R_iadd a_X11_went_38 ?_
      refine R_iald_n a_X11_went_39 hSr (by first | omega | exact Nat.lt_of_le_of_lt (inR_le _ _) (by decide) | exact Nat.lt_of_le_of_lt (bitN_le _ _) (by decide) | exact Nat.lt_of_le_of_lt (inI_le _ _ _) (by decide) | exact inI_le _ _ _ | exact inR_le _ _ | exact bitN_le _ _) (by decide) ?_
      refine R_top (congrArg nI (sF_w2 U.T U.h (show k < U.h.length by omega))) ?_
      refine R_istore_n (ls' := [_, _, _, _]) a_X11_went_40 rfl rfl rfl ?_
      refine R_iload_n a_X11_went_41 rfl ?_
      refine R_iconst (v := nI 2) a_X11_went_42 rfl ?_
      first | with_reducible refine R_icmp_ge_n a_X11_went_43 (by first | omega | exact Nat.lt_of_le_of_lt (inR_le _ _) (by decide) | exact Nat.lt_of_le_of_lt (bitN_le _ _) (by decide) | exact Nat.lt_of_le_of_lt (inI_le _ _ _) (by decide) | exact inI_le _ _ _ | exact inR_le _ _ | exact bitN_le _ _) (by first | omega | exact Nat.lt_of_le_of_lt (inR_le _ _) (by decide) | exact Nat.lt_of_le_of_lt (bitN_le _ _) (by decide) | exact Nat.lt_of_le_of_lt (inI_le _ _ _) (by decide) | exact inI_le _ _ _ | exact inR_le _ _ | exact bitN_le _ _) (fun h43 => ?_) (fun h43 => ?_) | refine R_icmp_ge a_X11_went_43 (fun h43 => ?_) (fun h43 => ?_)
      · skip
        refine R_iload_n a_X11_went_62 rfl ?_
        refine R_sipush (v := nI 256) a_X11_went_63 rfl ?_
        refine R_irem_n a_X11_went_66 (by first | omega | exact Nat.lt_of_le_of_lt (inR_le _ _) (by decide) | exact Nat.lt_of_le_of_lt (bitN_le _ _) (by decide) | exact Nat.lt_of_le_of_lt (inI_le _ _ _) (by decide) | exact inI_le _ _ _ | exact inR_le _ _ | exact bitN_le _ _) (by first | omega | exact Nat.lt_of_le_of_lt (inR_le _ _) (by decide) | exact Nat.lt_of_le_of_lt (bitN_le _ _) (by decide) | exact Nat.lt_of_le_of_lt (inI_le _ _ _) (by decide) | exact inI_le _ _ _ | exact inR_le _ _ | exact bitN_le _ _) (by first | omega | exact Nat.lt_of_le_of_lt (inR_le _ _) (by decide) | exact Nat.lt_of_le_of_lt (bitN_le _ _) (by decide) | exact Nat.lt_of_le_of_lt (inI_le _ _ _) (by decide) | exact inI_le _ _ _ | exact inR_le _ _ | exact bitN_le _ _) ?_
        refine R_sipush (v := nI 128) a_X11_went_67 rfl ?_
        first | with_reducible refine R_icmp_ne_n a_X11_went_70 (by first | omega | exact Nat.lt_of_le_of_lt (inR_le _ _) (by decide) | exact Nat.lt_of_le_of_lt (bitN_le _ _) (by decide) | exact Nat.lt_of_le_of_lt (inI_le _ _ _) (by decide) | exact inI_le _ _ _ | exact inR_le _ _ | exact bitN_le _ _) (by first | omega | exact Nat.lt_of_le_of_lt (inR_le _ _) (by decide) | exact Nat.lt_of_le_of_lt (bitN_le _ _) (by decide) | exact Nat.lt_of_le_of_lt (inI_le _ _ _) (by decide) | exact inI_le _ _ _ | exact inR_le _ _ | exact bitN_le _ _) (fun h70 => ?_) (fun h70 => ?_) | refine R_icmp_ne a_X11_went_70 (fun h70 => ?_) (fun h70 => ?_)
        · skip
          refine R_iconst (v := nI 1) a_X11_went_77 rfl ?_
          refine R_iload_n a_X11_went_78 rfl ?_
          refine R_sipush (v := nI 256) a_X11_went_79 rfl ?_
          refine R_idiv_n a_X11_went_82 (by first | omega | exact Nat.lt_of_le_of_lt (inR_le _ _) (by decide) | exact Nat.lt_of_le_of_lt (bitN_le _ _) (by decide) | exact Nat.lt_of_le_of_lt (inI_le _ _ _) (by decide) | exact inI_le _ _ _ | exact inR_le _ _ | exact bitN_le _ _) (by first | omega | exact Nat.lt_of_le_of_lt (inR_le _ _) (by decide) | exact Nat.lt_of_le_of_lt (bitN_le _ _) (by decide) | exact Nat.lt_of_le_of_lt (inI_le _ _ _) (by decide) | exact inI_le _ _ _ | exact inR_le _ _ | exact bitN_le _ _) (by first | omega | exact Nat.lt_of_le_of_lt (inR_le _ _) (by decide) | exact Nat.lt_of_le_of_lt (bitN_le _ _) (by decide) | exact Nat.lt_of_le_of_lt (inI_le _ _ _) (by decide) | exact inI_le _ _ _ | exact inR_le _ _ | exact bitN_le _ _) ?_
          refine R_sipush (v := nI 128) a_X11_went_83 rfl ?_
          first | with_reducible refine R_icmp_ne_n a_X11_went_86 (by first | omega | exact Nat.lt_of_le_of_lt (inR_le _ _) (by decide) | exact Nat.lt_of_le_of_lt (bitN_le _ _) (by decide) | exact Nat.lt_of_le_of_lt (inI_le _ _ _) (by decide) | exact inI_le _ _ _ | exact inR_le _ _ | exact bitN_le _ _) (by first | omega | exact Nat.lt_of_le_of_lt (inR_le _ _) (by decide) | exact Nat.lt_of_le_of_lt (bitN_le _ _) (by decide) | exact Nat.lt_of_le_of_lt (inI_le _ _ _) (by decide) | exact inI_le _ _ _ | exact inR_le _ _ | exact bitN_le _ _) (fun h86 => ?_) (fun h86 => ?_) | refine R_icmp_ne a_X11_went_86 (fun h86 => ?_) (fun h86 => ?_)
          · skip
            have hv : some (Value.int (nI (1 + 1))) = some (Value.int (nI ((if (hAt U.h k).1 = 128 then 0 else 1) + (if (hAt U.h k).2 = 128 then 0 else 1)))) := by rw [if_neg (show ¬ (hAt U.h k).1 = 128 by omega), if_neg (show ¬ (hAt U.h k).2 = 128 by omega)]
            refine R_iconst (v := nI 1) a_X11_went_93 rfl ?_
            first | with_reducible refine R_iadd_n a_X11_went_94 ?_ | refine R_iadd a_X11_went_94 ?_
            refine R_iret a_X11_went_95 rfl ?_
            exact ⟨by unfold zWent spoke; rw [gd_in hk (by omega), gd_in hc (by decide), if_neg (by omega), if_neg (by omega)]; exact hv, hC, Fr.rf _ _ _⟩
          · skip
            have hv : some (Value.int (nI (1 + 0))) = some (Value.int (nI ((if (hAt U.h k).1 = 128 then 0 else 1) + (if (hAt U.h k).2 = 128 then 0 else 1)))) := by rw [if_neg (show ¬ (hAt U.h k).1 = 128 by omega), if_pos (show (hAt U.h k).2 = 128 by omega)]
            refine R_iconst (v := nI 0) a_X11_went_89 rfl ?_
            refine R_goto a_X11_went_90 ?_
            first | with_reducible refine R_iadd_n a_X11_went_94 ?_ | refine R_iadd a_X11_went_94 ?_
            refine R_iret a_X11_went_95 rfl ?_
            exact ⟨by unfold zWent spoke; rw [gd_in hk (by omega), gd_in hc (by decide), if_neg (by omega), if_neg (by omega)]; exact hv, hC, Fr.rf _ _ _⟩
        · skip
          refine R_iconst (v := nI 0) a_X11_went_73 rfl ?_
          refine R_goto a_X11_went_74 ?_
          refine R_iload_n a_X11_went_78 rfl ?_
          refine R_sipush (v := nI 256) a_X11_went_79 rfl ?_
          refine R_idiv_n a_X11_went_82 (by first | omega | exact Nat.lt_of_le_of_lt (inR_le _ _) (by decide) | exact Nat.lt_of_le_of_lt (bitN_le _ _) (by decide) | exact Nat.lt_of_le_of_lt (inI_le _ _ _) (by decide) | exact inI_le _ _ _ | exact inR_le _ _ | exact bitN_le _ _) (by first | omega | exact Nat.lt_of_le_of_lt (inR_le _ _) (by decide) | exact Nat.lt_of_le_of_lt (bitN_le _ _) (by decide) | exact Nat.lt_of_le_of_lt (inI_le _ _ _) (by decide) | exact inI_le _ _ _ | exact inR_le _ _ | exact bitN_le _ _) (by first | omega | exact Nat.lt_of_le_of_lt (inR_le _ _) (by decide) | exact Nat.lt_of_le_of_lt (bitN_le _ _) (by decide) | exact Nat.lt_of_le_of_lt (inI_le _ _ _) (by decide) | exact inI_le _ _ _ | exact inR_le _ _ | exact bitN_le _ _) ?_
          refine R_sipush (v := nI 128) a_X11_went_83 rfl ?_
          first | with_reducible refine R_icmp_ne_n a_X11_went_86 (by first | omega | exact Nat.lt_of_le_of_lt (inR_le _ _) (by decide) | exact Nat.lt_of_le_of_lt (bitN_le _ _) (by decide) | exact Nat.lt_of_le_of_lt (inI_le _ _ _) (by decide) | exact inI_le _ _ _ | exact inR_le _ _ | exact bitN_le _ _) (by first | omega | exact Nat.lt_of_le_of_lt (inR_le _ _) (by decide) | exact Nat.lt_of_le_of_lt (bitN_le _ _) (by decide) | exact Nat.lt_of_le_of_lt (inI_le _ _ _) (by decide) | exact inI_le _ _ _ | exact inR_le _ _ | exact bitN_le _ _) (fun h86 => ?_) (fun h86 => ?_) | refine R_icmp_ne a_X11_went_86 (fun h86 => ?_) (fun h86 => ?_)
          · skip
            have hv : some (Value.int (nI (0 + 1))) = some (Value.int (nI ((if (hAt U.h k).1 = 128 then 0 else 1) + (if (hAt U.h k).2 = 128 then 0 else 1)))) := by rw [if_pos (show (hAt U.h k).1 = 128 by omega), if_neg (show ¬ (hAt U.h k).2 = 128 by omega)]
            refine R_iconst (v := nI 1) a_X11_went_93 rfl ?_
            first | with_reducible refine R_iadd_n a_X11_went_94 ?_ | refine R_iadd a_X11_went_94 ?_
            refine R_iret a_X11_went_95 rfl ?_
            exact ⟨by unfold zWent spoke; rw [gd_in hk (by omega), gd_in hc (by decide), if_neg (by omega), if_neg (by omega)]; exact hv, hC, Fr.rf _ _ _⟩
          · skip
            have hv : some (Value.int (nI (0 + 0))) = some (Value.int (nI ((if (hAt U.h k).1 = 128 then 0 else 1) + (if (hAt U.h k).2 = 128 then 0 else 1)))) := by rw [if_pos (show (hAt U.h k).1 = 128 by omega), if_pos (show (hAt U.h k).2 = 128 by omega)]
            refine R_iconst (v := nI 0) a_X11_went_89 rfl ?_
            refine R_goto a_X11_went_90 ?_
            first | with_reducible refine R_iadd_n a_X11_went_94 ?_ | refine R_iadd a_X11_went_94 ?_
            refine R_iret a_X11_went_95 rfl ?_
            exact ⟨by unfold zWent spoke; rw [gd_in hk (by omega), gd_in hc (by decide), if_neg (by omega), if_neg (by omega)]; exact hv, hC, Fr.rf _ _ _⟩
      · skip
        refine R_aload_n a_X11_went_46 rfl ?_
        refine R_get a_X11_went_47 hM rfl ?_
        refine R_bipush (v := nI 13) a_X11_went_50 rfl ?_
        refine R_iconst (v := nI 3) a_X11_went_52 rfl ?_
        refine R_iload_n a_X11_went_53 rfl ?_
        first | with_reducible refine R_imul_n a_X11_went_54 ?_ | refine R_imul a_X11_went_54 ?_
        first | with_reducible refine R_iadd_n a_X11_went_55 ?_ | refine R_iadd a_X11_went_55 ?_
        refine R_iload_n a_X11_went_56 rfl ?_
        first | with_reducible refine R_iadd_n a_X11_went_57 ?_ | refine R_iadd a_X11_went_57 ?_
        refine R_iald_n a_X11_went_58 hSr (by first | omega | exact Nat.lt_of_le_of_lt (inR_le _ _) (by decide) | exact Nat.lt_of_le_of_lt (bitN_le _ _) (by decide) | exact Nat.lt_of_le_of_lt (inI_le _ _ _) (by decide) | exact inI_le _ _ _ | exact inR_le _ _ | exact bitN_le _ _) (by decide) ?_
        refine R_top (congrArg nI (sF_w01 U.T U.h (show k < U.h.length by omega) (show c < 2 by omega))) ?_
        refine R_goto a_X11_went_59 ?_
        refine R_iret a_X11_went_95 rfl ?_
        exact ⟨by unfold zWent
                  rw [gd_in hk (by omega), gd_in hc (by decide)]
                  rcases (show c = 0 ∨ c = 1 by omega) with rfl | rfl <;> rfl, hC, Fr.rf _ _ _⟩
    · skip
      have hz : zWent U (nI k) w = -1 := by unfold zWent; rw [gd_in hk (by omega), gd_out h22]
      refine R_iconst (v := (-1)) a_X11_went_25 rfl ?_
      refine R_iret a_X11_went_26 rfl ?_
      exact ⟨by rw [hz], hC, Fr.rf _ _ _⟩

set_option maxRecDepth 20000 in
theorem lp_keep {σ0 : AHp} {tl u v ns : Nat} {at_ : Int32} {f0 g : Nat → Int32} (hv : v < 2) (hSq0 : σ0 276 = some (iA 0 43 g)) : ∀ (n k : Nat) (σ : AHp), 43 - k = n → k ≤ 43 → σ 272 = some (mdO tl u v ns at_) → σ 278 = some (iA 0 86 (shB f0 g (43 * v) k)) → (∀ j, j ≠ 272 ∧ j ≠ 278 → σ j = σ0 j) → Run M_X11_keep 13 [some (.ref 272), some (.int (nI k))] [] σ 0 0 (fun r σ => r = some (.int (nI (v + 1))) ∧ σ 272 = some (mdO tl u (v + 1) ns at_) ∧ σ 278 = some (iA 0 86 (shB f0 g (43 * v) 43)) ∧ ∀ j, j ≠ 272 ∧ j ≠ 278 → σ j = σ0 j) := by
  intro n
  induction n using Nat.strongRecOn
  rename_i n ih
  intro k σ hm hk hM hIm hfr
  have hSq := (hfr 276 (by omega)).trans hSq0
  refine R_iload_n a_X11_keep_13 rfl ?_
  refine R_bipush (v := nI 43) a_X11_keep_14 rfl ?_
  first | with_reducible refine R_icmp_ge_n a_X11_keep_16 (by first | omega | exact Nat.lt_of_le_of_lt (inR_le _ _) (by decide) | exact Nat.lt_of_le_of_lt (bitN_le _ _) (by decide) | exact Nat.lt_of_le_of_lt (inI_le _ _ _) (by decide) | exact inI_le _ _ _ | exact inR_le _ _ | exact bitN_le _ _) (by first | omega | exact Nat.lt_of_le_of_lt (inR_le _ _) (by decide) | exact Nat.lt_of_le_of_lt (bitN_le _ _) (by decide) | exact Nat.lt_of_le_of_lt (inI_le _ _ _) (by decide) | exact inI_le _ _ _ | exact inR_le _ _ | exact bitN_le _ _) (fun h16 => ?_) (fun h16 => ?_) | refine R_icmp_ge a_X11_keep_16 (fun h16 => ?_) (fun h16 => ?_)
  · skip
    have hke : k = 43 := by omega
    subst hke
    refine R_aload_n a_X11_keep_45 rfl ?_
    refine R_dup a_X11_keep_46 rfl ?_
    refine R_get a_X11_keep_47 hM rfl ?_
    refine R_iconst (v := nI 1) a_X11_keep_50 rfl ?_
    first | with_reducible refine R_iadd_n a_X11_keep_51 ?_ | refine R_iadd a_X11_keep_51 ?_
    refine R_putiK (fs' := [_, _, _, _, _, _, _, _, _, _, _, _, _, _, _, _]) a_X11_keep_52 hM rfl rfl (fun σ hM ho => ?_)
    have hIm := (ho _ (by omega)).trans hIm
    have hSq := (ho _ (by omega)).trans hSq
    have hfr : ∀ j, j ≠ 272 ∧ j ≠ 278 → σ j = σ0 j := fun j hj => (ho j (by omega)).trans (hfr j hj)
    refine R_aload_n a_X11_keep_55 rfl ?_
    refine R_get a_X11_keep_56 hM rfl ?_
    refine R_iret a_X11_keep_59 rfl ?_
    exact ⟨rfl, hM, hIm, hfr⟩
  · skip
    refine R_aload_n a_X11_keep_19 rfl ?_
    refine R_get a_X11_keep_20 hM rfl ?_
    refine R_bipush (v := nI 43) a_X11_keep_23 rfl ?_
    refine R_aload_n a_X11_keep_25 rfl ?_
    refine R_get a_X11_keep_26 hM rfl ?_
    first | with_reducible refine R_imul_n a_X11_keep_29 ?_ | refine R_imul a_X11_keep_29 ?_
    refine R_iload_n a_X11_keep_30 rfl ?_
    first | with_reducible refine R_iadd_n a_X11_keep_31 ?_ | refine R_iadd a_X11_keep_31 ?_
    refine R_aload_n a_X11_keep_32 rfl ?_
    refine R_get a_X11_keep_33 hM rfl ?_
    refine R_iload_n a_X11_keep_36 rfl ?_
    refine R_iald_n a_X11_keep_37 hSq (by first | omega | exact Nat.lt_of_le_of_lt (inR_le _ _) (by decide) | exact Nat.lt_of_le_of_lt (bitN_le _ _) (by decide) | exact Nat.lt_of_le_of_lt (inI_le _ _ _) (by decide) | exact inI_le _ _ _ | exact inR_le _ _ | exact bitN_le _ _) (by decide) ?_
    refine R_iastK a_X11_keep_38 (by omega) hIm (by first | omega | exact Nat.lt_of_le_of_lt (inR_le _ _) (by decide) | exact Nat.lt_of_le_of_lt (bitN_le _ _) (by decide) | exact Nat.lt_of_le_of_lt (inI_le _ _ _) (by decide) | exact inI_le _ _ _ | exact inR_le _ _ | exact bitN_le _ _) (by decide) (fun σ hIm ho => ?_)
    have hM := (ho _ (by omega)).trans hM
    have hSq := (ho _ (by omega)).trans hSq
    have hfr : ∀ j, j ≠ 272 ∧ j ≠ 278 → σ j = σ0 j := fun j hj => (ho j (by omega)).trans (hfr j hj)
    have he : upd (shB f0 g (43 * v) k) (43 * v + k) (g k) = shB f0 g (43 * v) (k + 1) := shB_up _ _ _ _
    rw [he] at hIm
    first | with_reducible refine R_iinc_n (ls' := [_, _]) a_X11_keep_39 rfl rfl rfl rfl ?_ | refine R_iinc (ls' := [_, _]) a_X11_keep_39 rfl rfl rfl rfl rfl ?_
    refine R_goto a_X11_keep_42 ?_
    exact ih _ (show 43 - (k + 1) < n by omega) (k + 1) σ rfl (by omega) hM hIm hfr

set_option maxRecDepth 20000 in
theorem md_keep {σ0 : AHp} {U : Us} {m : Nat} (hC : MP σ0 U) (hU : UOk U m) (hm : m < 2 ^ 20) : EvW M_X11_keep [.ref 272] σ0 (some (.int ((zKeep U).1))) (fun σ => MP σ ((zKeep U).2) ∧ Fr σ0 σ 272 12) := by
  obtain ⟨at_, fx, ft, fd, fp, fi, fy, fw, fs, fb, fh, hM, hMX, hMT, hDr, hSr, hMPa, hMIm, hMSy, hWy, hSm, hBh, hHd⟩ := id hC
  obtain ⟨hTx, hTxv⟩ := id hMX
  obtain ⟨hTo, t0, t1, t2, t3, t28, tkd, thn, tkn, thf⟩ := id hMT
  obtain ⟨hPa, hPav⟩ := id hMPa
  obtain ⟨hIm, hImv⟩ := id hMIm
  obtain ⟨hSy, hSyv⟩ := id hMSy
  have ok := hU.T
  obtain ⟨g3, g8, n1, n6, lw, stg, son, kd4, hn10, kn63, hf4⟩ := id ok
  have hn64 : 2 ^ U.T.n ≤ 2 ^ 6 := Nat.pow_le_pow_right (by decide) n6
  have hg256 : 2 ^ U.T.g ≤ 2 ^ 8 := Nat.pow_le_pow_right (by decide) g8
  have hlen := hU.len
  have hu8 := hU.u8
  have hul := hU.ul
  have hkn2 := hU.kn2
  have hsg := saltF_lt ok U.h
  have hfr : ∀ j, j < 272 ∨ 284 ≤ j → σ0 j = σ0 j := fun _ _ => rfl
  refine Ev.of (ls := [_, _]) 1 (by decide) rfl rfl ?_
  refine R_aload_n a_X11_keep_0 rfl ?_
  refine R_get a_X11_keep_1 hM rfl ?_
  refine R_iconst (v := nI 2) a_X11_keep_4 rfl ?_
  first | with_reducible refine R_icmp_ne_n a_X11_keep_5 (by first | omega | exact Nat.lt_of_le_of_lt (inR_le _ _) (by decide) | exact Nat.lt_of_le_of_lt (bitN_le _ _) (by decide) | exact Nat.lt_of_le_of_lt (inI_le _ _ _) (by decide) | exact inI_le _ _ _ | exact inR_le _ _ | exact bitN_le _ _) (by first | omega | exact Nat.lt_of_le_of_lt (inR_le _ _) (by decide) | exact Nat.lt_of_le_of_lt (bitN_le _ _) (by decide) | exact Nat.lt_of_le_of_lt (inI_le _ _ _) (by decide) | exact inI_le _ _ _ | exact inR_le _ _ | exact bitN_le _ _) (fun h5 => ?_) (fun h5 => ?_) | refine R_icmp_ne a_X11_keep_5 (fun h5 => ?_) (fun h5 => ?_)
  · skip
    have hz : zKeep U = (nI (U.kn + 1), (U.tf, U.tl, U.T, U.D, U.h, U.u, kpU U, U.kn + 1, U.2.2.2.2.2.2.2.2)) := by unfold zKeep; rw [if_pos (by omega)]
    refine R_iconst (v := nI 0) a_X11_keep_11 rfl ?_
    refine R_istore_n (ls' := [_, _]) a_X11_keep_12 rfl rfl rfl ?_
    have hz0 := shB_z fi (nF (sF U.T U.h)) (43 * U.kn)
    rw [← hz0] at hIm
    rw [hz]
    refine Run.eqQ (lp_keep (v := U.kn) (by omega) hSr _ 0 σ0 rfl (by omega) hM hIm (fun _ _ => rfl)) (fun r σ2 hq => ?_)
    obtain ⟨hr, hM, hIm, hf⟩ := hq
    have hTx := (hf 273 (by omega)).trans hTx
    have hTo := (hf 274 (by omega)).trans hTo
    have hDr := (hf 275 (by omega)).trans hDr
    have hSr := (hf 276 (by omega)).trans hSr
    have hPa := (hf 277 (by omega)).trans hPa
    have hSy := (hf 279 (by omega)).trans hSy
    have hWy := (hf 280 (by omega)).trans hWy
    have hSm := (hf 281 (by omega)).trans hSm
    have hBh := (hf 282 (by omega)).trans hBh
    have hHd := (hf 283 (by omega)).trans hHd
    refine ⟨hr, ⟨_, _, _, _, _, _, _, _, _, _, _, hM, ⟨hTx, hTxv⟩, ⟨hTo, t0, t1, t2, t3, t28, tkd, thn, tkn, thf⟩, hDr, hSr, ⟨hPa, hPav⟩, ⟨hIm, fun k hk j hj => ?_⟩, ⟨hSy, hSyv⟩, hWy, hSm, hBh, hHd⟩, fun j hj => hf j (by omega)⟩
    have hk : k < U.kn + 1 := hk
    show shB fi (nF (sF U.T U.h)) (43 * U.kn) 43 (43 * k + j) = nI (sF U.T (kpU U k) j)
    unfold shB kpU
    by_cases e : k = U.kn
    · subst e
      rw [if_pos (by omega), if_pos rfl, show 43 * U.kn + j - 43 * U.kn = j by omega]
    · rw [if_neg (by omega), if_neg e]
      exact hImv k (by omega) j hj
  · skip
    have hz : zKeep U = (-3, U) := by unfold zKeep; rw [if_neg (by omega)]
    refine R_bipush (v := (-3)) a_X11_keep_8 rfl ?_
    refine R_iret a_X11_keep_10 rfl ?_
    rw [hz]
    exact ⟨rfl, hC, Fr.rf _ _ _⟩

set_option maxRecDepth 20000 in
theorem lp_back {σ0 : AHp} {tl u v ns : Nat} {at_ : Int32} {T : Tb} {f0 fi : Nat → Int32} {g : Hs} (hv : v < 2) (hM0 : σ0 272 = some (mdO tl u v ns at_)) (hIm0 : σ0 278 = some (iA 0 86 fi)) (hg : ∀ j, j < 43 → fi (43 * v + j) = nI (sF T g j)) : ∀ (n k : Nat) (σ : AHp), 43 - k = n → k ≤ 43 → σ 276 = some (iA 0 43 (sh0 f0 (fun j => fi (43 * v + j)) k)) → (∀ j, j ≠ 276 → σ j = σ0 j) → Run M_X11_back 22 [some (.ref 272), some (.int (nI k))] [] σ 0 0 (fun r σ => r = some (.int (nI v)) ∧ σ 272 = some (mdO tl 0 v ns at_) ∧ σ 276 = some (iA 0 43 (nF (sF T g))) ∧ ∀ j, j ≠ 272 ∧ j ≠ 276 → σ j = σ0 j) := by
  intro n
  induction n using Nat.strongRecOn
  rename_i n ih
  intro k σ hm hk hSq hfr
  have hM := (hfr 272 (by omega)).trans hM0
  have hIm := (hfr 278 (by omega)).trans hIm0
  refine R_iload_n a_X11_back_22 rfl ?_
  refine R_bipush (v := nI 43) a_X11_back_23 rfl ?_
  first | with_reducible refine R_icmp_ge_n a_X11_back_25 (by first | omega | exact Nat.lt_of_le_of_lt (inR_le _ _) (by decide) | exact Nat.lt_of_le_of_lt (bitN_le _ _) (by decide) | exact Nat.lt_of_le_of_lt (inI_le _ _ _) (by decide) | exact inI_le _ _ _ | exact inR_le _ _ | exact bitN_le _ _) (by first | omega | exact Nat.lt_of_le_of_lt (inR_le _ _) (by decide) | exact Nat.lt_of_le_of_lt (bitN_le _ _) (by decide) | exact Nat.lt_of_le_of_lt (inI_le _ _ _) (by decide) | exact inI_le _ _ _ | exact inR_le _ _ | exact bitN_le _ _) (fun h25 => ?_) (fun h25 => ?_) | refine R_icmp_ge a_X11_back_25 (fun h25 => ?_) (fun h25 => ?_)
  · skip
    have hke : k = 43 := by omega
    subst hke
    have hfr1 := hfr
    refine R_ext (nF (sF T g)) (by decide) hSq (fun j hj => by rw [sh0_in _ _ hj]; exact hg j hj) (fun σ hSq ho => ?_)
    have hfr : ∀ j, j ≠ 276 → σ j = σ0 j := fun j hj => (ho j hj).trans (hfr1 j hj)
    have hM := (ho 272 (by omega)).trans hM
    have hIm := (ho 278 (by omega)).trans hIm
    refine R_aload_n a_X11_back_54 rfl ?_
    refine R_iconst (v := nI 0) a_X11_back_55 rfl ?_
    refine R_putiK (fs' := [_, _, _, _, _, _, _, _, _, _, _, _, _, _, _, _]) a_X11_back_56 hM rfl rfl (fun σ hM ho => ?_)
    have hIm := (ho _ (by omega)).trans hIm
    have hSq := (ho _ (by omega)).trans hSq
    have hfr2 : ∀ j, j ≠ 272 ∧ j ≠ 276 → σ j = σ0 j := fun j hj => (ho j hj.1).trans (hfr j hj.2)
    refine R_aload_n a_X11_back_59 rfl ?_
    refine R_get a_X11_back_60 hM rfl ?_
    refine R_iret a_X11_back_63 rfl ?_
    exact ⟨rfl, hM, hSq, hfr2⟩
  · skip
    refine R_aload_n a_X11_back_28 rfl ?_
    refine R_get a_X11_back_29 hM rfl ?_
    refine R_iload_n a_X11_back_32 rfl ?_
    refine R_aload_n a_X11_back_33 rfl ?_
    refine R_get a_X11_back_34 hM rfl ?_
    refine R_bipush (v := nI 43) a_X11_back_37 rfl ?_
    refine R_aload_n a_X11_back_39 rfl ?_
    refine R_get a_X11_back_40 hM rfl ?_
    first | with_reducible refine R_imul_n a_X11_back_43 ?_ | refine R_imul a_X11_back_43 ?_
    refine R_iload_n a_X11_back_44 rfl ?_
    first | with_reducible refine R_iadd_n a_X11_back_45 ?_ | refine R_iadd a_X11_back_45 ?_
    refine R_iald_n a_X11_back_46 hIm (by first | omega | exact Nat.lt_of_le_of_lt (inR_le _ _) (by decide) | exact Nat.lt_of_le_of_lt (bitN_le _ _) (by decide) | exact Nat.lt_of_le_of_lt (inI_le _ _ _) (by decide) | exact inI_le _ _ _ | exact inR_le _ _ | exact bitN_le _ _) (by decide) ?_
    refine R_iastK a_X11_back_47 (by omega) hSq (by first | omega | exact Nat.lt_of_le_of_lt (inR_le _ _) (by decide) | exact Nat.lt_of_le_of_lt (bitN_le _ _) (by decide) | exact Nat.lt_of_le_of_lt (inI_le _ _ _) (by decide) | exact inI_le _ _ _ | exact inR_le _ _ | exact bitN_le _ _) (by decide) (fun σ hSq ho => ?_)
    have hM := (ho _ (by omega)).trans hM
    have hIm := (ho _ (by omega)).trans hIm
    have he : upd (sh0 f0 (fun j => fi (43 * v + j)) k) k (fi (43 * v + k)) = sh0 f0 (fun j => fi (43 * v + j)) (k + 1) := sh0_up _ _ _
    rw [he] at hSq
    have hfr : ∀ j, j ≠ 276 → σ j = σ0 j := fun j hj => (ho j hj).trans (hfr j hj)
    first | with_reducible refine R_iinc_n (ls' := [_, _]) a_X11_back_48 rfl rfl rfl rfl ?_ | refine R_iinc (ls' := [_, _]) a_X11_back_48 rfl rfl rfl rfl rfl ?_
    refine R_goto a_X11_back_51 ?_
    exact ih _ (show 43 - (k + 1) < n by omega) (k + 1) σ rfl (by omega) hSq hfr

set_option maxRecDepth 20000 in
theorem md_back {σ0 : AHp} {U : Us} {m : Nat} (hC : MP σ0 U) (hU : UOk U m) (hm : m < 2 ^ 20) : EvW M_X11_back [.ref 272] σ0 (some (.int ((zBack U).1))) (fun σ => MP σ ((zBack U).2) ∧ Fr σ0 σ 272 12) := by
  obtain ⟨at_, fx, ft, fd, fp, fi, fy, fw, fs, fb, fh, hM, hMX, hMT, hDr, hSr, hMPa, hMIm, hMSy, hWy, hSm, hBh, hHd⟩ := id hC
  obtain ⟨hTx, hTxv⟩ := id hMX
  obtain ⟨hTo, t0, t1, t2, t3, t28, tkd, thn, tkn, thf⟩ := id hMT
  obtain ⟨hPa, hPav⟩ := id hMPa
  obtain ⟨hIm, hImv⟩ := id hMIm
  obtain ⟨hSy, hSyv⟩ := id hMSy
  have ok := hU.T
  obtain ⟨g3, g8, n1, n6, lw, stg, son, kd4, hn10, kn63, hf4⟩ := id ok
  have hn64 : 2 ^ U.T.n ≤ 2 ^ 6 := Nat.pow_le_pow_right (by decide) n6
  have hg256 : 2 ^ U.T.g ≤ 2 ^ 8 := Nat.pow_le_pow_right (by decide) g8
  have hlen := hU.len
  have hu8 := hU.u8
  have hul := hU.ul
  have hkn2 := hU.kn2
  have hsg := saltF_lt ok U.h
  have hfr : ∀ j, j < 272 ∨ 284 ≤ j → σ0 j = σ0 j := fun _ _ => rfl
  refine Ev.of (ls := [_, _]) 1 (by decide) rfl rfl ?_
  refine R_aload_n a_X11_back_0 rfl ?_
  refine R_get a_X11_back_1 hM rfl ?_
  first | with_reducible refine R_if_ne_n a_X11_back_4 (by first | omega | exact Nat.lt_of_le_of_lt (inR_le _ _) (by decide) | exact Nat.lt_of_le_of_lt (bitN_le _ _) (by decide) | exact Nat.lt_of_le_of_lt (inI_le _ _ _) (by decide) | exact inI_le _ _ _ | exact inR_le _ _ | exact bitN_le _ _) (fun h4 => ?_) (fun h4 => ?_) | refine R_if_ne a_X11_back_4 (fun h4 => ?_) (fun h4 => ?_)
  · skip
    have hz : zBack U = (nI (U.kn - 1), (U.tf, U.tl, U.T, U.D, U.kp (U.kn - 1), 0, U.kp, U.kn - 1, U.2.2.2.2.2.2.2.2)) := by unfold zBack; rw [if_neg h4]
    refine R_aload_n a_X11_back_10 rfl ?_
    refine R_dup a_X11_back_11 rfl ?_
    refine R_get a_X11_back_12 hM rfl ?_
    refine R_iconst (v := nI 1) a_X11_back_15 rfl ?_
    first | with_reducible refine R_isub_n a_X11_back_16 (by first | omega | exact Nat.lt_of_le_of_lt (inR_le _ _) (by decide) | exact Nat.lt_of_le_of_lt (bitN_le _ _) (by decide) | exact Nat.lt_of_le_of_lt (inI_le _ _ _) (by decide) | exact inI_le _ _ _ | exact inR_le _ _ | exact bitN_le _ _) ?_ | refine R_isub a_X11_back_16 ?_
    refine R_putiK (fs' := [_, _, _, _, _, _, _, _, _, _, _, _, _, _, _, _]) a_X11_back_17 hM rfl rfl (fun σ hM ho => ?_)
    have hTx := (ho _ (by omega)).trans hTx
    have hTo := (ho _ (by omega)).trans hTo
    have hDr := (ho _ (by omega)).trans hDr
    have hSr := (ho _ (by omega)).trans hSr
    have hPa := (ho _ (by omega)).trans hPa
    have hIm := (ho _ (by omega)).trans hIm
    have hSy := (ho _ (by omega)).trans hSy
    have hWy := (ho _ (by omega)).trans hWy
    have hSm := (ho _ (by omega)).trans hSm
    have hBh := (ho _ (by omega)).trans hBh
    have hHd := (ho _ (by omega)).trans hHd
    have hfr : ∀ j, j < 272 ∨ 284 ≤ j → σ j = σ0 j := fun j hj => (ho j (by omega)).trans (hfr j hj)
    refine R_iconst (v := nI 0) a_X11_back_20 rfl ?_
    refine R_istore_n (ls' := [_, _]) a_X11_back_21 rfl rfl rfl ?_
    have hz0 := sh0_z (nF (sF U.T U.h)) (fun j => fi (43 * (U.kn - 1) + j))
    have hSq := hSr
    rw [← hz0] at hSq
    rw [hz]
    refine Run.eqQ (lp_back (T := U.T) (v := U.kn - 1) (g := U.kp (U.kn - 1)) (by omega) hM hIm (fun j hj => hImv (U.kn - 1) (by omega) j hj) _ 0 σ rfl (by omega) hSq (fun _ _ => rfl)) (fun r σ2 hq => ?_)
    obtain ⟨hr, hM, hSr, hf⟩ := hq
    have hTx := (hf 273 (by omega)).trans hTx
    have hTo := (hf 274 (by omega)).trans hTo
    have hDr := (hf 275 (by omega)).trans hDr
    have hPa := (hf 277 (by omega)).trans hPa
    have hIm := (hf 278 (by omega)).trans hIm
    have hSy := (hf 279 (by omega)).trans hSy
    have hWy := (hf 280 (by omega)).trans hWy
    have hSm := (hf 281 (by omega)).trans hSm
    have hBh := (hf 282 (by omega)).trans hBh
    have hHd := (hf 283 (by omega)).trans hHd
    exact ⟨hr, ⟨_, _, _, _, _, _, _, _, _, _, _, hM, ⟨hTx, hTxv⟩, ⟨hTo, t0, t1, t2, t3, t28, tkd, thn, tkn, thf⟩, hDr, hSr, ⟨hPa, fun k hk => absurd hk (Nat.not_lt_zero k)⟩, ⟨hIm, fun k hk j hj => hImv k (by have hk : k < U.kn - 1 := hk; omega) j hj⟩, ⟨hSy, hSyv⟩, hWy, hSm, hBh, hHd⟩, fun j hj => (hf j (by omega)).trans (hfr j (by omega))⟩
  · skip
    have hz : zBack U = (-2, U) := by unfold zBack; rw [if_pos h4]
    refine R_bipush (v := (-2)) a_X11_back_7 rfl ?_
    refine R_iret a_X11_back_9 rfl ?_
    rw [hz]
    exact ⟨rfl, hC, Fr.rf _ _ _⟩

set_option maxRecDepth 20000 in
theorem lp_isSo {σ : AHp} {tl u kn ns : Nat} {at_ : Int32} {ft : Nat → Int32} {T : Tb} (hM : σ 272 = some (mdO tl u kn ns at_)) (hMT : MT σ ft T) (ok : TbOk T) {h : Hs} (hSr : σ 276 = some (iA 0 43 (nF (sF T h)))) (hHs : HsOk T h) {law w : Nat} (hl : law < 4) (hw : w < 2 ^ 31) : ∀ (n k b : Nat) (x5 : Option Value), min h.length 10 - k = n → k ≤ min h.length 10 → b = b2n (expH T h law w k) → okS [none, none, none, none, none, x5] 5 = true → Run M_X11_isSo 5 [some (.ref 272), some (.int (nI w)), some (.int (nI law)), some (.int (nI b)), some (.int (nI k)), x5] [] σ 0 0 (fun r σ' => r = some (.int (nI (b2n (explF T h law w)))) ∧ σ' = σ) := by
  obtain ⟨hTo, t0, t1, t2, t3, t28, tkd, thn, tkn, thf⟩ := id hMT
  obtain ⟨g3, g8, n1, n6, lw, stg, son, kd4, hn10, kn63, hf4⟩ := id ok
  have hn64 : 2 ^ T.n ≤ 2 ^ 6 := Nat.pow_le_pow_right (by decide) n6
  intro n
  induction n using Nat.strongRecOn
  rename_i n ih
  intro k b x5 hm hk hb hx5
  have hb1 := b2n_le (expH T h law w k)
  have hsg := saltF_lt ok (h.drop (k + 1))
  have hsg2 := saltF_lt ok (h.drop k)
  have hcd := hAt_ok hHs k
  have hc1 := hcd.1.le
  have hc2 := hcd.2.le
  have hcm := comesF_lt (T := T) (a := saltF T (h.drop (k + 1))) (c := (hAt h k).1) (d := (hAt h k).2) (w := w) (law := law) (by omega) hsg
  have hm256 : ((hAt h k).1 + 256 * (hAt h k).2) % 256 = (hAt h k).1 := by omega
  have hd256 : ((hAt h k).1 + 256 * (hAt h k).2) / 256 = (hAt h k).2 := by omega
  refine R_iload a_X11_isSo_5 rfl ?_
  refine R_aload_n a_X11_isSo_7 rfl ?_
  refine R_get a_X11_isSo_8 hM rfl ?_
  refine R_iconst (v := nI 4) a_X11_isSo_11 rfl ?_
  refine R_iald_n a_X11_isSo_12 hSr (by first | omega | exact Nat.lt_of_le_of_lt (inR_le _ _) (by decide) | exact Nat.lt_of_le_of_lt (bitN_le _ _) (by decide) | exact Nat.lt_of_le_of_lt (inI_le _ _ _) (by decide) | exact inI_le _ _ _ | exact inR_le _ _ | exact bitN_le _ _) (by decide) ?_
  refine R_top (congrArg nI (sF_4 T h)) ?_
  first | with_reducible refine R_icmp_ge_n a_X11_isSo_13 (by first | omega | exact Nat.lt_of_le_of_lt (inR_le _ _) (by decide) | exact Nat.lt_of_le_of_lt (bitN_le _ _) (by decide) | exact Nat.lt_of_le_of_lt (inI_le _ _ _) (by decide) | exact inI_le _ _ _ | exact inR_le _ _ | exact bitN_le _ _) (by first | omega | exact Nat.lt_of_le_of_lt (inR_le _ _) (by decide) | exact Nat.lt_of_le_of_lt (bitN_le _ _) (by decide) | exact Nat.lt_of_le_of_lt (inI_le _ _ _) (by decide) | exact inI_le _ _ _ | exact inR_le _ _ | exact bitN_le _ _) (fun h13 => ?_) (fun h13 => ?_) | refine R_icmp_ge a_X11_isSo_13 (fun h13 => ?_) (fun h13 => ?_)
  · skip
    have hke : k = min h.length 10 := by omega
    subst hke
    refine R_iload_n a_X11_isSo_95 rfl ?_
    refine R_zret_n a_X11_isSo_96 rfl (by first | omega | exact Nat.lt_of_le_of_lt (inR_le _ _) (by decide) | exact Nat.lt_of_le_of_lt (bitN_le _ _) (by decide) | exact Nat.lt_of_le_of_lt (inI_le _ _ _) (by decide) | exact inI_le _ _ _ | exact inR_le _ _ | exact bitN_le _ _) ?_
    exact ⟨by rw [hb]; rfl, rfl⟩
  · skip
    refine R_aload_n a_X11_isSo_16 rfl ?_
    refine R_get a_X11_isSo_17 hM rfl ?_
    refine R_bipush (v := nI 13) a_X11_isSo_20 rfl ?_
    refine R_iconst (v := nI 3) a_X11_isSo_22 rfl ?_
    refine R_iload a_X11_isSo_23 rfl ?_
    first | with_reducible refine R_imul_n a_X11_isSo_25 ?_ | refine R_imul a_X11_isSo_25 ?_
    first | with_reducible refine R_iadd_n a_X11_isSo_26 ?_ | refine R_iadd a_X11_isSo_26 ?_
    refine R_iconst (v := nI 2) a_X11_isSo_27 rfl ?_
    first | with_reducible refine R_iadd_n a_X11_isSo_28 ?_ | refine R_iadd a_X11_isSo_28 ?_
    refine R_iald_n a_X11_isSo_29 hSr (by first | omega | exact Nat.lt_of_le_of_lt (inR_le _ _) (by decide) | exact Nat.lt_of_le_of_lt (bitN_le _ _) (by decide) | exact Nat.lt_of_le_of_lt (inI_le _ _ _) (by decide) | exact inI_le _ _ _ | exact inR_le _ _ | exact bitN_le _ _) (by decide) ?_
    refine R_top (congrArg nI (sF_w2 T h (show k < h.length by omega))) ?_
    refine R_istore (ls' := [_, _, _, _, _, _]) a_X11_isSo_30 rfl rfl rfl ?_
    refine R_iload_n a_X11_isSo_32 rfl ?_
    first | with_reducible refine R_if_eq_n a_X11_isSo_33 (by first | omega | exact Nat.lt_of_le_of_lt (inR_le _ _) (by decide) | exact Nat.lt_of_le_of_lt (bitN_le _ _) (by decide) | exact Nat.lt_of_le_of_lt (inI_le _ _ _) (by decide) | exact inI_le _ _ _ | exact inR_le _ _ | exact bitN_le _ _) (fun h33 => ?_) (fun h33 => ?_) | refine R_if_eq a_X11_isSo_33 (fun h33 => ?_) (fun h33 => ?_)
    · skip
      have hb2 : 0 = b2n (expH T h law w (k + 1)) := by
        have e : expH T h law w k = false := by
          cases q : expH T h law w k
          · rfl
          · rw [hb, q] at h33; cases h33
        rw [expH_f (Nat.le_succ k) e]
        rfl
      refine R_iconst (v := nI 0) a_X11_isSo_87 rfl ?_
      refine R_istore_n (ls' := [_, _, _, _, _, _]) a_X11_isSo_88 rfl rfl rfl ?_
      first | with_reducible refine R_iinc_n (ls' := [_, _, _, _, _, _]) a_X11_isSo_89 rfl rfl rfl rfl ?_ | refine R_iinc (ls' := [_, _, _, _, _, _]) a_X11_isSo_89 rfl rfl rfl rfl rfl ?_
      refine R_goto a_X11_isSo_92 ?_
      exact ih _ (show min h.length 10 - (k + 1) < n by omega) (k + 1) _ _ rfl (by omega) hb2 rfl
    · skip
      have he : expH T h law w k = true := by
        cases q : expH T h law w k
        · rw [hb, q] at h33; exact absurd rfl h33
        · rfl
      refine R_aload_n a_X11_isSo_36 rfl ?_
      refine R_aload_n a_X11_isSo_37 rfl ?_
      refine R_get a_X11_isSo_38 hM rfl ?_
      refine R_bipush (v := nI 13) a_X11_isSo_41 rfl ?_
      refine R_iconst (v := nI 3) a_X11_isSo_43 rfl ?_
      refine R_iload a_X11_isSo_44 rfl ?_
      first | with_reducible refine R_imul_n a_X11_isSo_46 ?_ | refine R_imul a_X11_isSo_46 ?_
      first | with_reducible refine R_iadd_n a_X11_isSo_47 ?_ | refine R_iadd a_X11_isSo_47 ?_
      refine R_iald_n a_X11_isSo_48 hSr (by first | omega | exact Nat.lt_of_le_of_lt (inR_le _ _) (by decide) | exact Nat.lt_of_le_of_lt (bitN_le _ _) (by decide) | exact Nat.lt_of_le_of_lt (inI_le _ _ _) (by decide) | exact inI_le _ _ _ | exact inR_le _ _ | exact bitN_le _ _) (by decide) ?_
      refine R_top (congrArg nI (sF_w0 T h (show k < h.length by omega))) ?_
      refine R_iload a_X11_isSo_49 rfl ?_
      refine R_sipush (v := nI 256) a_X11_isSo_51 rfl ?_
      refine R_irem_n a_X11_isSo_54 (by first | omega | exact Nat.lt_of_le_of_lt (inR_le _ _) (by decide) | exact Nat.lt_of_le_of_lt (bitN_le _ _) (by decide) | exact Nat.lt_of_le_of_lt (inI_le _ _ _) (by decide) | exact inI_le _ _ _ | exact inR_le _ _ | exact bitN_le _ _) (by first | omega | exact Nat.lt_of_le_of_lt (inR_le _ _) (by decide) | exact Nat.lt_of_le_of_lt (bitN_le _ _) (by decide) | exact Nat.lt_of_le_of_lt (inI_le _ _ _) (by decide) | exact inI_le _ _ _ | exact inR_le _ _ | exact bitN_le _ _) (by first | omega | exact Nat.lt_of_le_of_lt (inR_le _ _) (by decide) | exact Nat.lt_of_le_of_lt (bitN_le _ _) (by decide) | exact Nat.lt_of_le_of_lt (inI_le _ _ _) (by decide) | exact inI_le _ _ _ | exact inR_le _ _ | exact bitN_le _ _) ?_
      refine R_top (congrArg nI hm256) ?_
      refine R_iload a_X11_isSo_55 rfl ?_
      refine R_sipush (v := nI 256) a_X11_isSo_57 rfl ?_
      refine R_idiv_n a_X11_isSo_60 (by first | omega | exact Nat.lt_of_le_of_lt (inR_le _ _) (by decide) | exact Nat.lt_of_le_of_lt (bitN_le _ _) (by decide) | exact Nat.lt_of_le_of_lt (inI_le _ _ _) (by decide) | exact inI_le _ _ _ | exact inR_le _ _ | exact bitN_le _ _) (by first | omega | exact Nat.lt_of_le_of_lt (inR_le _ _) (by decide) | exact Nat.lt_of_le_of_lt (bitN_le _ _) (by decide) | exact Nat.lt_of_le_of_lt (inI_le _ _ _) (by decide) | exact inI_le _ _ _ | exact inR_le _ _ | exact bitN_le _ _) (by first | omega | exact Nat.lt_of_le_of_lt (inR_le _ _) (by decide) | exact Nat.lt_of_le_of_lt (bitN_le _ _) (by decide) | exact Nat.lt_of_le_of_lt (inI_le _ _ _) (by decide) | exact inI_le _ _ _ | exact inR_le _ _ | exact bitN_le _ _) ?_
      refine R_top (congrArg nI hd256) ?_
      refine R_iload_n a_X11_isSo_61 rfl ?_
      refine R_iload_n a_X11_isSo_62 rfl ?_
      refine R_callVp a_X11_isSo_63 hM (md_comes hM hMT ok hsg hcd.1 hcd.2 hw hl) rfl rfl rfl rfl rfl ?_
      refine R_aload_n a_X11_isSo_66 rfl ?_
      refine R_get a_X11_isSo_67 hM rfl ?_
      refine R_bipush (v := nI 13) a_X11_isSo_70 rfl ?_
      refine R_iconst (v := nI 3) a_X11_isSo_72 rfl ?_
      refine R_iload a_X11_isSo_73 rfl ?_
      first | with_reducible refine R_imul_n a_X11_isSo_75 ?_ | refine R_imul a_X11_isSo_75 ?_
      first | with_reducible refine R_iadd_n a_X11_isSo_76 ?_ | refine R_iadd a_X11_isSo_76 ?_
      refine R_iconst (v := nI 1) a_X11_isSo_77 rfl ?_
      first | with_reducible refine R_iadd_n a_X11_isSo_78 ?_ | refine R_iadd a_X11_isSo_78 ?_
      refine R_iald_n a_X11_isSo_79 hSr (by first | omega | exact Nat.lt_of_le_of_lt (inR_le _ _) (by decide) | exact Nat.lt_of_le_of_lt (bitN_le _ _) (by decide) | exact Nat.lt_of_le_of_lt (inI_le _ _ _) (by decide) | exact inI_le _ _ _ | exact inR_le _ _ | exact bitN_le _ _) (by decide) ?_
      refine R_top (congrArg nI (sF_w1 T h (show k < h.length by omega))) ?_
      first | with_reducible refine R_icmp_ne_n a_X11_isSo_80 (by first | omega | exact Nat.lt_of_le_of_lt (inR_le _ _) (by decide) | exact Nat.lt_of_le_of_lt (bitN_le _ _) (by decide) | exact Nat.lt_of_le_of_lt (inI_le _ _ _) (by decide) | exact inI_le _ _ _ | exact inR_le _ _ | exact bitN_le _ _) (by first | omega | exact Nat.lt_of_le_of_lt (inR_le _ _) (by decide) | exact Nat.lt_of_le_of_lt (bitN_le _ _) (by decide) | exact Nat.lt_of_le_of_lt (inI_le _ _ _) (by decide) | exact inI_le _ _ _ | exact inR_le _ _ | exact bitN_le _ _) (fun h80 => ?_) (fun h80 => ?_) | refine R_icmp_ne a_X11_isSo_80 (fun h80 => ?_) (fun h80 => ?_)
      · skip
        have hb2 : 0 = b2n (expH T h law w (k + 1)) := by rw [expH, he, decide_eq_false h80]; rfl
        refine R_iconst (v := nI 0) a_X11_isSo_87 rfl ?_
        refine R_istore_n (ls' := [_, _, _, _, _, _]) a_X11_isSo_88 rfl rfl rfl ?_
        first | with_reducible refine R_iinc_n (ls' := [_, _, _, _, _, _]) a_X11_isSo_89 rfl rfl rfl rfl ?_ | refine R_iinc (ls' := [_, _, _, _, _, _]) a_X11_isSo_89 rfl rfl rfl rfl rfl ?_
        refine R_goto a_X11_isSo_92 ?_
        exact ih _ (show min h.length 10 - (k + 1) < n by omega) (k + 1) _ _ rfl (by omega) hb2 rfl
      · skip
        have hb2 : 1 = b2n (expH T h law w (k + 1)) := by rw [expH, he, decide_eq_true h80]; rfl
        refine R_iconst (v := nI 1) a_X11_isSo_83 rfl ?_
        refine R_goto a_X11_isSo_84 ?_
        refine R_istore_n (ls' := [_, _, _, _, _, _]) a_X11_isSo_88 rfl rfl rfl ?_
        first | with_reducible refine R_iinc_n (ls' := [_, _, _, _, _, _]) a_X11_isSo_89 rfl rfl rfl rfl ?_ | refine R_iinc (ls' := [_, _, _, _, _, _]) a_X11_isSo_89 rfl rfl rfl rfl rfl ?_
        refine R_goto a_X11_isSo_92 ?_
        exact ih _ (show min h.length 10 - (k + 1) < n by omega) (k + 1) _ _ rfl (by omega) hb2 rfl

set_option maxRecDepth 20000 in
theorem md_isSo {σ : AHp} {tl u kn ns : Nat} {at_ : Int32} {ft : Nat → Int32} {T : Tb} (hM : σ 272 = some (mdO tl u kn ns at_)) (hMT : MT σ ft T) (ok : TbOk T) {h : Hs} (hSr : σ 276 = some (iA 0 43 (nF (sF T h)))) (hHs : HsOk T h) {law w : Nat} (hl : law < 4) (hw : w < 2 ^ 31) : EvP M_X11_isSo [.ref 272, .int (nI w), .int (nI law)] σ (.int (nI (b2n (explF T h law w)))) := by
  refine Ev.of (ls := [_, _, _, _, _, _]) 3 (by decide) rfl rfl ?_
  refine R_iconst (v := nI 1) a_X11_isSo_0 rfl ?_
  refine R_istore_n (ls' := [_, _, _, _, _, _]) a_X11_isSo_1 rfl rfl rfl ?_
  refine R_iconst (v := nI 0) a_X11_isSo_2 rfl ?_
  refine R_istore (ls' := [_, _, _, _, _, _]) a_X11_isSo_3 rfl rfl rfl ?_
  exact lp_isSo hM hMT ok hSr hHs hl hw _ 0 1 none rfl (Nat.zero_le _) rfl rfl

