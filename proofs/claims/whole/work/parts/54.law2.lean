/-! ===== THE LAW: its loop, its start ===== -/
theorem sub7_neg : ∀ L, L < 7 → nI L - nI 7 < 0 := by decide +kernel
theorem at_end {i L : Nat} (hi : i < 2 ^ 20) (hL : L ≤ 3584) (h : ¬ nI L - nI 7 < nI i) : i + 7 ≤ L := by
  by_cases q : 7 ≤ L
  · rw [pk_sub q] at h
    have w : ¬ L - 7 < i := fun w => h ((nI_ltI (show L - 7 < 2 ^ 31 by omega) (show i < 2 ^ 31 by omega)).mpr w)
    omega
  · exact absurd (Int32.lt_of_lt_of_le (sub7_neg L (by omega)) (nI_pos' (show i < 2 ^ 31 by omega))) h
set_option maxRecDepth 20000 in
theorem lw_loop {L : Nat} {xs : Nat → Int32} (hL : L ≤ 3584) : ∀ (n i m : Nat) (U : Us) (σ : AHp), L + 7 - i = n → i ≤ L + 7 → m ≤ i → σ 0 = some (iA 0 L xs) → CP σ U → MP σ U → UOk U m → Run M_L_law 18 [some (.ref 0), some (.ref 1), some (.ref 272), some (.int (nI i))] [] σ 0 0 (fun r _ => r = some (.int (nI 1))) := by
  intro n
  induction n using Nat.strongRecOn
  rename_i n ih
  intro i m U σ hn hi hmi hS hC hM hU
  refine R_iload_n a_L_law_18 rfl ?_
  refine R_aload_n a_L_law_19 rfl ?_
  refine R_alen a_L_law_20 hS ?_
  refine R_bipush (v := nI 7) a_L_law_21 rfl ?_
  refine R_isub a_L_law_23 ?_
  refine R_icmp_gt a_L_law_24 (fun h24 => ?_) (fun h24 => ?_)
  · refine R_iconst (v := nI 1) a_L_law_966 rfl ?_
    refine R_zret_n a_L_law_967 rfl (by decide) ?_
    rfl
  have hi7 := at_end (show i < 2 ^ 20 by omega) hL h24
  have hm : m < 2 ^ 20 := by omega
  have hx : ∀ (σ2 : AHp) (U2 : Us), σ2 0 = some (iA 0 L xs) → CP σ2 U2 → MP σ2 U2 → UOk U2 (m + 1) → Run M_L_law 960 [some (.ref 0), some (.ref 1), some (.ref 272), some (.int (nI i))] [] σ2 0 0 (fun r _ => r = some (.int (nI 1))) := by
    intro σ2 U2 hS2 hC2 hM2 hU2
    refine R_iinc (v := nI (i + 7)) (ls' := [_, _, _, _]) a_L_law_960 rfl (nI_add i 7) rfl rfl rfl ?_
    refine R_goto a_L_law_963 ?_
    exact ih _ (show L + 7 - (i + 7) < n by omega) (i + 7) (m + 1) U2 σ2 rfl (by omega) (by omega) hS2 hC2 hM2 hU2
  refine R_aload_n a_L_law_27 rfl ?_
  refine R_iload_n a_L_law_28 rfl ?_
  refine R_iald_n a_L_law_29 hS (by omega) (by omega) ?_
  refine R_bipush (v := nI 31) a_L_law_30 rfl ?_
  refine R_iand a_L_law_32 ?_
  generalize xs i &&& nI 31 = v
  by_cases hs0 : v = nI 0
  · exact R_tswI (c0 := 0) (off := 123) (tgt := 156) a_L_law_33 (by rw [hs0]; rfl) (by decide) (by decide) rfl rfl (lw_c0 hL hi7 hS hC hM hU hm hx)
  by_cases hs1 : v = nI 1
  · exact R_tswI (c0 := 1) (off := 146) (tgt := 179) a_L_law_33 (by rw [hs1]; rfl) (by decide) (by decide) rfl rfl (lw_c1 hL hi7 hS hC hM hU hm hx)
  by_cases hs2 : v = nI 2
  · exact R_tswI (c0 := 2) (off := 159) (tgt := 192) a_L_law_33 (by rw [hs2]; rfl) (by decide) (by decide) rfl rfl (lw_c2 hL hi7 hS hC hM hU hm hx)
  by_cases hs3 : v = nI 3
  · exact R_tswI (c0 := 3) (off := 172) (tgt := 205) a_L_law_33 (by rw [hs3]; rfl) (by decide) (by decide) rfl rfl (lw_c3 hL hi7 hS hC hM hU hm hx)
  by_cases hs4 : v = nI 4
  · exact R_tswI (c0 := 4) (off := 185) (tgt := 218) a_L_law_33 (by rw [hs4]; rfl) (by decide) (by decide) rfl rfl (lw_c4 hL hi7 hS hC hM hU hm hx)
  by_cases hs5 : v = nI 5
  · exact R_tswI (c0 := 5) (off := 218) (tgt := 251) a_L_law_33 (by rw [hs5]; rfl) (by decide) (by decide) rfl rfl (lw_c5 hL hi7 hS hC hM hU hm hx)
  by_cases hs6 : v = nI 6
  · exact R_tswI (c0 := 6) (off := 251) (tgt := 284) a_L_law_33 (by rw [hs6]; rfl) (by decide) (by decide) rfl rfl (lw_c6 hL hi7 hS hC hM hU hm hx)
  by_cases hs7 : v = nI 7
  · exact R_tswI (c0 := 7) (off := 284) (tgt := 317) a_L_law_33 (by rw [hs7]; rfl) (by decide) (by decide) rfl rfl (lw_c7 hL hi7 hS hC hM hU hm hx)
  by_cases hs8 : v = nI 8
  · exact R_tswI (c0 := 8) (off := 343) (tgt := 376) a_L_law_33 (by rw [hs8]; rfl) (by decide) (by decide) rfl rfl (lw_c8 hL hi7 hS hC hM hU hm hx)
  by_cases hs9 : v = nI 9
  · exact R_tswI (c0 := 9) (off := 450) (tgt := 483) a_L_law_33 (by rw [hs9]; rfl) (by decide) (by decide) rfl rfl (lw_c9 hL hi7 hS hC hM hU hm hx)
  by_cases hs10 : v = nI 10
  · exact R_tswI (c0 := 10) (off := 463) (tgt := 496) a_L_law_33 (by rw [hs10]; rfl) (by decide) (by decide) rfl rfl (lw_c10 hL hi7 hS hC hM hU hm hx)
  by_cases hs11 : v = nI 11
  · exact R_tswI (c0 := 11) (off := 476) (tgt := 509) a_L_law_33 (by rw [hs11]; rfl) (by decide) (by decide) rfl rfl (lw_c11 hL hi7 hS hC hM hU hm hx)
  by_cases hs12 : v = nI 12
  · exact R_tswI (c0 := 12) (off := 509) (tgt := 542) a_L_law_33 (by rw [hs12]; rfl) (by decide) (by decide) rfl rfl (lw_c12 hL hi7 hS hC hM hU hm hx)
  by_cases hs13 : v = nI 13
  · exact R_tswI (c0 := 13) (off := 532) (tgt := 565) a_L_law_33 (by rw [hs13]; rfl) (by decide) (by decide) rfl rfl (lw_c13 hL hi7 hS hC hM hU hm hx)
  by_cases hs14 : v = nI 14
  · exact R_tswI (c0 := 14) (off := 571) (tgt := 604) a_L_law_33 (by rw [hs14]; rfl) (by decide) (by decide) rfl rfl (lw_c14 hL hi7 hS hC hM hU hm hx)
  by_cases hs15 : v = nI 15
  · exact R_tswI (c0 := 15) (off := 584) (tgt := 617) a_L_law_33 (by rw [hs15]; rfl) (by decide) (by decide) rfl rfl (lw_c15 hL hi7 hS hC hM hU hm hx)
  by_cases hs16 : v = nI 16
  · exact R_tswI (c0 := 16) (off := 607) (tgt := 640) a_L_law_33 (by rw [hs16]; rfl) (by decide) (by decide) rfl rfl (lw_c16 hL hi7 hS hC hM hU hm hx)
  by_cases hs17 : v = nI 17
  · exact R_tswI (c0 := 17) (off := 640) (tgt := 673) a_L_law_33 (by rw [hs17]; rfl) (by decide) (by decide) rfl rfl (lw_c17 hL hi7 hS hC hM hU hm hx)
  by_cases hs18 : v = nI 18
  · exact R_tswI (c0 := 18) (off := 673) (tgt := 706) a_L_law_33 (by rw [hs18]; rfl) (by decide) (by decide) rfl rfl (lw_c18 hL hi7 hS hC hM hU hm hx)
  by_cases hs19 : v = nI 19
  · exact R_tswI (c0 := 19) (off := 736) (tgt := 769) a_L_law_33 (by rw [hs19]; rfl) (by decide) (by decide) rfl rfl (lw_c19 hL hi7 hS hC hM hU hm hx)
  by_cases hs20 : v = nI 20
  · exact R_tswI (c0 := 20) (off := 785) (tgt := 818) a_L_law_33 (by rw [hs20]; rfl) (by decide) (by decide) rfl rfl (lw_c20 hL hi7 hS hC hM hU hm hx)
  by_cases hs21 : v = nI 21
  · exact R_tswI (c0 := 21) (off := 798) (tgt := 831) a_L_law_33 (by rw [hs21]; rfl) (by decide) (by decide) rfl rfl (lw_c21 hL hi7 hS hC hM hU hm hx)
  by_cases hs22 : v = nI 22
  · exact R_tswI (c0 := 22) (off := 822) (tgt := 855) a_L_law_33 (by rw [hs22]; rfl) (by decide) (by decide) rfl rfl (lw_c22 hL hi7 hS hC hM hU hm hx)
  by_cases hs23 : v = nI 23
  · exact R_tswI (c0 := 23) (off := 835) (tgt := 868) a_L_law_33 (by rw [hs23]; rfl) (by decide) (by decide) rfl rfl (lw_c23 hL hi7 hS hC hM hU hm hx)
  by_cases hs24 : v = nI 24
  · exact R_tswI (c0 := 24) (off := 878) (tgt := 911) a_L_law_33 (by rw [hs24]; rfl) (by decide) (by decide) rfl rfl (lw_c24 hL hi7 hS hC hM hU hm hx)
  by_cases hs25 : v = nI 25
  · exact R_tswI (c0 := 25) (off := 891) (tgt := 924) a_L_law_33 (by rw [hs25]; rfl) (by decide) (by decide) rfl rfl (lw_c25 hL hi7 hS hC hM hU hm hx)
  by_cases hs26 : v = nI 26
  · exact R_tswI (c0 := 26) (off := 904) (tgt := 937) a_L_law_33 (by rw [hs26]; rfl) (by decide) (by decide) rfl rfl (lw_c26 hL hi7 hS hC hM hU hm hx)
  refine R_tswO (tgt := 960) a_L_law_33 (by have g0 := i32_ne hs0 (by decide); have g1 := i32_ne hs1 (by decide); have g2 := i32_ne hs2 (by decide); have g3 := i32_ne hs3 (by decide); have g4 := i32_ne hs4 (by decide); have g5 := i32_ne hs5 (by decide); have g6 := i32_ne hs6 (by decide); have g7 := i32_ne hs7 (by decide); have g8 := i32_ne hs8 (by decide); have g9 := i32_ne hs9 (by decide); have g10 := i32_ne hs10 (by decide); have g11 := i32_ne hs11 (by decide); have g12 := i32_ne hs12 (by decide); have g13 := i32_ne hs13 (by decide); have g14 := i32_ne hs14 (by decide); have g15 := i32_ne hs15 (by decide); have g16 := i32_ne hs16 (by decide); have g17 := i32_ne hs17 (by decide); have g18 := i32_ne hs18 (by decide); have g19 := i32_ne hs19 (by decide); have g20 := i32_ne hs20 (by decide); have g21 := i32_ne hs21 (by decide); have g22 := i32_ne hs22 (by decide); have g23 := i32_ne hs23 (by decide); have g24 := i32_ne hs24 (by decide); have g25 := i32_ne hs25 (by decide); have g26 := i32_ne hs26 (by decide); omega) rfl ?_
  exact hx σ U hS hC hM (hU.mono (Nat.le_succ m))
set_option maxRecDepth 20000 in
theorem lw_begin {L : Nat} {xs : Nat → Int32} (hL : L ≤ 3584) {σ : AHp} (hS : σ 0 = some (iA 0 L xs)) (hn : ∀ j, 0 < j → σ j = none) : Run M_L_law 0 [some (.ref 0), none, none, none] [] σ 283 2118 (fun r _ => r = some (.int (nI 1))) := by
  refine R_new (kc := 282) (ks := 2106) 1 a_L_law_0 (by decide) (hn 1 (by decide)) (Or.inl rfl) ?_
  have hO1 := up_self σ 1 (oB 10 [.null, .null, .null, .null, .null, .null, .null, .null, .null, .null, .null, .int 0])
  have ho1 : ∀ j, j ≠ 1 → up σ 1 (oB 10 [.null, .null, .null, .null, .null, .null, .null, .null, .null, .null, .null, .int 0]) j = σ j := fun j hj => up_ne _ _ hj
  generalize up σ 1 (oB 10 [.null, .null, .null, .null, .null, .null, .null, .null, .null, .null, .null, .int 0]) = σ1 at hO1 ho1 ⊢
  refine R_dup a_L_law_3 rfl ?_
  refine R_callIv (kc := 12) (ks := 834) a_L_law_4 (ct_X10 hO1 (fun j hj => (ho1 j (by omega)).trans (hn j (by omega)))) rfl rfl rfl rfl rfl (fun σ2 hP => ?_)
  obtain ⟨⟨f, hC⟩, hlo2, hn2⟩ := hP
  have hS2 := (hlo2 0 (by decide)).trans ((ho1 0 (by decide)).trans hS)
  refine R_astore_n (ls' := [_, _, _, _]) a_L_law_7 rfl rfl rfl ?_
  obtain ⟨c0, hp⟩ := hC.top
  refine R_newK (kc := 11) (ks := 818) (p := 271) 272 a_L_law_8 rfl rfl rfl (hn2 272 (by decide)) hp (fun σ3 hO3 ho3 => ?_)
  refine R_dup a_L_law_11 rfl ?_
  refine R_callIv (kc := 0) (ks := 0) a_L_law_12 (ct_X11 hO3 (fun j hj => (ho3 j (by omega)).trans (hn2 j (by omega)))) rfl rfl rfl rfl rfl (fun σ4 hP => ?_)
  obtain ⟨hM, hlo4, hn4⟩ := hP
  have hS4 := (hlo4 0 (by decide)).trans ((ho3 0 (by decide)).trans hS2)
  have hC4 : CP σ4 (U0 f) := hC.kept (fun j h1 h2 => (hlo4 j (by omega)).trans (ho3 j (by omega)))
  refine R_astore_n (ls' := [_, _, _, _]) a_L_law_15 rfl rfl rfl ?_
  refine R_iconst (v := nI 0) a_L_law_16 rfl ?_
  refine R_istore_n (ls' := [_, _, _, _]) a_L_law_17 rfl rfl rfl ?_
  exact lw_loop hL _ 0 0 (U0 f) σ4 rfl (Nat.zero_le _) (Nat.le_refl 0) hS4 hC4 (hM f) (U0_ok f)
