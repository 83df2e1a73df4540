/-! ===== SaltToLiarsModel: rounds, second part ===== -/
set_option maxRecDepth 20000 in
theorem lp_keeps2 {σ0 : AHp} {tl kn ns : Nat} {at_ : Int32} {T : Tb} {h : Hs} {v : Nat} {g : Nat → Int32} (hv : v < 8) (hSr0 : σ0 276 = some (iA 0 43 (nF (sF T h)))) : ∀ (n k : Nat) (σ : AHp), 43 - k = n → k ≤ 43 → σ 272 = some (mdO tl v kn ns at_) → σ 277 = some (iA 0 344 (shB g (nF (sF T h)) (43 * v) k)) → (∀ j, j ≠ 272 ∧ j ≠ 277 → σ j = σ0 j) → Run M_X11_keeps 51 [some (.ref 272), some (.int (nI k))] [] σ 0 0 (fun r σ => r = none ∧ σ 272 = some (mdO tl (v + 1) kn ns at_) ∧ σ 277 = some (iA 0 344 (shB g (nF (sF T h)) (43 * v) 43)) ∧ ∀ j, j ≠ 272 ∧ j ≠ 277 → σ j = σ0 j) := by
  intro n
  induction n using Nat.strongRecOn
  rename_i n ih
  intro k σ hm hk hM hPa hfr
  have hSr := (hfr 276 (by omega)).trans hSr0
  refine R_iload_n a_X11_keeps_51 rfl ?_
  refine R_bipush (v := nI 43) a_X11_keeps_52 rfl ?_
  first | with_reducible refine R_icmp_ge_n a_X11_keeps_54 (by first | omega | exact Nat.lt_of_le_of_lt (inR_le _ _) (by decide) | exact Nat.lt_of_le_of_lt (bitN_le _ _) (by decide) | exact Nat.lt_of_le_of_lt (inI_le _ _ _) (by decide) | exact inI_le _ _ _ | exact inR_le _ _ | exact bitN_le _ _) (by first | omega | exact Nat.lt_of_le_of_lt (inR_le _ _) (by decide) | exact Nat.lt_of_le_of_lt (bitN_le _ _) (by decide) | exact Nat.lt_of_le_of_lt (inI_le _ _ _) (by decide) | exact inI_le _ _ _ | exact inR_le _ _ | exact bitN_le _ _) (fun h54 => ?_) (fun h54 => ?_) | refine R_icmp_ge a_X11_keeps_54 (fun h54 => ?_) (fun h54 => ?_)
  · skip
    have hke : k = 43 := by omega
    subst hke
    refine R_aload_n a_X11_keeps_83 rfl ?_
    refine R_dup a_X11_keeps_84 rfl ?_
    refine R_get a_X11_keeps_85 hM rfl ?_
    refine R_iconst (v := nI 1) a_X11_keeps_88 rfl ?_
    first | with_reducible refine R_iadd_n a_X11_keeps_89 ?_ | refine R_iadd a_X11_keeps_89 ?_
    refine R_putiK (fs' := [_, _, _, _, _, _, _, _, _, _, _, _, _, _, _, _]) a_X11_keeps_90 hM rfl rfl (fun σ hM ho => ?_)
    have hPa := (ho _ (by omega)).trans hPa
    have hSr := (ho _ (by omega)).trans hSr
    have hfr : ∀ j, j ≠ 272 ∧ j ≠ 277 → σ j = σ0 j := fun j hj => (ho j (by omega)).trans (hfr j hj)
    refine R_vret a_X11_keeps_93 rfl ?_
    exact ⟨rfl, hM, hPa, hfr⟩
  · skip
    refine R_aload_n a_X11_keeps_57 rfl ?_
    refine R_get a_X11_keeps_58 hM rfl ?_
    refine R_bipush (v := nI 43) a_X11_keeps_61 rfl ?_
    refine R_aload_n a_X11_keeps_63 rfl ?_
    refine R_get a_X11_keeps_64 hM rfl ?_
    first | with_reducible refine R_imul_n a_X11_keeps_67 ?_ | refine R_imul a_X11_keeps_67 ?_
    refine R_iload_n a_X11_keeps_68 rfl ?_
    first | with_reducible refine R_iadd_n a_X11_keeps_69 ?_ | refine R_iadd a_X11_keeps_69 ?_
    refine R_aload_n a_X11_keeps_70 rfl ?_
    refine R_get a_X11_keeps_71 hM rfl ?_
    refine R_iload_n a_X11_keeps_74 rfl ?_
    refine R_iald_n a_X11_keeps_75 hSr (by first | omega | exact Nat.lt_of_le_of_lt (inR_le _ _) (by decide) | exact Nat.lt_of_le_of_lt (bitN_le _ _) (by decide) | exact Nat.lt_of_le_of_lt (inI_le _ _ _) (by decide) | exact inI_le _ _ _ | exact inR_le _ _ | exact bitN_le _ _) (by decide) ?_
    skip
    refine R_iastK a_X11_keeps_76 (by omega) hPa (by first | omega | exact Nat.lt_of_le_of_lt (inR_le _ _) (by decide) | exact Nat.lt_of_le_of_lt (bitN_le _ _) (by decide) | exact Nat.lt_of_le_of_lt (inI_le _ _ _) (by decide) | exact inI_le _ _ _ | exact inR_le _ _ | exact bitN_le _ _) (by decide) (fun σ hPa ho => ?_)
    have hM := (ho _ (by omega)).trans hM
    have hSr := (ho _ (by omega)).trans hSr
    have hfr : ∀ j, j ≠ 272 ∧ j ≠ 277 → σ j = σ0 j := fun j hj => (ho j (by omega)).trans (hfr j hj)
    have he : upd (shB g (nF (sF T h)) (43 * v) k) (43 * v + k) (nF (sF T h) k) = shB g (nF (sF T h)) (43 * v) (k + 1) := shB_up _ _ _ _
    rw [he] at hPa
    first | with_reducible refine R_iinc_n (ls' := [_, _]) a_X11_keeps_77 rfl rfl rfl rfl ?_ | refine R_iinc (ls' := [_, _]) a_X11_keeps_77 rfl rfl rfl rfl rfl ?_
    refine R_goto a_X11_keeps_80 ?_
    exact ih _ (show 43 - (k + 1) < n by omega) (k + 1) σ rfl (by omega) hM hPa hfr

theorem keeps_end {T : Tb} {h : Hs} {u v : Nat} {g : Nat → Int32} (hu : min (u + 1) 8 = v + 1) (hg : ∀ k, k < v → ∀ j, j < 43 → g (43 * k + j) = nI (sF T (h.drop (v - k)) j)) : ∀ k, k < min (u + 1) 8 → ∀ j, j < 43 → shB g (nF (sF T h)) (43 * v) 43 (43 * k + j) = nI (sF T (h.drop (min (u + 1) 8 - 1 - k)) j) := by
  intro k hk j hj
  rw [hu] at hk ⊢
  unfold shB
  by_cases e : k = v
  · subst e
    rw [if_pos (by omega), show 43 * k + j - 43 * k = j by omega, show k + 1 - 1 - k = 0 by omega]
    rfl
  · rw [if_neg (by omega), hg k (by omega) j hj, show v + 1 - 1 - k = v - k by omega]
set_option maxRecDepth 20000 in
theorem lp_keeps1 {σ0 : AHp} {tl kn ns : Nat} {at_ : Int32} {T : Tb} {h : Hs} {fp : Nat → Int32} (hSr0 : σ0 276 = some (iA 0 43 (nF (sF T h)))) (hPav : ∀ k, k < 8 → ∀ j, j < 43 → fp (43 * k + j) = nI (sF T (h.drop (8 - k)) j)) : ∀ (n k : Nat) (σ : AHp), 301 - k = n → k ≤ 301 → σ 272 = some (mdO tl 8 kn ns at_) → σ 277 = some (iA 0 344 (sh0 fp (fun j => fp (j + 43)) k)) → (∀ j, j ≠ 272 ∧ j ≠ 277 → σ j = σ0 j) → Run M_X11_keeps 11 [some (.ref 272), some (.int (nI k))] [] σ 0 0 (fun r σ => r = none ∧ σ 272 = some (mdO tl (min (8 + 1) 8) kn ns at_) ∧ (∃ fq, σ 277 = some (iA 0 344 fq) ∧ ∀ k, k < min (8 + 1) 8 → ∀ j, j < 43 → fq (43 * k + j) = nI (sF T (h.drop (min (8 + 1) 8 - 1 - k)) j)) ∧ ∀ j, j ≠ 272 ∧ j ≠ 277 → σ j = σ0 j) := by
  intro n
  induction n using Nat.strongRecOn
  rename_i n ih
  intro k σ hm hk hM hPa hfr
  refine R_iload_n a_X11_keeps_11 rfl ?_
  refine R_sipush (v := nI 301) a_X11_keeps_12 rfl ?_
  first | with_reducible refine R_icmp_ge_n a_X11_keeps_15 (by first | omega | exact Nat.lt_of_le_of_lt (inR_le _ _) (by decide) | exact Nat.lt_of_le_of_lt (bitN_le _ _) (by decide) | exact Nat.lt_of_le_of_lt (inI_le _ _ _) (by decide) | exact inI_le _ _ _ | exact inR_le _ _ | exact bitN_le _ _) (by first | omega | exact Nat.lt_of_le_of_lt (inR_le _ _) (by decide) | exact Nat.lt_of_le_of_lt (bitN_le _ _) (by decide) | exact Nat.lt_of_le_of_lt (inI_le _ _ _) (by decide) | exact inI_le _ _ _ | exact inR_le _ _ | exact bitN_le _ _) (fun h15 => ?_) (fun h15 => ?_) | refine R_icmp_ge a_X11_keeps_15 (fun h15 => ?_) (fun h15 => ?_)
  · skip
    have hke : k = 301 := by omega
    subst hke
    refine R_aload_n a_X11_keeps_39 rfl ?_
    refine R_dup a_X11_keeps_40 rfl ?_
    refine R_get a_X11_keeps_41 hM rfl ?_
    refine R_iconst (v := nI 1) a_X11_keeps_44 rfl ?_
    first | with_reducible refine R_isub_n a_X11_keeps_45 (by first | omega | exact Nat.lt_of_le_of_lt (inR_le _ _) (by decide) | exact Nat.lt_of_le_of_lt (bitN_le _ _) (by decide) | exact Nat.lt_of_le_of_lt (inI_le _ _ _) (by decide) | exact inI_le _ _ _ | exact inR_le _ _ | exact bitN_le _ _) ?_ | refine R_isub a_X11_keeps_45 ?_
    refine R_putiK (fs' := [_, _, _, _, _, _, _, _, _, _, _, _, _, _, _, _]) a_X11_keeps_46 hM rfl rfl (fun σ hM ho => ?_)
    have hPa := (ho _ (by omega)).trans hPa
    have hfr : ∀ j, j ≠ 272 ∧ j ≠ 277 → σ j = σ0 j := fun j hj => (ho j (by omega)).trans (hfr j hj)
    refine R_iconst (v := nI 0) a_X11_keeps_49 rfl ?_
    refine R_istore_n (ls' := [_, _]) a_X11_keeps_50 rfl rfl rfl ?_
    have hz := shB_z (sh0 fp (fun j => fp (j + 43)) 301) (nF (sF T h)) (43 * 7)
    rw [← hz] at hPa
    refine Run.eqQ (lp_keeps2 (v := 7) (by decide) hSr0 _ 0 σ rfl (by omega) hM hPa hfr) (fun r σ' hq => ⟨hq.1, hq.2.1, ⟨_, hq.2.2.1, keeps_end (u := 8) (v := 7) rfl (fun k hk j hj => ?_)⟩, hq.2.2.2⟩)
    rw [sh0_in _ _ (show 43 * k + j < 301 by omega)]
    show fp (43 * k + j + 43) = _
    rw [show 43 * k + j + 43 = 43 * (k + 1) + j by omega, hPav (k + 1) (by omega) j hj, show 8 - (k + 1) = 7 - k by omega]
  · skip
    refine R_aload_n a_X11_keeps_18 rfl ?_
    refine R_get a_X11_keeps_19 hM rfl ?_
    refine R_iload_n a_X11_keeps_22 rfl ?_
    refine R_aload_n a_X11_keeps_23 rfl ?_
    refine R_get a_X11_keeps_24 hM rfl ?_
    refine R_iload_n a_X11_keeps_27 rfl ?_
    refine R_bipush (v := nI 43) a_X11_keeps_28 rfl ?_
    first | with_reducible refine R_iadd_n a_X11_keeps_30 ?_ | refine R_iadd a_X11_keeps_30 ?_
    refine R_iald_n a_X11_keeps_31 hPa (by first | omega | exact Nat.lt_of_le_of_lt (inR_le _ _) (by decide) | exact Nat.lt_of_le_of_lt (bitN_le _ _) (by decide) | exact Nat.lt_of_le_of_lt (inI_le _ _ _) (by decide) | exact inI_le _ _ _ | exact inR_le _ _ | exact bitN_le _ _) (by decide) ?_
    refine R_top (sh0_out fp (fun j => fp (j + 43)) (show k ≤ k + 43 by omega)) ?_
    refine R_iastK a_X11_keeps_32 (by omega) hPa (by first | omega | exact Nat.lt_of_le_of_lt (inR_le _ _) (by decide) | exact Nat.lt_of_le_of_lt (bitN_le _ _) (by decide) | exact Nat.lt_of_le_of_lt (inI_le _ _ _) (by decide) | exact inI_le _ _ _ | exact inR_le _ _ | exact bitN_le _ _) (by decide) (fun σ hPa ho => ?_)
    have hM := (ho _ (by omega)).trans hM
    have hfr : ∀ j, j ≠ 272 ∧ j ≠ 277 → σ j = σ0 j := fun j hj => (ho j (by omega)).trans (hfr j hj)
    have he : upd (sh0 fp (fun j => fp (j + 43)) k) k (fp (k + 43)) = sh0 fp (fun j => fp (j + 43)) (k + 1) := sh0_up _ _ _
    rw [he] at hPa
    first | with_reducible refine R_iinc_n (ls' := [_, _]) a_X11_keeps_33 rfl rfl rfl rfl ?_ | refine R_iinc (ls' := [_, _]) a_X11_keeps_33 rfl rfl rfl rfl rfl ?_
    refine R_goto a_X11_keeps_36 ?_
    exact ih _ (show 301 - (k + 1) < n by omega) (k + 1) σ rfl (by omega) hM hPa hfr

set_option maxRecDepth 20000 in
theorem md_keeps {σ0 : AHp} {tl kn ns : Nat} {at_ : Int32} {T : Tb} {h : Hs} {u : Nat} {fp : Nat → Int32} (hM : σ0 272 = some (mdO tl u kn ns at_)) (hSr : σ0 276 = some (iA 0 43 (nF (sF T h)))) (hMPa : MPa σ0 T h u fp) (hu8 : u ≤ 8) : EvW M_X11_keeps [.ref 272] σ0 none (fun σ => σ 272 = some (mdO tl (min (u + 1) 8) kn ns at_) ∧ (∃ fq, σ 277 = some (iA 0 344 fq) ∧ ∀ k, k < min (u + 1) 8 → ∀ j, j < 43 → fq (43 * k + j) = nI (sF T (h.drop (min (u + 1) 8 - 1 - k)) j)) ∧ ∀ j, j ≠ 272 ∧ j ≠ 277 → σ j = σ0 j) := by
  obtain ⟨hPa, hPav⟩ := id hMPa
  refine Ev.of (ls := [_, _]) 1 (by decide) rfl rfl ?_
  refine R_aload_n a_X11_keeps_0 rfl ?_
  refine R_get a_X11_keeps_1 hM rfl ?_
  refine R_bipush (v := nI 8) a_X11_keeps_4 rfl ?_
  first | with_reducible refine R_icmp_ne_n a_X11_keeps_6 (by first | omega | exact Nat.lt_of_le_of_lt (inR_le _ _) (by decide) | exact Nat.lt_of_le_of_lt (bitN_le _ _) (by decide) | exact Nat.lt_of_le_of_lt (inI_le _ _ _) (by decide) | exact inI_le _ _ _ | exact inR_le _ _ | exact bitN_le _ _) (by first | omega | exact Nat.lt_of_le_of_lt (inR_le _ _) (by decide) | exact Nat.lt_of_le_of_lt (bitN_le _ _) (by decide) | exact Nat.lt_of_le_of_lt (inI_le _ _ _) (by decide) | exact inI_le _ _ _ | exact inR_le _ _ | exact bitN_le _ _) (fun h6 => ?_) (fun h6 => ?_) | refine R_icmp_ne a_X11_keeps_6 (fun h6 => ?_) (fun h6 => ?_)
  · skip
    refine R_iconst (v := nI 0) a_X11_keeps_49 rfl ?_
    refine R_istore_n (ls' := [_, _]) a_X11_keeps_50 rfl rfl rfl ?_
    have hz := shB_z fp (nF (sF T h)) (43 * u)
    rw [← hz] at hPa
    refine Run.eqQ (lp_keeps2 (v := u) (by omega) hSr _ 0 σ0 rfl (by omega) hM hPa (fun _ _ => rfl)) (fun r σ' hq => ⟨hq.1, ?_, ⟨_, hq.2.2.1, keeps_end (u := u) (v := u) (by omega) (fun k hk j hj => hPav k hk j hj)⟩, hq.2.2.2⟩)
    rw [show min (u + 1) 8 = u + 1 by omega]
    exact hq.2.1
  · skip
    subst h6
    refine R_iconst (v := nI 0) a_X11_keeps_9 rfl ?_
    refine R_istore_n (ls' := [_, _]) a_X11_keeps_10 rfl rfl rfl ?_
    have hz := sh0_z fp (fun j => fp (j + 43))
    rw [← hz] at hPa
    exact lp_keeps1 hSr hPav _ 0 σ0 rfl (by omega) hM hPa (fun _ _ => rfl)

theorem go_past {T : Tb} {h : Hs} {u : Nat} {c : Nat × Nat} {fq : Nat → Int32} (hq : ∀ k, k < min (u + 1) 8 → ∀ j, j < 43 → fq (43 * k + j) = nI (sF T (h.drop (min (u + 1) 8 - 1 - k)) j)) : ∀ k, k < min (u + 1) 8 → ∀ j, j < 43 → fq (43 * k + j) = nI (sF T ((c :: h).drop (min (u + 1) 8 - k)) j) := by
  intro k hk j hj
  rw [hq k hk j hj, show min (u + 1) 8 - k = (min (u + 1) 8 - 1 - k) + 1 by omega, List.drop_succ_cons]
theorem hAt_ok {T : Tb} {h : Hs} (hh : HsOk T h) (k : Nat) : CdOk T (hAt h k).1 ∧ CdOk T (hAt h k).2 := by
  unfold hAt
  by_cases q : k < h.length
  · rw [List.getD_eq_getElem?_getD, List.getElem?_eq_getElem q]
    exact hh _ (List.getElem_mem q)
  · rw [List.getD_eq_getElem?_getD, List.getElem?_eq_none (by omega)]
    exact ⟨Or.inl rfl, Or.inl rfl⟩
theorem CdOk.le {T : Tb} {c : Nat} (h : CdOk T c) : c ≤ 128 := by
  rcases h with q | q
  · omega
  · omega
set_option maxRecDepth 20000 in
theorem md_hush {σ0 : AHp} {U : Us} {m : Nat} (hC : MP σ0 U) (hU : UOk U m) (hm : m < 2 ^ 20) : EvW M_X11_hush [.ref 272] σ0 (some (.int ((zGo U 128 128).1))) (fun σ => MP σ ((zGo U 128 128).2) ∧ Fr σ0 σ 272 12) := by
  obtain ⟨at_, fx, ft, fd, fp, fi, fy, fw, fs, fb, fh, hM, hMX, hMT, hDr, hSr, hMPa, hMIm, hMSy, hWy, hSm, hBh, hHd⟩ := id hC
  obtain ⟨hTx, hTxv⟩ := id hMX
  obtain ⟨hTo, t0, t1, t2, t3, t28, tkd, thn, tkn, thf⟩ := id hMT
  obtain ⟨hPa, hPav⟩ := id hMPa
  obtain ⟨hIm, hImv⟩ := id hMIm
  obtain ⟨hSy, hSyv⟩ := id hMSy
  have ok := hU.T
  obtain ⟨g3, g8, n1, n6, lw, stg, son, kd4, hn10, kn63, hf4⟩ := id ok
  have hn64 : 2 ^ U.T.n ≤ 2 ^ 6 := Nat.pow_le_pow_right (by decide) n6
  have hg256 : 2 ^ U.T.g ≤ 2 ^ 8 := Nat.pow_le_pow_right (by decide) g8
  have hlen := hU.len
  have hu8 := hU.u8
  have hul := hU.ul
  have hkn2 := hU.kn2
  have hsg := saltF_lt ok U.h
  have hfr : ∀ j, j < 272 ∨ 284 ≤ j → σ0 j = σ0 j := fun _ _ => rfl
  refine Ev.of (ls := [_]) 0 (by decide) rfl rfl ?_
  refine R_aload_n a_X11_hush_0 rfl ?_
  refine R_callVv a_X11_hush_1 hM (md_keeps hM hSr hMPa hu8) rfl rfl rfl rfl rfl (fun σ hP => ?_)
  obtain ⟨hM, ⟨fq, hPa, hPav⟩, hf⟩ := hP
  have hTx := (hf 273 (by omega)).trans hTx
  have hTo := (hf 274 (by omega)).trans hTo
  have hDr := (hf 275 (by omega)).trans hDr
  have hSr := (hf 276 (by omega)).trans hSr
  have hIm := (hf 278 (by omega)).trans hIm
  have hSy := (hf 279 (by omega)).trans hSy
  have hWy := (hf 280 (by omega)).trans hWy
  have hSm := (hf 281 (by omega)).trans hSm
  have hBh := (hf 282 (by omega)).trans hBh
  have hHd := (hf 283 (by omega)).trans hHd
  have hfr : ∀ j, j < 272 ∨ 284 ≤ j → σ j = σ0 j := fun j hj => (hf j (by omega)).trans (hfr j hj)
  refine R_aload_n a_X11_hush_4 rfl ?_
  refine R_sipush (v := nI 128) a_X11_hush_5 rfl ?_
  refine R_sipush (v := nI 128) a_X11_hush_8 rfl ?_
  refine R_callVv a_X11_hush_11 hM (md_goes hM ⟨hTo, t0, t1, t2, t3, t28, tkd, thn, tkn, thf⟩ ok (Or.inl rfl) (Or.inl rfl) hSr) rfl rfl rfl rfl rfl (fun σ hP => ?_)
  obtain ⟨hSr, hf⟩ := hP
  have hM := (hf 272 (by omega)).trans hM
  have hTx := (hf 273 (by omega)).trans hTx
  have hTo := (hf 274 (by omega)).trans hTo
  have hDr := (hf 275 (by omega)).trans hDr
  have hPa := (hf 277 (by omega)).trans hPa
  have hIm := (hf 278 (by omega)).trans hIm
  have hSy := (hf 279 (by omega)).trans hSy
  have hWy := (hf 280 (by omega)).trans hWy
  have hSm := (hf 281 (by omega)).trans hSm
  have hBh := (hf 282 (by omega)).trans hBh
  have hHd := (hf 283 (by omega)).trans hHd
  have hfr : ∀ j, j < 272 ∨ 284 ≤ j → σ j = σ0 j := fun j hj => (hf j (by omega)).trans (hfr j hj)
  refine R_aload_n a_X11_hush_14 rfl ?_
  refine R_get a_X11_hush_15 hM rfl ?_
  refine R_iconst (v := nI 0) a_X11_hush_18 rfl ?_
  refine R_iald_n a_X11_hush_19 hSr (by first | omega | exact Nat.lt_of_le_of_lt (inR_le _ _) (by decide) | exact Nat.lt_of_le_of_lt (bitN_le _ _) (by decide) | exact Nat.lt_of_le_of_lt (inI_le _ _ _) (by decide) | exact inI_le _ _ _ | exact inR_le _ _ | exact bitN_le _ _) (by decide) ?_
  refine R_top (congrArg nI (sF_0 _ _)) ?_
  refine R_iret a_X11_hush_20 rfl ?_
  exact ⟨rfl, ⟨_, _, _, _, _, _, _, _, _, _, _, hM, ⟨hTx, hTxv⟩, ⟨hTo, t0, t1, t2, t3, t28, tkd, thn, tkn, thf⟩, hDr, hSr, ⟨hPa, go_past hPav⟩, ⟨hIm, hImv⟩, ⟨hSy, hSyv⟩, hWy, hSm, hBh, hHd⟩, fun j hj => hfr j (by omega)⟩

set_option maxRecDepth 20000 in
theorem md_say {σ0 : AHp} {U : Us} {m : Nat} (hC : MP σ0 U) (hU : UOk U m) (hm : m < 2 ^ 20) {x y : Int32} {b : Nat} (hb : b ≤ 1) : EvW M_X11_say [.ref 272, .int x, .int y, .int (nI b)] σ0 (some (.int ((zSay U x y b).1))) (fun σ => MP σ ((zSay U x y b).2) ∧ Fr σ0 σ 272 12) := by
  obtain ⟨at_, fx, ft, fd, fp, fi, fy, fw, fs, fb, fh, hM, hMX, hMT, hDr, hSr, hMPa, hMIm, hMSy, hWy, hSm, hBh, hHd⟩ := id hC
  obtain ⟨hTx, hTxv⟩ := id hMX
  obtain ⟨hTo, t0, t1, t2, t3, t28, tkd, thn, tkn, thf⟩ := id hMT
  obtain ⟨hPa, hPav⟩ := id hMPa
  obtain ⟨hIm, hImv⟩ := id hMIm
  obtain ⟨hSy, hSyv⟩ := id hMSy
  have ok := hU.T
  obtain ⟨g3, g8, n1, n6, lw, stg, son, kd4, hn10, kn63, hf4⟩ := id ok
  have hn64 : 2 ^ U.T.n ≤ 2 ^ 6 := Nat.pow_le_pow_right (by decide) n6
  have hg256 : 2 ^ U.T.g ≤ 2 ^ 8 := Nat.pow_le_pow_right (by decide) g8
  have hlen := hU.len
  have hu8 := hU.u8
  have hul := hU.ul
  have hkn2 := hU.kn2
  have hsg := saltF_lt ok U.h
  have hfr : ∀ j, j < 272 ∨ 284 ≤ j → σ0 j = σ0 j := fun _ _ => rfl
  refine Ev.of (ls := [_, _, _, _]) 0 (by decide) rfl rfl ?_
  refine R_aload_n a_X11_say_0 rfl ?_
  refine R_iload_n a_X11_say_1 rfl ?_
  refine R_callVp a_X11_say_2 hM (md_isGuest hM hMT ok) rfl rfl rfl rfl rfl ?_
  first | with_reducible refine R_if_eq_n a_X11_say_5 (by first | omega | exact Nat.lt_of_le_of_lt (inR_le _ _) (by decide) | exact Nat.lt_of_le_of_lt (bitN_le _ _) (by decide) | exact Nat.lt_of_le_of_lt (inI_le _ _ _) (by decide) | exact inI_le _ _ _ | exact inR_le _ _ | exact bitN_le _ _) (fun h5 => ?_) (fun h5 => ?_) | refine R_if_eq a_X11_say_5 (fun h5 => ?_) (fun h5 => ?_)
  · skip
    have hz : zSay U x y b = bad U := by unfold zSay; rw [gd_out h5]
    refine R_iconst (v := (-1)) a_X11_say_16 rfl ?_
    refine R_iret a_X11_say_17 rfl ?_
    rw [hz]
    exact ⟨rfl, hC, Fr.rf _ _ _⟩
  · skip
    obtain ⟨i, hi, rfl⟩ := inR_nz (by omega) h5
    refine R_aload_n a_X11_say_8 rfl ?_
    refine R_iload_n a_X11_say_9 rfl ?_
    refine R_callVp a_X11_say_10 hM (md_isThing hM hMT ok) rfl rfl rfl rfl rfl ?_
    first | with_reducible refine R_if_ne_n a_X11_say_13 (by first | omega | exact Nat.lt_of_le_of_lt (inR_le _ _) (by decide) | exact Nat.lt_of_le_of_lt (bitN_le _ _) (by decide) | exact Nat.lt_of_le_of_lt (inI_le _ _ _) (by decide) | exact inI_le _ _ _ | exact inR_le _ _ | exact bitN_le _ _) (fun h13 => ?_) (fun h13 => ?_) | refine R_if_ne a_X11_say_13 (fun h13 => ?_) (fun h13 => ?_)
    · skip
      obtain ⟨k, hk, rfl⟩ := inR_nz (by omega) h13
      have hz : zSay U (nI i) (nI k) b = zGo U (sayC i k b) 128 := by unfold zSay; rw [gd_in hi (by omega), gd_in hk (by omega)]
      refine R_aload_n a_X11_say_18 rfl ?_
      refine R_callVv a_X11_say_19 hM (md_keeps hM hSr hMPa hu8) rfl rfl rfl rfl rfl (fun σ hP => ?_)
      obtain ⟨hM, ⟨fq, hPa, hPav⟩, hf⟩ := hP
      have hTx := (hf 273 (by omega)).trans hTx
      have hTo := (hf 274 (by omega)).trans hTo
      have hDr := (hf 275 (by omega)).trans hDr
      have hSr := (hf 276 (by omega)).trans hSr
      have hIm := (hf 278 (by omega)).trans hIm
      have hSy := (hf 279 (by omega)).trans hSy
      have hWy := (hf 280 (by omega)).trans hWy
      have hSm := (hf 281 (by omega)).trans hSm
      have hBh := (hf 282 (by omega)).trans hBh
      have hHd := (hf 283 (by omega)).trans hHd
      have hfr : ∀ j, j < 272 ∨ 284 ≤ j → σ j = σ0 j := fun j hj => (hf j (by omega)).trans (hfr j hj)
      refine R_aload_n a_X11_say_22 rfl ?_
      refine R_iload_n a_X11_say_23 rfl ?_
      refine R_iload_n a_X11_say_24 rfl ?_
      refine R_iload_n a_X11_say_25 rfl ?_
      refine R_callSp a_X11_say_26 (md_saying hb) rfl rfl rfl rfl rfl ?_
      refine R_sipush (v := nI 128) a_X11_say_29 rfl ?_
      refine R_callVv a_X11_say_32 hM (md_goes hM ⟨hTo, t0, t1, t2, t3, t28, tkd, thn, tkn, thf⟩ ok (CdOk.say ok hi hk hb) (Or.inl rfl) hSr) rfl rfl rfl rfl rfl (fun σ hP => ?_)
      obtain ⟨hSr, hf⟩ := hP
      have hM := (hf 272 (by omega)).trans hM
      have hTx := (hf 273 (by omega)).trans hTx
      have hTo := (hf 274 (by omega)).trans hTo
      have hDr := (hf 275 (by omega)).trans hDr
      have hPa := (hf 277 (by omega)).trans hPa
      have hIm := (hf 278 (by omega)).trans hIm
      have hSy := (hf 279 (by omega)).trans hSy
      have hWy := (hf 280 (by omega)).trans hWy
      have hSm := (hf 281 (by omega)).trans hSm
      have hBh := (hf 282 (by omega)).trans hBh
      have hHd := (hf 283 (by omega)).trans hHd
      have hfr : ∀ j, j < 272 ∨ 284 ≤ j → σ j = σ0 j := fun j hj => (hf j (by omega)).trans (hfr j hj)
      refine R_aload_n a_X11_say_35 rfl ?_
      refine R_get a_X11_say_36 hM rfl ?_
      refine R_iconst (v := nI 0) a_X11_say_39 rfl ?_
      refine R_iald_n a_X11_say_40 hSr (by first | omega | exact Nat.lt_of_le_of_lt (inR_le _ _) (by decide) | exact Nat.lt_of_le_of_lt (bitN_le _ _) (by decide) | exact Nat.lt_of_le_of_lt (inI_le _ _ _) (by decide) | exact inI_le _ _ _ | exact inR_le _ _ | exact bitN_le _ _) (by decide) ?_
      refine R_top (congrArg nI (sF_0 _ _)) ?_
      refine R_iret a_X11_say_41 rfl ?_
      rw [hz]
      exact ⟨rfl, ⟨_, _, _, _, _, _, _, _, _, _, _, hM, ⟨hTx, hTxv⟩, ⟨hTo, t0, t1, t2, t3, t28, tkd, thn, tkn, thf⟩, hDr, hSr, ⟨hPa, go_past hPav⟩, ⟨hIm, hImv⟩, ⟨hSy, hSyv⟩, hWy, hSm, hBh, hHd⟩, fun j hj => hfr j (by omega)⟩
    · skip
      have hz : zSay U (nI i) y b = bad U := by unfold zSay; rw [gd_in hi (by omega), gd_out h13]
      refine R_iconst (v := (-1)) a_X11_say_16 rfl ?_
      refine R_iret a_X11_say_17 rfl ?_
      rw [hz]
      exact ⟨rfl, hC, Fr.rf _ _ _⟩

set_option maxRecDepth 20000 in
theorem md_sayBoth {σ0 : AHp} {U : Us} {m : Nat} (hC : MP σ0 U) (hU : UOk U m) (hm : m < 2 ^ 20) {x y x' y' : Int32} {b b' : Nat} (hb : b ≤ 1) (hb' : b' ≤ 1) : EvW M_X11_sayBoth [.ref 272, .int x, .int y, .int (nI b), .int x', .int y', .int (nI b')] σ0 (some (.int ((zBoth U x y b x' y' b').1))) (fun σ => MP σ ((zBoth U x y b x' y' b').2) ∧ Fr σ0 σ 272 12) := by
  obtain ⟨at_, fx, ft, fd, fp, fi, fy, fw, fs, fb, fh, hM, hMX, hMT, hDr, hSr, hMPa, hMIm, hMSy, hWy, hSm, hBh, hHd⟩ := id hC
  obtain ⟨hTx, hTxv⟩ := id hMX
  obtain ⟨hTo, t0, t1, t2, t3, t28, tkd, thn, tkn, thf⟩ := id hMT
  obtain ⟨hPa, hPav⟩ := id hMPa
  obtain ⟨hIm, hImv⟩ := id hMIm
  obtain ⟨hSy, hSyv⟩ := id hMSy
  have ok := hU.T
  obtain ⟨g3, g8, n1, n6, lw, stg, son, kd4, hn10, kn63, hf4⟩ := id ok
  have hn64 : 2 ^ U.T.n ≤ 2 ^ 6 := Nat.pow_le_pow_right (by decide) n6
  have hg256 : 2 ^ U.T.g ≤ 2 ^ 8 := Nat.pow_le_pow_right (by decide) g8
  have hlen := hU.len
  have hu8 := hU.u8
  have hul := hU.ul
  have hkn2 := hU.kn2
  have hsg := saltF_lt ok U.h
  have hfr : ∀ j, j < 272 ∨ 284 ≤ j → σ0 j = σ0 j := fun _ _ => rfl
  refine Ev.of (ls := [_, _, _, _, _, _, _]) 0 (by decide) rfl rfl ?_
  refine R_aload_n a_X11_sayBoth_0 rfl ?_
  refine R_iload_n a_X11_sayBoth_1 rfl ?_
  refine R_callVp a_X11_sayBoth_2 hM (md_isGuest hM hMT ok) rfl rfl rfl rfl rfl ?_
  first | with_reducible refine R_if_eq_n a_X11_sayBoth_5 (by first | omega | exact Nat.lt_of_le_of_lt (inR_le _ _) (by decide) | exact Nat.lt_of_le_of_lt (bitN_le _ _) (by decide) | exact Nat.lt_of_le_of_lt (inI_le _ _ _) (by decide) | exact inI_le _ _ _ | exact inR_le _ _ | exact bitN_le _ _) (fun h5 => ?_) (fun h5 => ?_) | refine R_if_eq a_X11_sayBoth_5 (fun h5 => ?_) (fun h5 => ?_)
  · skip
    have hz : zBoth U x y b x' y' b' = bad U := by unfold zBoth; rw [gd_out h5]
    refine R_iconst (v := (-1)) a_X11_sayBoth_40 rfl ?_
    refine R_iret a_X11_sayBoth_41 rfl ?_
    rw [hz]
    exact ⟨rfl, hC, Fr.rf _ _ _⟩
  · skip
    obtain ⟨i, hi, rfl⟩ := inR_nz (by omega) h5
    refine R_aload_n a_X11_sayBoth_8 rfl ?_
    refine R_iload_n a_X11_sayBoth_9 rfl ?_
    refine R_callVp a_X11_sayBoth_10 hM (md_isThing hM hMT ok) rfl rfl rfl rfl rfl ?_
    first | with_reducible refine R_if_eq_n a_X11_sayBoth_13 (by first | omega | exact Nat.lt_of_le_of_lt (inR_le _ _) (by decide) | exact Nat.lt_of_le_of_lt (bitN_le _ _) (by decide) | exact Nat.lt_of_le_of_lt (inI_le _ _ _) (by decide) | exact inI_le _ _ _ | exact inR_le _ _ | exact bitN_le _ _) (fun h13 => ?_) (fun h13 => ?_) | refine R_if_eq a_X11_sayBoth_13 (fun h13 => ?_) (fun h13 => ?_)
    · skip
      have hz : zBoth U (nI i) y b x' y' b' = bad U := by
        unfold zBoth
        rw [gd_in hi (by omega)]
        rcases inR_split x' (g := U.T.g) (by omega) with ⟨q, -⟩ | ⟨-, j, hj, rfl⟩
        · rw [gd_out q]
        · rw [gd_in hj (by omega), gd_out h13, ite_self]
      refine R_iconst (v := (-1)) a_X11_sayBoth_40 rfl ?_
      refine R_iret a_X11_sayBoth_41 rfl ?_
      rw [hz]
      exact ⟨rfl, hC, Fr.rf _ _ _⟩
    · skip
      obtain ⟨k, hk, rfl⟩ := inR_nz (by omega) h13
      refine R_aload_n a_X11_sayBoth_16 rfl ?_
      refine R_iload a_X11_sayBoth_17 rfl ?_
      refine R_callVp a_X11_sayBoth_19 hM (md_isGuest hM hMT ok) rfl rfl rfl rfl rfl ?_
      first | with_reducible refine R_if_eq_n a_X11_sayBoth_22 (by first | omega | exact Nat.lt_of_le_of_lt (inR_le _ _) (by decide) | exact Nat.lt_of_le_of_lt (bitN_le _ _) (by decide) | exact Nat.lt_of_le_of_lt (inI_le _ _ _) (by decide) | exact inI_le _ _ _ | exact inR_le _ _ | exact bitN_le _ _) (fun h22 => ?_) (fun h22 => ?_) | refine R_if_eq a_X11_sayBoth_22 (fun h22 => ?_) (fun h22 => ?_)
      · skip
        have hz : zBoth U (nI i) (nI k) b x' y' b' = bad U := by unfold zBoth; rw [gd_in hi (by omega), gd_out h22]
        refine R_iconst (v := (-1)) a_X11_sayBoth_40 rfl ?_
        refine R_iret a_X11_sayBoth_41 rfl ?_
        rw [hz]
        exact ⟨rfl, hC, Fr.rf _ _ _⟩
      · skip
        obtain ⟨j, hj, rfl⟩ := inR_nz (by omega) h22
        refine R_aload_n a_X11_sayBoth_25 rfl ?_
        refine R_iload a_X11_sayBoth_26 rfl ?_
        refine R_callVp a_X11_sayBoth_28 hM (md_isThing hM hMT ok) rfl rfl rfl rfl rfl ?_
        first | with_reducible refine R_if_eq_n a_X11_sayBoth_31 (by first | omega | exact Nat.lt_of_le_of_lt (inR_le _ _) (by decide) | exact Nat.lt_of_le_of_lt (bitN_le _ _) (by decide) | exact Nat.lt_of_le_of_lt (inI_le _ _ _) (by decide) | exact inI_le _ _ _ | exact inR_le _ _ | exact bitN_le _ _) (fun h31 => ?_) (fun h31 => ?_) | refine R_if_eq a_X11_sayBoth_31 (fun h31 => ?_) (fun h31 => ?_)
        · skip
          have hz : zBoth U (nI i) (nI k) b (nI j) y' b' = bad U := by unfold zBoth; rw [gd_in hi (by omega), gd_in hj (by omega), gd_in hk (by omega), gd_out h31, ite_self]
          refine R_iconst (v := (-1)) a_X11_sayBoth_40 rfl ?_
          refine R_iret a_X11_sayBoth_41 rfl ?_
          rw [hz]
          exact ⟨rfl, hC, Fr.rf _ _ _⟩
        · skip
          obtain ⟨s, hs, rfl⟩ := inR_nz (by omega) h31
          refine R_iload_n a_X11_sayBoth_34 rfl ?_
          refine R_iload a_X11_sayBoth_35 rfl ?_
          first | with_reducible refine R_icmp_ne_n a_X11_sayBoth_37 (by first | omega | exact Nat.lt_of_le_of_lt (inR_le _ _) (by decide) | exact Nat.lt_of_le_of_lt (bitN_le _ _) (by decide) | exact Nat.lt_of_le_of_lt (inI_le _ _ _) (by decide) | exact inI_le _ _ _ | exact inR_le _ _ | exact bitN_le _ _) (by first | omega | exact Nat.lt_of_le_of_lt (inR_le _ _) (by decide) | exact Nat.lt_of_le_of_lt (bitN_le _ _) (by decide) | exact Nat.lt_of_le_of_lt (inI_le _ _ _) (by decide) | exact inI_le _ _ _ | exact inR_le _ _ | exact bitN_le _ _) (fun h37 => ?_) (fun h37 => ?_) | refine R_icmp_ne a_X11_sayBoth_37 (fun h37 => ?_) (fun h37 => ?_)
          · skip
            have hz : zBoth U (nI i) (nI k) b (nI j) (nI s) b' = zGo U (sayC i k b) (sayC j s b') := by unfold zBoth; rw [gd_in hi (by omega), gd_in hj (by omega), if_neg h37, gd_in hk (by omega), gd_in hs (by omega)]
            refine R_aload_n a_X11_sayBoth_42 rfl ?_
            refine R_callVv a_X11_sayBoth_43 hM (md_keeps hM hSr hMPa hu8) rfl rfl rfl rfl rfl (fun σ hP => ?_)
            obtain ⟨hM, ⟨fq, hPa, hPav⟩, hf⟩ := hP
            have hTx := (hf 273 (by omega)).trans hTx
            have hTo := (hf 274 (by omega)).trans hTo
            have hDr := (hf 275 (by omega)).trans hDr
            have hSr := (hf 276 (by omega)).trans hSr
            have hIm := (hf 278 (by omega)).trans hIm
            have hSy := (hf 279 (by omega)).trans hSy
            have hWy := (hf 280 (by omega)).trans hWy
            have hSm := (hf 281 (by omega)).trans hSm
            have hBh := (hf 282 (by omega)).trans hBh
            have hHd := (hf 283 (by omega)).trans hHd
            have hfr : ∀ j, j < 272 ∨ 284 ≤ j → σ j = σ0 j := fun j hj => (hf j (by omega)).trans (hfr j hj)
            refine R_aload_n a_X11_sayBoth_46 rfl ?_
            refine R_iload_n a_X11_sayBoth_47 rfl ?_
            refine R_iload_n a_X11_sayBoth_48 rfl ?_
            refine R_iload_n a_X11_sayBoth_49 rfl ?_
            refine R_callSp a_X11_sayBoth_50 (md_saying hb) rfl rfl rfl rfl rfl ?_
            refine R_iload a_X11_sayBoth_53 rfl ?_
            refine R_iload a_X11_sayBoth_55 rfl ?_
            refine R_iload a_X11_sayBoth_57 rfl ?_
            refine R_callSp a_X11_sayBoth_59 (md_saying hb') rfl rfl rfl rfl rfl ?_
            refine R_callVv a_X11_sayBoth_62 hM (md_goes hM ⟨hTo, t0, t1, t2, t3, t28, tkd, thn, tkn, thf⟩ ok (CdOk.say ok hi hk hb) (CdOk.say ok hj hs hb') hSr) rfl rfl rfl rfl rfl (fun σ hP => ?_)
            obtain ⟨hSr, hf⟩ := hP
            have hM := (hf 272 (by omega)).trans hM
            have hTx := (hf 273 (by omega)).trans hTx
            have hTo := (hf 274 (by omega)).trans hTo
            have hDr := (hf 275 (by omega)).trans hDr
            have hPa := (hf 277 (by omega)).trans hPa
            have hIm := (hf 278 (by omega)).trans hIm
            have hSy := (hf 279 (by omega)).trans hSy
            have hWy := (hf 280 (by omega)).trans hWy
            have hSm := (hf 281 (by omega)).trans hSm
            have hBh := (hf 282 (by omega)).trans hBh
            have hHd := (hf 283 (by omega)).trans hHd
            have hfr : ∀ j, j < 272 ∨ 284 ≤ j → σ j = σ0 j := fun j hj => (hf j (by omega)).trans (hfr j hj)
            refine R_aload_n a_X11_sayBoth_65 rfl ?_
            refine R_get a_X11_sayBoth_66 hM rfl ?_
            refine R_iconst (v := nI 0) a_X11_sayBoth_69 rfl ?_
            refine R_iald_n a_X11_sayBoth_70 hSr (by first | omega | exact Nat.lt_of_le_of_lt (inR_le _ _) (by decide) | exact Nat.lt_of_le_of_lt (bitN_le _ _) (by decide) | exact Nat.lt_of_le_of_lt (inI_le _ _ _) (by decide) | exact inI_le _ _ _ | exact inR_le _ _ | exact bitN_le _ _) (by decide) ?_
            refine R_top (congrArg nI (sF_0 _ _)) ?_
            refine R_iret a_X11_sayBoth_71 rfl ?_
            rw [hz]
            exact ⟨rfl, ⟨_, _, _, _, _, _, _, _, _, _, _, hM, ⟨hTx, hTxv⟩, ⟨hTo, t0, t1, t2, t3, t28, tkd, thn, tkn, thf⟩, hDr, hSr, ⟨hPa, go_past hPav⟩, ⟨hIm, hImv⟩, ⟨hSy, hSyv⟩, hWy, hSm, hBh, hHd⟩, fun j hj => hfr j (by omega)⟩
          · skip
            have hz : zBoth U (nI i) (nI k) b (nI j) (nI s) b' = bad U := by unfold zBoth; rw [gd_in hi (by omega), gd_in hj (by omega), if_pos h37]
            refine R_iconst (v := (-1)) a_X11_sayBoth_40 rfl ?_
            refine R_iret a_X11_sayBoth_41 rfl ?_
            rw [hz]
            exact ⟨rfl, hC, Fr.rf _ _ _⟩

set_option maxRecDepth 20000 in
theorem lp_undo {σ0 : AHp} {tl v kn ns : Nat} {at_ : Int32} {T : Tb} {f0 fp : Nat → Int32} {g : Hs} (hv : v < 8) (hM0 : σ0 272 = some (mdO tl v kn ns at_)) (hPa0 : σ0 277 = some (iA 0 344 fp)) (hg : ∀ j, j < 43 → fp (43 * v + j) = nI (sF T g j)) : ∀ (n k : Nat) (σ : AHp), 43 - k = n → k ≤ 43 → σ 276 = some (iA 0 43 (sh0 f0 (fun j => fp (43 * v + j)) k)) → (∀ j, j ≠ 276 → σ j = σ0 j) → Run M_X11_undo 22 [some (.ref 272), some (.int (nI k))] [] σ 0 0 (fun r σ => r = some (.int (nI v)) ∧ σ 276 = some (iA 0 43 (nF (sF T g))) ∧ ∀ j, j ≠ 276 → σ j = σ0 j) := by
  intro n
  induction n using Nat.strongRecOn
  rename_i n ih
  intro k σ hm hk hSq hfr
  have hM := (hfr 272 (by omega)).trans hM0
  have hPa := (hfr 277 (by omega)).trans hPa0
  refine R_iload_n a_X11_undo_22 rfl ?_
  refine R_bipush (v := nI 43) a_X11_undo_23 rfl ?_
  first | with_reducible refine R_icmp_ge_n a_X11_undo_25 (by first | omega | exact Nat.lt_of_le_of_lt (inR_le _ _) (by decide) | exact Nat.lt_of_le_of_lt (bitN_le _ _) (by decide) | exact Nat.lt_of_le_of_lt (inI_le _ _ _) (by decide) | exact inI_le _ _ _ | exact inR_le _ _ | exact bitN_le _ _) (by first | omega | exact Nat.lt_of_le_of_lt (inR_le _ _) (by decide) | exact Nat.lt_of_le_of_lt (bitN_le _ _) (by decide) | exact Nat.lt_of_le_of_lt (inI_le _ _ _) (by decide) | exact inI_le _ _ _ | exact inR_le _ _ | exact bitN_le _ _) (fun h25 => ?_) (fun h25 => ?_) | refine R_icmp_ge a_X11_undo_25 (fun h25 => ?_) (fun h25 => ?_)
  · skip
    have hke : k = 43 := by omega
    subst hke
    have hfr1 := hfr
    refine R_ext (nF (sF T g)) (by decide) hSq (fun j hj => by rw [sh0_in _ _ hj]; exact hg j hj) (fun σ hSq ho => ?_)
    have hfr : ∀ j, j ≠ 276 → σ j = σ0 j := fun j hj => (ho j hj).trans (hfr1 j hj)
    have hM := (ho 272 (by omega)).trans hM
    refine R_aload_n a_X11_undo_54 rfl ?_
    refine R_get a_X11_undo_55 hM rfl ?_
    refine R_iret a_X11_undo_58 rfl ?_
    exact ⟨rfl, hSq, hfr⟩
  · skip
    refine R_aload_n a_X11_undo_28 rfl ?_
    refine R_get a_X11_undo_29 hM rfl ?_
    refine R_iload_n a_X11_undo_32 rfl ?_
    refine R_aload_n a_X11_undo_33 rfl ?_
    refine R_get a_X11_undo_34 hM rfl ?_
    refine R_bipush (v := nI 43) a_X11_undo_37 rfl ?_
    refine R_aload_n a_X11_undo_39 rfl ?_
    refine R_get a_X11_undo_40 hM rfl ?_
    first | with_reducible refine R_imul_n a_X11_undo_43 ?_ | refine R_imul a_X11_undo_43 ?_
    refine R_iload_n a_X11_undo_44 rfl ?_
    first | with_reducible refine R_iadd_n a_X11_undo_45 ?_ | refine R_iadd a_X11_undo_45 ?_
    refine R_iald_n a_X11_undo_46 hPa (by first | omega | exact Nat.lt_of_le_of_lt (inR_le _ _) (by decide) | exact Nat.lt_of_le_of_lt (bitN_le _ _) (by decide) | exact Nat.lt_of_le_of_lt (inI_le _ _ _) (by decide) | exact inI_le _ _ _ | exact inR_le _ _ | exact bitN_le _ _) (by decide) ?_
    refine R_iastK a_X11_undo_47 (by omega) hSq (by first | omega | exact Nat.lt_of_le_of_lt (inR_le _ _) (by decide) | exact Nat.lt_of_le_of_lt (bitN_le _ _) (by decide) | exact Nat.lt_of_le_of_lt (inI_le _ _ _) (by decide) | exact inI_le _ _ _ | exact inR_le _ _ | exact bitN_le _ _) (by decide) (fun σ hSq ho => ?_)
    have hM := (ho _ (by omega)).trans hM
    have hPa := (ho _ (by omega)).trans hPa
    have hfr : ∀ j, j ≠ 276 → σ j = σ0 j := fun j hj => (ho j (by omega)).trans (hfr j hj)
    have he : upd (sh0 f0 (fun j => fp (43 * v + j)) k) k (fp (43 * v + k)) = sh0 f0 (fun j => fp (43 * v + j)) (k + 1) := sh0_up _ _ _
    rw [he] at hSq
    first | with_reducible refine R_iinc_n (ls' := [_, _]) a_X11_undo_48 rfl rfl rfl rfl ?_ | refine R_iinc (ls' := [_, _]) a_X11_undo_48 rfl rfl rfl rfl rfl ?_
    refine R_goto a_X11_undo_51 ?_
    exact ih _ (show 43 - (k + 1) < n by omega) (k + 1) σ rfl (by omega) hSq hfr

set_option maxRecDepth 20000 in
theorem md_undo {σ0 : AHp} {U : Us} {m : Nat} (hC : MP σ0 U) (hU : UOk U m) (hm : m < 2 ^ 20) : EvW M_X11_undo [.ref 272] σ0 (some (.int ((zUndo U).1))) (fun σ => MP σ ((zUndo U).2) ∧ Fr σ0 σ 272 12) := by
  obtain ⟨at_, fx, ft, fd, fp, fi, fy, fw, fs, fb, fh, hM, hMX, hMT, hDr, hSr, hMPa, hMIm, hMSy, hWy, hSm, hBh, hHd⟩ := id hC
  obtain ⟨hTx, hTxv⟩ := id hMX
  obtain ⟨hTo, t0, t1, t2, t3, t28, tkd, thn, tkn, thf⟩ := id hMT
  obtain ⟨hPa, hPav⟩ := id hMPa
  obtain ⟨hIm, hImv⟩ := id hMIm
  obtain ⟨hSy, hSyv⟩ := id hMSy
  have ok := hU.T
  obtain ⟨g3, g8, n1, n6, lw, stg, son, kd4, hn10, kn63, hf4⟩ := id ok
  have hn64 : 2 ^ U.T.n ≤ 2 ^ 6 := Nat.pow_le_pow_right (by decide) n6
  have hg256 : 2 ^ U.T.g ≤ 2 ^ 8 := Nat.pow_le_pow_right (by decide) g8
  have hlen := hU.len
  have hu8 := hU.u8
  have hul := hU.ul
  have hkn2 := hU.kn2
  have hsg := saltF_lt ok U.h
  have hfr : ∀ j, j < 272 ∨ 284 ≤ j → σ0 j = σ0 j := fun _ _ => rfl
  refine Ev.of (ls := [_, _]) 1 (by decide) rfl rfl ?_
  refine R_aload_n a_X11_undo_0 rfl ?_
  refine R_get a_X11_undo_1 hM rfl ?_
  first | with_reducible refine R_if_ne_n a_X11_undo_4 (by first | omega | exact Nat.lt_of_le_of_lt (inR_le _ _) (by decide) | exact Nat.lt_of_le_of_lt (bitN_le _ _) (by decide) | exact Nat.lt_of_le_of_lt (inI_le _ _ _) (by decide) | exact inI_le _ _ _ | exact inR_le _ _ | exact bitN_le _ _) (fun h4 => ?_) (fun h4 => ?_) | refine R_if_ne a_X11_undo_4 (fun h4 => ?_) (fun h4 => ?_)
  · skip
    have hz : zUndo U = (nI (U.u - 1), (U.tf, U.tl, U.T, U.D, U.h.tail, U.u - 1, U.2.2.2.2.2.2)) := by unfold zUndo; rw [if_neg h4]
    refine R_aload_n a_X11_undo_10 rfl ?_
    refine R_dup a_X11_undo_11 rfl ?_
    refine R_get a_X11_undo_12 hM rfl ?_
    refine R_iconst (v := nI 1) a_X11_undo_15 rfl ?_
    first | with_reducible refine R_isub_n a_X11_undo_16 (by first | omega | exact Nat.lt_of_le_of_lt (inR_le _ _) (by decide) | exact Nat.lt_of_le_of_lt (bitN_le _ _) (by decide) | exact Nat.lt_of_le_of_lt (inI_le _ _ _) (by decide) | exact inI_le _ _ _ | exact inR_le _ _ | exact bitN_le _ _) ?_ | refine R_isub a_X11_undo_16 ?_
    refine R_putiK (fs' := [_, _, _, _, _, _, _, _, _, _, _, _, _, _, _, _]) a_X11_undo_17 hM rfl rfl (fun σ hM ho => ?_)
    have hTx := (ho _ (by omega)).trans hTx
    have hTo := (ho _ (by omega)).trans hTo
    have hDr := (ho _ (by omega)).trans hDr
    have hSr := (ho _ (by omega)).trans hSr
    have hPa := (ho _ (by omega)).trans hPa
    have hIm := (ho _ (by omega)).trans hIm
    have hSy := (ho _ (by omega)).trans hSy
    have hWy := (ho _ (by omega)).trans hWy
    have hSm := (ho _ (by omega)).trans hSm
    have hBh := (ho _ (by omega)).trans hBh
    have hHd := (ho _ (by omega)).trans hHd
    have hfr : ∀ j, j < 272 ∨ 284 ≤ j → σ j = σ0 j := fun j hj => (ho j (by omega)).trans (hfr j hj)
    refine R_iconst (v := nI 0) a_X11_undo_20 rfl ?_
    refine R_istore_n (ls' := [_, _]) a_X11_undo_21 rfl rfl rfl ?_
    have hz0 := sh0_z (nF (sF U.T U.h)) (fun j => fp (43 * (U.u - 1) + j))
    have hSq := hSr
    rw [← hz0] at hSq
    rw [hz]
    refine Run.eqQ (lp_undo (T := U.T) (v := U.u - 1) (g := U.h.tail) (by omega) hM hPa (fun j hj => ?_) _ 0 σ rfl (by omega) hSq (fun _ _ => rfl)) (fun r σ2 hq => ?_)
    · rw [hPav (U.u - 1) (by omega) j hj, show U.u - (U.u - 1) = 1 by omega, List.drop_one]
    obtain ⟨hr, hSr, hf⟩ := hq
    have hM := (hf 272 (by omega)).trans hM
    have hTx := (hf 273 (by omega)).trans hTx
    have hTo := (hf 274 (by omega)).trans hTo
    have hDr := (hf 275 (by omega)).trans hDr
    have hPa := (hf 277 (by omega)).trans hPa
    have hIm := (hf 278 (by omega)).trans hIm
    have hSy := (hf 279 (by omega)).trans hSy
    have hWy := (hf 280 (by omega)).trans hWy
    have hSm := (hf 281 (by omega)).trans hSm
    have hBh := (hf 282 (by omega)).trans hBh
    have hHd := (hf 283 (by omega)).trans hHd
    refine ⟨hr, ⟨_, _, _, _, _, _, _, _, _, _, _, hM, ⟨hTx, hTxv⟩, ⟨hTo, t0, t1, t2, t3, t28, tkd, thn, tkn, thf⟩, hDr, hSr, ⟨hPa, fun k hk j hj => ?_⟩, ⟨hIm, hImv⟩, ⟨hSy, hSyv⟩, hWy, hSm, hBh, hHd⟩, fun j hj => (hf j (by omega)).trans (hfr j (by omega))⟩
    have hk : k < U.u - 1 := hk
    show fp (43 * k + j) = nI (sF U.T (U.h.tail.drop (U.u - 1 - k)) j)
    rw [hPav k (by omega) j hj, ← List.drop_one, List.drop_drop, show 1 + (U.u - 1 - k) = U.u - k by omega]
  · skip
    have hz : zUndo U = (-2, U) := by unfold zUndo; rw [if_pos h4]
    refine R_bipush (v := (-2)) a_X11_undo_7 rfl ?_
    refine R_iret a_X11_undo_9 rfl ?_
    rw [hz]
    exact ⟨rfl, hC, Fr.rf _ _ _⟩

