/-! ===== SaltToLiarsModel: reads of the table, where the salt comes ===== -/
def inI (x lo hi : Int32) : Nat := if ¬ x < lo ∧ ¬ hi < x then 1 else 0
theorem inI_le (x lo hi : Int32) : inI x lo hi ≤ 1 := by unfold inI; split <;> omega
theorem inI_c (x : Int32) {n : Nat} (hn : n + 1 < 2 ^ 31) : inI x (nI 0) (nI n) = inR x (n + 1) := by
  rcases inR_split x hn with ⟨q, h⟩ | ⟨q, j, hj, rfl⟩
  · rw [q]
    unfold inI
    rw [if_neg]
    rintro ⟨h1, h2⟩
    obtain ⟨i, hi, e⟩ := le_in hn h1 h2
    exact h i hi e
  · rw [q]
    unfold inI
    rw [if_pos ⟨nI_pos (by omega), nI_nlt (by omega) (by omega)⟩]
theorem inI_R (x : Int32) {g : Nat} (hg : g < 2 ^ 31) : inI x (nI 0) (nI g - nI 1) = inR x g := by
  cases g with
  | zero =>
    have h0 : inR x 0 = 0 := by
      rcases inR_split x (g := 0) (by decide) with ⟨q, -⟩ | ⟨-, j, hj, -⟩
      · exact q
      · exact absurd hj (Nat.not_lt_zero j)
    rw [h0]
    unfold inI
    rw [if_neg]
    rintro ⟨h1, h2⟩
    have h3 : x ≤ nI 0 - nI 1 := Int32.not_lt.mp h2
    have h4 : nI 0 - nI 1 < (nI 0 : Int32) := by decide
    exact h1 (Int32.lt_of_le_of_lt h3 h4)
  | succ g =>
    have e : nI (g + 1) - nI 1 = nI g := nI_pred g
    rw [e, inI_c x (by omega)]
theorem inI_R' (x : Int32) {g : Nat} (h1 : 1 ≤ g) (hg : g < 2 ^ 31) : inI x (nI 0) (nI (g - 1)) = inR x g := by
  rw [inI_c x (by omega), show g - 1 + 1 = g by omega]
set_option maxRecDepth 20000 in
theorem md_in {σ : AHp} {x lo hi : Int32} : EvP M_X11_in [.int x, .int lo, .int hi] σ (.int (nI (inI x lo hi))) := by
  refine Ev.of (ls := [_, _, _]) 0 (by decide) rfl rfl ?_
  refine R_iload_n a_X11_in_0 rfl ?_
  refine R_iload_n a_X11_in_1 rfl ?_
  refine R_icmp_lt a_X11_in_2 (fun h2 => ?_) (fun h2 => ?_)
  · skip
    have hz : inI x lo hi = 0 := by unfold inI; rw [if_neg (fun q => q.1 h2)]
    refine R_iconst (v := nI 0) a_X11_in_14 rfl ?_
    refine R_zret_n a_X11_in_15 rfl (by omega) ?_
    exact ⟨by rw [hz], rfl⟩
  · skip
    refine R_iload_n a_X11_in_5 rfl ?_
    refine R_iload_n a_X11_in_6 rfl ?_
    refine R_icmp_gt a_X11_in_7 (fun h7 => ?_) (fun h7 => ?_)
    · skip
      have hz : inI x lo hi = 0 := by unfold inI; rw [if_neg (fun q => q.2 h7)]
      refine R_iconst (v := nI 0) a_X11_in_14 rfl ?_
      refine R_zret_n a_X11_in_15 rfl (by omega) ?_
      exact ⟨by rw [hz], rfl⟩
    · skip
      have hz : inI x lo hi = 1 := by unfold inI; rw [if_pos ⟨h2, h7⟩]
      refine R_iconst (v := nI 1) a_X11_in_10 rfl ?_
      refine R_goto a_X11_in_11 ?_
      refine R_zret_n a_X11_in_15 rfl (by omega) ?_
      exact ⟨by rw [hz], rfl⟩

set_option maxRecDepth 20000 in
theorem md_isGuest {σ : AHp} {tl u kn ns : Nat} {at_ : Int32} {ft : Nat → Int32} {T : Tb} (hM : σ 272 = some (mdO tl u kn ns at_)) (hMT : MT σ ft T) (ok : TbOk T) {x : Int32} : EvP M_X11_isGuest [.ref 272, .int x] σ (.int (nI (inR x T.g))) := by
  obtain ⟨hTo, t0, t1, t2, t3, t28, tkd, thn, tkn, thf⟩ := id hMT
  obtain ⟨g3, g8, n1, n6, lw, stg, son, kd4, hn10, kn63, hf4⟩ := id ok
  have hn64 : 2 ^ T.n ≤ 2 ^ 6 := Nat.pow_le_pow_right (by decide) n6
  refine Ev.of (ls := [_, _]) 0 (by decide) rfl rfl ?_
  refine R_iload_n a_X11_isGuest_0 rfl ?_
  refine R_iconst (v := nI 0) a_X11_isGuest_1 rfl ?_
  refine R_aload_n a_X11_isGuest_2 rfl ?_
  refine R_get a_X11_isGuest_3 hM rfl ?_
  refine R_iconst (v := nI 0) a_X11_isGuest_6 rfl ?_
  refine R_iald_n a_X11_isGuest_7 hTo (by first | omega | exact Nat.lt_of_le_of_lt (inR_le _ _) (by decide) | exact Nat.lt_of_le_of_lt (bitN_le _ _) (by decide) | exact Nat.lt_of_le_of_lt (inI_le _ _ _) (by decide) | exact inI_le _ _ _ | exact inR_le _ _ | exact bitN_le _ _) (by decide) ?_
  refine R_top t0 ?_
  refine R_iconst (v := nI 1) a_X11_isGuest_8 rfl ?_
  first | with_reducible refine R_isub_n a_X11_isGuest_9 (by first | omega | exact Nat.lt_of_le_of_lt (inR_le _ _) (by decide) | exact Nat.lt_of_le_of_lt (bitN_le _ _) (by decide) | exact Nat.lt_of_le_of_lt (inI_le _ _ _) (by decide) | exact inI_le _ _ _ | exact inR_le _ _ | exact bitN_le _ _) ?_ | refine R_isub a_X11_isGuest_9 ?_
  refine R_callSp a_X11_isGuest_10 md_in rfl rfl rfl rfl rfl ?_
  refine R_top (congrArg nI (inI_R' x (g := T.g) (by omega) (by omega))) ?_
  refine R_zret_n a_X11_isGuest_13 rfl (by first | omega | exact Nat.lt_of_le_of_lt (inR_le _ _) (by decide) | exact Nat.lt_of_le_of_lt (bitN_le _ _) (by decide) | exact Nat.lt_of_le_of_lt (inI_le _ _ _) (by decide) | exact inI_le _ _ _ | exact inR_le _ _ | exact bitN_le _ _) ?_
  exact ⟨rfl, rfl⟩

set_option maxRecDepth 20000 in
theorem md_isThing {σ : AHp} {tl u kn ns : Nat} {at_ : Int32} {ft : Nat → Int32} {T : Tb} (hM : σ 272 = some (mdO tl u kn ns at_)) (hMT : MT σ ft T) (ok : TbOk T) {x : Int32} : EvP M_X11_isThing [.ref 272, .int x] σ (.int (nI (inR x T.n))) := by
  obtain ⟨hTo, t0, t1, t2, t3, t28, tkd, thn, tkn, thf⟩ := id hMT
  obtain ⟨g3, g8, n1, n6, lw, stg, son, kd4, hn10, kn63, hf4⟩ := id ok
  have hn64 : 2 ^ T.n ≤ 2 ^ 6 := Nat.pow_le_pow_right (by decide) n6
  refine Ev.of (ls := [_, _]) 0 (by decide) rfl rfl ?_
  refine R_iload_n a_X11_isThing_0 rfl ?_
  refine R_iconst (v := nI 0) a_X11_isThing_1 rfl ?_
  refine R_aload_n a_X11_isThing_2 rfl ?_
  refine R_get a_X11_isThing_3 hM rfl ?_
  refine R_iconst (v := nI 1) a_X11_isThing_6 rfl ?_
  refine R_iald_n a_X11_isThing_7 hTo (by first | omega | exact Nat.lt_of_le_of_lt (inR_le _ _) (by decide) | exact Nat.lt_of_le_of_lt (bitN_le _ _) (by decide) | exact Nat.lt_of_le_of_lt (inI_le _ _ _) (by decide) | exact inI_le _ _ _ | exact inR_le _ _ | exact bitN_le _ _) (by decide) ?_
  refine R_top t1 ?_
  refine R_iconst (v := nI 1) a_X11_isThing_8 rfl ?_
  first | with_reducible refine R_isub_n a_X11_isThing_9 (by first | omega | exact Nat.lt_of_le_of_lt (inR_le _ _) (by decide) | exact Nat.lt_of_le_of_lt (bitN_le _ _) (by decide) | exact Nat.lt_of_le_of_lt (inI_le _ _ _) (by decide) | exact inI_le _ _ _ | exact inR_le _ _ | exact bitN_le _ _) ?_ | refine R_isub a_X11_isThing_9 ?_
  refine R_callSp a_X11_isThing_10 md_in rfl rfl rfl rfl rfl ?_
  refine R_top (congrArg nI (inI_R' x (g := T.n) (by omega) (by omega))) ?_
  refine R_zret_n a_X11_isThing_13 rfl (by first | omega | exact Nat.lt_of_le_of_lt (inR_le _ _) (by decide) | exact Nat.lt_of_le_of_lt (bitN_le _ _) (by decide) | exact Nat.lt_of_le_of_lt (inI_le _ _ _) (by decide) | exact inI_le _ _ _ | exact inR_le _ _ | exact bitN_le _ _) ?_
  exact ⟨rfl, rfl⟩

theorem up_int {g a b : Nat} (ha : a < g) (hb : b < g) (hg : g < 2 ^ 20) : nI b - nI a + nI g = nI (b + g - a) := by
  have e : nI (b + g - a) + nI a = nI b + nI g := by rw [nI_add, nI_add, show b + g - a + a = b + g by omega]
  rw [Int32.sub_eq_add_neg, Int32.add_assoc, Int32.add_comm (-nI a), ← Int32.add_assoc, ← e, ← Int32.sub_eq_add_neg, Int32.add_sub_cancel]
set_option maxRecDepth 20000 in
theorem md_up {σ : AHp} {tl u kn ns : Nat} {at_ : Int32} {ft : Nat → Int32} {T : Tb} (hM : σ 272 = some (mdO tl u kn ns at_)) (hMT : MT σ ft T) (ok : TbOk T) {a b : Nat} (ha : a < T.g) (hb : b < T.g) : EvP M_X11_up [.ref 272, .int (nI a), .int (nI b)] σ (.int (nI (upF T.g a b))) := by
  obtain ⟨hTo, t0, t1, t2, t3, t28, tkd, thn, tkn, thf⟩ := id hMT
  obtain ⟨g3, g8, n1, n6, lw, stg, son, kd4, hn10, kn63, hf4⟩ := id ok
  have hn64 : 2 ^ T.n ≤ 2 ^ 6 := Nat.pow_le_pow_right (by decide) n6
  refine Ev.of (ls := [_, _, _]) 0 (by decide) rfl rfl ?_
  refine R_iload_n a_X11_up_0 rfl ?_
  refine R_iload_n a_X11_up_1 rfl ?_
  refine R_isub a_X11_up_2 ?_
  refine R_aload_n a_X11_up_3 rfl ?_
  refine R_get a_X11_up_4 hM rfl ?_
  refine R_iconst (v := nI 0) a_X11_up_7 rfl ?_
  refine R_iald_n a_X11_up_8 hTo (by first | omega | exact Nat.lt_of_le_of_lt (inR_le _ _) (by decide) | exact Nat.lt_of_le_of_lt (bitN_le _ _) (by decide) | exact Nat.lt_of_le_of_lt (inI_le _ _ _) (by decide) | exact inI_le _ _ _ | exact inR_le _ _ | exact bitN_le _ _) (by decide) ?_
  refine R_top t0 ?_
  refine R_iadd a_X11_up_9 ?_
  refine R_top (up_int ha hb (by omega)) ?_
  refine R_aload_n a_X11_up_10 rfl ?_
  refine R_get a_X11_up_11 hM rfl ?_
  refine R_iconst (v := nI 0) a_X11_up_14 rfl ?_
  refine R_iald_n a_X11_up_15 hTo (by first | omega | exact Nat.lt_of_le_of_lt (inR_le _ _) (by decide) | exact Nat.lt_of_le_of_lt (bitN_le _ _) (by decide) | exact Nat.lt_of_le_of_lt (inI_le _ _ _) (by decide) | exact inI_le _ _ _ | exact inR_le _ _ | exact bitN_le _ _) (by decide) ?_
  refine R_top t0 ?_
  refine R_irem_n a_X11_up_16 (by first | omega | exact Nat.lt_of_le_of_lt (inR_le _ _) (by decide) | exact Nat.lt_of_le_of_lt (bitN_le _ _) (by decide) | exact Nat.lt_of_le_of_lt (inI_le _ _ _) (by decide) | exact inI_le _ _ _ | exact inR_le _ _ | exact bitN_le _ _) (by first | omega | exact Nat.lt_of_le_of_lt (inR_le _ _) (by decide) | exact Nat.lt_of_le_of_lt (bitN_le _ _) (by decide) | exact Nat.lt_of_le_of_lt (inI_le _ _ _) (by decide) | exact inI_le _ _ _ | exact inR_le _ _ | exact bitN_le _ _) (by first | omega | exact Nat.lt_of_le_of_lt (inR_le _ _) (by decide) | exact Nat.lt_of_le_of_lt (bitN_le _ _) (by decide) | exact Nat.lt_of_le_of_lt (inI_le _ _ _) (by decide) | exact inI_le _ _ _ | exact inR_le _ _ | exact bitN_le _ _) ?_
  refine R_iret a_X11_up_17 rfl ?_
  exact ⟨rfl, rfl⟩

set_option maxRecDepth 20000 in
theorem md_far {σ : AHp} {tl u kn ns : Nat} {at_ : Int32} {ft : Nat → Int32} {T : Tb} (hM : σ 272 = some (mdO tl u kn ns at_)) (hMT : MT σ ft T) (ok : TbOk T) {a b : Nat} (ha : a < T.g) (hb : b < T.g) : EvP M_X11_far [.ref 272, .int (nI a), .int (nI b)] σ (.int (nI (farF T.g a b))) := by
  obtain ⟨hTo, t0, t1, t2, t3, t28, tkd, thn, tkn, thf⟩ := id hMT
  obtain ⟨g3, g8, n1, n6, lw, stg, son, kd4, hn10, kn63, hf4⟩ := id ok
  have hn64 : 2 ^ T.n ≤ 2 ^ 6 := Nat.pow_le_pow_right (by decide) n6
  have hu := upF_lt (g := T.g) (a := a) (b := b) (by omega)
  refine Ev.of (ls := [_, _, _, _]) 1 (by decide) rfl rfl ?_
  refine R_aload_n a_X11_far_0 rfl ?_
  refine R_iload_n a_X11_far_1 rfl ?_
  refine R_iload_n a_X11_far_2 rfl ?_
  refine R_callVp a_X11_far_3 hM (md_up hM hMT ok ha hb) rfl rfl rfl rfl rfl ?_
  refine R_istore_n (ls' := [_, _, _, _]) a_X11_far_6 rfl rfl rfl ?_
  refine R_iconst (v := nI 2) a_X11_far_7 rfl ?_
  refine R_iload_n a_X11_far_8 rfl ?_
  first | with_reducible refine R_imul_n a_X11_far_9 ?_ | refine R_imul a_X11_far_9 ?_
  refine R_aload_n a_X11_far_10 rfl ?_
  refine R_get a_X11_far_11 hM rfl ?_
  refine R_iconst (v := nI 0) a_X11_far_14 rfl ?_
  refine R_iald_n a_X11_far_15 hTo (by first | omega | exact Nat.lt_of_le_of_lt (inR_le _ _) (by decide) | exact Nat.lt_of_le_of_lt (bitN_le _ _) (by decide) | exact Nat.lt_of_le_of_lt (inI_le _ _ _) (by decide) | exact inI_le _ _ _ | exact inR_le _ _ | exact bitN_le _ _) (by decide) ?_
  refine R_top t0 ?_
  first | with_reducible refine R_icmp_gt_n a_X11_far_16 (by first | omega | exact Nat.lt_of_le_of_lt (inR_le _ _) (by decide) | exact Nat.lt_of_le_of_lt (bitN_le _ _) (by decide) | exact Nat.lt_of_le_of_lt (inI_le _ _ _) (by decide) | exact inI_le _ _ _ | exact inR_le _ _ | exact bitN_le _ _) (by first | omega | exact Nat.lt_of_le_of_lt (inR_le _ _) (by decide) | exact Nat.lt_of_le_of_lt (bitN_le _ _) (by decide) | exact Nat.lt_of_le_of_lt (inI_le _ _ _) (by decide) | exact inI_le _ _ _ | exact inR_le _ _ | exact bitN_le _ _) (fun h16 => ?_) (fun h16 => ?_) | refine R_icmp_gt a_X11_far_16 (fun h16 => ?_) (fun h16 => ?_)
  · skip
    have hz : farF T.g a b = T.g - upF T.g a b := by unfold farF; rw [if_neg (by omega)]
    refine R_aload_n a_X11_far_23 rfl ?_
    refine R_get a_X11_far_24 hM rfl ?_
    refine R_iconst (v := nI 0) a_X11_far_27 rfl ?_
    refine R_iald_n a_X11_far_28 hTo (by first | omega | exact Nat.lt_of_le_of_lt (inR_le _ _) (by decide) | exact Nat.lt_of_le_of_lt (bitN_le _ _) (by decide) | exact Nat.lt_of_le_of_lt (inI_le _ _ _) (by decide) | exact inI_le _ _ _ | exact inR_le _ _ | exact bitN_le _ _) (by decide) ?_
    refine R_top t0 ?_
    refine R_iload_n a_X11_far_29 rfl ?_
    first | with_reducible refine R_isub_n a_X11_far_30 (by first | omega | exact Nat.lt_of_le_of_lt (inR_le _ _) (by decide) | exact Nat.lt_of_le_of_lt (bitN_le _ _) (by decide) | exact Nat.lt_of_le_of_lt (inI_le _ _ _) (by decide) | exact inI_le _ _ _ | exact inR_le _ _ | exact bitN_le _ _) ?_ | refine R_isub a_X11_far_30 ?_
    refine R_iret a_X11_far_31 rfl ?_
    exact ⟨by rw [hz], rfl⟩
  · skip
    have hz : farF T.g a b = upF T.g a b := by unfold farF; rw [if_pos (by omega)]
    refine R_iload_n a_X11_far_19 rfl ?_
    refine R_goto a_X11_far_20 ?_
    refine R_iret a_X11_far_31 rfl ?_
    exact ⟨by rw [hz], rfl⟩

set_option maxRecDepth 20000 in
theorem md_counts {σ : AHp} {tl u kn ns : Nat} {at_ : Int32} {ft : Nat → Int32} {T : Tb} (hM : σ 272 = some (mdO tl u kn ns at_)) (hMT : MT σ ft T) (ok : TbOk T) {i t : Nat} (hi : i < T.g) (ht : t < T.n) : EvP M_X11_counts [.ref 272, .int (nI i), .int (nI t)] σ (.int (nI (cnt T i t))) := by
  obtain ⟨hTo, t0, t1, t2, t3, t28, tkd, thn, tkn, thf⟩ := id hMT
  obtain ⟨g3, g8, n1, n6, lw, stg, son, kd4, hn10, kn63, hf4⟩ := id ok
  have hn64 : 2 ^ T.n ≤ 2 ^ 6 := Nat.pow_le_pow_right (by decide) n6
  have hk4 := kd4 i hi
  have hw4 := hf4 t ht
  refine Ev.of (ls := [_, _, _, _, _]) 2 (by decide) rfl rfl ?_
  refine R_aload_n a_X11_counts_0 rfl ?_
  refine R_get a_X11_counts_1 hM rfl ?_
  refine R_bipush (v := nI 29) a_X11_counts_4 rfl ?_
  refine R_iload_n a_X11_counts_6 rfl ?_
  first | with_reducible refine R_iadd_n a_X11_counts_7 ?_ | refine R_iadd a_X11_counts_7 ?_
  refine R_iald_n a_X11_counts_8 hTo (by first | omega | exact Nat.lt_of_le_of_lt (inR_le _ _) (by decide) | exact Nat.lt_of_le_of_lt (bitN_le _ _) (by decide) | exact Nat.lt_of_le_of_lt (inI_le _ _ _) (by decide) | exact inI_le _ _ _ | exact inR_le _ _ | exact bitN_le _ _) (by decide) ?_
  refine R_top (thf _ (by first | omega | exact Nat.lt_of_le_of_lt (inR_le _ _) (by decide) | exact Nat.lt_of_le_of_lt (bitN_le _ _) (by decide) | exact Nat.lt_of_le_of_lt (inI_le _ _ _) (by decide) | exact inI_le _ _ _ | exact inR_le _ _ | exact bitN_le _ _)) ?_
  refine R_istore_n (ls' := [_, _, _, _, _]) a_X11_counts_9 rfl rfl rfl ?_
  refine R_aload_n a_X11_counts_10 rfl ?_
  refine R_get a_X11_counts_11 hM rfl ?_
  refine R_iconst (v := nI 4) a_X11_counts_14 rfl ?_
  refine R_iload_n a_X11_counts_15 rfl ?_
  first | with_reducible refine R_iadd_n a_X11_counts_16 ?_ | refine R_iadd a_X11_counts_16 ?_
  refine R_iald_n a_X11_counts_17 hTo (by first | omega | exact Nat.lt_of_le_of_lt (inR_le _ _) (by decide) | exact Nat.lt_of_le_of_lt (bitN_le _ _) (by decide) | exact Nat.lt_of_le_of_lt (inI_le _ _ _) (by decide) | exact inI_le _ _ _ | exact inR_le _ _ | exact bitN_le _ _) (by decide) ?_
  refine R_top (tkd _ (by first | omega | exact Nat.lt_of_le_of_lt (inR_le _ _) (by decide) | exact Nat.lt_of_le_of_lt (bitN_le _ _) (by decide) | exact Nat.lt_of_le_of_lt (inI_le _ _ _) (by decide) | exact inI_le _ _ _ | exact inR_le _ _ | exact bitN_le _ _)) ?_
  refine R_istore (ls' := [_, _, _, _, _]) a_X11_counts_18 rfl rfl rfl ?_
  refine R_iload a_X11_counts_20 rfl ?_
  refine R_iconst (v := nI 2) a_X11_counts_22 rfl ?_
  first | with_reducible refine R_icmp_ne_n a_X11_counts_23 (by first | omega | exact Nat.lt_of_le_of_lt (inR_le _ _) (by decide) | exact Nat.lt_of_le_of_lt (bitN_le _ _) (by decide) | exact Nat.lt_of_le_of_lt (inI_le _ _ _) (by decide) | exact inI_le _ _ _ | exact inR_le _ _ | exact bitN_le _ _) (by first | omega | exact Nat.lt_of_le_of_lt (inR_le _ _) (by decide) | exact Nat.lt_of_le_of_lt (bitN_le _ _) (by decide) | exact Nat.lt_of_le_of_lt (inI_le _ _ _) (by decide) | exact inI_le _ _ _ | exact inR_le _ _ | exact bitN_le _ _) (fun h23 => ?_) (fun h23 => ?_) | refine R_icmp_ne a_X11_counts_23 (fun h23 => ?_) (fun h23 => ?_)
  · skip
    refine R_iload a_X11_counts_32 rfl ?_
    refine R_iconst (v := nI 3) a_X11_counts_34 rfl ?_
    first | with_reducible refine R_icmp_ne_n a_X11_counts_35 (by first | omega | exact Nat.lt_of_le_of_lt (inR_le _ _) (by decide) | exact Nat.lt_of_le_of_lt (bitN_le _ _) (by decide) | exact Nat.lt_of_le_of_lt (inI_le _ _ _) (by decide) | exact inI_le _ _ _ | exact inR_le _ _ | exact bitN_le _ _) (by first | omega | exact Nat.lt_of_le_of_lt (inR_le _ _) (by decide) | exact Nat.lt_of_le_of_lt (bitN_le _ _) (by decide) | exact Nat.lt_of_le_of_lt (inI_le _ _ _) (by decide) | exact inI_le _ _ _ | exact inR_le _ _ | exact bitN_le _ _) (fun h35 => ?_) (fun h35 => ?_) | refine R_icmp_ne a_X11_counts_35 (fun h35 => ?_) (fun h35 => ?_)
    · skip
      refine R_iload a_X11_counts_44 rfl ?_
      refine R_iconst (v := nI 4) a_X11_counts_46 rfl ?_
      first | with_reducible refine R_icmp_ne_n a_X11_counts_47 (by first | omega | exact Nat.lt_of_le_of_lt (inR_le _ _) (by decide) | exact Nat.lt_of_le_of_lt (bitN_le _ _) (by decide) | exact Nat.lt_of_le_of_lt (inI_le _ _ _) (by decide) | exact inI_le _ _ _ | exact inR_le _ _ | exact bitN_le _ _) (by first | omega | exact Nat.lt_of_le_of_lt (inR_le _ _) (by decide) | exact Nat.lt_of_le_of_lt (bitN_le _ _) (by decide) | exact Nat.lt_of_le_of_lt (inI_le _ _ _) (by decide) | exact inI_le _ _ _ | exact inR_le _ _ | exact bitN_le _ _) (fun h47 => ?_) (fun h47 => ?_) | refine R_icmp_ne a_X11_counts_47 (fun h47 => ?_) (fun h47 => ?_)
      · skip
        have hz : cnt T i t = T.hf t := by unfold cnt cntK; rw [if_neg h23, if_neg h35, if_neg (fun q => h47 q.1)]
        refine R_iload_n a_X11_counts_59 rfl ?_
        refine R_iret a_X11_counts_60 rfl ?_
        exact ⟨by rw [hz], rfl⟩
      · skip
        refine R_iload_n a_X11_counts_50 rfl ?_
        refine R_iconst (v := nI 1) a_X11_counts_51 rfl ?_
        first | with_reducible refine R_icmp_ne_n a_X11_counts_52 (by first | omega | exact Nat.lt_of_le_of_lt (inR_le _ _) (by decide) | exact Nat.lt_of_le_of_lt (bitN_le _ _) (by decide) | exact Nat.lt_of_le_of_lt (inI_le _ _ _) (by decide) | exact inI_le _ _ _ | exact inR_le _ _ | exact bitN_le _ _) (by first | omega | exact Nat.lt_of_le_of_lt (inR_le _ _) (by decide) | exact Nat.lt_of_le_of_lt (bitN_le _ _) (by decide) | exact Nat.lt_of_le_of_lt (inI_le _ _ _) (by decide) | exact inI_le _ _ _ | exact inR_le _ _ | exact bitN_le _ _) (fun h52 => ?_) (fun h52 => ?_) | refine R_icmp_ne a_X11_counts_52 (fun h52 => ?_) (fun h52 => ?_)
        · skip
          have hz : cnt T i t = T.hf t := by unfold cnt cntK; rw [if_neg h23, if_neg h35, if_neg (fun q => h52 q.2)]
          refine R_iload_n a_X11_counts_59 rfl ?_
          refine R_iret a_X11_counts_60 rfl ?_
          exact ⟨by rw [hz], rfl⟩
        · skip
          have hz : cnt T i t = 0 := by unfold cnt cntK; rw [if_neg h23, if_neg h35, if_pos ⟨h47, h52⟩]
          refine R_iconst (v := nI 0) a_X11_counts_55 rfl ?_
          refine R_goto a_X11_counts_56 ?_
          refine R_iret a_X11_counts_60 rfl ?_
          exact ⟨by rw [hz], rfl⟩
    · skip
      have hz : cnt T i t = 2 * T.hf t := by unfold cnt cntK; rw [if_neg h23, if_pos h35]
      refine R_iconst (v := nI 2) a_X11_counts_38 rfl ?_
      refine R_iload_n a_X11_counts_39 rfl ?_
      first | with_reducible refine R_imul_n a_X11_counts_40 ?_ | refine R_imul a_X11_counts_40 ?_
      refine R_goto a_X11_counts_41 ?_
      refine R_iret a_X11_counts_60 rfl ?_
      exact ⟨by rw [hz], rfl⟩
  · skip
    have hz : cnt T i t = T.hf t - 1 := by unfold cnt cntK; rw [if_pos h23]
    refine R_iload_n a_X11_counts_26 rfl ?_
    refine R_iconst (v := nI 1) a_X11_counts_27 rfl ?_
    first | with_reducible refine R_isub_n a_X11_counts_28 (by first | omega | exact Nat.lt_of_le_of_lt (inR_le _ _) (by decide) | exact Nat.lt_of_le_of_lt (bitN_le _ _) (by decide) | exact Nat.lt_of_le_of_lt (inI_le _ _ _) (by decide) | exact inI_le _ _ _ | exact inR_le _ _ | exact bitN_le _ _) ?_ | refine R_isub a_X11_counts_28 ?_
    refine R_goto a_X11_counts_29 ?_
    refine R_iret a_X11_counts_60 rfl ?_
    exact ⟨by rw [hz], rfl⟩

theorem st_pos : ∀ g, g < 9 → 0 < g → ∀ a, a < 9 → ∀ n, n < 10 → (nI a + nI n - (nI a + nI n) / nI g * nI g + nI g - (nI a + nI n - (nI a + nI n) / nI g * nI g + nI g) / nI g * nI g) = nI ((a + n) % g) := by decide +kernel
theorem st_neg : ∀ g, g < 9 → 0 < g → ∀ a, a < 9 → ∀ n, n < 10 → (nI a + -nI n - (nI a + -nI n) / nI g * nI g + nI g - (nI a + -nI n - (nI a + -nI n) / nI g * nI g + nI g) / nI g * nI g) = nI ((a + n * (g - 1)) % g) := by decide +kernel
set_option maxRecDepth 20000 in
theorem md_steps {σ : AHp} {tl u kn ns : Nat} {at_ : Int32} {ft : Nat → Int32} {T : Tb} (hM : σ 272 = some (mdO tl u kn ns at_)) (hMT : MT σ ft T) (ok : TbOk T) {a b n : Nat} (ha : a < T.g) (hb : b < T.g) (hn : n < 10) : EvP M_X11_steps [.ref 272, .int (nI a), .int (nI b), .int (nI n)] σ (.int (nI (stepF T.g a b n))) := by
  obtain ⟨hTo, t0, t1, t2, t3, t28, tkd, thn, tkn, thf⟩ := id hMT
  obtain ⟨g3, g8, n1, n6, lw, stg, son, kd4, hn10, kn63, hf4⟩ := id ok
  have hn64 : 2 ^ T.n ≤ 2 ^ 6 := Nat.pow_le_pow_right (by decide) n6
  have hu := upF_lt (g := T.g) (a := a) (b := b) (by omega)
  refine Ev.of (ls := [_, _, _, _, _, _]) 2 (by decide) rfl rfl ?_
  refine R_aload_n a_X11_steps_0 rfl ?_
  refine R_iload_n a_X11_steps_1 rfl ?_
  refine R_iload_n a_X11_steps_2 rfl ?_
  refine R_callVp a_X11_steps_3 hM (md_up hM hMT ok ha hb) rfl rfl rfl rfl rfl ?_
  refine R_istore (ls' := [_, _, _, _, _, _]) a_X11_steps_6 rfl rfl rfl ?_
  refine R_iconst (v := nI 2) a_X11_steps_8 rfl ?_
  refine R_iload a_X11_steps_9 rfl ?_
  first | with_reducible refine R_imul_n a_X11_steps_11 ?_ | refine R_imul a_X11_steps_11 ?_
  refine R_aload_n a_X11_steps_12 rfl ?_
  refine R_get a_X11_steps_13 hM rfl ?_
  refine R_iconst (v := nI 0) a_X11_steps_16 rfl ?_
  refine R_iald_n a_X11_steps_17 hTo (by first | omega | exact Nat.lt_of_le_of_lt (inR_le _ _) (by decide) | exact Nat.lt_of_le_of_lt (bitN_le _ _) (by decide) | exact Nat.lt_of_le_of_lt (inI_le _ _ _) (by decide) | exact inI_le _ _ _ | exact inR_le _ _ | exact bitN_le _ _) (by decide) ?_
  refine R_top t0 ?_
  first | with_reducible refine R_icmp_gt_n a_X11_steps_18 (by first | omega | exact Nat.lt_of_le_of_lt (inR_le _ _) (by decide) | exact Nat.lt_of_le_of_lt (bitN_le _ _) (by decide) | exact Nat.lt_of_le_of_lt (inI_le _ _ _) (by decide) | exact inI_le _ _ _ | exact inR_le _ _ | exact bitN_le _ _) (by first | omega | exact Nat.lt_of_le_of_lt (inR_le _ _) (by decide) | exact Nat.lt_of_le_of_lt (bitN_le _ _) (by decide) | exact Nat.lt_of_le_of_lt (inI_le _ _ _) (by decide) | exact inI_le _ _ _ | exact inR_le _ _ | exact bitN_le _ _) (fun h18 => ?_) (fun h18 => ?_) | refine R_icmp_gt a_X11_steps_18 (fun h18 => ?_) (fun h18 => ?_)
  · skip
    have hz : stepF T.g a b n = (a + n * (T.g - 1)) % T.g := by unfold stepF; rw [if_neg (by omega)]
    have hx := st_neg T.g (by omega) (by omega) a (by omega) n hn
    refine R_iload_n a_X11_steps_25 rfl ?_
    refine R_ineg a_X11_steps_26 ?_
    refine R_istore (ls' := [_, _, _, _, _, _]) a_X11_steps_27 rfl rfl rfl ?_
    refine R_iload_n a_X11_steps_29 rfl ?_
    refine R_iload a_X11_steps_30 rfl ?_
    refine R_iadd a_X11_steps_32 ?_
    refine R_aload_n a_X11_steps_33 rfl ?_
    refine R_get a_X11_steps_34 hM rfl ?_
    refine R_iconst (v := nI 0) a_X11_steps_37 rfl ?_
    refine R_iald_n a_X11_steps_38 hTo (by first | omega | exact Nat.lt_of_le_of_lt (inR_le _ _) (by decide) | exact Nat.lt_of_le_of_lt (bitN_le _ _) (by decide) | exact Nat.lt_of_le_of_lt (inI_le _ _ _) (by decide) | exact inI_le _ _ _ | exact inR_le _ _ | exact bitN_le _ _) (by decide) ?_
    refine R_top t0 ?_
    refine R_irem a_X11_steps_39 (nI_ne0 (by omega) (by omega)) ?_
    refine R_aload_n a_X11_steps_40 rfl ?_
    refine R_get a_X11_steps_41 hM rfl ?_
    refine R_iconst (v := nI 0) a_X11_steps_44 rfl ?_
    refine R_iald_n a_X11_steps_45 hTo (by first | omega | exact Nat.lt_of_le_of_lt (inR_le _ _) (by decide) | exact Nat.lt_of_le_of_lt (bitN_le _ _) (by decide) | exact Nat.lt_of_le_of_lt (inI_le _ _ _) (by decide) | exact inI_le _ _ _ | exact inR_le _ _ | exact bitN_le _ _) (by decide) ?_
    refine R_top t0 ?_
    refine R_iadd a_X11_steps_46 ?_
    refine R_aload_n a_X11_steps_47 rfl ?_
    refine R_get a_X11_steps_48 hM rfl ?_
    refine R_iconst (v := nI 0) a_X11_steps_51 rfl ?_
    refine R_iald_n a_X11_steps_52 hTo (by first | omega | exact Nat.lt_of_le_of_lt (inR_le _ _) (by decide) | exact Nat.lt_of_le_of_lt (bitN_le _ _) (by decide) | exact Nat.lt_of_le_of_lt (inI_le _ _ _) (by decide) | exact inI_le _ _ _ | exact inR_le _ _ | exact bitN_le _ _) (by decide) ?_
    refine R_top t0 ?_
    refine R_irem a_X11_steps_53 (nI_ne0 (by omega) (by omega)) ?_
    refine R_iret a_X11_steps_54 rfl ?_
    exact ⟨by rw [hz, ← hx], rfl⟩
  · skip
    have hz : stepF T.g a b n = (a + n) % T.g := by unfold stepF; rw [if_pos (by omega)]
    have hx := st_pos T.g (by omega) (by omega) a (by omega) n hn
    refine R_iload_n a_X11_steps_21 rfl ?_
    refine R_goto a_X11_steps_22 ?_
    refine R_istore (ls' := [_, _, _, _, _, _]) a_X11_steps_27 rfl rfl rfl ?_
    refine R_iload_n a_X11_steps_29 rfl ?_
    refine R_iload a_X11_steps_30 rfl ?_
    refine R_iadd a_X11_steps_32 ?_
    refine R_aload_n a_X11_steps_33 rfl ?_
    refine R_get a_X11_steps_34 hM rfl ?_
    refine R_iconst (v := nI 0) a_X11_steps_37 rfl ?_
    refine R_iald_n a_X11_steps_38 hTo (by first | omega | exact Nat.lt_of_le_of_lt (inR_le _ _) (by decide) | exact Nat.lt_of_le_of_lt (bitN_le _ _) (by decide) | exact Nat.lt_of_le_of_lt (inI_le _ _ _) (by decide) | exact inI_le _ _ _ | exact inR_le _ _ | exact bitN_le _ _) (by decide) ?_
    refine R_top t0 ?_
    refine R_irem a_X11_steps_39 (nI_ne0 (by omega) (by omega)) ?_
    refine R_aload_n a_X11_steps_40 rfl ?_
    refine R_get a_X11_steps_41 hM rfl ?_
    refine R_iconst (v := nI 0) a_X11_steps_44 rfl ?_
    refine R_iald_n a_X11_steps_45 hTo (by first | omega | exact Nat.lt_of_le_of_lt (inR_le _ _) (by decide) | exact Nat.lt_of_le_of_lt (bitN_le _ _) (by decide) | exact Nat.lt_of_le_of_lt (inI_le _ _ _) (by decide) | exact inI_le _ _ _ | exact inR_le _ _ | exact bitN_le _ _) (by decide) ?_
    refine R_top t0 ?_
    refine R_iadd a_X11_steps_46 ?_
    refine R_aload_n a_X11_steps_47 rfl ?_
    refine R_get a_X11_steps_48 hM rfl ?_
    refine R_iconst (v := nI 0) a_X11_steps_51 rfl ?_
    refine R_iald_n a_X11_steps_52 hTo (by first | omega | exact Nat.lt_of_le_of_lt (inR_le _ _) (by decide) | exact Nat.lt_of_le_of_lt (bitN_le _ _) (by decide) | exact Nat.lt_of_le_of_lt (inI_le _ _ _) (by decide) | exact inI_le _ _ _ | exact inR_le _ _ | exact bitN_le _ _) (by decide) ?_
    refine R_top t0 ?_
    refine R_irem a_X11_steps_53 (nI_ne0 (by omega) (by omega)) ?_
    refine R_iret a_X11_steps_54 rfl ?_
    exact ⟨by rw [hz, ← hx], rfl⟩

set_option maxRecDepth 20000 in
theorem md_drawn {σ : AHp} {tl u kn ns : Nat} {at_ : Int32} {ft : Nat → Int32} {T : Tb} (hM : σ 272 = some (mdO tl u kn ns at_)) (hMT : MT σ ft T) (ok : TbOk T) {a i c law : Nat} (ha : a < T.g) (hi : i < T.g) (hc : c ≤ 8) (hl : law < 4) : EvP M_X11_drawn [.ref 272, .int (nI a), .int (nI i), .int (nI c), .int (nI law)] σ (.int (nI (drawF T.g a i c law))) := by
  obtain ⟨hTo, t0, t1, t2, t3, t28, tkd, thn, tkn, thf⟩ := id hMT
  obtain ⟨g3, g8, n1, n6, lw, stg, son, kd4, hn10, kn63, hf4⟩ := id ok
  have hn64 : 2 ^ T.n ≤ 2 ^ 6 := Nat.pow_le_pow_right (by decide) n6
  have hu := upF_lt (g := T.g) (a := a) (b := i) (by omega)
  have hfr8 : farF T.g a i ≤ T.g := by unfold farF; split <;> omega
  refine Ev.of (ls := [_, _, _, _, _, _, _]) 2 (by decide) rfl rfl ?_
  refine R_iload_n a_X11_drawn_0 rfl ?_
  refine R_iload_n a_X11_drawn_1 rfl ?_
  first | with_reducible refine R_icmp_ne_n a_X11_drawn_2 (by first | omega | exact Nat.lt_of_le_of_lt (inR_le _ _) (by decide) | exact Nat.lt_of_le_of_lt (bitN_le _ _) (by decide) | exact Nat.lt_of_le_of_lt (inI_le _ _ _) (by decide) | exact inI_le _ _ _ | exact inR_le _ _ | exact bitN_le _ _) (by first | omega | exact Nat.lt_of_le_of_lt (inR_le _ _) (by decide) | exact Nat.lt_of_le_of_lt (bitN_le _ _) (by decide) | exact Nat.lt_of_le_of_lt (inI_le _ _ _) (by decide) | exact inI_le _ _ _ | exact inR_le _ _ | exact bitN_le _ _) (fun h2 => ?_) (fun h2 => ?_) | refine R_icmp_ne a_X11_drawn_2 (fun h2 => ?_) (fun h2 => ?_)
  · skip
    refine R_iload a_X11_drawn_7 rfl ?_
    refine R_iconst (v := nI 1) a_X11_drawn_9 rfl ?_
    first | with_reducible refine R_icmp_ne_n a_X11_drawn_10 (by first | omega | exact Nat.lt_of_le_of_lt (inR_le _ _) (by decide) | exact Nat.lt_of_le_of_lt (bitN_le _ _) (by decide) | exact Nat.lt_of_le_of_lt (inI_le _ _ _) (by decide) | exact inI_le _ _ _ | exact inR_le _ _ | exact bitN_le _ _) (by first | omega | exact Nat.lt_of_le_of_lt (inR_le _ _) (by decide) | exact Nat.lt_of_le_of_lt (bitN_le _ _) (by decide) | exact Nat.lt_of_le_of_lt (inI_le _ _ _) (by decide) | exact inI_le _ _ _ | exact inR_le _ _ | exact bitN_le _ _) (fun h10 => ?_) (fun h10 => ?_) | refine R_icmp_ne a_X11_drawn_10 (fun h10 => ?_) (fun h10 => ?_)
    · skip
      refine R_aload_n a_X11_drawn_43 rfl ?_
      refine R_iload_n a_X11_drawn_44 rfl ?_
      refine R_iload_n a_X11_drawn_45 rfl ?_
      refine R_callVp a_X11_drawn_46 hM (md_far hM hMT ok ha hi) rfl rfl rfl rfl rfl ?_
      refine R_istore (ls' := [_, _, _, _, _, _, _]) a_X11_drawn_49 rfl rfl rfl ?_
      refine R_iload a_X11_drawn_51 rfl ?_
      first | with_reducible refine R_if_ne_n a_X11_drawn_53 (by first | omega | exact Nat.lt_of_le_of_lt (inR_le _ _) (by decide) | exact Nat.lt_of_le_of_lt (bitN_le _ _) (by decide) | exact Nat.lt_of_le_of_lt (inI_le _ _ _) (by decide) | exact inI_le _ _ _ | exact inR_le _ _ | exact bitN_le _ _) (fun h53 => ?_) (fun h53 => ?_) | refine R_if_ne a_X11_drawn_53 (fun h53 => ?_) (fun h53 => ?_)
      · skip
        refine R_iload a_X11_drawn_71 rfl ?_
        refine R_iconst (v := nI 2) a_X11_drawn_73 rfl ?_
        first | with_reducible refine R_icmp_ne_n a_X11_drawn_74 (by first | omega | exact Nat.lt_of_le_of_lt (inR_le _ _) (by decide) | exact Nat.lt_of_le_of_lt (bitN_le _ _) (by decide) | exact Nat.lt_of_le_of_lt (inI_le _ _ _) (by decide) | exact inI_le _ _ _ | exact inR_le _ _ | exact bitN_le _ _) (by first | omega | exact Nat.lt_of_le_of_lt (inR_le _ _) (by decide) | exact Nat.lt_of_le_of_lt (bitN_le _ _) (by decide) | exact Nat.lt_of_le_of_lt (inI_le _ _ _) (by decide) | exact inI_le _ _ _ | exact inR_le _ _ | exact bitN_le _ _) (fun h74 => ?_) (fun h74 => ?_) | refine R_icmp_ne a_X11_drawn_74 (fun h74 => ?_) (fun h74 => ?_)
        · skip
          have hz : drawF T.g a i c law = stepF T.g a i (c + 1) := by unfold drawF; rw [if_neg h2, if_neg h10, if_neg h53, if_neg h74]
          refine R_iload_n a_X11_drawn_81 rfl ?_
          refine R_iconst (v := nI 1) a_X11_drawn_82 rfl ?_
          first | with_reducible refine R_iadd_n a_X11_drawn_83 ?_ | refine R_iadd a_X11_drawn_83 ?_
          refine R_istore (ls' := [_, _, _, _, _, _, _]) a_X11_drawn_84 rfl rfl rfl ?_
          refine R_aload_n a_X11_drawn_86 rfl ?_
          refine R_iload_n a_X11_drawn_87 rfl ?_
          refine R_iload_n a_X11_drawn_88 rfl ?_
          refine R_iload a_X11_drawn_89 rfl ?_
          refine R_callVp a_X11_drawn_91 hM (md_steps hM hMT ok ha hi (by omega)) rfl rfl rfl rfl rfl ?_
          refine R_iret a_X11_drawn_94 rfl ?_
          exact ⟨by rw [hz], rfl⟩
        · skip
          have hz : drawF T.g a i c law = stepF T.g a i 1 := by unfold drawF; rw [if_neg h2, if_neg h10, if_neg h53, if_pos h74]
          refine R_iconst (v := nI 1) a_X11_drawn_77 rfl ?_
          refine R_goto a_X11_drawn_78 ?_
          refine R_istore (ls' := [_, _, _, _, _, _, _]) a_X11_drawn_84 rfl rfl rfl ?_
          refine R_aload_n a_X11_drawn_86 rfl ?_
          refine R_iload_n a_X11_drawn_87 rfl ?_
          refine R_iload_n a_X11_drawn_88 rfl ?_
          refine R_iload a_X11_drawn_89 rfl ?_
          refine R_callVp a_X11_drawn_91 hM (md_steps hM hMT ok ha hi (by omega)) rfl rfl rfl rfl rfl ?_
          refine R_iret a_X11_drawn_94 rfl ?_
          exact ⟨by rw [hz], rfl⟩
      · skip
        have hz : drawF T.g a i c law = stepF T.g a i (min c (farF T.g a i)) := by unfold drawF; rw [if_neg h2, if_neg h10, if_pos h53]
        refine R_iload_n a_X11_drawn_56 rfl ?_
        refine R_iload a_X11_drawn_57 rfl ?_
        first | with_reducible refine R_icmp_ge_n a_X11_drawn_59 (by first | omega | exact Nat.lt_of_le_of_lt (inR_le _ _) (by decide) | exact Nat.lt_of_le_of_lt (bitN_le _ _) (by decide) | exact Nat.lt_of_le_of_lt (inI_le _ _ _) (by decide) | exact inI_le _ _ _ | exact inR_le _ _ | exact bitN_le _ _) (by first | omega | exact Nat.lt_of_le_of_lt (inR_le _ _) (by decide) | exact Nat.lt_of_le_of_lt (bitN_le _ _) (by decide) | exact Nat.lt_of_le_of_lt (inI_le _ _ _) (by decide) | exact inI_le _ _ _ | exact inR_le _ _ | exact bitN_le _ _) (fun h59 => ?_) (fun h59 => ?_) | refine R_icmp_ge a_X11_drawn_59 (fun h59 => ?_) (fun h59 => ?_)
        · skip
          rw [show min c (farF T.g a i) = farF T.g a i by omega] at hz
          refine R_iload a_X11_drawn_66 rfl ?_
          refine R_goto a_X11_drawn_68 ?_
          refine R_istore (ls' := [_, _, _, _, _, _, _]) a_X11_drawn_84 rfl rfl rfl ?_
          refine R_aload_n a_X11_drawn_86 rfl ?_
          refine R_iload_n a_X11_drawn_87 rfl ?_
          refine R_iload_n a_X11_drawn_88 rfl ?_
          refine R_iload a_X11_drawn_89 rfl ?_
          refine R_callVp a_X11_drawn_91 hM (md_steps hM hMT ok ha hi (by omega)) rfl rfl rfl rfl rfl ?_
          refine R_iret a_X11_drawn_94 rfl ?_
          exact ⟨by rw [hz], rfl⟩
        · skip
          rw [show min c (farF T.g a i) = c by omega] at hz
          refine R_iload_n a_X11_drawn_62 rfl ?_
          refine R_goto a_X11_drawn_63 ?_
          refine R_istore (ls' := [_, _, _, _, _, _, _]) a_X11_drawn_84 rfl rfl rfl ?_
          refine R_aload_n a_X11_drawn_86 rfl ?_
          refine R_iload_n a_X11_drawn_87 rfl ?_
          refine R_iload_n a_X11_drawn_88 rfl ?_
          refine R_iload a_X11_drawn_89 rfl ?_
          refine R_callVp a_X11_drawn_91 hM (md_steps hM hMT ok ha hi (by omega)) rfl rfl rfl rfl rfl ?_
          refine R_iret a_X11_drawn_94 rfl ?_
          exact ⟨by rw [hz], rfl⟩
    · skip
      have hz : drawF T.g a i c law = (a + min c (upF T.g a i)) % T.g := by unfold drawF; rw [if_neg h2, if_pos h10]
      refine R_aload_n a_X11_drawn_13 rfl ?_
      refine R_iload_n a_X11_drawn_14 rfl ?_
      refine R_iload_n a_X11_drawn_15 rfl ?_
      refine R_callVp a_X11_drawn_16 hM (md_up hM hMT ok ha hi) rfl rfl rfl rfl rfl ?_
      refine R_istore (ls' := [_, _, _, _, _, _, _]) a_X11_drawn_19 rfl rfl rfl ?_
      refine R_iload_n a_X11_drawn_21 rfl ?_
      refine R_iload_n a_X11_drawn_22 rfl ?_
      refine R_iload a_X11_drawn_23 rfl ?_
      first | with_reducible refine R_icmp_ge_n a_X11_drawn_25 (by first | omega | exact Nat.lt_of_le_of_lt (inR_le _ _) (by decide) | exact Nat.lt_of_le_of_lt (bitN_le _ _) (by decide) | exact Nat.lt_of_le_of_lt (inI_le _ _ _) (by decide) | exact inI_le _ _ _ | exact inR_le _ _ | exact bitN_le _ _) (by first | omega | exact Nat.lt_of_le_of_lt (inR_le _ _) (by decide) | exact Nat.lt_of_le_of_lt (bitN_le _ _) (by decide) | exact Nat.lt_of_le_of_lt (inI_le _ _ _) (by decide) | exact inI_le _ _ _ | exact inR_le _ _ | exact bitN_le _ _) (fun h25 => ?_) (fun h25 => ?_) | refine R_icmp_ge a_X11_drawn_25 (fun h25 => ?_) (fun h25 => ?_)
      · skip
        rw [show min c (upF T.g a i) = upF T.g a i by omega] at hz
        refine R_iload a_X11_drawn_32 rfl ?_
        first | with_reducible refine R_iadd_n a_X11_drawn_34 ?_ | refine R_iadd a_X11_drawn_34 ?_
        refine R_aload_n a_X11_drawn_35 rfl ?_
        refine R_get a_X11_drawn_36 hM rfl ?_
        refine R_iconst (v := nI 0) a_X11_drawn_39 rfl ?_
        refine R_iald_n a_X11_drawn_40 hTo (by first | omega | exact Nat.lt_of_le_of_lt (inR_le _ _) (by decide) | exact Nat.lt_of_le_of_lt (bitN_le _ _) (by decide) | exact Nat.lt_of_le_of_lt (inI_le _ _ _) (by decide) | exact inI_le _ _ _ | exact inR_le _ _ | exact bitN_le _ _) (by decide) ?_
        refine R_top t0 ?_
        refine R_irem_n a_X11_drawn_41 (by first | omega | exact Nat.lt_of_le_of_lt (inR_le _ _) (by decide) | exact Nat.lt_of_le_of_lt (bitN_le _ _) (by decide) | exact Nat.lt_of_le_of_lt (inI_le _ _ _) (by decide) | exact inI_le _ _ _ | exact inR_le _ _ | exact bitN_le _ _) (by first | omega | exact Nat.lt_of_le_of_lt (inR_le _ _) (by decide) | exact Nat.lt_of_le_of_lt (bitN_le _ _) (by decide) | exact Nat.lt_of_le_of_lt (inI_le _ _ _) (by decide) | exact inI_le _ _ _ | exact inR_le _ _ | exact bitN_le _ _) (by first | omega | exact Nat.lt_of_le_of_lt (inR_le _ _) (by decide) | exact Nat.lt_of_le_of_lt (bitN_le _ _) (by decide) | exact Nat.lt_of_le_of_lt (inI_le _ _ _) (by decide) | exact inI_le _ _ _ | exact inR_le _ _ | exact bitN_le _ _) ?_
        refine R_iret a_X11_drawn_42 rfl ?_
        exact ⟨by rw [hz], rfl⟩
      · skip
        rw [show min c (upF T.g a i) = c by omega] at hz
        refine R_iload_n a_X11_drawn_28 rfl ?_
        refine R_goto a_X11_drawn_29 ?_
        first | with_reducible refine R_iadd_n a_X11_drawn_34 ?_ | refine R_iadd a_X11_drawn_34 ?_
        refine R_aload_n a_X11_drawn_35 rfl ?_
        refine R_get a_X11_drawn_36 hM rfl ?_
        refine R_iconst (v := nI 0) a_X11_drawn_39 rfl ?_
        refine R_iald_n a_X11_drawn_40 hTo (by first | omega | exact Nat.lt_of_le_of_lt (inR_le _ _) (by decide) | exact Nat.lt_of_le_of_lt (bitN_le _ _) (by decide) | exact Nat.lt_of_le_of_lt (inI_le _ _ _) (by decide) | exact inI_le _ _ _ | exact inR_le _ _ | exact bitN_le _ _) (by decide) ?_
        refine R_top t0 ?_
        refine R_irem_n a_X11_drawn_41 (by first | omega | exact Nat.lt_of_le_of_lt (inR_le _ _) (by decide) | exact Nat.lt_of_le_of_lt (bitN_le _ _) (by decide) | exact Nat.lt_of_le_of_lt (inI_le _ _ _) (by decide) | exact inI_le _ _ _ | exact inR_le _ _ | exact bitN_le _ _) (by first | omega | exact Nat.lt_of_le_of_lt (inR_le _ _) (by decide) | exact Nat.lt_of_le_of_lt (bitN_le _ _) (by decide) | exact Nat.lt_of_le_of_lt (inI_le _ _ _) (by decide) | exact inI_le _ _ _ | exact inR_le _ _ | exact bitN_le _ _) (by first | omega | exact Nat.lt_of_le_of_lt (inR_le _ _) (by decide) | exact Nat.lt_of_le_of_lt (bitN_le _ _) (by decide) | exact Nat.lt_of_le_of_lt (inI_le _ _ _) (by decide) | exact inI_le _ _ _ | exact inR_le _ _ | exact bitN_le _ _) ?_
        refine R_iret a_X11_drawn_42 rfl ?_
        exact ⟨by rw [hz], rfl⟩
  · skip
    have hz : drawF T.g a i c law = a := by unfold drawF; rw [if_pos h2]
    refine R_iload_n a_X11_drawn_5 rfl ?_
    refine R_iret a_X11_drawn_6 rfl ?_
    exact ⟨by rw [hz], rfl⟩

/-- a seat that was found, or -1 -/
def foI (o : Option Nat) : Int32 := match o with
  | none => -1
  | some k => nI k
theorem deafF_lt {T : Tb} {a : Nat} {P : Nat → Bool} {d : Nat} : ∀ {k : Nat}, deafF T a P k = some d → d < k := by
  intro k
  induction k with
  | zero => intro h; cases h
  | succ k ih =>
    intro h
    simp only [deafF] at h
    split at h
    · cases h; omega
    · have := ih h; omega
theorem deafF_congr {T : Tb} {a : Nat} {P P' : Nat → Bool} : ∀ k, (∀ i, i < k → P i = P' i) → deafF T a P k = deafF T a P' k := by
  intro k
  induction k with
  | zero => intro _; rfl
  | succ k ih =>
    intro h
    simp only [deafF]
    rw [ih (fun i hi => h i (by omega)), h k (by omega)]
theorem hushF_congr {T : Tb} {a : Nat} {P P' : Nat → Bool} (h : ∀ i, i < T.g → P i = P' i) : hushF T a P = hushF T a P' := by
  unfold hushF
  rw [deafF_congr T.g h]
set_option maxRecDepth 20000 in
theorem lp_hushed {σ : AHp} {tl u kn ns : Nat} {at_ : Int32} {ft : Nat → Int32} {T : Tb} (hM : σ 272 = some (mdO tl u kn ns at_)) (hMT : MT σ ft T) (ok : TbOk T) {a sp : Nat} (ha : a < T.g) (hs : sp < 256) : ∀ (n k : Nat) (v : Int32) (x5 : Option Value), T.g - k = n → k ≤ T.g → v = foI (deafF T a (fun i => decide (bitN sp i = 1)) k) → okS [none, none, none, none, none, x5] 5 = true → Run M_X11_hushed 5 [some (.ref 272), some (.int (nI a)), some (.int (nI sp)), some (.int v), some (.int (nI k)), x5] [] σ 0 0 (fun r σ' => r = some (.int (nI (hushF T a (fun i => decide (bitN sp i = 1))))) ∧ σ' = σ) := by
  obtain ⟨hTo, t0, t1, t2, t3, t28, tkd, thn, tkn, thf⟩ := id hMT
  obtain ⟨g3, g8, n1, n6, lw, stg, son, kd4, hn10, kn63, hf4⟩ := id ok
  have hn64 : 2 ^ T.n ≤ 2 ^ 6 := Nat.pow_le_pow_right (by decide) n6
  intro n
  induction n using Nat.strongRecOn
  rename_i n ih
  intro k v x5 hm hk hv hx5
  refine R_iload a_X11_hushed_5 rfl ?_
  refine R_aload_n a_X11_hushed_7 rfl ?_
  refine R_get a_X11_hushed_8 hM rfl ?_
  refine R_iconst (v := nI 0) a_X11_hushed_11 rfl ?_
  refine R_iald_n a_X11_hushed_12 hTo (by first | omega | exact Nat.lt_of_le_of_lt (inR_le _ _) (by decide) | exact Nat.lt_of_le_of_lt (bitN_le _ _) (by decide) | exact Nat.lt_of_le_of_lt (inI_le _ _ _) (by decide) | exact inI_le _ _ _ | exact inR_le _ _ | exact bitN_le _ _) (by decide) ?_
  refine R_top t0 ?_
  first | with_reducible refine R_icmp_ge_n a_X11_hushed_13 (by first | omega | exact Nat.lt_of_le_of_lt (inR_le _ _) (by decide) | exact Nat.lt_of_le_of_lt (bitN_le _ _) (by decide) | exact Nat.lt_of_le_of_lt (inI_le _ _ _) (by decide) | exact inI_le _ _ _ | exact inR_le _ _ | exact bitN_le _ _) (by first | omega | exact Nat.lt_of_le_of_lt (inR_le _ _) (by decide) | exact Nat.lt_of_le_of_lt (bitN_le _ _) (by decide) | exact Nat.lt_of_le_of_lt (inI_le _ _ _) (by decide) | exact inI_le _ _ _ | exact inR_le _ _ | exact bitN_le _ _) (fun h13 => ?_) (fun h13 => ?_) | refine R_icmp_ge a_X11_hushed_13 (fun h13 => ?_) (fun h13 => ?_)
  · skip
    have hkg : k = T.g := by omega
    subst hkg
    refine R_iload_n a_X11_hushed_83 rfl ?_
    refine R_if_lt a_X11_hushed_84 (fun h84 => ?_) (fun h84 => ?_)
    · skip
      have hz : hushF T a (fun i => decide (bitN sp i = 1)) = a := by
        unfold hushF
        cases e : deafF T a (fun i => decide (bitN sp i = 1)) T.g with
        | none => rfl
        | some d =>
          rw [hv, e] at h84
          have := deafF_lt e
          exact absurd h84 (nI_pos (by omega))
      refine R_iload_n a_X11_hushed_92 rfl ?_
      refine R_goto a_X11_hushed_93 ?_
      refine R_iret a_X11_hushed_103 rfl ?_
      exact ⟨by rw [hz], rfl⟩
    · skip
      obtain ⟨d, hd, rfl⟩ : ∃ d, deafF T a (fun i => decide (bitN sp i = 1)) T.g = some d ∧ v = nI d := by
        cases e : deafF T a (fun i => decide (bitN sp i = 1)) T.g with
        | none => rw [hv, e] at h84; exact absurd (show (-1 : Int32) < 0 by decide) h84
        | some d => rw [hv, e]; exact ⟨d, rfl, rfl⟩
      have hdk := deafF_lt hd
      refine R_iload_n a_X11_hushed_87 rfl ?_
      refine R_iload_n a_X11_hushed_88 rfl ?_
      first | with_reducible refine R_icmp_ne_n a_X11_hushed_89 (by first | omega | exact Nat.lt_of_le_of_lt (inR_le _ _) (by decide) | exact Nat.lt_of_le_of_lt (bitN_le _ _) (by decide) | exact Nat.lt_of_le_of_lt (inI_le _ _ _) (by decide) | exact inI_le _ _ _ | exact inR_le _ _ | exact bitN_le _ _) (by first | omega | exact Nat.lt_of_le_of_lt (inR_le _ _) (by decide) | exact Nat.lt_of_le_of_lt (bitN_le _ _) (by decide) | exact Nat.lt_of_le_of_lt (inI_le _ _ _) (by decide) | exact inI_le _ _ _ | exact inR_le _ _ | exact bitN_le _ _) (fun h89 => ?_) (fun h89 => ?_) | refine R_icmp_ne a_X11_hushed_89 (fun h89 => ?_) (fun h89 => ?_)
      · skip
        have hz : hushF T a (fun i => decide (bitN sp i = 1)) = stepF T.g a d 1 := by unfold hushF; rw [hd]; exact if_neg h89
        refine R_aload_n a_X11_hushed_96 rfl ?_
        refine R_iload_n a_X11_hushed_97 rfl ?_
        refine R_iload_n a_X11_hushed_98 rfl ?_
        refine R_iconst (v := nI 1) a_X11_hushed_99 rfl ?_
        refine R_callVp a_X11_hushed_100 hM (md_steps hM hMT ok ha hdk (by decide)) rfl rfl rfl rfl rfl ?_
        refine R_iret a_X11_hushed_103 rfl ?_
        exact ⟨by rw [hz], rfl⟩
      · skip
        have hz : hushF T a (fun i => decide (bitN sp i = 1)) = a := by unfold hushF; rw [hd]; exact if_pos h89
        refine R_iload_n a_X11_hushed_92 rfl ?_
        refine R_goto a_X11_hushed_93 ?_
        refine R_iret a_X11_hushed_103 rfl ?_
        exact ⟨by rw [hz], rfl⟩
  · skip
    have hk4 := kd4 k (by omega)
    refine R_dian 43 (fun v => v = b2n (decide (T.kd k = 1 ∧ bitN sp k = 0))) (fun hJ16 => ?_) (fun v16 e16 => ?_)
    · skip
      refine R_aload_n a_X11_hushed_16 rfl ?_
      refine R_get a_X11_hushed_17 hM rfl ?_
      refine R_iconst (v := nI 4) a_X11_hushed_20 rfl ?_
      refine R_iload a_X11_hushed_21 rfl ?_
      first | with_reducible refine R_iadd_n a_X11_hushed_23 ?_ | refine R_iadd a_X11_hushed_23 ?_
      refine R_iald_n a_X11_hushed_24 hTo (by first | omega | exact Nat.lt_of_le_of_lt (inR_le _ _) (by decide) | exact Nat.lt_of_le_of_lt (bitN_le _ _) (by decide) | exact Nat.lt_of_le_of_lt (inI_le _ _ _) (by decide) | exact inI_le _ _ _ | exact inR_le _ _ | exact bitN_le _ _) (by decide) ?_
      refine R_top (tkd _ (by first | omega | exact Nat.lt_of_le_of_lt (inR_le _ _) (by decide) | exact Nat.lt_of_le_of_lt (bitN_le _ _) (by decide) | exact Nat.lt_of_le_of_lt (inI_le _ _ _) (by decide) | exact inI_le _ _ _ | exact inR_le _ _ | exact bitN_le _ _)) ?_
      refine R_iconst (v := nI 1) a_X11_hushed_25 rfl ?_
      first | with_reducible refine R_icmp_ne_n a_X11_hushed_26 (by first | omega | exact Nat.lt_of_le_of_lt (inR_le _ _) (by decide) | exact Nat.lt_of_le_of_lt (bitN_le _ _) (by decide) | exact Nat.lt_of_le_of_lt (inI_le _ _ _) (by decide) | exact inI_le _ _ _ | exact inR_le _ _ | exact bitN_le _ _) (by first | omega | exact Nat.lt_of_le_of_lt (inR_le _ _) (by decide) | exact Nat.lt_of_le_of_lt (bitN_le _ _) (by decide) | exact Nat.lt_of_le_of_lt (inI_le _ _ _) (by decide) | exact inI_le _ _ _ | exact inR_le _ _ | exact bitN_le _ _) (fun h26 => ?_) (fun h26 => ?_) | refine R_icmp_ne a_X11_hushed_26 (fun h26 => ?_) (fun h26 => ?_)
      · skip
        have he : 0 = b2n (decide (T.kd k = 1 ∧ bitN sp k = 0)) := by rw [decide_eq_false (fun q => h26 q.1)]; rfl
        refine R_iconst (v := nI 0) a_X11_hushed_42 rfl ?_
        exact hJ16 _ he
      · skip
        refine R_iload_n a_X11_hushed_29 rfl ?_
        refine R_iload a_X11_hushed_30 rfl ?_
        first | with_reducible refine R_ishr_n a_X11_hushed_32 (by first | omega | exact Nat.lt_of_le_of_lt (inR_le _ _) (by decide) | exact Nat.lt_of_le_of_lt (bitN_le _ _) (by decide) | exact Nat.lt_of_le_of_lt (inI_le _ _ _) (by decide) | exact inI_le _ _ _ | exact inR_le _ _ | exact bitN_le _ _) (by first | omega | exact Nat.lt_of_le_of_lt (inR_le _ _) (by decide) | exact Nat.lt_of_le_of_lt (bitN_le _ _) (by decide) | exact Nat.lt_of_le_of_lt (inI_le _ _ _) (by decide) | exact inI_le _ _ _ | exact inR_le _ _ | exact bitN_le _ _) ?_ | refine R_ishr a_X11_hushed_32 ?_
        refine R_iconst (v := nI 1) a_X11_hushed_33 rfl ?_
        first | with_reducible refine R_iand1 a_X11_hushed_34 ?_ | with_reducible refine R_iand_n a_X11_hushed_34 ?_ | refine R_iand a_X11_hushed_34 ?_
        refine R_if_ne_n (a := bitN sp k) a_X11_hushed_35 (Nat.lt_of_le_of_lt (bitN_le _ _) (by decide)) (fun h35 => ?_) (fun h35 => ?_)
        · skip
          have he : 0 = b2n (decide (T.kd k = 1 ∧ bitN sp k = 0)) := by rw [decide_eq_false (fun q => h35 q.2)]; rfl
          refine R_iconst (v := nI 0) a_X11_hushed_42 rfl ?_
          exact hJ16 _ he
        · skip
          have he : 1 = b2n (decide (T.kd k = 1 ∧ bitN sp k = 0)) := by rw [decide_eq_true ⟨h26, h35⟩]; rfl
          refine R_iconst (v := nI 1) a_X11_hushed_38 rfl ?_
          refine R_goto a_X11_hushed_39 ?_
          exact hJ16 _ he
    · skip
      have hb1 := b2n_le (decide (T.kd k = 1 ∧ bitN sp k = 0))
      refine R_istore (ls' := [_, _, _, _, _, _]) a_X11_hushed_43 rfl rfl rfl ?_
      refine R_iload a_X11_hushed_45 rfl ?_
      first | with_reducible refine R_if_eq_n a_X11_hushed_47 (by first | omega | exact Nat.lt_of_le_of_lt (inR_le _ _) (by decide) | exact Nat.lt_of_le_of_lt (bitN_le _ _) (by decide) | exact Nat.lt_of_le_of_lt (inI_le _ _ _) (by decide) | exact inI_le _ _ _ | exact inR_le _ _ | exact bitN_le _ _) (fun h47 => ?_) (fun h47 => ?_) | refine R_if_eq a_X11_hushed_47 (fun h47 => ?_) (fun h47 => ?_)
      · skip
        have hds : v = foI (deafF T a (fun i => decide (bitN sp i = 1)) (k + 1)) := by
          rw [hv]
          simp only [deafF]
          rw [if_neg]
          rintro ⟨q1, q2, -⟩
          have q3 : bitN sp k = 0 := by
            have := of_decide_eq_false q2
            have := bitN_le sp k
            omega
          rw [e16, decide_eq_true ⟨q1, q3⟩] at h47
          cases h47
        refine R_iload_n a_X11_hushed_75 rfl ?_
        refine R_istore_n (ls' := [_, _, _, _, _, _]) a_X11_hushed_76 rfl rfl rfl ?_
        first | with_reducible refine R_iinc_n (ls' := [_, _, _, _, _, _]) a_X11_hushed_77 rfl rfl rfl rfl ?_ | refine R_iinc (ls' := [_, _, _, _, _, _]) a_X11_hushed_77 rfl rfl rfl rfl rfl ?_
        refine R_goto a_X11_hushed_80 ?_
        exact ih _ (show T.g - (k + 1) < n by omega) (k + 1) _ _ rfl (by omega) (by rw [hds]) rfl
      · skip
        have hcd : T.kd k = 1 ∧ bitN sp k = 0 := by
          by_cases q : T.kd k = 1 ∧ bitN sp k = 0
          · exact q
          · rw [e16, decide_eq_false q] at h47; exact absurd rfl h47
        have hcf : decide (bitN sp k = 1) = false := decide_eq_false (by omega)
        refine R_iload_n a_X11_hushed_50 rfl ?_
        refine R_if_lt a_X11_hushed_51 (fun h51 => ?_) (fun h51 => ?_)
        · skip
          have hds : nI k = foI (deafF T a (fun i => decide (bitN sp i = 1)) (k + 1)) := by
            cases e : deafF T a (fun i => decide (bitN sp i = 1)) k with
            | none =>
              simp only [deafF]
              rw [e, if_pos ⟨hcd.1, hcf, rfl⟩]
              rfl
            | some d =>
              rw [hv, e] at h51
              have := deafF_lt e
              exact absurd h51 (nI_pos (by omega))
          refine R_iload a_X11_hushed_70 rfl ?_
          refine R_goto a_X11_hushed_72 ?_
          refine R_istore_n (ls' := [_, _, _, _, _, _]) a_X11_hushed_76 rfl rfl rfl ?_
          first | with_reducible refine R_iinc_n (ls' := [_, _, _, _, _, _]) a_X11_hushed_77 rfl rfl rfl rfl ?_ | refine R_iinc (ls' := [_, _, _, _, _, _]) a_X11_hushed_77 rfl rfl rfl rfl rfl ?_
          refine R_goto a_X11_hushed_80 ?_
          exact ih _ (show T.g - (k + 1) < n by omega) (k + 1) _ _ rfl (by omega) (by rw [hds]) rfl
        · skip
          obtain ⟨d, hd, rfl⟩ : ∃ d, deafF T a (fun i => decide (bitN sp i = 1)) k = some d ∧ v = nI d := by
            cases e : deafF T a (fun i => decide (bitN sp i = 1)) k with
            | none => rw [hv, e] at h51; exact absurd (show (-1 : Int32) < 0 by decide) h51
            | some d => rw [hv, e]; exact ⟨d, rfl, rfl⟩
          have hdk := deafF_lt hd
          have hf1 : farF T.g a k ≤ T.g := by unfold farF; have := upF_lt (g := T.g) (a := a) (b := k) (by omega); split <;> omega
          have hf2 : farF T.g a d ≤ T.g := by unfold farF; have := upF_lt (g := T.g) (a := a) (b := d) (by omega); split <;> omega
          refine R_aload_n a_X11_hushed_54 rfl ?_
          refine R_iload_n a_X11_hushed_55 rfl ?_
          refine R_iload a_X11_hushed_56 rfl ?_
          refine R_callVp a_X11_hushed_58 hM (md_far hM hMT ok ha (show k < T.g by omega)) rfl rfl rfl rfl rfl ?_
          refine R_aload_n a_X11_hushed_61 rfl ?_
          refine R_iload_n a_X11_hushed_62 rfl ?_
          refine R_iload_n a_X11_hushed_63 rfl ?_
          refine R_callVp a_X11_hushed_64 hM (md_far hM hMT ok ha (show d < T.g by omega)) rfl rfl rfl rfl rfl ?_
          first | with_reducible refine R_icmp_ge_n a_X11_hushed_67 (by first | omega | exact Nat.lt_of_le_of_lt (inR_le _ _) (by decide) | exact Nat.lt_of_le_of_lt (bitN_le _ _) (by decide) | exact Nat.lt_of_le_of_lt (inI_le _ _ _) (by decide) | exact inI_le _ _ _ | exact inR_le _ _ | exact bitN_le _ _) (by first | omega | exact Nat.lt_of_le_of_lt (inR_le _ _) (by decide) | exact Nat.lt_of_le_of_lt (bitN_le _ _) (by decide) | exact Nat.lt_of_le_of_lt (inI_le _ _ _) (by decide) | exact inI_le _ _ _ | exact inR_le _ _ | exact bitN_le _ _) (fun h67 => ?_) (fun h67 => ?_) | refine R_icmp_ge a_X11_hushed_67 (fun h67 => ?_) (fun h67 => ?_)
          · skip
            have hds : nI d = foI (deafF T a (fun i => decide (bitN sp i = 1)) (k + 1)) := by
              simp only [deafF]
              rw [hd, if_neg]
              · rfl
              · rintro ⟨-, -, q⟩
                have := of_decide_eq_true q
                omega
            refine R_iload_n a_X11_hushed_75 rfl ?_
            refine R_istore_n (ls' := [_, _, _, _, _, _]) a_X11_hushed_76 rfl rfl rfl ?_
            first | with_reducible refine R_iinc_n (ls' := [_, _, _, _, _, _]) a_X11_hushed_77 rfl rfl rfl rfl ?_ | refine R_iinc (ls' := [_, _, _, _, _, _]) a_X11_hushed_77 rfl rfl rfl rfl rfl ?_
            refine R_goto a_X11_hushed_80 ?_
            exact ih _ (show T.g - (k + 1) < n by omega) (k + 1) _ _ rfl (by omega) (by rw [hds]) rfl
          · skip
            have hds : nI k = foI (deafF T a (fun i => decide (bitN sp i = 1)) (k + 1)) := by
              simp only [deafF]
              rw [hd, if_pos ⟨hcd.1, hcf, decide_eq_true (show farF T.g a k < farF T.g a d by omega)⟩]
              rfl
            refine R_iload a_X11_hushed_70 rfl ?_
            refine R_goto a_X11_hushed_72 ?_
            refine R_istore_n (ls' := [_, _, _, _, _, _]) a_X11_hushed_76 rfl rfl rfl ?_
            first | with_reducible refine R_iinc_n (ls' := [_, _, _, _, _, _]) a_X11_hushed_77 rfl rfl rfl rfl ?_ | refine R_iinc (ls' := [_, _, _, _, _, _]) a_X11_hushed_77 rfl rfl rfl rfl rfl ?_
            refine R_goto a_X11_hushed_80 ?_
            exact ih _ (show T.g - (k + 1) < n by omega) (k + 1) _ _ rfl (by omega) (by rw [hds]) rfl

set_option maxRecDepth 20000 in
theorem md_hushed {σ : AHp} {tl u kn ns : Nat} {at_ : Int32} {ft : Nat → Int32} {T : Tb} (hM : σ 272 = some (mdO tl u kn ns at_)) (hMT : MT σ ft T) (ok : TbOk T) {a sp : Nat} (ha : a < T.g) (hs : sp < 256) : EvP M_X11_hushed [.ref 272, .int (nI a), .int (nI sp)] σ (.int (nI (hushF T a (fun i => decide (bitN sp i = 1))))) := by
  obtain ⟨hTo, t0, t1, t2, t3, t28, tkd, thn, tkn, thf⟩ := id hMT
  obtain ⟨g3, g8, n1, n6, lw, stg, son, kd4, hn10, kn63, hf4⟩ := id ok
  have hn64 : 2 ^ T.n ≤ 2 ^ 6 := Nat.pow_le_pow_right (by decide) n6
  refine Ev.of (ls := [_, _, _, _, _, _]) 3 (by decide) rfl rfl ?_
  refine R_iconst (v := (-1)) a_X11_hushed_0 rfl ?_
  refine R_istore_n (ls' := [_, _, _, _, _, _]) a_X11_hushed_1 rfl rfl rfl ?_
  refine R_iconst (v := nI 0) a_X11_hushed_2 rfl ?_
  refine R_istore (ls' := [_, _, _, _, _, _]) a_X11_hushed_3 rfl rfl rfl ?_
  exact lp_hushed hM hMT ok ha hs _ 0 _ none rfl (Nat.zero_le _) rfl rfl

set_option maxRecDepth 20000 in
theorem md_saying {σ : AHp} {i t b : Nat} (hb : b ≤ 1) : EvP M_X11_saying [.int (nI i), .int (nI t), .int (nI b)] σ (.int (nI (sayC i t b))) := by
  refine Ev.of (ls := [_, _, _]) 0 (by decide) rfl rfl ?_
  refine R_bipush (v := nI 16) a_X11_saying_0 rfl ?_
  refine R_iload_n a_X11_saying_2 rfl ?_
  first | with_reducible refine R_imul_n a_X11_saying_3 ?_ | refine R_imul a_X11_saying_3 ?_
  refine R_iconst (v := nI 2) a_X11_saying_4 rfl ?_
  refine R_iload_n a_X11_saying_5 rfl ?_
  first | with_reducible refine R_imul_n a_X11_saying_6 ?_ | refine R_imul a_X11_saying_6 ?_
  first | with_reducible refine R_iadd_n a_X11_saying_7 ?_ | refine R_iadd a_X11_saying_7 ?_
  refine R_iload_n a_X11_saying_8 rfl ?_
  first | with_reducible refine R_if_eq_n a_X11_saying_9 (by omega) (fun h9 => ?_) (fun h9 => ?_) | refine R_if_eq a_X11_saying_9 (fun h9 => ?_) (fun h9 => ?_)
  · skip
    have hz : b = 0 := h9
    subst hz
    refine R_iconst (v := nI 0) a_X11_saying_16 rfl ?_
    first | with_reducible refine R_iadd_n a_X11_saying_17 ?_ | refine R_iadd a_X11_saying_17 ?_
    refine R_iret a_X11_saying_18 rfl ?_
    exact ⟨rfl, rfl⟩
  · skip
    have hz : b = 1 := by omega
    subst hz
    refine R_iconst (v := nI 1) a_X11_saying_12 rfl ?_
    refine R_goto a_X11_saying_13 ?_
    first | with_reducible refine R_iadd_n a_X11_saying_17 ?_ | refine R_iadd a_X11_saying_17 ?_
    refine R_iret a_X11_saying_18 rfl ?_
    exact ⟨rfl, rfl⟩

set_option maxRecDepth 20000 in
theorem md_countsOf {σ : AHp} {tl u kn ns : Nat} {at_ : Int32} {ft : Nat → Int32} {T : Tb} (hM : σ 272 = some (mdO tl u kn ns at_)) (hMT : MT σ ft T) (ok : TbOk T) {c w : Nat} (hc : CdOk T c) (hw : w < 2 ^ 31) : EvP M_X11_countsOf [.ref 272, .int (nI c), .int (nI w)] σ (.int (nI (cntOf T c w))) := by
  obtain ⟨hTo, t0, t1, t2, t3, t28, tkd, thn, tkn, thf⟩ := id hMT
  obtain ⟨g3, g8, n1, n6, lw, stg, son, kd4, hn10, kn63, hf4⟩ := id ok
  have hn64 : 2 ^ T.n ≤ 2 ^ 6 := Nat.pow_le_pow_right (by decide) n6
  have hc128 : c ≤ 128 := by
    rcases hc with q | q
    · omega
    · omega
  refine Ev.of (ls := [_, _, _, _]) 1 (by decide) rfl rfl ?_
  refine R_iload_n a_X11_countsOf_0 rfl ?_
  refine R_sipush (v := nI 128) a_X11_countsOf_1 rfl ?_
  first | with_reducible refine R_icmp_ne_n a_X11_countsOf_4 (by first | omega | exact Nat.lt_of_le_of_lt (inR_le _ _) (by decide) | exact Nat.lt_of_le_of_lt (bitN_le _ _) (by decide) | exact Nat.lt_of_le_of_lt (inI_le _ _ _) (by decide) | exact inI_le _ _ _ | exact inR_le _ _ | exact bitN_le _ _) (by first | omega | exact Nat.lt_of_le_of_lt (inR_le _ _) (by decide) | exact Nat.lt_of_le_of_lt (bitN_le _ _) (by decide) | exact Nat.lt_of_le_of_lt (inI_le _ _ _) (by decide) | exact inI_le _ _ _ | exact inR_le _ _ | exact bitN_le _ _) (fun h4 => ?_) (fun h4 => ?_) | refine R_icmp_ne a_X11_countsOf_4 (fun h4 => ?_) (fun h4 => ?_)
  · skip
    have hc2 : cTop c < T.n ∧ cWho c < T.g ∧ c < 128 := by
      rcases hc with q | q
      · exact absurd q h4
      · exact q
    obtain ⟨hc3, hc4, hc5⟩ := hc2
    have hc6 : c / 16 < T.n := hc3
    have hc7 : c / 2 % 8 < T.g := hc4
    refine R_iload_n a_X11_countsOf_9 rfl ?_
    refine R_bipush (v := nI 16) a_X11_countsOf_10 rfl ?_
    refine R_idiv_n a_X11_countsOf_12 (by first | omega | exact Nat.lt_of_le_of_lt (inR_le _ _) (by decide) | exact Nat.lt_of_le_of_lt (bitN_le _ _) (by decide) | exact Nat.lt_of_le_of_lt (inI_le _ _ _) (by decide) | exact inI_le _ _ _ | exact inR_le _ _ | exact bitN_le _ _) (by first | omega | exact Nat.lt_of_le_of_lt (inR_le _ _) (by decide) | exact Nat.lt_of_le_of_lt (bitN_le _ _) (by decide) | exact Nat.lt_of_le_of_lt (inI_le _ _ _) (by decide) | exact inI_le _ _ _ | exact inR_le _ _ | exact bitN_le _ _) (by first | omega | exact Nat.lt_of_le_of_lt (inR_le _ _) (by decide) | exact Nat.lt_of_le_of_lt (bitN_le _ _) (by decide) | exact Nat.lt_of_le_of_lt (inI_le _ _ _) (by decide) | exact inI_le _ _ _ | exact inR_le _ _ | exact bitN_le _ _) ?_
    refine R_istore_n (ls' := [_, _, _, _]) a_X11_countsOf_13 rfl rfl rfl ?_
    refine R_iload_n a_X11_countsOf_14 rfl ?_
    refine R_iconst (v := nI 1) a_X11_countsOf_15 rfl ?_
    first | with_reducible refine R_iand1 a_X11_countsOf_16 ?_ | with_reducible refine R_iand_n a_X11_countsOf_16 ?_ | refine R_iand a_X11_countsOf_16 ?_
    refine R_iload_n a_X11_countsOf_17 rfl ?_
    refine R_iload_n a_X11_countsOf_18 rfl ?_
    first | with_reducible refine R_ishr_n a_X11_countsOf_19 (by first | omega | exact Nat.lt_of_le_of_lt (inR_le _ _) (by decide) | exact Nat.lt_of_le_of_lt (bitN_le _ _) (by decide) | exact Nat.lt_of_le_of_lt (inI_le _ _ _) (by decide) | exact inI_le _ _ _ | exact inR_le _ _ | exact bitN_le _ _) (by first | omega | exact Nat.lt_of_le_of_lt (inR_le _ _) (by decide) | exact Nat.lt_of_le_of_lt (bitN_le _ _) (by decide) | exact Nat.lt_of_le_of_lt (inI_le _ _ _) (by decide) | exact inI_le _ _ _ | exact inR_le _ _ | exact bitN_le _ _) ?_ | refine R_ishr a_X11_countsOf_19 ?_
    refine R_iconst (v := nI 1) a_X11_countsOf_20 rfl ?_
    first | with_reducible refine R_iand1 a_X11_countsOf_21 ?_ | with_reducible refine R_iand_n a_X11_countsOf_21 ?_ | refine R_iand a_X11_countsOf_21 ?_
    refine R_icmp_ne_n (a := c % 2) (b := bitN w (c / 16)) a_X11_countsOf_22 (by omega) (Nat.lt_of_le_of_lt (bitN_le _ _) (by decide)) (fun h22 => ?_) (fun h22 => ?_)
    · skip
      have hz : cntOf T c w = cnt T (c / 2 % 8) (c / 16) := by
        unfold cntOf untr
        rw [if_pos (decide_eq_true ⟨h4, h22⟩)]
        rfl
      refine R_aload_n a_X11_countsOf_29 rfl ?_
      refine R_iload_n a_X11_countsOf_30 rfl ?_
      refine R_iconst (v := nI 2) a_X11_countsOf_31 rfl ?_
      refine R_idiv_n a_X11_countsOf_32 (by first | omega | exact Nat.lt_of_le_of_lt (inR_le _ _) (by decide) | exact Nat.lt_of_le_of_lt (bitN_le _ _) (by decide) | exact Nat.lt_of_le_of_lt (inI_le _ _ _) (by decide) | exact inI_le _ _ _ | exact inR_le _ _ | exact bitN_le _ _) (by first | omega | exact Nat.lt_of_le_of_lt (inR_le _ _) (by decide) | exact Nat.lt_of_le_of_lt (bitN_le _ _) (by decide) | exact Nat.lt_of_le_of_lt (inI_le _ _ _) (by decide) | exact inI_le _ _ _ | exact inR_le _ _ | exact bitN_le _ _) (by first | omega | exact Nat.lt_of_le_of_lt (inR_le _ _) (by decide) | exact Nat.lt_of_le_of_lt (bitN_le _ _) (by decide) | exact Nat.lt_of_le_of_lt (inI_le _ _ _) (by decide) | exact inI_le _ _ _ | exact inR_le _ _ | exact bitN_le _ _) ?_
      refine R_bipush (v := nI 8) a_X11_countsOf_33 rfl ?_
      refine R_irem_n a_X11_countsOf_35 (by first | omega | exact Nat.lt_of_le_of_lt (inR_le _ _) (by decide) | exact Nat.lt_of_le_of_lt (bitN_le _ _) (by decide) | exact Nat.lt_of_le_of_lt (inI_le _ _ _) (by decide) | exact inI_le _ _ _ | exact inR_le _ _ | exact bitN_le _ _) (by first | omega | exact Nat.lt_of_le_of_lt (inR_le _ _) (by decide) | exact Nat.lt_of_le_of_lt (bitN_le _ _) (by decide) | exact Nat.lt_of_le_of_lt (inI_le _ _ _) (by decide) | exact inI_le _ _ _ | exact inR_le _ _ | exact bitN_le _ _) (by first | omega | exact Nat.lt_of_le_of_lt (inR_le _ _) (by decide) | exact Nat.lt_of_le_of_lt (bitN_le _ _) (by decide) | exact Nat.lt_of_le_of_lt (inI_le _ _ _) (by decide) | exact inI_le _ _ _ | exact inR_le _ _ | exact bitN_le _ _) ?_
      refine R_iload_n a_X11_countsOf_36 rfl ?_
      refine R_callVp a_X11_countsOf_37 hM (md_counts hM hMT ok hc7 hc6) rfl rfl rfl rfl rfl ?_
      refine R_iret a_X11_countsOf_40 rfl ?_
      exact ⟨by rw [hz], rfl⟩
    · skip
      have hz : cntOf T c w = 0 := by
        unfold cntOf untr
        rw [if_neg]
        intro q
        exact (of_decide_eq_true q).2 h22
      refine R_iconst (v := nI 0) a_X11_countsOf_25 rfl ?_
      refine R_goto a_X11_countsOf_26 ?_
      refine R_iret a_X11_countsOf_40 rfl ?_
      exact ⟨by rw [hz], rfl⟩
  · skip
    have hz : cntOf T c w = 0 := by unfold cntOf untr; rw [if_neg (by simp [h4])]
    refine R_iconst (v := nI 0) a_X11_countsOf_7 rfl ?_
    refine R_iret a_X11_countsOf_8 rfl ?_
    exact ⟨by rw [hz], rfl⟩

def soF (c : Nat) : Nat := if c = 128 then 0 else 2 ^ cWho c
theorem soF_lt (c : Nat) : soF c < 2 ^ 8 := by
  unfold soF
  split
  · decide
  · exact Nat.pow_lt_pow_right (by decide) (by unfold cWho; omega)
theorem bitN_test (w i : Nat) : (bitN w i = 1) ↔ (w.testBit i = true) := by
  have h := Nat.toNat_testBit w i
  unfold bitN
  rw [← h]
  cases w.testBit i <;> decide
theorem soF_bit (c i : Nat) : (soF c).testBit i = true ↔ c ≠ 128 ∧ cWho c = i := by
  unfold soF
  split
  · rename_i h
    simp [h]
  · rename_i h
    rw [Nat.testBit_two_pow]
    simp [h]
theorem spk_bits (one two i : Nat) : decide (bitN (soF one ||| soF two) i = 1) = spk one two i := by
  unfold spk
  apply decide_eq_decide.mpr
  rw [bitN_test, Nat.testBit_or, Bool.or_eq_true, soF_bit, soF_bit]
set_option maxRecDepth 20000 in
theorem md_spokeOf {σ : AHp} {c : Nat} (hc : c ≤ 128) : EvP M_X11_spokeOf [.int (nI c)] σ (.int (nI (soF c))) := by
  refine Ev.of (ls := [_]) 0 (by decide) rfl rfl ?_
  refine R_iload_n a_X11_spokeOf_0 rfl ?_
  refine R_sipush (v := nI 128) a_X11_spokeOf_1 rfl ?_
  first | with_reducible refine R_icmp_ne_n a_X11_spokeOf_4 (by omega) (by omega) (fun h4 => ?_) (fun h4 => ?_) | refine R_icmp_ne a_X11_spokeOf_4 (fun h4 => ?_) (fun h4 => ?_)
  · skip
    have hz : soF c = 2 ^ (c / 2 % 8) := by unfold soF; rw [if_neg h4]; rfl
    refine R_iconst (v := nI 1) a_X11_spokeOf_11 rfl ?_
    refine R_iload_n a_X11_spokeOf_12 rfl ?_
    refine R_iconst (v := nI 2) a_X11_spokeOf_13 rfl ?_
    refine R_idiv_n a_X11_spokeOf_14 (by omega) (by omega) (by omega) ?_
    refine R_bipush (v := nI 8) a_X11_spokeOf_15 rfl ?_
    refine R_irem_n a_X11_spokeOf_17 (by omega) (by omega) (by omega) ?_
    first | with_reducible refine R_ishl1 a_X11_spokeOf_18 (by omega) ?_ | with_reducible refine R_ishl_n a_X11_spokeOf_18 (by omega) (by omega) ?_ | refine R_ishl a_X11_spokeOf_18 ?_
    refine R_iret a_X11_spokeOf_19 rfl ?_
    exact ⟨by rw [hz], rfl⟩
  · skip
    have hz : soF c = 0 := by unfold soF; rw [if_pos h4]
    refine R_iconst (v := nI 0) a_X11_spokeOf_7 rfl ?_
    refine R_goto a_X11_spokeOf_8 ?_
    refine R_iret a_X11_spokeOf_19 rfl ?_
    exact ⟨by rw [hz], rfl⟩

set_option maxRecDepth 20000 in
theorem md_comes {σ : AHp} {tl u kn ns : Nat} {at_ : Int32} {ft : Nat → Int32} {T : Tb} (hM : σ 272 = some (mdO tl u kn ns at_)) (hMT : MT σ ft T) (ok : TbOk T) {a c d w law : Nat} (ha : a < T.g) (hc : CdOk T c) (hd : CdOk T d) (hw : w < 2 ^ 31) (hl : law < 4) : EvP M_X11_comes [.ref 272, .int (nI a), .int (nI c), .int (nI d), .int (nI w), .int (nI law)] σ (.int (nI (comesF T a c d w law))) := by
  obtain ⟨hTo, t0, t1, t2, t3, t28, tkd, thn, tkn, thf⟩ := id hMT
  obtain ⟨g3, g8, n1, n6, lw, stg, son, kd4, hn10, kn63, hf4⟩ := id ok
  have hn64 : 2 ^ T.n ≤ 2 ^ 6 := Nat.pow_le_pow_right (by decide) n6
  have hc8 := cntOf_le8 ok (c := c) (hc.imp id (fun q => q.1)) w
  have hd8 := cntOf_le8 ok (c := d) (hd.imp id (fun q => q.1)) w
  have hc128 : c ≤ 128 := by
    rcases hc with q | q
    · omega
    · omega
  have hd128 : d ≤ 128 := by
    rcases hd with q | q
    · omega
    · omega
  have c128 : ∀ x, cntOf T 128 x = 0 := fun x => by unfold cntOf; rw [untr_128]; rfl
  have hcw : cntOf T d w < cntOf T c w → c / 2 % 8 < T.g := fun q => by
    rcases hc with e | e
    · rw [e, c128] at q; omega
    · exact e.2.1
  have hdw : cntOf T c w < cntOf T d w → d / 2 % 8 < T.g := fun q => by
    rcases hd with e | e
    · rw [e, c128] at q; omega
    · exact e.2.1
  refine Ev.of (ls := [_, _, _, _, _, _, _, _]) 2 (by decide) rfl rfl ?_
  refine R_aload_n a_X11_comes_0 rfl ?_
  refine R_iload_n a_X11_comes_1 rfl ?_
  refine R_iload a_X11_comes_2 rfl ?_
  refine R_callVp a_X11_comes_4 hM (md_countsOf hM hMT ok hc hw) rfl rfl rfl rfl rfl ?_
  refine R_istore (ls' := [_, _, _, _, _, _, _, _]) a_X11_comes_7 rfl rfl rfl ?_
  refine R_aload_n a_X11_comes_9 rfl ?_
  refine R_iload_n a_X11_comes_10 rfl ?_
  refine R_iload a_X11_comes_11 rfl ?_
  refine R_callVp a_X11_comes_13 hM (md_countsOf hM hMT ok hd hw) rfl rfl rfl rfl rfl ?_
  refine R_istore (ls' := [_, _, _, _, _, _, _, _]) a_X11_comes_16 rfl rfl rfl ?_
  refine R_iload a_X11_comes_18 rfl ?_
  first | with_reducible refine R_if_ne_n a_X11_comes_20 (by first | omega | exact Nat.lt_of_le_of_lt (inR_le _ _) (by decide) | exact Nat.lt_of_le_of_lt (bitN_le _ _) (by decide) | exact Nat.lt_of_le_of_lt (inI_le _ _ _) (by decide) | exact inI_le _ _ _ | exact inR_le _ _ | exact bitN_le _ _) (fun h20 => ?_) (fun h20 => ?_) | refine R_if_ne a_X11_comes_20 (fun h20 => ?_) (fun h20 => ?_)
  · skip
    have hnz : ¬ (cntOf T c w = 0 ∧ cntOf T d w = 0) := fun q => h20 q.1
    refine R_iload a_X11_comes_43 rfl ?_
    refine R_iload a_X11_comes_45 rfl ?_
    first | with_reducible refine R_icmp_ne_n a_X11_comes_47 (by first | omega | exact Nat.lt_of_le_of_lt (inR_le _ _) (by decide) | exact Nat.lt_of_le_of_lt (bitN_le _ _) (by decide) | exact Nat.lt_of_le_of_lt (inI_le _ _ _) (by decide) | exact inI_le _ _ _ | exact inR_le _ _ | exact bitN_le _ _) (by first | omega | exact Nat.lt_of_le_of_lt (inR_le _ _) (by decide) | exact Nat.lt_of_le_of_lt (bitN_le _ _) (by decide) | exact Nat.lt_of_le_of_lt (inI_le _ _ _) (by decide) | exact inI_le _ _ _ | exact inR_le _ _ | exact bitN_le _ _) (fun h47 => ?_) (fun h47 => ?_) | refine R_icmp_ne a_X11_comes_47 (fun h47 => ?_) (fun h47 => ?_)
    · skip
      refine R_iload a_X11_comes_52 rfl ?_
      refine R_iload a_X11_comes_54 rfl ?_
      first | with_reducible refine R_icmp_le_n a_X11_comes_56 (by first | omega | exact Nat.lt_of_le_of_lt (inR_le _ _) (by decide) | exact Nat.lt_of_le_of_lt (bitN_le _ _) (by decide) | exact Nat.lt_of_le_of_lt (inI_le _ _ _) (by decide) | exact inI_le _ _ _ | exact inR_le _ _ | exact bitN_le _ _) (by first | omega | exact Nat.lt_of_le_of_lt (inR_le _ _) (by decide) | exact Nat.lt_of_le_of_lt (bitN_le _ _) (by decide) | exact Nat.lt_of_le_of_lt (inI_le _ _ _) (by decide) | exact inI_le _ _ _ | exact inR_le _ _ | exact bitN_le _ _) (fun h56 => ?_) (fun h56 => ?_) | refine R_icmp_le a_X11_comes_56 (fun h56 => ?_) (fun h56 => ?_)
      · skip
        refine R_aload_n a_X11_comes_80 rfl ?_
        refine R_iload_n a_X11_comes_81 rfl ?_
        refine R_iload_n a_X11_comes_82 rfl ?_
        refine R_iconst (v := nI 2) a_X11_comes_83 rfl ?_
        refine R_idiv_n a_X11_comes_84 (by first | omega | exact Nat.lt_of_le_of_lt (inR_le _ _) (by decide) | exact Nat.lt_of_le_of_lt (bitN_le _ _) (by decide) | exact Nat.lt_of_le_of_lt (inI_le _ _ _) (by decide) | exact inI_le _ _ _ | exact inR_le _ _ | exact bitN_le _ _) (by first | omega | exact Nat.lt_of_le_of_lt (inR_le _ _) (by decide) | exact Nat.lt_of_le_of_lt (bitN_le _ _) (by decide) | exact Nat.lt_of_le_of_lt (inI_le _ _ _) (by decide) | exact inI_le _ _ _ | exact inR_le _ _ | exact bitN_le _ _) (by first | omega | exact Nat.lt_of_le_of_lt (inR_le _ _) (by decide) | exact Nat.lt_of_le_of_lt (bitN_le _ _) (by decide) | exact Nat.lt_of_le_of_lt (inI_le _ _ _) (by decide) | exact inI_le _ _ _ | exact inR_le _ _ | exact bitN_le _ _) ?_
        refine R_bipush (v := nI 8) a_X11_comes_85 rfl ?_
        refine R_irem_n a_X11_comes_87 (by first | omega | exact Nat.lt_of_le_of_lt (inR_le _ _) (by decide) | exact Nat.lt_of_le_of_lt (bitN_le _ _) (by decide) | exact Nat.lt_of_le_of_lt (inI_le _ _ _) (by decide) | exact inI_le _ _ _ | exact inR_le _ _ | exact bitN_le _ _) (by first | omega | exact Nat.lt_of_le_of_lt (inR_le _ _) (by decide) | exact Nat.lt_of_le_of_lt (bitN_le _ _) (by decide) | exact Nat.lt_of_le_of_lt (inI_le _ _ _) (by decide) | exact inI_le _ _ _ | exact inR_le _ _ | exact bitN_le _ _) (by first | omega | exact Nat.lt_of_le_of_lt (inR_le _ _) (by decide) | exact Nat.lt_of_le_of_lt (bitN_le _ _) (by decide) | exact Nat.lt_of_le_of_lt (inI_le _ _ _) (by decide) | exact inI_le _ _ _ | exact inR_le _ _ | exact bitN_le _ _) ?_
        refine R_iload a_X11_comes_88 rfl ?_
        refine R_iload a_X11_comes_90 rfl ?_
        first | with_reducible refine R_isub_n a_X11_comes_92 (by first | omega | exact Nat.lt_of_le_of_lt (inR_le _ _) (by decide) | exact Nat.lt_of_le_of_lt (bitN_le _ _) (by decide) | exact Nat.lt_of_le_of_lt (inI_le _ _ _) (by decide) | exact inI_le _ _ _ | exact inR_le _ _ | exact bitN_le _ _) ?_ | refine R_isub a_X11_comes_92 ?_
        refine R_iload a_X11_comes_93 rfl ?_
        refine R_callVp a_X11_comes_95 hM (md_drawn hM hMT ok ha (hdw (by omega)) (by omega) hl) rfl rfl rfl rfl rfl ?_
        refine R_iret a_X11_comes_98 rfl ?_
        exact ⟨by unfold comesF; rw [if_neg hnz, if_neg h47, if_neg (by omega)]; rfl, rfl⟩
      · skip
        refine R_aload_n a_X11_comes_59 rfl ?_
        refine R_iload_n a_X11_comes_60 rfl ?_
        refine R_iload_n a_X11_comes_61 rfl ?_
        refine R_iconst (v := nI 2) a_X11_comes_62 rfl ?_
        refine R_idiv_n a_X11_comes_63 (by first | omega | exact Nat.lt_of_le_of_lt (inR_le _ _) (by decide) | exact Nat.lt_of_le_of_lt (bitN_le _ _) (by decide) | exact Nat.lt_of_le_of_lt (inI_le _ _ _) (by decide) | exact inI_le _ _ _ | exact inR_le _ _ | exact bitN_le _ _) (by first | omega | exact Nat.lt_of_le_of_lt (inR_le _ _) (by decide) | exact Nat.lt_of_le_of_lt (bitN_le _ _) (by decide) | exact Nat.lt_of_le_of_lt (inI_le _ _ _) (by decide) | exact inI_le _ _ _ | exact inR_le _ _ | exact bitN_le _ _) (by first | omega | exact Nat.lt_of_le_of_lt (inR_le _ _) (by decide) | exact Nat.lt_of_le_of_lt (bitN_le _ _) (by decide) | exact Nat.lt_of_le_of_lt (inI_le _ _ _) (by decide) | exact inI_le _ _ _ | exact inR_le _ _ | exact bitN_le _ _) ?_
        refine R_bipush (v := nI 8) a_X11_comes_64 rfl ?_
        refine R_irem_n a_X11_comes_66 (by first | omega | exact Nat.lt_of_le_of_lt (inR_le _ _) (by decide) | exact Nat.lt_of_le_of_lt (bitN_le _ _) (by decide) | exact Nat.lt_of_le_of_lt (inI_le _ _ _) (by decide) | exact inI_le _ _ _ | exact inR_le _ _ | exact bitN_le _ _) (by first | omega | exact Nat.lt_of_le_of_lt (inR_le _ _) (by decide) | exact Nat.lt_of_le_of_lt (bitN_le _ _) (by decide) | exact Nat.lt_of_le_of_lt (inI_le _ _ _) (by decide) | exact inI_le _ _ _ | exact inR_le _ _ | exact bitN_le _ _) (by first | omega | exact Nat.lt_of_le_of_lt (inR_le _ _) (by decide) | exact Nat.lt_of_le_of_lt (bitN_le _ _) (by decide) | exact Nat.lt_of_le_of_lt (inI_le _ _ _) (by decide) | exact inI_le _ _ _ | exact inR_le _ _ | exact bitN_le _ _) ?_
        refine R_iload a_X11_comes_67 rfl ?_
        refine R_iload a_X11_comes_69 rfl ?_
        first | with_reducible refine R_isub_n a_X11_comes_71 (by first | omega | exact Nat.lt_of_le_of_lt (inR_le _ _) (by decide) | exact Nat.lt_of_le_of_lt (bitN_le _ _) (by decide) | exact Nat.lt_of_le_of_lt (inI_le _ _ _) (by decide) | exact inI_le _ _ _ | exact inR_le _ _ | exact bitN_le _ _) ?_ | refine R_isub a_X11_comes_71 ?_
        refine R_iload a_X11_comes_72 rfl ?_
        refine R_callVp a_X11_comes_74 hM (md_drawn hM hMT ok ha (hcw h56) (by omega) hl) rfl rfl rfl rfl rfl ?_
        refine R_goto a_X11_comes_77 ?_
        refine R_iret a_X11_comes_98 rfl ?_
        exact ⟨by unfold comesF; rw [if_neg hnz, if_neg h47, if_pos (by omega)]; rfl, rfl⟩
    · skip
      refine R_iload_n a_X11_comes_50 rfl ?_
      refine R_iret a_X11_comes_51 rfl ?_
      exact ⟨by unfold comesF; rw [if_neg hnz, if_pos h47], rfl⟩
  · skip
    refine R_iload a_X11_comes_23 rfl ?_
    first | with_reducible refine R_if_ne_n a_X11_comes_25 (by first | omega | exact Nat.lt_of_le_of_lt (inR_le _ _) (by decide) | exact Nat.lt_of_le_of_lt (bitN_le _ _) (by decide) | exact Nat.lt_of_le_of_lt (inI_le _ _ _) (by decide) | exact inI_le _ _ _ | exact inR_le _ _ | exact bitN_le _ _) (fun h25 => ?_) (fun h25 => ?_) | refine R_if_ne a_X11_comes_25 (fun h25 => ?_) (fun h25 => ?_)
    · skip
      have hnz : ¬ (cntOf T c w = 0 ∧ cntOf T d w = 0) := fun q => h25 q.2
      refine R_iload a_X11_comes_43 rfl ?_
      refine R_iload a_X11_comes_45 rfl ?_
      first | with_reducible refine R_icmp_ne_n a_X11_comes_47 (by first | omega | exact Nat.lt_of_le_of_lt (inR_le _ _) (by decide) | exact Nat.lt_of_le_of_lt (bitN_le _ _) (by decide) | exact Nat.lt_of_le_of_lt (inI_le _ _ _) (by decide) | exact inI_le _ _ _ | exact inR_le _ _ | exact bitN_le _ _) (by first | omega | exact Nat.lt_of_le_of_lt (inR_le _ _) (by decide) | exact Nat.lt_of_le_of_lt (bitN_le _ _) (by decide) | exact Nat.lt_of_le_of_lt (inI_le _ _ _) (by decide) | exact inI_le _ _ _ | exact inR_le _ _ | exact bitN_le _ _) (fun h47 => ?_) (fun h47 => ?_) | refine R_icmp_ne a_X11_comes_47 (fun h47 => ?_) (fun h47 => ?_)
      · skip
        refine R_iload a_X11_comes_52 rfl ?_
        refine R_iload a_X11_comes_54 rfl ?_
        first | with_reducible refine R_icmp_le_n a_X11_comes_56 (by first | omega | exact Nat.lt_of_le_of_lt (inR_le _ _) (by decide) | exact Nat.lt_of_le_of_lt (bitN_le _ _) (by decide) | exact Nat.lt_of_le_of_lt (inI_le _ _ _) (by decide) | exact inI_le _ _ _ | exact inR_le _ _ | exact bitN_le _ _) (by first | omega | exact Nat.lt_of_le_of_lt (inR_le _ _) (by decide) | exact Nat.lt_of_le_of_lt (bitN_le _ _) (by decide) | exact Nat.lt_of_le_of_lt (inI_le _ _ _) (by decide) | exact inI_le _ _ _ | exact inR_le _ _ | exact bitN_le _ _) (fun h56 => ?_) (fun h56 => ?_) | refine R_icmp_le a_X11_comes_56 (fun h56 => ?_) (fun h56 => ?_)
        · skip
          refine R_aload_n a_X11_comes_80 rfl ?_
          refine R_iload_n a_X11_comes_81 rfl ?_
          refine R_iload_n a_X11_comes_82 rfl ?_
          refine R_iconst (v := nI 2) a_X11_comes_83 rfl ?_
          refine R_idiv_n a_X11_comes_84 (by first | omega | exact Nat.lt_of_le_of_lt (inR_le _ _) (by decide) | exact Nat.lt_of_le_of_lt (bitN_le _ _) (by decide) | exact Nat.lt_of_le_of_lt (inI_le _ _ _) (by decide) | exact inI_le _ _ _ | exact inR_le _ _ | exact bitN_le _ _) (by first | omega | exact Nat.lt_of_le_of_lt (inR_le _ _) (by decide) | exact Nat.lt_of_le_of_lt (bitN_le _ _) (by decide) | exact Nat.lt_of_le_of_lt (inI_le _ _ _) (by decide) | exact inI_le _ _ _ | exact inR_le _ _ | exact bitN_le _ _) (by first | omega | exact Nat.lt_of_le_of_lt (inR_le _ _) (by decide) | exact Nat.lt_of_le_of_lt (bitN_le _ _) (by decide) | exact Nat.lt_of_le_of_lt (inI_le _ _ _) (by decide) | exact inI_le _ _ _ | exact inR_le _ _ | exact bitN_le _ _) ?_
          refine R_bipush (v := nI 8) a_X11_comes_85 rfl ?_
          refine R_irem_n a_X11_comes_87 (by first | omega | exact Nat.lt_of_le_of_lt (inR_le _ _) (by decide) | exact Nat.lt_of_le_of_lt (bitN_le _ _) (by decide) | exact Nat.lt_of_le_of_lt (inI_le _ _ _) (by decide) | exact inI_le _ _ _ | exact inR_le _ _ | exact bitN_le _ _) (by first | omega | exact Nat.lt_of_le_of_lt (inR_le _ _) (by decide) | exact Nat.lt_of_le_of_lt (bitN_le _ _) (by decide) | exact Nat.lt_of_le_of_lt (inI_le _ _ _) (by decide) | exact inI_le _ _ _ | exact inR_le _ _ | exact bitN_le _ _) (by first | omega | exact Nat.lt_of_le_of_lt (inR_le _ _) (by decide) | exact Nat.lt_of_le_of_lt (bitN_le _ _) (by decide) | exact Nat.lt_of_le_of_lt (inI_le _ _ _) (by decide) | exact inI_le _ _ _ | exact inR_le _ _ | exact bitN_le _ _) ?_
          refine R_iload a_X11_comes_88 rfl ?_
          refine R_iload a_X11_comes_90 rfl ?_
          first | with_reducible refine R_isub_n a_X11_comes_92 (by first | omega | exact Nat.lt_of_le_of_lt (inR_le _ _) (by decide) | exact Nat.lt_of_le_of_lt (bitN_le _ _) (by decide) | exact Nat.lt_of_le_of_lt (inI_le _ _ _) (by decide) | exact inI_le _ _ _ | exact inR_le _ _ | exact bitN_le _ _) ?_ | refine R_isub a_X11_comes_92 ?_
          refine R_iload a_X11_comes_93 rfl ?_
          refine R_callVp a_X11_comes_95 hM (md_drawn hM hMT ok ha (hdw (by omega)) (by omega) hl) rfl rfl rfl rfl rfl ?_
          refine R_iret a_X11_comes_98 rfl ?_
          exact ⟨by unfold comesF; rw [if_neg hnz, if_neg h47, if_neg (by omega)]; rfl, rfl⟩
        · skip
          refine R_aload_n a_X11_comes_59 rfl ?_
          refine R_iload_n a_X11_comes_60 rfl ?_
          refine R_iload_n a_X11_comes_61 rfl ?_
          refine R_iconst (v := nI 2) a_X11_comes_62 rfl ?_
          refine R_idiv_n a_X11_comes_63 (by first | omega | exact Nat.lt_of_le_of_lt (inR_le _ _) (by decide) | exact Nat.lt_of_le_of_lt (bitN_le _ _) (by decide) | exact Nat.lt_of_le_of_lt (inI_le _ _ _) (by decide) | exact inI_le _ _ _ | exact inR_le _ _ | exact bitN_le _ _) (by first | omega | exact Nat.lt_of_le_of_lt (inR_le _ _) (by decide) | exact Nat.lt_of_le_of_lt (bitN_le _ _) (by decide) | exact Nat.lt_of_le_of_lt (inI_le _ _ _) (by decide) | exact inI_le _ _ _ | exact inR_le _ _ | exact bitN_le _ _) (by first | omega | exact Nat.lt_of_le_of_lt (inR_le _ _) (by decide) | exact Nat.lt_of_le_of_lt (bitN_le _ _) (by decide) | exact Nat.lt_of_le_of_lt (inI_le _ _ _) (by decide) | exact inI_le _ _ _ | exact inR_le _ _ | exact bitN_le _ _) ?_
          refine R_bipush (v := nI 8) a_X11_comes_64 rfl ?_
          refine R_irem_n a_X11_comes_66 (by first | omega | exact Nat.lt_of_le_of_lt (inR_le _ _) (by decide) | exact Nat.lt_of_le_of_lt (bitN_le _ _) (by decide) | exact Nat.lt_of_le_of_lt (inI_le _ _ _) (by decide) | exact inI_le _ _ _ | exact inR_le _ _ | exact bitN_le _ _) (by first | omega | exact Nat.lt_of_le_of_lt (inR_le _ _) (by decide) | exact Nat.lt_of_le_of_lt (bitN_le _ _) (by decide) | exact Nat.lt_of_le_of_lt (inI_le _ _ _) (by decide) | exact inI_le _ _ _ | exact inR_le _ _ | exact bitN_le _ _) (by first | omega | exact Nat.lt_of_le_of_lt (inR_le _ _) (by decide) | exact Nat.lt_of_le_of_lt (bitN_le _ _) (by decide) | exact Nat.lt_of_le_of_lt (inI_le _ _ _) (by decide) | exact inI_le _ _ _ | exact inR_le _ _ | exact bitN_le _ _) ?_
          refine R_iload a_X11_comes_67 rfl ?_
          refine R_iload a_X11_comes_69 rfl ?_
          first | with_reducible refine R_isub_n a_X11_comes_71 (by first | omega | exact Nat.lt_of_le_of_lt (inR_le _ _) (by decide) | exact Nat.lt_of_le_of_lt (bitN_le _ _) (by decide) | exact Nat.lt_of_le_of_lt (inI_le _ _ _) (by decide) | exact inI_le _ _ _ | exact inR_le _ _ | exact bitN_le _ _) ?_ | refine R_isub a_X11_comes_71 ?_
          refine R_iload a_X11_comes_72 rfl ?_
          refine R_callVp a_X11_comes_74 hM (md_drawn hM hMT ok ha (hcw h56) (by omega) hl) rfl rfl rfl rfl rfl ?_
          refine R_goto a_X11_comes_77 ?_
          refine R_iret a_X11_comes_98 rfl ?_
          exact ⟨by unfold comesF; rw [if_neg hnz, if_neg h47, if_pos (by omega)]; rfl, rfl⟩
      · skip
        refine R_iload_n a_X11_comes_50 rfl ?_
        refine R_iret a_X11_comes_51 rfl ?_
        exact ⟨by unfold comesF; rw [if_neg hnz, if_pos h47], rfl⟩
    · skip
      refine R_aload_n a_X11_comes_28 rfl ?_
      refine R_iload_n a_X11_comes_29 rfl ?_
      refine R_iload_n a_X11_comes_30 rfl ?_
      refine R_callSp a_X11_comes_31 (md_spokeOf hc128) rfl rfl rfl rfl rfl ?_
      refine R_iload_n a_X11_comes_34 rfl ?_
      refine R_callSp a_X11_comes_35 (md_spokeOf hd128) rfl rfl rfl rfl rfl ?_
      first | with_reducible refine R_ior_n a_X11_comes_38 ?_ | refine R_ior a_X11_comes_38 ?_
      refine R_callVp a_X11_comes_39 hM (md_hushed hM hMT ok ha (show soF c ||| soF d < 256 from Nat.or_lt_two_pow (n := 8) (soF_lt c) (soF_lt d))) rfl rfl rfl rfl rfl ?_
      refine R_iret a_X11_comes_42 rfl ?_
      exact ⟨by unfold comesF; rw [if_pos ⟨h20, h25⟩, hushF_congr (fun i _ => spk_bits c d i)], rfl⟩

