/-! ===== SaltToLiarsModel: rounds ===== -/
def sh0 (f g : Nat → Int32) (k : Nat) : Nat → Int32 := fun j => if j < k then g j else f j
theorem sh0_up (f g : Nat → Int32) (k : Nat) : upd (sh0 f g k) k (g k) = sh0 f g (k + 1) := by
  funext j
  unfold upd sh0
  by_cases h : j = k
  · subst h; simp
  · by_cases h2 : j < k
    · simp [h, h2, Nat.lt_succ_of_lt h2]
    · have h3 : ¬ j < k + 1 := by omega
      simp [h, h2, h3]
theorem sh0_z (f g : Nat → Int32) : sh0 f g 0 = f := by funext j; unfold sh0; rw [if_neg (Nat.not_lt_zero j)]
theorem sh0_in (f g : Nat → Int32) {k j : Nat} (h : j < k) : sh0 f g k j = g j := by unfold sh0; rw [if_pos h]
theorem sh0_out (f g : Nat → Int32) {k j : Nat} (h : k ≤ j) : sh0 f g k j = f j := by unfold sh0; rw [if_neg (by omega)]
def shB (f g : Nat → Int32) (b k : Nat) : Nat → Int32 := fun j => if b ≤ j ∧ j < b + k then g (j - b) else f j
theorem shB_up (f g : Nat → Int32) (b k : Nat) : upd (shB f g b k) (b + k) (g k) = shB f g b (k + 1) := by
  funext j
  unfold upd shB
  by_cases h : j = b + k
  · subst h
    rw [if_pos rfl, if_pos ⟨by omega, by omega⟩, show b + k - b = k by omega]
  · rw [if_neg h]
    by_cases h2 : b ≤ j ∧ j < b + k
    · rw [if_pos h2, if_pos ⟨h2.1, by omega⟩]
    · rw [if_neg h2, if_neg (by omega)]
theorem shB_z (f g : Nat → Int32) (b : Nat) : shB f g b 0 = f := by funext j; unfold shB; rw [if_neg (by omega)]
/-- a saying counted in the row -/
def liF (f : Nat → Nat) (c w : Nat) : Nat → Nat := if untr c w = true then uN (uN f 2 (f 2 + 1)) (5 + cWho c) (uN f 2 (f 2 + 1) (5 + cWho c) + 1) else f
theorem liF_at (f : Nat → Nat) (c w j : Nat) : liF f c w j = if untr c w = true then (if j = 2 then f 2 + 1 else if j = 5 + cWho c then f j + 1 else f j) else f j := by
  unfold liF
  by_cases h : untr c w = true
  · rw [if_pos h, if_pos h]
    unfold uN
    by_cases h5 : j = 5 + cWho c
    · rw [if_pos h5, if_neg (show ¬ 5 + cWho c = 2 by omega), if_neg (show ¬ j = 2 by omega), if_pos h5, h5]
    · rw [if_neg h5]
      by_cases h2 : j = 2
      · rw [if_pos h2, if_pos h2]
      · rw [if_neg h2, if_neg h2, if_neg h5]
  · rw [if_neg h, if_neg h]
set_option maxRecDepth 20000 in
theorem md_lies {σ0 : AHp} {tl u kn ns : Nat} {at_ : Int32} {ft : Nat → Int32} {T : Tb} (hM : σ0 272 = some (mdO tl u kn ns at_)) (hMT : MT σ0 ft T) (ok : TbOk T) {c : Nat} {f : Nat → Nat} (hc : CdOk T c) (hSq : σ0 276 = some (iA 0 43 (nF f))) : EvW M_X11_lies [.ref 272, .int (nI c)] σ0 none (fun σ => σ 276 = some (iA 0 43 (nF (liF f c T.so))) ∧ ∀ j, j ≠ 276 → σ j = σ0 j) := by
  obtain ⟨hTo, t0, t1, t2, t3, t28, tkd, thn, tkn, thf⟩ := id hMT
  obtain ⟨g3, g8, n1, n6, lw, stg, son, kd4, hn10, kn63, hf4⟩ := id ok
  have hn64 : 2 ^ T.n ≤ 2 ^ 6 := Nat.pow_le_pow_right (by decide) n6
  have hfr : ∀ j, j ≠ 276 → σ0 j = σ0 j := fun _ _ => rfl
  have hc128 : c ≤ 128 := by
    rcases hc with q | q
    · omega
    · omega
  refine Ev.of (ls := [_, _]) 0 (by decide) rfl rfl ?_
  refine R_iload_n a_X11_lies_0 rfl ?_
  refine R_sipush (v := nI 128) a_X11_lies_1 rfl ?_
  first | with_reducible refine R_icmp_eq_n a_X11_lies_4 (by first | omega | exact Nat.lt_of_le_of_lt (inR_le _ _) (by decide) | exact Nat.lt_of_le_of_lt (bitN_le _ _) (by decide) | exact Nat.lt_of_le_of_lt (inI_le _ _ _) (by decide) | exact inI_le _ _ _ | exact inR_le _ _ | exact bitN_le _ _) (by first | omega | exact Nat.lt_of_le_of_lt (inR_le _ _) (by decide) | exact Nat.lt_of_le_of_lt (bitN_le _ _) (by decide) | exact Nat.lt_of_le_of_lt (inI_le _ _ _) (by decide) | exact inI_le _ _ _ | exact inR_le _ _ | exact bitN_le _ _) (fun h4 => ?_) (fun h4 => ?_) | refine R_icmp_eq a_X11_lies_4 (fun h4 => ?_) (fun h4 => ?_)
  · skip
    have hz : liF f c T.so = f := by unfold liF untr; rw [if_neg (by simp [h4])]
    refine R_vret a_X11_lies_54 rfl ?_
    exact ⟨rfl, by rw [hz]; exact hSq, hfr⟩
  · skip
    have hc2 : cTop c < T.n ∧ cWho c < T.g ∧ c < 128 := by
      rcases hc with q | q
      · exact absurd q h4
      · exact q
    obtain ⟨hc3, hc4, hc5⟩ := hc2
    have hc6 : c / 16 < T.n := hc3
    have hc7 : c / 2 % 8 < T.g := hc4
    refine R_iload_n a_X11_lies_7 rfl ?_
    refine R_iconst (v := nI 1) a_X11_lies_8 rfl ?_
    first | with_reducible refine R_iand1 a_X11_lies_9 ?_ | with_reducible refine R_iand_n a_X11_lies_9 ?_ | refine R_iand a_X11_lies_9 ?_
    refine R_aload_n a_X11_lies_10 rfl ?_
    refine R_get a_X11_lies_11 hM rfl ?_
    refine R_bipush (v := nI 28) a_X11_lies_14 rfl ?_
    refine R_iald_n a_X11_lies_16 hTo (by first | omega | exact Nat.lt_of_le_of_lt (inR_le _ _) (by decide) | exact Nat.lt_of_le_of_lt (bitN_le _ _) (by decide) | exact Nat.lt_of_le_of_lt (inI_le _ _ _) (by decide) | exact inI_le _ _ _ | exact inR_le _ _ | exact bitN_le _ _) (by decide) ?_
    refine R_top t28 ?_
    refine R_iload_n a_X11_lies_17 rfl ?_
    refine R_bipush (v := nI 16) a_X11_lies_18 rfl ?_
    refine R_idiv_n a_X11_lies_20 (by first | omega | exact Nat.lt_of_le_of_lt (inR_le _ _) (by decide) | exact Nat.lt_of_le_of_lt (bitN_le _ _) (by decide) | exact Nat.lt_of_le_of_lt (inI_le _ _ _) (by decide) | exact inI_le _ _ _ | exact inR_le _ _ | exact bitN_le _ _) (by first | omega | exact Nat.lt_of_le_of_lt (inR_le _ _) (by decide) | exact Nat.lt_of_le_of_lt (bitN_le _ _) (by decide) | exact Nat.lt_of_le_of_lt (inI_le _ _ _) (by decide) | exact inI_le _ _ _ | exact inR_le _ _ | exact bitN_le _ _) (by first | omega | exact Nat.lt_of_le_of_lt (inR_le _ _) (by decide) | exact Nat.lt_of_le_of_lt (bitN_le _ _) (by decide) | exact Nat.lt_of_le_of_lt (inI_le _ _ _) (by decide) | exact inI_le _ _ _ | exact inR_le _ _ | exact bitN_le _ _) ?_
    first | with_reducible refine R_ishr_n a_X11_lies_21 (by first | omega | exact Nat.lt_of_le_of_lt (inR_le _ _) (by decide) | exact Nat.lt_of_le_of_lt (bitN_le _ _) (by decide) | exact Nat.lt_of_le_of_lt (inI_le _ _ _) (by decide) | exact inI_le _ _ _ | exact inR_le _ _ | exact bitN_le _ _) (by first | omega | exact Nat.lt_of_le_of_lt (inR_le _ _) (by decide) | exact Nat.lt_of_le_of_lt (bitN_le _ _) (by decide) | exact Nat.lt_of_le_of_lt (inI_le _ _ _) (by decide) | exact inI_le _ _ _ | exact inR_le _ _ | exact bitN_le _ _) ?_ | refine R_ishr a_X11_lies_21 ?_
    refine R_iconst (v := nI 1) a_X11_lies_22 rfl ?_
    first | with_reducible refine R_iand1 a_X11_lies_23 ?_ | with_reducible refine R_iand_n a_X11_lies_23 ?_ | refine R_iand a_X11_lies_23 ?_
    refine R_icmp_eq_n (a := c % 2) (b := bitN T.so (c / 16)) a_X11_lies_24 (by omega) (Nat.lt_of_le_of_lt (bitN_le _ _) (by decide)) (fun h24 => ?_) (fun h24 => ?_)
    · skip
      have hz : liF f c T.so = f := by
        unfold liF untr
        rw [if_neg]
        intro q
        exact (of_decide_eq_true q).2 h24
      refine R_vret a_X11_lies_54 rfl ?_
      exact ⟨rfl, by rw [hz]; exact hSq, hfr⟩
    · skip
      have hz : liF f c T.so = uN (uN f 2 (f 2 + 1)) (5 + c / 2 % 8) (uN f 2 (f 2 + 1) (5 + c / 2 % 8) + 1) := by
        unfold liF untr
        rw [if_pos (decide_eq_true ⟨h4, h24⟩)]
        rfl
      refine R_aload_n a_X11_lies_27 rfl ?_
      refine R_get a_X11_lies_28 hM rfl ?_
      refine R_iconst (v := nI 2) a_X11_lies_31 rfl ?_
      refine R_dup2 a_X11_lies_32 rfl rfl ?_
      refine R_iald_n a_X11_lies_33 hSq (by first | omega | exact Nat.lt_of_le_of_lt (inR_le _ _) (by decide) | exact Nat.lt_of_le_of_lt (bitN_le _ _) (by decide) | exact Nat.lt_of_le_of_lt (inI_le _ _ _) (by decide) | exact inI_le _ _ _ | exact inR_le _ _ | exact bitN_le _ _) (by decide) ?_
      refine R_iconst (v := nI 1) a_X11_lies_34 rfl ?_
      first | with_reducible refine R_iadd_n a_X11_lies_35 ?_ | refine R_iadd a_X11_lies_35 ?_
      refine R_iastK a_X11_lies_36 (by omega) hSq (by first | omega | exact Nat.lt_of_le_of_lt (inR_le _ _) (by decide) | exact Nat.lt_of_le_of_lt (bitN_le _ _) (by decide) | exact Nat.lt_of_le_of_lt (inI_le _ _ _) (by decide) | exact inI_le _ _ _ | exact inR_le _ _ | exact bitN_le _ _) (by decide) (fun σ hSq ho => ?_)
      have hM := (ho _ (by omega)).trans hM
      have hTo := (ho _ (by omega)).trans hTo
      have hfr : ∀ j, j ≠ 276 → σ j = σ0 j := fun j hj => (ho j (by omega)).trans (hfr j hj)
      rw [nF_upd] at hSq
      refine R_aload_n a_X11_lies_37 rfl ?_
      refine R_get a_X11_lies_38 hM rfl ?_
      refine R_iconst (v := nI 5) a_X11_lies_41 rfl ?_
      refine R_iload_n a_X11_lies_42 rfl ?_
      refine R_iconst (v := nI 2) a_X11_lies_43 rfl ?_
      refine R_idiv_n a_X11_lies_44 (by first | omega | exact Nat.lt_of_le_of_lt (inR_le _ _) (by decide) | exact Nat.lt_of_le_of_lt (bitN_le _ _) (by decide) | exact Nat.lt_of_le_of_lt (inI_le _ _ _) (by decide) | exact inI_le _ _ _ | exact inR_le _ _ | exact bitN_le _ _) (by first | omega | exact Nat.lt_of_le_of_lt (inR_le _ _) (by decide) | exact Nat.lt_of_le_of_lt (bitN_le _ _) (by decide) | exact Nat.lt_of_le_of_lt (inI_le _ _ _) (by decide) | exact inI_le _ _ _ | exact inR_le _ _ | exact bitN_le _ _) (by first | omega | exact Nat.lt_of_le_of_lt (inR_le _ _) (by decide) | exact Nat.lt_of_le_of_lt (bitN_le _ _) (by decide) | exact Nat.lt_of_le_of_lt (inI_le _ _ _) (by decide) | exact inI_le _ _ _ | exact inR_le _ _ | exact bitN_le _ _) ?_
      refine R_bipush (v := nI 8) a_X11_lies_45 rfl ?_
      refine R_irem_n a_X11_lies_47 (by first | omega | exact Nat.lt_of_le_of_lt (inR_le _ _) (by decide) | exact Nat.lt_of_le_of_lt (bitN_le _ _) (by decide) | exact Nat.lt_of_le_of_lt (inI_le _ _ _) (by decide) | exact inI_le _ _ _ | exact inR_le _ _ | exact bitN_le _ _) (by first | omega | exact Nat.lt_of_le_of_lt (inR_le _ _) (by decide) | exact Nat.lt_of_le_of_lt (bitN_le _ _) (by decide) | exact Nat.lt_of_le_of_lt (inI_le _ _ _) (by decide) | exact inI_le _ _ _ | exact inR_le _ _ | exact bitN_le _ _) (by first | omega | exact Nat.lt_of_le_of_lt (inR_le _ _) (by decide) | exact Nat.lt_of_le_of_lt (bitN_le _ _) (by decide) | exact Nat.lt_of_le_of_lt (inI_le _ _ _) (by decide) | exact inI_le _ _ _ | exact inR_le _ _ | exact bitN_le _ _) ?_
      first | with_reducible refine R_iadd_n a_X11_lies_48 ?_ | refine R_iadd a_X11_lies_48 ?_
      refine R_dup2 a_X11_lies_49 rfl rfl ?_
      refine R_iald_n a_X11_lies_50 hSq (by first | omega | exact Nat.lt_of_le_of_lt (inR_le _ _) (by decide) | exact Nat.lt_of_le_of_lt (bitN_le _ _) (by decide) | exact Nat.lt_of_le_of_lt (inI_le _ _ _) (by decide) | exact inI_le _ _ _ | exact inR_le _ _ | exact bitN_le _ _) (by decide) ?_
      refine R_iconst (v := nI 1) a_X11_lies_51 rfl ?_
      first | with_reducible refine R_iadd_n a_X11_lies_52 ?_ | refine R_iadd a_X11_lies_52 ?_
      refine R_iastK a_X11_lies_53 (by omega) hSq (by first | omega | exact Nat.lt_of_le_of_lt (inR_le _ _) (by decide) | exact Nat.lt_of_le_of_lt (bitN_le _ _) (by decide) | exact Nat.lt_of_le_of_lt (inI_le _ _ _) (by decide) | exact inI_le _ _ _ | exact inR_le _ _ | exact bitN_le _ _) (by decide) (fun σ hSq ho => ?_)
      have hM := (ho _ (by omega)).trans hM
      have hTo := (ho _ (by omega)).trans hTo
      have hfr : ∀ j, j ≠ 276 → σ j = σ0 j := fun j hj => (ho j (by omega)).trans (hfr j hj)
      rw [nF_upd] at hSq
      refine R_vret a_X11_lies_54 rfl ?_
      exact ⟨rfl, by rw [hz]; exact hSq, hfr⟩

/-- the row while the last rounds are moved: those above 13 + k have been -/
def gF (T : Tb) (h : Hs) (c : Nat × Nat) (k : Nat) : Nat → Nat := fun j => if (j < 13 ∧ j ≠ 4) ∨ 13 + k < j then sF T (c :: h) j else sF T h j
theorem sF_next (T : Tb) (h : Hs) (c : Nat × Nat) (k : Nat) : sF T (c :: h) (13 + (k + 3)) = sF T h (13 + k) := by
  have e1 := sF_w T (c :: h) (k / 3 + 1) (k % 3) (Nat.mod_lt _ (by decide))
  have e2 := sF_w T h (k / 3) (k % 3) (Nat.mod_lt _ (by decide))
  rw [show 3 * (k / 3 + 1) + k % 3 = k + 3 by omega] at e1
  rw [show 3 * (k / 3) + k % 3 = k by omega] at e2
  rw [e1, e2, List.length_cons]
  by_cases q : k / 3 < h.length
  · rw [if_pos q, if_pos (by omega)]
    rfl
  · rw [if_neg q, if_neg (by omega)]
theorem gF_up (T : Tb) (h : Hs) (c : Nat × Nat) {k : Nat} (hk : 3 ≤ k) : upd (nF (gF T h c k)) (13 + k) (nF (gF T h c k) (13 + k - 3)) = nF (gF T h c (k - 1)) := by
  funext j
  unfold upd nF gF
  by_cases e : j = 13 + k
  · subst e
    rw [if_pos rfl, if_neg (by omega), if_pos (by omega), show 13 + k - 3 = 13 + (k - 3) by omega, ← sF_next T h c (k - 3), show k - 3 + 3 = k by omega]
  · rw [if_neg e]
    by_cases q : (j < 13 ∧ j ≠ 4) ∨ 13 + k < j
    · rw [if_pos q, if_pos (by omega)]
    · rw [if_neg q, if_neg (by omega)]
theorem gF_pos {T : Tb} {h : Hs} {c : Nat × Nat} {k j : Nat} (q : (j < 13 ∧ j ≠ 4) ∨ 13 + k < j) : gF T h c k j = sF T (c :: h) j := if_pos q
theorem gF_neg {T : Tb} {h : Hs} {c : Nat × Nat} {k j : Nat} (q : ¬ ((j < 13 ∧ j ≠ 4) ∨ 13 + k < j)) : gF T h c k j = sF T h j := if_neg q
theorem n_pred {k : Nat} (h : 1 ≤ k) : nI k + Int32.ofInt (-1) = nI (k - 1) := by
  obtain ⟨q, rfl⟩ : ∃ q, k = q + 1 := ⟨k - 1, by omega⟩
  exact pk_m1 q
theorem liF_far {f : Nat → Nat} {c w j : Nat} (h2 : ¬ j = 2) (h5 : ¬ j = 5 + cWho c) : liF f c w j = f j := by
  rw [liF_at, if_neg h2, if_neg h5, ite_self]
theorem gF_start (T : Tb) (h : Hs) (a b : Nat) {j : Nat} (hj : j < 43) : liF (liF (uN (uN (uN (sF T h) 0 (saltF T ((a, b) :: h))) 1 (h.length + 1)) 3 (trlF T h ||| 2 ^ saltF T ((a, b) :: h))) a T.so) b T.so j = gF T h (a, b) 29 j := by
  have hu : ∀ q, q ≠ 0 → q ≠ 1 → q ≠ 3 → uN (uN (uN (sF T h) 0 (saltF T ((a, b) :: h))) 1 (h.length + 1)) 3 (trlF T h ||| 2 ^ saltF T ((a, b) :: h)) q = sF T h q := by
    intro q h0 h1 h3
    unfold uN
    rw [if_neg h3, if_neg h1, if_neg h0]
  have hwa : cWho a < 8 := Nat.mod_lt _ (by decide)
  have hwb : cWho b < 8 := Nat.mod_lt _ (by decide)
  by_cases h0 : j = 0
  · subst h0
    rw [liF_far (by decide) (by omega), liF_far (by decide) (by omega), gF_pos (by omega)]
    rfl
  by_cases h1 : j = 1
  · subst h1
    rw [liF_far (by decide) (by omega), liF_far (by decide) (by omega), gF_pos (by omega)]
    rfl
  by_cases h3 : j = 3
  · subst h3
    rw [liF_far (by decide) (by omega), liF_far (by decide) (by omega), gF_pos (by omega)]
    rfl
  by_cases h2 : j = 2
  · subst h2
    rw [gF_pos (by omega), liF_at, liF_at, hu 2 (by decide) (by decide) (by decide), sF_2, sF_2]
    show _ = untF T h + b2n (untr a T.so) + b2n (untr b T.so)
    rcases b2n_val (untr a T.so) with ⟨e, q⟩ | ⟨e, q⟩ <;> rcases b2n_val (untr b T.so) with ⟨e', q'⟩ | ⟨e', q'⟩ <;> rw [e, e', q, q'] <;> simp
  by_cases h4 : j = 4
  · subst h4
    rw [liF_far (by decide) (by omega), liF_far (by decide) (by omega), gF_neg (by omega), hu 4 (by decide) (by decide) (by decide)]
  by_cases h13 : j < 13
  · rw [gF_pos (Or.inl ⟨h13, h4⟩), liF_at, if_neg h2, liF_at _ a, if_neg h2, hu j h0 h1 h3]
    obtain ⟨i, rfl⟩ : ∃ i, j = 5 + i := ⟨j - 5, by omega⟩
    rw [sF_ld T h (show i < 8 by omega), sF_ld T ((a, b) :: h) (show i < 8 by omega)]
    show _ = ad1 b T.so (ad1 a T.so (ldF T h)) i
    unfold ad1
    by_cases qa : untr a T.so = true <;> by_cases qb : untr b T.so = true <;> simp only [qa, qb, if_true, if_false, Bool.false_eq_true]
    · unfold uN
      by_cases ea : i = cWho a <;> by_cases eb : i = cWho b
      · subst ea; rw [← eb]; simp
      · subst ea; simp [eb]
      · subst eb; simp [ea]
      · simp [ea, eb]
    · unfold uN
      by_cases ea : i = cWho a
      · subst ea; simp
      · simp [ea]
    · unfold uN
      by_cases eb : i = cWho b
      · subst eb; simp
      · simp [eb]
  · rw [liF_far (by omega) (by omega), liF_far (by omega) (by omega), gF_neg (by omega), hu j h0 h1 h3]
theorem gF_end (T : Tb) (h : Hs) (a b : Nat) {j : Nat} (hj : j < 43) (v : Nat) (hv : v = min (h.length + 1) 10) : uN (uN (uN (uN (gF T h (a, b) 2) 13 (saltF T h)) 14 (saltF T ((a, b) :: h))) 15 (a + 256 * b)) 4 v j = sF T ((a, b) :: h) j := by
  unfold uN
  by_cases h4 : j = 4
  · subst h4; rw [if_pos rfl, hv]; rfl
  rw [if_neg h4]
  by_cases h15 : j = 15
  · subst h15; rw [if_pos rfl]; exact (sF_w2 T ((a, b) :: h) (k := 0) (by simp)).symm
  rw [if_neg h15]
  by_cases h14 : j = 14
  · subst h14; rw [if_pos rfl]; exact (sF_w1 T ((a, b) :: h) (k := 0) (by simp)).symm
  rw [if_neg h14]
  by_cases h13 : j = 13
  · subst h13; rw [if_pos rfl]; exact (sF_w0 T ((a, b) :: h) (k := 0) (by simp)).symm
  rw [if_neg h13]
  unfold gF
  rw [if_pos (by omega)]
set_option maxRecDepth 20000 in
theorem lp_goes {σ0 : AHp} {tl u kn ns : Nat} {at_ : Int32} {ft : Nat → Int32} {T : Tb} (hM : σ0 272 = some (mdO tl u kn ns at_)) (hMT : MT σ0 ft T) (ok : TbOk T) {h : Hs} {a b : Nat} (ha : CdOk T a) (hb : CdOk T b) : ∀ (n k : Nat) (σ : AHp), k - 2 = n → 2 ≤ k → k ≤ 29 → σ 276 = some (iA 0 43 (nF (gF T h (a, b) k))) → (∀ j, j ≠ 276 → σ j = σ0 j) → Run M_X11_goes 74 [some (.ref 272), some (.int (nI a)), some (.int (nI b)), some (.int (nI (saltF T h))), some (.int (nI k))] [] σ 0 0 (fun r σ => r = none ∧ σ 276 = some (iA 0 43 (nF (sF T ((a, b) :: h)))) ∧ ∀ j, j ≠ 276 → σ j = σ0 j) := by
  obtain ⟨hTo, t0, t1, t2, t3, t28, tkd, thn, tkn, thf⟩ := id hMT
  obtain ⟨g3, g8, n1, n6, lw, stg, son, kd4, hn10, kn63, hf4⟩ := id ok
  have hn64 : 2 ^ T.n ≤ 2 ^ 6 := Nat.pow_le_pow_right (by decide) n6
  have hsg := saltF_lt ok h
  have hsg2 := saltF_lt ok ((a, b) :: h)
  have ha128 : a ≤ 128 := by
    rcases ha with q | q
    · omega
    · omega
  have hb128 : b ≤ 128 := by
    rcases hb with q | q
    · omega
    · omega
  intro n
  induction n using Nat.strongRecOn
  rename_i n ih
  intro k σ hm hk2 hk29 hSq hfr
  have hM := (hfr 272 (by omega)).trans hM
  have hTo := (hfr 274 (by omega)).trans hTo
  refine R_iload a_X11_goes_74 rfl ?_
  refine R_iconst (v := nI 2) a_X11_goes_76 rfl ?_
  first | with_reducible refine R_icmp_le_n a_X11_goes_77 (by first | omega | exact Nat.lt_of_le_of_lt (inR_le _ _) (by decide) | exact Nat.lt_of_le_of_lt (bitN_le _ _) (by decide) | exact Nat.lt_of_le_of_lt (inI_le _ _ _) (by decide) | exact inI_le _ _ _ | exact inR_le _ _ | exact bitN_le _ _) (by first | omega | exact Nat.lt_of_le_of_lt (inR_le _ _) (by decide) | exact Nat.lt_of_le_of_lt (bitN_le _ _) (by decide) | exact Nat.lt_of_le_of_lt (inI_le _ _ _) (by decide) | exact inI_le _ _ _ | exact inR_le _ _ | exact bitN_le _ _) (fun h77 => ?_) (fun h77 => ?_) | refine R_icmp_le a_X11_goes_77 (fun h77 => ?_) (fun h77 => ?_)
  · skip
    have hke : k = 2 := by omega
    subst hke
    refine R_aload_n a_X11_goes_108 rfl ?_
    refine R_get a_X11_goes_109 hM rfl ?_
    refine R_bipush (v := nI 13) a_X11_goes_112 rfl ?_
    refine R_iload_n a_X11_goes_114 rfl ?_
    refine R_iastK a_X11_goes_115 (by omega) hSq (by first | omega | exact Nat.lt_of_le_of_lt (inR_le _ _) (by decide) | exact Nat.lt_of_le_of_lt (bitN_le _ _) (by decide) | exact Nat.lt_of_le_of_lt (inI_le _ _ _) (by decide) | exact inI_le _ _ _ | exact inR_le _ _ | exact bitN_le _ _) (by decide) (fun σ hSq ho => ?_)
    have hM := (ho _ (by omega)).trans hM
    have hTo := (ho _ (by omega)).trans hTo
    have hfr : ∀ j, j ≠ 276 → σ j = σ0 j := fun j hj => (ho j (by omega)).trans (hfr j hj)
    rw [nF_upd] at hSq
    refine R_aload_n a_X11_goes_116 rfl ?_
    refine R_get a_X11_goes_117 hM rfl ?_
    refine R_bipush (v := nI 14) a_X11_goes_120 rfl ?_
    refine R_aload_n a_X11_goes_122 rfl ?_
    refine R_get a_X11_goes_123 hM rfl ?_
    refine R_iconst (v := nI 0) a_X11_goes_126 rfl ?_
    refine R_iald_n a_X11_goes_127 hSq (by first | omega | exact Nat.lt_of_le_of_lt (inR_le _ _) (by decide) | exact Nat.lt_of_le_of_lt (bitN_le _ _) (by decide) | exact Nat.lt_of_le_of_lt (inI_le _ _ _) (by decide) | exact inI_le _ _ _ | exact inR_le _ _ | exact bitN_le _ _) (by decide) ?_
    refine R_top (show nF (uN (gF T h (a, b) 2) 13 (saltF T h)) 0 = nI (saltF T ((a, b) :: h)) from rfl) ?_
    refine R_iastK a_X11_goes_128 (by omega) hSq (by first | omega | exact Nat.lt_of_le_of_lt (inR_le _ _) (by decide) | exact Nat.lt_of_le_of_lt (bitN_le _ _) (by decide) | exact Nat.lt_of_le_of_lt (inI_le _ _ _) (by decide) | exact inI_le _ _ _ | exact inR_le _ _ | exact bitN_le _ _) (by decide) (fun σ hSq ho => ?_)
    have hM := (ho _ (by omega)).trans hM
    have hTo := (ho _ (by omega)).trans hTo
    have hfr : ∀ j, j ≠ 276 → σ j = σ0 j := fun j hj => (ho j (by omega)).trans (hfr j hj)
    rw [nF_upd] at hSq
    refine R_aload_n a_X11_goes_129 rfl ?_
    refine R_get a_X11_goes_130 hM rfl ?_
    refine R_bipush (v := nI 15) a_X11_goes_133 rfl ?_
    refine R_iload_n a_X11_goes_135 rfl ?_
    refine R_sipush (v := nI 256) a_X11_goes_136 rfl ?_
    refine R_iload_n a_X11_goes_139 rfl ?_
    first | with_reducible refine R_imul_n a_X11_goes_140 ?_ | refine R_imul a_X11_goes_140 ?_
    first | with_reducible refine R_iadd_n a_X11_goes_141 ?_ | refine R_iadd a_X11_goes_141 ?_
    refine R_iastK a_X11_goes_142 (by omega) hSq (by first | omega | exact Nat.lt_of_le_of_lt (inR_le _ _) (by decide) | exact Nat.lt_of_le_of_lt (bitN_le _ _) (by decide) | exact Nat.lt_of_le_of_lt (inI_le _ _ _) (by decide) | exact inI_le _ _ _ | exact inR_le _ _ | exact bitN_le _ _) (by decide) (fun σ hSq ho => ?_)
    have hM := (ho _ (by omega)).trans hM
    have hTo := (ho _ (by omega)).trans hTo
    have hfr : ∀ j, j ≠ 276 → σ j = σ0 j := fun j hj => (ho j (by omega)).trans (hfr j hj)
    rw [nF_upd] at hSq
    refine R_aload_n a_X11_goes_143 rfl ?_
    refine R_get a_X11_goes_144 hM rfl ?_
    refine R_iconst (v := nI 4) a_X11_goes_147 rfl ?_
    refine R_dup2 a_X11_goes_148 rfl rfl ?_
    refine R_iald_n a_X11_goes_149 hSq (by first | omega | exact Nat.lt_of_le_of_lt (inR_le _ _) (by decide) | exact Nat.lt_of_le_of_lt (bitN_le _ _) (by decide) | exact Nat.lt_of_le_of_lt (inI_le _ _ _) (by decide) | exact inI_le _ _ _ | exact inR_le _ _ | exact bitN_le _ _) (by decide) ?_
    refine R_top (show nF (uN (uN (uN (gF T h (a, b) 2) 13 (saltF T h)) 14 (saltF T ((a, b) :: h))) 15 (a + 256 * b)) 4 = nI (min h.length 10) from rfl) ?_
    refine R_aload_n a_X11_goes_150 rfl ?_
    refine R_get a_X11_goes_151 hM rfl ?_
    refine R_iconst (v := nI 4) a_X11_goes_154 rfl ?_
    refine R_iald_n a_X11_goes_155 hSq (by first | omega | exact Nat.lt_of_le_of_lt (inR_le _ _) (by decide) | exact Nat.lt_of_le_of_lt (bitN_le _ _) (by decide) | exact Nat.lt_of_le_of_lt (inI_le _ _ _) (by decide) | exact inI_le _ _ _ | exact inR_le _ _ | exact bitN_le _ _) (by decide) ?_
    refine R_top (show nF (uN (uN (uN (gF T h (a, b) 2) 13 (saltF T h)) 14 (saltF T ((a, b) :: h))) 15 (a + 256 * b)) 4 = nI (min h.length 10) from rfl) ?_
    refine R_bipush (v := nI 10) a_X11_goes_156 rfl ?_
    first | with_reducible refine R_icmp_ge_n a_X11_goes_158 (by first | omega | exact Nat.lt_of_le_of_lt (inR_le _ _) (by decide) | exact Nat.lt_of_le_of_lt (bitN_le _ _) (by decide) | exact Nat.lt_of_le_of_lt (inI_le _ _ _) (by decide) | exact inI_le _ _ _ | exact inR_le _ _ | exact bitN_le _ _) (by first | omega | exact Nat.lt_of_le_of_lt (inR_le _ _) (by decide) | exact Nat.lt_of_le_of_lt (bitN_le _ _) (by decide) | exact Nat.lt_of_le_of_lt (inI_le _ _ _) (by decide) | exact inI_le _ _ _ | exact inR_le _ _ | exact bitN_le _ _) (fun h158 => ?_) (fun h158 => ?_) | refine R_icmp_ge a_X11_goes_158 (fun h158 => ?_) (fun h158 => ?_)
    · skip
      have hv : min h.length 10 + 0 = min (h.length + 1) 10 := by omega
      refine R_iconst (v := nI 0) a_X11_goes_165 rfl ?_
      first | with_reducible refine R_iadd_n a_X11_goes_166 ?_ | refine R_iadd a_X11_goes_166 ?_
      refine R_iastK a_X11_goes_167 (by omega) hSq (by first | omega | exact Nat.lt_of_le_of_lt (inR_le _ _) (by decide) | exact Nat.lt_of_le_of_lt (bitN_le _ _) (by decide) | exact Nat.lt_of_le_of_lt (inI_le _ _ _) (by decide) | exact inI_le _ _ _ | exact inR_le _ _ | exact bitN_le _ _) (by decide) (fun σ hSq ho => ?_)
      have hM := (ho _ (by omega)).trans hM
      have hTo := (ho _ (by omega)).trans hTo
      have hfr : ∀ j, j ≠ 276 → σ j = σ0 j := fun j hj => (ho j (by omega)).trans (hfr j hj)
      rw [nF_upd] at hSq
      have hfr1 := hfr
      refine R_ext (nF (sF T ((a, b) :: h))) (by decide) hSq (fun j hj => congrArg nI (gF_end T h a b hj _ hv)) (fun σ hSq ho => ?_)
      have hfr : ∀ j, j ≠ 276 → σ j = σ0 j := fun j hj => (ho j hj).trans (hfr1 j hj)
      refine R_vret a_X11_goes_168 rfl ?_
      exact ⟨rfl, hSq, hfr⟩
    · skip
      have hv : min h.length 10 + 1 = min (h.length + 1) 10 := by omega
      refine R_iconst (v := nI 1) a_X11_goes_161 rfl ?_
      refine R_goto a_X11_goes_162 ?_
      first | with_reducible refine R_iadd_n a_X11_goes_166 ?_ | refine R_iadd a_X11_goes_166 ?_
      refine R_iastK a_X11_goes_167 (by omega) hSq (by first | omega | exact Nat.lt_of_le_of_lt (inR_le _ _) (by decide) | exact Nat.lt_of_le_of_lt (bitN_le _ _) (by decide) | exact Nat.lt_of_le_of_lt (inI_le _ _ _) (by decide) | exact inI_le _ _ _ | exact inR_le _ _ | exact bitN_le _ _) (by decide) (fun σ hSq ho => ?_)
      have hM := (ho _ (by omega)).trans hM
      have hTo := (ho _ (by omega)).trans hTo
      have hfr : ∀ j, j ≠ 276 → σ j = σ0 j := fun j hj => (ho j (by omega)).trans (hfr j hj)
      rw [nF_upd] at hSq
      have hfr1 := hfr
      refine R_ext (nF (sF T ((a, b) :: h))) (by decide) hSq (fun j hj => congrArg nI (gF_end T h a b hj _ hv)) (fun σ hSq ho => ?_)
      have hfr : ∀ j, j ≠ 276 → σ j = σ0 j := fun j hj => (ho j hj).trans (hfr1 j hj)
      refine R_vret a_X11_goes_168 rfl ?_
      exact ⟨rfl, hSq, hfr⟩
  · skip
    refine R_aload_n a_X11_goes_80 rfl ?_
    refine R_get a_X11_goes_81 hM rfl ?_
    refine R_bipush (v := nI 13) a_X11_goes_84 rfl ?_
    refine R_iload a_X11_goes_86 rfl ?_
    first | with_reducible refine R_iadd_n a_X11_goes_88 ?_ | refine R_iadd a_X11_goes_88 ?_
    refine R_aload_n a_X11_goes_89 rfl ?_
    refine R_get a_X11_goes_90 hM rfl ?_
    refine R_bipush (v := nI 13) a_X11_goes_93 rfl ?_
    refine R_iload a_X11_goes_95 rfl ?_
    first | with_reducible refine R_iadd_n a_X11_goes_97 ?_ | refine R_iadd a_X11_goes_97 ?_
    refine R_iconst (v := nI 3) a_X11_goes_98 rfl ?_
    first | with_reducible refine R_isub_n a_X11_goes_99 (by first | omega | exact Nat.lt_of_le_of_lt (inR_le _ _) (by decide) | exact Nat.lt_of_le_of_lt (bitN_le _ _) (by decide) | exact Nat.lt_of_le_of_lt (inI_le _ _ _) (by decide) | exact inI_le _ _ _ | exact inR_le _ _ | exact bitN_le _ _) ?_ | refine R_isub a_X11_goes_99 ?_
    refine R_iald_n a_X11_goes_100 hSq (by first | omega | exact Nat.lt_of_le_of_lt (inR_le _ _) (by decide) | exact Nat.lt_of_le_of_lt (bitN_le _ _) (by decide) | exact Nat.lt_of_le_of_lt (inI_le _ _ _) (by decide) | exact inI_le _ _ _ | exact inR_le _ _ | exact bitN_le _ _) (by decide) ?_
    refine R_iastK a_X11_goes_101 (by omega) hSq (by first | omega | exact Nat.lt_of_le_of_lt (inR_le _ _) (by decide) | exact Nat.lt_of_le_of_lt (bitN_le _ _) (by decide) | exact Nat.lt_of_le_of_lt (inI_le _ _ _) (by decide) | exact inI_le _ _ _ | exact inR_le _ _ | exact bitN_le _ _) (by decide) (fun σ hSq ho => ?_)
    have hM := (ho _ (by omega)).trans hM
    have hTo := (ho _ (by omega)).trans hTo
    have hfr : ∀ j, j ≠ 276 → σ j = σ0 j := fun j hj => (ho j (by omega)).trans (hfr j hj)
    rw [gF_up T h (a, b) (show 3 ≤ k by omega)] at hSq
    refine R_iinc (v := nI (k - 1)) (ls' := [_, _, _, _, _]) a_X11_goes_102 rfl (n_pred (show 1 ≤ k by omega)) rfl rfl rfl ?_
    refine R_goto a_X11_goes_105 ?_
    exact ih _ (show k - 1 - 2 < n by omega) (k - 1) σ rfl (by omega) (by omega) hSq hfr

set_option maxRecDepth 20000 in
theorem md_goes {σ0 : AHp} {tl u kn ns : Nat} {at_ : Int32} {ft : Nat → Int32} {T : Tb} (hM : σ0 272 = some (mdO tl u kn ns at_)) (hMT : MT σ0 ft T) (ok : TbOk T) {h : Hs} {a b : Nat} (ha : CdOk T a) (hb : CdOk T b) (hSq : σ0 276 = some (iA 0 43 (nF (sF T h)))) : EvW M_X11_goes [.ref 272, .int (nI a), .int (nI b)] σ0 none (fun σ => σ 276 = some (iA 0 43 (nF (sF T ((a, b) :: h)))) ∧ ∀ j, j ≠ 276 → σ j = σ0 j) := by
  have hM0 := hM
  obtain ⟨hTo, t0, t1, t2, t3, t28, tkd, thn, tkn, thf⟩ := id hMT
  obtain ⟨g3, g8, n1, n6, lw, stg, son, kd4, hn10, kn63, hf4⟩ := id ok
  have hn64 : 2 ^ T.n ≤ 2 ^ 6 := Nat.pow_le_pow_right (by decide) n6
  have hsg := saltF_lt ok h
  have hsg2 := saltF_lt ok ((a, b) :: h)
  have ha128 : a ≤ 128 := by
    rcases ha with q | q
    · omega
    · omega
  have hb128 : b ≤ 128 := by
    rcases hb with q | q
    · omega
    · omega
  have hfr : ∀ j, j ≠ 276 → σ0 j = σ0 j := fun _ _ => rfl
  refine Ev.of (ls := [_, _, _, _, _]) 2 (by decide) rfl rfl ?_
  refine R_aload_n a_X11_goes_0 rfl ?_
  refine R_get a_X11_goes_1 hM rfl ?_
  refine R_iconst (v := nI 0) a_X11_goes_4 rfl ?_
  refine R_iald_n a_X11_goes_5 hSq (by first | omega | exact Nat.lt_of_le_of_lt (inR_le _ _) (by decide) | exact Nat.lt_of_le_of_lt (bitN_le _ _) (by decide) | exact Nat.lt_of_le_of_lt (inI_le _ _ _) (by decide) | exact inI_le _ _ _ | exact inR_le _ _ | exact bitN_le _ _) (by decide) ?_
  refine R_top (congrArg nI (sF_0 T h)) ?_
  refine R_istore_n (ls' := [_, _, _, _, _]) a_X11_goes_6 rfl rfl rfl ?_
  refine R_aload_n a_X11_goes_7 rfl ?_
  refine R_get a_X11_goes_8 hM rfl ?_
  refine R_iconst (v := nI 0) a_X11_goes_11 rfl ?_
  refine R_aload_n a_X11_goes_12 rfl ?_
  refine R_iload_n a_X11_goes_13 rfl ?_
  refine R_iload_n a_X11_goes_14 rfl ?_
  refine R_iload_n a_X11_goes_15 rfl ?_
  refine R_aload_n a_X11_goes_16 rfl ?_
  refine R_get a_X11_goes_17 hM rfl ?_
  refine R_bipush (v := nI 28) a_X11_goes_20 rfl ?_
  refine R_iald_n a_X11_goes_22 hTo (by first | omega | exact Nat.lt_of_le_of_lt (inR_le _ _) (by decide) | exact Nat.lt_of_le_of_lt (bitN_le _ _) (by decide) | exact Nat.lt_of_le_of_lt (inI_le _ _ _) (by decide) | exact inI_le _ _ _ | exact inR_le _ _ | exact bitN_le _ _) (by decide) ?_
  refine R_top t28 ?_
  refine R_aload_n a_X11_goes_23 rfl ?_
  refine R_get a_X11_goes_24 hM rfl ?_
  refine R_iconst (v := nI 2) a_X11_goes_27 rfl ?_
  refine R_iald_n a_X11_goes_28 hTo (by first | omega | exact Nat.lt_of_le_of_lt (inR_le _ _) (by decide) | exact Nat.lt_of_le_of_lt (bitN_le _ _) (by decide) | exact Nat.lt_of_le_of_lt (inI_le _ _ _) (by decide) | exact inI_le _ _ _ | exact inR_le _ _ | exact bitN_le _ _) (by decide) ?_
  refine R_top t2 ?_
  refine R_callVp a_X11_goes_29 hM (md_comes hM hMT ok hsg ha hb (show T.so < 2 ^ 31 by omega) lw) rfl rfl rfl rfl rfl ?_
  refine R_top (show nI (comesF T (saltF T h) a b T.so T.law) = nI (saltF T ((a, b) :: h)) from rfl) ?_
  refine R_iastK a_X11_goes_32 (by omega) hSq (by first | omega | exact Nat.lt_of_le_of_lt (inR_le _ _) (by decide) | exact Nat.lt_of_le_of_lt (bitN_le _ _) (by decide) | exact Nat.lt_of_le_of_lt (inI_le _ _ _) (by decide) | exact inI_le _ _ _ | exact inR_le _ _ | exact bitN_le _ _) (by decide) (fun σ hSq ho => ?_)
  have hM := (ho _ (by omega)).trans hM
  have hTo := (ho _ (by omega)).trans hTo
  have hfr : ∀ j, j ≠ 276 → σ j = σ0 j := fun j hj => (ho j (by omega)).trans (hfr j hj)
  rw [nF_upd] at hSq
  refine R_aload_n a_X11_goes_33 rfl ?_
  refine R_get a_X11_goes_34 hM rfl ?_
  refine R_iconst (v := nI 1) a_X11_goes_37 rfl ?_
  refine R_dup2 a_X11_goes_38 rfl rfl ?_
  refine R_iald_n a_X11_goes_39 hSq (by first | omega | exact Nat.lt_of_le_of_lt (inR_le _ _) (by decide) | exact Nat.lt_of_le_of_lt (bitN_le _ _) (by decide) | exact Nat.lt_of_le_of_lt (inI_le _ _ _) (by decide) | exact inI_le _ _ _ | exact inR_le _ _ | exact bitN_le _ _) (by decide) ?_
  refine R_top (show nF (uN (sF T h) 0 (saltF T ((a, b) :: h))) 1 = nI h.length from rfl) ?_
  refine R_iconst (v := nI 1) a_X11_goes_40 rfl ?_
  first | with_reducible refine R_iadd_n a_X11_goes_41 ?_ | refine R_iadd a_X11_goes_41 ?_
  refine R_iastK a_X11_goes_42 (by omega) hSq (by first | omega | exact Nat.lt_of_le_of_lt (inR_le _ _) (by decide) | exact Nat.lt_of_le_of_lt (bitN_le _ _) (by decide) | exact Nat.lt_of_le_of_lt (inI_le _ _ _) (by decide) | exact inI_le _ _ _ | exact inR_le _ _ | exact bitN_le _ _) (by decide) (fun σ hSq ho => ?_)
  have hM := (ho _ (by omega)).trans hM
  have hTo := (ho _ (by omega)).trans hTo
  have hfr : ∀ j, j ≠ 276 → σ j = σ0 j := fun j hj => (ho j (by omega)).trans (hfr j hj)
  rw [nF_upd] at hSq
  refine R_aload_n a_X11_goes_43 rfl ?_
  refine R_get a_X11_goes_44 hM rfl ?_
  refine R_iconst (v := nI 3) a_X11_goes_47 rfl ?_
  refine R_dup2 a_X11_goes_48 rfl rfl ?_
  refine R_iald_n a_X11_goes_49 hSq (by first | omega | exact Nat.lt_of_le_of_lt (inR_le _ _) (by decide) | exact Nat.lt_of_le_of_lt (bitN_le _ _) (by decide) | exact Nat.lt_of_le_of_lt (inI_le _ _ _) (by decide) | exact inI_le _ _ _ | exact inR_le _ _ | exact bitN_le _ _) (by decide) ?_
  refine R_top (show nF (uN (uN (sF T h) 0 (saltF T ((a, b) :: h))) 1 (h.length + 1)) 3 = nI (trlF T h) from rfl) ?_
  refine R_iconst (v := nI 1) a_X11_goes_50 rfl ?_
  refine R_aload_n a_X11_goes_51 rfl ?_
  refine R_get a_X11_goes_52 hM rfl ?_
  refine R_iconst (v := nI 0) a_X11_goes_55 rfl ?_
  refine R_iald_n a_X11_goes_56 hSq (by first | omega | exact Nat.lt_of_le_of_lt (inR_le _ _) (by decide) | exact Nat.lt_of_le_of_lt (bitN_le _ _) (by decide) | exact Nat.lt_of_le_of_lt (inI_le _ _ _) (by decide) | exact inI_le _ _ _ | exact inR_le _ _ | exact bitN_le _ _) (by decide) ?_
  refine R_top (show nF (uN (uN (sF T h) 0 (saltF T ((a, b) :: h))) 1 (h.length + 1)) 0 = nI (saltF T ((a, b) :: h)) from rfl) ?_
  first | with_reducible refine R_ishl1 a_X11_goes_57 (by first | omega | exact Nat.lt_of_le_of_lt (inR_le _ _) (by decide) | exact Nat.lt_of_le_of_lt (bitN_le _ _) (by decide) | exact Nat.lt_of_le_of_lt (inI_le _ _ _) (by decide) | exact inI_le _ _ _ | exact inR_le _ _ | exact bitN_le _ _) ?_ | with_reducible refine R_ishl_n a_X11_goes_57 (by first | omega | exact Nat.lt_of_le_of_lt (inR_le _ _) (by decide) | exact Nat.lt_of_le_of_lt (bitN_le _ _) (by decide) | exact Nat.lt_of_le_of_lt (inI_le _ _ _) (by decide) | exact inI_le _ _ _ | exact inR_le _ _ | exact bitN_le _ _) (by first | omega | exact Nat.lt_of_le_of_lt (inR_le _ _) (by decide) | exact Nat.lt_of_le_of_lt (bitN_le _ _) (by decide) | exact Nat.lt_of_le_of_lt (inI_le _ _ _) (by decide) | exact inI_le _ _ _ | exact inR_le _ _ | exact bitN_le _ _) ?_ | refine R_ishl a_X11_goes_57 ?_
  first | with_reducible refine R_ior_n a_X11_goes_58 ?_ | refine R_ior a_X11_goes_58 ?_
  refine R_iastK a_X11_goes_59 (by omega) hSq (by first | omega | exact Nat.lt_of_le_of_lt (inR_le _ _) (by decide) | exact Nat.lt_of_le_of_lt (bitN_le _ _) (by decide) | exact Nat.lt_of_le_of_lt (inI_le _ _ _) (by decide) | exact inI_le _ _ _ | exact inR_le _ _ | exact bitN_le _ _) (by decide) (fun σ hSq ho => ?_)
  have hM := (ho _ (by omega)).trans hM
  have hTo := (ho _ (by omega)).trans hTo
  have hfr : ∀ j, j ≠ 276 → σ j = σ0 j := fun j hj => (ho j (by omega)).trans (hfr j hj)
  rw [nF_upd] at hSq
  refine R_aload_n a_X11_goes_60 rfl ?_
  refine R_iload_n a_X11_goes_61 rfl ?_
  refine R_callVv a_X11_goes_62 hM (md_lies hM ⟨hTo, t0, t1, t2, t3, t28, tkd, thn, tkn, thf⟩ ok ha hSq) rfl rfl rfl rfl rfl (fun σ hP => ?_)
  obtain ⟨hSq, hf⟩ := hP
  have hM := (hf 272 (by omega)).trans hM
  have hTo := (hf 274 (by omega)).trans hTo
  have hfr : ∀ j, j ≠ 276 → σ j = σ0 j := fun j hj => (hf j hj).trans (hfr j hj)
  refine R_aload_n a_X11_goes_65 rfl ?_
  refine R_iload_n a_X11_goes_66 rfl ?_
  refine R_callVv a_X11_goes_67 hM (md_lies hM ⟨hTo, t0, t1, t2, t3, t28, tkd, thn, tkn, thf⟩ ok hb hSq) rfl rfl rfl rfl rfl (fun σ hP => ?_)
  obtain ⟨hSq, hf⟩ := hP
  have hM := (hf 272 (by omega)).trans hM
  have hTo := (hf 274 (by omega)).trans hTo
  have hfr : ∀ j, j ≠ 276 → σ j = σ0 j := fun j hj => (hf j hj).trans (hfr j hj)
  have hfr1 := hfr
  refine R_ext (nF (gF T h (a, b) 29)) (by decide) hSq (fun j hj => congrArg nI (gF_start T h a b hj)) (fun σ hSq ho => ?_)
  have hM := (ho 272 (by omega)).trans hM
  have hfr : ∀ j, j ≠ 276 → σ j = σ0 j := fun j hj => (ho j hj).trans (hfr1 j hj)
  refine R_bipush (v := nI 29) a_X11_goes_70 rfl ?_
  refine R_istore (ls' := [_, _, _, _, _]) a_X11_goes_72 rfl rfl rfl ?_
  exact lp_goes hM0 hMT ok ha hb _ 29 σ rfl (by decide) (by decide) hSq hfr

