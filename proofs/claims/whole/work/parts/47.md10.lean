/-! ===== SaltToLiarsModel: the text ===== -/
def ltI (tf : Nat → Nat) (tl k : Nat) : Int32 := if k < tl then nI (tf k) else -1
theorem lt_cases (tf : Nat → Nat) (tl k : Nat) : (k < tl ∧ ltI tf tl k = nI (tf k) ∧ tg tf tl k = tf k) ∨ (¬ k < tl ∧ ltI tf tl k = -1 ∧ tg tf tl k = 0) := by
  by_cases h : k < tl
  · exact Or.inl ⟨h, if_pos h, if_pos h⟩
  · exact Or.inr ⟨h, if_neg h, if_neg h⟩
theorem lt_fig {tf : Nat → Nat} {tl : Nat} (htf : ∀ j, j < tl → tf j < 127) (k : Nat) : inI (ltI tf tl k) (nI 48) (nI 57) = b2n (fig (tg tf tl k)) := by
  rcases lt_cases tf tl k with ⟨h1, h2, h3⟩ | ⟨h1, h2, h3⟩
  · have h4 := htf k h1
    rw [h2, h3]
    unfold inI fig
    by_cases q : 48 ≤ tf k ∧ tf k ≤ 57
    · rw [if_pos ⟨nI_nlt (by omega) (by omega), nI_nlt (by omega) (by omega)⟩, decide_eq_true q]
      rfl
    · rw [decide_eq_false q, if_neg]
      · rfl
      · rintro ⟨q1, q2⟩
        exact q ⟨Nat.not_lt.mp (fun w => q1 ((nI_ltI (by omega) (by omega)).mpr w)), Nat.not_lt.mp (fun w => q2 ((nI_ltI (by omega) (by omega)).mpr w))⟩
  · rw [h2, h3]
    decide
theorem lt_in {tf : Nat → Nat} {tl k : Nat} (h : fig (tg tf tl k) = true) : ltI tf tl k = nI (tg tf tl k) := by
  rcases lt_cases tf tl k with ⟨h1, h2, h3⟩ | ⟨h1, h2, h3⟩
  · rw [h2, h3]
  · rw [h3] at h; exact absurd h (by decide)
theorem lt_eq {tf : Nat → Nat} {tl k e : Nat} (htf : ∀ j, j < tl → tf j < 127) (he : 0 < e) (he2 : e < 127) : ltI tf tl k = nI e ↔ tg tf tl k = e := by
  rcases lt_cases tf tl k with ⟨h1, h2, h3⟩ | ⟨h1, h2, h3⟩
  · have h4 := htf k h1
    rw [h2, h3]
    constructor
    · intro q
      have := congrArg iN q
      rwa [iN_nI (by omega), iN_nI (by omega)] at this
    · intro q; rw [q]
  · rw [h2, h3]
    constructor
    · intro q
      have h5 : nI e < 0 := by rw [← q]; decide
      exact absurd h5 (nI_pos (by omega))
    · intro q; omega
/-- a number with what ends it -/
def nbF (t : Nat → Nat) (p hi e : Nat) : Option (Nat × Nat) := match numF t p with
  | none => none
  | some (v, q) => if t q = e ∧ v ≤ hi then some (v, q + 1) else none
def nbI (o : Option (Nat × Nat)) : Int32 := match o with
  | none => -1
  | some (v, _) => nI v
theorem nb_up {t : Nat → Nat} {p hi e v q : Nat} (h : nbF t p hi e = some (v, q)) : v ≤ hi ∧ p + 2 ≤ q ∧ q ≤ p + 3 := by
  unfold nbF at h
  cases hn : numF t p with
  | none => rw [hn] at h; cases h
  | some vq =>
    obtain ⟨v1, q1⟩ := vq
    have hu := numF_up hn
    rw [hn] at h
    simp only at h
    by_cases e1 : t q1 = e ∧ v1 ≤ hi
    · rw [if_pos e1] at h
      cases h
      omega
    · rw [if_neg e1] at h; cases h
theorem nb_ge {t : Nat → Nat} {p hi e : Nat} (h : 0 ≤ nbI (nbF t p hi e)) : ∃ v q, nbF t p hi e = some (v, q) ∧ v ≤ hi ∧ q ≤ p + 3 ∧ nbI (nbF t p hi e) = nI v := by
  cases ho : nbF t p hi e with
  | none => rw [ho] at h; exact absurd h (by decide)
  | some vq =>
    obtain ⟨v, q⟩ := vq
    have := nb_up ho
    exact ⟨v, q, rfl, this.1, this.2.2, rfl⟩
theorem nb_lt {t : Nat → Nat} {p hi e : Nat} (hh : hi < 2 ^ 20) (h : ¬ 0 ≤ nbI (nbF t p hi e)) : nbF t p hi e = none := by
  cases ho : nbF t p hi e with
  | none => rfl
  | some vq =>
    obtain ⟨v, q⟩ := vq
    have := nb_up ho
    rw [ho] at h
    exact absurd (nI_pos' (show v < 2 ^ 31 by omega)) h
theorem nb_ge' {t : Nat → Nat} {p hi e : Nat} (h : ¬ nbI (nbF t p hi e) < 0) : ∃ v q, nbF t p hi e = some (v, q) ∧ v ≤ hi ∧ q ≤ p + 3 ∧ nbI (nbF t p hi e) = nI v := nb_ge (Int32.not_lt.mp h)
theorem nb_lt' {t : Nat → Nat} {p hi e : Nat} (hh : hi < 2 ^ 20) (h : nbI (nbF t p hi e) < 0) : nbF t p hi e = none := nb_lt hh (Int32.not_le.mpr h)
set_option maxRecDepth 20000 in
theorem md_letterAt {σ0 : AHp} {tl u kn ns : Nat} {at_ : Int32} (hM : σ0 272 = some (mdO tl u kn ns at_)) {fx : Nat → Int32} {tf : Nat → Nat} (hTx : σ0 273 = some (iA 0 200 fx)) (hTxv : ∀ j, j < tl → fx j = nI (tf j)) (htl : tl ≤ 200) {k : Nat} (hk : k < 2 ^ 30) : EvP M_X11_letterAt [.ref 272, .int (nI k)] σ0 (.int (ltI tf tl k)) := by
  refine Ev.of (ls := [_, _]) 0 (by decide) rfl rfl ?_
  refine R_iload_n a_X11_letterAt_0 rfl ?_
  refine R_aload_n a_X11_letterAt_1 rfl ?_
  refine R_get a_X11_letterAt_2 hM rfl ?_
  first | with_reducible refine R_icmp_ge_n a_X11_letterAt_5 (by first | omega | exact Nat.lt_of_le_of_lt (inR_le _ _) (by decide) | exact Nat.lt_of_le_of_lt (bitN_le _ _) (by decide) | exact Nat.lt_of_le_of_lt (inI_le _ _ _) (by decide) | exact inI_le _ _ _ | exact inR_le _ _ | exact bitN_le _ _) (by first | omega | exact Nat.lt_of_le_of_lt (inR_le _ _) (by decide) | exact Nat.lt_of_le_of_lt (bitN_le _ _) (by decide) | exact Nat.lt_of_le_of_lt (inI_le _ _ _) (by decide) | exact inI_le _ _ _ | exact inR_le _ _ | exact bitN_le _ _) (fun h5 => ?_) (fun h5 => ?_) | refine R_icmp_ge a_X11_letterAt_5 (fun h5 => ?_) (fun h5 => ?_)
  · skip
    refine R_iconst (v := (-1)) a_X11_letterAt_17 rfl ?_
    refine R_iret a_X11_letterAt_18 rfl ?_
    exact ⟨by unfold ltI; first | rw [if_pos (by omega)] | rw [if_neg (by omega)], rfl⟩
  · skip
    refine R_aload_n a_X11_letterAt_8 rfl ?_
    refine R_get a_X11_letterAt_9 hM rfl ?_
    refine R_iload_n a_X11_letterAt_12 rfl ?_
    refine R_iald_n a_X11_letterAt_13 hTx (by first | omega | exact Nat.lt_of_le_of_lt (inR_le _ _) (by decide) | exact Nat.lt_of_le_of_lt (bitN_le _ _) (by decide) | exact Nat.lt_of_le_of_lt (inI_le _ _ _) (by decide) | exact inI_le _ _ _ | exact inR_le _ _ | exact bitN_le _ _) (by decide) ?_
    refine R_top (hTxv k (by omega)) ?_
    refine R_goto a_X11_letterAt_14 ?_
    refine R_iret a_X11_letterAt_18 rfl ?_
    exact ⟨by unfold ltI; first | rw [if_pos (by omega)] | rw [if_neg (by omega)], rfl⟩

set_option maxRecDepth 20000 in
theorem md_isFigure {σ : AHp} {x : Int32} : EvP M_X11_isFigure [.int x] σ (.int (nI (inI x (nI 48) (nI 57)))) := by
  refine Ev.of (ls := [_]) 0 (by decide) rfl rfl ?_
  refine R_iload_n a_X11_isFigure_0 rfl ?_
  refine R_bipush (v := nI 48) a_X11_isFigure_1 rfl ?_
  refine R_bipush (v := nI 57) a_X11_isFigure_3 rfl ?_
  refine R_callSp a_X11_isFigure_5 md_in rfl rfl rfl rfl rfl ?_
  refine R_zret_n a_X11_isFigure_8 rfl (by first | omega | exact Nat.lt_of_le_of_lt (inR_le _ _) (by decide) | exact Nat.lt_of_le_of_lt (bitN_le _ _) (by decide) | exact Nat.lt_of_le_of_lt (inI_le _ _ _) (by decide) | exact inI_le _ _ _ | exact inR_le _ _ | exact bitN_le _ _) ?_
  exact ⟨rfl, rfl⟩

set_option maxRecDepth 20000 in
theorem md_number {σ0 : AHp} {tl u kn ns : Nat} {p hi e : Nat} (hM : σ0 272 = some (mdO tl u kn ns (nI p))) {fx : Nat → Int32} {tf : Nat → Nat} (hTx : σ0 273 = some (iA 0 200 fx)) (hTxv : ∀ j, j < tl → fx j = nI (tf j)) (htl : tl ≤ 200) (htf : ∀ j, j < tl → tf j < 127) (hp : p < 2 ^ 20) (hhi : hi < 2 ^ 20) (he : 0 < e) (he2 : e < 127) : EvW M_X11_number [.ref 272, .int (nI hi), .int (nI e)] σ0 (some (.int (nbI (nbF (tg tf tl) p hi e)))) (fun σ => (∃ q, σ 272 = some (mdO tl u kn ns (nI q)) ∧ ∀ v r, nbF (tg tf tl) p hi e = some (v, r) → q = r) ∧ ∀ j, j ≠ 272 → σ j = σ0 j) := by
  have hfr : ∀ j, j ≠ 272 → σ0 j = σ0 j := fun _ _ => rfl
  have t0 := tg_lt htf p
  have t1 := tg_lt htf (p + 1)
  have b0 := b2n_le (fig (tg tf tl p))
  have b1 := b2n_le (fig (tg tf tl (p + 1)))
  refine Ev.of (ls := [_, _, _, _, _]) 2 (by decide) rfl rfl ?_
  refine R_aload_n a_X11_number_0 rfl ?_
  refine R_aload_n a_X11_number_1 rfl ?_
  refine R_get a_X11_number_2 hM rfl ?_
  refine R_callVp a_X11_number_5 hM (md_letterAt hM hTx hTxv htl (show p < 2 ^ 30 by omega)) rfl rfl rfl rfl rfl ?_
  refine R_callSp a_X11_number_8 md_isFigure rfl rfl rfl rfl rfl ?_
  refine R_top (congrArg nI (lt_fig htf p)) ?_
  first | with_reducible refine R_if_ne_n a_X11_number_11 (by first | omega | exact Nat.lt_of_le_of_lt (inR_le _ _) (by decide) | exact Nat.lt_of_le_of_lt (bitN_le _ _) (by decide) | exact Nat.lt_of_le_of_lt (inI_le _ _ _) (by decide) | exact inI_le _ _ _ | exact inR_le _ _ | exact bitN_le _ _) (fun h11 => ?_) (fun h11 => ?_) | refine R_if_ne a_X11_number_11 (fun h11 => ?_) (fun h11 => ?_)
  · skip
    have hf0 := b2n_n0 h11
    have hf1 := fig_lt hf0
    refine R_aload_n a_X11_number_16 rfl ?_
    refine R_aload_n a_X11_number_17 rfl ?_
    refine R_get a_X11_number_18 hM rfl ?_
    refine R_callVp a_X11_number_21 hM (md_letterAt hM hTx hTxv htl (show p < 2 ^ 30 by omega)) rfl rfl rfl rfl rfl ?_
    refine R_top (lt_in hf0) ?_
    refine R_bipush (v := nI 48) a_X11_number_24 rfl ?_
    first | with_reducible refine R_isub_n a_X11_number_26 (by first | omega | exact Nat.lt_of_le_of_lt (inR_le _ _) (by decide) | exact Nat.lt_of_le_of_lt (bitN_le _ _) (by decide) | exact Nat.lt_of_le_of_lt (inI_le _ _ _) (by decide) | exact inI_le _ _ _ | exact inR_le _ _ | exact bitN_le _ _) ?_ | refine R_isub a_X11_number_26 ?_
    refine R_istore_n (ls' := [_, _, _, _, _]) a_X11_number_27 rfl rfl rfl ?_
    refine R_aload_n a_X11_number_28 rfl ?_
    refine R_dup a_X11_number_29 rfl ?_
    refine R_get a_X11_number_30 hM rfl ?_
    refine R_iconst (v := nI 1) a_X11_number_33 rfl ?_
    first | with_reducible refine R_iadd_n a_X11_number_34 ?_ | refine R_iadd a_X11_number_34 ?_
    refine R_putiK (fs' := [_, _, _, _, _, _, _, _, _, _, _, _, _, _, _, _]) a_X11_number_35 hM rfl rfl (fun σ hM ho => ?_)
    have hTx := (ho _ (by omega)).trans hTx
    have hfr : ∀ j, j ≠ 272 → σ j = σ0 j := fun j hj => (ho j (by omega)).trans (hfr j hj)
    refine R_aload_n a_X11_number_38 rfl ?_
    refine R_aload_n a_X11_number_39 rfl ?_
    refine R_get a_X11_number_40 hM rfl ?_
    refine R_callVp a_X11_number_43 hM (md_letterAt hM hTx hTxv htl (show p + 1 < 2 ^ 30 by omega)) rfl rfl rfl rfl rfl ?_
    refine R_callSp a_X11_number_46 md_isFigure rfl rfl rfl rfl rfl ?_
    refine R_top (congrArg nI (lt_fig htf (p + 1))) ?_
    first | with_reducible refine R_if_eq_n a_X11_number_49 (by first | omega | exact Nat.lt_of_le_of_lt (inR_le _ _) (by decide) | exact Nat.lt_of_le_of_lt (bitN_le _ _) (by decide) | exact Nat.lt_of_le_of_lt (inI_le _ _ _) (by decide) | exact inI_le _ _ _ | exact inR_le _ _ | exact bitN_le _ _) (fun h49 => ?_) (fun h49 => ?_) | refine R_if_eq a_X11_number_49 (fun h49 => ?_) (fun h49 => ?_)
    · skip
      have hn : numF (tg tf tl) p = some (tg tf tl p - 48, p + 1) := by unfold numF; rw [if_pos hf0, if_neg (by rw [b2n_0 h49]; decide)]
      refine R_aload_n a_X11_number_79 rfl ?_
      refine R_aload_n a_X11_number_80 rfl ?_
      refine R_get a_X11_number_81 hM rfl ?_
      refine R_callVp a_X11_number_84 hM (md_letterAt hM hTx hTxv htl (show p + 1 < 2 ^ 30 by omega)) rfl rfl rfl rfl rfl ?_
      refine R_iload_n a_X11_number_87 rfl ?_
      refine R_icmp_ne a_X11_number_88 (fun h88 => ?_) (fun h88 => ?_)
      · skip
        have hz : nbF (tg tf tl) p hi e = none := by
          unfold nbF
          rw [hn]
          exact if_neg (fun q => h88 ((lt_eq htf he he2).mpr q.1))
        refine R_iconst (v := nI 0) a_X11_number_100 rfl ?_
        refine R_istore (ls' := [_, _, _, _, _]) a_X11_number_101 rfl rfl rfl ?_
        refine R_aload_n a_X11_number_103 rfl ?_
        refine R_dup a_X11_number_104 rfl ?_
        refine R_get a_X11_number_105 hM rfl ?_
        refine R_iconst (v := nI 1) a_X11_number_108 rfl ?_
        first | with_reducible refine R_iadd_n a_X11_number_109 ?_ | refine R_iadd a_X11_number_109 ?_
        refine R_putiK (fs' := [_, _, _, _, _, _, _, _, _, _, _, _, _, _, _, _]) a_X11_number_110 hM rfl rfl (fun σ hM ho => ?_)
        have hTx := (ho _ (by omega)).trans hTx
        have hfr : ∀ j, j ≠ 272 → σ j = σ0 j := fun j hj => (ho j (by omega)).trans (hfr j hj)
        refine R_iload a_X11_number_113 rfl ?_
        first | with_reducible refine R_if_eq_n a_X11_number_115 (by first | omega | exact Nat.lt_of_le_of_lt (inR_le _ _) (by decide) | exact Nat.lt_of_le_of_lt (bitN_le _ _) (by decide) | exact Nat.lt_of_le_of_lt (inI_le _ _ _) (by decide) | exact inI_le _ _ _ | exact inR_le _ _ | exact bitN_le _ _) (fun h115 => ?_) (fun h115 => ?_) | refine R_if_eq a_X11_number_115 (fun h115 => ?_) (fun h115 => ?_)
        · skip
          refine R_iconst (v := (-1)) a_X11_number_122 rfl ?_
          refine R_iret a_X11_number_123 rfl ?_
          exact ⟨by rw [hz]; rfl, ⟨_, hM, fun v r hq => by first | (rw [hz] at hq; cases hq; rfl) | (rw [hz] at hq; cases hq)⟩, hfr⟩
        · skip
          exact absurd rfl h115
      · skip
        refine R_iload_n a_X11_number_91 rfl ?_
        refine R_iload_n a_X11_number_92 rfl ?_
        first | with_reducible refine R_icmp_gt_n a_X11_number_93 (by first | omega | exact Nat.lt_of_le_of_lt (inR_le _ _) (by decide) | exact Nat.lt_of_le_of_lt (bitN_le _ _) (by decide) | exact Nat.lt_of_le_of_lt (inI_le _ _ _) (by decide) | exact inI_le _ _ _ | exact inR_le _ _ | exact bitN_le _ _) (by first | omega | exact Nat.lt_of_le_of_lt (inR_le _ _) (by decide) | exact Nat.lt_of_le_of_lt (bitN_le _ _) (by decide) | exact Nat.lt_of_le_of_lt (inI_le _ _ _) (by decide) | exact inI_le _ _ _ | exact inR_le _ _ | exact bitN_le _ _) (fun h93 => ?_) (fun h93 => ?_) | refine R_icmp_gt a_X11_number_93 (fun h93 => ?_) (fun h93 => ?_)
        · skip
          have hz : nbF (tg tf tl) p hi e = none := by
            unfold nbF
            rw [hn]
            exact if_neg (fun q => absurd q.2 (by omega))
          refine R_iconst (v := nI 0) a_X11_number_100 rfl ?_
          refine R_istore (ls' := [_, _, _, _, _]) a_X11_number_101 rfl rfl rfl ?_
          refine R_aload_n a_X11_number_103 rfl ?_
          refine R_dup a_X11_number_104 rfl ?_
          refine R_get a_X11_number_105 hM rfl ?_
          refine R_iconst (v := nI 1) a_X11_number_108 rfl ?_
          first | with_reducible refine R_iadd_n a_X11_number_109 ?_ | refine R_iadd a_X11_number_109 ?_
          refine R_putiK (fs' := [_, _, _, _, _, _, _, _, _, _, _, _, _, _, _, _]) a_X11_number_110 hM rfl rfl (fun σ hM ho => ?_)
          have hTx := (ho _ (by omega)).trans hTx
          have hfr : ∀ j, j ≠ 272 → σ j = σ0 j := fun j hj => (ho j (by omega)).trans (hfr j hj)
          refine R_iload a_X11_number_113 rfl ?_
          first | with_reducible refine R_if_eq_n a_X11_number_115 (by first | omega | exact Nat.lt_of_le_of_lt (inR_le _ _) (by decide) | exact Nat.lt_of_le_of_lt (bitN_le _ _) (by decide) | exact Nat.lt_of_le_of_lt (inI_le _ _ _) (by decide) | exact inI_le _ _ _ | exact inR_le _ _ | exact bitN_le _ _) (fun h115 => ?_) (fun h115 => ?_) | refine R_if_eq a_X11_number_115 (fun h115 => ?_) (fun h115 => ?_)
          · skip
            refine R_iconst (v := (-1)) a_X11_number_122 rfl ?_
            refine R_iret a_X11_number_123 rfl ?_
            exact ⟨by rw [hz]; rfl, ⟨_, hM, fun v r hq => by first | (rw [hz] at hq; cases hq; rfl) | (rw [hz] at hq; cases hq)⟩, hfr⟩
          · skip
            exact absurd rfl h115
        · skip
          have hz : nbF (tg tf tl) p hi e = some (tg tf tl p - 48, p + 1 + 1) := by
            unfold nbF
            rw [hn]
            exact if_pos ⟨(lt_eq htf he he2).mp h88, by omega⟩
          refine R_iconst (v := nI 1) a_X11_number_96 rfl ?_
          refine R_goto a_X11_number_97 ?_
          refine R_istore (ls' := [_, _, _, _, _]) a_X11_number_101 rfl rfl rfl ?_
          refine R_aload_n a_X11_number_103 rfl ?_
          refine R_dup a_X11_number_104 rfl ?_
          refine R_get a_X11_number_105 hM rfl ?_
          refine R_iconst (v := nI 1) a_X11_number_108 rfl ?_
          first | with_reducible refine R_iadd_n a_X11_number_109 ?_ | refine R_iadd a_X11_number_109 ?_
          refine R_putiK (fs' := [_, _, _, _, _, _, _, _, _, _, _, _, _, _, _, _]) a_X11_number_110 hM rfl rfl (fun σ hM ho => ?_)
          have hTx := (ho _ (by omega)).trans hTx
          have hfr : ∀ j, j ≠ 272 → σ j = σ0 j := fun j hj => (ho j (by omega)).trans (hfr j hj)
          refine R_iload a_X11_number_113 rfl ?_
          first | with_reducible refine R_if_eq_n a_X11_number_115 (by first | omega | exact Nat.lt_of_le_of_lt (inR_le _ _) (by decide) | exact Nat.lt_of_le_of_lt (bitN_le _ _) (by decide) | exact Nat.lt_of_le_of_lt (inI_le _ _ _) (by decide) | exact inI_le _ _ _ | exact inR_le _ _ | exact bitN_le _ _) (fun h115 => ?_) (fun h115 => ?_) | refine R_if_eq a_X11_number_115 (fun h115 => ?_) (fun h115 => ?_)
          · skip
            exact absurd h115 (by decide)
          · skip
            refine R_iload_n a_X11_number_118 rfl ?_
            refine R_goto a_X11_number_119 ?_
            refine R_iret a_X11_number_123 rfl ?_
            exact ⟨by rw [hz]; rfl, ⟨_, hM, fun v r hq => by first | (rw [hz] at hq; cases hq; rfl) | (rw [hz] at hq; cases hq)⟩, hfr⟩
    · skip
      have hg0 := b2n_n0 h49
      have hg1 := fig_lt hg0
      have hn : numF (tg tf tl) p = some (10 * (tg tf tl p - 48) + (tg tf tl (p + 1) - 48), p + 2) := by unfold numF; rw [if_pos hf0, if_pos hg0]
      refine R_bipush (v := nI 10) a_X11_number_52 rfl ?_
      refine R_iload_n a_X11_number_54 rfl ?_
      first | with_reducible refine R_imul_n a_X11_number_55 ?_ | refine R_imul a_X11_number_55 ?_
      refine R_aload_n a_X11_number_56 rfl ?_
      refine R_aload_n a_X11_number_57 rfl ?_
      refine R_get a_X11_number_58 hM rfl ?_
      refine R_callVp a_X11_number_61 hM (md_letterAt hM hTx hTxv htl (show p + 1 < 2 ^ 30 by omega)) rfl rfl rfl rfl rfl ?_
      refine R_top (lt_in hg0) ?_
      first | with_reducible refine R_iadd_n a_X11_number_64 ?_ | refine R_iadd a_X11_number_64 ?_
      refine R_bipush (v := nI 48) a_X11_number_65 rfl ?_
      first | with_reducible refine R_isub_n a_X11_number_67 (by first | omega | exact Nat.lt_of_le_of_lt (inR_le _ _) (by decide) | exact Nat.lt_of_le_of_lt (bitN_le _ _) (by decide) | exact Nat.lt_of_le_of_lt (inI_le _ _ _) (by decide) | exact inI_le _ _ _ | exact inR_le _ _ | exact bitN_le _ _) ?_ | refine R_isub a_X11_number_67 ?_
      refine R_top (y := nI (10 * (tg tf tl p - 48) + (tg tf tl (p + 1) - 48))) (congrArg nI (by omega)) ?_
      refine R_istore_n (ls' := [_, _, _, _, _]) a_X11_number_68 rfl rfl rfl ?_
      refine R_aload_n a_X11_number_69 rfl ?_
      refine R_dup a_X11_number_70 rfl ?_
      refine R_get a_X11_number_71 hM rfl ?_
      refine R_iconst (v := nI 1) a_X11_number_74 rfl ?_
      first | with_reducible refine R_iadd_n a_X11_number_75 ?_ | refine R_iadd a_X11_number_75 ?_
      refine R_putiK (fs' := [_, _, _, _, _, _, _, _, _, _, _, _, _, _, _, _]) a_X11_number_76 hM rfl rfl (fun σ hM ho => ?_)
      have hTx := (ho _ (by omega)).trans hTx
      have hfr : ∀ j, j ≠ 272 → σ j = σ0 j := fun j hj => (ho j (by omega)).trans (hfr j hj)
      refine R_aload_n a_X11_number_79 rfl ?_
      refine R_aload_n a_X11_number_80 rfl ?_
      refine R_get a_X11_number_81 hM rfl ?_
      refine R_callVp a_X11_number_84 hM (md_letterAt hM hTx hTxv htl (show p + 2 < 2 ^ 30 by omega)) rfl rfl rfl rfl rfl ?_
      refine R_iload_n a_X11_number_87 rfl ?_
      refine R_icmp_ne a_X11_number_88 (fun h88 => ?_) (fun h88 => ?_)
      · skip
        have hz : nbF (tg tf tl) p hi e = none := by
          unfold nbF
          rw [hn]
          exact if_neg (fun q => h88 ((lt_eq htf he he2).mpr q.1))
        refine R_iconst (v := nI 0) a_X11_number_100 rfl ?_
        refine R_istore (ls' := [_, _, _, _, _]) a_X11_number_101 rfl rfl rfl ?_
        refine R_aload_n a_X11_number_103 rfl ?_
        refine R_dup a_X11_number_104 rfl ?_
        refine R_get a_X11_number_105 hM rfl ?_
        refine R_iconst (v := nI 1) a_X11_number_108 rfl ?_
        first | with_reducible refine R_iadd_n a_X11_number_109 ?_ | refine R_iadd a_X11_number_109 ?_
        refine R_putiK (fs' := [_, _, _, _, _, _, _, _, _, _, _, _, _, _, _, _]) a_X11_number_110 hM rfl rfl (fun σ hM ho => ?_)
        have hTx := (ho _ (by omega)).trans hTx
        have hfr : ∀ j, j ≠ 272 → σ j = σ0 j := fun j hj => (ho j (by omega)).trans (hfr j hj)
        refine R_iload a_X11_number_113 rfl ?_
        first | with_reducible refine R_if_eq_n a_X11_number_115 (by first | omega | exact Nat.lt_of_le_of_lt (inR_le _ _) (by decide) | exact Nat.lt_of_le_of_lt (bitN_le _ _) (by decide) | exact Nat.lt_of_le_of_lt (inI_le _ _ _) (by decide) | exact inI_le _ _ _ | exact inR_le _ _ | exact bitN_le _ _) (fun h115 => ?_) (fun h115 => ?_) | refine R_if_eq a_X11_number_115 (fun h115 => ?_) (fun h115 => ?_)
        · skip
          refine R_iconst (v := (-1)) a_X11_number_122 rfl ?_
          refine R_iret a_X11_number_123 rfl ?_
          exact ⟨by rw [hz]; rfl, ⟨_, hM, fun v r hq => by first | (rw [hz] at hq; cases hq; rfl) | (rw [hz] at hq; cases hq)⟩, hfr⟩
        · skip
          exact absurd rfl h115
      · skip
        refine R_iload_n a_X11_number_91 rfl ?_
        refine R_iload_n a_X11_number_92 rfl ?_
        first | with_reducible refine R_icmp_gt_n a_X11_number_93 (by first | omega | exact Nat.lt_of_le_of_lt (inR_le _ _) (by decide) | exact Nat.lt_of_le_of_lt (bitN_le _ _) (by decide) | exact Nat.lt_of_le_of_lt (inI_le _ _ _) (by decide) | exact inI_le _ _ _ | exact inR_le _ _ | exact bitN_le _ _) (by first | omega | exact Nat.lt_of_le_of_lt (inR_le _ _) (by decide) | exact Nat.lt_of_le_of_lt (bitN_le _ _) (by decide) | exact Nat.lt_of_le_of_lt (inI_le _ _ _) (by decide) | exact inI_le _ _ _ | exact inR_le _ _ | exact bitN_le _ _) (fun h93 => ?_) (fun h93 => ?_) | refine R_icmp_gt a_X11_number_93 (fun h93 => ?_) (fun h93 => ?_)
        · skip
          have hz : nbF (tg tf tl) p hi e = none := by
            unfold nbF
            rw [hn]
            exact if_neg (fun q => absurd q.2 (by omega))
          refine R_iconst (v := nI 0) a_X11_number_100 rfl ?_
          refine R_istore (ls' := [_, _, _, _, _]) a_X11_number_101 rfl rfl rfl ?_
          refine R_aload_n a_X11_number_103 rfl ?_
          refine R_dup a_X11_number_104 rfl ?_
          refine R_get a_X11_number_105 hM rfl ?_
          refine R_iconst (v := nI 1) a_X11_number_108 rfl ?_
          first | with_reducible refine R_iadd_n a_X11_number_109 ?_ | refine R_iadd a_X11_number_109 ?_
          refine R_putiK (fs' := [_, _, _, _, _, _, _, _, _, _, _, _, _, _, _, _]) a_X11_number_110 hM rfl rfl (fun σ hM ho => ?_)
          have hTx := (ho _ (by omega)).trans hTx
          have hfr : ∀ j, j ≠ 272 → σ j = σ0 j := fun j hj => (ho j (by omega)).trans (hfr j hj)
          refine R_iload a_X11_number_113 rfl ?_
          first | with_reducible refine R_if_eq_n a_X11_number_115 (by first | omega | exact Nat.lt_of_le_of_lt (inR_le _ _) (by decide) | exact Nat.lt_of_le_of_lt (bitN_le _ _) (by decide) | exact Nat.lt_of_le_of_lt (inI_le _ _ _) (by decide) | exact inI_le _ _ _ | exact inR_le _ _ | exact bitN_le _ _) (fun h115 => ?_) (fun h115 => ?_) | refine R_if_eq a_X11_number_115 (fun h115 => ?_) (fun h115 => ?_)
          · skip
            refine R_iconst (v := (-1)) a_X11_number_122 rfl ?_
            refine R_iret a_X11_number_123 rfl ?_
            exact ⟨by rw [hz]; rfl, ⟨_, hM, fun v r hq => by first | (rw [hz] at hq; cases hq; rfl) | (rw [hz] at hq; cases hq)⟩, hfr⟩
          · skip
            exact absurd rfl h115
        · skip
          have hz : nbF (tg tf tl) p hi e = some (10 * (tg tf tl p - 48) + (tg tf tl (p + 1) - 48), p + 2 + 1) := by
            unfold nbF
            rw [hn]
            exact if_pos ⟨(lt_eq htf he he2).mp h88, by omega⟩
          refine R_iconst (v := nI 1) a_X11_number_96 rfl ?_
          refine R_goto a_X11_number_97 ?_
          refine R_istore (ls' := [_, _, _, _, _]) a_X11_number_101 rfl rfl rfl ?_
          refine R_aload_n a_X11_number_103 rfl ?_
          refine R_dup a_X11_number_104 rfl ?_
          refine R_get a_X11_number_105 hM rfl ?_
          refine R_iconst (v := nI 1) a_X11_number_108 rfl ?_
          first | with_reducible refine R_iadd_n a_X11_number_109 ?_ | refine R_iadd a_X11_number_109 ?_
          refine R_putiK (fs' := [_, _, _, _, _, _, _, _, _, _, _, _, _, _, _, _]) a_X11_number_110 hM rfl rfl (fun σ hM ho => ?_)
          have hTx := (ho _ (by omega)).trans hTx
          have hfr : ∀ j, j ≠ 272 → σ j = σ0 j := fun j hj => (ho j (by omega)).trans (hfr j hj)
          refine R_iload a_X11_number_113 rfl ?_
          first | with_reducible refine R_if_eq_n a_X11_number_115 (by first | omega | exact Nat.lt_of_le_of_lt (inR_le _ _) (by decide) | exact Nat.lt_of_le_of_lt (bitN_le _ _) (by decide) | exact Nat.lt_of_le_of_lt (inI_le _ _ _) (by decide) | exact inI_le _ _ _ | exact inR_le _ _ | exact bitN_le _ _) (fun h115 => ?_) (fun h115 => ?_) | refine R_if_eq a_X11_number_115 (fun h115 => ?_) (fun h115 => ?_)
          · skip
            exact absurd h115 (by decide)
          · skip
            refine R_iload_n a_X11_number_118 rfl ?_
            refine R_goto a_X11_number_119 ?_
            refine R_iret a_X11_number_123 rfl ?_
            exact ⟨by rw [hz]; rfl, ⟨_, hM, fun v r hq => by first | (rw [hz] at hq; cases hq; rfl) | (rw [hz] at hq; cases hq)⟩, hfr⟩
  · skip
    have hn : numF (tg tf tl) p = none := by unfold numF; rw [if_neg (by rw [b2n_0 h11]; decide)]
    have hz : nbF (tg tf tl) p hi e = none := by unfold nbF; rw [hn]
    refine R_iconst (v := (-1)) a_X11_number_14 rfl ?_
    refine R_iret a_X11_number_15 rfl ?_
    exact ⟨by rw [hz]; rfl, ⟨_, hM, fun v r hq => by rw [hz] at hq; cases hq⟩, hfr⟩

set_option maxRecDepth 20000 in
theorem lp_begins {σ0 : AHp} {tl u kn ns : Nat} {at_ : Int32} (hM0 : σ0 272 = some (mdO tl u kn ns at_)) {f0 : Nat → Int32} : ∀ (m q : Nat) (σ : AHp), 35 - q = m → q ≤ 35 → σ 275 = some (iA 0 35 (sh0 f0 (nF (fun _ => 0)) q)) → (∀ j, j ≠ 275 → σ j = σ0 j) → Run M_X11_begins 2 [some (.ref 272), some (.int (nI q))] [] σ 0 0 (fun r σ => r = none ∧ σ 275 = some (iA 0 35 (nF (fun _ => 0))) ∧ ∀ j, j ≠ 275 → σ j = σ0 j) := by
  intro m
  induction m using Nat.strongRecOn
  rename_i m ih
  intro q σ hm hk hDr hfr
  have hM := (hfr 272 (by omega)).trans hM0
  refine R_iload_n a_X11_begins_2 rfl ?_
  refine R_bipush (v := nI 35) a_X11_begins_3 rfl ?_
  first | with_reducible refine R_icmp_ge_n a_X11_begins_5 (by first | omega | exact Nat.lt_of_le_of_lt (inR_le _ _) (by decide) | exact Nat.lt_of_le_of_lt (bitN_le _ _) (by decide) | exact Nat.lt_of_le_of_lt (inI_le _ _ _) (by decide) | exact inI_le _ _ _ | exact inR_le _ _ | exact bitN_le _ _) (by first | omega | exact Nat.lt_of_le_of_lt (inR_le _ _) (by decide) | exact Nat.lt_of_le_of_lt (bitN_le _ _) (by decide) | exact Nat.lt_of_le_of_lt (inI_le _ _ _) (by decide) | exact inI_le _ _ _ | exact inR_le _ _ | exact bitN_le _ _) (fun h5 => ?_) (fun h5 => ?_) | refine R_icmp_ge a_X11_begins_5 (fun h5 => ?_) (fun h5 => ?_)
  · skip
    have hke : q = 35 := by omega
    subst hke
    refine R_ext (nF (fun _ => 0)) (by decide) hDr (fun j hj => sh0_in _ _ hj) (fun σ2 hDr ho => ?_)
    have hfr : ∀ j, j ≠ 275 → σ2 j = σ0 j := fun j hj => (ho j hj).trans (hfr j hj)
    refine R_vret a_X11_begins_21 rfl ?_
    exact ⟨rfl, hDr, hfr⟩
  · skip
    refine R_aload_n a_X11_begins_8 rfl ?_
    refine R_get a_X11_begins_9 hM rfl ?_
    refine R_iload_n a_X11_begins_12 rfl ?_
    refine R_iconst (v := nI 0) a_X11_begins_13 rfl ?_
    refine R_iastK a_X11_begins_14 (by omega) hDr (by first | omega | exact Nat.lt_of_le_of_lt (inR_le _ _) (by decide) | exact Nat.lt_of_le_of_lt (bitN_le _ _) (by decide) | exact Nat.lt_of_le_of_lt (inI_le _ _ _) (by decide) | exact inI_le _ _ _ | exact inR_le _ _ | exact bitN_le _ _) (by decide) (fun σ hDr ho => ?_)
    have hM := (ho _ (by omega)).trans hM
    have hfr : ∀ j, j ≠ 275 → σ j = σ0 j := fun j hj => (ho j (by omega)).trans (hfr j hj)
    have he : upd (sh0 f0 (nF (fun _ => 0)) q) q (nI 0) = sh0 f0 (nF (fun _ => 0)) (q + 1) := sh0_up _ _ _
    rw [he] at hDr
    first | with_reducible refine R_iinc_n (ls' := [_, _]) a_X11_begins_15 rfl rfl rfl rfl ?_ | refine R_iinc (ls' := [_, _]) a_X11_begins_15 rfl rfl rfl rfl rfl ?_
    refine R_goto a_X11_begins_18 ?_
    exact ih _ (show 35 - (q + 1) < m by omega) (q + 1) σ rfl (by omega) hDr hfr

set_option maxRecDepth 20000 in
theorem md_begins {σ0 : AHp} {tl u kn ns : Nat} {at_ : Int32} (hM : σ0 272 = some (mdO tl u kn ns at_)) {fd : Nat → Int32} (hDr : σ0 275 = some (iA 0 35 fd)) : EvW M_X11_begins [.ref 272] σ0 none (fun σ => σ 275 = some (iA 0 35 (nF (fun _ => 0))) ∧ ∀ j, j ≠ 275 → σ j = σ0 j) := by
  refine Ev.of (ls := [_, _]) 1 (by decide) rfl rfl ?_
  refine R_iconst (v := nI 0) a_X11_begins_0 rfl ?_
  refine R_istore_n (ls' := [_, _]) a_X11_begins_1 rfl rfl rfl ?_
  have hz0 := sh0_z fd (nF (fun _ => 0))
  rw [← hz0] at hDr
  exact lp_begins hM _ 0 σ0 rfl (Nat.zero_le _) hDr (fun _ _ => rfl)

def tG (T : Tb) (a b c : Nat) : Tb := (T.g + 1, T.n, T.law, T.st, T.so, uN T.kd T.g a, uN T.hn T.g b, uN T.kn T.g c, T.hf)
def tT (T : Tb) (a b : Nat) : Tb := (T.g, T.n + 1, T.law, T.st, T.so ||| a * 2 ^ T.n, T.kd, T.hn, T.kn, uN T.hf T.n b)
def tL (T : Tb) (a : Nat) : Tb := (T.g, T.n, a, T.st, T.so, T.kd, T.hn, T.kn, T.hf)
def tA (T : Tb) (a : Nat) : Tb := (T.g, T.n, T.law, a, T.so, T.kd, T.hn, T.kn, T.hf)
theorem upd_at (f : Nat → Int32) (k : Nat) (x : Int32) : upd f k x k = x := if_pos rfl
theorem upd_no (f : Nat → Int32) {k j : Nat} (x : Int32) (h : ¬ j = k) : upd f k x j = f j := if_neg h
theorem guest_row {f : Nat → Int32} {T : Tb} {a b c : Nat} (h : ToP f T) (hg : T.g < 8) : ToP (upd (upd (upd (upd f (4 + T.g) (nI a)) (12 + T.g) (nI b)) (20 + T.g) (nI c)) 0 (nI (T.g + 1))) (tG T a b c) := by
  obtain ⟨h0, h1, h2, h3, h28, hk, hh, hn, hf⟩ := h
  have key : ∀ j, ¬ j = 0 → ¬ j = 4 + T.g → ¬ j = 12 + T.g → ¬ j = 20 + T.g → upd (upd (upd (upd f (4 + T.g) (nI a)) (12 + T.g) (nI b)) (20 + T.g) (nI c)) 0 (nI (T.g + 1)) j = f j := by
    intro j q0 q1 q2 q3
    rw [upd_no _ _ q0, upd_no _ _ q3, upd_no _ _ q2, upd_no _ _ q1]
  refine ⟨upd_at _ _ _, (key 1 (by omega) (by omega) (by omega) (by omega)).trans h1, (key 2 (by omega) (by omega) (by omega) (by omega)).trans h2, (key 3 (by omega) (by omega) (by omega) (by omega)).trans h3, (key 28 (by omega) (by omega) (by omega) (by omega)).trans h28, ?_, ?_, ?_, fun t ht => (key _ (by omega) (by omega) (by omega) (by omega)).trans (hf t ht)⟩
  · intro i hi
    have hi : i < T.g + 1 := hi
    show _ = nI (uN T.kd T.g a i)
    by_cases e : i = T.g
    · rw [e, uN_self, upd_no _ _ (by omega), upd_no _ _ (by omega), upd_no _ _ (by omega), upd_at]
    · rw [uN_ne _ _ e, key _ (by omega) (by omega) (by omega) (by omega)]
      exact hk i (by omega)
  · intro i hi
    have hi : i < T.g + 1 := hi
    show _ = nI (uN T.hn T.g b i)
    by_cases e : i = T.g
    · rw [e, uN_self, upd_no _ _ (by omega), upd_no _ _ (by omega), upd_at]
    · rw [uN_ne _ _ e, key _ (by omega) (by omega) (by omega) (by omega)]
      exact hh i (by omega)
  · intro i hi
    have hi : i < T.g + 1 := hi
    show _ = nI (uN T.kn T.g c i)
    by_cases e : i = T.g
    · rw [e, uN_self, upd_no _ _ (by omega), upd_at]
    · rw [uN_ne _ _ e, key _ (by omega) (by omega) (by omega) (by omega)]
      exact hn i (by omega)
theorem thing_row {f : Nat → Int32} {T : Tb} {a b : Nat} (h : ToP f T) (hg : T.g ≤ 8) (hn6 : T.n < 6) : ToP (upd (upd (upd f 28 (nI (T.so ||| a * 2 ^ T.n))) (29 + T.n) (nI b)) 1 (nI (T.n + 1))) (tT T a b) := by
  obtain ⟨h0, h1, h2, h3, h28, hk, hh, hn, hf⟩ := h
  have key : ∀ j, ¬ j = 1 → ¬ j = 28 → ¬ j = 29 + T.n → upd (upd (upd f 28 (nI (T.so ||| a * 2 ^ T.n))) (29 + T.n) (nI b)) 1 (nI (T.n + 1)) j = f j := by
    intro j q0 q1 q2
    rw [upd_no _ _ q0, upd_no _ _ q2, upd_no _ _ q1]
  refine ⟨(key 0 (by omega) (by omega) (by omega)).trans h0, upd_at _ _ _, (key 2 (by omega) (by omega) (by omega)).trans h2, (key 3 (by omega) (by omega) (by omega)).trans h3, ?_, fun i hi => (key _ (by omega) (by have : i < T.g := hi; omega) (by have : i < T.g := hi; omega)).trans (hk i hi), fun i hi => (key _ (by omega) (by have : i < T.g := hi; omega) (by have : i < T.g := hi; omega)).trans (hh i hi), fun i hi => (key _ (by omega) (by have : i < T.g := hi; omega) (by have : i < T.g := hi; omega)).trans (hn i hi), ?_⟩
  · rw [upd_no _ _ (by omega), upd_no _ _ (by omega), upd_at]
    rfl
  · intro i hi
    have hi : i < T.n + 1 := hi
    show _ = nI (uN T.hf T.n b i)
    by_cases e : i = T.n
    · rw [e, uN_self, upd_no _ _ (by omega), upd_at]
    · rw [uN_ne _ _ e, key _ (by omega) (by omega) (by omega)]
      exact hf i (by omega)
theorem law_row {f : Nat → Int32} {T : Tb} {a : Nat} (h : ToP f T) : ToP (upd f 2 (nI a)) (tL T a) := by
  obtain ⟨h0, h1, h2, h3, h28, hk, hh, hn, hf⟩ := h
  exact ⟨h0, h1, upd_at _ _ _, h3, h28, fun i hi => (upd_no _ _ (by omega)).trans (hk i hi), fun i hi => (upd_no _ _ (by omega)).trans (hh i hi), fun i hi => (upd_no _ _ (by omega)).trans (hn i hi), fun i hi => (upd_no _ _ (by omega)).trans (hf i hi)⟩
theorem start_row {f : Nat → Int32} {T : Tb} {a : Nat} (h : ToP f T) : ToP (upd f 3 (nI a)) (tA T a) := by
  obtain ⟨h0, h1, h2, h3, h28, hk, hh, hn, hf⟩ := h
  exact ⟨h0, h1, h2, upd_at _ _ _, h28, fun i hi => (upd_no _ _ (by omega)).trans (hk i hi), fun i hi => (upd_no _ _ (by omega)).trans (hh i hi), fun i hi => (upd_no _ _ (by omega)).trans (hn i hi), fun i hi => (upd_no _ _ (by omega)).trans (hf i hi)⟩
set_option maxRecDepth 20000 in
theorem md_guestOf {σ0 : AHp} {tl u kn ns : Nat} {at_ : Int32} (hM : σ0 272 = some (mdO tl u kn ns at_)) {fd : Nat → Int32} {T : Tb} (hDr : σ0 275 = some (iA 0 35 fd)) (hDT : ToP fd T) (hg : T.g < 8) {a b c : Nat} : EvW M_X11_guestOf [.ref 272, .int (nI a), .int (nI b), .int (nI c)] σ0 none (fun σ => (∃ fd2, σ 275 = some (iA 0 35 fd2) ∧ ToP fd2 (tG T a b c)) ∧ ∀ j, j ≠ 275 → σ j = σ0 j) := by
  obtain ⟨h0, h1, h2, h3, h28, hk, hh, hn, hf⟩ := id hDT
  have hfr : ∀ j, j ≠ 275 → σ0 j = σ0 j := fun _ _ => rfl
  refine Ev.of (ls := [_, _, _, _, _]) 1 (by decide) rfl rfl ?_
  refine R_aload_n a_X11_guestOf_0 rfl ?_
  refine R_get a_X11_guestOf_1 hM rfl ?_
  refine R_iconst (v := nI 0) a_X11_guestOf_4 rfl ?_
  refine R_iald_n a_X11_guestOf_5 hDr (by first | omega | exact Nat.lt_of_le_of_lt (inR_le _ _) (by decide) | exact Nat.lt_of_le_of_lt (bitN_le _ _) (by decide) | exact Nat.lt_of_le_of_lt (inI_le _ _ _) (by decide) | exact inI_le _ _ _ | exact inR_le _ _ | exact bitN_le _ _) (by decide) ?_
  refine R_top h0 ?_
  refine R_istore (ls' := [_, _, _, _, _]) a_X11_guestOf_6 rfl rfl rfl ?_
  refine R_aload_n a_X11_guestOf_8 rfl ?_
  refine R_get a_X11_guestOf_9 hM rfl ?_
  refine R_iconst (v := nI 4) a_X11_guestOf_12 rfl ?_
  refine R_iload a_X11_guestOf_13 rfl ?_
  first | with_reducible refine R_iadd_n a_X11_guestOf_15 ?_ | refine R_iadd a_X11_guestOf_15 ?_
  refine R_iload_n a_X11_guestOf_16 rfl ?_
  refine R_iastK a_X11_guestOf_17 (by omega) hDr (by first | omega | exact Nat.lt_of_le_of_lt (inR_le _ _) (by decide) | exact Nat.lt_of_le_of_lt (bitN_le _ _) (by decide) | exact Nat.lt_of_le_of_lt (inI_le _ _ _) (by decide) | exact inI_le _ _ _ | exact inR_le _ _ | exact bitN_le _ _) (by decide) (fun σ hDr ho => ?_)
  have hM := (ho _ (by omega)).trans hM
  have hfr : ∀ j, j ≠ 275 → σ j = σ0 j := fun j hj => (ho j (by omega)).trans (hfr j hj)
  refine R_aload_n a_X11_guestOf_18 rfl ?_
  refine R_get a_X11_guestOf_19 hM rfl ?_
  refine R_bipush (v := nI 12) a_X11_guestOf_22 rfl ?_
  refine R_iload a_X11_guestOf_24 rfl ?_
  first | with_reducible refine R_iadd_n a_X11_guestOf_26 ?_ | refine R_iadd a_X11_guestOf_26 ?_
  refine R_iload_n a_X11_guestOf_27 rfl ?_
  refine R_iastK a_X11_guestOf_28 (by omega) hDr (by first | omega | exact Nat.lt_of_le_of_lt (inR_le _ _) (by decide) | exact Nat.lt_of_le_of_lt (bitN_le _ _) (by decide) | exact Nat.lt_of_le_of_lt (inI_le _ _ _) (by decide) | exact inI_le _ _ _ | exact inR_le _ _ | exact bitN_le _ _) (by decide) (fun σ hDr ho => ?_)
  have hM := (ho _ (by omega)).trans hM
  have hfr : ∀ j, j ≠ 275 → σ j = σ0 j := fun j hj => (ho j (by omega)).trans (hfr j hj)
  refine R_aload_n a_X11_guestOf_29 rfl ?_
  refine R_get a_X11_guestOf_30 hM rfl ?_
  refine R_bipush (v := nI 20) a_X11_guestOf_33 rfl ?_
  refine R_iload a_X11_guestOf_35 rfl ?_
  first | with_reducible refine R_iadd_n a_X11_guestOf_37 ?_ | refine R_iadd a_X11_guestOf_37 ?_
  refine R_iload_n a_X11_guestOf_38 rfl ?_
  refine R_iastK a_X11_guestOf_39 (by omega) hDr (by first | omega | exact Nat.lt_of_le_of_lt (inR_le _ _) (by decide) | exact Nat.lt_of_le_of_lt (bitN_le _ _) (by decide) | exact Nat.lt_of_le_of_lt (inI_le _ _ _) (by decide) | exact inI_le _ _ _ | exact inR_le _ _ | exact bitN_le _ _) (by decide) (fun σ hDr ho => ?_)
  have hM := (ho _ (by omega)).trans hM
  have hfr : ∀ j, j ≠ 275 → σ j = σ0 j := fun j hj => (ho j (by omega)).trans (hfr j hj)
  refine R_aload_n a_X11_guestOf_40 rfl ?_
  refine R_get a_X11_guestOf_41 hM rfl ?_
  refine R_iconst (v := nI 0) a_X11_guestOf_44 rfl ?_
  refine R_dup2 a_X11_guestOf_45 rfl rfl ?_
  refine R_iald_n a_X11_guestOf_46 hDr (by first | omega | exact Nat.lt_of_le_of_lt (inR_le _ _) (by decide) | exact Nat.lt_of_le_of_lt (bitN_le _ _) (by decide) | exact Nat.lt_of_le_of_lt (inI_le _ _ _) (by decide) | exact inI_le _ _ _ | exact inR_le _ _ | exact bitN_le _ _) (by decide) ?_
  refine R_top (show upd (upd (upd fd (4 + T.g) (nI a)) (12 + T.g) (nI b)) (20 + T.g) (nI c) 0 = nI T.g by rw [upd_no _ _ (by omega), upd_no _ _ (by omega), upd_no _ _ (by omega)]; exact h0) ?_
  refine R_iconst (v := nI 1) a_X11_guestOf_47 rfl ?_
  first | with_reducible refine R_iadd_n a_X11_guestOf_48 ?_ | refine R_iadd a_X11_guestOf_48 ?_
  refine R_iastK a_X11_guestOf_49 (by omega) hDr (by first | omega | exact Nat.lt_of_le_of_lt (inR_le _ _) (by decide) | exact Nat.lt_of_le_of_lt (bitN_le _ _) (by decide) | exact Nat.lt_of_le_of_lt (inI_le _ _ _) (by decide) | exact inI_le _ _ _ | exact inR_le _ _ | exact bitN_le _ _) (by decide) (fun σ hDr ho => ?_)
  have hM := (ho _ (by omega)).trans hM
  have hfr : ∀ j, j ≠ 275 → σ j = σ0 j := fun j hj => (ho j (by omega)).trans (hfr j hj)
  refine R_vret a_X11_guestOf_50 rfl ?_
  exact ⟨rfl, ⟨_, hDr, guest_row hDT hg⟩, hfr⟩

set_option maxRecDepth 20000 in
theorem md_thingOf {σ0 : AHp} {tl u kn ns : Nat} {at_ : Int32} (hM : σ0 272 = some (mdO tl u kn ns at_)) {fd : Nat → Int32} {T : Tb} (hDr : σ0 275 = some (iA 0 35 fd)) (hDT : ToP fd T) (hg : T.g ≤ 8) (hn6 : T.n < 6) {a b : Nat} (ha : a ≤ 1) : EvW M_X11_thingOf [.ref 272, .int (nI a), .int (nI b)] σ0 none (fun σ => (∃ fd2, σ 275 = some (iA 0 35 fd2) ∧ ToP fd2 (tT T a b)) ∧ ∀ j, j ≠ 275 → σ j = σ0 j) := by
  obtain ⟨h0, h1, h2, h3, h28, hk, hh, hn, hf⟩ := id hDT
  have hfr : ∀ j, j ≠ 275 → σ0 j = σ0 j := fun _ _ => rfl
  have hp6 : a * 2 ^ T.n < 2 ^ 32 := Nat.lt_of_le_of_lt (Nat.mul_le_mul ha (Nat.pow_le_pow_right (by decide) (show T.n ≤ 6 by omega))) (by decide)
  refine Ev.of (ls := [_, _, _, _]) 1 (by decide) rfl rfl ?_
  refine R_aload_n a_X11_thingOf_0 rfl ?_
  refine R_get a_X11_thingOf_1 hM rfl ?_
  refine R_iconst (v := nI 1) a_X11_thingOf_4 rfl ?_
  refine R_iald_n a_X11_thingOf_5 hDr (by first | omega | exact Nat.lt_of_le_of_lt (inR_le _ _) (by decide) | exact Nat.lt_of_le_of_lt (bitN_le _ _) (by decide) | exact Nat.lt_of_le_of_lt (inI_le _ _ _) (by decide) | exact inI_le _ _ _ | exact inR_le _ _ | exact bitN_le _ _) (by decide) ?_
  refine R_top h1 ?_
  refine R_istore_n (ls' := [_, _, _, _]) a_X11_thingOf_6 rfl rfl rfl ?_
  refine R_aload_n a_X11_thingOf_7 rfl ?_
  refine R_get a_X11_thingOf_8 hM rfl ?_
  refine R_bipush (v := nI 28) a_X11_thingOf_11 rfl ?_
  refine R_dup2 a_X11_thingOf_13 rfl rfl ?_
  refine R_iald_n a_X11_thingOf_14 hDr (by first | omega | exact Nat.lt_of_le_of_lt (inR_le _ _) (by decide) | exact Nat.lt_of_le_of_lt (bitN_le _ _) (by decide) | exact Nat.lt_of_le_of_lt (inI_le _ _ _) (by decide) | exact inI_le _ _ _ | exact inR_le _ _ | exact bitN_le _ _) (by decide) ?_
  refine R_top h28 ?_
  refine R_iload_n a_X11_thingOf_15 rfl ?_
  refine R_iload_n a_X11_thingOf_16 rfl ?_
  first | with_reducible refine R_ishl1 a_X11_thingOf_17 (by first | omega | exact Nat.lt_of_le_of_lt (inR_le _ _) (by decide) | exact Nat.lt_of_le_of_lt (bitN_le _ _) (by decide) | exact Nat.lt_of_le_of_lt (inI_le _ _ _) (by decide) | exact inI_le _ _ _ | exact inR_le _ _ | exact bitN_le _ _) ?_ | with_reducible refine R_ishl_n a_X11_thingOf_17 (by first | omega | exact Nat.lt_of_le_of_lt (inR_le _ _) (by decide) | exact Nat.lt_of_le_of_lt (bitN_le _ _) (by decide) | exact Nat.lt_of_le_of_lt (inI_le _ _ _) (by decide) | exact inI_le _ _ _ | exact inR_le _ _ | exact bitN_le _ _) (by first | omega | exact Nat.lt_of_le_of_lt (inR_le _ _) (by decide) | exact Nat.lt_of_le_of_lt (bitN_le _ _) (by decide) | exact Nat.lt_of_le_of_lt (inI_le _ _ _) (by decide) | exact inI_le _ _ _ | exact inR_le _ _ | exact bitN_le _ _) ?_ | refine R_ishl a_X11_thingOf_17 ?_
  first | with_reducible refine R_ior_n a_X11_thingOf_18 ?_ | refine R_ior a_X11_thingOf_18 ?_
  refine R_iastK a_X11_thingOf_19 (by omega) hDr (by first | omega | exact Nat.lt_of_le_of_lt (inR_le _ _) (by decide) | exact Nat.lt_of_le_of_lt (bitN_le _ _) (by decide) | exact Nat.lt_of_le_of_lt (inI_le _ _ _) (by decide) | exact inI_le _ _ _ | exact inR_le _ _ | exact bitN_le _ _) (by decide) (fun σ hDr ho => ?_)
  have hM := (ho _ (by omega)).trans hM
  have hfr : ∀ j, j ≠ 275 → σ j = σ0 j := fun j hj => (ho j (by omega)).trans (hfr j hj)
  refine R_aload_n a_X11_thingOf_20 rfl ?_
  refine R_get a_X11_thingOf_21 hM rfl ?_
  refine R_bipush (v := nI 29) a_X11_thingOf_24 rfl ?_
  refine R_iload_n a_X11_thingOf_26 rfl ?_
  first | with_reducible refine R_iadd_n a_X11_thingOf_27 ?_ | refine R_iadd a_X11_thingOf_27 ?_
  refine R_iload_n a_X11_thingOf_28 rfl ?_
  refine R_iastK a_X11_thingOf_29 (by omega) hDr (by first | omega | exact Nat.lt_of_le_of_lt (inR_le _ _) (by decide) | exact Nat.lt_of_le_of_lt (bitN_le _ _) (by decide) | exact Nat.lt_of_le_of_lt (inI_le _ _ _) (by decide) | exact inI_le _ _ _ | exact inR_le _ _ | exact bitN_le _ _) (by decide) (fun σ hDr ho => ?_)
  have hM := (ho _ (by omega)).trans hM
  have hfr : ∀ j, j ≠ 275 → σ j = σ0 j := fun j hj => (ho j (by omega)).trans (hfr j hj)
  refine R_aload_n a_X11_thingOf_30 rfl ?_
  refine R_get a_X11_thingOf_31 hM rfl ?_
  refine R_iconst (v := nI 1) a_X11_thingOf_34 rfl ?_
  refine R_dup2 a_X11_thingOf_35 rfl rfl ?_
  refine R_iald_n a_X11_thingOf_36 hDr (by first | omega | exact Nat.lt_of_le_of_lt (inR_le _ _) (by decide) | exact Nat.lt_of_le_of_lt (bitN_le _ _) (by decide) | exact Nat.lt_of_le_of_lt (inI_le _ _ _) (by decide) | exact inI_le _ _ _ | exact inR_le _ _ | exact bitN_le _ _) (by decide) ?_
  refine R_top (show upd (upd fd 28 (nI (T.so ||| a * 2 ^ T.n))) (29 + T.n) (nI b) 1 = nI T.n by rw [upd_no _ _ (by omega), upd_no _ _ (by omega)]; exact h1) ?_
  refine R_iconst (v := nI 1) a_X11_thingOf_37 rfl ?_
  first | with_reducible refine R_iadd_n a_X11_thingOf_38 ?_ | refine R_iadd a_X11_thingOf_38 ?_
  refine R_iastK a_X11_thingOf_39 (by omega) hDr (by first | omega | exact Nat.lt_of_le_of_lt (inR_le _ _) (by decide) | exact Nat.lt_of_le_of_lt (bitN_le _ _) (by decide) | exact Nat.lt_of_le_of_lt (inI_le _ _ _) (by decide) | exact inI_le _ _ _ | exact inR_le _ _ | exact bitN_le _ _) (by decide) (fun σ hDr ho => ?_)
  have hM := (ho _ (by omega)).trans hM
  have hfr : ∀ j, j ≠ 275 → σ j = σ0 j := fun j hj => (ho j (by omega)).trans (hfr j hj)
  refine R_vret a_X11_thingOf_40 rfl ?_
  exact ⟨rfl, ⟨_, hDr, thing_row hDT hg hn6⟩, hfr⟩

/-- an item behind its letter: the table with it, the place behind it -/
def riF (t : Nat → Nat) (p c : Nat) (T : Tb) : Option (Tb × Nat) :=
  if c = 103 then (match nbF t p 4 44 with
    | none => none
    | some (a, p1) => match nbF t p1 10 44 with
      | none => none
      | some (b, p2) => match nbF t p2 63 59 with
        | none => none
        | some (d, p3) => if T.g < 8 then some (tG T a b d, p3) else none)
  else if c = 116 then (match nbF t p 1 44 with
    | none => none
    | some (a, p1) => match nbF t p1 4 59 with
      | none => none
      | some (b, p2) => if 1 ≤ b ∧ T.n < 6 then some (tT T a b, p2) else none)
  else if c = 108 then (match nbF t p 3 59 with
    | none => none
    | some (a, p1) => some (tL T a, p1))
  else if c = 97 then (match nbF t p 7 59 with
    | none => none
    | some (a, p1) => some (tA T a, p1))
  else none
set_option maxRecDepth 20000 in
theorem md_readsItem {σ0 : AHp} {tl u kn ns : Nat} {p c : Nat} (hM : σ0 272 = some (mdO tl u kn ns (nI p))) {fx : Nat → Int32} {tf : Nat → Nat} (hTx : σ0 273 = some (iA 0 200 fx)) (hTxv : ∀ j, j < tl → fx j = nI (tf j)) (htl : tl ≤ 200) (htf : ∀ j, j < tl → tf j < 127) {fd : Nat → Int32} {T : Tb} (hDr : σ0 275 = some (iA 0 35 fd)) (hDT : ToP fd T) (hTi : TbIn T) (hp : p < 2 ^ 18) (hc : c < 127) : EvW M_X11_readsItem [.ref 272, .int (nI c)] σ0 (some (.int (nI (b2n (riF (tg tf tl) p c T).isSome)))) (fun σ => (∃ q fd2, σ 272 = some (mdO tl u kn ns (nI q)) ∧ σ 275 = some (iA 0 35 fd2) ∧ ∀ T2 r, riF (tg tf tl) p c T = some (T2, r) → q = r ∧ ToP fd2 T2) ∧ ∀ j, j ≠ 272 ∧ j ≠ 275 → σ j = σ0 j) := by
  have hfr : ∀ j, j ≠ 272 ∧ j ≠ 275 → σ0 j = σ0 j := fun _ _ => rfl
  obtain ⟨d0, d1, d2, d3, d28, dk, dh, dn, df⟩ := id hDT
  obtain ⟨i1, i2, -⟩ := id hTi
  have hDr0 := hDr
  refine Ev.of (ls := [_, _, _, _, _]) 3 (by decide) rfl rfl ?_
  refine R_iload_n a_X11_readsItem_0 rfl ?_
  by_cases hs97 : c = 97
  · refine R_lsw (off := 192) (tgt := 193) a_X11_readsItem_1 (by decide) (by rw [hs97]; rfl) rfl ?_
    subst hs97
    refine R_aload_n a_X11_readsItem_193 rfl ?_
    refine R_get a_X11_readsItem_194 hM rfl ?_
    refine R_iconst (v := nI 3) a_X11_readsItem_197 rfl ?_
    refine R_aload_n a_X11_readsItem_198 rfl ?_
    refine R_bipush (v := nI 7) a_X11_readsItem_199 rfl ?_
    refine R_bipush (v := nI 59) a_X11_readsItem_201 rfl ?_
    refine R_callVs a_X11_readsItem_203 hM (md_number (p := p) (hi := 7) (e := 59) hM hTx hTxv htl htf (by omega) (by decide) (by decide) (by decide)) rfl rfl rfl rfl rfl (fun σ hP => ?_)
    obtain ⟨⟨q1, hM, hq1⟩, hf1⟩ := hP
    have hTx := (hf1 273 (by omega)).trans hTx
    have hDr := (hf1 275 (by omega)).trans hDr
    have hfr : ∀ j, j ≠ 272 ∧ j ≠ 275 → σ j = σ0 j := fun j hj => (hf1 j hj.1).trans (hfr j hj)
    refine R_iastK a_X11_readsItem_206 (by omega) hDr (by first | omega | exact Nat.lt_of_le_of_lt (inR_le _ _) (by decide) | exact Nat.lt_of_le_of_lt (bitN_le _ _) (by decide) | exact Nat.lt_of_le_of_lt (inI_le _ _ _) (by decide) | exact inI_le _ _ _ | exact inR_le _ _ | exact bitN_le _ _) (by decide) (fun σ hDr ho => ?_)
    have hM := (ho _ (by omega)).trans hM
    have hTx := (ho _ (by omega)).trans hTx
    have hfr : ∀ j, j ≠ 272 ∧ j ≠ 275 → σ j = σ0 j := fun j hj => (ho j (by omega)).trans (hfr j hj)
    refine R_aload_n a_X11_readsItem_207 rfl ?_
    refine R_get a_X11_readsItem_208 hM rfl ?_
    refine R_iconst (v := nI 3) a_X11_readsItem_211 rfl ?_
    refine R_iald_n a_X11_readsItem_212 hDr (by first | omega | exact Nat.lt_of_le_of_lt (inR_le _ _) (by decide) | exact Nat.lt_of_le_of_lt (bitN_le _ _) (by decide) | exact Nat.lt_of_le_of_lt (inI_le _ _ _) (by decide) | exact inI_le _ _ _ | exact inR_le _ _ | exact bitN_le _ _) (by decide) ?_
    refine R_top (upd_at _ _ _) ?_
    refine R_if_lt a_X11_readsItem_213 (fun h213 => ?_) (fun h213 => ?_)
    · skip
      have o1 := nb_lt' (by decide) h213
      have hz : riF (tg tf tl) p 97 T = none := by
        unfold riF
        rw [if_neg (by decide), if_neg (by decide), if_neg (by decide), if_pos rfl]
        rw [o1]
      refine R_iconst (v := nI 0) a_X11_readsItem_220 rfl ?_
      refine R_zret_n a_X11_readsItem_221 rfl (by first | omega | exact Nat.lt_of_le_of_lt (inR_le _ _) (by decide) | exact Nat.lt_of_le_of_lt (bitN_le _ _) (by decide) | exact Nat.lt_of_le_of_lt (inI_le _ _ _) (by decide) | exact inI_le _ _ _ | exact inR_le _ _ | exact bitN_le _ _) ?_
      exact ⟨by rw [hz]; rfl, ⟨_, _, hM, hDr, fun T2 r hq => by rw [hz] at hq; cases hq⟩, hfr⟩
    · skip
      obtain ⟨a, p1, o1, ha, hp1, ea⟩ := nb_ge' h213
      rw [hq1 a p1 o1] at hM
      rw [ea] at hDr
      have hDT2 := start_row (a := a) hDT
      have hz : riF (tg tf tl) p 97 T = some (tA T a, p1) := by
        unfold riF
        rw [if_neg (by decide), if_neg (by decide), if_neg (by decide), if_pos rfl]
        rw [o1]
      refine R_iconst (v := nI 1) a_X11_readsItem_216 rfl ?_
      refine R_goto a_X11_readsItem_217 ?_
      refine R_zret_n a_X11_readsItem_221 rfl (by first | omega | exact Nat.lt_of_le_of_lt (inR_le _ _) (by decide) | exact Nat.lt_of_le_of_lt (bitN_le _ _) (by decide) | exact Nat.lt_of_le_of_lt (inI_le _ _ _) (by decide) | exact inI_le _ _ _ | exact inR_le _ _ | exact bitN_le _ _) ?_
      exact ⟨by rw [hz]; rfl, ⟨_, _, hM, hDr, fun T2 r hq => by rw [hz] at hq; cases hq; exact ⟨rfl, hDT2⟩⟩, hfr⟩
  by_cases hs103 : c = 103
  · refine R_lsw (off := 43) (tgt := 44) a_X11_readsItem_1 (by decide) (by rw [hs103]; rfl) rfl ?_
    subst hs103
    refine R_aload_n a_X11_readsItem_44 rfl ?_
    refine R_iconst (v := nI 4) a_X11_readsItem_45 rfl ?_
    refine R_bipush (v := nI 44) a_X11_readsItem_46 rfl ?_
    refine R_callVs a_X11_readsItem_48 hM (md_number (p := p) (hi := 4) (e := 44) hM hTx hTxv htl htf (by omega) (by decide) (by decide) (by decide)) rfl rfl rfl rfl rfl (fun σ hP => ?_)
    obtain ⟨⟨q1, hM, hq1⟩, hf1⟩ := hP
    have hTx := (hf1 273 (by omega)).trans hTx
    have hDr := (hf1 275 (by omega)).trans hDr
    have hfr : ∀ j, j ≠ 272 ∧ j ≠ 275 → σ j = σ0 j := fun j hj => (hf1 j hj.1).trans (hfr j hj)
    refine R_istore_n (ls' := [_, _, _, _, _]) a_X11_readsItem_51 rfl rfl rfl ?_
    refine R_iload_n a_X11_readsItem_52 rfl ?_
    refine R_if_ge a_X11_readsItem_53 (fun h53 => ?_) (fun h53 => ?_)
    · skip
      obtain ⟨a, p1, o1, ha, hp1, ea⟩ := nb_ge h53
      rw [hq1 a p1 o1] at hM
      rw [ea]
      refine R_aload_n a_X11_readsItem_60 rfl ?_
      refine R_bipush (v := nI 10) a_X11_readsItem_61 rfl ?_
      refine R_bipush (v := nI 44) a_X11_readsItem_63 rfl ?_
      refine R_callVs a_X11_readsItem_65 hM (md_number (p := p1) (hi := 10) (e := 44) hM hTx hTxv htl htf (by omega) (by decide) (by decide) (by decide)) rfl rfl rfl rfl rfl (fun σ hP => ?_)
      obtain ⟨⟨q1, hM, hq1⟩, hf1⟩ := hP
      have hTx := (hf1 273 (by omega)).trans hTx
      have hDr := (hf1 275 (by omega)).trans hDr
      have hfr : ∀ j, j ≠ 272 ∧ j ≠ 275 → σ j = σ0 j := fun j hj => (hf1 j hj.1).trans (hfr j hj)
      refine R_istore_n (ls' := [_, _, _, _, _]) a_X11_readsItem_68 rfl rfl rfl ?_
      refine R_iload_n a_X11_readsItem_69 rfl ?_
      refine R_if_ge a_X11_readsItem_70 (fun h70 => ?_) (fun h70 => ?_)
      · skip
        obtain ⟨b, p2, o2, hb, hp2, eb⟩ := nb_ge h70
        rw [hq1 b p2 o2] at hM
        rw [eb]
        refine R_aload_n a_X11_readsItem_77 rfl ?_
        refine R_bipush (v := nI 63) a_X11_readsItem_78 rfl ?_
        refine R_bipush (v := nI 59) a_X11_readsItem_80 rfl ?_
        refine R_callVs a_X11_readsItem_82 hM (md_number (p := p2) (hi := 63) (e := 59) hM hTx hTxv htl htf (by omega) (by decide) (by decide) (by decide)) rfl rfl rfl rfl rfl (fun σ hP => ?_)
        obtain ⟨⟨q1, hM, hq1⟩, hf1⟩ := hP
        have hTx := (hf1 273 (by omega)).trans hTx
        have hDr := (hf1 275 (by omega)).trans hDr
        have hfr : ∀ j, j ≠ 272 ∧ j ≠ 275 → σ j = σ0 j := fun j hj => (hf1 j hj.1).trans (hfr j hj)
        refine R_istore (ls' := [_, _, _, _, _]) a_X11_readsItem_85 rfl rfl rfl ?_
        refine R_iload a_X11_readsItem_87 rfl ?_
        refine R_if_lt a_X11_readsItem_89 (fun h89 => ?_) (fun h89 => ?_)
        · skip
          have o3 := nb_lt' (by decide) h89
          have hz : riF (tg tf tl) p 103 T = none := by
            unfold riF
            rw [if_pos rfl]
            rw [o1]
            dsimp only
            rw [o2]
            dsimp only
            rw [o3]
          refine R_iconst (v := nI 0) a_X11_readsItem_103 rfl ?_
          refine R_zret_n a_X11_readsItem_104 rfl (by first | omega | exact Nat.lt_of_le_of_lt (inR_le _ _) (by decide) | exact Nat.lt_of_le_of_lt (bitN_le _ _) (by decide) | exact Nat.lt_of_le_of_lt (inI_le _ _ _) (by decide) | exact inI_le _ _ _ | exact inR_le _ _ | exact bitN_le _ _) ?_
          exact ⟨by rw [hz]; rfl, ⟨_, _, hM, hDr, fun T2 r hq => by rw [hz] at hq; cases hq⟩, hfr⟩
        · skip
          obtain ⟨d, p3, o3, hd, hp3, ed⟩ := nb_ge' h89
          rw [hq1 d p3 o3] at hM
          rw [ed]
          refine R_aload_n a_X11_readsItem_92 rfl ?_
          refine R_get a_X11_readsItem_93 hM rfl ?_
          refine R_iconst (v := nI 0) a_X11_readsItem_96 rfl ?_
          refine R_iald_n a_X11_readsItem_97 hDr (by first | omega | exact Nat.lt_of_le_of_lt (inR_le _ _) (by decide) | exact Nat.lt_of_le_of_lt (bitN_le _ _) (by decide) | exact Nat.lt_of_le_of_lt (inI_le _ _ _) (by decide) | exact inI_le _ _ _ | exact inR_le _ _ | exact bitN_le _ _) (by decide) ?_
          refine R_top d0 ?_
          refine R_bipush (v := nI 8) a_X11_readsItem_98 rfl ?_
          first | with_reducible refine R_icmp_ne_n a_X11_readsItem_100 (by first | omega | exact Nat.lt_of_le_of_lt (inR_le _ _) (by decide) | exact Nat.lt_of_le_of_lt (bitN_le _ _) (by decide) | exact Nat.lt_of_le_of_lt (inI_le _ _ _) (by decide) | exact inI_le _ _ _ | exact inR_le _ _ | exact bitN_le _ _) (by first | omega | exact Nat.lt_of_le_of_lt (inR_le _ _) (by decide) | exact Nat.lt_of_le_of_lt (bitN_le _ _) (by decide) | exact Nat.lt_of_le_of_lt (inI_le _ _ _) (by decide) | exact inI_le _ _ _ | exact inR_le _ _ | exact bitN_le _ _) (fun h100 => ?_) (fun h100 => ?_) | refine R_icmp_ne a_X11_readsItem_100 (fun h100 => ?_) (fun h100 => ?_)
          · skip
            have hg : T.g < 8 := by omega
            have hz : riF (tg tf tl) p 103 T = some (tG T a b d, p3) := by
              unfold riF
              rw [if_pos rfl]
              rw [o1]
              dsimp only
              rw [o2]
              dsimp only
              rw [o3]
              dsimp only
              rw [if_pos hg]
            refine R_aload_n a_X11_readsItem_105 rfl ?_
            refine R_iload_n a_X11_readsItem_106 rfl ?_
            refine R_iload_n a_X11_readsItem_107 rfl ?_
            refine R_iload a_X11_readsItem_108 rfl ?_
            refine R_callVv a_X11_readsItem_110 hM (md_guestOf hM hDr hDT hg) rfl rfl rfl rfl rfl (fun σ hP => ?_)
            obtain ⟨⟨fd2, hDr, hDT2⟩, hf9⟩ := hP
            have hM := (hf9 272 (by omega)).trans hM
            have hfr : ∀ j, j ≠ 272 ∧ j ≠ 275 → σ j = σ0 j := fun j hj => (hf9 j hj.2).trans (hfr j hj)
            refine R_iconst (v := nI 1) a_X11_readsItem_113 rfl ?_
            refine R_zret_n a_X11_readsItem_114 rfl (by first | omega | exact Nat.lt_of_le_of_lt (inR_le _ _) (by decide) | exact Nat.lt_of_le_of_lt (bitN_le _ _) (by decide) | exact Nat.lt_of_le_of_lt (inI_le _ _ _) (by decide) | exact inI_le _ _ _ | exact inR_le _ _ | exact bitN_le _ _) ?_
            exact ⟨by rw [hz]; rfl, ⟨_, _, hM, hDr, fun T2 r hq => by rw [hz] at hq; cases hq; exact ⟨rfl, hDT2⟩⟩, hfr⟩
          · skip
            have hz : riF (tg tf tl) p 103 T = none := by
              unfold riF
              rw [if_pos rfl]
              rw [o1]
              dsimp only
              rw [o2]
              dsimp only
              rw [o3]
              dsimp only
              rw [if_neg (by omega)]
            refine R_iconst (v := nI 0) a_X11_readsItem_103 rfl ?_
            refine R_zret_n a_X11_readsItem_104 rfl (by first | omega | exact Nat.lt_of_le_of_lt (inR_le _ _) (by decide) | exact Nat.lt_of_le_of_lt (bitN_le _ _) (by decide) | exact Nat.lt_of_le_of_lt (inI_le _ _ _) (by decide) | exact inI_le _ _ _ | exact inR_le _ _ | exact bitN_le _ _) ?_
            exact ⟨by rw [hz]; rfl, ⟨_, _, hM, hDr, fun T2 r hq => by rw [hz] at hq; cases hq⟩, hfr⟩
      · skip
        have o2 := nb_lt (by decide) h70
        have hz : riF (tg tf tl) p 103 T = none := by
          unfold riF
          rw [if_pos rfl]
          rw [o1]
          dsimp only
          rw [o2]
        refine R_iconst (v := (-1)) a_X11_readsItem_73 rfl ?_
        refine R_goto a_X11_readsItem_74 ?_
        refine R_istore (ls' := [_, _, _, _, _]) a_X11_readsItem_85 rfl rfl rfl ?_
        refine R_iload a_X11_readsItem_87 rfl ?_
        refine R_if_lt a_X11_readsItem_89 (fun h89 => ?_) (fun h89 => ?_)
        · skip
          refine R_iconst (v := nI 0) a_X11_readsItem_103 rfl ?_
          refine R_zret_n a_X11_readsItem_104 rfl (by first | omega | exact Nat.lt_of_le_of_lt (inR_le _ _) (by decide) | exact Nat.lt_of_le_of_lt (bitN_le _ _) (by decide) | exact Nat.lt_of_le_of_lt (inI_le _ _ _) (by decide) | exact inI_le _ _ _ | exact inR_le _ _ | exact bitN_le _ _) ?_
          exact ⟨by rw [hz]; rfl, ⟨_, _, hM, hDr, fun T2 r hq => by rw [hz] at hq; cases hq⟩, hfr⟩
        · skip
          exact absurd (by decide) h89
    · skip
      have o1 := nb_lt (by decide) h53
      have hz : riF (tg tf tl) p 103 T = none := by
        unfold riF
        rw [if_pos rfl]
        rw [o1]
      refine R_iconst (v := (-1)) a_X11_readsItem_56 rfl ?_
      refine R_goto a_X11_readsItem_57 ?_
      refine R_istore_n (ls' := [_, _, _, _, _]) a_X11_readsItem_68 rfl rfl rfl ?_
      refine R_iload_n a_X11_readsItem_69 rfl ?_
      refine R_if_ge a_X11_readsItem_70 (fun h70 => ?_) (fun h70 => ?_)
      · skip
        exact absurd h70 (by decide)
      · skip
        refine R_iconst (v := (-1)) a_X11_readsItem_73 rfl ?_
        refine R_goto a_X11_readsItem_74 ?_
        refine R_istore (ls' := [_, _, _, _, _]) a_X11_readsItem_85 rfl rfl rfl ?_
        refine R_iload a_X11_readsItem_87 rfl ?_
        refine R_if_lt a_X11_readsItem_89 (fun h89 => ?_) (fun h89 => ?_)
        · skip
          refine R_iconst (v := nI 0) a_X11_readsItem_103 rfl ?_
          refine R_zret_n a_X11_readsItem_104 rfl (by first | omega | exact Nat.lt_of_le_of_lt (inR_le _ _) (by decide) | exact Nat.lt_of_le_of_lt (bitN_le _ _) (by decide) | exact Nat.lt_of_le_of_lt (inI_le _ _ _) (by decide) | exact inI_le _ _ _ | exact inR_le _ _ | exact bitN_le _ _) ?_
          exact ⟨by rw [hz]; rfl, ⟨_, _, hM, hDr, fun T2 r hq => by rw [hz] at hq; cases hq⟩, hfr⟩
        · skip
          exact absurd (by decide) h89
  by_cases hs108 : c = 108
  · refine R_lsw (off := 164) (tgt := 165) a_X11_readsItem_1 (by decide) (by rw [hs108]; rfl) rfl ?_
    subst hs108
    refine R_aload_n a_X11_readsItem_165 rfl ?_
    refine R_get a_X11_readsItem_166 hM rfl ?_
    refine R_iconst (v := nI 2) a_X11_readsItem_169 rfl ?_
    refine R_aload_n a_X11_readsItem_170 rfl ?_
    refine R_iconst (v := nI 3) a_X11_readsItem_171 rfl ?_
    refine R_bipush (v := nI 59) a_X11_readsItem_172 rfl ?_
    refine R_callVs a_X11_readsItem_174 hM (md_number (p := p) (hi := 3) (e := 59) hM hTx hTxv htl htf (by omega) (by decide) (by decide) (by decide)) rfl rfl rfl rfl rfl (fun σ hP => ?_)
    obtain ⟨⟨q1, hM, hq1⟩, hf1⟩ := hP
    have hTx := (hf1 273 (by omega)).trans hTx
    have hDr := (hf1 275 (by omega)).trans hDr
    have hfr : ∀ j, j ≠ 272 ∧ j ≠ 275 → σ j = σ0 j := fun j hj => (hf1 j hj.1).trans (hfr j hj)
    refine R_iastK a_X11_readsItem_177 (by omega) hDr (by first | omega | exact Nat.lt_of_le_of_lt (inR_le _ _) (by decide) | exact Nat.lt_of_le_of_lt (bitN_le _ _) (by decide) | exact Nat.lt_of_le_of_lt (inI_le _ _ _) (by decide) | exact inI_le _ _ _ | exact inR_le _ _ | exact bitN_le _ _) (by decide) (fun σ hDr ho => ?_)
    have hM := (ho _ (by omega)).trans hM
    have hTx := (ho _ (by omega)).trans hTx
    have hfr : ∀ j, j ≠ 272 ∧ j ≠ 275 → σ j = σ0 j := fun j hj => (ho j (by omega)).trans (hfr j hj)
    refine R_aload_n a_X11_readsItem_178 rfl ?_
    refine R_get a_X11_readsItem_179 hM rfl ?_
    refine R_iconst (v := nI 2) a_X11_readsItem_182 rfl ?_
    refine R_iald_n a_X11_readsItem_183 hDr (by first | omega | exact Nat.lt_of_le_of_lt (inR_le _ _) (by decide) | exact Nat.lt_of_le_of_lt (bitN_le _ _) (by decide) | exact Nat.lt_of_le_of_lt (inI_le _ _ _) (by decide) | exact inI_le _ _ _ | exact inR_le _ _ | exact bitN_le _ _) (by decide) ?_
    refine R_top (upd_at _ _ _) ?_
    refine R_if_lt a_X11_readsItem_184 (fun h184 => ?_) (fun h184 => ?_)
    · skip
      have o1 := nb_lt' (by decide) h184
      have hz : riF (tg tf tl) p 108 T = none := by
        unfold riF
        rw [if_neg (by decide), if_neg (by decide), if_pos rfl]
        rw [o1]
      refine R_iconst (v := nI 0) a_X11_readsItem_191 rfl ?_
      refine R_zret_n a_X11_readsItem_192 rfl (by first | omega | exact Nat.lt_of_le_of_lt (inR_le _ _) (by decide) | exact Nat.lt_of_le_of_lt (bitN_le _ _) (by decide) | exact Nat.lt_of_le_of_lt (inI_le _ _ _) (by decide) | exact inI_le _ _ _ | exact inR_le _ _ | exact bitN_le _ _) ?_
      exact ⟨by rw [hz]; rfl, ⟨_, _, hM, hDr, fun T2 r hq => by rw [hz] at hq; cases hq⟩, hfr⟩
    · skip
      obtain ⟨a, p1, o1, ha, hp1, ea⟩ := nb_ge' h184
      rw [hq1 a p1 o1] at hM
      rw [ea] at hDr
      have hDT2 := law_row (a := a) hDT
      have hz : riF (tg tf tl) p 108 T = some (tL T a, p1) := by
        unfold riF
        rw [if_neg (by decide), if_neg (by decide), if_pos rfl]
        rw [o1]
      refine R_iconst (v := nI 1) a_X11_readsItem_187 rfl ?_
      refine R_goto a_X11_readsItem_188 ?_
      refine R_zret_n a_X11_readsItem_192 rfl (by first | omega | exact Nat.lt_of_le_of_lt (inR_le _ _) (by decide) | exact Nat.lt_of_le_of_lt (bitN_le _ _) (by decide) | exact Nat.lt_of_le_of_lt (inI_le _ _ _) (by decide) | exact inI_le _ _ _ | exact inR_le _ _ | exact bitN_le _ _) ?_
      exact ⟨by rw [hz]; rfl, ⟨_, _, hM, hDr, fun T2 r hq => by rw [hz] at hq; cases hq; exact ⟨rfl, hDT2⟩⟩, hfr⟩
  by_cases hs116 : c = 116
  · refine R_lsw (off := 114) (tgt := 115) a_X11_readsItem_1 (by decide) (by rw [hs116]; rfl) rfl ?_
    subst hs116
    refine R_aload_n a_X11_readsItem_115 rfl ?_
    refine R_iconst (v := nI 1) a_X11_readsItem_116 rfl ?_
    refine R_bipush (v := nI 44) a_X11_readsItem_117 rfl ?_
    refine R_callVs a_X11_readsItem_119 hM (md_number (p := p) (hi := 1) (e := 44) hM hTx hTxv htl htf (by omega) (by decide) (by decide) (by decide)) rfl rfl rfl rfl rfl (fun σ hP => ?_)
    obtain ⟨⟨q1, hM, hq1⟩, hf1⟩ := hP
    have hTx := (hf1 273 (by omega)).trans hTx
    have hDr := (hf1 275 (by omega)).trans hDr
    have hfr : ∀ j, j ≠ 272 ∧ j ≠ 275 → σ j = σ0 j := fun j hj => (hf1 j hj.1).trans (hfr j hj)
    refine R_istore_n (ls' := [_, _, _, _, _]) a_X11_readsItem_122 rfl rfl rfl ?_
    refine R_iload_n a_X11_readsItem_123 rfl ?_
    refine R_if_ge a_X11_readsItem_124 (fun h124 => ?_) (fun h124 => ?_)
    · skip
      obtain ⟨a, p1, o1, ha, hp1, ea⟩ := nb_ge h124
      rw [hq1 a p1 o1] at hM
      rw [ea]
      refine R_aload_n a_X11_readsItem_131 rfl ?_
      refine R_iconst (v := nI 4) a_X11_readsItem_132 rfl ?_
      refine R_bipush (v := nI 59) a_X11_readsItem_133 rfl ?_
      refine R_callVs a_X11_readsItem_135 hM (md_number (p := p1) (hi := 4) (e := 59) hM hTx hTxv htl htf (by omega) (by decide) (by decide) (by decide)) rfl rfl rfl rfl rfl (fun σ hP => ?_)
      obtain ⟨⟨q1, hM, hq1⟩, hf1⟩ := hP
      have hTx := (hf1 273 (by omega)).trans hTx
      have hDr := (hf1 275 (by omega)).trans hDr
      have hfr : ∀ j, j ≠ 272 ∧ j ≠ 275 → σ j = σ0 j := fun j hj => (hf1 j hj.1).trans (hfr j hj)
      refine R_istore_n (ls' := [_, _, _, _, _]) a_X11_readsItem_138 rfl rfl rfl ?_
      refine R_iload_n a_X11_readsItem_139 rfl ?_
      refine R_iconst (v := nI 1) a_X11_readsItem_140 rfl ?_
      refine R_icmp_lt a_X11_readsItem_141 (fun h141 => ?_) (fun h141 => ?_)
      · skip
        have hz : riF (tg tf tl) p 116 T = none := by
          unfold riF
          rw [if_neg (by decide), if_pos rfl, o1]
          dsimp only
          cases o2 : nbF (tg tf tl) p1 4 59 with
          | none => rfl
          | some bq =>
            obtain ⟨b, p2⟩ := bq
            dsimp only
            have hb0 := nb_up o2
            have e2 : nbI (nbF (tg tf tl) p1 4 59) = nI b := by rw [o2]; rfl
            rw [e2] at h141
            have := (nI_ltI (show b < 2 ^ 31 by omega) (show 1 < 2 ^ 31 by decide)).mp h141
            rw [if_neg (by omega)]
        refine R_iconst (v := nI 0) a_X11_readsItem_155 rfl ?_
        refine R_zret_n a_X11_readsItem_156 rfl (by first | omega | exact Nat.lt_of_le_of_lt (inR_le _ _) (by decide) | exact Nat.lt_of_le_of_lt (bitN_le _ _) (by decide) | exact Nat.lt_of_le_of_lt (inI_le _ _ _) (by decide) | exact inI_le _ _ _ | exact inR_le _ _ | exact bitN_le _ _) ?_
        exact ⟨by rw [hz]; rfl, ⟨_, _, hM, hDr, fun T2 r hq => by rw [hz] at hq; cases hq⟩, hfr⟩
      · skip
        have h141b : ¬ nbI (nbF (tg tf tl) p1 4 59) < 0 := fun q => h141 (Int32.lt_of_lt_of_le q (by decide))
        obtain ⟨b, p2, o2, hb, hp2, eb⟩ := nb_ge' h141b
        rw [hq1 b p2 o2] at hM
        rw [eb]
        have hb1 : 1 ≤ b := by
          rcases Nat.eq_zero_or_pos b with q | q
          · rw [eb, q] at h141; exact absurd (by decide) h141
          · exact q
        refine R_aload_n a_X11_readsItem_144 rfl ?_
        refine R_get a_X11_readsItem_145 hM rfl ?_
        refine R_iconst (v := nI 1) a_X11_readsItem_148 rfl ?_
        refine R_iald_n a_X11_readsItem_149 hDr (by first | omega | exact Nat.lt_of_le_of_lt (inR_le _ _) (by decide) | exact Nat.lt_of_le_of_lt (bitN_le _ _) (by decide) | exact Nat.lt_of_le_of_lt (inI_le _ _ _) (by decide) | exact inI_le _ _ _ | exact inR_le _ _ | exact bitN_le _ _) (by decide) ?_
        refine R_top d1 ?_
        refine R_bipush (v := nI 6) a_X11_readsItem_150 rfl ?_
        first | with_reducible refine R_icmp_ne_n a_X11_readsItem_152 (by first | omega | exact Nat.lt_of_le_of_lt (inR_le _ _) (by decide) | exact Nat.lt_of_le_of_lt (bitN_le _ _) (by decide) | exact Nat.lt_of_le_of_lt (inI_le _ _ _) (by decide) | exact inI_le _ _ _ | exact inR_le _ _ | exact bitN_le _ _) (by first | omega | exact Nat.lt_of_le_of_lt (inR_le _ _) (by decide) | exact Nat.lt_of_le_of_lt (bitN_le _ _) (by decide) | exact Nat.lt_of_le_of_lt (inI_le _ _ _) (by decide) | exact inI_le _ _ _ | exact inR_le _ _ | exact bitN_le _ _) (fun h152 => ?_) (fun h152 => ?_) | refine R_icmp_ne a_X11_readsItem_152 (fun h152 => ?_) (fun h152 => ?_)
        · skip
          have hn6 : T.n < 6 := by omega
          have hz : riF (tg tf tl) p 116 T = some (tT T a b, p2) := by
            unfold riF
            rw [if_neg (by decide), if_pos rfl]
            rw [o1]
            dsimp only
            rw [o2]
            dsimp only
            rw [if_pos ⟨hb1, hn6⟩]
          refine R_aload_n a_X11_readsItem_157 rfl ?_
          refine R_iload_n a_X11_readsItem_158 rfl ?_
          refine R_iload_n a_X11_readsItem_159 rfl ?_
          refine R_callVv a_X11_readsItem_160 hM (md_thingOf hM hDr hDT (by omega) hn6 ha) rfl rfl rfl rfl rfl (fun σ hP => ?_)
          obtain ⟨⟨fd2, hDr, hDT2⟩, hf9⟩ := hP
          have hM := (hf9 272 (by omega)).trans hM
          have hfr : ∀ j, j ≠ 272 ∧ j ≠ 275 → σ j = σ0 j := fun j hj => (hf9 j hj.2).trans (hfr j hj)
          refine R_iconst (v := nI 1) a_X11_readsItem_163 rfl ?_
          refine R_zret_n a_X11_readsItem_164 rfl (by first | omega | exact Nat.lt_of_le_of_lt (inR_le _ _) (by decide) | exact Nat.lt_of_le_of_lt (bitN_le _ _) (by decide) | exact Nat.lt_of_le_of_lt (inI_le _ _ _) (by decide) | exact inI_le _ _ _ | exact inR_le _ _ | exact bitN_le _ _) ?_
          exact ⟨by rw [hz]; rfl, ⟨_, _, hM, hDr, fun T2 r hq => by rw [hz] at hq; cases hq; exact ⟨rfl, hDT2⟩⟩, hfr⟩
        · skip
          have hz : riF (tg tf tl) p 116 T = none := by
            unfold riF
            rw [if_neg (by decide), if_pos rfl]
            rw [o1]
            dsimp only
            rw [o2]
            dsimp only
            rw [if_neg (by omega)]
          refine R_iconst (v := nI 0) a_X11_readsItem_155 rfl ?_
          refine R_zret_n a_X11_readsItem_156 rfl (by first | omega | exact Nat.lt_of_le_of_lt (inR_le _ _) (by decide) | exact Nat.lt_of_le_of_lt (bitN_le _ _) (by decide) | exact Nat.lt_of_le_of_lt (inI_le _ _ _) (by decide) | exact inI_le _ _ _ | exact inR_le _ _ | exact bitN_le _ _) ?_
          exact ⟨by rw [hz]; rfl, ⟨_, _, hM, hDr, fun T2 r hq => by rw [hz] at hq; cases hq⟩, hfr⟩
    · skip
      have o1 := nb_lt (by decide) h124
      have hz : riF (tg tf tl) p 116 T = none := by
        unfold riF
        rw [if_neg (by decide), if_pos rfl]
        rw [o1]
      refine R_iconst (v := (-1)) a_X11_readsItem_127 rfl ?_
      refine R_goto a_X11_readsItem_128 ?_
      refine R_istore_n (ls' := [_, _, _, _, _]) a_X11_readsItem_138 rfl rfl rfl ?_
      refine R_iload_n a_X11_readsItem_139 rfl ?_
      refine R_iconst (v := nI 1) a_X11_readsItem_140 rfl ?_
      refine R_icmp_lt a_X11_readsItem_141 (fun h141 => ?_) (fun h141 => ?_)
      · skip
        refine R_iconst (v := nI 0) a_X11_readsItem_155 rfl ?_
        refine R_zret_n a_X11_readsItem_156 rfl (by first | omega | exact Nat.lt_of_le_of_lt (inR_le _ _) (by decide) | exact Nat.lt_of_le_of_lt (bitN_le _ _) (by decide) | exact Nat.lt_of_le_of_lt (inI_le _ _ _) (by decide) | exact inI_le _ _ _ | exact inR_le _ _ | exact bitN_le _ _) ?_
        exact ⟨by rw [hz]; rfl, ⟨_, _, hM, hDr, fun T2 r hq => by rw [hz] at hq; cases hq⟩, hfr⟩
      · skip
        exact absurd (by decide) h141
  refine R_lsw (off := 221) (tgt := 222) a_X11_readsItem_1 (by decide) (by simp [Op.lookupswitch.offset, nI_toInt (show c < 2 ^ 31 by omega)]; omega) rfl ?_
  have hz : riF (tg tf tl) p c T = none := by
    unfold riF
    rw [if_neg hs103, if_neg hs116, if_neg hs108, if_neg hs97]
  refine R_iconst (v := nI 0) a_X11_readsItem_222 rfl ?_
  refine R_zret_n a_X11_readsItem_223 rfl (by first | omega | exact Nat.lt_of_le_of_lt (inR_le _ _) (by decide) | exact Nat.lt_of_le_of_lt (bitN_le _ _) (by decide) | exact Nat.lt_of_le_of_lt (inI_le _ _ _) (by decide) | exact inI_le _ _ _ | exact inR_le _ _ | exact bitN_le _ _) ?_
  exact ⟨by rw [hz]; rfl, ⟨_, _, hM, hDr, fun T2 r hq => by rw [hz] at hq; cases hq⟩, hfr⟩

