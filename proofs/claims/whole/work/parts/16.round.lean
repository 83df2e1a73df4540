/-! ===== SaltToLiars.Round; how the salt moves ===== -/
/-- a round: how many spoke, who, of what, what was said; from, to, the trail before, who lied (bits) -/
abbrev Rs : Type := Nat × (Nat → Nat) × (Nat → Nat) × (Nat → Nat) × Nat × Nat × Nat × Nat
abbrev Rs.sp (R : Rs) : Nat := R.1
abbrev Rs.w (R : Rs) : Nat → Nat := R.2.1
abbrev Rs.tp (R : Rs) : Nat → Nat := R.2.2.1
abbrev Rs.sd (R : Rs) : Nat → Nat := R.2.2.2.1
abbrev Rs.fr (R : Rs) : Nat := R.2.2.2.2.1
abbrev Rs.to (R : Rs) : Nat := R.2.2.2.2.2.1
abbrev Rs.tb (R : Rs) : Nat := R.2.2.2.2.2.2.1
abbrev Rs.li (R : Rs) : Nat := R.2.2.2.2.2.2.2
def RdP (σ : AHp) (r : Nat) (R : Rs) : Prop := r ≠ 0 ∧ σ r = some (oB 6 [.ref (r + 1), .ref (r + 2), .ref (r + 3), .int (nI R.sp), .int (nI R.fr), .int (nI R.to), .int (nI R.tb), .int (nI R.li)]) ∧ σ (r + 1) = some (iA 0 2 (nF R.w)) ∧ σ (r + 2) = some (iA 0 2 (nF R.tp)) ∧ σ (r + 3) = some (iA 1 2 (nF R.sd))
theorem RdP.kept {σ σ' : AHp} {r : Nat} {R : Rs} (h : RdP σ r R) (hk : ∀ j, r ≤ j → j < r + 4 → σ' j = σ j) : RdP σ' r R := by
  obtain ⟨h0, h1, h2, h3, h4⟩ := h
  exact ⟨h0, (hk _ (by omega) (by omega)).trans h1, (hk _ (by omega) (by omega)).trans h2, (hk _ (by omega) (by omega)).trans h3, (hk _ (by omega) (by omega)).trans h4⟩
theorem RdP.fr {σ σ' : AHp} {r a n : Nat} {R : Rs} (h : RdP σ r R) (hf : Fr σ σ' a n) (hd : r + 4 ≤ a ∨ a + n ≤ r) : RdP σ' r R := h.kept (fun j h1 h2 => hf j (by omega))
theorem TbP.fr {σ σ' : AHp} {p a n : Nat} {T : Tb} (h : TbP σ p T) (hf : Fr σ σ' a n) (hd : p + 5 ≤ a ∨ a + n ≤ p) : TbP σ' p T := h.kept (fun j h1 h2 => hf j (by omega))
/-- who speaks is a guest, of a thing that there is -/
def RdOk (T : Tb) (R : Rs) : Prop := R.sp ≤ 2 ∧ ∀ k, k < R.sp → R.w k < T.g ∧ R.tp k < T.n ∧ R.sd k ≤ 1
/-- what the k-th says, as a saying -/
def cd (R : Rs) (k : Nat) : Nat := if k < R.sp then 16 * R.tp k + 2 * R.w k + R.sd k else 128
theorem cd_in {T : Tb} {R : Rs} (ok : TbOk T) (hr : RdOk T R) {k : Nat} (hk : k < R.sp) : cd R k ≠ 128 ∧ cWho (cd R k) = R.w k ∧ cTop (cd R k) = R.tp k ∧ cSaid (cd R k) = R.sd k := by
  obtain ⟨h1, h2, h3⟩ := hr.2 k hk
  have hg := ok.2.1
  have hn := ok.2.2.2.1
  unfold cd cWho cTop cSaid
  rw [if_pos hk]
  refine ⟨?_, ?_, ?_, ?_⟩ <;> omega
theorem cd_out {R : Rs} {k : Nat} (hk : R.sp ≤ k) : cd R k = 128 := by unfold cd; rw [if_neg (by omega)]
theorem untr_128 (w : Nat) : untr 128 w = false := by simp [untr]
theorem untr_in {T : Tb} {R : Rs} (ok : TbOk T) (hr : RdOk T R) {k : Nat} (hk : k < R.sp) (w : Nat) : untr (cd R k) w = decide (R.sd k ≠ bitN w (R.tp k)) := by
  obtain ⟨h1, h2, h3, h4⟩ := cd_in ok hr hk
  unfold untr
  rw [h3, h4]
  simp [h1]
theorem spk_1 {T : Tb} {R : Rs} (ok : TbOk T) (hr : RdOk T R) {i k : Nat} (hk : k < R.sp) (hk2 : k < 2) (h : R.w k = i) : spk (cd R 0) (cd R 1) i = true := by
  obtain ⟨h1, h2, -⟩ := cd_in ok hr hk
  unfold spk
  rcases (show k = 0 ∨ k = 1 by omega) with rfl | rfl
  · simp [h1, h2, h]
  · simp [h1, h2, h]
theorem spk_0 {T : Tb} {R : Rs} (ok : TbOk T) (hr : RdOk T R) {i : Nat} (h : ∀ k, k < R.sp → k < 2 → R.w k ≠ i) : spk (cd R 0) (cd R 1) i = false := by
  unfold spk
  rw [decide_eq_false_iff_not]
  rintro (⟨h1, h2⟩ | ⟨h1, h2⟩)
  · by_cases hk : 0 < R.sp
    · exact h 0 hk (by decide) (by rw [← (cd_in ok hr hk).2.1]; exact h2)
    · exact h1 (cd_out (by omega))
  · by_cases hk : 1 < R.sp
    · exact h 1 hk (by decide) (by rw [← (cd_in ok hr hk).2.1]; exact h2)
    · exact h1 (cd_out (by omega))
set_option maxRecDepth 20000 in
theorem ev_Rclear {σ0 : AHp} {r : Nat} {R : Rs} (h : RdP σ0 r R) : EvW M_X6_clear [.ref r] σ0 none (fun σ => RdP σ r (0, R.w, R.tp, R.sd, R.fr, R.to, R.tb, R.li) ∧ Fr σ0 σ r 4) := by
  obtain ⟨hr0, hR, hw, ht, hs⟩ := h
  have hfr : ∀ j, j < r ∨ r + 4 ≤ j → σ0 j = σ0 j := fun _ _ => rfl
  refine Ev.of (ls := [_]) 0 (by decide) rfl rfl ?_
  refine R_aload_n a_X6_clear_0 rfl ?_
  refine R_iconst (v := nI 0) a_X6_clear_1 rfl ?_
  refine R_putiK (fs' := [_, _, _, _, _, _, _, _]) a_X6_clear_2 hR rfl rfl (fun σ hR ho => ?_)
  have hw := (ho _ (by omega)).trans hw
  have ht := (ho _ (by omega)).trans ht
  have hs := (ho _ (by omega)).trans hs
  have hfr : ∀ j, j < r ∨ r + 4 ≤ j → σ j = σ0 j := fun j hj => (ho j (by omega)).trans (hfr j hj)
  refine R_vret a_X6_clear_5 rfl ?_
  exact ⟨rfl, ⟨hr0, hR, hw, ht, hs⟩, hfr⟩

set_option maxRecDepth 20000 in
theorem ev_Radd {σ0 : AHp} {r : Nat} {R : Rs} (h : RdP σ0 r R) (hsp : R.sp < 2) {i t so : Nat} (hso : so ≤ 1) : EvW M_X6_add [.ref r, .int (nI i), .int (nI t), .int (nI so)] σ0 none (fun σ => RdP σ r (R.sp + 1, uN R.w R.sp i, uN R.tp R.sp t, uN R.sd R.sp so, R.fr, R.to, R.tb, R.li) ∧ Fr σ0 σ r 4) := by
  obtain ⟨hr0, hR, hw, ht, hs⟩ := h
  have hfr : ∀ j, j < r ∨ r + 4 ≤ j → σ0 j = σ0 j := fun _ _ => rfl
  refine Ev.of (ls := [_, _, _, _]) 0 (by decide) rfl rfl ?_
  refine R_aload_n a_X6_add_0 rfl ?_
  refine R_get a_X6_add_1 hR rfl ?_
  refine R_iconst (v := nI 2) a_X6_add_4 rfl ?_
  first | with_reducible refine R_icmp_ge_n a_X6_add_5 (by omega) (by omega) (fun h5 => ?_) (fun h5 => ?_) | refine R_icmp_ge a_X6_add_5 (fun h5 => ?_) (fun h5 => ?_)
  · skip
    omega
  · skip
    refine R_aload_n a_X6_add_8 rfl ?_
    refine R_get a_X6_add_9 hR rfl ?_
    refine R_aload_n a_X6_add_12 rfl ?_
    refine R_get a_X6_add_13 hR rfl ?_
    refine R_iload_n a_X6_add_16 rfl ?_
    refine R_iastK a_X6_add_17 (by omega) hw (by omega) (by decide) (fun σ hw ho => ?_)
    have hR := (ho _ (by omega)).trans hR
    have ht := (ho _ (by omega)).trans ht
    have hs := (ho _ (by omega)).trans hs
    have hfr : ∀ j, j < r ∨ r + 4 ≤ j → σ j = σ0 j := fun j hj => (ho j (by omega)).trans (hfr j hj)
    rw [nF_upd] at hw
    refine R_aload_n a_X6_add_18 rfl ?_
    refine R_get a_X6_add_19 hR rfl ?_
    refine R_aload_n a_X6_add_22 rfl ?_
    refine R_get a_X6_add_23 hR rfl ?_
    refine R_iload_n a_X6_add_26 rfl ?_
    refine R_iastK a_X6_add_27 (by omega) ht (by omega) (by decide) (fun σ ht ho => ?_)
    have hR := (ho _ (by omega)).trans hR
    have hw := (ho _ (by omega)).trans hw
    have hs := (ho _ (by omega)).trans hs
    have hfr : ∀ j, j < r ∨ r + 4 ≤ j → σ j = σ0 j := fun j hj => (ho j (by omega)).trans (hfr j hj)
    rw [nF_upd] at ht
    refine R_aload_n a_X6_add_28 rfl ?_
    refine R_get a_X6_add_29 hR rfl ?_
    refine R_aload_n a_X6_add_32 rfl ?_
    refine R_get a_X6_add_33 hR rfl ?_
    refine R_iload_n a_X6_add_36 rfl ?_
    refine R_zastK a_X6_add_37 (by omega) hs (by omega) (by decide) (by omega) (fun σ hs ho => ?_)
    have hR := (ho _ (by omega)).trans hR
    have hw := (ho _ (by omega)).trans hw
    have ht := (ho _ (by omega)).trans ht
    have hfr : ∀ j, j < r ∨ r + 4 ≤ j → σ j = σ0 j := fun j hj => (ho j (by omega)).trans (hfr j hj)
    rw [nF_upd] at hs
    refine R_aload_n a_X6_add_38 rfl ?_
    refine R_dup a_X6_add_39 rfl ?_
    refine R_get a_X6_add_40 hR rfl ?_
    refine R_iconst (v := nI 1) a_X6_add_43 rfl ?_
    first | with_reducible refine R_iadd_n a_X6_add_44 ?_ | refine R_iadd a_X6_add_44 ?_
    refine R_putiK (fs' := [_, _, _, _, _, _, _, _]) a_X6_add_45 hR rfl rfl (fun σ hR ho => ?_)
    have hw := (ho _ (by omega)).trans hw
    have ht := (ho _ (by omega)).trans ht
    have hs := (ho _ (by omega)).trans hs
    have hfr : ∀ j, j < r ∨ r + 4 ≤ j → σ j = σ0 j := fun j hj => (ho j (by omega)).trans (hfr j hj)
    refine R_vret a_X6_add_48 rfl ?_
    exact ⟨rfl, ⟨hr0, hR, hw, ht, hs⟩, hfr⟩

set_option maxRecDepth 20000 in
theorem ev_isSpeaker {σ : AHp} {r : Nat} {R : Rs} {T : Tb} (h : RdP σ r R) (ok : TbOk T) (hr : RdOk T R) {i : Nat} (hi : i < 8) : EvP M_X6_isSpeaker [.ref r, .int (nI i)] σ (.int (nI (b2n (spk (cd R 0) (cd R 1) i)))) := by
  obtain ⟨hr0, hR, hw, ht, hs⟩ := h
  have hsp := hr.1
  have hok := ok
  obtain ⟨g3, g8, -⟩ := ok
  refine Ev.of (ls := [_, _]) 0 (by decide) rfl rfl ?_
  refine R_aload_n a_X6_isSpeaker_0 rfl ?_
  refine R_get a_X6_isSpeaker_1 hR rfl ?_
  first | with_reducible refine R_if_le_n a_X6_isSpeaker_4 (by omega) (fun h4 => ?_) (fun h4 => ?_) | refine R_if_le a_X6_isSpeaker_4 (fun h4 => ?_) (fun h4 => ?_)
  · skip
    refine R_aload_n a_X6_isSpeaker_17 rfl ?_
    refine R_get a_X6_isSpeaker_18 hR rfl ?_
    refine R_iconst (v := nI 1) a_X6_isSpeaker_21 rfl ?_
    first | with_reducible refine R_icmp_le_n a_X6_isSpeaker_22 (by omega) (by omega) (fun h22 => ?_) (fun h22 => ?_) | refine R_icmp_le a_X6_isSpeaker_22 (fun h22 => ?_) (fun h22 => ?_)
    · skip
      have hb : spk (cd R 0) (cd R 1) i = false := spk_0 hok hr (fun k h1 h2 => by
        have : k = 0 := by omega
        subst this
        first | exact absurd h1 (by omega) | exact h14)
      refine R_iconst (v := nI 0) a_X6_isSpeaker_39 rfl ?_
      refine R_zret_n a_X6_isSpeaker_40 rfl (by omega) ?_
      exact ⟨by rw [hb]; rfl, rfl⟩
    · skip
      refine R_aload_n a_X6_isSpeaker_25 rfl ?_
      refine R_get a_X6_isSpeaker_26 hR rfl ?_
      refine R_iconst (v := nI 1) a_X6_isSpeaker_29 rfl ?_
      refine R_iald_n a_X6_isSpeaker_30 hw (by omega) (by decide) ?_
      refine R_iload_n a_X6_isSpeaker_31 rfl ?_
      have hw1 := (hr.2 1 (by omega)).1
      first | with_reducible refine R_icmp_ne_n a_X6_isSpeaker_32 (by omega) (by omega) (fun h32 => ?_) (fun h32 => ?_)
      · skip
        have hb : spk (cd R 0) (cd R 1) i = false := spk_0 hok hr (fun k h1 h2 => by
          rcases (show k = 0 ∨ k = 1 by omega) with rfl | rfl
          · first | exact h14 | exact absurd h1 (by omega)
          · exact h32)
        refine R_iconst (v := nI 0) a_X6_isSpeaker_39 rfl ?_
        refine R_zret_n a_X6_isSpeaker_40 rfl (by omega) ?_
        exact ⟨by rw [hb]; rfl, rfl⟩
      · skip
        have hb : spk (cd R 0) (cd R 1) i = true := spk_1 hok hr (k := 1) (by omega) (by omega) h32
        refine R_iconst (v := nI 1) a_X6_isSpeaker_35 rfl ?_
        refine R_goto a_X6_isSpeaker_36 ?_
        refine R_zret_n a_X6_isSpeaker_40 rfl (by omega) ?_
        exact ⟨by rw [hb]; rfl, rfl⟩
  · skip
    refine R_aload_n a_X6_isSpeaker_7 rfl ?_
    refine R_get a_X6_isSpeaker_8 hR rfl ?_
    refine R_iconst (v := nI 0) a_X6_isSpeaker_11 rfl ?_
    refine R_iald_n a_X6_isSpeaker_12 hw (by omega) (by decide) ?_
    refine R_iload_n a_X6_isSpeaker_13 rfl ?_
    have hw0 := (hr.2 0 (by omega)).1
    first | with_reducible refine R_icmp_eq_n a_X6_isSpeaker_14 (by omega) (by omega) (fun h14 => ?_) (fun h14 => ?_)
    · skip
      have hb : spk (cd R 0) (cd R 1) i = true := spk_1 hok hr (k := 0) (by omega) (by omega) h14
      refine R_iconst (v := nI 1) a_X6_isSpeaker_35 rfl ?_
      refine R_goto a_X6_isSpeaker_36 ?_
      refine R_zret_n a_X6_isSpeaker_40 rfl (by omega) ?_
      exact ⟨by rw [hb]; rfl, rfl⟩
    · skip
      refine R_aload_n a_X6_isSpeaker_17 rfl ?_
      refine R_get a_X6_isSpeaker_18 hR rfl ?_
      refine R_iconst (v := nI 1) a_X6_isSpeaker_21 rfl ?_
      first | with_reducible refine R_icmp_le_n a_X6_isSpeaker_22 (by omega) (by omega) (fun h22 => ?_) (fun h22 => ?_) | refine R_icmp_le a_X6_isSpeaker_22 (fun h22 => ?_) (fun h22 => ?_)
      · skip
        have hb : spk (cd R 0) (cd R 1) i = false := spk_0 hok hr (fun k h1 h2 => by
          have : k = 0 := by omega
          subst this
          first | exact absurd h1 (by omega) | exact h14)
        refine R_iconst (v := nI 0) a_X6_isSpeaker_39 rfl ?_
        refine R_zret_n a_X6_isSpeaker_40 rfl (by omega) ?_
        exact ⟨by rw [hb]; rfl, rfl⟩
      · skip
        refine R_aload_n a_X6_isSpeaker_25 rfl ?_
        refine R_get a_X6_isSpeaker_26 hR rfl ?_
        refine R_iconst (v := nI 1) a_X6_isSpeaker_29 rfl ?_
        refine R_iald_n a_X6_isSpeaker_30 hw (by omega) (by decide) ?_
        refine R_iload_n a_X6_isSpeaker_31 rfl ?_
        have hw1 := (hr.2 1 (by omega)).1
        first | with_reducible refine R_icmp_ne_n a_X6_isSpeaker_32 (by omega) (by omega) (fun h32 => ?_) (fun h32 => ?_)
        · skip
          have hb : spk (cd R 0) (cd R 1) i = false := spk_0 hok hr (fun k h1 h2 => by
            rcases (show k = 0 ∨ k = 1 by omega) with rfl | rfl
            · first | exact h14 | exact absurd h1 (by omega)
            · exact h32)
          refine R_iconst (v := nI 0) a_X6_isSpeaker_39 rfl ?_
          refine R_zret_n a_X6_isSpeaker_40 rfl (by omega) ?_
          exact ⟨by rw [hb]; rfl, rfl⟩
        · skip
          have hb : spk (cd R 0) (cd R 1) i = true := spk_1 hok hr (k := 1) (by omega) (by omega) h32
          refine R_iconst (v := nI 1) a_X6_isSpeaker_35 rfl ?_
          refine R_goto a_X6_isSpeaker_36 ?_
          refine R_zret_n a_X6_isSpeaker_40 rfl (by omega) ?_
          exact ⟨by rw [hb]; rfl, rfl⟩

set_option maxRecDepth 20000 in
theorem ev_isUntruth {σ : AHp} {r : Nat} {R : Rs} {T : Tb} (h : RdP σ r R) (ok : TbOk T) (hr : RdOk T R) {k w : Nat} (hk : k < 2) (hw : w < 2 ^ 31) : EvP M_X6_isUntruth [.ref r, .int (nI k), .int (nI w)] σ (.int (nI (b2n (untr (cd R k) w)))) := by
  obtain ⟨hr0, hR, hw0, ht, hs⟩ := h
  have hsp := hr.1
  have hok := ok
  obtain ⟨g3, g8, n1, n6, -⟩ := ok
  refine Ev.of (ls := [_, _, _]) 0 (by decide) rfl rfl ?_
  refine R_iload_n a_X6_isUntruth_0 rfl ?_
  refine R_aload_n a_X6_isUntruth_1 rfl ?_
  refine R_get a_X6_isUntruth_2 hR rfl ?_
  first | with_reducible refine R_icmp_ge_n a_X6_isUntruth_5 (by omega) (by omega) (fun h5 => ?_) (fun h5 => ?_) | refine R_icmp_ge a_X6_isUntruth_5 (fun h5 => ?_) (fun h5 => ?_)
  · skip
    have hb : untr (cd R k) w = false := by rw [cd_out h5]; exact untr_128 w
    refine R_iconst (v := nI 0) a_X6_isUntruth_40 rfl ?_
    refine R_zret_n a_X6_isUntruth_41 rfl (by omega) ?_
    exact ⟨by rw [hb]; rfl, rfl⟩
  · skip
    obtain ⟨q1, q2, q3⟩ := hr.2 k h5
    have hu := untr_in hok hr h5 w
    refine R_aload_n a_X6_isUntruth_8 rfl ?_
    refine R_get a_X6_isUntruth_9 hR rfl ?_
    refine R_iload_n a_X6_isUntruth_12 rfl ?_
    refine R_zald_n a_X6_isUntruth_13 (by omega) hs (by omega) (by decide) ?_
    refine R_iload_n a_X6_isUntruth_14 rfl ?_
    refine R_aload_n a_X6_isUntruth_15 rfl ?_
    refine R_get a_X6_isUntruth_16 hR rfl ?_
    refine R_iload_n a_X6_isUntruth_19 rfl ?_
    refine R_iald_n a_X6_isUntruth_20 ht (by omega) (by decide) ?_
    first | with_reducible refine R_ishr_n a_X6_isUntruth_21 (by omega) (by omega) ?_ | refine R_ishr a_X6_isUntruth_21 ?_
    refine R_iconst (v := nI 1) a_X6_isUntruth_22 rfl ?_
    first | with_reducible refine R_iand1 a_X6_isUntruth_23 ?_ | with_reducible refine R_iand_n a_X6_isUntruth_23 ?_ | refine R_iand a_X6_isUntruth_23 ?_
    refine R_iconst (v := nI 1) a_X6_isUntruth_24 rfl ?_
    first | with_reducible refine R_icmp_ne_n a_X6_isUntruth_25 (by omega) (by omega) (fun h25 => ?_) (fun h25 => ?_) | refine R_icmp_ne a_X6_isUntruth_25 (fun h25 => ?_) (fun h25 => ?_)
    · skip
      have hbit : bitN w (R.tp k) = 0 := by unfold bitN; omega
      refine R_iconst (v := nI 0) a_X6_isUntruth_32 rfl ?_
      first | with_reducible refine R_icmp_eq_n a_X6_isUntruth_33 (by omega) (by omega) (fun h33 => ?_) (fun h33 => ?_) | refine R_icmp_eq a_X6_isUntruth_33 (fun h33 => ?_) (fun h33 => ?_)
      · skip
        have hb : untr (cd R k) w = false := by rw [hu, decide_eq_false_iff_not]; omega
        refine R_iconst (v := nI 0) a_X6_isUntruth_40 rfl ?_
        refine R_zret_n a_X6_isUntruth_41 rfl (by omega) ?_
        exact ⟨by rw [hb]; rfl, rfl⟩
      · skip
        have hb : untr (cd R k) w = true := by rw [hu, decide_eq_true_eq]; omega
        refine R_iconst (v := nI 1) a_X6_isUntruth_36 rfl ?_
        refine R_goto a_X6_isUntruth_37 ?_
        refine R_zret_n a_X6_isUntruth_41 rfl (by omega) ?_
        exact ⟨by rw [hb]; rfl, rfl⟩
    · skip
      have hbit : bitN w (R.tp k) = 1 := h25
      refine R_iconst (v := nI 1) a_X6_isUntruth_28 rfl ?_
      refine R_goto a_X6_isUntruth_29 ?_
      first | with_reducible refine R_icmp_eq_n a_X6_isUntruth_33 (by omega) (by omega) (fun h33 => ?_) (fun h33 => ?_) | refine R_icmp_eq a_X6_isUntruth_33 (fun h33 => ?_) (fun h33 => ?_)
      · skip
        have hb : untr (cd R k) w = false := by rw [hu, decide_eq_false_iff_not]; omega
        refine R_iconst (v := nI 0) a_X6_isUntruth_40 rfl ?_
        refine R_zret_n a_X6_isUntruth_41 rfl (by omega) ?_
        exact ⟨by rw [hb]; rfl, rfl⟩
      · skip
        have hb : untr (cd R k) w = true := by rw [hu, decide_eq_true_eq]; omega
        refine R_iconst (v := nI 1) a_X6_isUntruth_36 rfl ?_
        refine R_goto a_X6_isUntruth_37 ?_
        refine R_zret_n a_X6_isUntruth_41 rfl (by omega) ?_
        exact ⟨by rw [hb]; rfl, rfl⟩

set_option maxRecDepth 20000 in
theorem ev_Rtally {σ : AHp} {r : Nat} {R : Rs} {T : Tb} (h : RdP σ r R) (ok : TbOk T) (hr : RdOk T R) {p : Nat} (hT : TbP σ p T) {k w : Nat} (hk : k < 2) (hw : w < 2 ^ 31) : EvP M_X6_tally [.ref r, .ref p, .int (nI k), .int (nI w)] σ (.int (nI (cntOf T (cd R k) w))) := by
  have hRP := h
  obtain ⟨hr0, hR, hw0, ht, hs⟩ := h
  have hsp := hr.1
  obtain ⟨hp0, hTo, -⟩ := id hT
  obtain ⟨g3, g8, n1, n6, -⟩ := id ok
  have hb1 := b2n_le (untr (cd R k) w)
  refine Ev.of (ls := [_, _, _, _]) 0 (by decide) rfl rfl ?_
  refine R_aload_n a_X6_tally_0 rfl ?_
  refine R_iload_n a_X6_tally_1 rfl ?_
  refine R_iload_n a_X6_tally_2 rfl ?_
  refine R_callVp a_X6_tally_3 hR (ev_isUntruth hRP ok hr hk hw) rfl rfl rfl rfl rfl ?_
  first | with_reducible refine R_if_eq_n a_X6_tally_6 (by omega) (fun h6 => ?_) (fun h6 => ?_) | refine R_if_eq a_X6_tally_6 (fun h6 => ?_) (fun h6 => ?_)
  · skip
    have hu : untr (cd R k) w = false := by cases hq : untr (cd R k) w with
      | true => rw [hq] at h6; cases h6
      | false => rfl
    have hc : cntOf T (cd R k) w = 0 := by unfold cntOf; rw [hu]; rfl
    refine R_iconst (v := nI 0) a_X6_tally_28 rfl ?_
    refine R_iret a_X6_tally_29 rfl ?_
    exact ⟨by rw [hc], rfl⟩
  · skip
    have hu : untr (cd R k) w = true := by cases hq : untr (cd R k) w with
      | true => rfl
      | false => rw [hq] at h6; exact absurd rfl h6
    have hks : k < R.sp := by
      rcases Nat.lt_or_ge k R.sp with q | q
      · exact q
      · rw [cd_out q, untr_128] at hu; cases hu
    obtain ⟨q1, q2, q3⟩ := hr.2 k hks
    obtain ⟨-, c2, c3, -⟩ := cd_in ok hr hks
    have hc : cntOf T (cd R k) w = cnt T (R.w k) (R.tp k) := by unfold cntOf; rw [hu, c2, c3]; rfl
    refine R_aload_n a_X6_tally_9 rfl ?_
    refine R_aload_n a_X6_tally_10 rfl ?_
    refine R_get a_X6_tally_11 hR rfl ?_
    refine R_iload_n a_X6_tally_14 rfl ?_
    refine R_iald_n a_X6_tally_15 hw0 (by omega) (by decide) ?_
    refine R_aload_n a_X6_tally_16 rfl ?_
    refine R_get a_X6_tally_17 hR rfl ?_
    refine R_iload_n a_X6_tally_20 rfl ?_
    refine R_iald_n a_X6_tally_21 ht (by omega) (by decide) ?_
    refine R_callVp a_X6_tally_22 hTo (ev_ttally hT ok q1 q2) rfl rfl rfl rfl rfl ?_
    refine R_goto a_X6_tally_25 ?_
    refine R_iret a_X6_tally_29 rfl ?_
    exact ⟨by rw [hc], rfl⟩

