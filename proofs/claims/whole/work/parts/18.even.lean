/-! ===== SaltToLiars.Evening ===== -/
/-- an evening's cells: salt, rounds, untruths, trail, undoable, who lied how often, the ring of rounds -/
abbrev Vs : Type := Nat × Nat × Nat × Nat × Nat × (Nat → Nat) × (Nat → Rs)
abbrev Vs.sa (V : Vs) : Nat := V.1
abbrev Vs.ro (V : Vs) : Nat := V.2.1
abbrev Vs.un (V : Vs) : Nat := V.2.2.1
abbrev Vs.tr (V : Vs) : Nat := V.2.2.2.1
abbrev Vs.ud (V : Vs) : Nat := V.2.2.2.2.1
abbrev Vs.ld (V : Vs) : Nat → Nat := V.2.2.2.2.2.1
abbrev Vs.rf (V : Vs) : Nat → Rs := V.2.2.2.2.2.2
def ringF (e : Nat) : Nat → Option Nat := fun k => some (e + 3 + 4 * k)
abbrev evO (e sa ro un tr ud : Nat) : ACell := oB 0 [.int (nI sa), .int (nI ro), .int (nI un), .int (nI tr), .int (nI ud), .ref (e + 1), .ref (e + 2)]
def EvR (σ : AHp) (e : Nat) (V : Vs) : Prop := e ≠ 0 ∧ σ e = some (evO e V.sa V.ro V.un V.tr V.ud) ∧ σ (e + 1) = some (iA 0 8 (nF V.ld)) ∧ σ (e + 2) = some (rA 2 18 (ringF e)) ∧ ∀ k, k < 18 → RdP σ (e + 3 + 4 * k) (V.rf k)
theorem EvR.kept {σ σ' : AHp} {e : Nat} {V : Vs} (h : EvR σ e V) (hk : ∀ j, e ≤ j → j < e + 75 → σ' j = σ j) : EvR σ' e V := by
  obtain ⟨h0, h1, h2, h3, h4⟩ := h
  exact ⟨h0, (hk _ (by omega) (by omega)).trans h1, (hk _ (by omega) (by omega)).trans h2, (hk _ (by omega) (by omega)).trans h3, fun k hk8 => (h4 k hk8).kept (fun j h1 h2 => hk j (by omega) (by omega))⟩
theorem EvR.fr {σ σ' : AHp} {e a n : Nat} {V : Vs} (h : EvR σ e V) (hf : Fr σ σ' a n) (hd : e + 75 ≤ a ∨ a + n ≤ e) : EvR σ' e V := h.kept (fun j h1 h2 => hf j (by omega))
/-- the liars of a round counted: who, and how many -/
def clK (R : Rs) (ld : Nat → Nat) : Nat → Nat → Nat
  | 0 => ld
  | k + 1 => if bitN R.li k = 1 then uN (clK R ld k) (R.w k) (clK R ld k (R.w k) + 1) else clK R ld k
def cuK (R : Rs) (un : Nat) : Nat → Nat
  | 0 => un
  | k + 1 => if bitN R.li k = 1 then cuK R un k + 1 else cuK R un k
def dlK (R : Rs) (ld : Nat → Nat) : Nat → Nat → Nat
  | 0 => ld
  | k + 1 => if bitN R.li k = 1 then uN (dlK R ld k) (R.w k) (dlK R ld k (R.w k) - 1) else dlK R ld k
def duK (R : Rs) (un : Nat) : Nat → Nat
  | 0 => un
  | k + 1 => if bitN R.li k = 1 then duK R un k - 1 else duK R un k
set_option maxRecDepth 20000 in
theorem lp_countP {σ0 : AHp} {e r sa ro un tr ud : Nat} {ld : Nat → Nat} {R : Rs} (he0 : e ≠ 0) (hd : r + 4 ≤ e ∨ e + 2 ≤ r) (hsp : R.sp ≤ 2) (hw8 : ∀ k, k < R.sp → R.w k < 8) (hli : R.li < 4) : ∀ (n k : Nat) (σ : AHp), R.sp - k = n → k ≤ R.sp → RdP σ r R → σ e = some (evO e sa ro (cuK R un k) tr ud) → σ (e + 1) = some (iA 0 8 (nF (clK R ld k))) → (∀ j, j ≠ e ∧ j ≠ e + 1 → σ j = σ0 j) → Run M_X0_countLiars 2 [some (.ref e), some (.ref r), some (.int (nI 1)), some (.int (nI k))] [] σ 0 0 (fun r' σ => r' = none ∧ σ e = some (evO e sa ro (cuK R un R.sp) tr ud) ∧ σ (e + 1) = some (iA 0 8 (nF (clK R ld R.sp))) ∧ ∀ j, j ≠ e ∧ j ≠ e + 1 → σ j = σ0 j) := by
  intro n
  induction n using Nat.strongRecOn
  rename_i n ih
  intro k σ hm hk hRP hE hl hfr
  obtain ⟨hr0, hR, hw, ht, hs⟩ := hRP
  refine R_iload_n a_X0_countLiars_2 rfl ?_
  refine R_aload_n a_X0_countLiars_3 rfl ?_
  refine R_get a_X0_countLiars_4 hR rfl ?_
  first | with_reducible refine R_icmp_ge_n a_X0_countLiars_7 (by omega) (by omega) (fun h7 => ?_) (fun h7 => ?_) | refine R_icmp_ge a_X0_countLiars_7 (fun h7 => ?_) (fun h7 => ?_)
  · skip
    have hke : k = R.sp := by omega
    subst hke
    refine R_vret a_X0_countLiars_53 rfl ?_
    exact ⟨rfl, hE, hl, hfr⟩
  · skip
    have hwk := hw8 k (by omega)
    refine R_aload_n a_X0_countLiars_10 rfl ?_
    refine R_get a_X0_countLiars_11 hR rfl ?_
    refine R_iload_n a_X0_countLiars_14 rfl ?_
    first | with_reducible refine R_ishr_n a_X0_countLiars_15 (by omega) (by omega) ?_ | refine R_ishr a_X0_countLiars_15 ?_
    refine R_iconst (v := nI 1) a_X0_countLiars_16 rfl ?_
    first | with_reducible refine R_iand1 a_X0_countLiars_17 ?_ | with_reducible refine R_iand_n a_X0_countLiars_17 ?_ | refine R_iand a_X0_countLiars_17 ?_
    refine R_iconst (v := nI 1) a_X0_countLiars_18 rfl ?_
    first | with_reducible refine R_icmp_ne_n a_X0_countLiars_19 (by omega) (by omega) (fun h19 => ?_) (fun h19 => ?_) | refine R_icmp_ne a_X0_countLiars_19 (fun h19 => ?_) (fun h19 => ?_)
    · skip
      have hbk : ¬ bitN R.li k = 1 := h19
      have hn1 : clK R ld (k + 1) = clK R ld k := by rw [clK]; exact if_neg hbk
      have hn2 : cuK R un (k + 1) = cuK R un k := by rw [cuK]; exact if_neg hbk
      first | with_reducible refine R_iinc_n (ls' := [_, _, _, _]) a_X0_countLiars_47 rfl rfl rfl rfl ?_ | refine R_iinc (ls' := [_, _, _, _]) a_X0_countLiars_47 rfl rfl rfl rfl rfl ?_
      refine R_goto a_X0_countLiars_50 ?_
      refine ih _ (show R.sp - (k + 1) < n by omega) (k + 1) σ rfl (by omega) ⟨hr0, hR, hw, ht, hs⟩ ?_ ?_ hfr
      · rw [hn2]; exact hE
      · rw [hn1]; exact hl
    · skip
      have hbk : bitN R.li k = 1 := h19
      have hn1 : clK R ld (k + 1) = uN (clK R ld k) (R.w k) (clK R ld k (R.w k) + 1) := by rw [clK]; exact if_pos hbk
      have hn2 : cuK R un (k + 1) = cuK R un k + 1 := by rw [cuK]; exact if_pos hbk
      refine R_aload_n a_X0_countLiars_22 rfl ?_
      refine R_get a_X0_countLiars_23 hE rfl ?_
      refine R_aload_n a_X0_countLiars_26 rfl ?_
      refine R_get a_X0_countLiars_27 hR rfl ?_
      refine R_iload_n a_X0_countLiars_30 rfl ?_
      refine R_iald_n a_X0_countLiars_31 hw (by omega) (by decide) ?_
      refine R_dup2 a_X0_countLiars_32 rfl rfl ?_
      refine R_iald_n a_X0_countLiars_33 hl (by omega) (by decide) ?_
      refine R_iload_n a_X0_countLiars_34 rfl ?_
      first | with_reducible refine R_iadd_n a_X0_countLiars_35 ?_ | refine R_iadd a_X0_countLiars_35 ?_
      refine R_iastK a_X0_countLiars_36 (by omega) hl (by omega) (by decide) (fun σ hl ho => ?_)
      have hE := (ho _ (by omega)).trans hE
      have hR := (ho _ (by omega)).trans hR
      have hw := (ho _ (by omega)).trans hw
      have ht := (ho _ (by omega)).trans ht
      have hs := (ho _ (by omega)).trans hs
      have hfr : ∀ j, j ≠ e ∧ j ≠ e + 1 → σ j = σ0 j := fun j hj => (ho j (by omega)).trans (hfr j hj)
      rw [nF_upd] at hl
      refine R_aload_n a_X0_countLiars_37 rfl ?_
      refine R_dup a_X0_countLiars_38 rfl ?_
      refine R_get a_X0_countLiars_39 hE rfl ?_
      refine R_iload_n a_X0_countLiars_42 rfl ?_
      first | with_reducible refine R_iadd_n a_X0_countLiars_43 ?_ | refine R_iadd a_X0_countLiars_43 ?_
      refine R_putiK (fs' := [_, _, _, _, _, _, _]) a_X0_countLiars_44 hE rfl rfl (fun σ hE ho => ?_)
      have hl := (ho _ (by omega)).trans hl
      have hR := (ho _ (by omega)).trans hR
      have hw := (ho _ (by omega)).trans hw
      have ht := (ho _ (by omega)).trans ht
      have hs := (ho _ (by omega)).trans hs
      have hfr : ∀ j, j ≠ e ∧ j ≠ e + 1 → σ j = σ0 j := fun j hj => (ho j (by omega)).trans (hfr j hj)
      first | with_reducible refine R_iinc_n (ls' := [_, _, _, _]) a_X0_countLiars_47 rfl rfl rfl rfl ?_ | refine R_iinc (ls' := [_, _, _, _]) a_X0_countLiars_47 rfl rfl rfl rfl rfl ?_
      refine R_goto a_X0_countLiars_50 ?_
      refine ih _ (show R.sp - (k + 1) < n by omega) (k + 1) σ rfl (by omega) ⟨hr0, hR, hw, ht, hs⟩ ?_ ?_ hfr
      · rw [hn2]; exact hE
      · rw [hn1]; exact hl

set_option maxRecDepth 20000 in
theorem ev_countP {σ0 : AHp} {e r sa ro un tr ud : Nat} {ld : Nat → Nat} {R : Rs} (he0 : e ≠ 0) (hE : σ0 e = some (evO e sa ro un tr ud)) (hl : σ0 (e + 1) = some (iA 0 8 (nF ld))) (h : RdP σ0 r R) (hd : r + 4 ≤ e ∨ e + 2 ≤ r) (hsp : R.sp ≤ 2) (hw8 : ∀ k, k < R.sp → R.w k < 8) (hli : R.li < 4) : EvW M_X0_countLiars [.ref e, .ref r, .int (nI 1)] σ0 none (fun σ => σ e = some (evO e sa ro (cuK R un R.sp) tr ud) ∧ σ (e + 1) = some (iA 0 8 (nF (clK R ld R.sp))) ∧ ∀ j, j ≠ e ∧ j ≠ e + 1 → σ j = σ0 j) := by
  refine Ev.of (ls := [_, _, _, _]) 1 (by decide) rfl rfl ?_
  refine R_iconst (v := nI 0) a_X0_countLiars_0 rfl ?_
  refine R_istore_n (ls' := [_, _, _, _]) a_X0_countLiars_1 rfl rfl rfl ?_
  exact lp_countP he0 hd hsp hw8 hli _ 0 σ0 rfl (by omega) h hE hl (fun _ _ => rfl)

set_option maxRecDepth 20000 in
theorem lp_countM {σ0 : AHp} {e r sa ro un tr ud : Nat} {ld : Nat → Nat} {R : Rs} (he0 : e ≠ 0) (hd : r + 4 ≤ e ∨ e + 2 ≤ r) (hsp : R.sp ≤ 2) (hw8 : ∀ k, k < R.sp → R.w k < 8) (hli : R.li < 4) (hge : ∀ k, k < R.sp → bitN R.li k = 1 → 1 ≤ dlK R ld k (R.w k) ∧ 1 ≤ duK R un k) : ∀ (n k : Nat) (σ : AHp), R.sp - k = n → k ≤ R.sp → RdP σ r R → σ e = some (evO e sa ro (duK R un k) tr ud) → σ (e + 1) = some (iA 0 8 (nF (dlK R ld k))) → (∀ j, j ≠ e ∧ j ≠ e + 1 → σ j = σ0 j) → Run M_X0_countLiars 2 [some (.ref e), some (.ref r), some (.int (-1)), some (.int (nI k))] [] σ 0 0 (fun r' σ => r' = none ∧ σ e = some (evO e sa ro (duK R un R.sp) tr ud) ∧ σ (e + 1) = some (iA 0 8 (nF (dlK R ld R.sp))) ∧ ∀ j, j ≠ e ∧ j ≠ e + 1 → σ j = σ0 j) := by
  intro n
  induction n using Nat.strongRecOn
  rename_i n ih
  intro k σ hm hk hRP hE hl hfr
  obtain ⟨hr0, hR, hw, ht, hs⟩ := hRP
  refine R_iload_n a_X0_countLiars_2 rfl ?_
  refine R_aload_n a_X0_countLiars_3 rfl ?_
  refine R_get a_X0_countLiars_4 hR rfl ?_
  first | with_reducible refine R_icmp_ge_n a_X0_countLiars_7 (by omega) (by omega) (fun h7 => ?_) (fun h7 => ?_) | refine R_icmp_ge a_X0_countLiars_7 (fun h7 => ?_) (fun h7 => ?_)
  · skip
    have hke : k = R.sp := by omega
    subst hke
    refine R_vret a_X0_countLiars_53 rfl ?_
    exact ⟨rfl, hE, hl, hfr⟩
  · skip
    have hwk := hw8 k (by omega)
    refine R_aload_n a_X0_countLiars_10 rfl ?_
    refine R_get a_X0_countLiars_11 hR rfl ?_
    refine R_iload_n a_X0_countLiars_14 rfl ?_
    first | with_reducible refine R_ishr_n a_X0_countLiars_15 (by omega) (by omega) ?_ | refine R_ishr a_X0_countLiars_15 ?_
    refine R_iconst (v := nI 1) a_X0_countLiars_16 rfl ?_
    first | with_reducible refine R_iand1 a_X0_countLiars_17 ?_ | with_reducible refine R_iand_n a_X0_countLiars_17 ?_ | refine R_iand a_X0_countLiars_17 ?_
    refine R_iconst (v := nI 1) a_X0_countLiars_18 rfl ?_
    first | with_reducible refine R_icmp_ne_n a_X0_countLiars_19 (by omega) (by omega) (fun h19 => ?_) (fun h19 => ?_) | refine R_icmp_ne a_X0_countLiars_19 (fun h19 => ?_) (fun h19 => ?_)
    · skip
      have hbk : ¬ bitN R.li k = 1 := h19
      have hn1 : dlK R ld (k + 1) = dlK R ld k := by rw [dlK]; exact if_neg hbk
      have hn2 : duK R un (k + 1) = duK R un k := by rw [duK]; exact if_neg hbk
      first | with_reducible refine R_iinc_n (ls' := [_, _, _, _]) a_X0_countLiars_47 rfl rfl rfl rfl ?_ | refine R_iinc (ls' := [_, _, _, _]) a_X0_countLiars_47 rfl rfl rfl rfl rfl ?_
      refine R_goto a_X0_countLiars_50 ?_
      refine ih _ (show R.sp - (k + 1) < n by omega) (k + 1) σ rfl (by omega) ⟨hr0, hR, hw, ht, hs⟩ ?_ ?_ hfr
      · rw [hn2]; exact hE
      · rw [hn1]; exact hl
    · skip
      have hbk : bitN R.li k = 1 := h19
      have hn1 : dlK R ld (k + 1) = uN (dlK R ld k) (R.w k) (dlK R ld k (R.w k) - 1) := by rw [dlK]; exact if_pos hbk
      have hn2 : duK R un (k + 1) = duK R un k - 1 := by rw [duK]; exact if_pos hbk
      have hg1 := hge k (by omega) hbk
      refine R_aload_n a_X0_countLiars_22 rfl ?_
      refine R_get a_X0_countLiars_23 hE rfl ?_
      refine R_aload_n a_X0_countLiars_26 rfl ?_
      refine R_get a_X0_countLiars_27 hR rfl ?_
      refine R_iload_n a_X0_countLiars_30 rfl ?_
      refine R_iald_n a_X0_countLiars_31 hw (by omega) (by decide) ?_
      refine R_dup2 a_X0_countLiars_32 rfl rfl ?_
      refine R_iald_n a_X0_countLiars_33 hl (by omega) (by decide) ?_
      refine R_iload_n a_X0_countLiars_34 rfl ?_
      refine R_iadd a_X0_countLiars_35 (R_top (y := nI (dlK R ld k (R.w k) - 1)) ?_ ?_)
      · exact sb_m1 (by omega)
      refine R_iastK a_X0_countLiars_36 (by omega) hl (by omega) (by decide) (fun σ hl ho => ?_)
      have hE := (ho _ (by omega)).trans hE
      have hR := (ho _ (by omega)).trans hR
      have hw := (ho _ (by omega)).trans hw
      have ht := (ho _ (by omega)).trans ht
      have hs := (ho _ (by omega)).trans hs
      have hfr : ∀ j, j ≠ e ∧ j ≠ e + 1 → σ j = σ0 j := fun j hj => (ho j (by omega)).trans (hfr j hj)
      rw [nF_upd] at hl
      refine R_aload_n a_X0_countLiars_37 rfl ?_
      refine R_dup a_X0_countLiars_38 rfl ?_
      refine R_get a_X0_countLiars_39 hE rfl ?_
      refine R_iload_n a_X0_countLiars_42 rfl ?_
      refine R_iadd a_X0_countLiars_43 (R_top (y := nI (duK R un k - 1)) ?_ ?_)
      · exact sb_m1 (by omega)
      refine R_putiK (fs' := [_, _, _, _, _, _, _]) a_X0_countLiars_44 hE rfl rfl (fun σ hE ho => ?_)
      have hl := (ho _ (by omega)).trans hl
      have hR := (ho _ (by omega)).trans hR
      have hw := (ho _ (by omega)).trans hw
      have ht := (ho _ (by omega)).trans ht
      have hs := (ho _ (by omega)).trans hs
      have hfr : ∀ j, j ≠ e ∧ j ≠ e + 1 → σ j = σ0 j := fun j hj => (ho j (by omega)).trans (hfr j hj)
      first | with_reducible refine R_iinc_n (ls' := [_, _, _, _]) a_X0_countLiars_47 rfl rfl rfl rfl ?_ | refine R_iinc (ls' := [_, _, _, _]) a_X0_countLiars_47 rfl rfl rfl rfl rfl ?_
      refine R_goto a_X0_countLiars_50 ?_
      refine ih _ (show R.sp - (k + 1) < n by omega) (k + 1) σ rfl (by omega) ⟨hr0, hR, hw, ht, hs⟩ ?_ ?_ hfr
      · rw [hn2]; exact hE
      · rw [hn1]; exact hl

set_option maxRecDepth 20000 in
theorem ev_countM {σ0 : AHp} {e r sa ro un tr ud : Nat} {ld : Nat → Nat} {R : Rs} (he0 : e ≠ 0) (hE : σ0 e = some (evO e sa ro un tr ud)) (hl : σ0 (e + 1) = some (iA 0 8 (nF ld))) (h : RdP σ0 r R) (hd : r + 4 ≤ e ∨ e + 2 ≤ r) (hsp : R.sp ≤ 2) (hw8 : ∀ k, k < R.sp → R.w k < 8) (hli : R.li < 4) (hge : ∀ k, k < R.sp → bitN R.li k = 1 → 1 ≤ dlK R ld k (R.w k) ∧ 1 ≤ duK R un k) : EvW M_X0_countLiars [.ref e, .ref r, .int (-1)] σ0 none (fun σ => σ e = some (evO e sa ro (duK R un R.sp) tr ud) ∧ σ (e + 1) = some (iA 0 8 (nF (dlK R ld R.sp))) ∧ ∀ j, j ≠ e ∧ j ≠ e + 1 → σ j = σ0 j) := by
  refine Ev.of (ls := [_, _, _, _]) 1 (by decide) rfl rfl ?_
  refine R_iconst (v := nI 0) a_X0_countLiars_0 rfl ?_
  refine R_istore_n (ls' := [_, _, _, _]) a_X0_countLiars_1 rfl rfl rfl ?_
  exact lp_countM he0 hd hsp hw8 hli hge _ 0 σ0 rfl (by omega) h hE hl (fun _ _ => rfl)

set_option maxRecDepth 20000 in
theorem ev_upcoming {σ : AHp} {e : Nat} {V : Vs} (h : EvR σ e V) (hro : V.ro < 2 ^ 30) : EvP M_X0_upcoming [.ref e] σ (.ref (e + 3 + 4 * (V.ro % 18))) := by
  obtain ⟨he0, hE, hl, hg, hrd⟩ := h
  refine Ev.of (ls := [_]) 0 (by decide) rfl rfl ?_
  refine R_aload_n a_X0_upcoming_0 rfl ?_
  refine R_get a_X0_upcoming_1 hE rfl ?_
  refine R_aload_n a_X0_upcoming_4 rfl ?_
  refine R_get a_X0_upcoming_5 hE rfl ?_
  refine R_bipush (v := nI 18) a_X0_upcoming_8 rfl ?_
  refine R_floorMod a_X0_upcoming_10 ml_X0_41 (nI_ne0 (by omega) (by omega)) rfl rfl ?_
  refine R_top (fm_nn (by omega) (by omega) (by omega)) ?_
  refine R_aald_n a_X0_upcoming_13 hg (by omega) (by decide) rfl ?_
  refine R_aret a_X0_upcoming_14 rfl ?_
  exact ⟨rfl, rfl⟩

set_option maxRecDepth 20000 in
theorem ev_remembered {σ : AHp} {e : Nat} {V : Vs} (h : EvR σ e V) (hro : V.ro < 2 ^ 30) : EvP M_X0_remembered [.ref e] σ (.int (nI (min V.ro 10))) := by
  obtain ⟨he0, hE, hl, hg, hrd⟩ := h
  refine Ev.of (ls := [_]) 0 (by decide) rfl rfl ?_
  refine R_aload_n a_X0_remembered_0 rfl ?_
  refine R_get a_X0_remembered_1 hE rfl ?_
  refine R_bipush (v := nI 10) a_X0_remembered_4 rfl ?_
  refine R_min a_X0_remembered_6 ml_X0_47 rfl rfl ?_
  refine R_top (min_nn (by omega) (by omega)) ?_
  refine R_iret a_X0_remembered_9 rfl ?_
  exact ⟨rfl, rfl⟩

set_option maxRecDepth 20000 in
theorem ev_past {σ : AHp} {e : Nat} {V : Vs} (h : EvR σ e V) (hro : V.ro < 2 ^ 30) {k : Nat} (hk : k < V.ro) : EvP M_X0_past [.ref e, .int (nI k)] σ (.ref (e + 3 + 4 * ((V.ro - 1 - k) % 18))) := by
  obtain ⟨he0, hE, hl, hg, hrd⟩ := h
  refine Ev.of (ls := [_, _]) 0 (by decide) rfl rfl ?_
  refine R_aload_n a_X0_past_0 rfl ?_
  refine R_get a_X0_past_1 hE rfl ?_
  refine R_aload_n a_X0_past_4 rfl ?_
  refine R_get a_X0_past_5 hE rfl ?_
  refine R_iconst (v := nI 1) a_X0_past_8 rfl ?_
  first | with_reducible refine R_isub_n a_X0_past_9 (by omega) ?_ | refine R_isub a_X0_past_9 ?_
  refine R_iload_n a_X0_past_10 rfl ?_
  first | with_reducible refine R_isub_n a_X0_past_11 (by omega) ?_ | refine R_isub a_X0_past_11 ?_
  refine R_bipush (v := nI 18) a_X0_past_12 rfl ?_
  refine R_floorMod a_X0_past_14 ml_X0_41 (nI_ne0 (by omega) (by omega)) rfl rfl ?_
  refine R_top (fm_nn (by omega) (by omega) (by omega)) ?_
  refine R_aald_n a_X0_past_17 hg (by omega) (by decide) rfl ?_
  refine R_aret a_X0_past_18 rfl ?_
  exact ⟨rfl, rfl⟩

set_option maxRecDepth 20000 in
theorem lp_begin {σ0 : AHp} {e p : Nat} {T : Tb} {V : Vs} (he0 : e ≠ 0) (hrd : ∀ k, k < 18 → RdP σ0 (e + 3 + 4 * k) (V.rf k)) (hg0 : σ0 (e + 2) = some (rA 2 18 (ringF e))) : ∀ (n k : Nat) (f : Nat → Nat) (σ : AHp), 8 - k = n → k ≤ 8 → (∀ j, j < k → f j = 0) → σ e = some (evO e T.st 0 0 (2 ^ T.st) 0) → σ (e + 1) = some (iA 0 8 (nF f)) → (∀ j, j ≠ e ∧ j ≠ e + 1 → σ j = σ0 j) → Run M_X0_begin 35 [some (.ref e), some (.ref p), some (.int (nI k))] [] σ 0 0 (fun r' σ => r' = none ∧ EvR σ e (T.st, 0, 0, 2 ^ T.st, 0, fun _ => 0, V.rf) ∧ Fr σ0 σ e 75) := by
  intro n
  induction n using Nat.strongRecOn
  rename_i n ih
  intro k f σ hm hk hf hE hl hfr
  refine R_iload_n a_X0_begin_35 rfl ?_
  refine R_bipush (v := nI 8) a_X0_begin_36 rfl ?_
  first | with_reducible refine R_icmp_ge_n a_X0_begin_38 (by omega) (by omega) (fun h38 => ?_) (fun h38 => ?_) | refine R_icmp_ge a_X0_begin_38 (fun h38 => ?_) (fun h38 => ?_)
  · skip
    have hk8 : k = 8 := by omega
    refine R_ext (nF (fun _ => 0)) (by omega) hl (fun j hj => by show nI (f j) = nI 0; rw [hf j (by omega)]) (fun σ hl ho => ?_)
    have hE := (ho _ (by omega)).trans hE
    have hfr : ∀ j, j ≠ e ∧ j ≠ e + 1 → σ j = σ0 j := fun j hj => (ho j (by omega)).trans (hfr j hj)
    refine R_vret a_X0_begin_54 rfl ?_
    exact ⟨rfl, ⟨he0, hE, hl, (hfr _ (by omega)).trans hg0, fun k hk => (hrd k hk).kept (fun j h1 h2 => hfr j (by omega))⟩, fun j hj => hfr j (by omega)⟩
  · skip
    refine R_aload_n a_X0_begin_41 rfl ?_
    refine R_get a_X0_begin_42 hE rfl ?_
    refine R_iload_n a_X0_begin_45 rfl ?_
    refine R_iconst (v := nI 0) a_X0_begin_46 rfl ?_
    refine R_iastK a_X0_begin_47 (by omega) hl (by omega) (by decide) (fun σ hl ho => ?_)
    have hE := (ho _ (by omega)).trans hE
    have hfr : ∀ j, j ≠ e ∧ j ≠ e + 1 → σ j = σ0 j := fun j hj => (ho j (by omega)).trans (hfr j hj)
    rw [nF_upd] at hl
    first | with_reducible refine R_iinc_n (ls' := [_, _, _]) a_X0_begin_48 rfl rfl rfl rfl ?_ | refine R_iinc (ls' := [_, _, _]) a_X0_begin_48 rfl rfl rfl rfl rfl ?_
    refine R_goto a_X0_begin_51 ?_
    exact ih _ (show 8 - (k + 1) < n by omega) (k + 1) (uN f k 0) σ rfl (by omega) (fun j hj => by
      by_cases h : j = k
      · rw [h]; exact uN_self _ _ _
      · rw [uN_ne _ _ h]; exact hf j (by omega)) hE hl hfr

set_option maxRecDepth 20000 in
theorem ev_begin {σ0 : AHp} {e p : Nat} {T : Tb} {V : Vs} (h : EvR σ0 e V) (hTP : TbP σ0 p T) (hst : T.st < 8) (hd : p + 5 ≤ e ∨ e + 75 ≤ p) : EvW M_X0_begin [.ref e, .ref p] σ0 none (fun σ => EvR σ e (T.st, 0, 0, 2 ^ T.st, 0, fun _ => 0, V.rf) ∧ Fr σ0 σ e 75) := by
  obtain ⟨he0, hE, hl, hg, hrd⟩ := h
  obtain ⟨hp0, hT, hk, hh, hn, hf⟩ := hTP
  have hfr : ∀ j, j ≠ e ∧ j ≠ e + 1 → σ0 j = σ0 j := fun _ _ => rfl
  refine Ev.of (ls := [_, _, _]) 1 (by decide) rfl rfl ?_
  refine R_aload_n a_X0_begin_0 rfl ?_
  refine R_aload_n a_X0_begin_1 rfl ?_
  refine R_get a_X0_begin_2 hT rfl ?_
  refine R_putiK (fs' := [_, _, _, _, _, _, _]) a_X0_begin_5 hE rfl rfl (fun σ hE ho => ?_)
  have hl := (ho _ (by omega)).trans hl
  have hT := (ho _ (by omega)).trans hT
  have hfr : ∀ j, j ≠ e ∧ j ≠ e + 1 → σ j = σ0 j := fun j hj => (ho j (by omega)).trans (hfr j hj)
  refine R_aload_n a_X0_begin_8 rfl ?_
  refine R_iconst (v := nI 0) a_X0_begin_9 rfl ?_
  refine R_putiK (fs' := [_, _, _, _, _, _, _]) a_X0_begin_10 hE rfl rfl (fun σ hE ho => ?_)
  have hl := (ho _ (by omega)).trans hl
  have hT := (ho _ (by omega)).trans hT
  have hfr : ∀ j, j ≠ e ∧ j ≠ e + 1 → σ j = σ0 j := fun j hj => (ho j (by omega)).trans (hfr j hj)
  refine R_aload_n a_X0_begin_13 rfl ?_
  refine R_iconst (v := nI 0) a_X0_begin_14 rfl ?_
  refine R_putiK (fs' := [_, _, _, _, _, _, _]) a_X0_begin_15 hE rfl rfl (fun σ hE ho => ?_)
  have hl := (ho _ (by omega)).trans hl
  have hT := (ho _ (by omega)).trans hT
  have hfr : ∀ j, j ≠ e ∧ j ≠ e + 1 → σ j = σ0 j := fun j hj => (ho j (by omega)).trans (hfr j hj)
  refine R_aload_n a_X0_begin_18 rfl ?_
  refine R_iconst (v := nI 1) a_X0_begin_19 rfl ?_
  refine R_aload_n a_X0_begin_20 rfl ?_
  refine R_get a_X0_begin_21 hE rfl ?_
  first | with_reducible refine R_ishl1 a_X0_begin_24 (by omega) ?_ | with_reducible refine R_ishl_n a_X0_begin_24 (by omega) (by omega) ?_ | refine R_ishl a_X0_begin_24 ?_
  refine R_putiK (fs' := [_, _, _, _, _, _, _]) a_X0_begin_25 hE rfl rfl (fun σ hE ho => ?_)
  have hl := (ho _ (by omega)).trans hl
  have hT := (ho _ (by omega)).trans hT
  have hfr : ∀ j, j ≠ e ∧ j ≠ e + 1 → σ j = σ0 j := fun j hj => (ho j (by omega)).trans (hfr j hj)
  refine R_aload_n a_X0_begin_28 rfl ?_
  refine R_iconst (v := nI 0) a_X0_begin_29 rfl ?_
  refine R_putiK (fs' := [_, _, _, _, _, _, _]) a_X0_begin_30 hE rfl rfl (fun σ hE ho => ?_)
  have hl := (ho _ (by omega)).trans hl
  have hT := (ho _ (by omega)).trans hT
  have hfr : ∀ j, j ≠ e ∧ j ≠ e + 1 → σ j = σ0 j := fun j hj => (ho j (by omega)).trans (hfr j hj)
  refine R_iconst (v := nI 0) a_X0_begin_33 rfl ?_
  refine R_istore_n (ls' := [_, _, _]) a_X0_begin_34 rfl rfl rfl ?_
  exact lp_begin (V := V) he0 hrd hg _ 0 V.ld σ rfl (by omega) (fun j hj => absurd hj (by omega)) hE hl hfr

