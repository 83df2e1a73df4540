/-! ===== Ways.findQuestion ===== -/
def qIn (ma : Nat → Nat → Nat) (i : Nat) : Nat → Int32 × Nat → Int32 × Nat
  | 0, s => s
  | t + 1, s => if ma i t < (qIn ma i t s).2 then (nI (8 * i + t), ma i t) else qIn ma i t s
def qOut (ma : Nat → Nat → Nat) (n : Nat) : Nat → Int32 × Nat → Int32 × Nat
  | 0, s => s
  | i + 1, s => qIn ma i n (qOut ma n i s)
theorem qIn_le {ma : Nat → Nat → Nat} {i : Nat} {s : Int32 × Nat} : ∀ t, (qIn ma i t s).2 ≤ s.2 := by
  intro t
  induction t with
  | zero => exact Nat.le_refl _
  | succ t ih =>
    simp only [qIn]
    split
    · simp only; omega
    · exact ih
theorem qOut_le {ma : Nat → Nat → Nat} {n : Nat} {s : Int32 × Nat} : ∀ i, (qOut ma n i s).2 ≤ s.2 := by
  intro i
  induction i with
  | zero => exact Nat.le_refl _
  | succ i ih =>
    simp only [qOut]
    exact Nat.le_trans (qIn_le n) ih
theorem maF_le {T : Tb} {a : Nat} {g : Nat → Nat} {s i t : Nat} (h : g t ≤ a) : maF T a g s i t ≤ a := by
  unfold maF
  split
  · exact Nat.le_refl _
  · omega
set_option maxRecDepth 20000 in
theorem lp_qIn {σ0 : AHp} {p a al ne s : Nat} {T : Tb} {lo : Int32} {g : Nat → Nat} (hT0 : TbP σ0 p T) (ok : TbOk T) (hp : 238 ≤ p) (ha : a < 2 ^ 20) (hg : ∀ t, t < T.n → g t ≤ a) (hs : s < T.g) {i : Nat} (hi : i < T.g) (hout : ∀ (σ : AHp) (R : Rs) (x4 x5 : Option Value), okS [none, none, none, none, x4, x5] 5 = true → WaR σ a lo al ne (qOut (maF T a g s) T.n (i + 1) (-4, a + 1)).1 (nI (qOut (maF T a g s) T.n (i + 1) (-4, a + 1)).2) g R → (∀ j, j < 232 ∨ 238 ≤ j → σ j = σ0 j) → Run M_X9_findQuestion 18 [some (.ref 232), some (.ref p), some (.int (nI s)), some (.int (nI (i + 1))), x4, x5] [] σ 0 0 (fun r σ => r = none ∧ (∃ R', WaR σ a lo al ne (qOut (maF T a g s) T.n T.g (-4, a + 1)).1 (nI (qOut (maF T a g s) T.n T.g (-4, a + 1)).2) g R') ∧ Fr σ0 σ 232 6)) : ∀ (n t : Nat) (σ : AHp) (R : Rs) (x5 : Option Value), T.n - t = n → t ≤ T.n → WaR σ a lo al ne (qIn (maF T a g s) i t (qOut (maF T a g s) T.n i (-4, a + 1))).1 (nI (qIn (maF T a g s) i t (qOut (maF T a g s) T.n i (-4, a + 1))).2) g R → (∀ j, j < 232 ∨ 238 ≤ j → σ j = σ0 j) → Run M_X9_findQuestion 29 [some (.ref 232), some (.ref p), some (.int (nI s)), some (.int (nI i)), some (.int (nI t)), x5] [] σ 0 0 (fun r σ => r = none ∧ (∃ R', WaR σ a lo al ne (qOut (maF T a g s) T.n T.g (-4, a + 1)).1 (nI (qOut (maF T a g s) T.n T.g (-4, a + 1)).2) g R') ∧ Fr σ0 σ 232 6) := by
  intro n
  induction n using Nat.strongRecOn
  rename_i n ih
  intro t σ R x5 hm ht hWR hfr
  obtain ⟨hW, hF, hRP⟩ := id hWR
  have hTP : TbP σ p T := hT0.kept (fun j h1 h2 => hfr j (by omega))
  obtain ⟨hp0, hT, -⟩ := id hTP
  have hn6 := ok.2.2.2.1
  have hg8 := ok.2.1
  have hql : (qIn (maF T a g s) i t (qOut (maF T a g s) T.n i (-4, a + 1))).2 ≤ a + 1 := Nat.le_trans (qIn_le t) (qOut_le i)
  refine R_iload a_X9_findQuestion_29 rfl ?_
  refine R_aload_n a_X9_findQuestion_31 rfl ?_
  refine R_get a_X9_findQuestion_32 hT rfl ?_
  first | with_reducible refine R_icmp_ge_n a_X9_findQuestion_35 (by omega) (by omega) (fun h35 => ?_) (fun h35 => ?_) | refine R_icmp_ge a_X9_findQuestion_35 (fun h35 => ?_) (fun h35 => ?_)
  · skip
    first | with_reducible refine R_iinc_n (ls' := [_, _, _, _, _, _]) a_X9_findQuestion_81 rfl rfl rfl rfl ?_ | refine R_iinc (ls' := [_, _, _, _, _, _]) a_X9_findQuestion_81 rfl rfl rfl rfl rfl ?_
    refine R_goto a_X9_findQuestion_84 ?_
    have hte : t = T.n := by omega
    subst hte
    exact hout σ R _ _ rfl hWR hfr
  · skip
    have hgt := hg t (by omega)
    have hml := maF_le (T := T) (s := s) (i := i) hgt
    refine R_aload_n a_X9_findQuestion_38 rfl ?_
    refine R_aload_n a_X9_findQuestion_39 rfl ?_
    refine R_iload_n a_X9_findQuestion_40 rfl ?_
    refine R_iload_n a_X9_findQuestion_41 rfl ?_
    refine R_iload a_X9_findQuestion_42 rfl ?_
    refine R_callVs a_X9_findQuestion_44 hW (ev_mostAlike hTP ok hp ha hgt hs hi (by omega) hWR) rfl rfl rfl rfl rfl (fun σ hP => ?_)
    obtain ⟨⟨R1, hWR1⟩, hfA⟩ := hP
    obtain ⟨hW, hF, hRP⟩ := hWR1
    have hfr : ∀ j, j < 232 ∨ 238 ≤ j → σ j = σ0 j := fun j hj => (hfA j (by omega)).trans (hfr j hj)
    have hTP : TbP σ p T := hT0.kept (fun j h1 h2 => hfr j (by omega))
    obtain ⟨hp0, hT, -⟩ := id hTP
    refine R_istore (ls' := [_, _, _, _, _, _]) a_X9_findQuestion_47 rfl rfl rfl ?_
    refine R_iload a_X9_findQuestion_49 rfl ?_
    refine R_aload_n a_X9_findQuestion_51 rfl ?_
    refine R_get a_X9_findQuestion_52 hW rfl ?_
    first | with_reducible refine R_icmp_ge_n a_X9_findQuestion_55 (by omega) (by omega) (fun h55 => ?_) (fun h55 => ?_) | refine R_icmp_ge a_X9_findQuestion_55 (fun h55 => ?_) (fun h55 => ?_)
    · skip
      first | with_reducible refine R_iinc_n (ls' := [_, _, _, _, _, _]) a_X9_findQuestion_75 rfl rfl rfl rfl ?_ | refine R_iinc (ls' := [_, _, _, _, _, _]) a_X9_findQuestion_75 rfl rfl rfl rfl rfl ?_
      refine R_goto a_X9_findQuestion_78 ?_
      have hwr : WaR σ a lo al ne (qIn (maF T a g s) i (t + 1) (qOut (maF T a g s) T.n i (-4, a + 1))).1 (nI (qIn (maF T a g s) i (t + 1) (qOut (maF T a g s) T.n i (-4, a + 1))).2) g R1 := by
        simp only [qIn]
        first
        | (rw [if_pos h55]; exact ⟨hW, hF, hRP⟩)
        | (rw [if_neg (by omega)]; exact ⟨hW, hF, hRP⟩)
      exact ih _ (show T.n - (t + 1) < n by omega) (t + 1) σ R1 _ rfl (by omega) hwr hfr
    · skip
      refine R_aload_n a_X9_findQuestion_58 rfl ?_
      refine R_bipush (v := nI 8) a_X9_findQuestion_59 rfl ?_
      refine R_iload_n a_X9_findQuestion_61 rfl ?_
      first | with_reducible refine R_imul_n a_X9_findQuestion_62 ?_ | refine R_imul a_X9_findQuestion_62 ?_
      refine R_iload a_X9_findQuestion_63 rfl ?_
      first | with_reducible refine R_iadd_n a_X9_findQuestion_65 ?_ | refine R_iadd a_X9_findQuestion_65 ?_
      refine R_putiK (fs' := [_, _, _, _, _, _, _, _]) a_X9_findQuestion_66 hW rfl rfl (fun σ hW ho => ?_)
      have hF := (ho _ (by omega)).trans hF
      have hT := (ho _ (by omega)).trans hT
      have hfr : ∀ j, j < 232 ∨ 238 ≤ j → σ j = σ0 j := fun j hj => (ho j (by omega)).trans (hfr j hj)
      have hRP := hRP.at234 (fun j h1 h2 => ho j (by omega))
      refine R_aload_n a_X9_findQuestion_69 rfl ?_
      refine R_iload a_X9_findQuestion_70 rfl ?_
      refine R_putiK (fs' := [_, _, _, _, _, _, _, _]) a_X9_findQuestion_72 hW rfl rfl (fun σ hW ho => ?_)
      have hF := (ho _ (by omega)).trans hF
      have hT := (ho _ (by omega)).trans hT
      have hfr : ∀ j, j < 232 ∨ 238 ≤ j → σ j = σ0 j := fun j hj => (ho j (by omega)).trans (hfr j hj)
      have hRP := hRP.at234 (fun j h1 h2 => ho j (by omega))
      first | with_reducible refine R_iinc_n (ls' := [_, _, _, _, _, _]) a_X9_findQuestion_75 rfl rfl rfl rfl ?_ | refine R_iinc (ls' := [_, _, _, _, _, _]) a_X9_findQuestion_75 rfl rfl rfl rfl rfl ?_
      refine R_goto a_X9_findQuestion_78 ?_
      have hwr : WaR σ a lo al ne (qIn (maF T a g s) i (t + 1) (qOut (maF T a g s) T.n i (-4, a + 1))).1 (nI (qIn (maF T a g s) i (t + 1) (qOut (maF T a g s) T.n i (-4, a + 1))).2) g R1 := by
        simp only [qIn]
        first
        | (rw [if_pos h55]; exact ⟨hW, hF, hRP⟩)
        | (rw [if_neg (by omega)]; exact ⟨hW, hF, hRP⟩)
      exact ih _ (show T.n - (t + 1) < n by omega) (t + 1) σ R1 _ rfl (by omega) hwr hfr

set_option maxRecDepth 20000 in
theorem lp_qOut {σ0 : AHp} {p a al ne s : Nat} {T : Tb} {lo : Int32} {g : Nat → Nat} (hT0 : TbP σ0 p T) (ok : TbOk T) (hp : 238 ≤ p) (ha : a < 2 ^ 20) (hg : ∀ t, t < T.n → g t ≤ a) (hs : s < T.g) : ∀ (n i : Nat) (σ : AHp) (R : Rs) (x4 x5 : Option Value), T.g - i = n → i ≤ T.g → okS [none, none, none, none, x4, x5] 5 = true → WaR σ a lo al ne (qOut (maF T a g s) T.n i (-4, a + 1)).1 (nI (qOut (maF T a g s) T.n i (-4, a + 1)).2) g R → (∀ j, j < 232 ∨ 238 ≤ j → σ j = σ0 j) → Run M_X9_findQuestion 18 [some (.ref 232), some (.ref p), some (.int (nI s)), some (.int (nI i)), x4, x5] [] σ 0 0 (fun r σ => r = none ∧ (∃ R', WaR σ a lo al ne (qOut (maF T a g s) T.n T.g (-4, a + 1)).1 (nI (qOut (maF T a g s) T.n T.g (-4, a + 1)).2) g R') ∧ Fr σ0 σ 232 6) := by
  intro n
  induction n using Nat.strongRecOn
  rename_i n ih
  intro i σ R x4 x5 hm hi hx hWR hfr
  obtain ⟨hW, hF, hRP⟩ := id hWR
  have hTP : TbP σ p T := hT0.kept (fun j h1 h2 => hfr j (by omega))
  obtain ⟨hp0, hT, -⟩ := id hTP
  have hn6 := ok.2.2.2.1
  have hg8 := ok.2.1
  refine R_iload_n a_X9_findQuestion_18 rfl ?_
  refine R_aload_n a_X9_findQuestion_19 rfl ?_
  refine R_get a_X9_findQuestion_20 hT rfl ?_
  first | with_reducible refine R_icmp_ge_n a_X9_findQuestion_23 (by omega) (by omega) (fun h23 => ?_) (fun h23 => ?_) | refine R_icmp_ge a_X9_findQuestion_23 (fun h23 => ?_) (fun h23 => ?_)
  · skip
    have hie : i = T.g := by omega
    subst hie
    refine R_vret a_X9_findQuestion_87 rfl ?_
    exact ⟨rfl, ⟨R, hWR⟩, hfr⟩
  · skip
    refine R_iconst (v := nI 0) a_X9_findQuestion_26 rfl ?_
    refine R_istore (ls' := [_, _, _, _, _, _]) a_X9_findQuestion_27 rfl rfl rfl ?_
    exact lp_qIn hT0 ok hp ha hg hs (show i < T.g by omega) (fun σ R x4 x5 hx hW hf => ih _ (show T.g - (i + 1) < n by omega) (i + 1) σ R x4 x5 rfl (by omega) hx hW hf) _ 0 σ R _ rfl (Nat.zero_le _) hWR hfr

set_option maxRecDepth 20000 in
theorem ev_findQuestion {σ0 : AHp} {p a al ne s : Nat} {T : Tb} {lo : Int32} {g : Nat → Nat} (hT0 : TbP σ0 p T) (ok : TbOk T) (hp : 238 ≤ p) (ha : a < 2 ^ 20) (hg : ∀ t, t < T.n → g t ≤ a) (hs : s < T.g) {qu wo : Int32} {R : Rs} (hWR : WaR σ0 a lo al ne qu wo g R) : EvW M_X9_findQuestion [.ref 232, .ref p, .int (nI s)] σ0 none (fun σ => (∃ R', WaR σ a lo al ne (qOut (maF T a g s) T.n T.g (-4, a + 1)).1 (nI (qOut (maF T a g s) T.n T.g (-4, a + 1)).2) g R') ∧ Fr σ0 σ 232 6) := by
  obtain ⟨hW, hF, hRP⟩ := id hWR
  have hfr : ∀ j, j < 232 ∨ 238 ≤ j → σ0 j = σ0 j := fun _ _ => rfl
  refine Ev.of (ls := [_, _, _, _, _, _]) 3 (by decide) rfl rfl ?_
  refine R_aload_n a_X9_findQuestion_0 rfl ?_
  refine R_bipush (v := (-4)) a_X9_findQuestion_1 rfl ?_
  refine R_putiK (fs' := [_, _, _, _, _, _, _, _]) a_X9_findQuestion_3 hW rfl rfl (fun σ hW ho => ?_)
  have hF := (ho _ (by omega)).trans hF
  have hfr : ∀ j, j < 232 ∨ 238 ≤ j → σ j = σ0 j := fun j hj => (ho j (by omega)).trans (hfr j hj)
  have hRP := hRP.at234 (fun j h1 h2 => ho j (by omega))
  refine R_aload_n a_X9_findQuestion_6 rfl ?_
  refine R_aload_n a_X9_findQuestion_7 rfl ?_
  refine R_get a_X9_findQuestion_8 hW rfl ?_
  refine R_iconst (v := nI 1) a_X9_findQuestion_11 rfl ?_
  first | with_reducible refine R_iadd_n a_X9_findQuestion_12 ?_ | refine R_iadd a_X9_findQuestion_12 ?_
  refine R_putiK (fs' := [_, _, _, _, _, _, _, _]) a_X9_findQuestion_13 hW rfl rfl (fun σ hW ho => ?_)
  have hF := (ho _ (by omega)).trans hF
  have hfr : ∀ j, j < 232 ∨ 238 ≤ j → σ j = σ0 j := fun j hj => (ho j (by omega)).trans (hfr j hj)
  have hRP := hRP.at234 (fun j h1 h2 => ho j (by omega))
  refine R_iconst (v := nI 0) a_X9_findQuestion_16 rfl ?_
  refine R_istore_n (ls' := [_, _, _, _, _, _]) a_X9_findQuestion_17 rfl rfl rfl ?_
  exact lp_qOut hT0 ok hp ha hg hs _ 0 σ R none none rfl (Nat.zero_le _) rfl ⟨hW, hF, hRP⟩ hfr

