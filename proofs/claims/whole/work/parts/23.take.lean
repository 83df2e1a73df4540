/-! ===== Table's takes; Reader.read ===== -/
theorem TbP.set {σ : AHp} {p : Nat} {T : Tb} (h : TbP σ p T) : p ≠ 0 := h.1
set_option maxRecDepth 20000 in
theorem ev_Tclear {σ0 : AHp} {p : Nat} {T : Tb} (h : TbP σ0 p T) : EvW M_X8_clear [.ref p] σ0 none (fun σ => TbP σ p (0, 0, 0, 0, 0, T.kd, T.hn, T.kn, T.hf) ∧ Fr σ0 σ p 5) := by
  obtain ⟨hp0, hT, hk, hh, hn, hf⟩ := h
  have hfr : ∀ j, j < p ∨ p + 5 ≤ j → σ0 j = σ0 j := fun _ _ => rfl
  refine Ev.of (ls := [_]) 0 (by decide) rfl rfl ?_
  refine R_aload_n a_X8_clear_0 rfl ?_
  refine R_iconst (v := nI 0) a_X8_clear_1 rfl ?_
  refine R_putiK (fs' := [_, _, _, _, _, _, _, _, _]) a_X8_clear_2 hT rfl rfl (fun σ hT ho => ?_)
  have hk := (ho _ (by omega)).trans hk
  have hh := (ho _ (by omega)).trans hh
  have hn := (ho _ (by omega)).trans hn
  have hf := (ho _ (by omega)).trans hf
  have hfr : ∀ j, j < p ∨ p + 5 ≤ j → σ j = σ0 j := fun j hj => (ho j (by omega)).trans (hfr j hj)
  refine R_aload_n a_X8_clear_5 rfl ?_
  refine R_iconst (v := nI 0) a_X8_clear_6 rfl ?_
  refine R_putiK (fs' := [_, _, _, _, _, _, _, _, _]) a_X8_clear_7 hT rfl rfl (fun σ hT ho => ?_)
  have hk := (ho _ (by omega)).trans hk
  have hh := (ho _ (by omega)).trans hh
  have hn := (ho _ (by omega)).trans hn
  have hf := (ho _ (by omega)).trans hf
  have hfr : ∀ j, j < p ∨ p + 5 ≤ j → σ j = σ0 j := fun j hj => (ho j (by omega)).trans (hfr j hj)
  refine R_aload_n a_X8_clear_10 rfl ?_
  refine R_iconst (v := nI 0) a_X8_clear_11 rfl ?_
  refine R_putiK (fs' := [_, _, _, _, _, _, _, _, _]) a_X8_clear_12 hT rfl rfl (fun σ hT ho => ?_)
  have hk := (ho _ (by omega)).trans hk
  have hh := (ho _ (by omega)).trans hh
  have hn := (ho _ (by omega)).trans hn
  have hf := (ho _ (by omega)).trans hf
  have hfr : ∀ j, j < p ∨ p + 5 ≤ j → σ j = σ0 j := fun j hj => (ho j (by omega)).trans (hfr j hj)
  refine R_aload_n a_X8_clear_15 rfl ?_
  refine R_iconst (v := nI 0) a_X8_clear_16 rfl ?_
  refine R_putiK (fs' := [_, _, _, _, _, _, _, _, _]) a_X8_clear_17 hT rfl rfl (fun σ hT ho => ?_)
  have hk := (ho _ (by omega)).trans hk
  have hh := (ho _ (by omega)).trans hh
  have hn := (ho _ (by omega)).trans hn
  have hf := (ho _ (by omega)).trans hf
  have hfr : ∀ j, j < p ∨ p + 5 ≤ j → σ j = σ0 j := fun j hj => (ho j (by omega)).trans (hfr j hj)
  refine R_aload_n a_X8_clear_20 rfl ?_
  refine R_iconst (v := nI 0) a_X8_clear_21 rfl ?_
  refine R_putiK (fs' := [_, _, _, _, _, _, _, _, _]) a_X8_clear_22 hT rfl rfl (fun σ hT ho => ?_)
  have hk := (ho _ (by omega)).trans hk
  have hh := (ho _ (by omega)).trans hh
  have hn := (ho _ (by omega)).trans hn
  have hf := (ho _ (by omega)).trans hf
  have hfr : ∀ j, j < p ∨ p + 5 ≤ j → σ j = σ0 j := fun j hj => (ho j (by omega)).trans (hfr j hj)
  refine R_vret a_X8_clear_25 rfl ?_
  exact ⟨rfl, ⟨hp0, hT, hk, hh, hn, hf⟩, hfr⟩

set_option maxRecDepth 20000 in
theorem ev_takeGuest {σ0 : AHp} {p : Nat} {T : Tb} (h : TbP σ0 p T) {a b c : Nat} (hg : T.g < 2 ^ 20) (ha : a < 2 ^ 20) (hb : b < 2 ^ 20) (hc : c < 2 ^ 20) : EvW M_X8_takeGuest [.ref p, .int (nI a), .int (nI b), .int (nI c)] σ0 (some (.int (nI (tkG T a b c).1))) (fun σ => TbP σ p (tkG T a b c).2 ∧ Fr σ0 σ p 5) := by
  obtain ⟨hp0, hT, hk, hh, hn, hf⟩ := h
  have hfr : ∀ j, j < p ∨ p + 5 ≤ j → σ0 j = σ0 j := fun _ _ => rfl
  refine Ev.of (ls := [_, _, _, _]) 0 (by decide) rfl rfl ?_
  refine R_aload_n a_X8_takeGuest_0 rfl ?_
  refine R_get a_X8_takeGuest_1 hT rfl ?_
  refine R_bipush (v := nI 8) a_X8_takeGuest_4 rfl ?_
  first | with_reducible refine R_icmp_ge_n a_X8_takeGuest_6 (by omega) (by omega) (fun h6 => ?_) (fun h6 => ?_) | refine R_icmp_ge a_X8_takeGuest_6 (fun h6 => ?_) (fun h6 => ?_)
  · skip
    refine R_iconst (v := nI 0) a_X8_takeGuest_26 rfl ?_
    rw [show tkG T a b c = (0, T) from if_neg (by omega)]
    refine R_zret_n a_X8_takeGuest_27 rfl (by omega) ?_
    exact ⟨rfl, ⟨hp0, hT, hk, hh, hn, hf⟩, hfr⟩
  · skip
    refine R_iload_n a_X8_takeGuest_9 rfl ?_
    refine R_iconst (v := nI 4) a_X8_takeGuest_10 rfl ?_
    first | with_reducible refine R_icmp_gt_n a_X8_takeGuest_11 (by omega) (by omega) (fun h11 => ?_) (fun h11 => ?_) | refine R_icmp_gt a_X8_takeGuest_11 (fun h11 => ?_) (fun h11 => ?_)
    · skip
      refine R_iconst (v := nI 0) a_X8_takeGuest_26 rfl ?_
      rw [show tkG T a b c = (0, T) from if_neg (by omega)]
      refine R_zret_n a_X8_takeGuest_27 rfl (by omega) ?_
      exact ⟨rfl, ⟨hp0, hT, hk, hh, hn, hf⟩, hfr⟩
    · skip
      refine R_iload_n a_X8_takeGuest_14 rfl ?_
      refine R_bipush (v := nI 10) a_X8_takeGuest_15 rfl ?_
      first | with_reducible refine R_icmp_gt_n a_X8_takeGuest_17 (by omega) (by omega) (fun h17 => ?_) (fun h17 => ?_) | refine R_icmp_gt a_X8_takeGuest_17 (fun h17 => ?_) (fun h17 => ?_)
      · skip
        refine R_iconst (v := nI 0) a_X8_takeGuest_26 rfl ?_
        rw [show tkG T a b c = (0, T) from if_neg (by omega)]
        refine R_zret_n a_X8_takeGuest_27 rfl (by omega) ?_
        exact ⟨rfl, ⟨hp0, hT, hk, hh, hn, hf⟩, hfr⟩
      · skip
        refine R_iload_n a_X8_takeGuest_20 rfl ?_
        refine R_bipush (v := nI 63) a_X8_takeGuest_21 rfl ?_
        first | with_reducible refine R_icmp_le_n a_X8_takeGuest_23 (by omega) (by omega) (fun h23 => ?_) (fun h23 => ?_) | refine R_icmp_le a_X8_takeGuest_23 (fun h23 => ?_) (fun h23 => ?_)
        · skip
          refine R_aload_n a_X8_takeGuest_28 rfl ?_
          refine R_get a_X8_takeGuest_29 hT rfl ?_
          refine R_aload_n a_X8_takeGuest_32 rfl ?_
          refine R_get a_X8_takeGuest_33 hT rfl ?_
          refine R_iload_n a_X8_takeGuest_36 rfl ?_
          refine R_iastK a_X8_takeGuest_37 (by omega) hk (by omega) (by decide) (fun σ hk ho => ?_)
          have hT := (ho _ (by omega)).trans hT
          have hh := (ho _ (by omega)).trans hh
          have hn := (ho _ (by omega)).trans hn
          have hf := (ho _ (by omega)).trans hf
          have hfr : ∀ j, j < p ∨ p + 5 ≤ j → σ j = σ0 j := fun j hj => (ho j (by omega)).trans (hfr j hj)
          rw [nF_upd] at hk
          refine R_aload_n a_X8_takeGuest_38 rfl ?_
          refine R_get a_X8_takeGuest_39 hT rfl ?_
          refine R_aload_n a_X8_takeGuest_42 rfl ?_
          refine R_get a_X8_takeGuest_43 hT rfl ?_
          refine R_iload_n a_X8_takeGuest_46 rfl ?_
          refine R_iastK a_X8_takeGuest_47 (by omega) hh (by omega) (by decide) (fun σ hh ho => ?_)
          have hT := (ho _ (by omega)).trans hT
          have hk := (ho _ (by omega)).trans hk
          have hn := (ho _ (by omega)).trans hn
          have hf := (ho _ (by omega)).trans hf
          have hfr : ∀ j, j < p ∨ p + 5 ≤ j → σ j = σ0 j := fun j hj => (ho j (by omega)).trans (hfr j hj)
          rw [nF_upd] at hh
          refine R_aload_n a_X8_takeGuest_48 rfl ?_
          refine R_get a_X8_takeGuest_49 hT rfl ?_
          refine R_aload_n a_X8_takeGuest_52 rfl ?_
          refine R_get a_X8_takeGuest_53 hT rfl ?_
          refine R_iload_n a_X8_takeGuest_56 rfl ?_
          refine R_iastK a_X8_takeGuest_57 (by omega) hn (by omega) (by decide) (fun σ hn ho => ?_)
          have hT := (ho _ (by omega)).trans hT
          have hk := (ho _ (by omega)).trans hk
          have hh := (ho _ (by omega)).trans hh
          have hf := (ho _ (by omega)).trans hf
          have hfr : ∀ j, j < p ∨ p + 5 ≤ j → σ j = σ0 j := fun j hj => (ho j (by omega)).trans (hfr j hj)
          rw [nF_upd] at hn
          refine R_aload_n a_X8_takeGuest_58 rfl ?_
          refine R_dup a_X8_takeGuest_59 rfl ?_
          refine R_get a_X8_takeGuest_60 hT rfl ?_
          refine R_iconst (v := nI 1) a_X8_takeGuest_63 rfl ?_
          first | with_reducible refine R_iadd_n a_X8_takeGuest_64 ?_ | refine R_iadd a_X8_takeGuest_64 ?_
          refine R_putiK (fs' := [_, _, _, _, _, _, _, _, _]) a_X8_takeGuest_65 hT rfl rfl (fun σ hT ho => ?_)
          have hk := (ho _ (by omega)).trans hk
          have hh := (ho _ (by omega)).trans hh
          have hn := (ho _ (by omega)).trans hn
          have hf := (ho _ (by omega)).trans hf
          have hfr : ∀ j, j < p ∨ p + 5 ≤ j → σ j = σ0 j := fun j hj => (ho j (by omega)).trans (hfr j hj)
          refine R_iconst (v := nI 1) a_X8_takeGuest_68 rfl ?_
          rw [show tkG T a b c = (1, (T.g + 1, T.n, T.law, T.st, T.so, uN T.kd T.g a, uN T.hn T.g b, uN T.kn T.g c, T.hf)) from if_pos (by omega)]
          refine R_zret_n a_X8_takeGuest_69 rfl (by omega) ?_
          exact ⟨rfl, ⟨hp0, hT, hk, hh, hn, hf⟩, hfr⟩
        · skip
          refine R_iconst (v := nI 0) a_X8_takeGuest_26 rfl ?_
          rw [show tkG T a b c = (0, T) from if_neg (by omega)]
          refine R_zret_n a_X8_takeGuest_27 rfl (by omega) ?_
          exact ⟨rfl, ⟨hp0, hT, hk, hh, hn, hf⟩, hfr⟩

set_option maxRecDepth 20000 in
theorem ev_takeThing {σ0 : AHp} {p : Nat} {T : Tb} (h : TbP σ0 p T) {a b : Nat} (hg : T.n < 2 ^ 20) (ha : a < 2 ^ 20) (hb : b < 2 ^ 20) : EvW M_X8_takeThing [.ref p, .int (nI a), .int (nI b)] σ0 (some (.int (nI (tkT T a b).1))) (fun σ => TbP σ p (tkT T a b).2 ∧ Fr σ0 σ p 5) := by
  obtain ⟨hp0, hT, hk, hh, hn, hf⟩ := h
  have hfr : ∀ j, j < p ∨ p + 5 ≤ j → σ0 j = σ0 j := fun _ _ => rfl
  refine Ev.of (ls := [_, _, _]) 0 (by decide) rfl rfl ?_
  refine R_aload_n a_X8_takeThing_0 rfl ?_
  refine R_get a_X8_takeThing_1 hT rfl ?_
  refine R_bipush (v := nI 6) a_X8_takeThing_4 rfl ?_
  first | with_reducible refine R_icmp_ge_n a_X8_takeThing_6 (by omega) (by omega) (fun h6 => ?_) (fun h6 => ?_) | refine R_icmp_ge a_X8_takeThing_6 (fun h6 => ?_) (fun h6 => ?_)
  · skip
    refine R_iconst (v := nI 0) a_X8_takeThing_24 rfl ?_
    rw [show tkT T a b = (0, T) from if_neg (by omega)]
    refine R_zret_n a_X8_takeThing_25 rfl (by omega) ?_
    exact ⟨rfl, ⟨hp0, hT, hk, hh, hn, hf⟩, hfr⟩
  · skip
    refine R_iload_n a_X8_takeThing_9 rfl ?_
    refine R_iconst (v := nI 1) a_X8_takeThing_10 rfl ?_
    first | with_reducible refine R_icmp_gt_n a_X8_takeThing_11 (by omega) (by omega) (fun h11 => ?_) (fun h11 => ?_) | refine R_icmp_gt a_X8_takeThing_11 (fun h11 => ?_) (fun h11 => ?_)
    · skip
      refine R_iconst (v := nI 0) a_X8_takeThing_24 rfl ?_
      rw [show tkT T a b = (0, T) from if_neg (by omega)]
      refine R_zret_n a_X8_takeThing_25 rfl (by omega) ?_
      exact ⟨rfl, ⟨hp0, hT, hk, hh, hn, hf⟩, hfr⟩
    · skip
      refine R_iload_n a_X8_takeThing_14 rfl ?_
      refine R_iconst (v := nI 1) a_X8_takeThing_15 rfl ?_
      first | with_reducible refine R_icmp_lt_n a_X8_takeThing_16 (by omega) (by omega) (fun h16 => ?_) (fun h16 => ?_) | refine R_icmp_lt a_X8_takeThing_16 (fun h16 => ?_) (fun h16 => ?_)
      · skip
        refine R_iconst (v := nI 0) a_X8_takeThing_24 rfl ?_
        rw [show tkT T a b = (0, T) from if_neg (by omega)]
        refine R_zret_n a_X8_takeThing_25 rfl (by omega) ?_
        exact ⟨rfl, ⟨hp0, hT, hk, hh, hn, hf⟩, hfr⟩
      · skip
        refine R_iload_n a_X8_takeThing_19 rfl ?_
        refine R_iconst (v := nI 4) a_X8_takeThing_20 rfl ?_
        first | with_reducible refine R_icmp_le_n a_X8_takeThing_21 (by omega) (by omega) (fun h21 => ?_) (fun h21 => ?_) | refine R_icmp_le a_X8_takeThing_21 (fun h21 => ?_) (fun h21 => ?_)
        · skip
          refine R_aload_n a_X8_takeThing_26 rfl ?_
          refine R_get a_X8_takeThing_27 hT rfl ?_
          refine R_aload_n a_X8_takeThing_30 rfl ?_
          refine R_get a_X8_takeThing_31 hT rfl ?_
          refine R_iload_n a_X8_takeThing_34 rfl ?_
          refine R_iastK a_X8_takeThing_35 (by omega) hf (by omega) (by decide) (fun σ hf ho => ?_)
          have hT := (ho _ (by omega)).trans hT
          have hk := (ho _ (by omega)).trans hk
          have hh := (ho _ (by omega)).trans hh
          have hn := (ho _ (by omega)).trans hn
          have hfr : ∀ j, j < p ∨ p + 5 ≤ j → σ j = σ0 j := fun j hj => (ho j (by omega)).trans (hfr j hj)
          rw [nF_upd] at hf
          refine R_aload_n a_X8_takeThing_36 rfl ?_
          refine R_dup a_X8_takeThing_37 rfl ?_
          refine R_get a_X8_takeThing_38 hT rfl ?_
          refine R_iload_n a_X8_takeThing_41 rfl ?_
          refine R_aload_n a_X8_takeThing_42 rfl ?_
          refine R_get a_X8_takeThing_43 hT rfl ?_
          have hp6 : a * 2 ^ T.n < 2 ^ 32 := Nat.lt_of_le_of_lt (Nat.mul_le_mul (show a ≤ 1 by omega) (Nat.pow_le_pow_right (by decide) (show T.n ≤ 6 by omega))) (by decide)
          first | with_reducible refine R_ishl1 a_X8_takeThing_46 (by omega) ?_ | with_reducible refine R_ishl_n a_X8_takeThing_46 (by omega) (by omega) ?_ | refine R_ishl a_X8_takeThing_46 ?_
          first | with_reducible refine R_ior_n a_X8_takeThing_47 ?_ | refine R_ior a_X8_takeThing_47 ?_
          refine R_putiK (fs' := [_, _, _, _, _, _, _, _, _]) a_X8_takeThing_48 hT rfl rfl (fun σ hT ho => ?_)
          have hk := (ho _ (by omega)).trans hk
          have hh := (ho _ (by omega)).trans hh
          have hn := (ho _ (by omega)).trans hn
          have hf := (ho _ (by omega)).trans hf
          have hfr : ∀ j, j < p ∨ p + 5 ≤ j → σ j = σ0 j := fun j hj => (ho j (by omega)).trans (hfr j hj)
          refine R_aload_n a_X8_takeThing_51 rfl ?_
          refine R_dup a_X8_takeThing_52 rfl ?_
          refine R_get a_X8_takeThing_53 hT rfl ?_
          refine R_iconst (v := nI 1) a_X8_takeThing_56 rfl ?_
          first | with_reducible refine R_iadd_n a_X8_takeThing_57 ?_ | refine R_iadd a_X8_takeThing_57 ?_
          refine R_putiK (fs' := [_, _, _, _, _, _, _, _, _]) a_X8_takeThing_58 hT rfl rfl (fun σ hT ho => ?_)
          have hk := (ho _ (by omega)).trans hk
          have hh := (ho _ (by omega)).trans hh
          have hn := (ho _ (by omega)).trans hn
          have hf := (ho _ (by omega)).trans hf
          have hfr : ∀ j, j < p ∨ p + 5 ≤ j → σ j = σ0 j := fun j hj => (ho j (by omega)).trans (hfr j hj)
          refine R_iconst (v := nI 1) a_X8_takeThing_61 rfl ?_
          rw [show tkT T a b = (1, (T.g, T.n + 1, T.law, T.st, T.so ||| a * 2 ^ T.n, T.kd, T.hn, T.kn, uN T.hf T.n b)) from if_pos (by omega)]
          refine R_zret_n a_X8_takeThing_62 rfl (by omega) ?_
          exact ⟨rfl, ⟨hp0, hT, hk, hh, hn, hf⟩, hfr⟩
        · skip
          refine R_iconst (v := nI 0) a_X8_takeThing_24 rfl ?_
          rw [show tkT T a b = (0, T) from if_neg (by omega)]
          refine R_zret_n a_X8_takeThing_25 rfl (by omega) ?_
          exact ⟨rfl, ⟨hp0, hT, hk, hh, hn, hf⟩, hfr⟩

set_option maxRecDepth 20000 in
theorem ev_takeLaw {σ0 : AHp} {p : Nat} {T : Tb} (h : TbP σ0 p T) {a : Nat} (ha : a < 2 ^ 20) : EvW M_X8_takeLaw [.ref p, .int (nI a)] σ0 (some (.int (nI (tkL T a).1))) (fun σ => TbP σ p (tkL T a).2 ∧ Fr σ0 σ p 5) := by
  obtain ⟨hp0, hT, hk, hh, hn, hf⟩ := h
  have hfr : ∀ j, j < p ∨ p + 5 ≤ j → σ0 j = σ0 j := fun _ _ => rfl
  refine Ev.of (ls := [_, _]) 0 (by decide) rfl rfl ?_
  refine R_iload_n a_X8_takeLaw_0 rfl ?_
  refine R_iconst (v := nI 4) a_X8_takeLaw_1 rfl ?_
  first | with_reducible refine R_icmp_lt_n a_X8_takeLaw_2 (by omega) (by omega) (fun h2 => ?_) (fun h2 => ?_) | refine R_icmp_lt a_X8_takeLaw_2 (fun h2 => ?_) (fun h2 => ?_)
  · skip
    refine R_aload_n a_X8_takeLaw_7 rfl ?_
    refine R_iload_n a_X8_takeLaw_8 rfl ?_
    refine R_putiK (fs' := [_, _, _, _, _, _, _, _, _]) a_X8_takeLaw_9 hT rfl rfl (fun σ hT ho => ?_)
    have hk := (ho _ (by omega)).trans hk
    have hh := (ho _ (by omega)).trans hh
    have hn := (ho _ (by omega)).trans hn
    have hf := (ho _ (by omega)).trans hf
    have hfr : ∀ j, j < p ∨ p + 5 ≤ j → σ j = σ0 j := fun j hj => (ho j (by omega)).trans (hfr j hj)
    refine R_iconst (v := nI 1) a_X8_takeLaw_12 rfl ?_
    rw [show tkL T a = (1, (T.g, T.n, a, T.st, T.so, T.kd, T.hn, T.kn, T.hf)) from if_pos (by omega)]
    refine R_zret_n a_X8_takeLaw_13 rfl (by omega) ?_
    exact ⟨rfl, ⟨hp0, hT, hk, hh, hn, hf⟩, hfr⟩
  · skip
    refine R_iconst (v := nI 0) a_X8_takeLaw_5 rfl ?_
    rw [show tkL T a = (0, T) from if_neg (by omega)]
    refine R_zret_n a_X8_takeLaw_6 rfl (by omega) ?_
    exact ⟨rfl, ⟨hp0, hT, hk, hh, hn, hf⟩, hfr⟩

set_option maxRecDepth 20000 in
theorem ev_takeStart {σ0 : AHp} {p : Nat} {T : Tb} (h : TbP σ0 p T) {a : Nat} (ha : a < 2 ^ 20) : EvW M_X8_takeStart [.ref p, .int (nI a)] σ0 (some (.int (nI (tkA T a).1))) (fun σ => TbP σ p (tkA T a).2 ∧ Fr σ0 σ p 5) := by
  obtain ⟨hp0, hT, hk, hh, hn, hf⟩ := h
  have hfr : ∀ j, j < p ∨ p + 5 ≤ j → σ0 j = σ0 j := fun _ _ => rfl
  refine Ev.of (ls := [_, _]) 0 (by decide) rfl rfl ?_
  refine R_iload_n a_X8_takeStart_0 rfl ?_
  refine R_bipush (v := nI 8) a_X8_takeStart_1 rfl ?_
  first | with_reducible refine R_icmp_lt_n a_X8_takeStart_3 (by omega) (by omega) (fun h3 => ?_) (fun h3 => ?_) | refine R_icmp_lt a_X8_takeStart_3 (fun h3 => ?_) (fun h3 => ?_)
  · skip
    refine R_aload_n a_X8_takeStart_8 rfl ?_
    refine R_iload_n a_X8_takeStart_9 rfl ?_
    refine R_putiK (fs' := [_, _, _, _, _, _, _, _, _]) a_X8_takeStart_10 hT rfl rfl (fun σ hT ho => ?_)
    have hk := (ho _ (by omega)).trans hk
    have hh := (ho _ (by omega)).trans hh
    have hn := (ho _ (by omega)).trans hn
    have hf := (ho _ (by omega)).trans hf
    have hfr : ∀ j, j < p ∨ p + 5 ≤ j → σ j = σ0 j := fun j hj => (ho j (by omega)).trans (hfr j hj)
    refine R_iconst (v := nI 1) a_X8_takeStart_13 rfl ?_
    rw [show tkA T a = (1, (T.g, T.n, T.law, a, T.so, T.kd, T.hn, T.kn, T.hf)) from if_pos (by omega)]
    refine R_zret_n a_X8_takeStart_14 rfl (by omega) ?_
    exact ⟨rfl, ⟨hp0, hT, hk, hh, hn, hf⟩, hfr⟩
  · skip
    refine R_iconst (v := nI 0) a_X8_takeStart_6 rfl ?_
    rw [show tkA T a = (0, T) from if_neg (by omega)]
    refine R_zret_n a_X8_takeStart_7 rfl (by omega) ?_
    exact ⟨rfl, ⟨hp0, hT, hk, hh, hn, hf⟩, hfr⟩

theorem tkF_le (T : Tb) (c : Nat) (f : Nat → Nat) : (tkF T c f).1 ≤ 1 := by
  unfold tkF tkG tkT tkL tkA
  split
  · split <;> simp
  · split
    · split <;> simp
    · split
      · split <;> simp
      · split
        · split <;> simp
        · simp
set_option maxRecDepth 20000 in
theorem ev_take {σ0 : AHp} {p : Nat} {T : Tb} (h : TbP σ0 p T) {q c : Nat} {f : Nat → Nat} (hq : σ0 q = some (iA 0 3 (nF f))) (hg : T.g < 2 ^ 20) (hn : T.n < 2 ^ 20) (hc : c < 2 ^ 20) (hf3 : ∀ j, j < manyF c → f j < 2 ^ 20) : EvW M_X8_take [.ref p, .int (nI c), .ref q] σ0 (some (.int (nI (tkF T c f).1))) (fun σ => TbP σ p (tkF T c f).2 ∧ Fr σ0 σ p 5) := by
  have hTP := h
  obtain ⟨hp0, hT, hk, hh, hn0, hf⟩ := h
  have hle := tkF_le T c f
  refine Ev.of (ls := [_, _, _]) 0 (by decide) rfl rfl ?_
  refine R_iload_n a_X8_take_0 rfl ?_
  by_cases hs97 : c = 97
  · refine R_lsw (off := 76) (tgt := 77) a_X8_take_1 (by decide) (by rw [hs97]; rfl) rfl ?_
    have f0 := hf3 0 (by rw [hs97]; decide)
    have hx : tkF T c f = tkA T (f 0) := by unfold tkF; rw [if_neg (by omega), if_neg (by omega), if_neg (by omega), if_pos hs97]
    refine R_aload_n a_X8_take_77 rfl ?_
    refine R_aload_n a_X8_take_78 rfl ?_
    refine R_iconst (v := nI 0) a_X8_take_79 rfl ?_
    refine R_iald_n a_X8_take_80 hq (by omega) (by decide) ?_
    refine R_callVs a_X8_take_81 hT (ev_takeStart hTP f0) rfl rfl rfl rfl rfl (fun σ hP => ?_)
    rw [hx] at hle ⊢
    refine R_zret_n a_X8_take_84 rfl hle ?_
    exact ⟨rfl, hP⟩
  by_cases hs103 : c = 103
  · refine R_lsw (off := 43) (tgt := 44) a_X8_take_1 (by decide) (by rw [hs103]; rfl) rfl ?_
    have f0 := hf3 0 (by rw [hs103]; decide)
    have f1 := hf3 1 (by rw [hs103]; decide)
    have f2 := hf3 2 (by rw [hs103]; decide)
    have hx : tkF T c f = tkG T (f 0) (f 1) (f 2) := by unfold tkF; rw [if_pos hs103]
    refine R_aload_n a_X8_take_44 rfl ?_
    refine R_aload_n a_X8_take_45 rfl ?_
    refine R_iconst (v := nI 0) a_X8_take_46 rfl ?_
    refine R_iald_n a_X8_take_47 hq (by omega) (by decide) ?_
    refine R_aload_n a_X8_take_48 rfl ?_
    refine R_iconst (v := nI 1) a_X8_take_49 rfl ?_
    refine R_iald_n a_X8_take_50 hq (by omega) (by decide) ?_
    refine R_aload_n a_X8_take_51 rfl ?_
    refine R_iconst (v := nI 2) a_X8_take_52 rfl ?_
    refine R_iald_n a_X8_take_53 hq (by omega) (by decide) ?_
    refine R_callVs a_X8_take_54 hT (ev_takeGuest hTP hg f0 f1 f2) rfl rfl rfl rfl rfl (fun σ hP => ?_)
    rw [hx] at hle ⊢
    refine R_zret_n a_X8_take_57 rfl hle ?_
    exact ⟨rfl, hP⟩
  by_cases hs108 : c = 108
  · refine R_lsw (off := 68) (tgt := 69) a_X8_take_1 (by decide) (by rw [hs108]; rfl) rfl ?_
    have f0 := hf3 0 (by rw [hs108]; decide)
    have hx : tkF T c f = tkL T (f 0) := by unfold tkF; rw [if_neg (by omega), if_neg (by omega), if_pos hs108]
    refine R_aload_n a_X8_take_69 rfl ?_
    refine R_aload_n a_X8_take_70 rfl ?_
    refine R_iconst (v := nI 0) a_X8_take_71 rfl ?_
    refine R_iald_n a_X8_take_72 hq (by omega) (by decide) ?_
    refine R_callVs a_X8_take_73 hT (ev_takeLaw hTP f0) rfl rfl rfl rfl rfl (fun σ hP => ?_)
    rw [hx] at hle ⊢
    refine R_zret_n a_X8_take_76 rfl hle ?_
    exact ⟨rfl, hP⟩
  by_cases hs116 : c = 116
  · refine R_lsw (off := 57) (tgt := 58) a_X8_take_1 (by decide) (by rw [hs116]; rfl) rfl ?_
    have f0 := hf3 0 (by rw [hs116]; decide)
    have f1 := hf3 1 (by rw [hs116]; decide)
    have hx : tkF T c f = tkT T (f 0) (f 1) := by unfold tkF; rw [if_neg (by omega), if_pos hs116]
    refine R_aload_n a_X8_take_58 rfl ?_
    refine R_aload_n a_X8_take_59 rfl ?_
    refine R_iconst (v := nI 0) a_X8_take_60 rfl ?_
    refine R_iald_n a_X8_take_61 hq (by omega) (by decide) ?_
    refine R_aload_n a_X8_take_62 rfl ?_
    refine R_iconst (v := nI 1) a_X8_take_63 rfl ?_
    refine R_iald_n a_X8_take_64 hq (by omega) (by decide) ?_
    refine R_callVs a_X8_take_65 hT (ev_takeThing hTP hn f0 f1) rfl rfl rfl rfl rfl (fun σ hP => ?_)
    rw [hx] at hle ⊢
    refine R_zret_n a_X8_take_68 rfl hle ?_
    exact ⟨rfl, hP⟩
  refine R_lsw (off := 84) (tgt := 85) a_X8_take_1 (by decide) (by simp [Op.lookupswitch.offset, nI_toInt (show c < 2 ^ 31 by omega)]; omega) rfl ?_
  have hx : tkF T c f = (0, T) := by unfold tkF; rw [if_neg (by omega), if_neg (by omega), if_neg (by omega), if_neg (by omega)]
  refine R_iconst (v := nI 0) a_X8_take_85 rfl ?_
  rw [hx]
  refine R_zret_n a_X8_take_86 rfl (by omega) ?_
  exact ⟨rfl, hTP, Fr.rf _ _ _⟩

set_option maxRecDepth 20000 in
theorem ev_canBeLaid {σ : AHp} {p : Nat} {T : Tb} (h : TbP σ p T) (hg : T.g < 2 ^ 20) (hn : T.n < 2 ^ 20) (hst : T.st < 2 ^ 20) : EvP M_X8_canBeLaid [.ref p] σ (.int (nI (b2n (decide (3 ≤ T.g ∧ 1 ≤ T.n ∧ T.st < T.g))))) := by
  obtain ⟨hp0, hT, hk, hh, hn0, hf⟩ := h
  refine Ev.of (ls := [_]) 0 (by decide) rfl rfl ?_
  refine R_aload_n a_X8_canBeLaid_0 rfl ?_
  refine R_get a_X8_canBeLaid_1 hT rfl ?_
  refine R_iconst (v := nI 3) a_X8_canBeLaid_4 rfl ?_
  first | with_reducible refine R_icmp_lt_n a_X8_canBeLaid_5 (by omega) (by omega) (fun h5 => ?_) (fun h5 => ?_) | refine R_icmp_lt a_X8_canBeLaid_5 (fun h5 => ?_) (fun h5 => ?_)
  · skip
    refine R_iconst (v := nI 0) a_X8_canBeLaid_31 rfl ?_
    refine R_zret_n a_X8_canBeLaid_32 rfl (by omega) ?_
    exact ⟨by first | rw [decide_eq_false (by omega)]; rfl | rw [decide_eq_true (by omega)]; rfl, rfl⟩
  · skip
    refine R_aload_n a_X8_canBeLaid_8 rfl ?_
    refine R_get a_X8_canBeLaid_9 hT rfl ?_
    refine R_iconst (v := nI 1) a_X8_canBeLaid_12 rfl ?_
    first | with_reducible refine R_icmp_lt_n a_X8_canBeLaid_13 (by omega) (by omega) (fun h13 => ?_) (fun h13 => ?_) | refine R_icmp_lt a_X8_canBeLaid_13 (fun h13 => ?_) (fun h13 => ?_)
    · skip
      refine R_iconst (v := nI 0) a_X8_canBeLaid_31 rfl ?_
      refine R_zret_n a_X8_canBeLaid_32 rfl (by omega) ?_
      exact ⟨by first | rw [decide_eq_false (by omega)]; rfl | rw [decide_eq_true (by omega)]; rfl, rfl⟩
    · skip
      refine R_aload_n a_X8_canBeLaid_16 rfl ?_
      refine R_get a_X8_canBeLaid_17 hT rfl ?_
      refine R_aload_n a_X8_canBeLaid_20 rfl ?_
      refine R_get a_X8_canBeLaid_21 hT rfl ?_
      first | with_reducible refine R_icmp_ge_n a_X8_canBeLaid_24 (by omega) (by omega) (fun h24 => ?_) (fun h24 => ?_) | refine R_icmp_ge a_X8_canBeLaid_24 (fun h24 => ?_) (fun h24 => ?_)
      · skip
        refine R_iconst (v := nI 0) a_X8_canBeLaid_31 rfl ?_
        refine R_zret_n a_X8_canBeLaid_32 rfl (by omega) ?_
        exact ⟨by first | rw [decide_eq_false (by omega)]; rfl | rw [decide_eq_true (by omega)]; rfl, rfl⟩
      · skip
        refine R_iconst (v := nI 1) a_X8_canBeLaid_27 rfl ?_
        refine R_goto a_X8_canBeLaid_28 ?_
        refine R_zret_n a_X8_canBeLaid_32 rfl (by omega) ?_
        exact ⟨by first | rw [decide_eq_false (by omega)]; rfl | rw [decide_eq_true (by omega)]; rfl, rfl⟩

/-- bounds that a table in reading keeps -/
def TbIn (T : Tb) : Prop := T.g ≤ 8 ∧ T.n ≤ 6 ∧ T.law < 4 ∧ T.st < 8 ∧ T.so < 2 ^ T.n ∧ (∀ i, i < T.g → T.kd i ≤ 4) ∧ (∀ i, i < T.g → T.hn i ≤ 10) ∧ (∀ i, i < T.g → T.kn i ≤ 63) ∧ ∀ t, t < T.n → 1 ≤ T.hf t ∧ T.hf t ≤ 4
theorem TbIn.tk {T : Tb} (h : TbIn T) (c : Nat) (f : Nat → Nat) : TbIn (tkF T c f).2 := by
  obtain ⟨h1, h2, h3, h4, h5, h6, h7, h8, h9⟩ := id h
  unfold tkF
  split
  · unfold tkG
    split
    · rename_i hh
      refine ⟨by show T.g + 1 ≤ 8; omega, h2, h3, h4, h5, fun i hi => ?_, fun i hi => ?_, fun i hi => ?_, h9⟩
      · show uN T.kd T.g (f 0) i ≤ 4
        by_cases e : i = T.g
        · rw [e, uN_self]; omega
        · rw [uN_ne _ _ e]; exact h6 i (by have : i < T.g + 1 := hi; omega)
      · show uN T.hn T.g (f 1) i ≤ 10
        by_cases e : i = T.g
        · rw [e, uN_self]; omega
        · rw [uN_ne _ _ e]; exact h7 i (by have : i < T.g + 1 := hi; omega)
      · show uN T.kn T.g (f 2) i ≤ 63
        by_cases e : i = T.g
        · rw [e, uN_self]; omega
        · rw [uN_ne _ _ e]; exact h8 i (by have : i < T.g + 1 := hi; omega)
    · exact h
  · split
    · unfold tkT
      split
      · rename_i hh
        refine ⟨h1, by show T.n + 1 ≤ 6; omega, h3, h4, ?_, h6, h7, h8, fun t ht => ?_⟩
        · show T.so ||| f 0 * 2 ^ T.n < 2 ^ (T.n + 1)
          refine Nat.or_lt_two_pow (Nat.lt_of_lt_of_le h5 (Nat.pow_le_pow_right (by decide) (by omega))) ?_
          rw [Nat.pow_succ]
          have := Nat.two_pow_pos T.n
          rcases (show f 0 = 0 ∨ f 0 = 1 by omega) with e | e <;> rw [e] <;> omega
        · show 1 ≤ uN T.hf T.n (f 1) t ∧ uN T.hf T.n (f 1) t ≤ 4
          by_cases e : t = T.n
          · rw [e, uN_self]; omega
          · rw [uN_ne _ _ e]; exact h9 t (by have : t < T.n + 1 := ht; omega)
      · exact h
    · split
      · unfold tkL
        split
        · rename_i hh
          exact ⟨h1, h2, hh, h4, h5, h6, h7, h8, h9⟩
        · exact h
      · split
        · unfold tkA
          split
          · rename_i hh
            exact ⟨h1, h2, h3, hh, h5, h6, h7, h8, h9⟩
          · exact h
        · exact h
theorem rdF_up {t : Nat → Nat} : ∀ (r k p : Nat) (f g : Nat → Nat) (q : Nat), rdF t r k p f = some (g, q) → p + 2 * r ≤ q ∧ q ≤ p + 3 * r ∧ ((∀ j, f j < 100) → ∀ j, g j < 100) := by
  intro r
  induction r with
  | zero => intro k p f g q h; cases h; exact ⟨by omega, by omega, fun h => h⟩
  | succ r ih =>
    intro k p f g q h
    rw [rdF] at h
    cases hn : numF t p with
    | none => rw [hn] at h; cases h
    | some vq =>
      obtain ⟨v, q1⟩ := vq
      rw [hn] at h
      simp only at h
      by_cases he : t q1 = endC r
      · rw [if_pos he] at h
        obtain ⟨h1, h2, h3⟩ := ih _ _ _ _ _ h
        have hu := numF_up hn
        refine ⟨by omega, by omega, fun hf => h3 (fun j => ?_)⟩
        unfold uN
        split
        · omega
        · exact hf j
      · rw [if_neg he] at h
        cases h
theorem manyF_le (c : Nat) : manyF c ≤ 3 := by
  unfold manyF
  split
  · omega
  · split
    · omega
    · split
      · omega
      · split <;> omega
/-- rdF looks at no number's old value, but where it keeps it -/
theorem rdF_any {t : Nat → Nat} : ∀ (r k p : Nat) (f f' g : Nat → Nat) (q : Nat), (∀ j, j < k → f j = f' j) → rdF t r k p f = some (g, q) → ∃ g', rdF t r k p f' = some (g', q) ∧ ∀ j, j < k + r → g j = g' j := by
  intro r
  induction r with
  | zero => intro k p f f' g q h hr; cases hr; exact ⟨f', rfl, fun j hj => h j (by omega)⟩
  | succ r ih =>
    intro k p f f' g q h hr
    rw [rdF] at hr ⊢
    cases hn : numF t p with
    | none => rw [hn] at hr; cases hr
    | some vq =>
      obtain ⟨v, q1⟩ := vq
      rw [hn] at hr
      simp only at hr ⊢
      by_cases he : t q1 = endC r
      · rw [if_pos he] at hr ⊢
        obtain ⟨g', h1, h2⟩ := ih (k + 1) (q1 + 1) (uN f k v) (uN f' k v) g q (fun j hj => by
          by_cases e : j = k
          · rw [e, uN_self, uN_self]
          · rw [uN_ne _ _ e, uN_ne _ _ e]; exact h j (by omega)) hr
        exact ⟨g', h1, fun j hj => h2 j (by omega)⟩
      · rw [if_neg he] at hr
        cases hr
theorem rdF_none {t : Nat → Nat} : ∀ (r k p : Nat) (f f' : Nat → Nat), (∀ j, j < k → f j = f' j) → rdF t r k p f = none → rdF t r k p f' = none := by
  intro r k p f f' h hr
  cases h2 : rdF t r k p f' with
  | none => rfl
  | some x =>
    obtain ⟨g, q⟩ := x
    obtain ⟨g', h3, -⟩ := rdF_any r k p f' f g q (fun j hj => (h j hj).symm) h2
    rw [hr] at h3; cases h3
theorem tkF_any (T : Tb) (c : Nat) {f f' : Nat → Nat} (h : ∀ j, j < manyF c → f j = f' j) : tkF T c f = tkF T c f' := by
  unfold tkF
  unfold manyF at h
  by_cases h1 : c = 103
  · simp only [h1, if_true] at h ⊢
    rw [h 0 (by decide), h 1 (by decide), h 2 (by decide)]
  · by_cases h2 : c = 116
    · subst h2
      simp only [show ¬ (116 = 103) by decide, if_true, if_false] at h ⊢
      rw [h 0 (by decide), h 1 (by decide)]
    · by_cases h3 : c = 108
      · subst h3
        simp only [show ¬ (108 = 103) by decide, show ¬ (108 = 116) by decide, if_true, if_false] at h ⊢
        rw [h 0 (by decide)]
      · by_cases h4 : c = 97
        · subst h4
          simp only [show ¬ (97 = 103) by decide, show ¬ (97 = 116) by decide, show ¬ (97 = 108) by decide, if_true, if_false] at h ⊢
          rw [h 0 (by decide)]
        · rw [if_neg h1, if_neg h2, if_neg h3, if_neg h4, if_neg h1, if_neg h2, if_neg h3, if_neg h4]
