/-! ===== System.arraycopy; Evening.copy ===== -/
theorem R_acopy {M : MI} {pc nx : Nat} {ls : List (Option Value)} {st : List Value} {σ : AHp} {kc ks : Nat} {Q : Option Value → AHp → Prop} {q0 q1 n0 n1 k idx : Nat} {f g : Nat → Int32} (h : At M pc (.invokestatic idx) 3 nx) (hl : Cond.methodLink M.y.cls idx arraycopyName ∈ LT) (h0 : q0 ≠ 0) (h1 : q1 ≠ 0) (hf : σ q0 = some (iA 0 n0 f)) (hg : σ q1 = some (iA 0 n1 g)) (hk0 : k ≤ n0) (hk1 : k ≤ n1) (hb : k ≤ 100000) (hfr : Nat.ble 1 M.rm.frames = true) (hlo : Nat.ble ((st.map fun v => v.category).sum + (nativeFrameWords "java/lang/System" "arraycopy" 5 + 11)) M.rm.locals = true) (kk : ∀ σ' : AHp, σ' q1 = some (iA 0 n1 (fun j => if j < k then f j else g j)) → (∀ j, j ≠ q1 → σ' j = σ j) → Run M nx ls st σ' kc ks Q) : Run M pc ls (.int (nI k) :: .int (nI 0) :: .ref q1 :: .int (nI 0) :: .ref q0 :: st) σ kc ks Q := by
  obtain ⟨hd, rfl⟩ := h
  intro p l e s m args below meth c E H locs cells slots lsA C hW hS hL hc hs
  obtain ⟨hc0, -⟩ := hW.arr h0 hf
  obtain ⟨hc1, -⟩ := hW.arr h1 hg
  have hlo' := Nat.le_of_ble_eq_true hlo
  have hsum := cat_sum E st
  have hn0 : ¬ nI 0 < 0 := by decide
  have hnk : ¬ nI k < 0 := nI_pos (by omega)
  have hk' : (nI k).toNatClampNeg = k := nI_clamp (by omega)
  have hz' : (nI 0).toNatClampNeg = 0 := nI_clamp (by omega)
  have ti : (nI k).toInt = (k : Int) := nI_toInt (by omega)
  have tz : (nI 0).toInt = (0 : Int) := nI_toInt (by omega)
  intro T hT X
  obtain ⟨-, k0, hkk0, cm0, hkm0⟩ := (C.K.2 0 _ (ty0E E)).1 n0 (fun j => .int (f j))
  obtain ⟨-, k1, hkk1, cm1, hkm1⟩ := (C.K.2 0 _ (ty0E E)).1 n1 (fun j => .int (g j))
  obtain ⟨vm', X', step⟩ := X.arraycopy C.1 C.own (C.lt hl) (C.lt nat_ac) (C.lt st_ac) (C.lt ini_J10) (src := ad E q0) (dst := ad E q1) (cs := vp_cell (E.dA 0) (n0, .inl f)) (cd := vp_cell (E.dA 0) (n1, .inl g)) (srcPos := nI 0) (destPos := nI 0) (n := nI k) (by rw [hT]; exact hc0) (by rw [hT]; exact hc1)
    (fun _ h => by cases h) (fun _ h => by cases h) (fun h => by cases h) (fun h => by cases h) hkk0 hkk1 hkm0 hkm1 (by simp [refKind]) hn0 hn0 hnk
    (by rw [tz, ti]; show ¬ _ > ((arrV (E.dA 0) n0 (fun j => .int (f j))).slots.size : Int); rw [arrV_size]; omega)
    (by rw [tz, ti]; show ¬ _ > ((arrV (E.dA 0) n1 (fun j => .int (g j))).slots.size : Int); rw [arrV_size]; omega)
    (fun vm₁ _ i hi => by
      have e : (vp_cell (E.dA 0) (n0, .inl f)).slots.getD ((nI 0).toNatClampNeg + i) .null = .int (f ((nI 0).toNatClampNeg + i)) := by
        show (arrV (E.dA 0) n0 (fun j => .int (f j))).slots.getD _ _ = _
        rw [Array.getD_eq_getD_getElem?, arrV_read _ _ (by omega)]
        rfl
      refine ⟨?_, ?_⟩
      · rw [e]
        rfl
      · rw [e]
        exact trivial)
    (g := F0 m pc lsA (.int (nI k) :: .int (nI 0) :: .ref (ad E q1) :: .int (nI 0) :: .ref (ad E q0) :: st.map (cv E))) rfl (by rw [C.2.2.2.1]; exact hL.1) (rest := st.map (cv E)) rfl (by rw [C.2.1]; exact hd) (Nat.le_of_ble_eq_true hfr) (by show 2 * 0 + _ + _ ≤ _; omega)
  have e1 : copied (vp_cell (E.dA 0) (n0, .inl f)) (vp_cell (E.dA 0) (n1, .inl g)) (nI 0) (nI 0) (nI k) = vp_cell (E.dA 0) (n1, .inl (va_cpy f g (nI 0).toNatClampNeg (nI 0).toNatClampNeg (nI k).toNatClampNeg)) := va_copied (fun z => .int z) (E.dA 0) (E.dA 0) f g (by omega)
  rw [e1] at X' step
  have hlt : ad E q1 < H.size := (Array.getElem?_eq_some_iff.mp hc1).1
  have hheap : ((T.setVm vm').setCell (ad E q1) (vp_cell (E.dA 0) (n1, .inl (va_cpy f g (nI 0).toNatClampNeg (nI 0).toNatClampNeg (nI k).toNatClampNeg)))).heap = H.setIfInBounds (ad E q1) (vp_cell (E.dA 0) (n1, .inl (va_cpy f g (nI 0).toNatClampNeg (nI 0).toNatClampNeg (nI k).toNatClampNeg))) := by rw [← hT]; rfl
  generalize hcc : vp_cell (E.dA 0) (n1, .inl (va_cpy f g (nI 0).toNatClampNeg (nI 0).toNatClampNeg (nI k).toNatClampNeg)) = cc at X' step hheap
  have oq : ∀ q : Nat, q ≠ ad E q1 → (H.setIfInBounds (ad E q1) cc)[q]? = H[q]? := fun q hq => by simp [Array.getElem?_setIfInBounds, Ne.symm hq]
  have hat : (H.setIfInBounds (ad E q1) cc)[ad E q1]? = some (vp_cell (E.dA 0) (n1, .inl (fun j => if j < k then f j else g j))) := by
    rw [show (H.setIfInBounds (ad E q1) cc)[ad E q1]? = some cc by simp [Array.getElem?_setIfInBounds, hlt], ← hcc]
    refine congrArg some (vpc_ext _ (fun j hj => ?_))
    rw [hz', hk']
    unfold va_cpy
    by_cases hjk : j < k
    · rw [if_pos ⟨Nat.zero_le _, by omega⟩, if_pos hjk]
      congr 1
      omega
    · rw [if_neg (by omega), if_neg hjk]
  obtain ⟨t, a1, b1⟩ := kk (up σ q1 (iA 0 n1 (fun j => if j < k then f j else g j))) (up_self _ _ _) (fun j hj => up_ne _ _ hj) p l e s m args below meth c E _ _ cells slots lsA C (hW.put h1 hg ⟨hat, Nat.zero_lt_two⟩ (by simp) oq) ⟨by simp; exact hS.1, fun q g1 g2 => by
      rw [oq q (fun e => g2 (by rw [e]; exact AE_ad h1))]
      exact hS.2.1 q g1 g2, fun q hq => by
      rcases List.mem_append.mp hq with h | h
      · exact hS.2.2 q h
      · obtain ⟨z, -, hz⟩ := List.mem_map.mp h
        rw [← hz]
        exact AE_ad h1⟩ hL hc hs _ hheap X'
  exact ⟨t, step t a1, b1⟩
set_option maxRecDepth 20000 in
theorem lp_copyE {σ0 : AHp} {e q : Nat} {V V2 : Vs} (he0 : e ≠ 0) (hd : e + 75 ≤ q ∨ q + 75 ≤ e) (h2 : EvR σ0 q V2) (hrd : ∀ k, k < 18 → RdP σ0 (e + 3 + 4 * k) (V.rf k)) (hg0 : σ0 (e + 2) = some (rA 2 18 (ringF e))) (hsd : ∀ k, k < 18 → ∀ m, m < 2 → (V2.rf k).sd m ≤ 1) : ∀ (n k : Nat) (σ : AHp), 18 - k = n → k ≤ 18 → σ e = some (evO e V2.sa V2.ro V2.un V2.tr 0) → σ (e + 1) = some (iA 0 8 (nF V2.ld)) → (∀ i, i < k → RdP σ (e + 3 + 4 * i) (V2.rf i)) → (∀ j, j < e ∨ e + 75 ≤ j ∨ j = e + 2 ∨ (e + 3 + 4 * k ≤ j ∧ j < e + 75) → σ j = σ0 j) → Run M_X0_copy 54 [some (.ref e), some (.ref q), some (.int (nI k))] [] σ 0 0 (fun r' σ => r' = none ∧ EvR σ e (V2.sa, V2.ro, V2.un, V2.tr, 0, V2.ld, V2.rf) ∧ Fr σ0 σ e 75) := by
  intro n
  induction n using Nat.strongRecOn
  rename_i n ih
  intro k σ hm hk hE hl hdone hfr
  have hQ : EvR σ q V2 := h2.kept (fun j h1 h2 => hfr j (by omega))
  obtain ⟨hq0, gE, gl, gg, grd⟩ := id hQ
  have hg := (hfr (e + 2) (by omega)).trans hg0
  refine R_iload_n a_X0_copy_54 rfl ?_
  refine R_bipush (v := nI 18) a_X0_copy_55 rfl ?_
  first | with_reducible refine R_icmp_ge_n a_X0_copy_57 (by omega) (by omega) (fun h57 => ?_) (fun h57 => ?_) | refine R_icmp_ge a_X0_copy_57 (fun h57 => ?_) (fun h57 => ?_)
  · skip
    have hke : k = 18 := by omega
    subst hke
    refine R_vret a_X0_copy_81 rfl ?_
    exact ⟨rfl, ⟨he0, hE, hl, hg, fun k hk => hdone k hk⟩, fun j hj => hfr j (by omega)⟩
  · skip
    have hRP : RdP σ (e + 3 + 4 * k) (V.rf k) := (hrd k (by omega)).kept (fun j h1 h2 => hfr j (by omega))
    obtain ⟨hr0, hR, -⟩ := id hRP
    refine R_aload_n a_X0_copy_60 rfl ?_
    refine R_get a_X0_copy_61 hE rfl ?_
    refine R_iload_n a_X0_copy_64 rfl ?_
    refine R_aald_n a_X0_copy_65 hg (by omega) (by decide) rfl ?_
    refine R_aload_n a_X0_copy_66 rfl ?_
    refine R_get a_X0_copy_67 gE rfl ?_
    refine R_iload_n a_X0_copy_70 rfl ?_
    refine R_aald_n a_X0_copy_71 gg (by omega) (by decide) rfl ?_
    refine R_callVv a_X0_copy_72 hR (ev_Rcopy hRP (grd k (by omega)) (by omega) (hsd k (by omega))) rfl rfl rfl rfl rfl (fun σ hP => ?_)
    obtain ⟨hRk, hfo⟩ := hP
    first | with_reducible refine R_iinc_n (ls' := [_, _, _]) a_X0_copy_75 rfl rfl rfl rfl ?_ | refine R_iinc (ls' := [_, _, _]) a_X0_copy_75 rfl rfl rfl rfl rfl ?_
    refine R_goto a_X0_copy_78 ?_
    refine ih _ (show 18 - (k + 1) < n by omega) (k + 1) σ rfl (by omega) ((hfo _ (by omega)).trans hE) ((hfo _ (by omega)).trans hl) (fun i hi => ?_) (fun j hj => (hfo j (by omega)).trans (hfr j (by omega)))
    by_cases hik : i = k
    · rw [hik]; exact hRk
    · exact (hdone i (by omega)).kept (fun j h1 h2 => hfo j (by omega))

set_option maxRecDepth 20000 in
theorem ev_copyE {σ0 : AHp} {e q : Nat} {V V2 : Vs} (h : EvR σ0 e V) (h2 : EvR σ0 q V2) (hd : e + 75 ≤ q ∨ q + 75 ≤ e) (hsd : ∀ k, k < 18 → ∀ m, m < 2 → (V2.rf k).sd m ≤ 1) : EvW M_X0_copy [.ref e, .ref q] σ0 none (fun σ => EvR σ e (V2.sa, V2.ro, V2.un, V2.tr, 0, V2.ld, V2.rf) ∧ Fr σ0 σ e 75) := by
  obtain ⟨he0, hE, hl, hg, hrd⟩ := h
  obtain ⟨hq0, gE, gl, gg, grd⟩ := id h2
  have hfr : ∀ j, j ≠ e ∧ j ≠ e + 1 → σ0 j = σ0 j := fun _ _ => rfl
  refine Ev.of (ls := [_, _, _]) 1 (by decide) rfl rfl ?_
  refine R_aload_n a_X0_copy_0 rfl ?_
  refine R_aload_n a_X0_copy_1 rfl ?_
  refine R_get a_X0_copy_2 gE rfl ?_
  refine R_putiK (fs' := [_, _, _, _, _, _, _]) a_X0_copy_5 hE rfl rfl (fun σ hE ho => ?_)
  have hl := (ho _ (by omega)).trans hl
  have gE := (ho _ (by omega)).trans gE
  have gl := (ho _ (by omega)).trans gl
  have hfr : ∀ j, j ≠ e ∧ j ≠ e + 1 → σ j = σ0 j := fun j hj => (ho j (by omega)).trans (hfr j hj)
  refine R_aload_n a_X0_copy_8 rfl ?_
  refine R_aload_n a_X0_copy_9 rfl ?_
  refine R_get a_X0_copy_10 gE rfl ?_
  refine R_putiK (fs' := [_, _, _, _, _, _, _]) a_X0_copy_13 hE rfl rfl (fun σ hE ho => ?_)
  have hl := (ho _ (by omega)).trans hl
  have gE := (ho _ (by omega)).trans gE
  have gl := (ho _ (by omega)).trans gl
  have hfr : ∀ j, j ≠ e ∧ j ≠ e + 1 → σ j = σ0 j := fun j hj => (ho j (by omega)).trans (hfr j hj)
  refine R_aload_n a_X0_copy_16 rfl ?_
  refine R_aload_n a_X0_copy_17 rfl ?_
  refine R_get a_X0_copy_18 gE rfl ?_
  refine R_putiK (fs' := [_, _, _, _, _, _, _]) a_X0_copy_21 hE rfl rfl (fun σ hE ho => ?_)
  have hl := (ho _ (by omega)).trans hl
  have gE := (ho _ (by omega)).trans gE
  have gl := (ho _ (by omega)).trans gl
  have hfr : ∀ j, j ≠ e ∧ j ≠ e + 1 → σ j = σ0 j := fun j hj => (ho j (by omega)).trans (hfr j hj)
  refine R_aload_n a_X0_copy_24 rfl ?_
  refine R_aload_n a_X0_copy_25 rfl ?_
  refine R_get a_X0_copy_26 gE rfl ?_
  refine R_putiK (fs' := [_, _, _, _, _, _, _]) a_X0_copy_29 hE rfl rfl (fun σ hE ho => ?_)
  have hl := (ho _ (by omega)).trans hl
  have gE := (ho _ (by omega)).trans gE
  have gl := (ho _ (by omega)).trans gl
  have hfr : ∀ j, j ≠ e ∧ j ≠ e + 1 → σ j = σ0 j := fun j hj => (ho j (by omega)).trans (hfr j hj)
  refine R_aload_n a_X0_copy_32 rfl ?_
  refine R_iconst (v := nI 0) a_X0_copy_33 rfl ?_
  refine R_putiK (fs' := [_, _, _, _, _, _, _]) a_X0_copy_34 hE rfl rfl (fun σ hE ho => ?_)
  have hl := (ho _ (by omega)).trans hl
  have gE := (ho _ (by omega)).trans gE
  have gl := (ho _ (by omega)).trans gl
  have hfr : ∀ j, j ≠ e ∧ j ≠ e + 1 → σ j = σ0 j := fun j hj => (ho j (by omega)).trans (hfr j hj)
  refine R_aload_n a_X0_copy_37 rfl ?_
  refine R_get a_X0_copy_38 gE rfl ?_
  refine R_iconst (v := nI 0) a_X0_copy_41 rfl ?_
  refine R_aload_n a_X0_copy_42 rfl ?_
  refine R_get a_X0_copy_43 hE rfl ?_
  refine R_iconst (v := nI 0) a_X0_copy_46 rfl ?_
  refine R_bipush (v := nI 8) a_X0_copy_47 rfl ?_
  refine R_acopy a_X0_copy_49 ml_X0_90 (by omega) (by omega) gl hl (by decide) (by decide) (by decide) rfl rfl (fun σ hl ho => ?_)
  have hE := (ho _ (by omega)).trans hE
  have hfr : ∀ j, j ≠ e ∧ j ≠ e + 1 → σ j = σ0 j := fun j hj => (ho j (by omega)).trans (hfr j hj)
  refine R_ext (nF V2.ld) (by omega) hl (fun j hj => if_pos hj) (fun σ hl ho => ?_)
  have hE := (ho _ (by omega)).trans hE
  have hfr : ∀ j, j ≠ e ∧ j ≠ e + 1 → σ j = σ0 j := fun j hj => (ho j (by omega)).trans (hfr j hj)
  refine R_iconst (v := nI 0) a_X0_copy_52 rfl ?_
  refine R_istore_n (ls' := [_, _, _]) a_X0_copy_53 rfl rfl rfl ?_
  exact lp_copyE he0 hd h2 hrd hg hsd _ 0 σ rfl (by omega) hE hl (fun i hi => absurd hi (by omega)) (fun j hj => hfr j (by omega))

