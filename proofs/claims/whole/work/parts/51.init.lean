/-! ===== SaltToLiars' constructor ===== -/
def tbL : List Nat := [103, 48, 44, 55, 44, 51, 59, 103, 49, 44, 57, 44, 48, 59, 103, 50, 44, 49, 48, 44, 53, 59, 103, 51, 44, 53, 44, 49, 53, 59, 103, 52, 44, 56, 44, 57, 59, 116, 49, 44, 50, 59, 116, 48, 44, 49, 59, 116, 49, 44, 51, 59, 116, 48, 44, 52, 59, 97, 50, 59]
def tbN (k : Nat) : Nat := tbL.getD k 0
theorem tb_nat : ∀ k, k < 60 → tb0.getD k 0 = nI (tbN k) := by decide +kernel
theorem tb_lt : ∀ k, k < 60 → 32 ≤ tbN k ∧ tbN k < 127 := by decide +kernel
def T0 : Tb := (tA (tT (tT (tT (tT (tG (tG (tG (tG (tG Z0 0 7 3) 1 9 0) 2 10 5) 3 5 15) 4 8 9) 1 2) 0 1) 1 3) 0 4) 2)
abbrev U0 (f : Nat → Nat) : Us := (f, 0, T0, Z0, [], 0, fun _ => [], 0, 0, fun _ => 0, fun _ => 0)
theorem rd0 : rdA (tg tbN 60) 60 200 0 (0, 0, 0, 0, 0, Z0.kd, Z0.hn, Z0.kn, Z0.hf) = (none, T0) := by
  have s0 : rdA (tg tbN 60) 60 200 0 Z0 = rdA (tg tbN 60) 60 199 7 (tG Z0 0 7 3) := by
    rw [show 200 = 199 + 1 from rfl, rd_ri, if_pos (by decide)]
    rfl
  have s7 : rdA (tg tbN 60) 60 199 7 (tG Z0 0 7 3) = rdA (tg tbN 60) 60 198 14 (tG (tG Z0 0 7 3) 1 9 0) := by
    rw [show 199 = 198 + 1 from rfl, rd_ri, if_pos (by decide)]
    rfl
  have s14 : rdA (tg tbN 60) 60 198 14 (tG (tG Z0 0 7 3) 1 9 0) = rdA (tg tbN 60) 60 197 22 (tG (tG (tG Z0 0 7 3) 1 9 0) 2 10 5) := by
    rw [show 198 = 197 + 1 from rfl, rd_ri, if_pos (by decide)]
    rfl
  have s22 : rdA (tg tbN 60) 60 197 22 (tG (tG (tG Z0 0 7 3) 1 9 0) 2 10 5) = rdA (tg tbN 60) 60 196 30 (tG (tG (tG (tG Z0 0 7 3) 1 9 0) 2 10 5) 3 5 15) := by
    rw [show 197 = 196 + 1 from rfl, rd_ri, if_pos (by decide)]
    rfl
  have s30 : rdA (tg tbN 60) 60 196 30 (tG (tG (tG (tG Z0 0 7 3) 1 9 0) 2 10 5) 3 5 15) = rdA (tg tbN 60) 60 195 37 (tG (tG (tG (tG (tG Z0 0 7 3) 1 9 0) 2 10 5) 3 5 15) 4 8 9) := by
    rw [show 196 = 195 + 1 from rfl, rd_ri, if_pos (by decide)]
    rfl
  have s37 : rdA (tg tbN 60) 60 195 37 (tG (tG (tG (tG (tG Z0 0 7 3) 1 9 0) 2 10 5) 3 5 15) 4 8 9) = rdA (tg tbN 60) 60 194 42 (tT (tG (tG (tG (tG (tG Z0 0 7 3) 1 9 0) 2 10 5) 3 5 15) 4 8 9) 1 2) := by
    rw [show 195 = 194 + 1 from rfl, rd_ri, if_pos (by decide)]
    rfl
  have s42 : rdA (tg tbN 60) 60 194 42 (tT (tG (tG (tG (tG (tG Z0 0 7 3) 1 9 0) 2 10 5) 3 5 15) 4 8 9) 1 2) = rdA (tg tbN 60) 60 193 47 (tT (tT (tG (tG (tG (tG (tG Z0 0 7 3) 1 9 0) 2 10 5) 3 5 15) 4 8 9) 1 2) 0 1) := by
    rw [show 194 = 193 + 1 from rfl, rd_ri, if_pos (by decide)]
    rfl
  have s47 : rdA (tg tbN 60) 60 193 47 (tT (tT (tG (tG (tG (tG (tG Z0 0 7 3) 1 9 0) 2 10 5) 3 5 15) 4 8 9) 1 2) 0 1) = rdA (tg tbN 60) 60 192 52 (tT (tT (tT (tG (tG (tG (tG (tG Z0 0 7 3) 1 9 0) 2 10 5) 3 5 15) 4 8 9) 1 2) 0 1) 1 3) := by
    rw [show 193 = 192 + 1 from rfl, rd_ri, if_pos (by decide)]
    rfl
  have s52 : rdA (tg tbN 60) 60 192 52 (tT (tT (tT (tG (tG (tG (tG (tG Z0 0 7 3) 1 9 0) 2 10 5) 3 5 15) 4 8 9) 1 2) 0 1) 1 3) = rdA (tg tbN 60) 60 191 57 (tT (tT (tT (tT (tG (tG (tG (tG (tG Z0 0 7 3) 1 9 0) 2 10 5) 3 5 15) 4 8 9) 1 2) 0 1) 1 3) 0 4) := by
    rw [show 192 = 191 + 1 from rfl, rd_ri, if_pos (by decide)]
    rfl
  have s57 : rdA (tg tbN 60) 60 191 57 (tT (tT (tT (tT (tG (tG (tG (tG (tG Z0 0 7 3) 1 9 0) 2 10 5) 3 5 15) 4 8 9) 1 2) 0 1) 1 3) 0 4) = rdA (tg tbN 60) 60 190 60 (tA (tT (tT (tT (tT (tG (tG (tG (tG (tG Z0 0 7 3) 1 9 0) 2 10 5) 3 5 15) 4 8 9) 1 2) 0 1) 1 3) 0 4) 2) := by
    rw [show 191 = 190 + 1 from rfl, rd_ri, if_pos (by decide)]
    rfl
  show rdA (tg tbN 60) 60 200 0 Z0 = (none, T0)
  rw [s0, s7, s14, s22, s30, s37, s42, s47, s52, s57, rd_end _ _ _ (Nat.le_refl 60)]
  rfl
theorem T0_ok : TbOk T0 := ⟨by decide, by decide, by decide, by decide, by decide, by decide, by decide +kernel, by decide +kernel, by decide +kernel, by decide +kernel, by decide +kernel⟩
theorem U0_ok (f : Nat → Nat) : UOk (U0 f) 0 := by
  refine ⟨Nat.zero_le _, fun j hj => absurd hj (Nat.not_lt_zero j), T0_ok, ?_, Nat.le_refl 0, Nat.zero_le _, Nat.le_refl 0, Nat.zero_le _, fun k hk => absurd hk (Nat.not_lt_zero k), Nat.zero_le _, fun k hk => absurd hk (Nat.not_lt_zero k)⟩
  intro c hc
  have hc : c ∈ ([] : Hs) := hc
  cases hc
theorem RrP.kept {σ σ' : AHp} {nf : Nat → Nat} {pl : Nat} (h : RrP σ nf pl) (hk : ∀ j, 4 ≤ j → j < 6 → σ' j = σ j) : RrP σ' nf pl := ⟨(hk 4 (by omega) (by omega)).trans h.1, (hk 5 (by omega) (by omega)).trans h.2⟩
theorem PcR.kept {σ σ' : AHp} {st : Nat} {fs : Int32} {w tp : Nat → Nat} {f1 f2 : Nat → Int32} {R : Rs} (h : PcR σ st fs w tp f1 f2 R) (hk : ∀ j, 245 ≤ j → j < 254 → σ' j = σ j) : PcR σ' st fs w tp f1 f2 R := by
  obtain ⟨h1, h2, h3, h4, h5, h6⟩ := h
  exact ⟨(hk _ (by omega) (by omega)).trans h1, (hk _ (by omega) (by omega)).trans h2, (hk _ (by omega) (by omega)).trans h3, (hk _ (by omega) (by omega)).trans h4, (hk _ (by omega) (by omega)).trans h5, h6.kept (fun j a b => hk j (by omega) (by omega))⟩
theorem FsP.kept {σ σ' : AHp} {s u : Nat} {R : Rs} (h : FsP σ s u R) (hk : ∀ j, 257 ≤ j → j < 262 → σ' j = σ j) : FsP σ' s u R := ⟨(hk _ (by omega) (by omega)).trans h.1, h.2.kept (fun j a b => hk j (by omega) (by omega))⟩
set_option maxRecDepth 20000 in
theorem lp_text {σ0 : AHp} {kn : Nat} (hO0 : σ0 1 = some (clO 262 267 kn)) {Q : Option Value → AHp → Prop} (hx : ∀ (σ : AHp) (f : Nat → Nat), (∀ j, j < 60 → f j = tbN j) → LtP σ f 60 → (∀ j, j ≠ 2 ∧ j ≠ 3 → σ j = σ0 j) → Run M_X10_init 173 [some (.ref 1), some (.int (nI 60))] [] σ 0 0 Q) : ∀ (n k : Nat) (σ : AHp) (f : Nat → Nat), 60 - k = n → k ≤ 60 → (∀ j, j < k → f j = tbN j) → LtP σ f k → (∀ j, j ≠ 2 ∧ j ≠ 3 → σ j = σ0 j) → Run M_X10_init 144 [some (.ref 1), some (.int (nI k))] [] σ 0 0 Q := by
  intro n
  induction n using Nat.strongRecOn
  rename_i n ih
  intro k σ f hm hk hf hL hfr
  have hO := (hfr 1 (by omega)).trans hO0
  refine R_iload_n a_X10_init_144 rfl ?_
  refine R_ldcS a_X10_init_145 rfl ?_
  refine R_callT t_X10_init_147 ev_slen rfl rfl rfl rfl rfl ?_
  refine R_icmp_ge_n a_X10_init_150 (by omega) (by omega) (fun h150 => ?_) (fun h150 => ?_)
  · have hke : k = 60 := by omega
    subst hke
    exact hx σ f hf hL hfr
  · refine R_aload_n a_X10_init_153 rfl ?_
    refine R_get a_X10_init_154 hO rfl ?_
    refine R_ldcS a_X10_init_157 rfl ?_
    refine R_iload_n a_X10_init_159 rfl ?_
    refine R_callT t_X10_init_160 (ev_sch (show k < 60 by omega)) rfl rfl rfl rfl rfl ?_
    refine R_top (tb_nat k (by omega)) ?_
    refine R_callVs a_X10_init_163 hL.1 (ev_Ladd hL (c := tbN k)) rfl rfl rfl rfl rfl (fun σ2 hP => ?_)
    rw [if_pos (show k < 200 by omega)] at hP
    refine R_pop a_X10_init_166 rfl ?_
    first | with_reducible refine R_iinc_n (ls' := [_, _]) a_X10_init_167 rfl rfl rfl rfl ?_ | refine R_iinc (ls' := [_, _]) a_X10_init_167 rfl rfl rfl rfl rfl ?_
    refine R_goto a_X10_init_170 ?_
    refine ih _ (show 60 - (k + 1) < n by omega) (k + 1) σ2 (uN f k (tbN k)) rfl (by omega) (fun j hj => ?_) hP.1 (fun j hj => (hP.2 j (by omega)).trans (hfr j hj))
    by_cases e : j = k
    · rw [e, uN_self]
    · rw [uN_ne _ _ e]
      exact hf j (by omega)
set_option maxRecDepth 20000 in
theorem ct_X10 {σ0 : AHp} (hO : σ0 1 = some (oB 10 [.null, .null, .null, .null, .null, .null, .null, .null, .null, .null, .null, .int 0])) (hn : ∀ j, 1 < j → σ0 j = none) : EvW M_X10_init [.ref 1] σ0 none (fun σ => (∃ f, CP σ (U0 f)) ∧ (∀ j, j < 1 → σ j = σ0 j) ∧ ∀ j, 271 < j → σ j = none) := by
  refine Ev.of (ls := [_, _]) 1 (by decide) rfl rfl ?_
  have hlo : ∀ j, j < 1 → σ0 j = σ0 j := fun _ _ => rfl
  refine R_aload_n a_X10_init_0 rfl ?_
  refine R_objInit a_X10_init_1 ml_X10_1 im_obj cw_obj rfl rfl ?_
  refine R_aload_n a_X10_init_4 rfl ?_
  refine R_newK (kc := 269) (ks := 1270) (p := 1) 2 a_X10_init_5 rfl rfl rfl (hn _ (by omega)) hO (fun σ hc1 ho => ?_)
  have hO := (ho _ (by omega)).trans hO
  have hlo : ∀ j, j < 1 → σ j = σ0 j := fun j hj => (ho j (by omega)).trans (hlo j hj)
  have hn : ∀ j, 2 < j → σ j = none := fun j hj => (ho j (by omega)).trans (hn j (by omega))
  refine R_dup a_X10_init_8 rfl ?_
  refine R_callIv (kc := 268) (ks := 1070) a_X10_init_9 (ct_X2 hc1 hn) rfl rfl rfl rfl rfl (fun σ hP => ?_)
  obtain ⟨hp1, hl, hn⟩ := hP
  have hO := (hl _ (by omega)).trans hO
  have hlo : ∀ j, j < 1 → σ j = σ0 j := fun j hj => (hl j (by omega)).trans (hlo j hj)
  have hn : ∀ j, 3 < j → σ j = none := fun j hj => hn j (by omega)
  refine R_putaK (fs' := [_, _, _, _, _, _, _, _, _, _, _, _]) a_X10_init_12 hO (fun _ => ⟨rfl, rfl⟩) rfl rfl (fun σ hO ho => ?_)
  have hp1 := hp1.kept (fun j h1 h2 => ho j (by omega))
  have hlo : ∀ j, j < 1 → σ j = σ0 j := fun j hj => (ho j (by omega)).trans (hlo j hj)
  have hn : ∀ j, 3 < j → σ j = none := fun j hj => (ho j (by omega)).trans (hn j (by omega))
  refine R_aload_n a_X10_init_15 rfl ?_
  refine R_newK (kc := 267) (ks := 1068) (p := 3) 4 a_X10_init_16 rfl rfl rfl (hn _ (by omega)) hp1.2.1 (fun σ hc2 ho => ?_)
  have hO := (ho _ (by omega)).trans hO
  have hp1 := hp1.kept (fun j h1 h2 => ho j (by omega))
  have hlo : ∀ j, j < 1 → σ j = σ0 j := fun j hj => (ho j (by omega)).trans (hlo j hj)
  have hn : ∀ j, 4 < j → σ j = none := fun j hj => (ho j (by omega)).trans (hn j (by omega))
  refine R_dup a_X10_init_19 rfl ?_
  refine R_callIv (kc := 266) (ks := 1065) a_X10_init_20 (ct_X5 hc2 hn) rfl rfl rfl rfl rfl (fun σ hP => ?_)
  obtain ⟨hp2, hl, hn⟩ := hP
  have hO := (hl _ (by omega)).trans hO
  have hp1 := hp1.kept (fun j h1 h2 => hl j (by omega))
  have hlo : ∀ j, j < 1 → σ j = σ0 j := fun j hj => (hl j (by omega)).trans (hlo j hj)
  have hn : ∀ j, 5 < j → σ j = none := fun j hj => hn j (by omega)
  refine R_putaK (fs' := [_, _, _, _, _, _, _, _, _, _, _, _]) a_X10_init_23 hO (fun _ => ⟨rfl, rfl⟩) rfl rfl (fun σ hO ho => ?_)
  have hp1 := hp1.kept (fun j h1 h2 => ho j (by omega))
  have hp2 := hp2.kept (fun j h1 h2 => ho j (by omega))
  have hlo : ∀ j, j < 1 → σ j = σ0 j := fun j hj => (ho j (by omega)).trans (hlo j hj)
  have hn : ∀ j, 5 < j → σ j = none := fun j hj => (ho j (by omega)).trans (hn j (by omega))
  refine R_aload_n a_X10_init_26 rfl ?_
  refine R_newK (kc := 265) (ks := 1058) (p := 5) 6 a_X10_init_27 rfl rfl rfl (hn _ (by omega)) hp2.2 (fun σ hc3 ho => ?_)
  have hO := (ho _ (by omega)).trans hO
  have hp1 := hp1.kept (fun j h1 h2 => ho j (by omega))
  have hp2 := hp2.kept (fun j h1 h2 => ho j (by omega))
  have hlo : ∀ j, j < 1 → σ j = σ0 j := fun j hj => (ho j (by omega)).trans (hlo j hj)
  have hn : ∀ j, 6 < j → σ j = none := fun j hj => (ho j (by omega)).trans (hn j (by omega))
  refine R_dup a_X10_init_30 rfl ?_
  refine R_callIv (kc := 191) (ks := 780) a_X10_init_31 (ct_X0 (q := 6) (by decide) hc3 hn) rfl rfl rfl rfl rfl (fun σ hP => ?_)
  obtain ⟨hp3, hl, hn⟩ := hP
  have hO := (hl _ (by omega)).trans hO
  have hp1 := hp1.kept (fun j h1 h2 => hl j (by omega))
  have hp2 := hp2.kept (fun j h1 h2 => hl j (by omega))
  have hlo : ∀ j, j < 1 → σ j = σ0 j := fun j hj => (hl j (by omega)).trans (hlo j hj)
  have hn : ∀ j, 80 < j → σ j = none := fun j hj => hn j (by omega)
  refine R_putaK (fs' := [_, _, _, _, _, _, _, _, _, _, _, _]) a_X10_init_34 hO (fun _ => ⟨rfl, rfl⟩) rfl rfl (fun σ hO ho => ?_)
  have hp1 := hp1.kept (fun j h1 h2 => ho j (by omega))
  have hp2 := hp2.kept (fun j h1 h2 => ho j (by omega))
  have hp3 := hp3.kept (fun j h1 h2 => ho j (by omega))
  have hlo : ∀ j, j < 1 → σ j = σ0 j := fun j hj => (ho j (by omega)).trans (hlo j hj)
  have hn : ∀ j, 80 < j → σ j = none := fun j hj => (ho j (by omega)).trans (hn j (by omega))
  refine R_aload_n a_X10_init_37 rfl ?_
  refine R_iconst (v := nI 2) a_X10_init_38 rfl ?_
  refine R_newrK (t := 3) (N := 2) (kc := 190) (ks := 778) (p := 80) 81 a_X10_init_39 cl_X10_23 (Or.inr ⟨rfl, rfl⟩) rfl rfl rfl (by decide) rfl (hn _ (by omega)) (hp3.2.2.2.2 17 (by decide)).2.2.2.2 (fun σ hc4 ho => ?_)
  have hO := (ho _ (by omega)).trans hO
  have hp1 := hp1.kept (fun j h1 h2 => ho j (by omega))
  have hp2 := hp2.kept (fun j h1 h2 => ho j (by omega))
  have hp3 := hp3.kept (fun j h1 h2 => ho j (by omega))
  have hlo : ∀ j, j < 1 → σ j = σ0 j := fun j hj => (ho j (by omega)).trans (hlo j hj)
  have hn : ∀ j, 81 < j → σ j = none := fun j hj => (ho j (by omega)).trans (hn j (by omega))
  refine R_dup a_X10_init_42 rfl ?_
  refine R_iconst (v := nI 0) a_X10_init_43 rfl ?_
  refine R_newK (kc := 189) (ks := 771) (p := 81) 82 a_X10_init_44 rfl rfl rfl (hn _ (by omega)) hc4 (fun σ hc5 ho => ?_)
  have hO := (ho _ (by omega)).trans hO
  have hp1 := hp1.kept (fun j h1 h2 => ho j (by omega))
  have hp2 := hp2.kept (fun j h1 h2 => ho j (by omega))
  have hp3 := hp3.kept (fun j h1 h2 => ho j (by omega))
  have hc4 := (ho _ (by omega)).trans hc4
  have hlo : ∀ j, j < 1 → σ j = σ0 j := fun j hj => (ho j (by omega)).trans (hlo j hj)
  have hn : ∀ j, 82 < j → σ j = none := fun j hj => (ho j (by omega)).trans (hn j (by omega))
  refine R_dup a_X10_init_47 rfl ?_
  refine R_callIv (kc := 115) (ks := 493) a_X10_init_48 (ct_X0 (q := 82) (by decide) hc5 hn) rfl rfl rfl rfl rfl (fun σ hP => ?_)
  obtain ⟨hp5, hl, hn⟩ := hP
  have hO := (hl _ (by omega)).trans hO
  have hp1 := hp1.kept (fun j h1 h2 => hl j (by omega))
  have hp2 := hp2.kept (fun j h1 h2 => hl j (by omega))
  have hp3 := hp3.kept (fun j h1 h2 => hl j (by omega))
  have hc4 := (hl _ (by omega)).trans hc4
  have hlo : ∀ j, j < 1 → σ j = σ0 j := fun j hj => (hl j (by omega)).trans (hlo j hj)
  have hn : ∀ j, 156 < j → σ j = none := fun j hj => hn j (by omega)
  refine R_aastK (j := 0) a_X10_init_51 hc4 hp5.2.1 (Or.inr ⟨rfl, rfl⟩) (by decide) (by decide) (fun σ hc4 ho => ?_)
  have hO := (ho _ (by omega)).trans hO
  have hp1 := hp1.kept (fun j h1 h2 => ho j (by omega))
  have hp2 := hp2.kept (fun j h1 h2 => ho j (by omega))
  have hp3 := hp3.kept (fun j h1 h2 => ho j (by omega))
  have hp5 := hp5.kept (fun j h1 h2 => ho j (by omega))
  have hlo : ∀ j, j < 1 → σ j = σ0 j := fun j hj => (ho j (by omega)).trans (hlo j hj)
  have hn : ∀ j, 156 < j → σ j = none := fun j hj => (ho j (by omega)).trans (hn j (by omega))
  refine R_dup a_X10_init_52 rfl ?_
  refine R_iconst (v := nI 1) a_X10_init_53 rfl ?_
  refine R_newK (kc := 114) (ks := 486) (p := 156) 157 a_X10_init_54 rfl rfl rfl (hn _ (by omega)) (hp5.2.2.2.2 17 (by decide)).2.2.2.2 (fun σ hc6 ho => ?_)
  have hO := (ho _ (by omega)).trans hO
  have hp1 := hp1.kept (fun j h1 h2 => ho j (by omega))
  have hp2 := hp2.kept (fun j h1 h2 => ho j (by omega))
  have hp3 := hp3.kept (fun j h1 h2 => ho j (by omega))
  have hc4 := (ho _ (by omega)).trans hc4
  have hp5 := hp5.kept (fun j h1 h2 => ho j (by omega))
  have hlo : ∀ j, j < 1 → σ j = σ0 j := fun j hj => (ho j (by omega)).trans (hlo j hj)
  have hn : ∀ j, 157 < j → σ j = none := fun j hj => (ho j (by omega)).trans (hn j (by omega))
  refine R_dup a_X10_init_57 rfl ?_
  refine R_callIv (kc := 40) (ks := 208) a_X10_init_58 (ct_X0 (q := 157) (by decide) hc6 hn) rfl rfl rfl rfl rfl (fun σ hP => ?_)
  obtain ⟨hp6, hl, hn⟩ := hP
  have hO := (hl _ (by omega)).trans hO
  have hp1 := hp1.kept (fun j h1 h2 => hl j (by omega))
  have hp2 := hp2.kept (fun j h1 h2 => hl j (by omega))
  have hp3 := hp3.kept (fun j h1 h2 => hl j (by omega))
  have hc4 := (hl _ (by omega)).trans hc4
  have hp5 := hp5.kept (fun j h1 h2 => hl j (by omega))
  have hlo : ∀ j, j < 1 → σ j = σ0 j := fun j hj => (hl j (by omega)).trans (hlo j hj)
  have hn : ∀ j, 231 < j → σ j = none := fun j hj => hn j (by omega)
  refine R_aastK (j := 1) a_X10_init_61 hc4 hp6.2.1 (Or.inr ⟨rfl, rfl⟩) (by decide) (by decide) (fun σ hc4 ho => ?_)
  have hO := (ho _ (by omega)).trans hO
  have hp1 := hp1.kept (fun j h1 h2 => ho j (by omega))
  have hp2 := hp2.kept (fun j h1 h2 => ho j (by omega))
  have hp3 := hp3.kept (fun j h1 h2 => ho j (by omega))
  have hp5 := hp5.kept (fun j h1 h2 => ho j (by omega))
  have hp6 := hp6.kept (fun j h1 h2 => ho j (by omega))
  have hlo : ∀ j, j < 1 → σ j = σ0 j := fun j hj => (ho j (by omega)).trans (hlo j hj)
  have hn : ∀ j, 231 < j → σ j = none := fun j hj => (ho j (by omega)).trans (hn j (by omega))
  refine R_putaK (fs' := [_, _, _, _, _, _, _, _, _, _, _, _]) a_X10_init_62 hO (fun _ => ⟨rfl, rfl⟩) rfl rfl (fun σ hO ho => ?_)
  have hp1 := hp1.kept (fun j h1 h2 => ho j (by omega))
  have hp2 := hp2.kept (fun j h1 h2 => ho j (by omega))
  have hp3 := hp3.kept (fun j h1 h2 => ho j (by omega))
  have hc4 := (ho _ (by omega)).trans hc4
  have hp5 := hp5.kept (fun j h1 h2 => ho j (by omega))
  have hp6 := hp6.kept (fun j h1 h2 => ho j (by omega))
  have hlo : ∀ j, j < 1 → σ j = σ0 j := fun j hj => (ho j (by omega)).trans (hlo j hj)
  have hn : ∀ j, 231 < j → σ j = none := fun j hj => (ho j (by omega)).trans (hn j (by omega))
  refine R_aload_n a_X10_init_65 rfl ?_
  refine R_newK (kc := 39) (ks := 200) (p := 231) 232 a_X10_init_66 rfl rfl rfl (hn _ (by omega)) (hp6.2.2.2.2 17 (by decide)).2.2.2.2 (fun σ hc7 ho => ?_)
  have hO := (ho _ (by omega)).trans hO
  have hp1 := hp1.kept (fun j h1 h2 => ho j (by omega))
  have hp2 := hp2.kept (fun j h1 h2 => ho j (by omega))
  have hp3 := hp3.kept (fun j h1 h2 => ho j (by omega))
  have hc4 := (ho _ (by omega)).trans hc4
  have hp5 := hp5.kept (fun j h1 h2 => ho j (by omega))
  have hp6 := hp6.kept (fun j h1 h2 => ho j (by omega))
  have hlo : ∀ j, j < 1 → σ j = σ0 j := fun j hj => (ho j (by omega)).trans (hlo j hj)
  have hn : ∀ j, 232 < j → σ j = none := fun j hj => (ho j (by omega)).trans (hn j (by omega))
  refine R_dup a_X10_init_69 rfl ?_
  refine R_callIv (kc := 34) (ks := 180) a_X10_init_70 (ct_X9 hc7 hn) rfl rfl rfl rfl rfl (fun σ hP => ?_)
  obtain ⟨hp7, hl, hn⟩ := hP
  have hO := (hl _ (by omega)).trans hO
  have hp1 := hp1.kept (fun j h1 h2 => hl j (by omega))
  have hp2 := hp2.kept (fun j h1 h2 => hl j (by omega))
  have hp3 := hp3.kept (fun j h1 h2 => hl j (by omega))
  have hc4 := (hl _ (by omega)).trans hc4
  have hp5 := hp5.kept (fun j h1 h2 => hl j (by omega))
  have hp6 := hp6.kept (fun j h1 h2 => hl j (by omega))
  have hlo : ∀ j, j < 1 → σ j = σ0 j := fun j hj => (hl j (by omega)).trans (hlo j hj)
  have hn : ∀ j, 237 < j → σ j = none := fun j hj => hn j (by omega)
  refine R_putaK (fs' := [_, _, _, _, _, _, _, _, _, _, _, _]) a_X10_init_73 hO (fun _ => ⟨rfl, rfl⟩) rfl rfl (fun σ hO ho => ?_)
  have hp1 := hp1.kept (fun j h1 h2 => ho j (by omega))
  have hp2 := hp2.kept (fun j h1 h2 => ho j (by omega))
  have hp3 := hp3.kept (fun j h1 h2 => ho j (by omega))
  have hc4 := (ho _ (by omega)).trans hc4
  have hp5 := hp5.kept (fun j h1 h2 => ho j (by omega))
  have hp6 := hp6.kept (fun j h1 h2 => ho j (by omega))
  have hp7 := hp7.kept (fun j h1 h2 => ho j (by omega))
  have hlo : ∀ j, j < 1 → σ j = σ0 j := fun j hj => (ho j (by omega)).trans (hlo j hj)
  have hn : ∀ j, 237 < j → σ j = none := fun j hj => (ho j (by omega)).trans (hn j (by omega))
  refine R_aload_n a_X10_init_76 rfl ?_
  refine R_newK (kc := 33) (ks := 177) (p := 237) 238 a_X10_init_77 rfl rfl rfl (hn _ (by omega)) hp7.2.2.2.2.2.2 (fun σ hc8 ho => ?_)
  have hO := (ho _ (by omega)).trans hO
  have hp1 := hp1.kept (fun j h1 h2 => ho j (by omega))
  have hp2 := hp2.kept (fun j h1 h2 => ho j (by omega))
  have hp3 := hp3.kept (fun j h1 h2 => ho j (by omega))
  have hc4 := (ho _ (by omega)).trans hc4
  have hp5 := hp5.kept (fun j h1 h2 => ho j (by omega))
  have hp6 := hp6.kept (fun j h1 h2 => ho j (by omega))
  have hp7 := hp7.kept (fun j h1 h2 => ho j (by omega))
  have hlo : ∀ j, j < 1 → σ j = σ0 j := fun j hj => (ho j (by omega)).trans (hlo j hj)
  have hn : ∀ j, 238 < j → σ j = none := fun j hj => (ho j (by omega)).trans (hn j (by omega))
  refine R_dup a_X10_init_80 rfl ?_
  refine R_callIv (kc := 27) (ks := 147) a_X10_init_81 (ct_X4 hc8 hn) rfl rfl rfl rfl rfl (fun σ hP => ?_)
  obtain ⟨hp8, hl, hn⟩ := hP
  have hO := (hl _ (by omega)).trans hO
  have hp1 := hp1.kept (fun j h1 h2 => hl j (by omega))
  have hp2 := hp2.kept (fun j h1 h2 => hl j (by omega))
  have hp3 := hp3.kept (fun j h1 h2 => hl j (by omega))
  have hc4 := (hl _ (by omega)).trans hc4
  have hp5 := hp5.kept (fun j h1 h2 => hl j (by omega))
  have hp6 := hp6.kept (fun j h1 h2 => hl j (by omega))
  have hp7 := hp7.kept (fun j h1 h2 => hl j (by omega))
  have hlo : ∀ j, j < 1 → σ j = σ0 j := fun j hj => (hl j (by omega)).trans (hlo j hj)
  have hn : ∀ j, 244 < j → σ j = none := fun j hj => hn j (by omega)
  refine R_putaK (fs' := [_, _, _, _, _, _, _, _, _, _, _, _]) a_X10_init_84 hO (fun _ => ⟨rfl, rfl⟩) rfl rfl (fun σ hO ho => ?_)
  have hp1 := hp1.kept (fun j h1 h2 => ho j (by omega))
  have hp2 := hp2.kept (fun j h1 h2 => ho j (by omega))
  have hp3 := hp3.kept (fun j h1 h2 => ho j (by omega))
  have hc4 := (ho _ (by omega)).trans hc4
  have hp5 := hp5.kept (fun j h1 h2 => ho j (by omega))
  have hp6 := hp6.kept (fun j h1 h2 => ho j (by omega))
  have hp7 := hp7.kept (fun j h1 h2 => ho j (by omega))
  have hp8 := hp8.kept (fun j h1 h2 => ho j (by omega))
  have hlo : ∀ j, j < 1 → σ j = σ0 j := fun j hj => (ho j (by omega)).trans (hlo j hj)
  have hn : ∀ j, 244 < j → σ j = none := fun j hj => (ho j (by omega)).trans (hn j (by omega))
  refine R_aload_n a_X10_init_87 rfl ?_
  refine R_newK (kc := 26) (ks := 140) (p := 244) 245 a_X10_init_88 rfl rfl rfl (hn _ (by omega)) hp8.2.2.2.1.2.2.2.2 (fun σ hc9 ho => ?_)
  have hO := (ho _ (by omega)).trans hO
  have hp1 := hp1.kept (fun j h1 h2 => ho j (by omega))
  have hp2 := hp2.kept (fun j h1 h2 => ho j (by omega))
  have hp3 := hp3.kept (fun j h1 h2 => ho j (by omega))
  have hc4 := (ho _ (by omega)).trans hc4
  have hp5 := hp5.kept (fun j h1 h2 => ho j (by omega))
  have hp6 := hp6.kept (fun j h1 h2 => ho j (by omega))
  have hp7 := hp7.kept (fun j h1 h2 => ho j (by omega))
  have hp8 := hp8.kept (fun j h1 h2 => ho j (by omega))
  have hlo : ∀ j, j < 1 → σ j = σ0 j := fun j hj => (ho j (by omega)).trans (hlo j hj)
  have hn : ∀ j, 245 < j → σ j = none := fun j hj => (ho j (by omega)).trans (hn j (by omega))
  refine R_dup a_X10_init_91 rfl ?_
  refine R_callIv (kc := 18) (ks := 114) a_X10_init_92 (ct_X3 hc9 hn) rfl rfl rfl rfl rfl (fun σ hP => ?_)
  obtain ⟨hp9, hl, hn⟩ := hP
  have hO := (hl _ (by omega)).trans hO
  have hp1 := hp1.kept (fun j h1 h2 => hl j (by omega))
  have hp2 := hp2.kept (fun j h1 h2 => hl j (by omega))
  have hp3 := hp3.kept (fun j h1 h2 => hl j (by omega))
  have hc4 := (hl _ (by omega)).trans hc4
  have hp5 := hp5.kept (fun j h1 h2 => hl j (by omega))
  have hp6 := hp6.kept (fun j h1 h2 => hl j (by omega))
  have hp7 := hp7.kept (fun j h1 h2 => hl j (by omega))
  have hp8 := hp8.kept (fun j h1 h2 => hl j (by omega))
  have hlo : ∀ j, j < 1 → σ j = σ0 j := fun j hj => (hl j (by omega)).trans (hlo j hj)
  have hn : ∀ j, 253 < j → σ j = none := fun j hj => hn j (by omega)
  refine R_putaK (fs' := [_, _, _, _, _, _, _, _, _, _, _, _]) a_X10_init_95 hO (fun _ => ⟨rfl, rfl⟩) rfl rfl (fun σ hO ho => ?_)
  have hp1 := hp1.kept (fun j h1 h2 => ho j (by omega))
  have hp2 := hp2.kept (fun j h1 h2 => ho j (by omega))
  have hp3 := hp3.kept (fun j h1 h2 => ho j (by omega))
  have hc4 := (ho _ (by omega)).trans hc4
  have hp5 := hp5.kept (fun j h1 h2 => ho j (by omega))
  have hp6 := hp6.kept (fun j h1 h2 => ho j (by omega))
  have hp7 := hp7.kept (fun j h1 h2 => ho j (by omega))
  have hp8 := hp8.kept (fun j h1 h2 => ho j (by omega))
  have hp9 := hp9.kept (fun j h1 h2 => ho j (by omega))
  have hlo : ∀ j, j < 1 → σ j = σ0 j := fun j hj => (ho j (by omega)).trans (hlo j hj)
  have hn : ∀ j, 253 < j → σ j = none := fun j hj => (ho j (by omega)).trans (hn j (by omega))
  refine R_aload_n a_X10_init_98 rfl ?_
  refine R_newK (kc := 17) (ks := 111) (p := 253) 254 a_X10_init_99 rfl rfl rfl (hn _ (by omega)) hp9.2.2.2.2.2.2.2.2.2 (fun σ hc10 ho => ?_)
  have hO := (ho _ (by omega)).trans hO
  have hp1 := hp1.kept (fun j h1 h2 => ho j (by omega))
  have hp2 := hp2.kept (fun j h1 h2 => ho j (by omega))
  have hp3 := hp3.kept (fun j h1 h2 => ho j (by omega))
  have hc4 := (ho _ (by omega)).trans hc4
  have hp5 := hp5.kept (fun j h1 h2 => ho j (by omega))
  have hp6 := hp6.kept (fun j h1 h2 => ho j (by omega))
  have hp7 := hp7.kept (fun j h1 h2 => ho j (by omega))
  have hp8 := hp8.kept (fun j h1 h2 => ho j (by omega))
  have hp9 := hp9.kept (fun j h1 h2 => ho j (by omega))
  have hlo : ∀ j, j < 1 → σ j = σ0 j := fun j hj => (ho j (by omega)).trans (hlo j hj)
  have hn : ∀ j, 254 < j → σ j = none := fun j hj => (ho j (by omega)).trans (hn j (by omega))
  refine R_dup a_X10_init_102 rfl ?_
  refine R_callIv (kc := 15) (ks := 95) a_X10_init_103 (ct_X7 hc10 hn) rfl rfl rfl rfl rfl (fun σ hP => ?_)
  obtain ⟨hp10, hl, hn⟩ := hP
  have hO := (hl _ (by omega)).trans hO
  have hp1 := hp1.kept (fun j h1 h2 => hl j (by omega))
  have hp2 := hp2.kept (fun j h1 h2 => hl j (by omega))
  have hp3 := hp3.kept (fun j h1 h2 => hl j (by omega))
  have hc4 := (hl _ (by omega)).trans hc4
  have hp5 := hp5.kept (fun j h1 h2 => hl j (by omega))
  have hp6 := hp6.kept (fun j h1 h2 => hl j (by omega))
  have hp7 := hp7.kept (fun j h1 h2 => hl j (by omega))
  have hp8 := hp8.kept (fun j h1 h2 => hl j (by omega))
  have hp9 := hp9.kept (fun j h1 h2 => hl j (by omega))
  have hlo : ∀ j, j < 1 → σ j = σ0 j := fun j hj => (hl j (by omega)).trans (hlo j hj)
  have hn : ∀ j, 256 < j → σ j = none := fun j hj => hn j (by omega)
  refine R_putaK (fs' := [_, _, _, _, _, _, _, _, _, _, _, _]) a_X10_init_106 hO (fun _ => ⟨rfl, rfl⟩) rfl rfl (fun σ hO ho => ?_)
  have hp1 := hp1.kept (fun j h1 h2 => ho j (by omega))
  have hp2 := hp2.kept (fun j h1 h2 => ho j (by omega))
  have hp3 := hp3.kept (fun j h1 h2 => ho j (by omega))
  have hc4 := (ho _ (by omega)).trans hc4
  have hp5 := hp5.kept (fun j h1 h2 => ho j (by omega))
  have hp6 := hp6.kept (fun j h1 h2 => ho j (by omega))
  have hp7 := hp7.kept (fun j h1 h2 => ho j (by omega))
  have hp8 := hp8.kept (fun j h1 h2 => ho j (by omega))
  have hp9 := hp9.kept (fun j h1 h2 => ho j (by omega))
  have hp10 := hp10.kept (fun j h1 h2 => ho j (by omega))
  have hlo : ∀ j, j < 1 → σ j = σ0 j := fun j hj => (ho j (by omega)).trans (hlo j hj)
  have hn : ∀ j, 256 < j → σ j = none := fun j hj => (ho j (by omega)).trans (hn j (by omega))
  refine R_aload_n a_X10_init_109 rfl ?_
  refine R_newK (kc := 14) (ks := 92) (p := 256) 257 a_X10_init_110 rfl rfl rfl (hn _ (by omega)) hp10.2.2.1 (fun σ hc11 ho => ?_)
  have hO := (ho _ (by omega)).trans hO
  have hp1 := hp1.kept (fun j h1 h2 => ho j (by omega))
  have hp2 := hp2.kept (fun j h1 h2 => ho j (by omega))
  have hp3 := hp3.kept (fun j h1 h2 => ho j (by omega))
  have hc4 := (ho _ (by omega)).trans hc4
  have hp5 := hp5.kept (fun j h1 h2 => ho j (by omega))
  have hp6 := hp6.kept (fun j h1 h2 => ho j (by omega))
  have hp7 := hp7.kept (fun j h1 h2 => ho j (by omega))
  have hp8 := hp8.kept (fun j h1 h2 => ho j (by omega))
  have hp9 := hp9.kept (fun j h1 h2 => ho j (by omega))
  have hp10 := hp10.kept (fun j h1 h2 => ho j (by omega))
  have hlo : ∀ j, j < 1 → σ j = σ0 j := fun j hj => (ho j (by omega)).trans (hlo j hj)
  have hn : ∀ j, 257 < j → σ j = none := fun j hj => (ho j (by omega)).trans (hn j (by omega))
  refine R_dup a_X10_init_113 rfl ?_
  refine R_callIv (kc := 10) (ks := 78) a_X10_init_114 (ct_X1 hc11 hn) rfl rfl rfl rfl rfl (fun σ hP => ?_)
  obtain ⟨hp11, hl, hn⟩ := hP
  have hO := (hl _ (by omega)).trans hO
  have hp1 := hp1.kept (fun j h1 h2 => hl j (by omega))
  have hp2 := hp2.kept (fun j h1 h2 => hl j (by omega))
  have hp3 := hp3.kept (fun j h1 h2 => hl j (by omega))
  have hc4 := (hl _ (by omega)).trans hc4
  have hp5 := hp5.kept (fun j h1 h2 => hl j (by omega))
  have hp6 := hp6.kept (fun j h1 h2 => hl j (by omega))
  have hp7 := hp7.kept (fun j h1 h2 => hl j (by omega))
  have hp8 := hp8.kept (fun j h1 h2 => hl j (by omega))
  have hp9 := hp9.kept (fun j h1 h2 => hl j (by omega))
  have hp10 := hp10.kept (fun j h1 h2 => hl j (by omega))
  have hlo : ∀ j, j < 1 → σ j = σ0 j := fun j hj => (hl j (by omega)).trans (hlo j hj)
  have hn : ∀ j, 261 < j → σ j = none := fun j hj => hn j (by omega)
  refine R_putaK (fs' := [_, _, _, _, _, _, _, _, _, _, _, _]) a_X10_init_117 hO (fun _ => ⟨rfl, rfl⟩) rfl rfl (fun σ hO ho => ?_)
  have hp1 := hp1.kept (fun j h1 h2 => ho j (by omega))
  have hp2 := hp2.kept (fun j h1 h2 => ho j (by omega))
  have hp3 := hp3.kept (fun j h1 h2 => ho j (by omega))
  have hc4 := (ho _ (by omega)).trans hc4
  have hp5 := hp5.kept (fun j h1 h2 => ho j (by omega))
  have hp6 := hp6.kept (fun j h1 h2 => ho j (by omega))
  have hp7 := hp7.kept (fun j h1 h2 => ho j (by omega))
  have hp8 := hp8.kept (fun j h1 h2 => ho j (by omega))
  have hp9 := hp9.kept (fun j h1 h2 => ho j (by omega))
  have hp10 := hp10.kept (fun j h1 h2 => ho j (by omega))
  have hp11 := hp11.kept (fun j h1 h2 => ho j (by omega))
  have hlo : ∀ j, j < 1 → σ j = σ0 j := fun j hj => (ho j (by omega)).trans (hlo j hj)
  have hn : ∀ j, 261 < j → σ j = none := fun j hj => (ho j (by omega)).trans (hn j (by omega))
  refine R_aload_n a_X10_init_120 rfl ?_
  refine R_newK (kc := 9) (ks := 69) (p := 261) 262 a_X10_init_121 rfl rfl rfl (hn _ (by omega)) hp11.2.2.2.2.2 (fun σ hc12 ho => ?_)
  have hO := (ho _ (by omega)).trans hO
  have hp1 := hp1.kept (fun j h1 h2 => ho j (by omega))
  have hp2 := hp2.kept (fun j h1 h2 => ho j (by omega))
  have hp3 := hp3.kept (fun j h1 h2 => ho j (by omega))
  have hc4 := (ho _ (by omega)).trans hc4
  have hp5 := hp5.kept (fun j h1 h2 => ho j (by omega))
  have hp6 := hp6.kept (fun j h1 h2 => ho j (by omega))
  have hp7 := hp7.kept (fun j h1 h2 => ho j (by omega))
  have hp8 := hp8.kept (fun j h1 h2 => ho j (by omega))
  have hp9 := hp9.kept (fun j h1 h2 => ho j (by omega))
  have hp10 := hp10.kept (fun j h1 h2 => ho j (by omega))
  have hp11 := hp11.kept (fun j h1 h2 => ho j (by omega))
  have hlo : ∀ j, j < 1 → σ j = σ0 j := fun j hj => (ho j (by omega)).trans (hlo j hj)
  have hn : ∀ j, 262 < j → σ j = none := fun j hj => (ho j (by omega)).trans (hn j (by omega))
  refine R_dup a_X10_init_124 rfl ?_
  refine R_callIv (kc := 5) (ks := 39) a_X10_init_125 (ct_X8 (q := 262) (by decide) hc12 hn) rfl rfl rfl rfl rfl (fun σ hP => ?_)
  obtain ⟨hp12, hl, hn⟩ := hP
  have hO := (hl _ (by omega)).trans hO
  have hp1 := hp1.kept (fun j h1 h2 => hl j (by omega))
  have hp2 := hp2.kept (fun j h1 h2 => hl j (by omega))
  have hp3 := hp3.kept (fun j h1 h2 => hl j (by omega))
  have hc4 := (hl _ (by omega)).trans hc4
  have hp5 := hp5.kept (fun j h1 h2 => hl j (by omega))
  have hp6 := hp6.kept (fun j h1 h2 => hl j (by omega))
  have hp7 := hp7.kept (fun j h1 h2 => hl j (by omega))
  have hp8 := hp8.kept (fun j h1 h2 => hl j (by omega))
  have hp9 := hp9.kept (fun j h1 h2 => hl j (by omega))
  have hp10 := hp10.kept (fun j h1 h2 => hl j (by omega))
  have hp11 := hp11.kept (fun j h1 h2 => hl j (by omega))
  have hlo : ∀ j, j < 1 → σ j = σ0 j := fun j hj => (hl j (by omega)).trans (hlo j hj)
  have hn : ∀ j, 266 < j → σ j = none := fun j hj => hn j (by omega)
  refine R_putaK (fs' := [_, _, _, _, _, _, _, _, _, _, _, _]) a_X10_init_128 hO (fun _ => ⟨rfl, rfl⟩) rfl rfl (fun σ hO ho => ?_)
  have hp1 := hp1.kept (fun j h1 h2 => ho j (by omega))
  have hp2 := hp2.kept (fun j h1 h2 => ho j (by omega))
  have hp3 := hp3.kept (fun j h1 h2 => ho j (by omega))
  have hc4 := (ho _ (by omega)).trans hc4
  have hp5 := hp5.kept (fun j h1 h2 => ho j (by omega))
  have hp6 := hp6.kept (fun j h1 h2 => ho j (by omega))
  have hp7 := hp7.kept (fun j h1 h2 => ho j (by omega))
  have hp8 := hp8.kept (fun j h1 h2 => ho j (by omega))
  have hp9 := hp9.kept (fun j h1 h2 => ho j (by omega))
  have hp10 := hp10.kept (fun j h1 h2 => ho j (by omega))
  have hp11 := hp11.kept (fun j h1 h2 => ho j (by omega))
  have hp12 := hp12.kept (fun j h1 h2 => ho j (by omega))
  have hlo : ∀ j, j < 1 → σ j = σ0 j := fun j hj => (ho j (by omega)).trans (hlo j hj)
  have hn : ∀ j, 266 < j → σ j = none := fun j hj => (ho j (by omega)).trans (hn j (by omega))
  refine R_aload_n a_X10_init_131 rfl ?_
  refine R_newK (kc := 4) (ks := 30) (p := 266) 267 a_X10_init_132 rfl rfl rfl (hn _ (by omega)) hp12.2.2.2.2.2 (fun σ hc13 ho => ?_)
  have hO := (ho _ (by omega)).trans hO
  have hp1 := hp1.kept (fun j h1 h2 => ho j (by omega))
  have hp2 := hp2.kept (fun j h1 h2 => ho j (by omega))
  have hp3 := hp3.kept (fun j h1 h2 => ho j (by omega))
  have hc4 := (ho _ (by omega)).trans hc4
  have hp5 := hp5.kept (fun j h1 h2 => ho j (by omega))
  have hp6 := hp6.kept (fun j h1 h2 => ho j (by omega))
  have hp7 := hp7.kept (fun j h1 h2 => ho j (by omega))
  have hp8 := hp8.kept (fun j h1 h2 => ho j (by omega))
  have hp9 := hp9.kept (fun j h1 h2 => ho j (by omega))
  have hp10 := hp10.kept (fun j h1 h2 => ho j (by omega))
  have hp11 := hp11.kept (fun j h1 h2 => ho j (by omega))
  have hp12 := hp12.kept (fun j h1 h2 => ho j (by omega))
  have hlo : ∀ j, j < 1 → σ j = σ0 j := fun j hj => (ho j (by omega)).trans (hlo j hj)
  have hn : ∀ j, 267 < j → σ j = none := fun j hj => (ho j (by omega)).trans (hn j (by omega))
  refine R_dup a_X10_init_135 rfl ?_
  refine R_callIv (kc := 0) (ks := 0) a_X10_init_136 (ct_X8 (q := 267) (by decide) hc13 hn) rfl rfl rfl rfl rfl (fun σ hP => ?_)
  obtain ⟨hp13, hl, hn⟩ := hP
  have hO := (hl _ (by omega)).trans hO
  have hp1 := hp1.kept (fun j h1 h2 => hl j (by omega))
  have hp2 := hp2.kept (fun j h1 h2 => hl j (by omega))
  have hp3 := hp3.kept (fun j h1 h2 => hl j (by omega))
  have hc4 := (hl _ (by omega)).trans hc4
  have hp5 := hp5.kept (fun j h1 h2 => hl j (by omega))
  have hp6 := hp6.kept (fun j h1 h2 => hl j (by omega))
  have hp7 := hp7.kept (fun j h1 h2 => hl j (by omega))
  have hp8 := hp8.kept (fun j h1 h2 => hl j (by omega))
  have hp9 := hp9.kept (fun j h1 h2 => hl j (by omega))
  have hp10 := hp10.kept (fun j h1 h2 => hl j (by omega))
  have hp11 := hp11.kept (fun j h1 h2 => hl j (by omega))
  have hp12 := hp12.kept (fun j h1 h2 => hl j (by omega))
  have hlo : ∀ j, j < 1 → σ j = σ0 j := fun j hj => (hl j (by omega)).trans (hlo j hj)
  have hn : ∀ j, 271 < j → σ j = none := fun j hj => hn j (by omega)
  refine R_putaK (fs' := [_, _, _, _, _, _, _, _, _, _, _, _]) a_X10_init_139 hO (fun _ => ⟨rfl, rfl⟩) rfl rfl (fun σ hO ho => ?_)
  have hp1 := hp1.kept (fun j h1 h2 => ho j (by omega))
  have hp2 := hp2.kept (fun j h1 h2 => ho j (by omega))
  have hp3 := hp3.kept (fun j h1 h2 => ho j (by omega))
  have hc4 := (ho _ (by omega)).trans hc4
  have hp5 := hp5.kept (fun j h1 h2 => ho j (by omega))
  have hp6 := hp6.kept (fun j h1 h2 => ho j (by omega))
  have hp7 := hp7.kept (fun j h1 h2 => ho j (by omega))
  have hp8 := hp8.kept (fun j h1 h2 => ho j (by omega))
  have hp9 := hp9.kept (fun j h1 h2 => ho j (by omega))
  have hp10 := hp10.kept (fun j h1 h2 => ho j (by omega))
  have hp11 := hp11.kept (fun j h1 h2 => ho j (by omega))
  have hp12 := hp12.kept (fun j h1 h2 => ho j (by omega))
  have hp13 := hp13.kept (fun j h1 h2 => ho j (by omega))
  have hlo : ∀ j, j < 1 → σ j = σ0 j := fun j hj => (ho j (by omega)).trans (hlo j hj)
  have hn : ∀ j, 271 < j → σ j = none := fun j hj => (ho j (by omega)).trans (hn j (by omega))
  refine R_iconst (v := nI 0) a_X10_init_142 rfl ?_
  refine R_istore_n (ls' := [_, _]) a_X10_init_143 rfl rfl rfl ?_
  refine lp_text (kn := 0) hO (fun σ1 f hf hL hfr => ?_) _ 0 σ (fun _ => 0) rfl (Nat.zero_le _) (fun j hj => absurd hj (Nat.not_lt_zero j)) hp1 (fun _ _ => rfl)
  have htg : tg f 60 = tg tbN 60 := by
    funext j
    unfold tg
    by_cases e : j < 60
    · rw [if_pos e, if_pos e, hf j e]
    · rw [if_neg e, if_neg e]
  have hO := (hfr 1 (by omega)).trans hO
  have hp2 := hp2.kept (fun j h1 h2 => hfr j (by omega))
  have hp13 := hp13.kept (fun j h1 h2 => hfr j (by omega))
  refine R_aload_n a_X10_init_173 rfl ?_
  refine R_get a_X10_init_174 hO rfl ?_
  refine R_aload_n a_X10_init_177 rfl ?_
  refine R_get a_X10_init_178 hO rfl ?_
  refine R_aload_n a_X10_init_181 rfl ?_
  refine R_get a_X10_init_182 hO rfl ?_
  refine R_callVs a_X10_init_185 hp2.1 (ev_read hL (fun j hj => by rw [hf j hj]; exact (tb_lt j hj).2) hp2 hp13 (by decide)) rfl rfl rfl rfl rfl (fun σ2 hP => ?_)
  obtain ⟨hT2, ⟨nf2, pl2, hRr⟩, hf2⟩ := hP
  rw [htg, rd0] at hT2
  have hT2 : TbP σ2 267 T0 := hT2
  have hk2 : ∀ j, (j < 4 ∨ 6 ≤ j) ∧ (j < 267 ∨ 267 + 5 ≤ j) ∧ j ≠ 2 ∧ j ≠ 3 → σ2 j = σ j := fun j hj => (hf2 j ⟨hj.1, hj.2.1⟩).trans (hfr j hj.2.2)
  have hO := (hf2 1 (by omega)).trans hO
  have hL2 : LtP σ2 f 60 := hL.kept (fun j h1 h2 => hf2 j (by omega))
  have hp3 := hp3.kept (fun j h1 h2 => hk2 j (by omega))
  have hc4 := (hk2 81 (by omega)).trans hc4
  have hp5 := hp5.kept (fun j h1 h2 => hk2 j (by omega))
  have hp6 := hp6.kept (fun j h1 h2 => hk2 j (by omega))
  have hp7 := hp7.kept (fun j h1 h2 => hk2 j (by omega))
  have hp8 := hp8.kept (fun j h1 h2 => hk2 j (by omega))
  have hp9 := hp9.kept (fun j h1 h2 => hk2 j (by omega))
  have hp10 := hp10.kept (fun j h1 h2 => hk2 j (by omega))
  have hp11 := hp11.kept (fun j h1 h2 => hk2 j (by omega))
  have hp12 := hp12.kept (fun j h1 h2 => hk2 j (by omega))
  refine R_pop a_X10_init_188 rfl ?_
  refine R_aload_n a_X10_init_189 rfl ?_
  refine R_extr (fun k => some (82 + 75 * k)) hc4 (fun j hj => ?_) (fun σ3 hc4 ho3 => ?_)
  · rcases (show j = 0 ∨ j = 1 by omega) with rfl | rfl
    · rfl
    · rfl
  have hO := (ho3 1 (by omega)).trans hO
  have hL3 : LtP σ3 f 60 := hL2.kept (fun j h1 h2 => ho3 j (by omega))
  have hRr : RrP σ3 nf2 pl2 := hRr.kept (fun j h1 h2 => ho3 j (by omega))
  have hT2 := hT2.kept (fun j h1 h2 => ho3 j (by omega))
  have hp3 := hp3.kept (fun j h1 h2 => ho3 j (by omega))
  have hp5 := hp5.kept (fun j h1 h2 => ho3 j (by omega))
  have hp6 := hp6.kept (fun j h1 h2 => ho3 j (by omega))
  have hp7 := hp7.kept (fun j h1 h2 => ho3 j (by omega))
  have hp8 := hp8.kept (fun j h1 h2 => ho3 j (by omega))
  have hp9 := hp9.kept (fun j h1 h2 => ho3 j (by omega))
  have hp10 := hp10.kept (fun j h1 h2 => ho3 j (by omega))
  have hp11 := hp11.kept (fun j h1 h2 => ho3 j (by omega))
  have hp12 := hp12.kept (fun j h1 h2 => ho3 j (by omega))
  have hK : CK σ3 Z0 (fun _ => []) 0 := by
    refine ⟨hc4, fun k hk => ?_⟩
    rcases (show k = 0 ∨ k = 1 by omega) with rfl | rfl
    · exact ⟨V0, hp5, fun j _ m _ => Nat.zero_le 1, fun h => absurd h (Nat.not_lt_zero _)⟩
    · exact ⟨V0, hp6, fun j _ m _ => Nat.zero_le 1, fun h => absurd h (Nat.not_lt_zero _)⟩
  refine R_callVv a_X10_init_190 hO (cl_takeDraft (t := 262) (d := 267) (kn := 0) (D := T0) (Or.inl ⟨rfl, rfl⟩) hO hp3 hp10 hp12 hT2 (by decide)) rfl rfl rfl rfl rfl (fun σ4 hP => ?_)
  obtain ⟨hO4, hE4, hS4, hf4⟩ := hP
  have hC := CP.lay (U := (f, 60, Z0, T0, [], 0, fun _ => [], 0, 0, fun _ => 0, fun _ => 0)) (t := 262) (d := 267) (D := T0) (V := V0) (Or.inl ⟨rfl, rfl⟩) (fun k _ m _ => Nat.zero_le 1) hL3 ⟨_, _, hRr⟩ hK ⟨_, _, _, _, _, _, _, _, hp7⟩ ⟨_, _, _, _, _, hp8⟩ ⟨_, _, _, _, _, _, _, hp9⟩ ⟨_, _, _, hp11⟩ hp12 hT2 hO4 hE4 hS4 hf4
  have hL4 : LtP σ4 f 60 := hL3.kept (fun j h1 h2 => hf4 j (by omega))
  refine R_aload_n a_X10_init_193 rfl ?_
  refine R_get a_X10_init_194 hO4 rfl ?_
  refine R_callVv a_X10_init_197 hL4.1 (ev_Lclear hL4) rfl rfl rfl rfl rfl (fun σ5 hP => ?_)
  obtain ⟨hL5, hf5⟩ := hP
  refine R_vret a_X10_init_200 rfl ?_
  have hall : ∀ j, (j < 1 ∨ 271 < j) → σ5 j = σ j := fun j hj => (hf5 j (by omega)).trans ((hf4 j (by omega)).trans ((ho3 j (by omega)).trans (hk2 j (by omega))))
  exact ⟨rfl, ⟨f, hC.ofL hL5 (fun j hj => hf5 j hj)⟩, fun j hj => (hall j (Or.inl hj)).trans (hlo j hj), fun j hj => (hall j (Or.inr hj)).trans (hn j (by omega))⟩
