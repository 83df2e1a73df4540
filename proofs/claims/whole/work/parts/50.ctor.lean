/-! ===== CONSTRUCTORS ===== -/
theorem R_newK {M : MI} {pc nx : Nat} {ls : List (Option Value)} {st : List Value} {σ : AHp} {Q : Option Value → AHp → Prop} {kc ks kc0 ks0 ci N p : Nat} {fs : List Value} {c : ACell} (q : Nat) (h : NF M pc ci N fs nx) (hkc : kc + 1 = kc0) (hks : ks + N = ks0) (hpq : p + 1 = q) (hn : σ q = none) (hp : σ p = some c) (kk : ∀ σ2 : AHp, σ2 q = some (oB ci fs) → (∀ j, j ≠ q → σ2 j = σ j) → Run M nx ls (.ref q :: st) σ2 kc ks Q) : Run M pc ls st σ kc0 ks0 Q := by
  subst hkc hks hpq
  exact R_new (p + 1) h (by omega) hn (Or.inr ⟨c, hp⟩) (kk _ (up_self _ _ _) (fun j hj => up_ne _ _ hj))
theorem R_newiK {M : MI} {pc nx : Nat} {ls : List (Option Value)} {st : List Value} {σ : AHp} {Q : Option Value → AHp → Prop} {kc ks kc0 ks0 N p : Nat} {n : Int32} {c : ACell} (q : Nat) (h : At M pc (.newarray .int) 2 nx) (hN : n = nI N) (hkc : kc + 1 = kc0) (hks : ks + N = ks0) (hb : N < 100000) (hpq : p + 1 = q) (hn : σ q = none) (hp : σ p = some c) (kk : ∀ σ2 : AHp, σ2 q = some (iA 0 N (nF (fun _ => 0))) → (∀ j, j ≠ q → σ2 j = σ j) → Run M nx ls (.ref q :: st) σ2 kc ks Q) : Run M pc ls (.int n :: st) σ kc0 ks0 Q := by
  subst hkc hks hpq
  exact R_newi (p + 1) h hN hb (by omega) hn (Or.inr ⟨c, hp⟩) (kk _ (up_self _ _ _) (fun j hj => up_ne _ _ hj)) arr_int
theorem R_newzK {M : MI} {pc nx : Nat} {ls : List (Option Value)} {st : List Value} {σ : AHp} {Q : Option Value → AHp → Prop} {kc ks kc0 ks0 N p : Nat} {n : Int32} {c : ACell} (q : Nat) (h : At M pc (.newarray .boolean) 2 nx) (hN : n = nI N) (hkc : kc + 1 = kc0) (hks : ks + N = ks0) (hb : N < 100000) (hpq : p + 1 = q) (hn : σ q = none) (hp : σ p = some c) (kk : ∀ σ2 : AHp, σ2 q = some (iA 1 N (nF (fun _ => 0))) → (∀ j, j ≠ q → σ2 j = σ j) → Run M nx ls (.ref q :: st) σ2 kc ks Q) : Run M pc ls (.int n :: st) σ kc0 ks0 Q := by
  subst hkc hks hpq
  exact R_newz (p + 1) h hN hb (by omega) hn (Or.inr ⟨c, hp⟩) (kk _ (up_self _ _ _) (fun j hj => up_ne _ _ hj)) arr_boolean
theorem R_newrK {M : MI} {pc nx : Nat} {ls : List (Option Value)} {st : List Value} {σ : AHp} {Q : Option Value → AHp → Prop} {kc ks kc0 ks0 t N p idx : Nat} {n : Int32} {Cn : String} {c : ACell} (q : Nat) (h : At M pc (.anewarray idx) 3 nx) (hlk : Cond.classLink M.y.cls idx Cn ∈ LT) (htc : (t = 2 ∧ Cn = RX6) ∨ (t = 3 ∧ Cn = RX0)) (hN : n = nI N) (hkc : kc + 1 = kc0) (hks : ks + N = ks0) (hb : N < 100000) (hpq : p + 1 = q) (hn : σ q = none) (hp : σ p = some c) (kk : ∀ σ2 : AHp, σ2 q = some (rA t N (fun _ => none)) → (∀ j, j ≠ q → σ2 j = σ j) → Run M nx ls (.ref q :: st) σ2 kc ks Q) : Run M pc ls (.int n :: st) σ kc0 ks0 Q := by
  subst hkc hks hpq
  exact R_newr (p + 1) h hlk htc hN hb (by omega) hn (Or.inr ⟨c, hp⟩) (kk _ (up_self _ _ _) (fun j hj => up_ne _ _ hj))
theorem R_callIv {M : MI} {pc nx : Nat} {ls : List (Option Value)} {st : List Value} {σ : AHp} {Q : Option Value → AHp → Prop} {kc ks kc0 ks0 : Nat} {M' : MI} {n b : Nat} {As st0 : List Value} {PP : AHp → Prop} (h : CI M pc M' n nx) (hev : EvW M' (.ref b :: As) σ none PP) (hkc : M'.rm.cells + kc = kc0) (hks : M'.rm.slots + ks = ks0) (hn : As.length = n) (hst : As.reverse ++ .ref b :: st = st0) (hW8 : Nat.ble (st.map fun v => v.category).sum 8 = true) (kk : ∀ σ2, PP σ2 → Run M nx ls st σ2 kc ks Q) : Run M pc ls st0 σ kc0 ks0 Q := by
  subst hkc hks
  exact R_callI h hev hn hst hW8 (fun r σ2 q => by obtain ⟨rfl, q⟩ := q; exact kk σ2 q)
def R0 : Rs := (0, fun _ => 0, fun _ => 0, fun _ => 0, 0, 0, 0, 0)
def V0 : Vs := (0, 0, 0, 0, 0, fun _ => 0, fun _ => R0)
def Z0 : Tb := (0, 0, 0, 0, 0, fun _ => 0, fun _ => 0, fun _ => 0, fun _ => 0)
set_option maxRecDepth 20000 in
theorem ct_X6 {σ0 : AHp} {q : Nat} (hq : q ≠ 0) (hO : σ0 q = some (oB 6 [.null, .null, .null, .int 0, .int 0, .int 0, .int 0, .int 0])) (hn : ∀ j, q < j → σ0 j = none) : EvW M_X6_init [.ref q] σ0 none (fun σ => RdP σ q R0 ∧ (∀ j, j < q → σ j = σ0 j) ∧ ∀ j, (q + 3) < j → σ j = none) := by
  refine Ev.of (ls := [_]) 0 (by decide) rfl rfl ?_
  have hlo : ∀ j, j < q → σ0 j = σ0 j := fun _ _ => rfl
  refine R_aload_n a_X6_init_0 rfl ?_
  refine R_objInit a_X6_init_1 ml_X6_1 im_obj cw_obj rfl rfl ?_
  refine R_aload_n a_X6_init_4 rfl ?_
  refine R_iconst (v := nI 2) a_X6_init_5 rfl ?_
  refine R_newiK (N := 2) (kc := 2) (ks := 4) (p := q) (q + 1) a_X6_init_6 rfl rfl rfl (by decide) rfl (hn _ (by omega)) hO (fun σ hc1 ho => ?_)
  have hO := (ho _ (by omega)).trans hO
  have hlo : ∀ j, j < q → σ j = σ0 j := fun j hj => (ho j (by omega)).trans (hlo j hj)
  have hn : ∀ j, (q + 1) < j → σ j = none := fun j hj => (ho j (by omega)).trans (hn j (by omega))
  refine R_putaK (fs' := [_, _, _, _, _, _, _, _]) a_X6_init_8 hO (fun _ => ⟨rfl, rfl⟩) rfl rfl (fun σ hO ho => ?_)
  have hc1 := (ho _ (by omega)).trans hc1
  have hlo : ∀ j, j < q → σ j = σ0 j := fun j hj => (ho j (by omega)).trans (hlo j hj)
  have hn : ∀ j, (q + 1) < j → σ j = none := fun j hj => (ho j (by omega)).trans (hn j (by omega))
  refine R_aload_n a_X6_init_11 rfl ?_
  refine R_iconst (v := nI 2) a_X6_init_12 rfl ?_
  refine R_newiK (N := 2) (kc := 1) (ks := 2) (p := (q + 1)) (q + 2) a_X6_init_13 rfl rfl rfl (by decide) rfl (hn _ (by omega)) hc1 (fun σ hc2 ho => ?_)
  have hO := (ho _ (by omega)).trans hO
  have hc1 := (ho _ (by omega)).trans hc1
  have hlo : ∀ j, j < q → σ j = σ0 j := fun j hj => (ho j (by omega)).trans (hlo j hj)
  have hn : ∀ j, (q + 2) < j → σ j = none := fun j hj => (ho j (by omega)).trans (hn j (by omega))
  refine R_putaK (fs' := [_, _, _, _, _, _, _, _]) a_X6_init_15 hO (fun _ => ⟨rfl, rfl⟩) rfl rfl (fun σ hO ho => ?_)
  have hc1 := (ho _ (by omega)).trans hc1
  have hc2 := (ho _ (by omega)).trans hc2
  have hlo : ∀ j, j < q → σ j = σ0 j := fun j hj => (ho j (by omega)).trans (hlo j hj)
  have hn : ∀ j, (q + 2) < j → σ j = none := fun j hj => (ho j (by omega)).trans (hn j (by omega))
  refine R_aload_n a_X6_init_18 rfl ?_
  refine R_iconst (v := nI 2) a_X6_init_19 rfl ?_
  refine R_newzK (N := 2) (kc := 0) (ks := 0) (p := (q + 2)) (q + 3) a_X6_init_20 rfl rfl rfl (by decide) rfl (hn _ (by omega)) hc2 (fun σ hc3 ho => ?_)
  have hO := (ho _ (by omega)).trans hO
  have hc1 := (ho _ (by omega)).trans hc1
  have hc2 := (ho _ (by omega)).trans hc2
  have hlo : ∀ j, j < q → σ j = σ0 j := fun j hj => (ho j (by omega)).trans (hlo j hj)
  have hn : ∀ j, (q + 3) < j → σ j = none := fun j hj => (ho j (by omega)).trans (hn j (by omega))
  refine R_putaK (fs' := [_, _, _, _, _, _, _, _]) a_X6_init_22 hO (fun _ => ⟨rfl, rfl⟩) rfl rfl (fun σ hO ho => ?_)
  have hc1 := (ho _ (by omega)).trans hc1
  have hc2 := (ho _ (by omega)).trans hc2
  have hc3 := (ho _ (by omega)).trans hc3
  have hlo : ∀ j, j < q → σ j = σ0 j := fun j hj => (ho j (by omega)).trans (hlo j hj)
  have hn : ∀ j, (q + 3) < j → σ j = none := fun j hj => (ho j (by omega)).trans (hn j (by omega))
  refine R_vret a_X6_init_25 rfl ?_
  exact ⟨rfl, ⟨hq, hO, hc1, hc2, hc3⟩, hlo, hn⟩
set_option maxRecDepth 20000 in
theorem ct_X2 {σ0 : AHp} (hO : σ0 2 = some (oB 2 [.null, .int 0])) (hn : ∀ j, 2 < j → σ0 j = none) : EvW M_X2_init [.ref 2] σ0 none (fun σ => LtP σ (fun _ => 0) 0 ∧ (∀ j, j < 2 → σ j = σ0 j) ∧ ∀ j, 3 < j → σ j = none) := by
  refine Ev.of (ls := [_]) 0 (by decide) rfl rfl ?_
  have hlo : ∀ j, j < 2 → σ0 j = σ0 j := fun _ _ => rfl
  refine R_aload_n a_X2_init_0 rfl ?_
  refine R_objInit a_X2_init_1 ml_X2_1 im_obj cw_obj rfl rfl ?_
  refine R_aload_n a_X2_init_4 rfl ?_
  refine R_sipush (v := nI 200) a_X2_init_5 rfl ?_
  refine R_newiK (N := 200) (kc := 0) (ks := 0) (p := 2) 3 a_X2_init_8 rfl rfl rfl (by decide) rfl (hn _ (by omega)) hO (fun σ hc1 ho => ?_)
  have hO := (ho _ (by omega)).trans hO
  have hlo : ∀ j, j < 2 → σ j = σ0 j := fun j hj => (ho j (by omega)).trans (hlo j hj)
  have hn : ∀ j, 3 < j → σ j = none := fun j hj => (ho j (by omega)).trans (hn j (by omega))
  refine R_putaK (fs' := [_, _]) a_X2_init_10 hO (fun _ => ⟨rfl, rfl⟩) rfl rfl (fun σ hO ho => ?_)
  have hc1 := (ho _ (by omega)).trans hc1
  have hlo : ∀ j, j < 2 → σ j = σ0 j := fun j hj => (ho j (by omega)).trans (hlo j hj)
  have hn : ∀ j, 3 < j → σ j = none := fun j hj => (ho j (by omega)).trans (hn j (by omega))
  refine R_vret a_X2_init_13 rfl ?_
  exact ⟨rfl, ⟨hO, hc1, Nat.zero_le _⟩, hlo, hn⟩
set_option maxRecDepth 20000 in
theorem ct_X5 {σ0 : AHp} (hO : σ0 4 = some (oB 5 [.null, .int 0])) (hn : ∀ j, 4 < j → σ0 j = none) : EvW M_X5_init [.ref 4] σ0 none (fun σ => RrP σ (fun _ => 0) 0 ∧ (∀ j, j < 4 → σ j = σ0 j) ∧ ∀ j, 5 < j → σ j = none) := by
  refine Ev.of (ls := [_]) 0 (by decide) rfl rfl ?_
  have hlo : ∀ j, j < 4 → σ0 j = σ0 j := fun _ _ => rfl
  refine R_aload_n a_X5_init_0 rfl ?_
  refine R_objInit a_X5_init_1 ml_X5_3 im_obj cw_obj rfl rfl ?_
  refine R_aload_n a_X5_init_4 rfl ?_
  refine R_iconst (v := nI 3) a_X5_init_5 rfl ?_
  refine R_newiK (N := 3) (kc := 0) (ks := 0) (p := 4) 5 a_X5_init_6 rfl rfl rfl (by decide) rfl (hn _ (by omega)) hO (fun σ hc1 ho => ?_)
  have hO := (ho _ (by omega)).trans hO
  have hlo : ∀ j, j < 4 → σ j = σ0 j := fun j hj => (ho j (by omega)).trans (hlo j hj)
  have hn : ∀ j, 5 < j → σ j = none := fun j hj => (ho j (by omega)).trans (hn j (by omega))
  refine R_putaK (fs' := [_, _]) a_X5_init_8 hO (fun _ => ⟨rfl, rfl⟩) rfl rfl (fun σ hO ho => ?_)
  have hc1 := (ho _ (by omega)).trans hc1
  have hlo : ∀ j, j < 4 → σ j = σ0 j := fun j hj => (ho j (by omega)).trans (hlo j hj)
  have hn : ∀ j, 5 < j → σ j = none := fun j hj => (ho j (by omega)).trans (hn j (by omega))
  refine R_vret a_X5_init_11 rfl ?_
  exact ⟨rfl, ⟨hO, hc1⟩, hlo, hn⟩
set_option maxRecDepth 20000 in
theorem ct_X8 {σ0 : AHp} {q : Nat} (hq : q ≠ 0) (hO : σ0 q = some (oB 8 [.int 0, .int 0, .int 0, .int 0, .int 0, .null, .null, .null, .null])) (hn : ∀ j, q < j → σ0 j = none) : EvW M_X8_init [.ref q] σ0 none (fun σ => TbP σ q Z0 ∧ (∀ j, j < q → σ j = σ0 j) ∧ ∀ j, (q + 4) < j → σ j = none) := by
  refine Ev.of (ls := [_]) 0 (by decide) rfl rfl ?_
  have hlo : ∀ j, j < q → σ0 j = σ0 j := fun _ _ => rfl
  refine R_aload_n a_X8_init_0 rfl ?_
  refine R_objInit a_X8_init_1 ml_X8_1 im_obj cw_obj rfl rfl ?_
  refine R_aload_n a_X8_init_4 rfl ?_
  refine R_bipush (v := nI 8) a_X8_init_5 rfl ?_
  refine R_newiK (N := 8) (kc := 3) (ks := 22) (p := q) (q + 1) a_X8_init_7 rfl rfl rfl (by decide) rfl (hn _ (by omega)) hO (fun σ hc1 ho => ?_)
  have hO := (ho _ (by omega)).trans hO
  have hlo : ∀ j, j < q → σ j = σ0 j := fun j hj => (ho j (by omega)).trans (hlo j hj)
  have hn : ∀ j, (q + 1) < j → σ j = none := fun j hj => (ho j (by omega)).trans (hn j (by omega))
  refine R_putaK (fs' := [_, _, _, _, _, _, _, _, _]) a_X8_init_9 hO (fun _ => ⟨rfl, rfl⟩) rfl rfl (fun σ hO ho => ?_)
  have hc1 := (ho _ (by omega)).trans hc1
  have hlo : ∀ j, j < q → σ j = σ0 j := fun j hj => (ho j (by omega)).trans (hlo j hj)
  have hn : ∀ j, (q + 1) < j → σ j = none := fun j hj => (ho j (by omega)).trans (hn j (by omega))
  refine R_aload_n a_X8_init_12 rfl ?_
  refine R_bipush (v := nI 8) a_X8_init_13 rfl ?_
  refine R_newiK (N := 8) (kc := 2) (ks := 14) (p := (q + 1)) (q + 2) a_X8_init_15 rfl rfl rfl (by decide) rfl (hn _ (by omega)) hc1 (fun σ hc2 ho => ?_)
  have hO := (ho _ (by omega)).trans hO
  have hc1 := (ho _ (by omega)).trans hc1
  have hlo : ∀ j, j < q → σ j = σ0 j := fun j hj => (ho j (by omega)).trans (hlo j hj)
  have hn : ∀ j, (q + 2) < j → σ j = none := fun j hj => (ho j (by omega)).trans (hn j (by omega))
  refine R_putaK (fs' := [_, _, _, _, _, _, _, _, _]) a_X8_init_17 hO (fun _ => ⟨rfl, rfl⟩) rfl rfl (fun σ hO ho => ?_)
  have hc1 := (ho _ (by omega)).trans hc1
  have hc2 := (ho _ (by omega)).trans hc2
  have hlo : ∀ j, j < q → σ j = σ0 j := fun j hj => (ho j (by omega)).trans (hlo j hj)
  have hn : ∀ j, (q + 2) < j → σ j = none := fun j hj => (ho j (by omega)).trans (hn j (by omega))
  refine R_aload_n a_X8_init_20 rfl ?_
  refine R_bipush (v := nI 8) a_X8_init_21 rfl ?_
  refine R_newiK (N := 8) (kc := 1) (ks := 6) (p := (q + 2)) (q + 3) a_X8_init_23 rfl rfl rfl (by decide) rfl (hn _ (by omega)) hc2 (fun σ hc3 ho => ?_)
  have hO := (ho _ (by omega)).trans hO
  have hc1 := (ho _ (by omega)).trans hc1
  have hc2 := (ho _ (by omega)).trans hc2
  have hlo : ∀ j, j < q → σ j = σ0 j := fun j hj => (ho j (by omega)).trans (hlo j hj)
  have hn : ∀ j, (q + 3) < j → σ j = none := fun j hj => (ho j (by omega)).trans (hn j (by omega))
  refine R_putaK (fs' := [_, _, _, _, _, _, _, _, _]) a_X8_init_25 hO (fun _ => ⟨rfl, rfl⟩) rfl rfl (fun σ hO ho => ?_)
  have hc1 := (ho _ (by omega)).trans hc1
  have hc2 := (ho _ (by omega)).trans hc2
  have hc3 := (ho _ (by omega)).trans hc3
  have hlo : ∀ j, j < q → σ j = σ0 j := fun j hj => (ho j (by omega)).trans (hlo j hj)
  have hn : ∀ j, (q + 3) < j → σ j = none := fun j hj => (ho j (by omega)).trans (hn j (by omega))
  refine R_aload_n a_X8_init_28 rfl ?_
  refine R_bipush (v := nI 6) a_X8_init_29 rfl ?_
  refine R_newiK (N := 6) (kc := 0) (ks := 0) (p := (q + 3)) (q + 4) a_X8_init_31 rfl rfl rfl (by decide) rfl (hn _ (by omega)) hc3 (fun σ hc4 ho => ?_)
  have hO := (ho _ (by omega)).trans hO
  have hc1 := (ho _ (by omega)).trans hc1
  have hc2 := (ho _ (by omega)).trans hc2
  have hc3 := (ho _ (by omega)).trans hc3
  have hlo : ∀ j, j < q → σ j = σ0 j := fun j hj => (ho j (by omega)).trans (hlo j hj)
  have hn : ∀ j, (q + 4) < j → σ j = none := fun j hj => (ho j (by omega)).trans (hn j (by omega))
  refine R_putaK (fs' := [_, _, _, _, _, _, _, _, _]) a_X8_init_33 hO (fun _ => ⟨rfl, rfl⟩) rfl rfl (fun σ hO ho => ?_)
  have hc1 := (ho _ (by omega)).trans hc1
  have hc2 := (ho _ (by omega)).trans hc2
  have hc3 := (ho _ (by omega)).trans hc3
  have hc4 := (ho _ (by omega)).trans hc4
  have hlo : ∀ j, j < q → σ j = σ0 j := fun j hj => (ho j (by omega)).trans (hlo j hj)
  have hn : ∀ j, (q + 4) < j → σ j = none := fun j hj => (ho j (by omega)).trans (hn j (by omega))
  refine R_vret a_X8_init_36 rfl ?_
  exact ⟨rfl, ⟨hq, hO, hc1, hc2, hc3, hc4⟩, hlo, hn⟩
set_option maxRecDepth 20000 in
theorem ct_X9 {σ0 : AHp} (hO : σ0 232 = some (oB 9 [.int 0, .int 0, .int 0, .int 0, .int 0, .int 0, .null, .null])) (hn : ∀ j, 232 < j → σ0 j = none) : EvW M_X9_init [.ref 232] σ0 none (fun σ => WaR σ 0 0 0 0 0 0 (fun _ => 0) R0 ∧ (∀ j, j < 232 → σ j = σ0 j) ∧ ∀ j, 237 < j → σ j = none) := by
  refine Ev.of (ls := [_]) 0 (by decide) rfl rfl ?_
  have hlo : ∀ j, j < 232 → σ0 j = σ0 j := fun _ _ => rfl
  refine R_aload_n a_X9_init_0 rfl ?_
  refine R_objInit a_X9_init_1 ml_X9_3 im_obj cw_obj rfl rfl ?_
  refine R_aload_n a_X9_init_4 rfl ?_
  refine R_bipush (v := nI 6) a_X9_init_5 rfl ?_
  refine R_newiK (N := 6) (kc := 4) (ks := 14) (p := 232) 233 a_X9_init_7 rfl rfl rfl (by decide) rfl (hn _ (by omega)) hO (fun σ hc1 ho => ?_)
  have hO := (ho _ (by omega)).trans hO
  have hlo : ∀ j, j < 232 → σ j = σ0 j := fun j hj => (ho j (by omega)).trans (hlo j hj)
  have hn : ∀ j, 233 < j → σ j = none := fun j hj => (ho j (by omega)).trans (hn j (by omega))
  refine R_putaK (fs' := [_, _, _, _, _, _, _, _]) a_X9_init_9 hO (fun _ => ⟨rfl, rfl⟩) rfl rfl (fun σ hO ho => ?_)
  have hc1 := (ho _ (by omega)).trans hc1
  have hlo : ∀ j, j < 232 → σ j = σ0 j := fun j hj => (ho j (by omega)).trans (hlo j hj)
  have hn : ∀ j, 233 < j → σ j = none := fun j hj => (ho j (by omega)).trans (hn j (by omega))
  refine R_aload_n a_X9_init_12 rfl ?_
  refine R_newK (kc := 3) (ks := 6) (p := 233) 234 a_X9_init_13 rfl rfl rfl (hn _ (by omega)) hc1 (fun σ hc2 ho => ?_)
  have hO := (ho _ (by omega)).trans hO
  have hc1 := (ho _ (by omega)).trans hc1
  have hlo : ∀ j, j < 232 → σ j = σ0 j := fun j hj => (ho j (by omega)).trans (hlo j hj)
  have hn : ∀ j, 234 < j → σ j = none := fun j hj => (ho j (by omega)).trans (hn j (by omega))
  refine R_dup a_X9_init_16 rfl ?_
  refine R_callIv (kc := 0) (ks := 0) a_X9_init_17 (ct_X6 (q := 234) (by omega) hc2 hn) rfl rfl rfl rfl rfl (fun σ hP => ?_)
  obtain ⟨hp2, hl, hn⟩ := hP
  have hO := (hl _ (by omega)).trans hO
  have hc1 := (hl _ (by omega)).trans hc1
  have hlo : ∀ j, j < 232 → σ j = σ0 j := fun j hj => (hl j (by omega)).trans (hlo j hj)
  have hn : ∀ j, 237 < j → σ j = none := fun j hj => hn j (by omega)
  refine R_putaK (fs' := [_, _, _, _, _, _, _, _]) a_X9_init_20 hO (fun _ => ⟨rfl, rfl⟩) rfl rfl (fun σ hO ho => ?_)
  have hc1 := (ho _ (by omega)).trans hc1
  have hp2 := hp2.kept (fun j h1 h2 => ho j (by omega))
  have hlo : ∀ j, j < 232 → σ j = σ0 j := fun j hj => (ho j (by omega)).trans (hlo j hj)
  have hn : ∀ j, 237 < j → σ j = none := fun j hj => (ho j (by omega)).trans (hn j (by omega))
  refine R_vret a_X9_init_23 rfl ?_
  exact ⟨rfl, ⟨hO, hc1, hp2⟩, hlo, hn⟩
set_option maxRecDepth 20000 in
theorem ct_X4 {σ0 : AHp} (hO : σ0 238 = some (oB 4 [.null, .null, .null])) (hn : ∀ j, 238 < j → σ0 j = none) : EvW M_X4_init [.ref 238] σ0 none (fun σ => PaP σ 239 240 (fun _ => 0) (fun _ => 0) R0 ∧ (∀ j, j < 238 → σ j = σ0 j) ∧ ∀ j, 244 < j → σ j = none) := by
  refine Ev.of (ls := [_]) 0 (by decide) rfl rfl ?_
  have hlo : ∀ j, j < 238 → σ0 j = σ0 j := fun _ _ => rfl
  refine R_aload_n a_X4_init_0 rfl ?_
  refine R_objInit a_X4_init_1 ml_X4_3 im_obj cw_obj rfl rfl ?_
  refine R_aload_n a_X4_init_4 rfl ?_
  refine R_bipush (v := nI 8) a_X4_init_5 rfl ?_
  refine R_newiK (N := 8) (kc := 5) (ks := 22) (p := 238) 239 a_X4_init_7 rfl rfl rfl (by decide) rfl (hn _ (by omega)) hO (fun σ hc1 ho => ?_)
  have hO := (ho _ (by omega)).trans hO
  have hlo : ∀ j, j < 238 → σ j = σ0 j := fun j hj => (ho j (by omega)).trans (hlo j hj)
  have hn : ∀ j, 239 < j → σ j = none := fun j hj => (ho j (by omega)).trans (hn j (by omega))
  refine R_putaK (fs' := [_, _, _]) a_X4_init_9 hO (fun _ => ⟨rfl, rfl⟩) rfl rfl (fun σ hO ho => ?_)
  have hc1 := (ho _ (by omega)).trans hc1
  have hlo : ∀ j, j < 238 → σ j = σ0 j := fun j hj => (ho j (by omega)).trans (hlo j hj)
  have hn : ∀ j, 239 < j → σ j = none := fun j hj => (ho j (by omega)).trans (hn j (by omega))
  refine R_aload_n a_X4_init_12 rfl ?_
  refine R_bipush (v := nI 8) a_X4_init_13 rfl ?_
  refine R_newiK (N := 8) (kc := 4) (ks := 14) (p := 239) 240 a_X4_init_15 rfl rfl rfl (by decide) rfl (hn _ (by omega)) hc1 (fun σ hc2 ho => ?_)
  have hO := (ho _ (by omega)).trans hO
  have hc1 := (ho _ (by omega)).trans hc1
  have hlo : ∀ j, j < 238 → σ j = σ0 j := fun j hj => (ho j (by omega)).trans (hlo j hj)
  have hn : ∀ j, 240 < j → σ j = none := fun j hj => (ho j (by omega)).trans (hn j (by omega))
  refine R_putaK (fs' := [_, _, _]) a_X4_init_17 hO (fun _ => ⟨rfl, rfl⟩) rfl rfl (fun σ hO ho => ?_)
  have hc1 := (ho _ (by omega)).trans hc1
  have hc2 := (ho _ (by omega)).trans hc2
  have hlo : ∀ j, j < 238 → σ j = σ0 j := fun j hj => (ho j (by omega)).trans (hlo j hj)
  have hn : ∀ j, 240 < j → σ j = none := fun j hj => (ho j (by omega)).trans (hn j (by omega))
  refine R_aload_n a_X4_init_20 rfl ?_
  refine R_newK (kc := 3) (ks := 6) (p := 240) 241 a_X4_init_21 rfl rfl rfl (hn _ (by omega)) hc2 (fun σ hc3 ho => ?_)
  have hO := (ho _ (by omega)).trans hO
  have hc1 := (ho _ (by omega)).trans hc1
  have hc2 := (ho _ (by omega)).trans hc2
  have hlo : ∀ j, j < 238 → σ j = σ0 j := fun j hj => (ho j (by omega)).trans (hlo j hj)
  have hn : ∀ j, 241 < j → σ j = none := fun j hj => (ho j (by omega)).trans (hn j (by omega))
  refine R_dup a_X4_init_24 rfl ?_
  refine R_callIv (kc := 0) (ks := 0) a_X4_init_25 (ct_X6 (q := 241) (by omega) hc3 hn) rfl rfl rfl rfl rfl (fun σ hP => ?_)
  obtain ⟨hp3, hl, hn⟩ := hP
  have hO := (hl _ (by omega)).trans hO
  have hc1 := (hl _ (by omega)).trans hc1
  have hc2 := (hl _ (by omega)).trans hc2
  have hlo : ∀ j, j < 238 → σ j = σ0 j := fun j hj => (hl j (by omega)).trans (hlo j hj)
  have hn : ∀ j, 244 < j → σ j = none := fun j hj => hn j (by omega)
  refine R_putaK (fs' := [_, _, _]) a_X4_init_28 hO (fun _ => ⟨rfl, rfl⟩) rfl rfl (fun σ hO ho => ?_)
  have hc1 := (ho _ (by omega)).trans hc1
  have hc2 := (ho _ (by omega)).trans hc2
  have hp3 := hp3.kept (fun j h1 h2 => ho j (by omega))
  have hlo : ∀ j, j < 238 → σ j = σ0 j := fun j hj => (ho j (by omega)).trans (hlo j hj)
  have hn : ∀ j, 244 < j → σ j = none := fun j hj => (ho j (by omega)).trans (hn j (by omega))
  refine R_vret a_X4_init_31 rfl ?_
  exact ⟨rfl, ⟨hO, hc1, hc2, hp3, Or.inl ⟨rfl, rfl⟩⟩, hlo, hn⟩
set_option maxRecDepth 20000 in
theorem ct_X3 {σ0 : AHp} (hO : σ0 245 = some (oB 3 [.int 0, .int 0, .null, .null, .null, .null, .null])) (hn : ∀ j, 245 < j → σ0 j = none) : EvW M_X3_init [.ref 245] σ0 none (fun σ => PcR σ 0 0 (fun _ => 0) (fun _ => 0) (nF (fun _ => 0)) (nF (fun _ => 0)) R0 ∧ (∀ j, j < 245 → σ j = σ0 j) ∧ ∀ j, 253 < j → σ j = none) := by
  refine Ev.of (ls := [_]) 0 (by decide) rfl rfl ?_
  have hlo : ∀ j, j < 245 → σ0 j = σ0 j := fun _ _ => rfl
  refine R_aload_n a_X3_init_0 rfl ?_
  refine R_objInit a_X3_init_1 ml_X3_3 im_obj cw_obj rfl rfl ?_
  refine R_aload_n a_X3_init_4 rfl ?_
  refine R_iconst (v := nI 2) a_X3_init_5 rfl ?_
  refine R_newiK (N := 2) (kc := 7) (ks := 24) (p := 245) 246 a_X3_init_6 rfl rfl rfl (by decide) rfl (hn _ (by omega)) hO (fun σ hc1 ho => ?_)
  have hO := (ho _ (by omega)).trans hO
  have hlo : ∀ j, j < 245 → σ j = σ0 j := fun j hj => (ho j (by omega)).trans (hlo j hj)
  have hn : ∀ j, 246 < j → σ j = none := fun j hj => (ho j (by omega)).trans (hn j (by omega))
  refine R_putaK (fs' := [_, _, _, _, _, _, _]) a_X3_init_8 hO (fun _ => ⟨rfl, rfl⟩) rfl rfl (fun σ hO ho => ?_)
  have hc1 := (ho _ (by omega)).trans hc1
  have hlo : ∀ j, j < 245 → σ j = σ0 j := fun j hj => (ho j (by omega)).trans (hlo j hj)
  have hn : ∀ j, 246 < j → σ j = none := fun j hj => (ho j (by omega)).trans (hn j (by omega))
  refine R_aload_n a_X3_init_11 rfl ?_
  refine R_iconst (v := nI 2) a_X3_init_12 rfl ?_
  refine R_newiK (N := 2) (kc := 6) (ks := 22) (p := 246) 247 a_X3_init_13 rfl rfl rfl (by decide) rfl (hn _ (by omega)) hc1 (fun σ hc2 ho => ?_)
  have hO := (ho _ (by omega)).trans hO
  have hc1 := (ho _ (by omega)).trans hc1
  have hlo : ∀ j, j < 245 → σ j = σ0 j := fun j hj => (ho j (by omega)).trans (hlo j hj)
  have hn : ∀ j, 247 < j → σ j = none := fun j hj => (ho j (by omega)).trans (hn j (by omega))
  refine R_putaK (fs' := [_, _, _, _, _, _, _]) a_X3_init_15 hO (fun _ => ⟨rfl, rfl⟩) rfl rfl (fun σ hO ho => ?_)
  have hc1 := (ho _ (by omega)).trans hc1
  have hc2 := (ho _ (by omega)).trans hc2
  have hlo : ∀ j, j < 245 → σ j = σ0 j := fun j hj => (ho j (by omega)).trans (hlo j hj)
  have hn : ∀ j, 247 < j → σ j = none := fun j hj => (ho j (by omega)).trans (hn j (by omega))
  refine R_aload_n a_X3_init_18 rfl ?_
  refine R_iconst (v := nI 4) a_X3_init_19 rfl ?_
  refine R_newiK (N := 4) (kc := 5) (ks := 18) (p := 247) 248 a_X3_init_20 rfl rfl rfl (by decide) rfl (hn _ (by omega)) hc2 (fun σ hc3 ho => ?_)
  have hO := (ho _ (by omega)).trans hO
  have hc1 := (ho _ (by omega)).trans hc1
  have hc2 := (ho _ (by omega)).trans hc2
  have hlo : ∀ j, j < 245 → σ j = σ0 j := fun j hj => (ho j (by omega)).trans (hlo j hj)
  have hn : ∀ j, 248 < j → σ j = none := fun j hj => (ho j (by omega)).trans (hn j (by omega))
  refine R_putaK (fs' := [_, _, _, _, _, _, _]) a_X3_init_22 hO (fun _ => ⟨rfl, rfl⟩) rfl rfl (fun σ hO ho => ?_)
  have hc1 := (ho _ (by omega)).trans hc1
  have hc2 := (ho _ (by omega)).trans hc2
  have hc3 := (ho _ (by omega)).trans hc3
  have hlo : ∀ j, j < 245 → σ j = σ0 j := fun j hj => (ho j (by omega)).trans (hlo j hj)
  have hn : ∀ j, 248 < j → σ j = none := fun j hj => (ho j (by omega)).trans (hn j (by omega))
  refine R_aload_n a_X3_init_25 rfl ?_
  refine R_iconst (v := nI 4) a_X3_init_26 rfl ?_
  refine R_newiK (N := 4) (kc := 4) (ks := 14) (p := 248) 249 a_X3_init_27 rfl rfl rfl (by decide) rfl (hn _ (by omega)) hc3 (fun σ hc4 ho => ?_)
  have hO := (ho _ (by omega)).trans hO
  have hc1 := (ho _ (by omega)).trans hc1
  have hc2 := (ho _ (by omega)).trans hc2
  have hc3 := (ho _ (by omega)).trans hc3
  have hlo : ∀ j, j < 245 → σ j = σ0 j := fun j hj => (ho j (by omega)).trans (hlo j hj)
  have hn : ∀ j, 249 < j → σ j = none := fun j hj => (ho j (by omega)).trans (hn j (by omega))
  refine R_putaK (fs' := [_, _, _, _, _, _, _]) a_X3_init_29 hO (fun _ => ⟨rfl, rfl⟩) rfl rfl (fun σ hO ho => ?_)
  have hc1 := (ho _ (by omega)).trans hc1
  have hc2 := (ho _ (by omega)).trans hc2
  have hc3 := (ho _ (by omega)).trans hc3
  have hc4 := (ho _ (by omega)).trans hc4
  have hlo : ∀ j, j < 245 → σ j = σ0 j := fun j hj => (ho j (by omega)).trans (hlo j hj)
  have hn : ∀ j, 249 < j → σ j = none := fun j hj => (ho j (by omega)).trans (hn j (by omega))
  refine R_aload_n a_X3_init_32 rfl ?_
  refine R_newK (kc := 3) (ks := 6) (p := 249) 250 a_X3_init_33 rfl rfl rfl (hn _ (by omega)) hc4 (fun σ hc5 ho => ?_)
  have hO := (ho _ (by omega)).trans hO
  have hc1 := (ho _ (by omega)).trans hc1
  have hc2 := (ho _ (by omega)).trans hc2
  have hc3 := (ho _ (by omega)).trans hc3
  have hc4 := (ho _ (by omega)).trans hc4
  have hlo : ∀ j, j < 245 → σ j = σ0 j := fun j hj => (ho j (by omega)).trans (hlo j hj)
  have hn : ∀ j, 250 < j → σ j = none := fun j hj => (ho j (by omega)).trans (hn j (by omega))
  refine R_dup a_X3_init_36 rfl ?_
  refine R_callIv (kc := 0) (ks := 0) a_X3_init_37 (ct_X6 (q := 250) (by omega) hc5 hn) rfl rfl rfl rfl rfl (fun σ hP => ?_)
  obtain ⟨hp5, hl, hn⟩ := hP
  have hO := (hl _ (by omega)).trans hO
  have hc1 := (hl _ (by omega)).trans hc1
  have hc2 := (hl _ (by omega)).trans hc2
  have hc3 := (hl _ (by omega)).trans hc3
  have hc4 := (hl _ (by omega)).trans hc4
  have hlo : ∀ j, j < 245 → σ j = σ0 j := fun j hj => (hl j (by omega)).trans (hlo j hj)
  have hn : ∀ j, 253 < j → σ j = none := fun j hj => hn j (by omega)
  refine R_putaK (fs' := [_, _, _, _, _, _, _]) a_X3_init_40 hO (fun _ => ⟨rfl, rfl⟩) rfl rfl (fun σ hO ho => ?_)
  have hc1 := (ho _ (by omega)).trans hc1
  have hc2 := (ho _ (by omega)).trans hc2
  have hc3 := (ho _ (by omega)).trans hc3
  have hc4 := (ho _ (by omega)).trans hc4
  have hp5 := hp5.kept (fun j h1 h2 => ho j (by omega))
  have hlo : ∀ j, j < 245 → σ j = σ0 j := fun j hj => (ho j (by omega)).trans (hlo j hj)
  have hn : ∀ j, 253 < j → σ j = none := fun j hj => (ho j (by omega)).trans (hn j (by omega))
  refine R_vret a_X3_init_43 rfl ?_
  exact ⟨rfl, ⟨hO, hc1, hc2, hc3, hc4, hp5⟩, hlo, hn⟩
set_option maxRecDepth 20000 in
theorem ct_X7 {σ0 : AHp} (hO : σ0 254 = some (oB 7 [.int 0, .null, .null])) (hn : ∀ j, 254 < j → σ0 j = none) : EvW M_X7_init [.ref 254] σ0 none (fun σ => SyR σ 0 (fun _ => 0) (fun _ => 0) ∧ (∀ j, j < 254 → σ j = σ0 j) ∧ ∀ j, 256 < j → σ j = none) := by
  refine Ev.of (ls := [_]) 0 (by decide) rfl rfl ?_
  have hlo : ∀ j, j < 254 → σ0 j = σ0 j := fun _ _ => rfl
  refine R_aload_n a_X7_init_0 rfl ?_
  refine R_objInit a_X7_init_1 ml_X7_3 im_obj cw_obj rfl rfl ?_
  refine R_aload_n a_X7_init_4 rfl ?_
  refine R_bipush (v := nI 8) a_X7_init_5 rfl ?_
  refine R_newiK (N := 8) (kc := 1) (ks := 8) (p := 254) 255 a_X7_init_7 rfl rfl rfl (by decide) rfl (hn _ (by omega)) hO (fun σ hc1 ho => ?_)
  have hO := (ho _ (by omega)).trans hO
  have hlo : ∀ j, j < 254 → σ j = σ0 j := fun j hj => (ho j (by omega)).trans (hlo j hj)
  have hn : ∀ j, 255 < j → σ j = none := fun j hj => (ho j (by omega)).trans (hn j (by omega))
  refine R_putaK (fs' := [_, _, _]) a_X7_init_9 hO (fun _ => ⟨rfl, rfl⟩) rfl rfl (fun σ hO ho => ?_)
  have hc1 := (ho _ (by omega)).trans hc1
  have hlo : ∀ j, j < 254 → σ j = σ0 j := fun j hj => (ho j (by omega)).trans (hlo j hj)
  have hn : ∀ j, 255 < j → σ j = none := fun j hj => (ho j (by omega)).trans (hn j (by omega))
  refine R_aload_n a_X7_init_12 rfl ?_
  refine R_bipush (v := nI 8) a_X7_init_13 rfl ?_
  refine R_newzK (N := 8) (kc := 0) (ks := 0) (p := 255) 256 a_X7_init_15 rfl rfl rfl (by decide) rfl (hn _ (by omega)) hc1 (fun σ hc2 ho => ?_)
  have hO := (ho _ (by omega)).trans hO
  have hc1 := (ho _ (by omega)).trans hc1
  have hlo : ∀ j, j < 254 → σ j = σ0 j := fun j hj => (ho j (by omega)).trans (hlo j hj)
  have hn : ∀ j, 256 < j → σ j = none := fun j hj => (ho j (by omega)).trans (hn j (by omega))
  refine R_putaK (fs' := [_, _, _]) a_X7_init_17 hO (fun _ => ⟨rfl, rfl⟩) rfl rfl (fun σ hO ho => ?_)
  have hc1 := (ho _ (by omega)).trans hc1
  have hc2 := (ho _ (by omega)).trans hc2
  have hlo : ∀ j, j < 254 → σ j = σ0 j := fun j hj => (ho j (by omega)).trans (hlo j hj)
  have hn : ∀ j, 256 < j → σ j = none := fun j hj => (ho j (by omega)).trans (hn j (by omega))
  refine R_vret a_X7_init_20 rfl ?_
  exact ⟨rfl, ⟨hO, hc1, hc2, Nat.zero_le _⟩, hlo, hn⟩
set_option maxRecDepth 20000 in
theorem ct_X1 {σ0 : AHp} (hO : σ0 257 = some (oB 1 [.int 0, .int 0, .null])) (hn : ∀ j, 257 < j → σ0 j = none) : EvW M_X1_init [.ref 257] σ0 none (fun σ => FsP σ 0 0 R0 ∧ (∀ j, j < 257 → σ j = σ0 j) ∧ ∀ j, 261 < j → σ j = none) := by
  refine Ev.of (ls := [_]) 0 (by decide) rfl rfl ?_
  have hlo : ∀ j, j < 257 → σ0 j = σ0 j := fun _ _ => rfl
  refine R_aload_n a_X1_init_0 rfl ?_
  refine R_objInit a_X1_init_1 ml_X1_1 im_obj cw_obj rfl rfl ?_
  refine R_aload_n a_X1_init_4 rfl ?_
  refine R_newK (kc := 3) (ks := 6) (p := 257) 258 a_X1_init_5 rfl rfl rfl (hn _ (by omega)) hO (fun σ hc1 ho => ?_)
  have hO := (ho _ (by omega)).trans hO
  have hlo : ∀ j, j < 257 → σ j = σ0 j := fun j hj => (ho j (by omega)).trans (hlo j hj)
  have hn : ∀ j, 258 < j → σ j = none := fun j hj => (ho j (by omega)).trans (hn j (by omega))
  refine R_dup a_X1_init_8 rfl ?_
  refine R_callIv (kc := 0) (ks := 0) a_X1_init_9 (ct_X6 (q := 258) (by omega) hc1 hn) rfl rfl rfl rfl rfl (fun σ hP => ?_)
  obtain ⟨hp1, hl, hn⟩ := hP
  have hO := (hl _ (by omega)).trans hO
  have hlo : ∀ j, j < 257 → σ j = σ0 j := fun j hj => (hl j (by omega)).trans (hlo j hj)
  have hn : ∀ j, 261 < j → σ j = none := fun j hj => hn j (by omega)
  refine R_putaK (fs' := [_, _, _]) a_X1_init_12 hO (fun _ => ⟨rfl, rfl⟩) rfl rfl (fun σ hO ho => ?_)
  have hp1 := hp1.kept (fun j h1 h2 => ho j (by omega))
  have hlo : ∀ j, j < 257 → σ j = σ0 j := fun j hj => (ho j (by omega)).trans (hlo j hj)
  have hn : ∀ j, 261 < j → σ j = none := fun j hj => (ho j (by omega)).trans (hn j (by omega))
  refine R_vret a_X1_init_15 rfl ?_
  exact ⟨rfl, ⟨hO, hp1⟩, hlo, hn⟩
set_option maxRecDepth 20000 in
theorem lp_X0 {σ0 : AHp} {e : Nat} (he : e ≠ 0) : ∀ (n k : Nat) (σ : AHp), 18 - k = n → k ≤ 18 → σ e = some (evO e 0 0 0 0 0) → σ (e + 1) = some (iA 0 8 (nF (fun _ => 0))) → σ (e + 2) = some (rA 2 18 (fun j => if j < k then some (e + 3 + 4 * j) else none)) → (∀ j, j < k → RdP σ (e + 3 + 4 * j) R0) → (∃ c, σ (e + 2 + 4 * k) = some c) → (∀ j, e + 3 + 4 * k ≤ j → σ j = none) → (∀ j, j < e → σ j = σ0 j) → Run M_X0_init 23 [some (.ref e), some (.int (nI k))] [] σ (4 * (18 - k)) (14 * (18 - k)) (fun r σ => r = none ∧ EvR σ e V0 ∧ (∀ j, j < e → σ j = σ0 j) ∧ ∀ j, e + 74 < j → σ j = none) := by
  intro n
  induction n using Nat.strongRecOn
  rename_i n ih
  intro k σ hm hk hO hl hg hR hpv hn hlo
  refine R_iload_n a_X0_init_23 rfl ?_
  refine R_bipush (v := nI 18) a_X0_init_24 rfl ?_
  refine R_icmp_ge_n a_X0_init_26 (by omega) (by omega) (fun h26 => ?_) (fun h26 => ?_)
  · have hke : k = 18 := by omega
    subst hke
    refine R_extr (ringF e) hg (fun j hj => ?_) (fun σ2 hg ho => ?_)
    · rw [if_pos hj]
      rfl
    · refine R_vret a_X0_init_48 rfl ?_
      exact ⟨rfl, ⟨he, (ho _ (by omega)).trans hO, (ho _ (by omega)).trans hl, hg, fun k hk => (hR k hk).kept (fun j h1 h2 => ho j (by omega))⟩, fun j hj => (ho j (by omega)).trans (hlo j hj), fun j hj => (ho j (by omega)).trans (hn j (by omega))⟩
  · obtain ⟨c0, hp0⟩ := hpv
    refine R_aload_n a_X0_init_29 rfl ?_
    refine R_get a_X0_init_30 hO rfl ?_
    refine R_iload_n a_X0_init_33 rfl ?_
    refine R_newK (kc := 4 * (18 - k) - 1) (ks := 14 * (18 - k) - 8) (p := e + 2 + 4 * k) (e + 3 + 4 * k) a_X0_init_34 (by omega) (by omega) (by omega) (hn _ (by omega)) hp0 (fun σ1 hN ho => ?_)
    refine R_dup a_X0_init_37 rfl ?_
    refine R_callIv (kc := 4 * (18 - (k + 1))) (ks := 14 * (18 - (k + 1))) a_X0_init_38 (ct_X6 (q := e + 3 + 4 * k) (by omega) hN (fun j hj => (ho j (by omega)).trans (hn j (by omega)))) (show 3 + _ = _ by omega) (show 6 + _ = _ by omega) rfl rfl rfl (fun σ2 hP => ?_)
    obtain ⟨hRn, hl2, hn2⟩ := hP
    have hg2 := (hl2 _ (by omega)).trans ((ho _ (by omega)).trans hg)
    refine R_aastK a_X0_init_41 hg2 hRn.2.1 (Or.inl ⟨rfl, rfl⟩) (show k < 18 by omega) (by decide) (fun σ3 hg3 ho3 => ?_)
    have hfun : va_up (fun j => if j < k then some (e + 3 + 4 * j) else none) k (some (e + 3 + 4 * k)) = fun j => if j < k + 1 then some (e + 3 + 4 * j) else none := by
      funext j
      unfold va_up
      by_cases q : j = k
      · subst q
        rw [if_pos rfl, if_pos (by omega)]
      · rw [if_neg q]
        show (if j < k then some (e + 3 + 4 * j) else none) = if j < k + 1 then some (e + 3 + 4 * j) else none
        by_cases q2 : j < k
        · rw [if_pos q2, if_pos (by omega)]
        · rw [if_neg q2, if_neg (by omega)]
    rw [hfun] at hg3
    first | with_reducible refine R_iinc_n (ls' := [_, _]) a_X0_init_42 rfl rfl rfl rfl ?_ | refine R_iinc (ls' := [_, _]) a_X0_init_42 rfl rfl rfl rfl rfl ?_
    refine R_goto a_X0_init_45 ?_
    have hkp : ∀ j, j < e + 3 + 4 * k → j ≠ e + 2 → σ3 j = σ j := fun j h1 h2 => (ho3 j h2).trans ((hl2 j h1).trans (ho j (by omega)))
    refine ih _ (show 18 - (k + 1) < n by omega) (k + 1) σ3 rfl (by omega) ((hkp _ (by omega) (by omega)).trans hO) ((hkp _ (by omega) (by omega)).trans hl) hg3 (fun j hj => ?_) ?_ (fun j hj => (ho3 j (by omega)).trans (hn2 j (by omega))) (fun j hj => (hkp j (by omega) (by omega)).trans (hlo j hj))
    · by_cases q : j = k
      · subst q
        exact hRn.kept (fun i h1 h2 => ho3 i (by omega))
      · exact (hR j (by omega)).kept (fun i h1 h2 => hkp i (by omega) (by omega))
    · exact ⟨_, (ho3 _ (by omega)).trans ((congrArg σ2 (show e + 2 + 4 * (k + 1) = e + 3 + 4 * k + 3 by omega)).trans hRn.2.2.2.2)⟩
set_option maxRecDepth 20000 in
theorem ct_X0 {σ0 : AHp} {q : Nat} (hq : q ≠ 0) (hO : σ0 q = some (oB 0 [.int 0, .int 0, .int 0, .int 0, .int 0, .null, .null])) (hn : ∀ j, q < j → σ0 j = none) : EvW M_X0_init [.ref q] σ0 none (fun σ => EvR σ q V0 ∧ (∀ j, j < q → σ j = σ0 j) ∧ ∀ j, q + 74 < j → σ j = none) := by
  refine Ev.of (ls := [_, _]) 1 (by decide) rfl rfl ?_
  have hlo : ∀ j, j < q → σ0 j = σ0 j := fun _ _ => rfl
  refine R_aload_n a_X0_init_0 rfl ?_
  refine R_objInit a_X0_init_1 ml_X0_3 im_obj cw_obj rfl rfl ?_
  refine R_aload_n a_X0_init_4 rfl ?_
  refine R_bipush (v := nI 8) a_X0_init_5 rfl ?_
  refine R_newiK (N := 8) (kc := 73) (ks := 270) (p := q) (q + 1) a_X0_init_7 rfl rfl rfl (by decide) rfl (hn _ (by omega)) hO (fun σ hc1 ho => ?_)
  have hO := (ho _ (by omega)).trans hO
  have hlo : ∀ j, j < q → σ j = σ0 j := fun j hj => (ho j (by omega)).trans (hlo j hj)
  have hn : ∀ j, (q + 1) < j → σ j = none := fun j hj => (ho j (by omega)).trans (hn j (by omega))
  refine R_putaK (fs' := [_, _, _, _, _, _, _]) a_X0_init_9 hO (fun _ => ⟨rfl, rfl⟩) rfl rfl (fun σ hO ho => ?_)
  have hc1 := (ho _ (by omega)).trans hc1
  have hlo : ∀ j, j < q → σ j = σ0 j := fun j hj => (ho j (by omega)).trans (hlo j hj)
  have hn : ∀ j, (q + 1) < j → σ j = none := fun j hj => (ho j (by omega)).trans (hn j (by omega))
  refine R_aload_n a_X0_init_12 rfl ?_
  refine R_bipush (v := nI 18) a_X0_init_13 rfl ?_
  refine R_newrK (t := 2) (N := 18) (kc := 72) (ks := 252) (p := (q + 1)) (q + 2) a_X0_init_15 cl_X0_15 (Or.inl ⟨rfl, rfl⟩) rfl rfl rfl (by decide) rfl (hn _ (by omega)) hc1 (fun σ hc2 ho => ?_)
  have hO := (ho _ (by omega)).trans hO
  have hc1 := (ho _ (by omega)).trans hc1
  have hlo : ∀ j, j < q → σ j = σ0 j := fun j hj => (ho j (by omega)).trans (hlo j hj)
  have hn : ∀ j, (q + 2) < j → σ j = none := fun j hj => (ho j (by omega)).trans (hn j (by omega))
  refine R_putaK (fs' := [_, _, _, _, _, _, _]) a_X0_init_18 hO (fun _ => ⟨rfl, rfl⟩) rfl rfl (fun σ hO ho => ?_)
  have hc1 := (ho _ (by omega)).trans hc1
  have hc2 := (ho _ (by omega)).trans hc2
  have hlo : ∀ j, j < q → σ j = σ0 j := fun j hj => (ho j (by omega)).trans (hlo j hj)
  have hn : ∀ j, (q + 2) < j → σ j = none := fun j hj => (ho j (by omega)).trans (hn j (by omega))
  refine R_iconst (v := nI 0) a_X0_init_21 rfl ?_
  refine R_istore_n (ls' := [_, _]) a_X0_init_22 rfl rfl rfl ?_
  exact lp_X0 hq _ 0 σ rfl (Nat.zero_le _) hO hc1 hc2 (fun j hj => absurd hj (Nat.not_lt_zero j)) ⟨_, hc2⟩ (fun j hj => hn j (by omega)) hlo
