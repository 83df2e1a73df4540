/-! ===== Paths ===== -/
def PaP (σ : AHp) (c d : Nat) (fc fd : Nat → Nat) (R : Rs) : Prop := σ 238 = some (oB 4 [.ref c, .ref d, .ref 241]) ∧ σ c = some (iA 0 8 (nF fc)) ∧ σ d = some (iA 0 8 (nF fd)) ∧ RdP σ 241 R ∧ ((c = 239 ∧ d = 240) ∨ (c = 240 ∧ d = 239))
/-- one saying c from every seat that can be reached -/
def sprK (T : Tb) (c : Nat) (cost : Nat → Nat) (nx : Nat → Nat) : Nat → Nat → Nat
  | 0 => nx
  | k + 1 => if cost k < 1000 then uN (sprK T c cost nx k) (comesF T k c 128 T.so T.law) (min (sprK T c cost nx k (comesF T k c 128 T.so T.law)) (cost k + cntOf T c T.so)) else sprK T c cost nx k
def sprF (T : Tb) (c : Nat) (cost nx : Nat → Nat) : Nat → Nat := sprK T c cost nx T.g
def grIn (T : Tb) (cost : Nat → Nat) (i : Nat) (nx : Nat → Nat) : Nat → Nat → Nat
  | 0 => nx
  | t + 1 => if bitN (T.kn i) t = 1 then sprF T (sayC i t 0) cost (sprF T (sayC i t 1) cost (grIn T cost i nx t)) else grIn T cost i nx t
def grOut (T : Tb) (cost nx : Nat → Nat) : Nat → Nat → Nat
  | 0 => nx
  | i + 1 => grIn T cost i (grOut T cost nx i) T.n
def grF (T : Tb) (cost nx : Nat → Nat) : Nat → Nat := grOut T cost (sprF T 128 cost nx) T.g
def Le3 (g : Nat) (f : Nat → Nat) : Prop := ∀ j, j < g → f j ≤ 1000
theorem sprK_le {T : Tb} {c : Nat} {cost nx : Nat → Nat} (h : Le3 T.g nx) : ∀ k, Le3 T.g (sprK T c cost nx k) := by
  intro k
  induction k with
  | zero => exact h
  | succ k ih =>
    simp only [sprK]
    split
    · intro j hj
      unfold uN
      split
      · rename_i e
        have := ih j hj
        rw [← e]
        omega
      · exact ih j hj
    · exact ih
theorem grIn_le {T : Tb} {cost nx : Nat → Nat} {i : Nat} (h : Le3 T.g nx) : ∀ t, Le3 T.g (grIn T cost i nx t) := by
  intro t
  induction t with
  | zero => exact h
  | succ t ih =>
    simp only [grIn]
    split
    · exact sprK_le (sprK_le ih _) _
    · exact ih
theorem grOut_le {T : Tb} {cost nx : Nat → Nat} (h : Le3 T.g nx) : ∀ i, Le3 T.g (grOut T cost nx i) := by
  intro i
  induction i with
  | zero => exact h
  | succ i ih => exact grIn_le ih _
theorem cntOf_le8 {T : Tb} (ok : TbOk T) {c : Nat} (h : c = 128 ∨ cTop c < T.n) (w : Nat) : cntOf T c w ≤ 8 := by
  unfold cntOf
  split
  · rename_i hu
    rcases h with h | h
    · rw [h, untr_128] at hu; cases hu
    · exact cnt_le ok _ h
  · omega
set_option maxRecDepth 20000 in
theorem lp_spread {σ0 : AHp} {p c d : Nat} {T : Tb} (hT0 : TbP σ0 p T) (ok : TbOk T) (hp : 245 ≤ p) {fc fd : Nat → Nat} {R : Rs} (hr : RdOk T R) (h1 : cd R 1 = 128) (hfc : Le3 T.g fc) (hfd : Le3 T.g fd) : ∀ (n k : Nat) (f' : Nat → Nat) (σ : AHp) (x4 : Option Value), T.g - k = n → k ≤ T.g → f' = sprK T (cd R 0) fc fd k → PaP σ c d fc f' R → (∀ j, j < 238 ∨ 245 ≤ j → σ j = σ0 j) → Run M_X4_spread 16 [some (.ref 238), some (.ref p), some (.int (nI (cntOf T (cd R 0) T.so))), some (.int (nI k)), x4] [] σ 0 0 (fun r σ => r = none ∧ PaP σ c d fc (sprF T (cd R 0) fc fd) R ∧ Fr σ0 σ 238 7) := by
  intro n
  induction n using Nat.strongRecOn
  rename_i n ih
  intro k f' σ x4 hm hk hf' hPa hfr
  obtain ⟨hP, hC, hX, hRP, hcd⟩ := id hPa
  obtain ⟨hr0, hR, -⟩ := id hRP
  have hTP : TbP σ p T := hT0.kept (fun j h1 h2 => hfr j (by omega))
  obtain ⟨hp0, hT, -⟩ := id hTP
  have hg8 := ok.2.1
  have hso := so_lt ok
  have hle : Le3 T.g f' := by rw [hf']; exact sprK_le hfd k
  have hc8 := cntOf_le ok hr 0 T.so
  refine R_iload_n a_X4_spread_16 rfl ?_
  refine R_aload_n a_X4_spread_17 rfl ?_
  refine R_get a_X4_spread_18 hT rfl ?_
  first | with_reducible refine R_icmp_ge_n a_X4_spread_21 (by omega) (by omega) (fun h21 => ?_) (fun h21 => ?_) | refine R_icmp_ge a_X4_spread_21 (fun h21 => ?_) (fun h21 => ?_)
  · skip
    have hke : k = T.g := by omega
    subst hke
    refine R_vret a_X4_spread_86 rfl ?_
    exact ⟨rfl, by unfold sprF; rw [← hf']; exact hPa, hfr⟩
  · skip
    have hto := comesF_lt (T := T) (a := k) (c := cd R 0) (d := 128) (w := T.so) (law := T.law) (by omega) (show k < T.g by omega)
    have hlt := hle _ hto
    have hck := hfc k (by omega)
    refine R_aload_n a_X4_spread_24 rfl ?_
    refine R_get a_X4_spread_25 hP rfl ?_
    refine R_iload_n a_X4_spread_28 rfl ?_
    refine R_iald_n a_X4_spread_29 hC (by omega) (by decide) ?_
    refine R_sipush (v := nI 1000) a_X4_spread_30 rfl ?_
    first | with_reducible refine R_icmp_ge_n a_X4_spread_33 (by omega) (by omega) (fun h33 => ?_) (fun h33 => ?_) | refine R_icmp_ge a_X4_spread_33 (fun h33 => ?_) (fun h33 => ?_)
    · skip
      first | with_reducible refine R_iinc_n (ls' := [_, _, _, _, _]) a_X4_spread_80 rfl rfl rfl rfl ?_ | refine R_iinc (ls' := [_, _, _, _, _]) a_X4_spread_80 rfl rfl rfl rfl rfl ?_
      refine R_goto a_X4_spread_83 ?_
      first
      | exact ih _ (show T.g - (k + 1) < n by omega) (k + 1) f' σ _ rfl (by omega) (by rw [hf']; simp only [sprK]; rw [if_neg (by omega)]) ⟨hP, hC, hX, hRP, hcd⟩ hfr
      | exact ih _ (show T.g - (k + 1) < n by omega) (k + 1) _ σ _ rfl (by omega) (by rw [hf']; simp only [sprK]; rw [if_pos h33]) ⟨hP, hC, hX, hRP.kept (fun j h1 h2 => ho j (by omega)), hcd⟩ hfr
    · skip
      refine R_aload_n a_X4_spread_36 rfl ?_
      refine R_aload_n a_X4_spread_37 rfl ?_
      refine R_get a_X4_spread_38 hT rfl ?_
      refine R_aload_n a_X4_spread_41 rfl ?_
      refine R_get a_X4_spread_42 hT rfl ?_
      refine R_iload_n a_X4_spread_45 rfl ?_
      refine R_aload_n a_X4_spread_46 rfl ?_
      refine R_get a_X4_spread_47 hP rfl ?_
      refine R_callVp a_X4_spread_50 hT (show EvP M_X8_landing [.ref p, .int (nI T.law), .int (nI T.so), .int (nI k), .ref 241] σ (.int (nI (comesF T k (cd R 0) 128 T.so T.law))) from by have := ev_landing hTP ok hRP hr (show k < T.g by omega) (show T.so < 2 ^ 31 by omega) ok.2.2.2.2.1; rw [h1] at this; exact this) rfl rfl rfl rfl rfl ?_
      refine R_istore (ls' := [_, _, _, _, _]) a_X4_spread_53 rfl rfl rfl ?_
      refine R_aload_n a_X4_spread_55 rfl ?_
      refine R_get a_X4_spread_56 hP rfl ?_
      refine R_iload a_X4_spread_59 rfl ?_
      refine R_aload_n a_X4_spread_61 rfl ?_
      refine R_get a_X4_spread_62 hP rfl ?_
      refine R_iload a_X4_spread_65 rfl ?_
      refine R_iald_n a_X4_spread_67 hX (by omega) (by decide) ?_
      refine R_aload_n a_X4_spread_68 rfl ?_
      refine R_get a_X4_spread_69 hP rfl ?_
      refine R_iload_n a_X4_spread_72 rfl ?_
      refine R_iald_n a_X4_spread_73 hC (by omega) (by decide) ?_
      refine R_iload_n a_X4_spread_74 rfl ?_
      first | with_reducible refine R_iadd_n a_X4_spread_75 ?_ | refine R_iadd a_X4_spread_75 ?_
      refine R_min a_X4_spread_76 ml_X4_66 rfl rfl ?_
      refine R_top (min_nn (by omega) (by omega)) ?_
      refine R_iastK a_X4_spread_79 (by omega) hX (by omega) (by decide) (fun σ hX ho => ?_)
      have hP := (ho _ (by omega)).trans hP
      have hC := (ho _ (by omega)).trans hC
      have hT := (ho _ (by omega)).trans hT
      have hfr : ∀ j, j < 238 ∨ 245 ≤ j → σ j = σ0 j := fun j hj => (ho j (by omega)).trans (hfr j hj)
      rw [nF_upd] at hX
      first | with_reducible refine R_iinc_n (ls' := [_, _, _, _, _]) a_X4_spread_80 rfl rfl rfl rfl ?_ | refine R_iinc (ls' := [_, _, _, _, _]) a_X4_spread_80 rfl rfl rfl rfl rfl ?_
      refine R_goto a_X4_spread_83 ?_
      first
      | exact ih _ (show T.g - (k + 1) < n by omega) (k + 1) f' σ _ rfl (by omega) (by rw [hf']; simp only [sprK]; rw [if_neg (by omega)]) ⟨hP, hC, hX, hRP, hcd⟩ hfr
      | exact ih _ (show T.g - (k + 1) < n by omega) (k + 1) _ σ _ rfl (by omega) (by rw [hf']; simp only [sprK]; rw [if_pos h33]) ⟨hP, hC, hX, hRP.kept (fun j h1 h2 => ho j (by omega)), hcd⟩ hfr

set_option maxRecDepth 20000 in
theorem ev_spread {σ0 : AHp} {p c d : Nat} {T : Tb} (hT0 : TbP σ0 p T) (ok : TbOk T) (hp : 245 ≤ p) {fc fd : Nat → Nat} {R : Rs} (hr : RdOk T R) (h1 : cd R 1 = 128) (hfc : Le3 T.g fc) (hfd : Le3 T.g fd) (hPa : PaP σ0 c d fc fd R) : EvW M_X4_spread [.ref 238, .ref p] σ0 none (fun σ => PaP σ c d fc (sprF T (cd R 0) fc fd) R ∧ Fr σ0 σ 238 7) := by
  obtain ⟨hP, hC, hX, hRP, hcd⟩ := id hPa
  obtain ⟨hr0, hR, -⟩ := id hRP
  obtain ⟨hp0, hT, -⟩ := id hT0
  have hso := so_lt ok
  refine Ev.of (ls := [_, _, _, _, _]) 3 (by decide) rfl rfl ?_
  refine R_aload_n a_X4_spread_0 rfl ?_
  refine R_get a_X4_spread_1 hP rfl ?_
  refine R_aload_n a_X4_spread_4 rfl ?_
  refine R_iconst (v := nI 0) a_X4_spread_5 rfl ?_
  refine R_aload_n a_X4_spread_6 rfl ?_
  refine R_get a_X4_spread_7 hT rfl ?_
  refine R_callVp a_X4_spread_10 hR (ev_Rtally hRP ok hr hT0 (k := 0) (by decide) (show T.so < 2 ^ 31 by omega)) rfl rfl rfl rfl rfl ?_
  refine R_istore_n (ls' := [_, _, _, _, _]) a_X4_spread_13 rfl rfl rfl ?_
  refine R_iconst (v := nI 0) a_X4_spread_14 rfl ?_
  refine R_istore_n (ls' := [_, _, _, _, _]) a_X4_spread_15 rfl rfl rfl ?_
  exact lp_spread hT0 ok hp hr h1 hfc hfd _ 0 fd σ0 _ rfl (Nat.zero_le _) rfl hPa (fun _ _ => rfl)

set_option maxRecDepth 20000 in
theorem ev_hear {σ0 : AHp} {c d i t so : Nat} {fc fd : Nat → Nat} {R : Rs} (hso : so ≤ 1) (hPa : PaP σ0 c d fc fd R) : EvW M_X4_hear [.ref 238, .int (nI i), .int (nI t), .int (nI so)] σ0 none (fun σ => PaP σ c d fc fd (rd1 R i t so) ∧ Fr σ0 σ 238 7) := by
  obtain ⟨hP, hC, hX, hRP, hcd⟩ := id hPa
  obtain ⟨hr0, hR, -⟩ := id hRP
  refine Ev.of (ls := [_, _, _, _]) 0 (by decide) rfl rfl ?_
  refine R_aload_n a_X4_hear_0 rfl ?_
  refine R_get a_X4_hear_1 hP rfl ?_
  refine R_callVv a_X4_hear_4 hR (ev_Rclear hRP) rfl rfl rfl rfl rfl (fun σ hP_ => ?_)
  obtain ⟨hRP, hfA⟩ := hP_
  obtain ⟨hr0, hR, -⟩ := id hRP
  have hP := (hfA 238 (by omega)).trans hP
  refine R_aload_n a_X4_hear_7 rfl ?_
  refine R_get a_X4_hear_8 hP rfl ?_
  refine R_iload_n a_X4_hear_11 rfl ?_
  refine R_iload_n a_X4_hear_12 rfl ?_
  refine R_iload_n a_X4_hear_13 rfl ?_
  refine R_callVv a_X4_hear_14 hR (ev_Radd hRP (show 0 < 2 by decide) hso) rfl rfl rfl rfl rfl (fun σ hP_ => ?_)
  obtain ⟨hRP, hfB⟩ := hP_
  have hP := (hfB 238 (by omega)).trans hP
  have hC := (hfB c (by omega)).trans ((hfA c (by omega)).trans hC)
  have hX := (hfB d (by omega)).trans ((hfA d (by omega)).trans hX)
  refine R_vret a_X4_hear_17 rfl ?_
  exact ⟨rfl, ⟨hP, hC, hX, hRP, hcd⟩, fun j hj => (hfB j (by omega)).trans (hfA j (by omega))⟩

set_option maxRecDepth 20000 in
theorem lp_pbegin {σ0 : AHp} {p c d : Nat} {T : Tb} (hT0 : TbP σ0 p T) (ok : TbOk T) (hp : 245 ≤ p) {s : Nat} {fd : Nat → Nat} {R : Rs} (hs : s < T.g) : ∀ (n k : Nat) (f : Nat → Nat) (σ : AHp), T.g - k = n → k ≤ T.g → (∀ j, j < k → f j = if j = s then 0 else 1000) → PaP σ c d f fd R → (∀ j, j < 238 ∨ 245 ≤ j → σ j = σ0 j) → Run M_X4_begin 2 [some (.ref 238), some (.ref p), some (.int (nI s)), some (.int (nI k))] [] σ 0 0 (fun r σ => r = none ∧ (∃ f, PaP σ c d f fd R ∧ ∀ j, j < T.g → f j = if j = s then 0 else 1000) ∧ Fr σ0 σ 238 7) := by
  intro n
  induction n using Nat.strongRecOn
  rename_i n ih
  intro k f σ hm hk hf hPa hfr
  obtain ⟨hP, hC, hX, hRP, hcd⟩ := id hPa
  have hTP : TbP σ p T := hT0.kept (fun j h1 h2 => hfr j (by omega))
  obtain ⟨hp0, hT, -⟩ := id hTP
  have hg8 := ok.2.1
  refine R_iload_n a_X4_begin_2 rfl ?_
  refine R_aload_n a_X4_begin_3 rfl ?_
  refine R_get a_X4_begin_4 hT rfl ?_
  first | with_reducible refine R_icmp_ge_n a_X4_begin_7 (by omega) (by omega) (fun h7 => ?_) (fun h7 => ?_) | refine R_icmp_ge a_X4_begin_7 (fun h7 => ?_) (fun h7 => ?_)
  · skip
    have hke : k = T.g := by omega
    subst hke
    refine R_vret a_X4_begin_34 rfl ?_
    exact ⟨rfl, ⟨f, hPa, hf⟩, hfr⟩
  · skip
    refine R_aload_n a_X4_begin_10 rfl ?_
    refine R_get a_X4_begin_11 hP rfl ?_
    refine R_iload_n a_X4_begin_14 rfl ?_
    refine R_iload_n a_X4_begin_15 rfl ?_
    refine R_iload_n a_X4_begin_16 rfl ?_
    first | with_reducible refine R_icmp_ne_n a_X4_begin_17 (by omega) (by omega) (fun h17 => ?_) (fun h17 => ?_) | refine R_icmp_ne a_X4_begin_17 (fun h17 => ?_) (fun h17 => ?_)
    · skip
      refine R_sipush (v := nI 1000) a_X4_begin_24 rfl ?_
      refine R_iastK a_X4_begin_27 (by omega) hC (by omega) (by decide) (fun σ hC ho => ?_)
      have hP := (ho _ (by omega)).trans hP
      have hX := (ho _ (by omega)).trans hX
      have hT := (ho _ (by omega)).trans hT
      have hfr : ∀ j, j < 238 ∨ 245 ≤ j → σ j = σ0 j := fun j hj => (ho j (by omega)).trans (hfr j hj)
      rw [nF_upd] at hC
      first | with_reducible refine R_iinc_n (ls' := [_, _, _, _]) a_X4_begin_28 rfl rfl rfl rfl ?_ | refine R_iinc (ls' := [_, _, _, _]) a_X4_begin_28 rfl rfl rfl rfl rfl ?_
      refine R_goto a_X4_begin_31 ?_
      refine ih _ (show T.g - (k + 1) < n by omega) (k + 1) _ σ rfl (by omega) (fun j hj => ?_) ⟨hP, hC, hX, hRP.kept (fun j h1 h2 => ho j (by omega)), hcd⟩ hfr
      by_cases e : j = k
      · rw [e, uN_self]; first | rw [if_pos (by omega)] | rw [if_neg (by omega)]
      · rw [uN_ne _ _ e]; exact hf j (by omega)
    · skip
      refine R_iconst (v := nI 0) a_X4_begin_20 rfl ?_
      refine R_goto a_X4_begin_21 ?_
      refine R_iastK a_X4_begin_27 (by omega) hC (by omega) (by decide) (fun σ hC ho => ?_)
      have hP := (ho _ (by omega)).trans hP
      have hX := (ho _ (by omega)).trans hX
      have hT := (ho _ (by omega)).trans hT
      have hfr : ∀ j, j < 238 ∨ 245 ≤ j → σ j = σ0 j := fun j hj => (ho j (by omega)).trans (hfr j hj)
      rw [nF_upd] at hC
      first | with_reducible refine R_iinc_n (ls' := [_, _, _, _]) a_X4_begin_28 rfl rfl rfl rfl ?_ | refine R_iinc (ls' := [_, _, _, _]) a_X4_begin_28 rfl rfl rfl rfl rfl ?_
      refine R_goto a_X4_begin_31 ?_
      refine ih _ (show T.g - (k + 1) < n by omega) (k + 1) _ σ rfl (by omega) (fun j hj => ?_) ⟨hP, hC, hX, hRP.kept (fun j h1 h2 => ho j (by omega)), hcd⟩ hfr
      by_cases e : j = k
      · rw [e, uN_self]; first | rw [if_pos (by omega)] | rw [if_neg (by omega)]
      · rw [uN_ne _ _ e]; exact hf j (by omega)

set_option maxRecDepth 20000 in
theorem ev_pbegin {σ0 : AHp} {p c d : Nat} {T : Tb} (hT0 : TbP σ0 p T) (ok : TbOk T) (hp : 245 ≤ p) {s : Nat} {fc fd : Nat → Nat} {R : Rs} (hs : s < T.g) (hPa : PaP σ0 c d fc fd R) : EvW M_X4_begin [.ref 238, .ref p, .int (nI s)] σ0 none (fun σ => (∃ f, PaP σ c d f fd R ∧ ∀ j, j < T.g → f j = if j = s then 0 else 1000) ∧ Fr σ0 σ 238 7) := by
  refine Ev.of (ls := [_, _, _, _]) 1 (by decide) rfl rfl ?_
  refine R_iconst (v := nI 0) a_X4_begin_0 rfl ?_
  refine R_istore_n (ls' := [_, _, _, _]) a_X4_begin_1 rfl rfl rfl ?_
  exact lp_pbegin hT0 ok hp hs _ 0 fc σ0 rfl (Nat.zero_le _) (fun j hj => absurd hj (by omega)) hPa (fun _ _ => rfl)

set_option maxRecDepth 20000 in
theorem ev_costOf {σ : AHp} {c d k : Nat} {fc fd : Nat → Nat} {R : Rs} (hPa : PaP σ c d fc fd R) (hk : k < 8) (hf : fc k ≤ 1000) : EvP M_X4_costOf [.ref 238, .int (nI k)] σ (.int (if fc k < 1000 then nI (fc k) else -4)) := by
  obtain ⟨hP, hC, hX, hRP, hcd⟩ := id hPa
  refine Ev.of (ls := [_, _]) 0 (by decide) rfl rfl ?_
  refine R_aload_n a_X4_costOf_0 rfl ?_
  refine R_get a_X4_costOf_1 hP rfl ?_
  refine R_iload_n a_X4_costOf_4 rfl ?_
  refine R_iald_n a_X4_costOf_5 hC (by omega) (by decide) ?_
  refine R_sipush (v := nI 1000) a_X4_costOf_6 rfl ?_
  first | with_reducible refine R_icmp_ge_n a_X4_costOf_9 (by omega) (by omega) (fun h9 => ?_) (fun h9 => ?_) | refine R_icmp_ge a_X4_costOf_9 (fun h9 => ?_) (fun h9 => ?_)
  · skip
    refine R_bipush (v := (-4)) a_X4_costOf_21 rfl ?_
    refine R_iret a_X4_costOf_23 rfl ?_
    exact ⟨by first | rw [if_pos (by omega)] | rw [if_neg (by omega)], rfl⟩
  · skip
    refine R_aload_n a_X4_costOf_12 rfl ?_
    refine R_get a_X4_costOf_13 hP rfl ?_
    refine R_iload_n a_X4_costOf_16 rfl ?_
    refine R_iald_n a_X4_costOf_17 hC (by omega) (by decide) ?_
    refine R_goto a_X4_costOf_18 ?_
    refine R_iret a_X4_costOf_23 rfl ?_
    exact ⟨by first | rw [if_pos (by omega)] | rw [if_neg (by omega)], rfl⟩

set_option maxRecDepth 20000 in
theorem lp_grIn {σ0 : AHp} {p c d : Nat} {T : Tb} (hT0 : TbP σ0 p T) (ok : TbOk T) (hp : 245 ≤ p) {fc nx0 f1 : Nat → Nat} {i : Nat} (hi : i < T.g) (hfc : Le3 T.g fc) (hf1 : Le3 T.g f1) (hout : ∀ (σ : AHp) (R : Rs) (x3 : Option Value), PaP σ c d fc (grIn T fc i f1 T.n) R → (∀ j, j < 238 ∨ 245 ≤ j → σ j = σ0 j) → Run M_X4_goOneRound 39 [some (.ref 238), some (.ref p), some (.int (nI (i + 1))), x3] [] σ 0 0 (fun r σ => r = none ∧ (∃ R', PaP σ d c (grF T fc nx0) fc R') ∧ Fr σ0 σ 238 7)) : ∀ (n t : Nat) (σ : AHp) (R : Rs), T.n - t = n → t ≤ T.n → PaP σ c d fc (grIn T fc i f1 t) R → (∀ j, j < 238 ∨ 245 ≤ j → σ j = σ0 j) → Run M_X4_goOneRound 49 [some (.ref 238), some (.ref p), some (.int (nI i)), some (.int (nI t))] [] σ 0 0 (fun r σ => r = none ∧ (∃ R', PaP σ d c (grF T fc nx0) fc R') ∧ Fr σ0 σ 238 7) := by
  intro n
  induction n using Nat.strongRecOn
  rename_i n ih
  intro t σ R hm ht hPa hfr
  obtain ⟨hP, hC, hX, hRP, hcd⟩ := id hPa
  have hTP : TbP σ p T := hT0.kept (fun j h1 h2 => hfr j (by omega))
  obtain ⟨hp0, hT, -⟩ := id hTP
  have hg8 := ok.2.1
  have hn6 := ok.2.2.2.1
  have hb1 : bitN (T.kn i) t ≤ 1 := by unfold bitN; omega
  have hle := grIn_le (cost := fc) (i := i) hf1 t
  refine R_iload_n a_X4_goOneRound_49 rfl ?_
  refine R_aload_n a_X4_goOneRound_50 rfl ?_
  refine R_get a_X4_goOneRound_51 hT rfl ?_
  first | with_reducible refine R_icmp_ge_n a_X4_goOneRound_54 (by omega) (by omega) (fun h54 => ?_) (fun h54 => ?_) | refine R_icmp_ge a_X4_goOneRound_54 (fun h54 => ?_) (fun h54 => ?_)
  · skip
    first | with_reducible refine R_iinc_n (ls' := [_, _, _, _]) a_X4_goOneRound_96 rfl rfl rfl rfl ?_ | refine R_iinc (ls' := [_, _, _, _]) a_X4_goOneRound_96 rfl rfl rfl rfl rfl ?_
    refine R_goto a_X4_goOneRound_99 ?_
    have hte : t = T.n := by omega
    subst hte
    exact hout σ R _ hPa hfr
  · skip
    refine R_aload_n a_X4_goOneRound_57 rfl ?_
    refine R_iload_n a_X4_goOneRound_58 rfl ?_
    refine R_iload_n a_X4_goOneRound_59 rfl ?_
    refine R_callVp a_X4_goOneRound_60 hT (ev_knows hTP ok hi (show t < T.n by omega)) rfl rfl rfl rfl rfl ?_
    first | with_reducible refine R_if_eq_n a_X4_goOneRound_63 (by omega) (fun h63 => ?_) (fun h63 => ?_) | refine R_if_eq a_X4_goOneRound_63 (fun h63 => ?_) (fun h63 => ?_)
    · skip
      first | with_reducible refine R_iinc_n (ls' := [_, _, _, _]) a_X4_goOneRound_90 rfl rfl rfl rfl ?_ | refine R_iinc (ls' := [_, _, _, _]) a_X4_goOneRound_90 rfl rfl rfl rfl rfl ?_
      refine R_goto a_X4_goOneRound_93 ?_
      first
      | exact ih _ (show T.n - (t + 1) < n by omega) (t + 1) σ _ rfl (by omega) (by simp only [grIn]; rw [if_neg (by omega)]; exact hPa) hfr
      | exact ih _ (show T.n - (t + 1) < n by omega) (t + 1) σ _ rfl (by omega) (by simp only [grIn]; rw [if_pos (by omega)]; exact hPa) hfr
    · skip
      refine R_aload_n a_X4_goOneRound_66 rfl ?_
      refine R_iload_n a_X4_goOneRound_67 rfl ?_
      refine R_iload_n a_X4_goOneRound_68 rfl ?_
      refine R_iconst (v := nI 1) a_X4_goOneRound_69 rfl ?_
      refine R_callVv a_X4_goOneRound_70 hP (ev_hear (by decide) hPa) rfl rfl rfl rfl rfl (fun σ hP_ => ?_)
      obtain ⟨hPa, hfA⟩ := hP_
      obtain ⟨hP, hC, hX, hRP, hcd⟩ := id hPa
      have hfr : ∀ j, j < 238 ∨ 245 ≤ j → σ j = σ0 j := fun j hj => (hfA j (by omega)).trans (hfr j hj)
      have hTP : TbP σ p T := hT0.kept (fun j h1 h2 => hfr j (by omega))
      obtain ⟨hp0, hT, -⟩ := id hTP
      refine R_aload_n a_X4_goOneRound_73 rfl ?_
      refine R_aload_n a_X4_goOneRound_74 rfl ?_
      refine R_callVv a_X4_goOneRound_75 hP (ev_spread hTP ok hp (rd1_ok hi (show t < T.n by omega) (by decide)) rfl hfc hle hPa) rfl rfl rfl rfl rfl (fun σ hP_ => ?_)
      obtain ⟨hPa, hfA⟩ := hP_
      obtain ⟨hP, hC, hX, hRP, hcd⟩ := id hPa
      have hfr : ∀ j, j < 238 ∨ 245 ≤ j → σ j = σ0 j := fun j hj => (hfA j (by omega)).trans (hfr j hj)
      have hTP : TbP σ p T := hT0.kept (fun j h1 h2 => hfr j (by omega))
      obtain ⟨hp0, hT, -⟩ := id hTP
      refine R_aload_n a_X4_goOneRound_78 rfl ?_
      refine R_iload_n a_X4_goOneRound_79 rfl ?_
      refine R_iload_n a_X4_goOneRound_80 rfl ?_
      refine R_iconst (v := nI 0) a_X4_goOneRound_81 rfl ?_
      refine R_callVv a_X4_goOneRound_82 hP (ev_hear (by decide) hPa) rfl rfl rfl rfl rfl (fun σ hP_ => ?_)
      obtain ⟨hPa, hfA⟩ := hP_
      obtain ⟨hP, hC, hX, hRP, hcd⟩ := id hPa
      have hfr : ∀ j, j < 238 ∨ 245 ≤ j → σ j = σ0 j := fun j hj => (hfA j (by omega)).trans (hfr j hj)
      have hTP : TbP σ p T := hT0.kept (fun j h1 h2 => hfr j (by omega))
      obtain ⟨hp0, hT, -⟩ := id hTP
      refine R_aload_n a_X4_goOneRound_85 rfl ?_
      refine R_aload_n a_X4_goOneRound_86 rfl ?_
      refine R_callVv a_X4_goOneRound_87 hP (ev_spread hTP ok hp (rd1_ok hi (show t < T.n by omega) (by decide)) rfl hfc (sprK_le hle _) hPa) rfl rfl rfl rfl rfl (fun σ hP_ => ?_)
      obtain ⟨hPa, hfA⟩ := hP_
      obtain ⟨hP, hC, hX, hRP, hcd⟩ := id hPa
      have hfr : ∀ j, j < 238 ∨ 245 ≤ j → σ j = σ0 j := fun j hj => (hfA j (by omega)).trans (hfr j hj)
      have hTP : TbP σ p T := hT0.kept (fun j h1 h2 => hfr j (by omega))
      obtain ⟨hp0, hT, -⟩ := id hTP
      first | with_reducible refine R_iinc_n (ls' := [_, _, _, _]) a_X4_goOneRound_90 rfl rfl rfl rfl ?_ | refine R_iinc (ls' := [_, _, _, _]) a_X4_goOneRound_90 rfl rfl rfl rfl rfl ?_
      refine R_goto a_X4_goOneRound_93 ?_
      first
      | exact ih _ (show T.n - (t + 1) < n by omega) (t + 1) σ _ rfl (by omega) (by simp only [grIn]; rw [if_neg (by omega)]; exact hPa) hfr
      | exact ih _ (show T.n - (t + 1) < n by omega) (t + 1) σ _ rfl (by omega) (by simp only [grIn]; rw [if_pos (by omega)]; exact hPa) hfr

set_option maxRecDepth 20000 in
theorem lp_grOut {σ0 : AHp} {p c d : Nat} {T : Tb} (hT0 : TbP σ0 p T) (ok : TbOk T) (hp : 245 ≤ p) {fc nx0 : Nat → Nat} (hfc : Le3 T.g fc) (hnx : Le3 T.g nx0) : ∀ (n i : Nat) (σ : AHp) (R : Rs) (x3 : Option Value), T.g - i = n → i ≤ T.g → PaP σ c d fc (grOut T fc (sprF T 128 fc nx0) i) R → (∀ j, j < 238 ∨ 245 ≤ j → σ j = σ0 j) → Run M_X4_goOneRound 39 [some (.ref 238), some (.ref p), some (.int (nI i)), x3] [] σ 0 0 (fun r σ => r = none ∧ (∃ R', PaP σ d c (grF T fc nx0) fc R') ∧ Fr σ0 σ 238 7) := by
  intro n
  induction n using Nat.strongRecOn
  rename_i n ih
  intro i σ R x3 hm hi hPa hfr
  obtain ⟨hP, hC, hX, hRP, hcd⟩ := id hPa
  have hTP : TbP σ p T := hT0.kept (fun j h1 h2 => hfr j (by omega))
  obtain ⟨hp0, hT, -⟩ := id hTP
  have hg8 := ok.2.1
  have hn6 := ok.2.2.2.1
  refine R_iload_n a_X4_goOneRound_39 rfl ?_
  refine R_aload_n a_X4_goOneRound_40 rfl ?_
  refine R_get a_X4_goOneRound_41 hT rfl ?_
  first | with_reducible refine R_icmp_ge_n a_X4_goOneRound_44 (by omega) (by omega) (fun h44 => ?_) (fun h44 => ?_) | refine R_icmp_ge a_X4_goOneRound_44 (fun h44 => ?_) (fun h44 => ?_)
  · skip
    have hie : i = T.g := by omega
    subst hie
    refine R_aload_n a_X4_goOneRound_102 rfl ?_
    refine R_get a_X4_goOneRound_103 hP rfl ?_
    refine R_astore_n (ls' := [_, _, _, _]) a_X4_goOneRound_106 rfl rfl rfl ?_
    refine R_aload_n a_X4_goOneRound_107 rfl ?_
    refine R_aload_n a_X4_goOneRound_108 rfl ?_
    refine R_get a_X4_goOneRound_109 hP rfl ?_
    refine R_putaK (fs' := [_, _, _]) a_X4_goOneRound_112 hP (fun _ => ⟨rfl, rfl⟩) rfl rfl (fun σ hP ho => ?_)
    have hC := (ho _ (by omega)).trans hC
    have hX := (ho _ (by omega)).trans hX
    have hfr : ∀ j, j < 238 ∨ 245 ≤ j → σ j = σ0 j := fun j hj => (ho j (by omega)).trans (hfr j hj)
    have hRP := hRP.kept (fun j h1 h2 => ho j (by omega))
    refine R_aload_n a_X4_goOneRound_115 rfl ?_
    refine R_aload_n a_X4_goOneRound_116 rfl ?_
    refine R_putaK (fs' := [_, _, _]) a_X4_goOneRound_117 hP (fun _ => ⟨rfl, rfl⟩) rfl rfl (fun σ hP ho => ?_)
    have hC := (ho _ (by omega)).trans hC
    have hX := (ho _ (by omega)).trans hX
    have hfr : ∀ j, j < 238 ∨ 245 ≤ j → σ j = σ0 j := fun j hj => (ho j (by omega)).trans (hfr j hj)
    have hRP := hRP.kept (fun j h1 h2 => ho j (by omega))
    refine R_vret a_X4_goOneRound_120 rfl ?_
    exact ⟨rfl, ⟨R, hP, hX, hC, hRP, by omega⟩, hfr⟩
  · skip
    refine R_iconst (v := nI 0) a_X4_goOneRound_47 rfl ?_
    refine R_istore_n (ls' := [_, _, _, _]) a_X4_goOneRound_48 rfl rfl rfl ?_
    exact lp_grIn hT0 ok hp (show i < T.g by omega) hfc (grOut_le (sprK_le hnx _) i) (fun σ R x3 hPa hf => ih _ (show T.g - (i + 1) < n by omega) (i + 1) σ R x3 rfl (by omega) hPa hf) _ 0 σ R rfl (Nat.zero_le _) hPa hfr

set_option maxRecDepth 20000 in
theorem lp_gr0 {σ0 : AHp} {p c d : Nat} {T : Tb} (hT0 : TbP σ0 p T) (ok : TbOk T) (hp : 245 ≤ p) {fc fd : Nat → Nat} {R : Rs} (hfc : Le3 T.g fc) : ∀ (n k : Nat) (nx0 : Nat → Nat) (σ : AHp) (x3 : Option Value), T.g - k = n → k ≤ T.g → (∀ j, j < k → nx0 j = 1000) → PaP σ c d fc nx0 R → (∀ j, j < 238 ∨ 245 ≤ j → σ j = σ0 j) → Run M_X4_goOneRound 2 [some (.ref 238), some (.ref p), some (.int (nI k)), x3] [] σ 0 0 (fun r σ => r = none ∧ (∃ nx0 R', (∀ j, j < T.g → nx0 j = 1000) ∧ PaP σ d c (grF T fc nx0) fc R') ∧ Fr σ0 σ 238 7) := by
  intro n
  induction n using Nat.strongRecOn
  rename_i n ih
  intro k nx0 σ x3 hm hk hn0 hPa hfr
  obtain ⟨hP, hC, hX, hRP, hcd⟩ := id hPa
  have hTP : TbP σ p T := hT0.kept (fun j h1 h2 => hfr j (by omega))
  obtain ⟨hp0, hT, -⟩ := id hTP
  have hg8 := ok.2.1
  have hn6 := ok.2.2.2.1
  obtain ⟨hr0, hR, -⟩ := id hRP
  refine R_iload_n a_X4_goOneRound_2 rfl ?_
  refine R_aload_n a_X4_goOneRound_3 rfl ?_
  refine R_get a_X4_goOneRound_4 hT rfl ?_
  first | with_reducible refine R_icmp_ge_n a_X4_goOneRound_7 (by omega) (by omega) (fun h7 => ?_) (fun h7 => ?_) | refine R_icmp_ge a_X4_goOneRound_7 (fun h7 => ?_) (fun h7 => ?_)
  · skip
    have hke : k = T.g := by omega
    subst hke
    have hle : Le3 T.g nx0 := fun j hj => by rw [hn0 j hj]; exact Nat.le_refl _
    refine R_aload_n a_X4_goOneRound_25 rfl ?_
    refine R_get a_X4_goOneRound_26 hP rfl ?_
    refine R_callVv a_X4_goOneRound_29 hR (ev_Rclear hRP) rfl rfl rfl rfl rfl (fun σ hP_ => ?_)
    obtain ⟨hRP, hfA⟩ := hP_
    obtain ⟨hr0, hR, -⟩ := id hRP
    have hP := (hfA 238 (by omega)).trans hP
    have hC := (hfA c (by omega)).trans hC
    have hX := (hfA d (by omega)).trans hX
    have hPa : PaP σ c d fc nx0 (0, R.w, R.tp, R.sd, R.fr, R.to, R.tb, R.li) := ⟨hP, hC, hX, hRP, hcd⟩
    have hfr : ∀ j, j < 238 ∨ 245 ≤ j → σ j = σ0 j := fun j hj => (hfA j (by omega)).trans (hfr j hj)
    have hTP : TbP σ p T := hT0.kept (fun j h1 h2 => hfr j (by omega))
    refine R_aload_n a_X4_goOneRound_32 rfl ?_
    refine R_aload_n a_X4_goOneRound_33 rfl ?_
    refine R_callVv a_X4_goOneRound_34 hP (ev_spread hTP ok hp (R := (0, R.w, R.tp, R.sd, R.fr, R.to, R.tb, R.li)) ⟨(by decide : 0 ≤ 2), fun k hk => absurd hk (Nat.not_lt_zero k)⟩ rfl hfc hle hPa) rfl rfl rfl rfl rfl (fun σ hP_ => ?_)
    obtain ⟨hPa, hfA⟩ := hP_
    obtain ⟨hP, hC, hX, hRP, hcd⟩ := id hPa
    have hfr : ∀ j, j < 238 ∨ 245 ≤ j → σ j = σ0 j := fun j hj => (hfA j (by omega)).trans (hfr j hj)
    have hTP : TbP σ p T := hT0.kept (fun j h1 h2 => hfr j (by omega))
    obtain ⟨hp0, hT, -⟩ := id hTP
    refine R_iconst (v := nI 0) a_X4_goOneRound_37 rfl ?_
    refine R_istore_n (ls' := [_, _, _, _]) a_X4_goOneRound_38 rfl rfl rfl ?_
    refine Run.eqQ (lp_grOut hT0 ok hp (nx0 := nx0) hfc hle _ 0 σ _ _ rfl (Nat.zero_le _) hPa hfr) (fun r σ hq => ?_)
    obtain ⟨q1, ⟨R', q2⟩, q3⟩ := hq
    exact ⟨q1, ⟨nx0, R', hn0, q2⟩, q3⟩
  · skip
    refine R_aload_n a_X4_goOneRound_10 rfl ?_
    refine R_get a_X4_goOneRound_11 hP rfl ?_
    refine R_iload_n a_X4_goOneRound_14 rfl ?_
    refine R_sipush (v := nI 1000) a_X4_goOneRound_15 rfl ?_
    refine R_iastK a_X4_goOneRound_18 (by omega) hX (by omega) (by decide) (fun σ hX ho => ?_)
    have hP := (ho _ (by omega)).trans hP
    have hC := (ho _ (by omega)).trans hC
    have hT := (ho _ (by omega)).trans hT
    have hfr : ∀ j, j < 238 ∨ 245 ≤ j → σ j = σ0 j := fun j hj => (ho j (by omega)).trans (hfr j hj)
    rw [nF_upd] at hX
    first | with_reducible refine R_iinc_n (ls' := [_, _, _, _]) a_X4_goOneRound_19 rfl rfl rfl rfl ?_ | refine R_iinc (ls' := [_, _, _, _]) a_X4_goOneRound_19 rfl rfl rfl rfl rfl ?_
    refine R_goto a_X4_goOneRound_22 ?_
    refine ih _ (show T.g - (k + 1) < n by omega) (k + 1) _ σ _ rfl (by omega) (fun j hj => ?_) ⟨hP, hC, hX, hRP.kept (fun j h1 h2 => ho j (by omega)), hcd⟩ hfr
    by_cases e : j = k
    · rw [e, uN_self]
    · rw [uN_ne _ _ e]; exact hn0 j (by omega)

set_option maxRecDepth 20000 in
theorem ev_goOne {σ0 : AHp} {p c d : Nat} {T : Tb} (hT0 : TbP σ0 p T) (ok : TbOk T) (hp : 245 ≤ p) {fc fd : Nat → Nat} {R : Rs} (hfc : Le3 T.g fc) (hPa : PaP σ0 c d fc fd R) : EvW M_X4_goOneRound [.ref 238, .ref p] σ0 none (fun σ => (∃ nx0 R', (∀ j, j < T.g → nx0 j = 1000) ∧ PaP σ d c (grF T fc nx0) fc R') ∧ Fr σ0 σ 238 7) := by
  refine Ev.of (ls := [_, _, _, _]) 2 (by decide) rfl rfl ?_
  refine R_iconst (v := nI 0) a_X4_goOneRound_0 rfl ?_
  refine R_istore_n (ls' := [_, _, _, _]) a_X4_goOneRound_1 rfl rfl rfl ?_
  exact lp_gr0 hT0 ok hp (fd := fd) hfc _ 0 fd σ0 _ rfl (Nat.zero_le _) (fun j hj => absurd hj (by omega)) hPa (fun _ _ => rfl)

