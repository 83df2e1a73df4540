/-! ===== Ways ===== -/
def expH (T : Tb) (h : Hs) (law w : Nat) : Nat → Bool
  | 0 => true
  | k + 1 => expH T h law w k && decide (comesF T (saltF T (h.drop (k + 1))) (hAt h k).1 (hAt h k).2 w law = saltF T (h.drop k))
def explF (T : Tb) (h : Hs) (law w : Nat) : Bool := expH T h law w (min h.length 10)
theorem expH_f {T : Tb} {h : Hs} {law w : Nat} : ∀ {n k : Nat}, k ≤ n → expH T h law w k = false → expH T h law w n = false := by
  intro n
  induction n with
  | zero => intro k hk hf; obtain rfl : k = 0 := by omega
            exact hf
  | succ n ih =>
    intro k hk hf
    rcases Nat.lt_or_ge n k with q | q
    · obtain rfl : k = n + 1 := by omega
      exact hf
    · rw [expH, ih q hf]; rfl
def nfK (P : Nat → Bool) : Nat → Nat
  | 0 => 0
  | k + 1 => nfK P k + b2n (P k)
def loK (P : Nat → Bool) : Nat → Option Nat
  | 0 => none
  | k + 1 => match loK P k with
    | some x => some x
    | none => if P k = true then some k else none
def alK (P : Nat → Bool) (all : Nat) : Nat → Nat
  | 0 => all
  | k + 1 => if P k = true then alK P all k &&& k else alK P all k
def neK (P : Nat → Bool) (all : Nat) : Nat → Nat
  | 0 => all
  | k + 1 => if P k = true then neK P all k &&& (63 ^^^ k) else neK P all k
def wsK (P : Nat → Bool) (t : Nat) : Nat → Nat
  | 0 => 0
  | k + 1 => wsK P t k + (if P k = true then bitN k t else 0)
def lowI (o : Option Nat) : Int32 := match o with
  | none => -4
  | some x => nI x
theorem nfK_le (P : Nat → Bool) : ∀ k, nfK P k ≤ k := by
  intro k
  induction k with
  | zero => exact Nat.le_refl 0
  | succ k ih => have := b2n_le (P k); simp only [nfK]; omega
theorem wsK_le (P : Nat → Bool) (t : Nat) : ∀ k, wsK P t k ≤ nfK P k := by
  intro k
  induction k with
  | zero => exact Nat.le_refl 0
  | succ k ih =>
    simp only [wsK, nfK]
    have hb : bitN k t ≤ 1 := by unfold bitN; omega
    cases hp : P k
    · simp [b2n]; exact ih
    · simp only [if_true, b2n]; omega
theorem loK_nf (P : Nat → Bool) : ∀ k, nfK P k = 0 ↔ loK P k = none := by
  intro k
  induction k with
  | zero => simp [nfK, loK]
  | succ k ih =>
    simp only [nfK, loK]
    cases hp : P k
    · cases hl : loK P k
      · simp [b2n, ih, hl]
      · simp [b2n, ih, hl]
    · cases hl : loK P k
      · simp [b2n]
      · simp [b2n]
theorem alK_lt (P : Nat → Bool) {all : Nat} (ha : all < 64) : ∀ k, alK P all k < 64 := by
  intro k
  induction k with
  | zero => exact ha
  | succ k ih =>
    simp only [alK]
    split
    · exact Nat.lt_of_le_of_lt Nat.and_le_left ih
    · exact ih
theorem neK_lt (P : Nat → Bool) {all : Nat} (ha : all < 64) : ∀ k, neK P all k < 64 := by
  intro k
  induction k with
  | zero => exact ha
  | succ k ih =>
    simp only [neK]
    split
    · exact Nat.lt_of_le_of_lt Nat.and_le_left ih
    · exact ih
theorem not64 : ∀ a, a < 64 → ∀ k, k < 64 → nI a &&& (nI k ^^^ (-1)) = nI (a &&& (63 ^^^ k)) := by decide +kernel
abbrev waO (a : Nat) (lo : Int32) (al ne : Nat) (qu wo : Int32) : ACell := oB 9 [.int (nI a), .int lo, .int (nI al), .int (nI ne), .int qu, .int wo, .ref 233, .ref 234]
/-- the cells of Ways -/
def WaR (σ : AHp) (a : Nat) (lo : Int32) (al ne : Nat) (qu wo : Int32) (g : Nat → Nat) (R : Rs) : Prop := σ 232 = some (waO a lo al ne qu wo) ∧ σ 233 = some (iA 0 6 (nF g)) ∧ RdP σ 234 R
theorem RdP.at234 {σ σ' : AHp} {R : Rs} (h : RdP σ 234 R) (hf : ∀ j, 234 ≤ j → j < 238 → σ' j = σ j) : RdP σ' 234 R := h.kept (fun j h1 h2 => hf j h1 h2)
set_option maxRecDepth 20000 in
theorem lp_explains {σ : AHp} {p e : Nat} {T : Tb} {V : Vs} {h : Hs} {u : Nat} (hTP : TbP σ p T) (ok : TbOk T) (hE : EvR σ e V) (hV : VH V T h u) (hln : h.length < 2 ^ 20) {law w : Nat} (hl : law < 4) (hw : w < 2 ^ 31) : ∀ (n k : Nat) (x5 : Option Value), min h.length 10 - k = n → k ≤ min h.length 10 → expH T h law w k = true → Run M_X9_explains 3 [some (.ref p), some (.ref e), some (.int (nI law)), some (.int (nI w)), some (.int (nI k)), x5] [] σ 0 0 (fun r σ' => r = some (.int (nI (b2n (explF T h law w)))) ∧ σ' = σ) := by
  obtain ⟨hp0, hT, -⟩ := id hTP
  obtain ⟨he0, hEo, hlo, hgo, hrd⟩ := id hE
  obtain ⟨v1, v2, v3, v4, v5, v6, v7, v8⟩ := id hV
  intro n
  induction n using Nat.strongRecOn
  rename_i n ih
  intro k x5 hm hk hex
  refine R_iload a_X9_explains_3 rfl ?_
  refine R_aload_n a_X9_explains_5 rfl ?_
  refine R_callVp a_X9_explains_6 hEo (show EvP M_X0_remembered [.ref e] σ (.int (nI (min h.length 10))) from by have := ev_remembered hE (by rw [v2]; omega); rw [v2] at this; exact this) rfl rfl rfl rfl rfl ?_
  first | with_reducible refine R_icmp_ge_n a_X9_explains_9 (by omega) (by omega) (fun h9 => ?_) (fun h9 => ?_) | refine R_icmp_ge a_X9_explains_9 (fun h9 => ?_) (fun h9 => ?_)
  · skip
    have hke : k = min h.length 10 := by omega
    subst hke
    have hfin : explF T h law w = true := hex
    refine R_iconst (v := nI 1) a_X9_explains_49 rfl ?_
    refine R_zret_n a_X9_explains_50 rfl (by omega) ?_
    exact ⟨by rw [hfin]; rfl, rfl⟩
  · skip
    have hkl : k < h.length := by omega
    obtain ⟨r1, r2, r3, r4, r5, r6, r7, r8⟩ := v8 k hkl (by omega)
    have hsl : (h.length - 1 - k) % 18 < 18 := Nat.mod_lt _ (by decide)
    have hRP := hrd _ hsl
    generalize hRR : V.rf ((h.length - 1 - k) % 18) = R at hRP r1 r2 r3 r4 r5 r6 r7 r8
    have hpast := ev_past hE (by rw [v2]; omega) (show k < V.ro by rw [v2]; exact hkl)
    rw [v2] at hpast
    generalize hre : e + 3 + 4 * ((h.length - 1 - k) % 18) = r at hRP hpast
    obtain ⟨hr0, hR, -⟩ := id hRP
    have hfg : R.fr < T.g := by rw [r4]; exact saltF_lt ok _
    have htg : R.to < T.g := by rw [r5]; exact saltF_lt ok _
    have hcg := comesF_lt (T := T) (a := R.fr) (c := cd R 0) (d := cd R 1) (w := w) (law := law) (by omega) hfg
    have hg8 := ok.2.1
    refine R_aload_n a_X9_explains_12 rfl ?_
    refine R_iload a_X9_explains_13 rfl ?_
    refine R_callVp a_X9_explains_15 hEo hpast rfl rfl rfl rfl rfl ?_
    refine R_astore (ls' := [_, _, _, _, _, _]) a_X9_explains_18 rfl rfl rfl ?_
    refine R_aload_n a_X9_explains_20 rfl ?_
    refine R_iload_n a_X9_explains_21 rfl ?_
    refine R_iload_n a_X9_explains_22 rfl ?_
    refine R_aload a_X9_explains_23 rfl ?_
    refine R_get a_X9_explains_25 hR rfl ?_
    refine R_aload a_X9_explains_28 rfl ?_
    refine R_callVp a_X9_explains_30 hT (ev_landing hTP ok hRP r1 hfg hw hl) rfl rfl rfl rfl rfl ?_
    refine R_aload a_X9_explains_33 rfl ?_
    refine R_get a_X9_explains_35 hR rfl ?_
    first | with_reducible refine R_icmp_eq_n a_X9_explains_38 (by omega) (by omega) (fun h38 => ?_) (fun h38 => ?_) | refine R_icmp_eq a_X9_explains_38 (fun h38 => ?_) (fun h38 => ?_)
    · skip
      first | with_reducible refine R_iinc_n (ls' := [_, _, _, _, _, _]) a_X9_explains_43 rfl rfl rfl rfl ?_ | refine R_iinc (ls' := [_, _, _, _, _, _]) a_X9_explains_43 rfl rfl rfl rfl rfl ?_
      refine R_goto a_X9_explains_46 ?_
      exact ih _ (show min h.length 10 - (k + 1) < n by omega) (k + 1) _ rfl (by omega) (by rw [expH, hex, decide_eq_true (show comesF T (saltF T (h.drop (k + 1))) (hAt h k).1 (hAt h k).2 w law = saltF T (h.drop k) by rw [← r2, ← r3, ← r4, ← r5]; exact h38)]; rfl)
    · skip
      have hfin : explF T h law w = false := expH_f (show k + 1 ≤ min h.length 10 by omega) (by rw [expH, decide_eq_false (show ¬ comesF T (saltF T (h.drop (k + 1))) (hAt h k).1 (hAt h k).2 w law = saltF T (h.drop k) by rw [← r2, ← r3, ← r4, ← r5]; exact h38), Bool.and_false])
      refine R_iconst (v := nI 0) a_X9_explains_41 rfl ?_
      refine R_zret_n a_X9_explains_42 rfl (by omega) ?_
      exact ⟨by rw [hfin]; rfl, rfl⟩

set_option maxRecDepth 20000 in
theorem ev_explains {σ : AHp} {p e : Nat} {T : Tb} {V : Vs} {h : Hs} {u : Nat} (hTP : TbP σ p T) (ok : TbOk T) (hE : EvR σ e V) (hV : VH V T h u) (hln : h.length < 2 ^ 20) {law w : Nat} (hl : law < 4) (hw : w < 2 ^ 31) : EvP M_X9_explains [.ref p, .ref e, .int (nI law), .int (nI w)] σ (.int (nI (b2n (explF T h law w)))) := by
  refine Ev.of (ls := [_, _, _, _, _, _]) 2 (by decide) rfl rfl ?_
  refine R_iconst (v := nI 0) a_X9_explains_0 rfl ?_
  refine R_istore (ls' := [_, _, _, _, _, _]) a_X9_explains_1 rfl rfl rfl ?_
  exact lp_explains hTP ok hE hV hln hl hw _ 0 none rfl (by omega) rfl

def lwK (T : Tb) (h : Hs) : Nat → Nat
  | 0 => 0
  | k + 1 => if explF T h k T.so = true then lwK T h k ||| 2 ^ k else lwK T h k
theorem so_lt {T : Tb} (ok : TbOk T) : T.so < 64 := Nat.lt_of_lt_of_le ok.2.2.2.2.2.2.1 (Nat.pow_le_pow_right (by decide) ok.2.2.2.1)
set_option maxRecDepth 20000 in
theorem lp_laws {σ : AHp} {p e : Nat} {T : Tb} {V : Vs} {h : Hs} {u : Nat} (hTP : TbP σ p T) (ok : TbOk T) (hE : EvR σ e V) (hV : VH V T h u) (hln : h.length < 2 ^ 20) : ∀ (n k : Nat), 4 - k = n → k ≤ 4 → Run M_X9_possibleLaws 4 [some (.ref p), some (.ref e), some (.int (nI (lwK T h k))), some (.int (nI k))] [] σ 0 0 (fun r σ' => r = some (.int (nI (lwK T h 4))) ∧ σ' = σ) := by
  obtain ⟨hp0, hT, -⟩ := id hTP
  have hso := so_lt ok
  intro n
  induction n using Nat.strongRecOn
  rename_i n ih
  intro k hm hk
  have hb := b2n_le (explF T h k T.so)
  refine R_iload_n a_X9_possibleLaws_4 rfl ?_
  refine R_iconst (v := nI 4) a_X9_possibleLaws_5 rfl ?_
  first | with_reducible refine R_icmp_ge_n a_X9_possibleLaws_6 (by omega) (by omega) (fun h6 => ?_) (fun h6 => ?_) | refine R_icmp_ge a_X9_possibleLaws_6 (fun h6 => ?_) (fun h6 => ?_)
  · skip
    have hke : k = 4 := by omega
    subst hke
    refine R_iload_n a_X9_possibleLaws_34 rfl ?_
    refine R_iret a_X9_possibleLaws_35 rfl ?_
    exact ⟨rfl, rfl⟩
  · skip
    refine R_aload_n a_X9_possibleLaws_9 rfl ?_
    refine R_aload_n a_X9_possibleLaws_10 rfl ?_
    refine R_iload_n a_X9_possibleLaws_11 rfl ?_
    refine R_aload_n a_X9_possibleLaws_12 rfl ?_
    refine R_get a_X9_possibleLaws_13 hT rfl ?_
    refine R_callSp a_X9_possibleLaws_16 (ev_explains hTP ok hE hV hln (by omega) (by omega)) rfl rfl rfl rfl rfl ?_
    first | with_reducible refine R_if_eq_n a_X9_possibleLaws_19 (by omega) (fun h19 => ?_) (fun h19 => ?_) | refine R_if_eq a_X9_possibleLaws_19 (fun h19 => ?_) (fun h19 => ?_)
    · skip
      have hnx : lwK T h (k + 1) = lwK T h k := by rw [lwK, b2n_0 h19]; rfl
      first | with_reducible refine R_iinc_n (ls' := [_, _, _, _]) a_X9_possibleLaws_28 rfl rfl rfl rfl ?_ | refine R_iinc (ls' := [_, _, _, _]) a_X9_possibleLaws_28 rfl rfl rfl rfl rfl ?_
      refine R_goto a_X9_possibleLaws_31 ?_
      have hih := ih _ (show 4 - (k + 1) < n by omega) (k + 1) rfl (by omega)
      rw [hnx] at hih
      exact hih
    · skip
      have hnx : lwK T h (k + 1) = lwK T h k ||| 2 ^ k := by rw [lwK, b2n_n0 h19]; rfl
      refine R_iload_n a_X9_possibleLaws_22 rfl ?_
      refine R_iconst (v := nI 1) a_X9_possibleLaws_23 rfl ?_
      refine R_iload_n a_X9_possibleLaws_24 rfl ?_
      first | with_reducible refine R_ishl1 a_X9_possibleLaws_25 (by omega) ?_ | with_reducible refine R_ishl_n a_X9_possibleLaws_25 (by omega) (by omega) ?_ | refine R_ishl a_X9_possibleLaws_25 ?_
      first | with_reducible refine R_ior_n a_X9_possibleLaws_26 ?_ | refine R_ior a_X9_possibleLaws_26 ?_
      refine R_istore_n (ls' := [_, _, _, _]) a_X9_possibleLaws_27 rfl rfl rfl ?_
      first | with_reducible refine R_iinc_n (ls' := [_, _, _, _]) a_X9_possibleLaws_28 rfl rfl rfl rfl ?_ | refine R_iinc (ls' := [_, _, _, _]) a_X9_possibleLaws_28 rfl rfl rfl rfl rfl ?_
      refine R_goto a_X9_possibleLaws_31 ?_
      have hih := ih _ (show 4 - (k + 1) < n by omega) (k + 1) rfl (by omega)
      rw [hnx] at hih
      exact hih

set_option maxRecDepth 20000 in
theorem ev_laws {σ : AHp} {p e : Nat} {T : Tb} {V : Vs} {h : Hs} {u : Nat} (hTP : TbP σ p T) (ok : TbOk T) (hE : EvR σ e V) (hV : VH V T h u) (hln : h.length < 2 ^ 20) : EvP M_X9_possibleLaws [.ref p, .ref e] σ (.int (nI (lwK T h 4))) := by
  refine Ev.of (ls := [_, _, _, _]) 2 (by decide) rfl rfl ?_
  refine R_iconst (v := nI 0) a_X9_possibleLaws_0 rfl ?_
  refine R_istore_n (ls' := [_, _, _, _]) a_X9_possibleLaws_1 rfl rfl rfl ?_
  refine R_iconst (v := nI 0) a_X9_possibleLaws_2 rfl ?_
  refine R_istore_n (ls' := [_, _, _, _]) a_X9_possibleLaws_3 rfl rfl rfl ?_
  exact lp_laws hTP ok hE hV hln _ 0 rfl (by omega)

set_option maxRecDepth 20000 in
theorem lp_admit {σ0 : AHp} {p a al ne w : Nat} {T : Tb} {lo qu wo : Int32} {g : Nat → Nat} {R : Rs} (hT0 : TbP σ0 p T) (ok : TbOk T) (hp : 238 ≤ p) (hw : w < 64) : ∀ (n k : Nat) (g' : Nat → Nat) (σ : AHp), T.n - k = n → k ≤ T.n → (∀ t, g' t = if t < k then g t + bitN w t else g t) → WaR σ a lo al ne qu wo g' R → (∀ j, j < 232 ∨ 238 ≤ j → σ j = σ0 j) → Run M_X9_admit 46 [some (.ref 232), some (.ref p), some (.int (nI w)), some (.int (nI k))] [] σ 0 0 (fun r σ => r = none ∧ (∃ g', WaR σ a lo al ne qu wo g' R ∧ ∀ t, t < T.n → g' t = g t + bitN w t) ∧ Fr σ0 σ 232 6) := by
  intro n
  induction n using Nat.strongRecOn
  rename_i n ih
  intro k g' σ hm hk hg' hWR hfr
  obtain ⟨hW, hF, hRP⟩ := hWR
  have hTP : TbP σ p T := hT0.kept (fun j h1 h2 => hfr j (by omega))
  obtain ⟨hp0, hT, -⟩ := id hTP
  have hn6 := ok.2.2.2.1
  refine R_iload_n a_X9_admit_46 rfl ?_
  refine R_aload_n a_X9_admit_47 rfl ?_
  refine R_get a_X9_admit_48 hT rfl ?_
  first | with_reducible refine R_icmp_ge_n a_X9_admit_51 (by omega) (by omega) (fun h51 => ?_) (fun h51 => ?_) | refine R_icmp_ge a_X9_admit_51 (fun h51 => ?_) (fun h51 => ?_)
  · skip
    refine R_vret a_X9_admit_74 rfl ?_
    exact ⟨rfl, ⟨g', ⟨hW, hF, hRP⟩, fun t ht => by rw [hg' t, if_pos (by omega)]⟩, hfr⟩
  · skip
    refine R_aload_n a_X9_admit_54 rfl ?_
    refine R_get a_X9_admit_55 hW rfl ?_
    refine R_iload_n a_X9_admit_58 rfl ?_
    refine R_dup2 a_X9_admit_59 rfl rfl ?_
    refine R_iald_n a_X9_admit_60 hF (by omega) (by decide) ?_
    refine R_iload_n a_X9_admit_61 rfl ?_
    refine R_iload_n a_X9_admit_62 rfl ?_
    first | with_reducible refine R_ishr_n a_X9_admit_63 (by omega) (by omega) ?_ | refine R_ishr a_X9_admit_63 ?_
    refine R_iconst (v := nI 1) a_X9_admit_64 rfl ?_
    first | with_reducible refine R_iand1 a_X9_admit_65 ?_ | with_reducible refine R_iand_n a_X9_admit_65 ?_ | refine R_iand a_X9_admit_65 ?_
    first | with_reducible refine R_iadd_n a_X9_admit_66 ?_ | refine R_iadd a_X9_admit_66 ?_
    refine R_iastK a_X9_admit_67 (by omega) hF (by omega) (by decide) (fun σ hF ho => ?_)
    have hW := (ho _ (by omega)).trans hW
    have hT := (ho _ (by omega)).trans hT
    have hfr : ∀ j, j < 232 ∨ 238 ≤ j → σ j = σ0 j := fun j hj => (ho j (by omega)).trans (hfr j hj)
    rw [nF_upd] at hF
    first | with_reducible refine R_iinc_n (ls' := [_, _, _, _]) a_X9_admit_68 rfl rfl rfl rfl ?_ | refine R_iinc (ls' := [_, _, _, _]) a_X9_admit_68 rfl rfl rfl rfl rfl ?_
    refine R_goto a_X9_admit_71 ?_
    refine ih _ (show T.n - (k + 1) < n by omega) (k + 1) _ σ rfl (by omega) (fun t => ?_) ⟨hW, hF, hRP.at234 (fun j h1 h2 => ho j (by omega))⟩ hfr
    by_cases ht : t = k
    · rw [ht, uN_self, if_pos (by omega), hg' k, if_neg (by omega)]; rfl
    · rw [uN_ne _ _ ht, hg' t]
      by_cases h2 : t < k
      · rw [if_pos h2, if_pos (by omega)]
      · rw [if_neg h2, if_neg (by omega)]

set_option maxRecDepth 20000 in
theorem ev_admit {σ0 : AHp} {p a al ne w : Nat} {T : Tb} {lo qu wo : Int32} {g : Nat → Nat} {R : Rs} (hT0 : TbP σ0 p T) (ok : TbOk T) (hp : 238 ≤ p) (hw : w < 64) (ha : a < 2 ^ 20) (hal : al < 64) (hne : ne < 64) (hWR : WaR σ0 a lo al ne qu wo g R) : EvW M_X9_admit [.ref 232, .ref p, .int (nI w)] σ0 none (fun σ => (∃ g', WaR σ (a + 1) (if a = 0 then nI w else lo) (al &&& w) (ne &&& (63 ^^^ w)) qu wo g' R ∧ ∀ t, t < T.n → g' t = g t + bitN w t) ∧ Fr σ0 σ 232 6) := by
  obtain ⟨hW, hF, hRP⟩ := hWR
  have hfr : ∀ j, j < 232 ∨ 238 ≤ j → σ0 j = σ0 j := fun _ _ => rfl
  refine Ev.of (ls := [_, _, _, _]) 1 (by decide) rfl rfl ?_
  refine R_aload_n a_X9_admit_0 rfl ?_
  refine R_get a_X9_admit_1 hW rfl ?_
  first | with_reducible refine R_if_ne_n a_X9_admit_4 (by omega) (fun h4 => ?_) (fun h4 => ?_) | refine R_if_ne a_X9_admit_4 (fun h4 => ?_) (fun h4 => ?_)
  · skip
    refine R_aload_n a_X9_admit_12 rfl ?_
    refine R_dup a_X9_admit_13 rfl ?_
    refine R_get a_X9_admit_14 hW rfl ?_
    refine R_iconst (v := nI 1) a_X9_admit_17 rfl ?_
    first | with_reducible refine R_iadd_n a_X9_admit_18 ?_ | refine R_iadd a_X9_admit_18 ?_
    refine R_putiK (fs' := [_, _, _, _, _, _, _, _]) a_X9_admit_19 hW rfl rfl (fun σ hW ho => ?_)
    have hF := (ho _ (by omega)).trans hF
    have hfr : ∀ j, j < 232 ∨ 238 ≤ j → σ j = σ0 j := fun j hj => (ho j (by omega)).trans (hfr j hj)
    have hRP := hRP.at234 (fun j h1 h2 => ho j (by omega))
    refine R_aload_n a_X9_admit_22 rfl ?_
    refine R_dup a_X9_admit_23 rfl ?_
    refine R_get a_X9_admit_24 hW rfl ?_
    refine R_iload_n a_X9_admit_27 rfl ?_
    first | with_reducible refine R_iand1 a_X9_admit_28 ?_ | with_reducible refine R_iand_n a_X9_admit_28 ?_ | refine R_iand a_X9_admit_28 ?_
    refine R_putiK (fs' := [_, _, _, _, _, _, _, _]) a_X9_admit_29 hW rfl rfl (fun σ hW ho => ?_)
    have hF := (ho _ (by omega)).trans hF
    have hfr : ∀ j, j < 232 ∨ 238 ≤ j → σ j = σ0 j := fun j hj => (ho j (by omega)).trans (hfr j hj)
    have hRP := hRP.at234 (fun j h1 h2 => ho j (by omega))
    refine R_aload_n a_X9_admit_32 rfl ?_
    refine R_dup a_X9_admit_33 rfl ?_
    refine R_get a_X9_admit_34 hW rfl ?_
    refine R_iload_n a_X9_admit_37 rfl ?_
    refine R_iconst (v := (-1)) a_X9_admit_38 rfl ?_
    refine R_ixor a_X9_admit_39 ?_
    refine R_iand a_X9_admit_40 (R_top (not64 ne hne w hw) ?_)
    refine R_putiK (fs' := [_, _, _, _, _, _, _, _]) a_X9_admit_41 hW rfl rfl (fun σ hW ho => ?_)
    have hF := (ho _ (by omega)).trans hF
    have hfr : ∀ j, j < 232 ∨ 238 ≤ j → σ j = σ0 j := fun j hj => (ho j (by omega)).trans (hfr j hj)
    have hRP := hRP.at234 (fun j h1 h2 => ho j (by omega))
    refine R_iconst (v := nI 0) a_X9_admit_44 rfl ?_
    refine R_istore_n (ls' := [_, _, _, _]) a_X9_admit_45 rfl rfl rfl ?_
    first | rw [if_pos h4] | rw [if_neg h4]
    exact lp_admit hT0 ok hp hw _ 0 g σ rfl (by omega) (fun t => by rw [if_neg (by omega)]) ⟨hW, hF, hRP⟩ hfr
  · skip
    skip
    refine R_aload_n a_X9_admit_7 rfl ?_
    refine R_iload_n a_X9_admit_8 rfl ?_
    refine R_putiK (fs' := [_, _, _, _, _, _, _, _]) a_X9_admit_9 hW rfl rfl (fun σ hW ho => ?_)
    have hF := (ho _ (by omega)).trans hF
    have hfr : ∀ j, j < 232 ∨ 238 ≤ j → σ j = σ0 j := fun j hj => (ho j (by omega)).trans (hfr j hj)
    have hRP := hRP.at234 (fun j h1 h2 => ho j (by omega))
    refine R_aload_n a_X9_admit_12 rfl ?_
    refine R_dup a_X9_admit_13 rfl ?_
    refine R_get a_X9_admit_14 hW rfl ?_
    refine R_iconst (v := nI 1) a_X9_admit_17 rfl ?_
    first | with_reducible refine R_iadd_n a_X9_admit_18 ?_ | refine R_iadd a_X9_admit_18 ?_
    refine R_putiK (fs' := [_, _, _, _, _, _, _, _]) a_X9_admit_19 hW rfl rfl (fun σ hW ho => ?_)
    have hF := (ho _ (by omega)).trans hF
    have hfr : ∀ j, j < 232 ∨ 238 ≤ j → σ j = σ0 j := fun j hj => (ho j (by omega)).trans (hfr j hj)
    have hRP := hRP.at234 (fun j h1 h2 => ho j (by omega))
    refine R_aload_n a_X9_admit_22 rfl ?_
    refine R_dup a_X9_admit_23 rfl ?_
    refine R_get a_X9_admit_24 hW rfl ?_
    refine R_iload_n a_X9_admit_27 rfl ?_
    first | with_reducible refine R_iand1 a_X9_admit_28 ?_ | with_reducible refine R_iand_n a_X9_admit_28 ?_ | refine R_iand a_X9_admit_28 ?_
    refine R_putiK (fs' := [_, _, _, _, _, _, _, _]) a_X9_admit_29 hW rfl rfl (fun σ hW ho => ?_)
    have hF := (ho _ (by omega)).trans hF
    have hfr : ∀ j, j < 232 ∨ 238 ≤ j → σ j = σ0 j := fun j hj => (ho j (by omega)).trans (hfr j hj)
    have hRP := hRP.at234 (fun j h1 h2 => ho j (by omega))
    refine R_aload_n a_X9_admit_32 rfl ?_
    refine R_dup a_X9_admit_33 rfl ?_
    refine R_get a_X9_admit_34 hW rfl ?_
    refine R_iload_n a_X9_admit_37 rfl ?_
    refine R_iconst (v := (-1)) a_X9_admit_38 rfl ?_
    refine R_ixor a_X9_admit_39 ?_
    refine R_iand a_X9_admit_40 (R_top (not64 ne hne w hw) ?_)
    refine R_putiK (fs' := [_, _, _, _, _, _, _, _]) a_X9_admit_41 hW rfl rfl (fun σ hW ho => ?_)
    have hF := (ho _ (by omega)).trans hF
    have hfr : ∀ j, j < 232 ∨ 238 ≤ j → σ j = σ0 j := fun j hj => (ho j (by omega)).trans (hfr j hj)
    have hRP := hRP.at234 (fun j h1 h2 => ho j (by omega))
    refine R_iconst (v := nI 0) a_X9_admit_44 rfl ?_
    refine R_istore_n (ls' := [_, _, _, _]) a_X9_admit_45 rfl rfl rfl ?_
    first | rw [if_pos h4] | rw [if_neg h4]
    exact lp_admit hT0 ok hp hw _ 0 g σ rfl (by omega) (fun t => by rw [if_neg (by omega)]) ⟨hW, hF, hRP⟩ hfr

