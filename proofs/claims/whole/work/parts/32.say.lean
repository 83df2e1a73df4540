theorem R_dial {M : MI} {pc : Nat} {ls : List (Option Value)} {st : List Value} {σ : AHp} {kc ks : Nat} {Q : Option Value → AHp → Prop} (J : Nat) (P : Nat → Prop) (hreg : (∀ v, P v → Run M J ls (.long (lN v) :: st) σ kc ks Q) → Run M pc ls st σ kc ks Q) (hj : ∀ v, P v → Run M J ls (.long (lN v) :: st) σ kc ks Q) : Run M pc ls st σ kc ks Q := hreg hj
/-! ===== Sayings ===== -/
def SyR (σ : AHp) (n : Nat) (w sd : Nat → Nat) : Prop := σ 254 = some (oB 7 [.int (nI n), .ref 255, .ref 256]) ∧ σ 255 = some (iA 0 8 (nF w)) ∧ σ 256 = some (iA 1 8 (nF sd)) ∧ n ≤ 8
def fS (T : Tb) (i s : Nat) : Nat := if s = 0 then 10 - T.hn i else T.hn i
def fN (T : Tb) (i s : Nat) : Nat := if s = 0 then T.hn i else 10 - T.hn i
/-- the chances, as products -/
def pS (T : Tb) (w sd : Nat → Nat) : Nat → Nat
  | 0 => 1
  | k + 1 => pS T w sd k * fS T (w k) (sd k)
def pN (T : Tb) (w sd : Nat → Nat) : Nat → Nat
  | 0 => 1
  | k + 1 => pN T w sd k * fN T (w k) (sd k)
theorem prod_le {f g : Nat → Nat} (h0 : f 0 = 1) (hs : ∀ k, f (k + 1) = f k * g k) (hg : ∀ k, g k ≤ 10) : ∀ k, f k ≤ 10 ^ k := by
  intro k
  induction k with
  | zero => rw [h0]; exact Nat.le_refl 1
  | succ k ih => rw [hs, Nat.pow_succ]; exact Nat.mul_le_mul ih (hg k)
theorem lcmp0 {b : Nat} (hb : b < 2 ^ 62) : lg_cmp (lN b) (lN 0) = nI (if b = 0 then 0 else 1) := by
  unfold lg_cmp
  by_cases h : b = 0
  · subst h; rfl
  · rw [if_neg h, if_pos (show lN b > lN 0 from (pk_lLT (by decide) (by omega)).mpr (by omega))]
    rfl
theorem euc {a b k : Nat} (hba : b ≤ a) (hb : 0 < b) (h : a * b * 2 ^ k < 2 ^ 60) : b * (a % b) * 2 ^ (k + 1) < 2 ^ 60 := by
  have h1 : a % b < b := Nat.mod_lt _ hb
  have h2 : a % b + b ≤ a := by
    have := Nat.div_add_mod a b
    have h3 : 1 ≤ a / b := Nat.div_pos hba hb
    have : b * 1 ≤ b * (a / b) := Nat.mul_le_mul_left b h3
    omega
  have h4 : 2 * (a % b) ≤ a := by omega
  have h5 : b * (a % b) * 2 ^ (k + 1) = b * (2 * (a % b)) * 2 ^ k := by rw [Nat.pow_succ]; simp only [Nat.mul_assoc, Nat.mul_comm, Nat.mul_left_comm]
  rw [h5]
  refine Nat.lt_of_le_of_lt ?_ h
  rw [Nat.mul_comm a b]
  exact Nat.mul_le_mul_right _ (Nat.mul_le_mul_left _ h4)
set_option maxRecDepth 20000 in
theorem lp_gcd {σ : AHp} {a0 b0 : Nat} : ∀ (n k a b : Nat) (x5 x6 : Option Value), 64 - k = n → k ≤ 64 → b ≤ a → a < 2 ^ 60 → a * b * 2 ^ k < 2 ^ 60 → Nat.gcd a b = Nat.gcd a0 b0 → Run M_X7_commonDivisor 3 [some (.long (lN a)), none, some (.long (lN b)), none, some (.int (nI k)), x5, x6] [] σ 0 0 (fun r σ' => r = some (.long (lN (Nat.gcd a0 b0))) ∧ σ' = σ) := by
  intro n
  induction n using Nat.strongRecOn
  rename_i n ih
  intro k a b x5 x6 hm hk hba ha60 hin hgc
  refine R_iload a_X7_commonDivisor_3 rfl ?_
  refine R_bipush (v := nI 64) a_X7_commonDivisor_5 rfl ?_
  first | with_reducible refine R_icmp_ge_n a_X7_commonDivisor_7 (by omega) (by omega) (fun h7 => ?_) (fun h7 => ?_) | refine R_icmp_ge a_X7_commonDivisor_7 (fun h7 => ?_) (fun h7 => ?_)
  · skip
    have hb0 : b = 0 := by
      have hke : k = 64 := by omega
      subst hke
      rcases Nat.eq_zero_or_pos b with q | q
      · exact q
      · have h1 : 1 * 1 ≤ a * b := Nat.mul_le_mul (show 1 ≤ a by omega) q
        have h2 : 1 * 2 ^ 64 ≤ a * b * 2 ^ 64 := Nat.mul_le_mul_right _ h1
        omega
    subst hb0
    refine R_lload_n a_X7_commonDivisor_32 rfl ?_
    refine R_lret a_X7_commonDivisor_33 rfl ?_
    exact ⟨by rw [← hgc, Nat.gcd_zero_right], rfl⟩
  · skip
    refine R_lload_n a_X7_commonDivisor_10 rfl ?_
    refine R_lconst (v := lN 0) a_X7_commonDivisor_11 rfl ?_
    refine R_lcmp a_X7_commonDivisor_12 ?_
    refine R_top (lcmp0 (show b < 2 ^ 62 by omega)) ?_
    have hb01 : (if b = 0 then 0 else 1) ≤ 1 := by split <;> omega
    first | with_reducible refine R_if_eq_n a_X7_commonDivisor_13 (by omega) (fun h13 => ?_) (fun h13 => ?_) | refine R_if_eq a_X7_commonDivisor_13 (fun h13 => ?_) (fun h13 => ?_)
    · skip
      have hb0 : b = 0 := by
        by_cases e : b = 0
        · exact e
        · rw [if_neg e] at h13; cases h13
      subst hb0
      refine R_lload_n a_X7_commonDivisor_32 rfl ?_
      refine R_lret a_X7_commonDivisor_33 rfl ?_
      exact ⟨by rw [← hgc, Nat.gcd_zero_right], rfl⟩
    · skip
      have hbn : ¬ b = 0 := fun e => h13 (by rw [if_pos e])
      refine R_lload_n a_X7_commonDivisor_16 rfl ?_
      refine R_lload_n a_X7_commonDivisor_17 rfl ?_
      refine R_lrem_n a_X7_commonDivisor_18 (by omega) (by omega) (by omega) ?_
      refine R_lstore (ls' := [_, _, _, _, _, _, _]) a_X7_commonDivisor_19 rfl rfl rfl ?_
      refine R_lload_n a_X7_commonDivisor_21 rfl ?_
      refine R_lstore_n (ls' := [_, _, _, _, _, _, _]) a_X7_commonDivisor_22 rfl rfl rfl ?_
      refine R_lload a_X7_commonDivisor_23 rfl ?_
      refine R_lstore_n (ls' := [_, _, _, _, _, _, _]) a_X7_commonDivisor_25 rfl rfl rfl ?_
      first | with_reducible refine R_iinc_n (ls' := [_, _, _, _, _, _, _]) a_X7_commonDivisor_26 rfl rfl rfl rfl ?_ | refine R_iinc (ls' := [_, _, _, _, _, _, _]) a_X7_commonDivisor_26 rfl rfl rfl rfl rfl ?_
      refine R_goto a_X7_commonDivisor_29 ?_
      refine ih _ (show 64 - (k + 1) < n by omega) (k + 1) b (a % b) _ _ rfl (by omega) (Nat.le_of_lt (Nat.mod_lt _ (by omega))) (by omega) (euc hba (by omega) hin) ?_
      rw [← hgc, Nat.gcd_comm a b, Nat.gcd_rec b a, Nat.gcd_comm]

set_option maxRecDepth 20000 in
theorem ev_gcd {σ : AHp} {a b : Nat} (hba : b ≤ a) (ha : a ≤ 2 ^ 28) : EvP M_X7_commonDivisor [.long (lN a), .long (lN b)] σ (.long (lN (Nat.gcd a b))) := by
  refine Ev.of (ls := [_, _, _, _, _, _, _]) 3 (by decide) rfl rfl ?_
  refine R_iconst (v := nI 0) a_X7_commonDivisor_0 rfl ?_
  refine R_istore (ls' := [_, _, _, _, _, _, _]) a_X7_commonDivisor_1 rfl rfl rfl ?_
  exact lp_gcd _ 0 a b none none rfl (by omega) hba (by omega) (by rw [Nat.pow_zero, Nat.mul_one]; have := Nat.mul_le_mul ha (show b ≤ 2 ^ 28 by omega); omega) rfl

set_option maxRecDepth 20000 in
theorem ev_Sclear {σ0 : AHp} {n : Nat} {w sd : Nat → Nat} (h : SyR σ0 n w sd) : EvW M_X7_clear [.ref 254] σ0 none (fun σ => SyR σ 0 w sd ∧ Fr σ0 σ 254 3) := by
  obtain ⟨hS, hw, hd, hn8⟩ := id h
  have hfr : ∀ j, j < 254 ∨ 257 ≤ j → σ0 j = σ0 j := fun _ _ => rfl
  refine Ev.of (ls := [_]) 0 (by decide) rfl rfl ?_
  refine R_aload_n a_X7_clear_0 rfl ?_
  refine R_iconst (v := nI 0) a_X7_clear_1 rfl ?_
  refine R_putiK (fs' := [_, _, _]) a_X7_clear_2 hS rfl rfl (fun σ hS ho => ?_)
  have hw := (ho _ (by omega)).trans hw
  have hd := (ho _ (by omega)).trans hd
  have hfr : ∀ j, j < 254 ∨ 257 ≤ j → σ j = σ0 j := fun j hj => (ho j (by omega)).trans (hfr j hj)
  refine R_vret a_X7_clear_5 rfl ?_
  exact ⟨rfl, ⟨hS, hw, hd, by omega⟩, hfr⟩

set_option maxRecDepth 20000 in
theorem ev_Sadd {σ0 : AHp} {n i so : Nat} {w sd : Nat → Nat} (h : SyR σ0 n w sd) (hso : so ≤ 1) : EvW M_X7_add [.ref 254, .int (nI i), .int (nI so)] σ0 (some (.int (nI (if n < 8 then 1 else 0)))) (fun σ => (if n < 8 then SyR σ (n + 1) (uN w n i) (uN sd n so) else SyR σ n w sd) ∧ Fr σ0 σ 254 3) := by
  obtain ⟨hS, hw, hd, hn8⟩ := id h
  have hfr : ∀ j, j < 254 ∨ 257 ≤ j → σ0 j = σ0 j := fun _ _ => rfl
  refine Ev.of (ls := [_, _, _]) 0 (by decide) rfl rfl ?_
  refine R_aload_n a_X7_add_0 rfl ?_
  refine R_get a_X7_add_1 hS rfl ?_
  refine R_bipush (v := nI 8) a_X7_add_4 rfl ?_
  first | with_reducible refine R_icmp_lt_n a_X7_add_6 (by omega) (by omega) (fun h6 => ?_) (fun h6 => ?_) | refine R_icmp_lt a_X7_add_6 (fun h6 => ?_) (fun h6 => ?_)
  · skip
    refine R_aload_n a_X7_add_11 rfl ?_
    refine R_get a_X7_add_12 hS rfl ?_
    refine R_aload_n a_X7_add_15 rfl ?_
    refine R_get a_X7_add_16 hS rfl ?_
    refine R_iload_n a_X7_add_19 rfl ?_
    refine R_iastK a_X7_add_20 (by omega) hw (by omega) (by decide) (fun σ hw ho => ?_)
    have hS := (ho _ (by omega)).trans hS
    have hd := (ho _ (by omega)).trans hd
    have hfr : ∀ j, j < 254 ∨ 257 ≤ j → σ j = σ0 j := fun j hj => (ho j (by omega)).trans (hfr j hj)
    rw [nF_upd] at hw
    refine R_aload_n a_X7_add_21 rfl ?_
    refine R_get a_X7_add_22 hS rfl ?_
    refine R_aload_n a_X7_add_25 rfl ?_
    refine R_get a_X7_add_26 hS rfl ?_
    refine R_iload_n a_X7_add_29 rfl ?_
    refine R_zastK a_X7_add_30 (by omega) hd (by omega) (by decide) (by omega) (fun σ hd ho => ?_)
    have hS := (ho _ (by omega)).trans hS
    have hw := (ho _ (by omega)).trans hw
    have hfr : ∀ j, j < 254 ∨ 257 ≤ j → σ j = σ0 j := fun j hj => (ho j (by omega)).trans (hfr j hj)
    rw [nF_upd] at hd
    refine R_aload_n a_X7_add_31 rfl ?_
    refine R_dup a_X7_add_32 rfl ?_
    refine R_get a_X7_add_33 hS rfl ?_
    refine R_iconst (v := nI 1) a_X7_add_36 rfl ?_
    first | with_reducible refine R_iadd_n a_X7_add_37 ?_ | refine R_iadd a_X7_add_37 ?_
    refine R_putiK (fs' := [_, _, _]) a_X7_add_38 hS rfl rfl (fun σ hS ho => ?_)
    have hw := (ho _ (by omega)).trans hw
    have hd := (ho _ (by omega)).trans hd
    have hfr : ∀ j, j < 254 ∨ 257 ≤ j → σ j = σ0 j := fun j hj => (ho j (by omega)).trans (hfr j hj)
    refine R_iconst (v := nI 1) a_X7_add_41 rfl ?_
    refine R_zret_n a_X7_add_42 rfl (by omega) ?_
    exact ⟨by rw [if_pos (by omega)], by rw [if_pos (by omega)]; exact ⟨hS, hw, hd, by omega⟩, hfr⟩
  · skip
    refine R_iconst (v := nI 0) a_X7_add_9 rfl ?_
    refine R_zret_n a_X7_add_10 rfl (by omega) ?_
    exact ⟨by rw [if_neg (by omega)], by rw [if_neg (by omega)]; exact ⟨hS, hw, hd, by omega⟩, hfr⟩

/-- what believe answers -/
def belF (s m : Nat) (above : Bool) : Int64 := if s + m = 0 then -4 else if above = true then lN (s / Nat.gcd (s + m) s) else lN ((s + m) / Nat.gcd (s + m) s)
set_option maxRecDepth 20000 in
theorem lp_chance {σ : AHp} {p n : Nat} {T : Tb} {w sd : Nat → Nat} {ab : Bool} (h : SyR σ n w sd) (hTP : TbP σ p T) (ok : TbOk T) (hwg : ∀ k, k < n → w k < T.g) (hsd : ∀ k, k < n → sd k ≤ 1) : ∀ (m k : Nat) (x8 x9 x10 : Option Value), n - k = m → k ≤ n → okS [none, none, none, none, none, none, none, none, x8, x9, x10] 9 = true → okS [none, none, none, none, none, none, none, none, x8, x9, x10] 10 = true → Run M_X7_chance 8 [some (.ref 254), some (.ref p), some (.int (nI (b2n ab))), some (.long (lN (pS T w sd k))), none, some (.long (lN (pN T w sd k))), none, some (.int (nI k)), x8, x9, x10] [] σ 0 0 (fun r σ' => r = some (.long (belF (pS T w sd n) (pN T w sd n) ab)) ∧ σ' = σ) := by
  obtain ⟨hS, hw, hd, hn8⟩ := id h
  obtain ⟨hp0, hT, hk_, hh, -⟩ := id hTP
  obtain ⟨g3, g8, n1, n6, lw, stg, son, kd4, hn10, kn63, hf4⟩ := id ok
  have hg0 : 0 < T.g := by omega
  have hpS : ∀ k, k ≤ n → pS T w sd k ≤ 10 ^ k := by
    intro k
    induction k with
    | zero => intro _; exact Nat.le_refl 1
    | succ k ih =>
      intro hk
      have := hn10 _ (hwg k (by omega))
      rw [Nat.pow_succ]
      exact Nat.mul_le_mul (ih (by omega)) (by unfold fS; split <;> omega)
  have hpN : ∀ k, k ≤ n → pN T w sd k ≤ 10 ^ k := by
    intro k
    induction k with
    | zero => intro _; exact Nat.le_refl 1
    | succ k ih =>
      intro hk
      have := hn10 _ (hwg k (by omega))
      rw [Nat.pow_succ]
      exact Nat.mul_le_mul (ih (by omega)) (by unfold fN; split <;> omega)
  have hbab := b2n_le ab
  intro m
  induction m using Nat.strongRecOn
  rename_i m ih
  intro k x8 x9 x10 hm hk hx1 hx2
  refine R_iload a_X7_chance_8 rfl ?_
  refine R_aload_n a_X7_chance_10 rfl ?_
  refine R_get a_X7_chance_11 hS rfl ?_
  first | with_reducible refine R_icmp_ge_n a_X7_chance_14 (by omega) (by omega) (fun h14 => ?_) (fun h14 => ?_) | refine R_icmp_ge a_X7_chance_14 (fun h14 => ?_) (fun h14 => ?_)
  · skip
    have hke : k = n := by omega
    subst hke
    have b1 := hpS k (Nat.le_refl _)
    have b2 := hpN k (Nat.le_refl _)
    have b3 : 10 ^ k ≤ 10 ^ 8 := Nat.pow_le_pow_right (by decide) hn8
    generalize pS T w sd k = s at b1 ⊢
    generalize pN T w sd k = q at b2 ⊢
    refine R_lload_n a_X7_chance_89 rfl ?_
    refine R_lload a_X7_chance_90 rfl ?_
    first | with_reducible refine R_ladd_n a_X7_chance_92 ?_ | refine R_ladd a_X7_chance_92 ?_
    refine R_lstore (ls' := [_, _, _, _, _, _, _, _, _, _, _]) a_X7_chance_93 rfl rfl rfl ?_
    refine R_lload a_X7_chance_95 rfl ?_
    refine R_lload_n a_X7_chance_97 rfl ?_
    refine R_callSp a_X7_chance_98 (ev_gcd (Nat.le_add_right s q) (show s + q ≤ 2 ^ 28 by omega)) rfl rfl rfl rfl rfl ?_
    have hgl : Nat.gcd (s + q) s ≤ s + q := by
      rcases Nat.eq_zero_or_pos (s + q) with e | e
      · rw [show s = 0 by omega, show q = 0 by omega]; decide
      · exact Nat.gcd_le_left _ e
    refine R_lstore (ls' := [_, _, _, _, _, _, _, _, _, _, _]) a_X7_chance_101 rfl rfl rfl ?_
    refine R_lload a_X7_chance_103 rfl ?_
    refine R_lconst (v := lN 0) a_X7_chance_105 rfl ?_
    refine R_lcmp a_X7_chance_106 ?_
    refine R_top (lcmp0 (show Nat.gcd (s + q) s < 2 ^ 62 by omega)) ?_
    have hb01 : (if Nat.gcd (s + q) s = 0 then 0 else 1) ≤ 1 := by split <;> omega
    first | with_reducible refine R_if_ne_n a_X7_chance_107 (by omega) (fun h107 => ?_) (fun h107 => ?_) | refine R_if_ne a_X7_chance_107 (fun h107 => ?_) (fun h107 => ?_)
    · skip
      have hgn : 0 < Nat.gcd (s + q) s := by
        rcases Nat.eq_zero_or_pos (Nat.gcd (s + q) s) with e | e
        · exact absurd (by rw [if_pos e]) h107
        · exact e
      have hz : ¬ s + q = 0 := fun e => by rw [show s = 0 by omega, show q = 0 by omega] at hgn; revert hgn; decide
      refine R_iload_n a_X7_chance_114 rfl ?_
      first | with_reducible refine R_if_eq_n a_X7_chance_115 (by omega) (fun h115 => ?_) (fun h115 => ?_) | refine R_if_eq a_X7_chance_115 (fun h115 => ?_) (fun h115 => ?_)
      · skip
        have hab : ab = false := b2n_0 h115
        refine R_lload a_X7_chance_125 rfl ?_
        refine R_lload a_X7_chance_127 rfl ?_
        refine R_ldiv_n a_X7_chance_129 (by omega) (by omega) (by omega) ?_
        refine R_lret a_X7_chance_130 rfl ?_
        exact ⟨by unfold belF; rw [if_neg hz, hab]; rfl, rfl⟩
      · skip
        have hab : ab = true := b2n_n0 h115
        refine R_lload_n a_X7_chance_118 rfl ?_
        refine R_lload a_X7_chance_119 rfl ?_
        refine R_ldiv_n a_X7_chance_121 (by omega) (by omega) (by omega) ?_
        refine R_goto a_X7_chance_122 ?_
        refine R_lret a_X7_chance_130 rfl ?_
        exact ⟨by unfold belF; rw [if_neg hz, hab]; rfl, rfl⟩
    · skip
      have hz : s + q = 0 := by
        by_cases e : Nat.gcd (s + q) s = 0
        · rw [Nat.gcd_eq_zero_iff] at e; exact e.1
        · rw [if_neg e] at h107; cases h107
      refine R_ldc2 a_X7_chance_110 ck_X7_32 ?_
      refine R_lret a_X7_chance_113 rfl ?_
      exact ⟨by unfold belF; rw [if_pos hz], rfl⟩
  · skip
    have hwk := hwg k (by omega)
    have hsk := hsd k (by omega)
    have hh10 := hn10 _ hwk
    refine R_aload_n a_X7_chance_17 rfl ?_
    refine R_get a_X7_chance_18 hT rfl ?_
    refine R_aload_n a_X7_chance_21 rfl ?_
    refine R_get a_X7_chance_22 hS rfl ?_
    refine R_iload a_X7_chance_25 rfl ?_
    refine R_iald_n a_X7_chance_27 hw (by omega) (by decide) ?_
    refine R_iald_n a_X7_chance_28 hh (by omega) (by decide) ?_
    refine R_istore (ls' := [_, _, _, _, _, _, _, _, _, _, _]) a_X7_chance_29 rfl rfl rfl ?_
    refine R_lload_n a_X7_chance_31 rfl ?_
    refine R_dial 54 (fun v => v = fS T (w k) (sd k)) (fun hJ32 => ?_) (fun v32 e32 => ?_)
    · skip
      refine R_aload_n a_X7_chance_32 rfl ?_
      refine R_get a_X7_chance_33 hS rfl ?_
      refine R_iload a_X7_chance_36 rfl ?_
      refine R_zald_n a_X7_chance_38 (by omega) hd (by omega) (by decide) ?_
      first | with_reducible refine R_if_eq_n a_X7_chance_39 (by omega) (fun h39 => ?_) (fun h39 => ?_) | refine R_if_eq a_X7_chance_39 (fun h39 => ?_) (fun h39 => ?_)
      · skip
        refine R_bipush (v := nI 10) a_X7_chance_48 rfl ?_
        refine R_iload a_X7_chance_50 rfl ?_
        first | with_reducible refine R_isub_n a_X7_chance_52 (by omega) ?_ | refine R_isub a_X7_chance_52 ?_
        refine R_i2l_n a_X7_chance_53 (by omega) ?_
        exact hJ32 _ (by unfold fS; first | rw [if_pos h39] | rw [if_neg h39])
      · skip
        refine R_iload a_X7_chance_42 rfl ?_
        refine R_i2l_n a_X7_chance_44 (by omega) ?_
        refine R_goto a_X7_chance_45 ?_
        exact hJ32 _ (by unfold fS; first | rw [if_pos h39] | rw [if_neg h39])
    · skip
      first | with_reducible refine R_lmul_n a_X7_chance_54 ?_ | refine R_lmul a_X7_chance_54 ?_
      refine R_lstore_n (ls' := [_, _, _, _, _, _, _, _, _, _, _]) a_X7_chance_55 rfl rfl rfl ?_
      refine R_lload a_X7_chance_56 rfl ?_
      refine R_dial 80 (fun v => v = fN T (w k) (sd k)) (fun hJ58 => ?_) (fun v58 e58 => ?_)
      · skip
        refine R_aload_n a_X7_chance_58 rfl ?_
        refine R_get a_X7_chance_59 hS rfl ?_
        refine R_iload a_X7_chance_62 rfl ?_
        refine R_zald_n a_X7_chance_64 (by omega) hd (by omega) (by decide) ?_
        first | with_reducible refine R_if_eq_n a_X7_chance_65 (by omega) (fun h65 => ?_) (fun h65 => ?_) | refine R_if_eq a_X7_chance_65 (fun h65 => ?_) (fun h65 => ?_)
        · skip
          refine R_iload a_X7_chance_77 rfl ?_
          refine R_i2l_n a_X7_chance_79 (by omega) ?_
          exact hJ58 _ (by unfold fN; first | rw [if_pos h65] | rw [if_neg h65])
        · skip
          refine R_bipush (v := nI 10) a_X7_chance_68 rfl ?_
          refine R_iload a_X7_chance_70 rfl ?_
          first | with_reducible refine R_isub_n a_X7_chance_72 (by omega) ?_ | refine R_isub a_X7_chance_72 ?_
          refine R_i2l_n a_X7_chance_73 (by omega) ?_
          refine R_goto a_X7_chance_74 ?_
          exact hJ58 _ (by unfold fN; first | rw [if_pos h65] | rw [if_neg h65])
      · skip
        first | with_reducible refine R_lmul_n a_X7_chance_80 ?_ | refine R_lmul a_X7_chance_80 ?_
        refine R_lstore (ls' := [_, _, _, _, _, _, _, _, _, _, _]) a_X7_chance_81 rfl rfl rfl ?_
        first | with_reducible refine R_iinc_n (ls' := [_, _, _, _, _, _, _, _, _, _, _]) a_X7_chance_83 rfl rfl rfl rfl ?_ | refine R_iinc (ls' := [_, _, _, _, _, _, _, _, _, _, _]) a_X7_chance_83 rfl rfl rfl rfl rfl ?_
        refine R_goto a_X7_chance_86 ?_
        have hih := ih _ (show n - (k + 1) < m by omega) (k + 1) (some (.int (nI (T.hn (w k))))) x9 x10 rfl (by omega) rfl hx2
        simp only [pS, pN] at hih
        rw [← e32, ← e58] at hih
        exact hih

set_option maxRecDepth 20000 in
theorem ev_chance {σ : AHp} {p n : Nat} {T : Tb} {w sd : Nat → Nat} {ab : Bool} (h : SyR σ n w sd) (hTP : TbP σ p T) (ok : TbOk T) (hwg : ∀ k, k < n → w k < T.g) (hsd : ∀ k, k < n → sd k ≤ 1) : EvP M_X7_chance [.ref 254, .ref p, .int (nI (b2n ab))] σ (.long (belF (pS T w sd n) (pN T w sd n) ab)) := by
  refine Ev.of (ls := [_, _, _, _, _, _, _, _, _, _, _]) 8 (by decide) rfl rfl ?_
  refine R_lconst (v := lN 1) a_X7_chance_0 rfl ?_
  refine R_lstore_n (ls' := [_, _, _, _, _, _, _, _, _, _, _]) a_X7_chance_1 rfl rfl rfl ?_
  refine R_lconst (v := lN 1) a_X7_chance_2 rfl ?_
  refine R_lstore (ls' := [_, _, _, _, _, _, _, _, _, _, _]) a_X7_chance_3 rfl rfl rfl ?_
  refine R_iconst (v := nI 0) a_X7_chance_5 rfl ?_
  refine R_istore (ls' := [_, _, _, _, _, _, _, _, _, _, _]) a_X7_chance_6 rfl rfl rfl ?_
  exact lp_chance h hTP ok hwg hsd _ 0 none none none rfl (Nat.zero_le _) rfl rfl

