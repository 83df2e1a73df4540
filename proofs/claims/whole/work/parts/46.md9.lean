/-! ===== SaltToLiarsModel: believe, dinner ===== -/
set_option maxRecDepth 20000 in
theorem lp_mbel2 {σ : AHp} {s q c : Nat} (hs : s ≤ 10 ^ 8) (hq : q ≤ 10 ^ 8) (hz : ¬ s + q = 0) (hc : c < 2) : ∀ (n a b : Nat) (x12 x13 : Option Value), b = n → a < 2 ^ 60 → b < 2 ^ 60 → Nat.gcd a b = Nat.gcd (s + q) s → Run M_X11_believe 141 [some (.ref 272), some (.int (nI c)), some (.long (lN s)), none, some (.long (lN q)), none, some (.long (lN (s + q))), none, some (.long (lN a)), none, some (.long (lN b)), none, x12, x13] [] σ 0 0 (fun r σ' => r = some (.long (belF s q (decide (c = 0)))) ∧ σ' = σ) := by
  intro n
  induction n using Nat.strongRecOn
  rename_i n ih
  intro a b x12 x13 hm ha60 hb60 hgc
  refine R_lload a_X11_believe_141 rfl ?_
  refine R_lconst (v := lN 0) a_X11_believe_143 rfl ?_
  refine R_lcmp a_X11_believe_144 ?_
  refine R_top (lcmp0 (show b < 2 ^ 62 by omega)) ?_
  have hb01 : (if b = 0 then 0 else 1) ≤ 1 := by split <;> omega
  first | with_reducible refine R_if_le_n a_X11_believe_145 (by first | omega | exact Nat.lt_of_le_of_lt (inR_le _ _) (by decide) | exact Nat.lt_of_le_of_lt (bitN_le _ _) (by decide) | exact Nat.lt_of_le_of_lt (inI_le _ _ _) (by decide) | exact inI_le _ _ _ | exact inR_le _ _ | exact bitN_le _ _) (fun h145 => ?_) (fun h145 => ?_) | refine R_if_le a_X11_believe_145 (fun h145 => ?_) (fun h145 => ?_)
  · skip
    have hb0 : b = 0 := by
      by_cases e : b = 0
      · exact e
      · rw [if_neg e] at h145; cases h145
    subst hb0
    rw [Nat.gcd_zero_right] at hgc
    have hgp : 0 < a := by
      rcases Nat.eq_zero_or_pos a with e | e
      · rw [hgc, Nat.gcd_eq_zero_iff] at e; omega
      · exact e
    refine R_iload_n a_X11_believe_166 rfl ?_
    first | with_reducible refine R_if_ne_n a_X11_believe_167 (by first | omega | exact Nat.lt_of_le_of_lt (inR_le _ _) (by decide) | exact Nat.lt_of_le_of_lt (bitN_le _ _) (by decide) | exact Nat.lt_of_le_of_lt (inI_le _ _ _) (by decide) | exact inI_le _ _ _ | exact inR_le _ _ | exact bitN_le _ _) (fun h167 => ?_) (fun h167 => ?_) | refine R_if_ne a_X11_believe_167 (fun h167 => ?_) (fun h167 => ?_)
    · skip
      have hab : decide (c = 0) = false := decide_eq_false h167
      refine R_lload a_X11_believe_177 rfl ?_
      refine R_lload a_X11_believe_179 rfl ?_
      refine R_ldiv_n a_X11_believe_181 (by first | omega | exact Nat.lt_of_le_of_lt (inR_le _ _) (by decide) | exact Nat.lt_of_le_of_lt (bitN_le _ _) (by decide) | exact Nat.lt_of_le_of_lt (inI_le _ _ _) (by decide) | exact inI_le _ _ _ | exact inR_le _ _ | exact bitN_le _ _) (by first | omega | exact Nat.lt_of_le_of_lt (inR_le _ _) (by decide) | exact Nat.lt_of_le_of_lt (bitN_le _ _) (by decide) | exact Nat.lt_of_le_of_lt (inI_le _ _ _) (by decide) | exact inI_le _ _ _ | exact inR_le _ _ | exact bitN_le _ _) (by first | omega | exact Nat.lt_of_le_of_lt (inR_le _ _) (by decide) | exact Nat.lt_of_le_of_lt (bitN_le _ _) (by decide) | exact Nat.lt_of_le_of_lt (inI_le _ _ _) (by decide) | exact inI_le _ _ _ | exact inR_le _ _ | exact bitN_le _ _) ?_
      refine R_lret a_X11_believe_182 rfl ?_
      exact ⟨by unfold belF; rw [if_neg hz, hab, ← hgc]; rfl, rfl⟩
    · skip
      have hab : decide (c = 0) = true := decide_eq_true h167
      refine R_lload_n a_X11_believe_170 rfl ?_
      refine R_lload a_X11_believe_171 rfl ?_
      refine R_ldiv_n a_X11_believe_173 (by first | omega | exact Nat.lt_of_le_of_lt (inR_le _ _) (by decide) | exact Nat.lt_of_le_of_lt (bitN_le _ _) (by decide) | exact Nat.lt_of_le_of_lt (inI_le _ _ _) (by decide) | exact inI_le _ _ _ | exact inR_le _ _ | exact bitN_le _ _) (by first | omega | exact Nat.lt_of_le_of_lt (inR_le _ _) (by decide) | exact Nat.lt_of_le_of_lt (bitN_le _ _) (by decide) | exact Nat.lt_of_le_of_lt (inI_le _ _ _) (by decide) | exact inI_le _ _ _ | exact inR_le _ _ | exact bitN_le _ _) (by first | omega | exact Nat.lt_of_le_of_lt (inR_le _ _) (by decide) | exact Nat.lt_of_le_of_lt (bitN_le _ _) (by decide) | exact Nat.lt_of_le_of_lt (inI_le _ _ _) (by decide) | exact inI_le _ _ _ | exact inR_le _ _ | exact bitN_le _ _) ?_
      refine R_goto a_X11_believe_174 ?_
      refine R_lret a_X11_believe_182 rfl ?_
      exact ⟨by unfold belF; rw [if_neg hz, hab, ← hgc]; rfl, rfl⟩
  · skip
    have hbn : 0 < b := by
      rcases Nat.eq_zero_or_pos b with e | e
      · rw [if_pos e] at h145; cases h145
      · exact e
    refine R_lload a_X11_believe_148 rfl ?_
    refine R_lload a_X11_believe_150 rfl ?_
    refine R_lrem_n a_X11_believe_152 (by first | omega | exact Nat.lt_of_le_of_lt (inR_le _ _) (by decide) | exact Nat.lt_of_le_of_lt (bitN_le _ _) (by decide) | exact Nat.lt_of_le_of_lt (inI_le _ _ _) (by decide) | exact inI_le _ _ _ | exact inR_le _ _ | exact bitN_le _ _) (by first | omega | exact Nat.lt_of_le_of_lt (inR_le _ _) (by decide) | exact Nat.lt_of_le_of_lt (bitN_le _ _) (by decide) | exact Nat.lt_of_le_of_lt (inI_le _ _ _) (by decide) | exact inI_le _ _ _ | exact inR_le _ _ | exact bitN_le _ _) (by first | omega | exact Nat.lt_of_le_of_lt (inR_le _ _) (by decide) | exact Nat.lt_of_le_of_lt (bitN_le _ _) (by decide) | exact Nat.lt_of_le_of_lt (inI_le _ _ _) (by decide) | exact inI_le _ _ _ | exact inR_le _ _ | exact bitN_le _ _) ?_
    refine R_lstore (ls' := [_, _, _, _, _, _, _, _, _, _, _, _, _, _]) a_X11_believe_153 rfl rfl rfl ?_
    refine R_lload a_X11_believe_155 rfl ?_
    refine R_lstore (ls' := [_, _, _, _, _, _, _, _, _, _, _, _, _, _]) a_X11_believe_157 rfl rfl rfl ?_
    refine R_lload a_X11_believe_159 rfl ?_
    refine R_lstore (ls' := [_, _, _, _, _, _, _, _, _, _, _, _, _, _]) a_X11_believe_161 rfl rfl rfl ?_
    refine R_goto a_X11_believe_163 ?_
    have hlt := Nat.mod_lt a (show 0 < b by omega)
    refine ih _ (show a % b < n by omega) b (a % b) _ _ rfl hb60 (by omega) ?_
    rw [← hgc, Nat.gcd_comm a b, Nat.gcd_rec b a, Nat.gcd_comm]

set_option maxRecDepth 20000 in
theorem lp_mbel1 {σ : AHp} {tl u kn n : Nat} {at_ : Int32} {ft : Nat → Int32} {T : Tb} (hM : σ 272 = some (mdO tl u kn n at_)) (hMT : MT σ ft T) (ok : TbOk T) {w sd : Nat → Nat} {fy : Nat → Int32} (hSy : σ 279 = some (iA 0 8 fy)) (hSyv : ∀ k, k < n → fy k = nI (2 * w k + sd k)) (hn8 : n ≤ 8) (hwg : ∀ k, k < n → w k < T.g) (hsd : ∀ k, k < n → sd k ≤ 1) {c : Nat} (hc : c < 2) : ∀ (m k : Nat) (x7 x8 : Option Value), n - k = m → k ≤ n → Run M_X11_believe 21 [some (.ref 272), some (.int (nI c)), some (.long (lN (pS T w sd k))), none, some (.long (lN (pN T w sd k))), none, some (.int (nI k)), x7, x8, none, none, none, none, none] [] σ 0 0 (fun r σ' => r = some (.long (belF (pS T w sd n) (pN T w sd n) (decide (c = 0)))) ∧ σ' = σ) := by
  obtain ⟨hTo, t0, t1, t2, t3, t28, tkd, thn, tkn, thf⟩ := id hMT
  obtain ⟨g3, g8, n1, n6, lw, stg, son, kd4, hn10, kn63, hf4⟩ := id ok
  have hn64 : 2 ^ T.n ≤ 2 ^ 6 := Nat.pow_le_pow_right (by decide) n6
  have hpS : ∀ k, k ≤ n → pS T w sd k ≤ 10 ^ k := by
    intro k
    induction k with
    | zero => intro _; exact Nat.le_refl 1
    | succ k ih =>
      intro hk
      have := hn10 _ (hwg k (by omega))
      rw [Nat.pow_succ]
      exact Nat.mul_le_mul (ih (by omega)) (by unfold fS; split <;> omega)
  have hpN : ∀ k, k ≤ n → pN T w sd k ≤ 10 ^ k := by
    intro k
    induction k with
    | zero => intro _; exact Nat.le_refl 1
    | succ k ih =>
      intro hk
      have := hn10 _ (hwg k (by omega))
      rw [Nat.pow_succ]
      exact Nat.mul_le_mul (ih (by omega)) (by unfold fN; split <;> omega)
  intro m
  induction m using Nat.strongRecOn
  rename_i m ih
  intro k x7 x8 hm hk
  refine R_iload a_X11_believe_21 rfl ?_
  refine R_aload_n a_X11_believe_23 rfl ?_
  refine R_get a_X11_believe_24 hM rfl ?_
  first | with_reducible refine R_icmp_ge_n a_X11_believe_27 (by first | omega | exact Nat.lt_of_le_of_lt (inR_le _ _) (by decide) | exact Nat.lt_of_le_of_lt (bitN_le _ _) (by decide) | exact Nat.lt_of_le_of_lt (inI_le _ _ _) (by decide) | exact inI_le _ _ _ | exact inR_le _ _ | exact bitN_le _ _) (by first | omega | exact Nat.lt_of_le_of_lt (inR_le _ _) (by decide) | exact Nat.lt_of_le_of_lt (bitN_le _ _) (by decide) | exact Nat.lt_of_le_of_lt (inI_le _ _ _) (by decide) | exact inI_le _ _ _ | exact inR_le _ _ | exact bitN_le _ _) (fun h27 => ?_) (fun h27 => ?_) | refine R_icmp_ge a_X11_believe_27 (fun h27 => ?_) (fun h27 => ?_)
  · skip
    have hke : k = n := by omega
    subst hke
    have b1 := hpS k (Nat.le_refl _)
    have b2 := hpN k (Nat.le_refl _)
    have b3 : 10 ^ k ≤ 10 ^ 8 := Nat.pow_le_pow_right (by decide) hn8
    generalize pS T w sd k = s at b1 ⊢
    generalize pN T w sd k = q at b2 ⊢
    refine R_lload_n a_X11_believe_117 rfl ?_
    refine R_lload a_X11_believe_118 rfl ?_
    first | with_reducible refine R_ladd_n a_X11_believe_120 ?_ | refine R_ladd a_X11_believe_120 ?_
    refine R_lstore (ls' := [_, _, _, _, _, _, _, _, _, _, _, _, _, _]) a_X11_believe_121 rfl rfl rfl ?_
    refine R_lload a_X11_believe_123 rfl ?_
    refine R_lconst (v := lN 0) a_X11_believe_125 rfl ?_
    refine R_lcmp a_X11_believe_126 ?_
    refine R_top (lcmp0 (show s + q < 2 ^ 62 by omega)) ?_
    have hb01 : (if s + q = 0 then 0 else 1) ≤ 1 := by split <;> omega
    first | with_reducible refine R_if_ne_n a_X11_believe_127 (by first | omega | exact Nat.lt_of_le_of_lt (inR_le _ _) (by decide) | exact Nat.lt_of_le_of_lt (bitN_le _ _) (by decide) | exact Nat.lt_of_le_of_lt (inI_le _ _ _) (by decide) | exact inI_le _ _ _ | exact inR_le _ _ | exact bitN_le _ _) (fun h127 => ?_) (fun h127 => ?_) | refine R_if_ne a_X11_believe_127 (fun h127 => ?_) (fun h127 => ?_)
    · skip
      have hz : ¬ s + q = 0 := fun e => by rw [if_pos e] at h127; exact h127 rfl
      refine R_lload_n a_X11_believe_134 rfl ?_
      refine R_lstore (ls' := [_, _, _, _, _, _, _, _, _, _, _, _, _, _]) a_X11_believe_135 rfl rfl rfl ?_
      refine R_lload a_X11_believe_137 rfl ?_
      refine R_lstore (ls' := [_, _, _, _, _, _, _, _, _, _, _, _, _, _]) a_X11_believe_139 rfl rfl rfl ?_
      exact lp_mbel2 (by omega) (by omega) hz hc _ s (s + q) none none rfl (by omega) (by omega) (Nat.gcd_comm _ _)
    · skip
      have hz : s + q = 0 := by
        by_cases e : s + q = 0
        · exact e
        · rw [if_neg e] at h127; cases h127
      refine R_ldc2 a_X11_believe_130 ck_X11_165 ?_
      refine R_lret a_X11_believe_133 rfl ?_
      exact ⟨by unfold belF; rw [if_pos hz], rfl⟩
  · skip
    have hwk := hwg k (by omega)
    have hsk := hsd k (by omega)
    have hh10 := hn10 _ hwk
    have hyk := hSyv k (by omega)
    refine R_aload_n a_X11_believe_30 rfl ?_
    refine R_get a_X11_believe_31 hM rfl ?_
    refine R_bipush (v := nI 12) a_X11_believe_34 rfl ?_
    refine R_aload_n a_X11_believe_36 rfl ?_
    refine R_get a_X11_believe_37 hM rfl ?_
    refine R_iload a_X11_believe_40 rfl ?_
    refine R_iald_n a_X11_believe_42 hSy (by first | omega | exact Nat.lt_of_le_of_lt (inR_le _ _) (by decide) | exact Nat.lt_of_le_of_lt (bitN_le _ _) (by decide) | exact Nat.lt_of_le_of_lt (inI_le _ _ _) (by decide) | exact inI_le _ _ _ | exact inR_le _ _ | exact bitN_le _ _) (by decide) ?_
    refine R_top hyk ?_
    refine R_iconst (v := nI 2) a_X11_believe_43 rfl ?_
    refine R_idiv_n a_X11_believe_44 (by first | omega | exact Nat.lt_of_le_of_lt (inR_le _ _) (by decide) | exact Nat.lt_of_le_of_lt (bitN_le _ _) (by decide) | exact Nat.lt_of_le_of_lt (inI_le _ _ _) (by decide) | exact inI_le _ _ _ | exact inR_le _ _ | exact bitN_le _ _) (by first | omega | exact Nat.lt_of_le_of_lt (inR_le _ _) (by decide) | exact Nat.lt_of_le_of_lt (bitN_le _ _) (by decide) | exact Nat.lt_of_le_of_lt (inI_le _ _ _) (by decide) | exact inI_le _ _ _ | exact inR_le _ _ | exact bitN_le _ _) (by first | omega | exact Nat.lt_of_le_of_lt (inR_le _ _) (by decide) | exact Nat.lt_of_le_of_lt (bitN_le _ _) (by decide) | exact Nat.lt_of_le_of_lt (inI_le _ _ _) (by decide) | exact inI_le _ _ _ | exact inR_le _ _ | exact bitN_le _ _) ?_
    refine R_top (congrArg nI (show (2 * w k + sd k) / 2 = w k by omega)) ?_
    first | with_reducible refine R_iadd_n a_X11_believe_45 ?_ | refine R_iadd a_X11_believe_45 ?_
    refine R_iald_n a_X11_believe_46 hTo (by first | omega | exact Nat.lt_of_le_of_lt (inR_le _ _) (by decide) | exact Nat.lt_of_le_of_lt (bitN_le _ _) (by decide) | exact Nat.lt_of_le_of_lt (inI_le _ _ _) (by decide) | exact inI_le _ _ _ | exact inR_le _ _ | exact bitN_le _ _) (by decide) ?_
    refine R_top (thn _ hwk) ?_
    refine R_istore (ls' := [_, _, _, _, _, _, _, _, _, _, _, _, _, _]) a_X11_believe_47 rfl rfl rfl ?_
    refine R_dian 67 (fun v => v = sd k) (fun hJ49 => ?_) (fun v49 e49 => ?_)
    · skip
      refine R_aload_n a_X11_believe_49 rfl ?_
      refine R_get a_X11_believe_50 hM rfl ?_
      refine R_iload a_X11_believe_53 rfl ?_
      refine R_iald_n a_X11_believe_55 hSy (by first | omega | exact Nat.lt_of_le_of_lt (inR_le _ _) (by decide) | exact Nat.lt_of_le_of_lt (bitN_le _ _) (by decide) | exact Nat.lt_of_le_of_lt (inI_le _ _ _) (by decide) | exact inI_le _ _ _ | exact inR_le _ _ | exact bitN_le _ _) (by decide) ?_
      refine R_top hyk ?_
      refine R_iconst (v := nI 2) a_X11_believe_56 rfl ?_
      refine R_irem_n a_X11_believe_57 (by first | omega | exact Nat.lt_of_le_of_lt (inR_le _ _) (by decide) | exact Nat.lt_of_le_of_lt (bitN_le _ _) (by decide) | exact Nat.lt_of_le_of_lt (inI_le _ _ _) (by decide) | exact inI_le _ _ _ | exact inR_le _ _ | exact bitN_le _ _) (by first | omega | exact Nat.lt_of_le_of_lt (inR_le _ _) (by decide) | exact Nat.lt_of_le_of_lt (bitN_le _ _) (by decide) | exact Nat.lt_of_le_of_lt (inI_le _ _ _) (by decide) | exact inI_le _ _ _ | exact inR_le _ _ | exact bitN_le _ _) (by first | omega | exact Nat.lt_of_le_of_lt (inR_le _ _) (by decide) | exact Nat.lt_of_le_of_lt (bitN_le _ _) (by decide) | exact Nat.lt_of_le_of_lt (inI_le _ _ _) (by decide) | exact inI_le _ _ _ | exact inR_le _ _ | exact bitN_le _ _) ?_
      refine R_top (congrArg nI (show (2 * w k + sd k) % 2 = sd k by omega)) ?_
      refine R_iconst (v := nI 1) a_X11_believe_58 rfl ?_
      first | with_reducible refine R_icmp_ne_n a_X11_believe_59 (by first | omega | exact Nat.lt_of_le_of_lt (inR_le _ _) (by decide) | exact Nat.lt_of_le_of_lt (bitN_le _ _) (by decide) | exact Nat.lt_of_le_of_lt (inI_le _ _ _) (by decide) | exact inI_le _ _ _ | exact inR_le _ _ | exact bitN_le _ _) (by first | omega | exact Nat.lt_of_le_of_lt (inR_le _ _) (by decide) | exact Nat.lt_of_le_of_lt (bitN_le _ _) (by decide) | exact Nat.lt_of_le_of_lt (inI_le _ _ _) (by decide) | exact inI_le _ _ _ | exact inR_le _ _ | exact bitN_le _ _) (fun h59 => ?_) (fun h59 => ?_) | refine R_icmp_ne a_X11_believe_59 (fun h59 => ?_) (fun h59 => ?_)
      · skip
        refine R_iconst (v := nI 0) a_X11_believe_66 rfl ?_
        exact hJ49 _ (by omega)
      · skip
        refine R_iconst (v := nI 1) a_X11_believe_62 rfl ?_
        refine R_goto a_X11_believe_63 ?_
        exact hJ49 _ (by omega)
    · skip
      subst e49
      refine R_istore (ls' := [_, _, _, _, _, _, _, _, _, _, _, _, _, _]) a_X11_believe_67 rfl rfl rfl ?_
      refine R_lload_n a_X11_believe_69 rfl ?_
      refine R_dial 87 (fun v => v = fS T (w k) (sd k)) (fun hJ70 => ?_) (fun v70 e70 => ?_)
      · skip
        refine R_iload a_X11_believe_70 rfl ?_
        first | with_reducible refine R_if_eq_n a_X11_believe_72 (by first | omega | exact Nat.lt_of_le_of_lt (inR_le _ _) (by decide) | exact Nat.lt_of_le_of_lt (bitN_le _ _) (by decide) | exact Nat.lt_of_le_of_lt (inI_le _ _ _) (by decide) | exact inI_le _ _ _ | exact inR_le _ _ | exact bitN_le _ _) (fun h72 => ?_) (fun h72 => ?_) | refine R_if_eq a_X11_believe_72 (fun h72 => ?_) (fun h72 => ?_)
        · skip
          refine R_bipush (v := nI 10) a_X11_believe_81 rfl ?_
          refine R_iload a_X11_believe_83 rfl ?_
          first | with_reducible refine R_isub_n a_X11_believe_85 (by first | omega | exact Nat.lt_of_le_of_lt (inR_le _ _) (by decide) | exact Nat.lt_of_le_of_lt (bitN_le _ _) (by decide) | exact Nat.lt_of_le_of_lt (inI_le _ _ _) (by decide) | exact inI_le _ _ _ | exact inR_le _ _ | exact bitN_le _ _) ?_ | refine R_isub a_X11_believe_85 ?_
          refine R_i2l_n a_X11_believe_86 (by first | omega | exact Nat.lt_of_le_of_lt (inR_le _ _) (by decide) | exact Nat.lt_of_le_of_lt (bitN_le _ _) (by decide) | exact Nat.lt_of_le_of_lt (inI_le _ _ _) (by decide) | exact inI_le _ _ _ | exact inR_le _ _ | exact bitN_le _ _) ?_
          exact hJ70 _ (by unfold fS; first | rw [if_pos h72] | rw [if_neg h72])
        · skip
          refine R_iload a_X11_believe_75 rfl ?_
          refine R_i2l_n a_X11_believe_77 (by first | omega | exact Nat.lt_of_le_of_lt (inR_le _ _) (by decide) | exact Nat.lt_of_le_of_lt (bitN_le _ _) (by decide) | exact Nat.lt_of_le_of_lt (inI_le _ _ _) (by decide) | exact inI_le _ _ _ | exact inR_le _ _ | exact bitN_le _ _) ?_
          refine R_goto a_X11_believe_78 ?_
          exact hJ70 _ (by unfold fS; first | rw [if_pos h72] | rw [if_neg h72])
      · skip
        first | with_reducible refine R_lmul_n a_X11_believe_87 ?_ | refine R_lmul a_X11_believe_87 ?_
        refine R_lstore_n (ls' := [_, _, _, _, _, _, _, _, _, _, _, _, _, _]) a_X11_believe_88 rfl rfl rfl ?_
        refine R_lload a_X11_believe_89 rfl ?_
        refine R_dial 108 (fun v => v = fN T (w k) (sd k)) (fun hJ91 => ?_) (fun v91 e91 => ?_)
        · skip
          refine R_iload a_X11_believe_91 rfl ?_
          first | with_reducible refine R_if_eq_n a_X11_believe_93 (by first | omega | exact Nat.lt_of_le_of_lt (inR_le _ _) (by decide) | exact Nat.lt_of_le_of_lt (bitN_le _ _) (by decide) | exact Nat.lt_of_le_of_lt (inI_le _ _ _) (by decide) | exact inI_le _ _ _ | exact inR_le _ _ | exact bitN_le _ _) (fun h93 => ?_) (fun h93 => ?_) | refine R_if_eq a_X11_believe_93 (fun h93 => ?_) (fun h93 => ?_)
          · skip
            refine R_iload a_X11_believe_105 rfl ?_
            refine R_i2l_n a_X11_believe_107 (by first | omega | exact Nat.lt_of_le_of_lt (inR_le _ _) (by decide) | exact Nat.lt_of_le_of_lt (bitN_le _ _) (by decide) | exact Nat.lt_of_le_of_lt (inI_le _ _ _) (by decide) | exact inI_le _ _ _ | exact inR_le _ _ | exact bitN_le _ _) ?_
            exact hJ91 _ (by unfold fN; first | rw [if_pos h93] | rw [if_neg h93])
          · skip
            refine R_bipush (v := nI 10) a_X11_believe_96 rfl ?_
            refine R_iload a_X11_believe_98 rfl ?_
            first | with_reducible refine R_isub_n a_X11_believe_100 (by first | omega | exact Nat.lt_of_le_of_lt (inR_le _ _) (by decide) | exact Nat.lt_of_le_of_lt (bitN_le _ _) (by decide) | exact Nat.lt_of_le_of_lt (inI_le _ _ _) (by decide) | exact inI_le _ _ _ | exact inR_le _ _ | exact bitN_le _ _) ?_ | refine R_isub a_X11_believe_100 ?_
            refine R_i2l_n a_X11_believe_101 (by first | omega | exact Nat.lt_of_le_of_lt (inR_le _ _) (by decide) | exact Nat.lt_of_le_of_lt (bitN_le _ _) (by decide) | exact Nat.lt_of_le_of_lt (inI_le _ _ _) (by decide) | exact inI_le _ _ _ | exact inR_le _ _ | exact bitN_le _ _) ?_
            refine R_goto a_X11_believe_102 ?_
            exact hJ91 _ (by unfold fN; first | rw [if_pos h93] | rw [if_neg h93])
        · skip
          first | with_reducible refine R_lmul_n a_X11_believe_108 ?_ | refine R_lmul a_X11_believe_108 ?_
          refine R_lstore (ls' := [_, _, _, _, _, _, _, _, _, _, _, _, _, _]) a_X11_believe_109 rfl rfl rfl ?_
          first | with_reducible refine R_iinc_n (ls' := [_, _, _, _, _, _, _, _, _, _, _, _, _, _]) a_X11_believe_111 rfl rfl rfl rfl ?_ | refine R_iinc (ls' := [_, _, _, _, _, _, _, _, _, _, _, _, _, _]) a_X11_believe_111 rfl rfl rfl rfl rfl ?_
          refine R_goto a_X11_believe_114 ?_
          have hih := ih _ (show n - (k + 1) < m by omega) (k + 1) (some (.int (nI (T.hn (w k))))) (some (.int (nI (sd k)))) rfl (by omega)
          simp only [pS, pN] at hih
          rw [← e70, ← e91] at hih
          exact hih

set_option maxRecDepth 20000 in
theorem md_believe {σ0 : AHp} {U : Us} {m : Nat} (hC : MP σ0 U) (hU : UOk U m) (hm : m < 2 ^ 20) {x : Int32} : EvW M_X11_believe [.ref 272, .int x] σ0 (some (.long (zBelieve U x))) (fun σ => MP σ (U) ∧ Fr σ0 σ 272 12) := by
  obtain ⟨at_, fx, ft, fd, fp, fi, fy, fw, fs, fb, fh, hM, hMX, hMT, hDr, hSr, hMPa, hMIm, hMSy, hWy, hSm, hBh, hHd⟩ := id hC
  obtain ⟨hTx, hTxv⟩ := id hMX
  obtain ⟨hTo, t0, t1, t2, t3, t28, tkd, thn, tkn, thf⟩ := id hMT
  obtain ⟨hPa, hPav⟩ := id hMPa
  obtain ⟨hIm, hImv⟩ := id hMIm
  obtain ⟨hSy, hSyv⟩ := id hMSy
  have ok := hU.T
  obtain ⟨g3, g8, n1, n6, lw, stg, son, kd4, hn10, kn63, hf4⟩ := id ok
  have hn64 : 2 ^ U.T.n ≤ 2 ^ 6 := Nat.pow_le_pow_right (by decide) n6
  have hg256 : 2 ^ U.T.g ≤ 2 ^ 8 := Nat.pow_le_pow_right (by decide) g8
  have hlen := hU.len
  have hu8 := hU.u8
  have hul := hU.ul
  have hkn2 := hU.kn2
  have hsg := saltF_lt ok U.h
  have hfr : ∀ j, j < 272 ∨ 284 ≤ j → σ0 j = σ0 j := fun _ _ => rfl
  have hns8 := hU.2.2.2.2.2.2.2.2.2.1
  have hsy := hU.2.2.2.2.2.2.2.2.2.2
  refine Ev.of (ls := [_, _, _, _, _, _, _, _, _, _, _, _, _, _]) 12 (by decide) rfl rfl ?_
  refine R_iload_n a_X11_believe_0 rfl ?_
  refine R_iconst (v := nI 0) a_X11_believe_1 rfl ?_
  refine R_iconst (v := nI 1) a_X11_believe_2 rfl ?_
  refine R_callSp a_X11_believe_3 md_in rfl rfl rfl rfl rfl ?_
  refine R_top (congrArg nI (inI_c x (n := 1) (by decide))) ?_
  first | with_reducible refine R_if_ne_n a_X11_believe_6 (by first | omega | exact Nat.lt_of_le_of_lt (inR_le _ _) (by decide) | exact Nat.lt_of_le_of_lt (bitN_le _ _) (by decide) | exact Nat.lt_of_le_of_lt (inI_le _ _ _) (by decide) | exact inI_le _ _ _ | exact inR_le _ _ | exact bitN_le _ _) (fun h6 => ?_) (fun h6 => ?_) | refine R_if_ne a_X11_believe_6 (fun h6 => ?_) (fun h6 => ?_)
  · skip
    obtain ⟨c, hc, rfl⟩ := inR_nz (by omega) h6
    have hz : zBelieve U (nI c) = belF (pS U.T U.sw U.ss U.ns) (pN U.T U.sw U.ss U.ns) (decide (c = 0)) := by unfold zBelieve; rw [gd_in hc (by decide)]
    refine R_lconst (v := lN 1) a_X11_believe_13 rfl ?_
    refine R_lstore_n (ls' := [_, _, _, _, _, _, _, _, _, _, _, _, _, _]) a_X11_believe_14 rfl rfl rfl ?_
    refine R_lconst (v := lN 1) a_X11_believe_15 rfl ?_
    refine R_lstore (ls' := [_, _, _, _, _, _, _, _, _, _, _, _, _, _]) a_X11_believe_16 rfl rfl rfl ?_
    refine R_iconst (v := nI 0) a_X11_believe_18 rfl ?_
    refine R_istore (ls' := [_, _, _, _, _, _, _, _, _, _, _, _, _, _]) a_X11_believe_19 rfl rfl rfl ?_
    rw [hz]
    refine Run.eqQ (lp_mbel1 hM hMT ok hSy hSyv hns8 (fun k hk => (hsy k hk).1) (fun k hk => (hsy k hk).2) hc _ 0 none none rfl (Nat.zero_le _)) (fun r σ2 hq => ⟨hq.1, ?_⟩)
    rw [hq.2]
    exact ⟨hC, Fr.rf _ _ _⟩
  · skip
    have hz : zBelieve U x = -1 := by unfold zBelieve; rw [gd_out h6]
    refine R_ldc2 a_X11_believe_9 ck_X11_163 ?_
    refine R_lret a_X11_believe_12 rfl ?_
    exact ⟨by rw [hz], hC, Fr.rf _ _ _⟩

/-- the history of a dinner -/
def dnL (T : Tb) (h : Hs) (z : Nat) : Nat → Hs
  | 0 => h
  | k + 1 => (dnC T z k, 128) :: dnL T h z k
theorem dn_untr {T : Tb} (ok : TbOk T) (z k : Nat) : untr (dnC T z k) T.so = !(dnH T z k) := by
  have hi : dnI T z k < T.g := Nat.mod_lt _ (by have := ok.1; omega)
  have ht : dnT T z k < T.n := Nat.mod_lt _ (by have := ok.2.2.1; omega)
  have g8 := ok.2.1
  have n6 := ok.2.2.2.1
  have hb : (if bitN T.so (dnT T z k) = b2n (dnH T z k) then 1 else 0) ≤ 1 := by split <;> omega
  unfold untr dnC
  rw [say_said hb, say_top (by omega) hb]
  have hl := say_lt (show dnI T z k < 8 by omega) (show dnT T z k < 6 by omega) hb
  have h1 := bitN_le T.so (dnT T z k)
  cases hh : dnH T z k with
  | true =>
    rw [b2n_t]
    apply decide_eq_false
    rintro ⟨-, q⟩
    by_cases e : bitN T.so (dnT T z k) = 1
    · rw [if_pos e] at q; omega
    · rw [if_neg e] at q; omega
  | false =>
    rw [b2n_f]
    apply decide_eq_true
    rw [hh, b2n_f] at hl
    refine ⟨by omega, ?_⟩
    by_cases e : bitN T.so (dnT T z k) = 0
    · rw [if_pos e]; omega
    · rw [if_neg e]; omega
theorem dnL_is {T : Tb} (ok : TbOk T) (h : Hs) (z : Nat) : ∀ k, saltF T (dnL T h z k) = (dnK T (saltF T h) z k).1 ∧ untF T (dnL T h z k) = untF T h + (dnK T (saltF T h) z k).2 := by
  intro k
  induction k with
  | zero => exact ⟨rfl, rfl⟩
  | succ k ih =>
    refine ⟨?_, ?_⟩
    · show comesF T (saltF T (dnL T h z k)) (dnC T z k) 128 T.so T.law = comesF T (dnK T (saltF T h) z k).1 (dnC T z k) 128 T.so T.law
      rw [ih.1]
    · show untF T (dnL T h z k) + b2n (untr (dnC T z k) T.so) + b2n (untr 128 T.so) = untF T h + ((dnK T (saltF T h) z k).2 + (if dnH T z k = true then 0 else 1))
      rw [ih.2, untr_128, dn_untr ok]
      cases dnH T z k
      · rfl
      · rfl
theorem dn_bit {b : Nat} {x : Bool} (hb : b ≤ 1) {v : Nat} (hv : v = if b = 1 then 1 else 0) : (if b = b2n x then 1 else 0) = if v = b2n x then 1 else 0 := by
  have : v = b := by rw [hv]; split <;> omega
  rw [this]
set_option maxRecDepth 20000 in
theorem lp_din1 {σ0 : AHp} {tl u kn ns : Nat} {at_ : Int32} (hM0 : σ0 272 = some (mdO tl u kn ns at_)) {f0 g : Nat → Int32} (hSq0 : σ0 276 = some (iA 0 43 g)) {z n c : Nat} {Q : Option Value → AHp → Prop} (hx : ∀ σ : AHp, σ 283 = some (iA 0 43 g) → (∀ j, j ≠ 283 → σ j = σ0 j) → Run M_X11_dinner 62 [some (.ref 272), some (.int (nI z)), some (.int (nI n)), some (.int (nI c)), some (.int (nI 43)), none, none, none, none, none, none] [] σ 0 0 Q) : ∀ (m q : Nat) (σ : AHp), 43 - q = m → q ≤ 43 → σ 283 = some (iA 0 43 (sh0 f0 g q)) → (∀ j, j ≠ 283 → σ j = σ0 j) → Run M_X11_dinner 35 [some (.ref 272), some (.int (nI z)), some (.int (nI n)), some (.int (nI c)), some (.int (nI q)), none, none, none, none, none, none] [] σ 0 0 Q := by
  intro m
  induction m using Nat.strongRecOn
  rename_i m ih
  intro q σ hm hk hHd hfr
  have hM := (hfr 272 (by omega)).trans hM0
  have hSq := (hfr 276 (by omega)).trans hSq0
  refine R_iload a_X11_dinner_35 rfl ?_
  refine R_bipush (v := nI 43) a_X11_dinner_37 rfl ?_
  first | with_reducible refine R_icmp_ge_n a_X11_dinner_39 (by first | omega | exact Nat.lt_of_le_of_lt (inR_le _ _) (by decide) | exact Nat.lt_of_le_of_lt (bitN_le _ _) (by decide) | exact Nat.lt_of_le_of_lt (inI_le _ _ _) (by decide) | exact inI_le _ _ _ | exact inR_le _ _ | exact bitN_le _ _) (by first | omega | exact Nat.lt_of_le_of_lt (inR_le _ _) (by decide) | exact Nat.lt_of_le_of_lt (bitN_le _ _) (by decide) | exact Nat.lt_of_le_of_lt (inI_le _ _ _) (by decide) | exact inI_le _ _ _ | exact inR_le _ _ | exact bitN_le _ _) (fun h39 => ?_) (fun h39 => ?_) | refine R_icmp_ge a_X11_dinner_39 (fun h39 => ?_) (fun h39 => ?_)
  · skip
    have hke : q = 43 := by omega
    subst hke
    refine R_ext g (by decide) hHd (fun j hj => sh0_in _ _ hj) (fun σ2 hHd ho => ?_)
    exact hx σ2 hHd (fun j hj => (ho j hj).trans (hfr j hj))
  · skip
    refine R_aload_n a_X11_dinner_42 rfl ?_
    refine R_get a_X11_dinner_43 hM rfl ?_
    refine R_iload a_X11_dinner_46 rfl ?_
    refine R_aload_n a_X11_dinner_48 rfl ?_
    refine R_get a_X11_dinner_49 hM rfl ?_
    refine R_iload a_X11_dinner_52 rfl ?_
    refine R_iald_n a_X11_dinner_54 hSq (by first | omega | exact Nat.lt_of_le_of_lt (inR_le _ _) (by decide) | exact Nat.lt_of_le_of_lt (bitN_le _ _) (by decide) | exact Nat.lt_of_le_of_lt (inI_le _ _ _) (by decide) | exact inI_le _ _ _ | exact inR_le _ _ | exact bitN_le _ _) (by decide) ?_
    refine R_iastK a_X11_dinner_55 (by omega) hHd (by first | omega | exact Nat.lt_of_le_of_lt (inR_le _ _) (by decide) | exact Nat.lt_of_le_of_lt (bitN_le _ _) (by decide) | exact Nat.lt_of_le_of_lt (inI_le _ _ _) (by decide) | exact inI_le _ _ _ | exact inR_le _ _ | exact bitN_le _ _) (by decide) (fun σ hHd ho => ?_)
    have hM := (ho _ (by omega)).trans hM
    have hSq := (ho _ (by omega)).trans hSq
    have hfr : ∀ j, j ≠ 283 → σ j = σ0 j := fun j hj => (ho j (by omega)).trans (hfr j hj)
    have he : upd (sh0 f0 g q) q (g q) = sh0 f0 g (q + 1) := sh0_up _ _ _
    rw [he] at hHd
    first | with_reducible refine R_iinc_n (ls' := [_, _, _, _, _, _, _, _, _, _, _]) a_X11_dinner_56 rfl rfl rfl rfl ?_ | refine R_iinc (ls' := [_, _, _, _, _, _, _, _, _, _, _]) a_X11_dinner_56 rfl rfl rfl rfl rfl ?_
    refine R_goto a_X11_dinner_59 ?_
    exact ih _ (show 43 - (q + 1) < m by omega) (q + 1) σ rfl (by omega) hHd hfr

set_option maxRecDepth 20000 in
theorem lp_din3 {σ0 : AHp} {tl u kn ns : Nat} {at_ : Int32} (hM0 : σ0 272 = some (mdO tl u kn ns at_)) {f0 g : Nat → Int32} (hHd0 : σ0 283 = some (iA 0 43 g)) {z n c : Nat} {v : Int32} {x6 x7 x8 x9 x10 : Option Value} : ∀ (m q : Nat) (σ : AHp), 43 - q = m → q ≤ 43 → σ 276 = some (iA 0 43 (sh0 f0 g q)) → (∀ j, j ≠ 276 → σ j = σ0 j) → Run M_X11_dinner 239 [some (.ref 272), some (.int (nI z)), some (.int (nI n)), some (.int (nI c)), some (.int v), some (.int (nI q)), x6, x7, x8, x9, x10] [] σ 0 0 (fun r σ => r = some (.int v) ∧ σ 276 = some (iA 0 43 g) ∧ ∀ j, j ≠ 276 → σ j = σ0 j) := by
  intro m
  induction m using Nat.strongRecOn
  rename_i m ih
  intro q σ hm hk hSq hfr
  have hM := (hfr 272 (by omega)).trans hM0
  have hHd := (hfr 283 (by omega)).trans hHd0
  refine R_iload a_X11_dinner_239 rfl ?_
  refine R_bipush (v := nI 43) a_X11_dinner_241 rfl ?_
  first | with_reducible refine R_icmp_ge_n a_X11_dinner_243 (by first | omega | exact Nat.lt_of_le_of_lt (inR_le _ _) (by decide) | exact Nat.lt_of_le_of_lt (bitN_le _ _) (by decide) | exact Nat.lt_of_le_of_lt (inI_le _ _ _) (by decide) | exact inI_le _ _ _ | exact inR_le _ _ | exact bitN_le _ _) (by first | omega | exact Nat.lt_of_le_of_lt (inR_le _ _) (by decide) | exact Nat.lt_of_le_of_lt (bitN_le _ _) (by decide) | exact Nat.lt_of_le_of_lt (inI_le _ _ _) (by decide) | exact inI_le _ _ _ | exact inR_le _ _ | exact bitN_le _ _) (fun h243 => ?_) (fun h243 => ?_) | refine R_icmp_ge a_X11_dinner_243 (fun h243 => ?_) (fun h243 => ?_)
  · skip
    have hke : q = 43 := by omega
    subst hke
    refine R_ext g (by decide) hSq (fun j hj => sh0_in _ _ hj) (fun σ2 hSq ho => ?_)
    have hfr : ∀ j, j ≠ 276 → σ2 j = σ0 j := fun j hj => (ho j hj).trans (hfr j hj)
    refine R_iload a_X11_dinner_266 rfl ?_
    refine R_iret a_X11_dinner_268 rfl ?_
    exact ⟨rfl, hSq, hfr⟩
  · skip
    refine R_aload_n a_X11_dinner_246 rfl ?_
    refine R_get a_X11_dinner_247 hM rfl ?_
    refine R_iload a_X11_dinner_250 rfl ?_
    refine R_aload_n a_X11_dinner_252 rfl ?_
    refine R_get a_X11_dinner_253 hM rfl ?_
    refine R_iload a_X11_dinner_256 rfl ?_
    refine R_iald_n a_X11_dinner_258 hHd (by first | omega | exact Nat.lt_of_le_of_lt (inR_le _ _) (by decide) | exact Nat.lt_of_le_of_lt (bitN_le _ _) (by decide) | exact Nat.lt_of_le_of_lt (inI_le _ _ _) (by decide) | exact inI_le _ _ _ | exact inR_le _ _ | exact bitN_le _ _) (by decide) ?_
    refine R_iastK a_X11_dinner_259 (by omega) hSq (by first | omega | exact Nat.lt_of_le_of_lt (inR_le _ _) (by decide) | exact Nat.lt_of_le_of_lt (bitN_le _ _) (by decide) | exact Nat.lt_of_le_of_lt (inI_le _ _ _) (by decide) | exact inI_le _ _ _ | exact inR_le _ _ | exact bitN_le _ _) (by decide) (fun σ hSq ho => ?_)
    have hM := (ho _ (by omega)).trans hM
    have hHd := (ho _ (by omega)).trans hHd
    have hfr : ∀ j, j ≠ 276 → σ j = σ0 j := fun j hj => (ho j (by omega)).trans (hfr j hj)
    have he : upd (sh0 f0 g q) q (g q) = sh0 f0 g (q + 1) := sh0_up _ _ _
    rw [he] at hSq
    first | with_reducible refine R_iinc_n (ls' := [_, _, _, _, _, _, _, _, _, _, _]) a_X11_dinner_260 rfl rfl rfl rfl ?_ | refine R_iinc (ls' := [_, _, _, _, _, _, _, _, _, _, _]) a_X11_dinner_260 rfl rfl rfl rfl rfl ?_
    refine R_goto a_X11_dinner_263 ?_
    exact ih _ (show 43 - (q + 1) < m by omega) (q + 1) σ rfl (by omega) hSq hfr

set_option maxRecDepth 20000 in
theorem lp_din2 {σ0 : AHp} {tl u kn ns : Nat} {at_ : Int32} {ft : Nat → Int32} {T : Tb} (hM0 : σ0 272 = some (mdO tl u kn ns at_)) (hMT0 : MT σ0 ft T) (ok : TbOk T) {h : Hs} (hHd0 : σ0 283 = some (iA 0 43 (nF (sF T h)))) {z n c : Nat} (hz : z ≤ 9999) (hn : n ≤ 60) (hc : c < 2) : ∀ (m k : Nat) (σ : AHp) (x5 x6 x7 x8 x9 x10 : Option Value), n - k = m → k ≤ n → σ 276 = some (iA 0 43 (nF (sF T (dnL T h z k)))) → (∀ j, j ≠ 276 → σ j = σ0 j) → Run M_X11_dinner 65 [some (.ref 272), some (.int (nI z)), some (.int (nI n)), some (.int (nI c)), some (.int (nI k)), x5, x6, x7, x8, x9, x10] [] σ 0 0 (fun r σ => r = some (.int (if c = 0 then nI (dnK T (saltF T h) z n).1 else nI (dnK T (saltF T h) z n).2)) ∧ σ 276 = some (iA 0 43 (nF (sF T h))) ∧ ∀ j, j ≠ 276 → σ j = σ0 j) := by
  obtain ⟨hTo, t0, t1, t2, t3, t28, tkd, thn, tkn, thf⟩ := id hMT0
  obtain ⟨g3, g8, n1, n6, lw, stg, son, kd4, hn10, kn63, hf4⟩ := id ok
  have hn64 : 2 ^ T.n ≤ 2 ^ 6 := Nat.pow_le_pow_right (by decide) n6
  have hTo0 := hTo
  intro m
  induction m using Nat.strongRecOn
  rename_i m ih
  intro k σ x5 x6 x7 x8 x9 x10 hm hk hSq hfr
  have hM := (hfr 272 (by omega)).trans hM0
  have hTo := (hfr 274 (by omega)).trans hTo0
  have hMT : MT σ ft T := ⟨hTo, t0, t1, t2, t3, t28, tkd, thn, tkn, thf⟩
  have hHd := (hfr 283 (by omega)).trans hHd0
  have hxx : (7919 * z + 6151 * k + 1) * (7919 * z + 6151 * k + 1) ≤ 80000000 * 80000000 := Nat.mul_le_mul (by omega) (by omega)
  have hmo := Nat.mod_lt ((7919 * z + 6151 * k + 1) * (7919 * z + 6151 * k + 1)) (show 0 < 65521 by decide)
  have hdl : drwF z k < 2 ^ 20 := by
    unfold drwF
    omega
  have hi : dnI T z k < T.g := Nat.mod_lt _ (by omega)
  have ht : dnT T z k < T.n := Nat.mod_lt _ (by omega)
  have hh10 := hn10 _ hi
  have hbt := bitN_le T.so (dnT T z k)
  have hbh := b2n_le (dnH T z k)
  refine R_iload a_X11_dinner_65 rfl ?_
  refine R_iload_n a_X11_dinner_67 rfl ?_
  first | with_reducible refine R_icmp_ge_n a_X11_dinner_68 (by first | omega | exact Nat.lt_of_le_of_lt (inR_le _ _) (by decide) | exact Nat.lt_of_le_of_lt (bitN_le _ _) (by decide) | exact Nat.lt_of_le_of_lt (inI_le _ _ _) (by decide) | exact inI_le _ _ _ | exact inR_le _ _ | exact bitN_le _ _) (by first | omega | exact Nat.lt_of_le_of_lt (inR_le _ _) (by decide) | exact Nat.lt_of_le_of_lt (bitN_le _ _) (by decide) | exact Nat.lt_of_le_of_lt (inI_le _ _ _) (by decide) | exact inI_le _ _ _ | exact inR_le _ _ | exact bitN_le _ _) (fun h68 => ?_) (fun h68 => ?_) | refine R_icmp_ge a_X11_dinner_68 (fun h68 => ?_) (fun h68 => ?_)
  · skip
    have hke : k = n := by omega
    subst hke
    have hde := dnL_is ok h z k
    refine R_iload_n a_X11_dinner_208 rfl ?_
    first | with_reducible refine R_if_ne_n a_X11_dinner_209 (by first | omega | exact Nat.lt_of_le_of_lt (inR_le _ _) (by decide) | exact Nat.lt_of_le_of_lt (bitN_le _ _) (by decide) | exact Nat.lt_of_le_of_lt (inI_le _ _ _) (by decide) | exact inI_le _ _ _ | exact inR_le _ _ | exact bitN_le _ _) (fun h209 => ?_) (fun h209 => ?_) | refine R_if_ne a_X11_dinner_209 (fun h209 => ?_) (fun h209 => ?_)
    · skip
      have hv : (if c = 0 then nI (dnK T (saltF T h) z k).1 else nI (dnK T (saltF T h) z k).2) = nI (dnK T (saltF T h) z k).2 := if_neg h209
      refine R_aload_n a_X11_dinner_221 rfl ?_
      refine R_get a_X11_dinner_222 hM rfl ?_
      refine R_iconst (v := nI 2) a_X11_dinner_225 rfl ?_
      refine R_iald_n a_X11_dinner_226 hSq (by first | omega | exact Nat.lt_of_le_of_lt (inR_le _ _) (by decide) | exact Nat.lt_of_le_of_lt (bitN_le _ _) (by decide) | exact Nat.lt_of_le_of_lt (inI_le _ _ _) (by decide) | exact inI_le _ _ _ | exact inR_le _ _ | exact bitN_le _ _) (by decide) ?_
      refine R_top (congrArg nI ((sF_2 T (dnL T h z k)).trans hde.2)) ?_
      refine R_aload_n a_X11_dinner_227 rfl ?_
      refine R_get a_X11_dinner_228 hM rfl ?_
      refine R_iconst (v := nI 2) a_X11_dinner_231 rfl ?_
      refine R_iald_n a_X11_dinner_232 hHd (by first | omega | exact Nat.lt_of_le_of_lt (inR_le _ _) (by decide) | exact Nat.lt_of_le_of_lt (bitN_le _ _) (by decide) | exact Nat.lt_of_le_of_lt (inI_le _ _ _) (by decide) | exact inI_le _ _ _ | exact inR_le _ _ | exact bitN_le _ _) (by decide) ?_
      refine R_top (congrArg nI (sF_2 T h)) ?_
      first | with_reducible refine R_isub_n a_X11_dinner_233 (by first | omega | exact Nat.lt_of_le_of_lt (inR_le _ _) (by decide) | exact Nat.lt_of_le_of_lt (bitN_le _ _) (by decide) | exact Nat.lt_of_le_of_lt (inI_le _ _ _) (by decide) | exact inI_le _ _ _ | exact inR_le _ _ | exact bitN_le _ _) ?_ | refine R_isub a_X11_dinner_233 ?_
      refine R_top (congrArg nI (show untF T h + (dnK T (saltF T h) z k).2 - untF T h = (dnK T (saltF T h) z k).2 by omega)) ?_
      refine R_istore (ls' := [_, _, _, _, _, _, _, _, _, _, _]) a_X11_dinner_234 rfl rfl rfl ?_
      refine R_iconst (v := nI 0) a_X11_dinner_236 rfl ?_
      refine R_istore (ls' := [_, _, _, _, _, _, _, _, _, _, _]) a_X11_dinner_237 rfl rfl rfl ?_
      rw [hv]
      have hz0 := sh0_z (nF (sF T (dnL T h z k))) (nF (sF T h))
      rw [← hz0] at hSq
      exact lp_din3 hM0 hHd0 _ 0 σ rfl (Nat.zero_le _) hSq hfr
    · skip
      have hv : (if c = 0 then nI (dnK T (saltF T h) z k).1 else nI (dnK T (saltF T h) z k).2) = nI (dnK T (saltF T h) z k).1 := if_pos h209
      refine R_aload_n a_X11_dinner_212 rfl ?_
      refine R_get a_X11_dinner_213 hM rfl ?_
      refine R_iconst (v := nI 0) a_X11_dinner_216 rfl ?_
      refine R_iald_n a_X11_dinner_217 hSq (by first | omega | exact Nat.lt_of_le_of_lt (inR_le _ _) (by decide) | exact Nat.lt_of_le_of_lt (bitN_le _ _) (by decide) | exact Nat.lt_of_le_of_lt (inI_le _ _ _) (by decide) | exact inI_le _ _ _ | exact inR_le _ _ | exact bitN_le _ _) (by decide) ?_
      refine R_top (congrArg nI ((sF_0 T (dnL T h z k)).trans hde.1)) ?_
      refine R_goto a_X11_dinner_218 ?_
      refine R_istore (ls' := [_, _, _, _, _, _, _, _, _, _, _]) a_X11_dinner_234 rfl rfl rfl ?_
      refine R_iconst (v := nI 0) a_X11_dinner_236 rfl ?_
      refine R_istore (ls' := [_, _, _, _, _, _, _, _, _, _, _]) a_X11_dinner_237 rfl rfl rfl ?_
      rw [hv]
      have hz0 := sh0_z (nF (sF T (dnL T h z k))) (nF (sF T h))
      rw [← hz0] at hSq
      exact lp_din3 hM0 hHd0 _ 0 σ rfl (Nat.zero_le _) hSq hfr
  · skip
    refine R_ldc2 a_X11_dinner_71 ck_X11_167 ?_
    refine R_topl (show (7919 : Int64) = lN 7919 from rfl) ?_
    refine R_iload_n a_X11_dinner_74 rfl ?_
    refine R_i2l_n a_X11_dinner_75 (by first | omega | exact Nat.lt_of_le_of_lt (inR_le _ _) (by decide) | exact Nat.lt_of_le_of_lt (bitN_le _ _) (by decide) | exact Nat.lt_of_le_of_lt (inI_le _ _ _) (by decide) | exact inI_le _ _ _ | exact inR_le _ _ | exact bitN_le _ _) ?_
    first | with_reducible refine R_lmul_n a_X11_dinner_76 ?_ | refine R_lmul a_X11_dinner_76 ?_
    refine R_ldc2 a_X11_dinner_77 ck_X11_169 ?_
    refine R_topl (show (6151 : Int64) = lN 6151 from rfl) ?_
    refine R_iload a_X11_dinner_80 rfl ?_
    refine R_i2l_n a_X11_dinner_82 (by first | omega | exact Nat.lt_of_le_of_lt (inR_le _ _) (by decide) | exact Nat.lt_of_le_of_lt (bitN_le _ _) (by decide) | exact Nat.lt_of_le_of_lt (inI_le _ _ _) (by decide) | exact inI_le _ _ _ | exact inR_le _ _ | exact bitN_le _ _) ?_
    first | with_reducible refine R_lmul_n a_X11_dinner_83 ?_ | refine R_lmul a_X11_dinner_83 ?_
    first | with_reducible refine R_ladd_n a_X11_dinner_84 ?_ | refine R_ladd a_X11_dinner_84 ?_
    refine R_lconst (v := lN 1) a_X11_dinner_85 rfl ?_
    first | with_reducible refine R_ladd_n a_X11_dinner_86 ?_ | refine R_ladd a_X11_dinner_86 ?_
    refine R_lstore (ls' := [_, _, _, _, _, _, _, _, _, _, _]) a_X11_dinner_87 rfl rfl rfl ?_
    refine R_lload a_X11_dinner_89 rfl ?_
    refine R_lload a_X11_dinner_91 rfl ?_
    first | with_reducible refine R_lmul_n a_X11_dinner_93 ?_ | refine R_lmul a_X11_dinner_93 ?_
    refine R_ldc2 a_X11_dinner_94 ck_X11_171 ?_
    refine R_topl (show (65521 : Int64) = lN 65521 from rfl) ?_
    refine R_lrem_n a_X11_dinner_97 (by first | omega | exact Nat.lt_of_le_of_lt (inR_le _ _) (by decide) | exact Nat.lt_of_le_of_lt (bitN_le _ _) (by decide) | exact Nat.lt_of_le_of_lt (inI_le _ _ _) (by decide) | exact inI_le _ _ _ | exact inR_le _ _ | exact bitN_le _ _) (by first | omega | exact Nat.lt_of_le_of_lt (inR_le _ _) (by decide) | exact Nat.lt_of_le_of_lt (bitN_le _ _) (by decide) | exact Nat.lt_of_le_of_lt (inI_le _ _ _) (by decide) | exact inI_le _ _ _ | exact inR_le _ _ | exact bitN_le _ _) (by first | omega | exact Nat.lt_of_le_of_lt (inR_le _ _) (by decide) | exact Nat.lt_of_le_of_lt (bitN_le _ _) (by decide) | exact Nat.lt_of_le_of_lt (inI_le _ _ _) (by decide) | exact inI_le _ _ _ | exact inR_le _ _ | exact bitN_le _ _) ?_
    refine R_l2i_n a_X11_dinner_98 ?_
    refine R_bipush (v := nI 8) a_X11_dinner_99 rfl ?_
    refine R_idiv_n a_X11_dinner_101 (by first | omega | exact Nat.lt_of_le_of_lt (inR_le _ _) (by decide) | exact Nat.lt_of_le_of_lt (bitN_le _ _) (by decide) | exact Nat.lt_of_le_of_lt (inI_le _ _ _) (by decide) | exact inI_le _ _ _ | exact inR_le _ _ | exact bitN_le _ _) (by first | omega | exact Nat.lt_of_le_of_lt (inR_le _ _) (by decide) | exact Nat.lt_of_le_of_lt (bitN_le _ _) (by decide) | exact Nat.lt_of_le_of_lt (inI_le _ _ _) (by decide) | exact inI_le _ _ _ | exact inR_le _ _ | exact bitN_le _ _) (by first | omega | exact Nat.lt_of_le_of_lt (inR_le _ _) (by decide) | exact Nat.lt_of_le_of_lt (bitN_le _ _) (by decide) | exact Nat.lt_of_le_of_lt (inI_le _ _ _) (by decide) | exact inI_le _ _ _ | exact inR_le _ _ | exact bitN_le _ _) ?_
    refine R_top (show nI ((7919 * z + 6151 * k + 1) * (7919 * z + 6151 * k + 1) % 65521 / 8) = nI (drwF z k) from rfl) ?_
    refine R_istore (ls' := [_, _, _, _, _, _, _, _, _, _, _]) a_X11_dinner_102 rfl rfl rfl ?_
    refine R_iload a_X11_dinner_104 rfl ?_
    refine R_aload_n a_X11_dinner_106 rfl ?_
    refine R_get a_X11_dinner_107 hM rfl ?_
    refine R_iconst (v := nI 0) a_X11_dinner_110 rfl ?_
    refine R_iald_n a_X11_dinner_111 hTo (by first | omega | exact Nat.lt_of_le_of_lt (inR_le _ _) (by decide) | exact Nat.lt_of_le_of_lt (bitN_le _ _) (by decide) | exact Nat.lt_of_le_of_lt (inI_le _ _ _) (by decide) | exact inI_le _ _ _ | exact inR_le _ _ | exact bitN_le _ _) (by decide) ?_
    refine R_top t0 ?_
    refine R_irem_n a_X11_dinner_112 (by first | omega | exact Nat.lt_of_le_of_lt (inR_le _ _) (by decide) | exact Nat.lt_of_le_of_lt (bitN_le _ _) (by decide) | exact Nat.lt_of_le_of_lt (inI_le _ _ _) (by decide) | exact inI_le _ _ _ | exact inR_le _ _ | exact bitN_le _ _) (by first | omega | exact Nat.lt_of_le_of_lt (inR_le _ _) (by decide) | exact Nat.lt_of_le_of_lt (bitN_le _ _) (by decide) | exact Nat.lt_of_le_of_lt (inI_le _ _ _) (by decide) | exact inI_le _ _ _ | exact inR_le _ _ | exact bitN_le _ _) (by first | omega | exact Nat.lt_of_le_of_lt (inR_le _ _) (by decide) | exact Nat.lt_of_le_of_lt (bitN_le _ _) (by decide) | exact Nat.lt_of_le_of_lt (inI_le _ _ _) (by decide) | exact inI_le _ _ _ | exact inR_le _ _ | exact bitN_le _ _) ?_
    refine R_top (show nI (drwF z k % T.g) = nI (dnI T z k) from rfl) ?_
    refine R_istore (ls' := [_, _, _, _, _, _, _, _, _, _, _]) a_X11_dinner_113 rfl rfl rfl ?_
    refine R_iload a_X11_dinner_115 rfl ?_
    refine R_bipush (v := nI 8) a_X11_dinner_117 rfl ?_
    refine R_idiv_n a_X11_dinner_119 (by first | omega | exact Nat.lt_of_le_of_lt (inR_le _ _) (by decide) | exact Nat.lt_of_le_of_lt (bitN_le _ _) (by decide) | exact Nat.lt_of_le_of_lt (inI_le _ _ _) (by decide) | exact inI_le _ _ _ | exact inR_le _ _ | exact bitN_le _ _) (by first | omega | exact Nat.lt_of_le_of_lt (inR_le _ _) (by decide) | exact Nat.lt_of_le_of_lt (bitN_le _ _) (by decide) | exact Nat.lt_of_le_of_lt (inI_le _ _ _) (by decide) | exact inI_le _ _ _ | exact inR_le _ _ | exact bitN_le _ _) (by first | omega | exact Nat.lt_of_le_of_lt (inR_le _ _) (by decide) | exact Nat.lt_of_le_of_lt (bitN_le _ _) (by decide) | exact Nat.lt_of_le_of_lt (inI_le _ _ _) (by decide) | exact inI_le _ _ _ | exact inR_le _ _ | exact bitN_le _ _) ?_
    refine R_aload_n a_X11_dinner_120 rfl ?_
    refine R_get a_X11_dinner_121 hM rfl ?_
    refine R_iconst (v := nI 1) a_X11_dinner_124 rfl ?_
    refine R_iald_n a_X11_dinner_125 hTo (by first | omega | exact Nat.lt_of_le_of_lt (inR_le _ _) (by decide) | exact Nat.lt_of_le_of_lt (bitN_le _ _) (by decide) | exact Nat.lt_of_le_of_lt (inI_le _ _ _) (by decide) | exact inI_le _ _ _ | exact inR_le _ _ | exact bitN_le _ _) (by decide) ?_
    refine R_top t1 ?_
    refine R_irem_n a_X11_dinner_126 (by first | omega | exact Nat.lt_of_le_of_lt (inR_le _ _) (by decide) | exact Nat.lt_of_le_of_lt (bitN_le _ _) (by decide) | exact Nat.lt_of_le_of_lt (inI_le _ _ _) (by decide) | exact inI_le _ _ _ | exact inR_le _ _ | exact bitN_le _ _) (by first | omega | exact Nat.lt_of_le_of_lt (inR_le _ _) (by decide) | exact Nat.lt_of_le_of_lt (bitN_le _ _) (by decide) | exact Nat.lt_of_le_of_lt (inI_le _ _ _) (by decide) | exact inI_le _ _ _ | exact inR_le _ _ | exact bitN_le _ _) (by first | omega | exact Nat.lt_of_le_of_lt (inR_le _ _) (by decide) | exact Nat.lt_of_le_of_lt (bitN_le _ _) (by decide) | exact Nat.lt_of_le_of_lt (inI_le _ _ _) (by decide) | exact inI_le _ _ _ | exact inR_le _ _ | exact bitN_le _ _) ?_
    refine R_top (show nI (drwF z k / 8 % T.n) = nI (dnT T z k) from rfl) ?_
    refine R_istore (ls' := [_, _, _, _, _, _, _, _, _, _, _]) a_X11_dinner_127 rfl rfl rfl ?_
    refine R_dian 155 (fun v => v = b2n (dnH T z k)) (fun hJ129 => ?_) (fun v129 e129 => ?_)
    · skip
      refine R_iload a_X11_dinner_129 rfl ?_
      refine R_bipush (v := nI 64) a_X11_dinner_131 rfl ?_
      refine R_idiv_n a_X11_dinner_133 (by first | omega | exact Nat.lt_of_le_of_lt (inR_le _ _) (by decide) | exact Nat.lt_of_le_of_lt (bitN_le _ _) (by decide) | exact Nat.lt_of_le_of_lt (inI_le _ _ _) (by decide) | exact inI_le _ _ _ | exact inR_le _ _ | exact bitN_le _ _) (by first | omega | exact Nat.lt_of_le_of_lt (inR_le _ _) (by decide) | exact Nat.lt_of_le_of_lt (bitN_le _ _) (by decide) | exact Nat.lt_of_le_of_lt (inI_le _ _ _) (by decide) | exact inI_le _ _ _ | exact inR_le _ _ | exact bitN_le _ _) (by first | omega | exact Nat.lt_of_le_of_lt (inR_le _ _) (by decide) | exact Nat.lt_of_le_of_lt (bitN_le _ _) (by decide) | exact Nat.lt_of_le_of_lt (inI_le _ _ _) (by decide) | exact inI_le _ _ _ | exact inR_le _ _ | exact bitN_le _ _) ?_
      refine R_bipush (v := nI 10) a_X11_dinner_134 rfl ?_
      refine R_irem_n a_X11_dinner_136 (by first | omega | exact Nat.lt_of_le_of_lt (inR_le _ _) (by decide) | exact Nat.lt_of_le_of_lt (bitN_le _ _) (by decide) | exact Nat.lt_of_le_of_lt (inI_le _ _ _) (by decide) | exact inI_le _ _ _ | exact inR_le _ _ | exact bitN_le _ _) (by first | omega | exact Nat.lt_of_le_of_lt (inR_le _ _) (by decide) | exact Nat.lt_of_le_of_lt (bitN_le _ _) (by decide) | exact Nat.lt_of_le_of_lt (inI_le _ _ _) (by decide) | exact inI_le _ _ _ | exact inR_le _ _ | exact bitN_le _ _) (by first | omega | exact Nat.lt_of_le_of_lt (inR_le _ _) (by decide) | exact Nat.lt_of_le_of_lt (bitN_le _ _) (by decide) | exact Nat.lt_of_le_of_lt (inI_le _ _ _) (by decide) | exact inI_le _ _ _ | exact inR_le _ _ | exact bitN_le _ _) ?_
      refine R_aload_n a_X11_dinner_137 rfl ?_
      refine R_get a_X11_dinner_138 hM rfl ?_
      refine R_bipush (v := nI 12) a_X11_dinner_141 rfl ?_
      refine R_iload a_X11_dinner_143 rfl ?_
      first | with_reducible refine R_iadd_n a_X11_dinner_145 ?_ | refine R_iadd a_X11_dinner_145 ?_
      refine R_iald_n a_X11_dinner_146 hTo (by first | omega | exact Nat.lt_of_le_of_lt (inR_le _ _) (by decide) | exact Nat.lt_of_le_of_lt (bitN_le _ _) (by decide) | exact Nat.lt_of_le_of_lt (inI_le _ _ _) (by decide) | exact inI_le _ _ _ | exact inR_le _ _ | exact bitN_le _ _) (by decide) ?_
      refine R_top (thn _ hi) ?_
      first | with_reducible refine R_icmp_ge_n a_X11_dinner_147 (by first | omega | exact Nat.lt_of_le_of_lt (inR_le _ _) (by decide) | exact Nat.lt_of_le_of_lt (bitN_le _ _) (by decide) | exact Nat.lt_of_le_of_lt (inI_le _ _ _) (by decide) | exact inI_le _ _ _ | exact inR_le _ _ | exact bitN_le _ _) (by first | omega | exact Nat.lt_of_le_of_lt (inR_le _ _) (by decide) | exact Nat.lt_of_le_of_lt (bitN_le _ _) (by decide) | exact Nat.lt_of_le_of_lt (inI_le _ _ _) (by decide) | exact inI_le _ _ _ | exact inR_le _ _ | exact bitN_le _ _) (fun h147 => ?_) (fun h147 => ?_) | refine R_icmp_ge a_X11_dinner_147 (fun h147 => ?_) (fun h147 => ?_)
      · skip
        have hde : 0 = b2n (dnH T z k) := by unfold dnH; rw [decide_eq_false (by omega)]; rfl
        refine R_iconst (v := nI 0) a_X11_dinner_154 rfl ?_
        exact hJ129 _ hde
      · skip
        have hde : 1 = b2n (dnH T z k) := by unfold dnH; rw [decide_eq_true (by omega)]; rfl
        refine R_iconst (v := nI 1) a_X11_dinner_150 rfl ?_
        refine R_goto a_X11_dinner_151 ?_
        exact hJ129 _ hde
    · skip
      subst e129
      refine R_istore (ls' := [_, _, _, _, _, _, _, _, _, _, _]) a_X11_dinner_155 rfl rfl rfl ?_
      refine R_aload_n a_X11_dinner_157 rfl ?_
      refine R_iload a_X11_dinner_158 rfl ?_
      refine R_iload a_X11_dinner_160 rfl ?_
      refine R_dian 193 (fun v => v = if bitN T.so (dnT T z k) = b2n (dnH T z k) then 1 else 0) (fun hJ162 => ?_) (fun v162 e162 => ?_)
      · skip
        refine R_aload_n a_X11_dinner_162 rfl ?_
        refine R_get a_X11_dinner_163 hM rfl ?_
        refine R_bipush (v := nI 28) a_X11_dinner_166 rfl ?_
        refine R_iald_n a_X11_dinner_168 hTo (by first | omega | exact Nat.lt_of_le_of_lt (inR_le _ _) (by decide) | exact Nat.lt_of_le_of_lt (bitN_le _ _) (by decide) | exact Nat.lt_of_le_of_lt (inI_le _ _ _) (by decide) | exact inI_le _ _ _ | exact inR_le _ _ | exact bitN_le _ _) (by decide) ?_
        refine R_top t28 ?_
        refine R_iload a_X11_dinner_169 rfl ?_
        first | with_reducible refine R_ishr_n a_X11_dinner_171 (by first | omega | exact Nat.lt_of_le_of_lt (inR_le _ _) (by decide) | exact Nat.lt_of_le_of_lt (bitN_le _ _) (by decide) | exact Nat.lt_of_le_of_lt (inI_le _ _ _) (by decide) | exact inI_le _ _ _ | exact inR_le _ _ | exact bitN_le _ _) (by first | omega | exact Nat.lt_of_le_of_lt (inR_le _ _) (by decide) | exact Nat.lt_of_le_of_lt (bitN_le _ _) (by decide) | exact Nat.lt_of_le_of_lt (inI_le _ _ _) (by decide) | exact inI_le _ _ _ | exact inR_le _ _ | exact bitN_le _ _) ?_ | refine R_ishr a_X11_dinner_171 ?_
        refine R_iconst (v := nI 1) a_X11_dinner_172 rfl ?_
        first | with_reducible refine R_iand1 a_X11_dinner_173 ?_ | with_reducible refine R_iand_n a_X11_dinner_173 ?_ | refine R_iand a_X11_dinner_173 ?_
        refine R_top (show nI (T.so / 2 ^ dnT T z k % 2) = nI (bitN T.so (dnT T z k)) from rfl) ?_
        refine R_iconst (v := nI 1) a_X11_dinner_174 rfl ?_
        first | with_reducible refine R_icmp_ne_n a_X11_dinner_175 (by first | omega | exact Nat.lt_of_le_of_lt (inR_le _ _) (by decide) | exact Nat.lt_of_le_of_lt (bitN_le _ _) (by decide) | exact Nat.lt_of_le_of_lt (inI_le _ _ _) (by decide) | exact inI_le _ _ _ | exact inR_le _ _ | exact bitN_le _ _) (by first | omega | exact Nat.lt_of_le_of_lt (inR_le _ _) (by decide) | exact Nat.lt_of_le_of_lt (bitN_le _ _) (by decide) | exact Nat.lt_of_le_of_lt (inI_le _ _ _) (by decide) | exact inI_le _ _ _ | exact inR_le _ _ | exact bitN_le _ _) (fun h175 => ?_) (fun h175 => ?_) | refine R_icmp_ne a_X11_dinner_175 (fun h175 => ?_) (fun h175 => ?_)
        · skip
          have hb1 : bitN T.so (dnT T z k) = 0 := by omega
          refine R_iconst (v := nI 0) a_X11_dinner_182 rfl ?_
          refine R_iload a_X11_dinner_183 rfl ?_
          first | with_reducible refine R_icmp_ne_n a_X11_dinner_185 (by first | omega | exact Nat.lt_of_le_of_lt (inR_le _ _) (by decide) | exact Nat.lt_of_le_of_lt (bitN_le _ _) (by decide) | exact Nat.lt_of_le_of_lt (inI_le _ _ _) (by decide) | exact inI_le _ _ _ | exact inR_le _ _ | exact bitN_le _ _) (by first | omega | exact Nat.lt_of_le_of_lt (inR_le _ _) (by decide) | exact Nat.lt_of_le_of_lt (bitN_le _ _) (by decide) | exact Nat.lt_of_le_of_lt (inI_le _ _ _) (by decide) | exact inI_le _ _ _ | exact inR_le _ _ | exact bitN_le _ _) (fun h185 => ?_) (fun h185 => ?_) | refine R_icmp_ne a_X11_dinner_185 (fun h185 => ?_) (fun h185 => ?_)
          · skip
            refine R_iconst (v := nI 0) a_X11_dinner_192 rfl ?_
            exact hJ162 _ (by rw [hb1]; first | rw [if_pos h185] | rw [if_neg h185])
          · skip
            refine R_iconst (v := nI 1) a_X11_dinner_188 rfl ?_
            refine R_goto a_X11_dinner_189 ?_
            exact hJ162 _ (by rw [hb1]; first | rw [if_pos h185] | rw [if_neg h185])
        · skip
          have hb1 : bitN T.so (dnT T z k) = 1 := h175
          refine R_iconst (v := nI 1) a_X11_dinner_178 rfl ?_
          refine R_goto a_X11_dinner_179 ?_
          refine R_iload a_X11_dinner_183 rfl ?_
          first | with_reducible refine R_icmp_ne_n a_X11_dinner_185 (by first | omega | exact Nat.lt_of_le_of_lt (inR_le _ _) (by decide) | exact Nat.lt_of_le_of_lt (bitN_le _ _) (by decide) | exact Nat.lt_of_le_of_lt (inI_le _ _ _) (by decide) | exact inI_le _ _ _ | exact inR_le _ _ | exact bitN_le _ _) (by first | omega | exact Nat.lt_of_le_of_lt (inR_le _ _) (by decide) | exact Nat.lt_of_le_of_lt (bitN_le _ _) (by decide) | exact Nat.lt_of_le_of_lt (inI_le _ _ _) (by decide) | exact inI_le _ _ _ | exact inR_le _ _ | exact bitN_le _ _) (fun h185 => ?_) (fun h185 => ?_) | refine R_icmp_ne a_X11_dinner_185 (fun h185 => ?_) (fun h185 => ?_)
          · skip
            refine R_iconst (v := nI 0) a_X11_dinner_192 rfl ?_
            exact hJ162 _ (by rw [hb1]; first | rw [if_pos h185] | rw [if_neg h185])
          · skip
            refine R_iconst (v := nI 1) a_X11_dinner_188 rfl ?_
            refine R_goto a_X11_dinner_189 ?_
            exact hJ162 _ (by rw [hb1]; first | rw [if_pos h185] | rw [if_neg h185])
      · skip
        have hbc : v162 ≤ 1 := by rw [e162]; split <;> omega
        refine R_callSp a_X11_dinner_193 (md_saying hbc) rfl rfl rfl rfl rfl ?_
        refine R_top (congrArg nI (show sayC (dnI T z k) (dnT T z k) v162 = dnC T z k by unfold dnC; rw [e162])) ?_
        refine R_sipush (v := nI 128) a_X11_dinner_196 rfl ?_
        refine R_callVv a_X11_dinner_199 hM (md_goes hM hMT ok (show CdOk T (dnC T z k) by unfold dnC; rw [← e162]; exact CdOk.say ok hi ht hbc) (Or.inl rfl) hSq) rfl rfl rfl rfl rfl (fun σ hP => ?_)
        obtain ⟨hSq, hf⟩ := hP
        have hM := (hf 272 (by omega)).trans hM
        have hfr : ∀ j, j ≠ 276 → σ j = σ0 j := fun j hj => (hf j hj).trans (hfr j hj)
        first | with_reducible refine R_iinc_n (ls' := [_, _, _, _, _, _, _, _, _, _, _]) a_X11_dinner_202 rfl rfl rfl rfl ?_ | refine R_iinc (ls' := [_, _, _, _, _, _, _, _, _, _, _]) a_X11_dinner_202 rfl rfl rfl rfl rfl ?_
        refine R_goto a_X11_dinner_205 ?_
        exact ih _ (show n - (k + 1) < m by omega) (k + 1) σ _ _ _ _ _ _ rfl (by omega) hSq hfr

set_option maxRecDepth 20000 in
theorem md_dinner {σ0 : AHp} {U : Us} {m : Nat} (hC : MP σ0 U) (hU : UOk U m) (hm : m < 2 ^ 20) {x y w : Int32} : EvW M_X11_dinner [.ref 272, .int x, .int y, .int w] σ0 (some (.int (zDinner U x y w))) (fun σ => MP σ (U) ∧ Fr σ0 σ 272 12) := by
  obtain ⟨at_, fx, ft, fd, fp, fi, fy, fw, fs, fb, fh, hM, hMX, hMT, hDr, hSr, hMPa, hMIm, hMSy, hWy, hSm, hBh, hHd⟩ := id hC
  obtain ⟨hTx, hTxv⟩ := id hMX
  obtain ⟨hTo, t0, t1, t2, t3, t28, tkd, thn, tkn, thf⟩ := id hMT
  obtain ⟨hPa, hPav⟩ := id hMPa
  obtain ⟨hIm, hImv⟩ := id hMIm
  obtain ⟨hSy, hSyv⟩ := id hMSy
  have ok := hU.T
  obtain ⟨g3, g8, n1, n6, lw, stg, son, kd4, hn10, kn63, hf4⟩ := id ok
  have hn64 : 2 ^ U.T.n ≤ 2 ^ 6 := Nat.pow_le_pow_right (by decide) n6
  have hg256 : 2 ^ U.T.g ≤ 2 ^ 8 := Nat.pow_le_pow_right (by decide) g8
  have hlen := hU.len
  have hu8 := hU.u8
  have hul := hU.ul
  have hkn2 := hU.kn2
  have hsg := saltF_lt ok U.h
  have hfr : ∀ j, j < 272 ∨ 284 ≤ j → σ0 j = σ0 j := fun _ _ => rfl
  refine Ev.of (ls := [_, _, _, _, _, _, _, _, _, _, _]) 7 (by decide) rfl rfl ?_
  refine R_iload_n a_X11_dinner_0 rfl ?_
  refine R_iconst (v := nI 0) a_X11_dinner_1 rfl ?_
  refine R_sipush (v := nI 9999) a_X11_dinner_2 rfl ?_
  refine R_callSp a_X11_dinner_5 md_in rfl rfl rfl rfl rfl ?_
  refine R_top (congrArg nI (inI_c x (n := 9999) (by decide))) ?_
  first | with_reducible refine R_if_eq_n a_X11_dinner_8 (by first | omega | exact Nat.lt_of_le_of_lt (inR_le _ _) (by decide) | exact Nat.lt_of_le_of_lt (bitN_le _ _) (by decide) | exact Nat.lt_of_le_of_lt (inI_le _ _ _) (by decide) | exact inI_le _ _ _ | exact inR_le _ _ | exact bitN_le _ _) (fun h8 => ?_) (fun h8 => ?_) | refine R_if_eq a_X11_dinner_8 (fun h8 => ?_) (fun h8 => ?_)
  · skip
    have hz : zDinner U x y w = -1 := by
      unfold zDinner
      rw [gd_out h8]
    refine R_iconst (v := (-1)) a_X11_dinner_30 rfl ?_
    refine R_iret a_X11_dinner_31 rfl ?_
    exact ⟨by rw [hz], hC, Fr.rf _ _ _⟩
  · skip
    obtain ⟨z, hz, rfl⟩ := inR_nz (by omega) h8
    refine R_iload_n a_X11_dinner_11 rfl ?_
    refine R_iconst (v := nI 1) a_X11_dinner_12 rfl ?_
    refine R_bipush (v := nI 60) a_X11_dinner_13 rfl ?_
    refine R_callSp a_X11_dinner_15 md_in rfl rfl rfl rfl rfl ?_
    first | with_reducible refine R_if_eq_n a_X11_dinner_18 (by first | omega | exact Nat.lt_of_le_of_lt (inR_le _ _) (by decide) | exact Nat.lt_of_le_of_lt (bitN_le _ _) (by decide) | exact Nat.lt_of_le_of_lt (inI_le _ _ _) (by decide) | exact inI_le _ _ _ | exact inR_le _ _ | exact bitN_le _ _) (fun h18 => ?_) (fun h18 => ?_) | refine R_if_eq a_X11_dinner_18 (fun h18 => ?_) (fun h18 => ?_)
    · skip
      have hz : zDinner U (nI z) y w = -1 := by
        unfold zDinner
        rw [gd_in hz (by decide)]
        have hy : ¬ (¬ y < nI 1 ∧ ¬ nI 60 < y) := fun q => by unfold inI at h18; rw [if_pos q] at h18; cases h18
        rcases inR_split y (g := 61) (by decide) with ⟨q, -⟩ | ⟨-, j, hj, rfl⟩
        · rw [gd_out q]
        · rw [gd_in hj (by decide)]
          by_cases e : j = 0
          · rw [if_pos e]
          · exact absurd ⟨nI_nlt (by omega) (by omega), nI_nlt (by omega) (by omega)⟩ hy
      refine R_iconst (v := (-1)) a_X11_dinner_30 rfl ?_
      refine R_iret a_X11_dinner_31 rfl ?_
      exact ⟨by rw [hz], hC, Fr.rf _ _ _⟩
    · skip
      have hy : ¬ y < nI 1 ∧ ¬ nI 60 < y := by
        by_cases q : ¬ y < nI 1 ∧ ¬ nI 60 < y
        · exact q
        · unfold inI at h18; rw [if_neg q] at h18; exact absurd rfl h18
      obtain ⟨n, hn1, hn2, rfl⟩ := i32_nt (a := 1) (b := 60) (by decide) (by decide) hy.1 hy.2
      refine R_iload_n a_X11_dinner_21 rfl ?_
      refine R_iconst (v := nI 0) a_X11_dinner_22 rfl ?_
      refine R_iconst (v := nI 1) a_X11_dinner_23 rfl ?_
      refine R_callSp a_X11_dinner_24 md_in rfl rfl rfl rfl rfl ?_
      refine R_top (congrArg nI (inI_c w (n := 1) (by decide))) ?_
      first | with_reducible refine R_if_ne_n a_X11_dinner_27 (by first | omega | exact Nat.lt_of_le_of_lt (inR_le _ _) (by decide) | exact Nat.lt_of_le_of_lt (bitN_le _ _) (by decide) | exact Nat.lt_of_le_of_lt (inI_le _ _ _) (by decide) | exact inI_le _ _ _ | exact inR_le _ _ | exact bitN_le _ _) (fun h27 => ?_) (fun h27 => ?_) | refine R_if_ne a_X11_dinner_27 (fun h27 => ?_) (fun h27 => ?_)
      · skip
        obtain ⟨c, hc, rfl⟩ := inR_nz (by omega) h27
        have hzz : zDinner U (nI z) (nI n) (nI c) = if c = 0 then nI (dnK U.T (saltF U.T U.h) z n).1 else nI (dnK U.T (saltF U.T U.h) z n).2 := by
          unfold zDinner
          rw [gd_in hz (by decide), gd_in (by omega) (by decide), if_neg (by omega), gd_in hc (by decide)]
        refine R_iconst (v := nI 0) a_X11_dinner_32 rfl ?_
        refine R_istore (ls' := [_, _, _, _, _, _, _, _, _, _, _]) a_X11_dinner_33 rfl rfl rfl ?_
        rw [hzz]
        have hz0 := sh0_z fh (nF (sF U.T U.h))
        rw [← hz0] at hHd
        refine lp_din1 hM hSr (fun σ1 hHd hf1 => ?_) _ 0 σ0 rfl (Nat.zero_le _) hHd (fun _ _ => rfl)
        have hM1 := (hf1 272 (by omega)).trans hM
        have hTo1 := (hf1 274 (by omega)).trans hTo
        have hSr1 := (hf1 276 (by omega)).trans hSr
        refine R_iconst (v := nI 0) a_X11_dinner_62 rfl ?_
        refine R_istore (ls' := [_, _, _, _, _, _, _, _, _, _, _]) a_X11_dinner_63 rfl rfl rfl ?_
        refine Run.eqQ (lp_din2 hM1 ⟨hTo1, t0, t1, t2, t3, t28, tkd, thn, tkn, thf⟩ ok hHd (show z ≤ 9999 by omega) hn2 hc _ 0 σ1 none none none none none none rfl (Nat.zero_le _) hSr1 (fun _ _ => rfl)) (fun r σ2 hq => ?_)
        obtain ⟨hr, hSr, hf⟩ := hq
        have hHd := (hf 283 (by omega)).trans hHd
        have hff : ∀ j, j ≠ 276 → j ≠ 283 → σ2 j = σ0 j := fun j h1 h2 => (hf j h1).trans (hf1 j h2)
        have hM := (hff 272 (by omega) (by omega)).trans hM
        have hTx := (hff 273 (by omega) (by omega)).trans hTx
        have hTo := (hff 274 (by omega) (by omega)).trans hTo
        have hDr := (hff 275 (by omega) (by omega)).trans hDr
        have hPa := (hff 277 (by omega) (by omega)).trans hPa
        have hIm := (hff 278 (by omega) (by omega)).trans hIm
        have hSy := (hff 279 (by omega) (by omega)).trans hSy
        have hWy := (hff 280 (by omega) (by omega)).trans hWy
        have hSm := (hff 281 (by omega) (by omega)).trans hSm
        have hBh := (hff 282 (by omega) (by omega)).trans hBh
        exact ⟨hr, ⟨_, _, _, _, _, _, _, _, _, _, _, hM, ⟨hTx, hTxv⟩, ⟨hTo, t0, t1, t2, t3, t28, tkd, thn, tkn, thf⟩, hDr, hSr, ⟨hPa, hPav⟩, ⟨hIm, hImv⟩, ⟨hSy, hSyv⟩, hWy, hSm, hBh, hHd⟩, fun j hj => hff j (by omega) (by omega)⟩
      · skip
        have hz : zDinner U (nI z) (nI n) w = -1 := by
          unfold zDinner
          rw [gd_in hz (by decide), gd_in (by omega) (by decide), if_neg (by omega), gd_out h27]
        refine R_iconst (v := (-1)) a_X11_dinner_30 rfl ?_
        refine R_iret a_X11_dinner_31 rfl ?_
        exact ⟨by rw [hz], hC, Fr.rf _ _ _⟩

