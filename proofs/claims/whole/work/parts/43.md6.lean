/-! ===== SaltToLiarsModel.ask ===== -/
theorem untr_bit {c w w' : Nat} (h : bitN w (cTop c) = bitN w' (cTop c)) : untr c w = untr c w' := by unfold untr; rw [h]
theorem comes_bit {T : Tb} {s c w w' law : Nat} (h : bitN w (cTop c) = bitN w' (cTop c)) : comesF T s c 128 w law = comesF T s c 128 w' law := by
  have e1 : cntOf T c w = cntOf T c w' := by unfold cntOf; rw [untr_bit h]
  have e2 : cntOf T 128 w = cntOf T 128 w' := by unfold cntOf; rw [untr_128, untr_128]
  unfold comesF
  rw [e1, e2]
def wyF (A B a b : Nat) : Nat → Nat := fun j => if A = B then (if j = A then a else 0) else if j = A then b else if j = B then a - b else 0
def woF (A B a b : Nat) : Nat := if A = B then a else max b (a - b)
theorem wyF_0 (A B : Nat) : wyF A B 0 0 = fun _ => 0 := by
  funext j
  unfold wyF
  split
  · split <;> rfl
  · split
    · rfl
    · split <;> rfl
theorem wyF_A (A B a b : Nat) (hba : b ≤ a) : uN (wyF A B a b) A (wyF A B a b A + 1) = wyF A B (a + 1) (b + 1) := by
  funext j
  unfold uN wyF
  by_cases e : A = B
  · subst e
    by_cases q : j = A <;> simp [q]
  · by_cases q : j = A
    · simp [q, e]
    · by_cases r : j = B
      · simp [q, r, e, Ne.symm e]
      · simp [q, r, e]
theorem wyF_B (A B a b : Nat) (hba : b ≤ a) : uN (wyF A B a b) B (wyF A B a b B + 1) = wyF A B (a + 1) b := by
  funext j
  unfold uN wyF
  by_cases e : A = B
  · subst e
    by_cases q : j = A <;> simp [q]
  · by_cases r : j = B
    · subst r
      simp [e, Ne.symm e]
      omega
    · by_cases q : j = A
      · simp [q, e]
      · simp [q, r, e]
theorem woF_A {A B a b : Nat} (hba : b ≤ a) : (if woF A B a b < wyF A B (a + 1) (b + 1) A then wyF A B (a + 1) (b + 1) A else woF A B a b) = woF A B (a + 1) (b + 1) := by
  unfold woF wyF
  by_cases e : A = B
  · simp [e]
  · simp only [e, if_false, if_true]
    split <;> omega
theorem woF_B {A B a b : Nat} (hba : b ≤ a) : (if woF A B a b < wyF A B (a + 1) b B then wyF A B (a + 1) b B else woF A B a b) = woF A B (a + 1) b := by
  unfold woF wyF
  by_cases e : A = B
  · simp [e]
  · simp only [e, Ne.symm e, if_false, if_true]
    split <;> omega
theorem woF_le {A B a b : Nat} (hba : b ≤ a) : woF A B a b ≤ a := by
  unfold woF
  split <;> omega
theorem woF_ma (T : Tb) (a : Nat) (g : Nat → Nat) (s i t : Nat) : woF (comesF T s (sayC i t 1) 128 (2 ^ t) T.law) (comesF T s (sayC i t 1) 128 0 T.law) a (g t) = maF T a g s i t := rfl
theorem bit_pow (t : Nat) : bitN (2 ^ t) t = 1 := by unfold bitN; rw [Nat.div_self (Nat.two_pow_pos t)]
theorem bit_0 (t : Nat) : bitN 0 t = 0 := by unfold bitN; simp
/-- what the walk holds against what the class's search does -/
def ASt (a : Nat) (found few : Int32) (q : Int32 × Nat) (st : Prop) : Prop := found = q.1 ∧ q.2 ≤ a + 1 ∧ ((q.1 = -4 ∧ q.2 = a + 1 ∧ st) ∨ (¬ q.1 = -4 ∧ few = nI q.2))
set_option maxRecDepth 20000 in
theorem lp_ask3 {σ0 : AHp} {tl u kn ns : Nat} {at_ : Int32} (hM0 : σ0 272 = some (mdO tl u kn ns at_)) {f0 : Nat → Int32} {c i t : Nat} {found few : Int32} {x7 x8 : Option Value} {Q : Option Value → AHp → Prop} (hx : ∀ σ : AHp, σ 280 = some (iA 0 8 (nF (fun _ => 0))) → (∀ j, j ≠ 280 → σ j = σ0 j) → Run M_X11_ask 80 [some (.ref 272), some (.int (nI c)), some (.int found), some (.int few), some (.int (nI i)), some (.int (nI t)), some (.int (nI 8)), x7, x8] [] σ 0 0 Q) : ∀ (n k : Nat) (σ : AHp), 8 - k = n → k ≤ 8 → σ 280 = some (iA 0 8 (sh0 f0 (nF (fun _ => 0)) k)) → (∀ j, j ≠ 280 → σ j = σ0 j) → Run M_X11_ask 59 [some (.ref 272), some (.int (nI c)), some (.int found), some (.int few), some (.int (nI i)), some (.int (nI t)), some (.int (nI k)), x7, x8] [] σ 0 0 Q := by
  intro n
  induction n using Nat.strongRecOn
  rename_i n ih
  intro k σ hm hk hWy hfr
  have hM := (hfr 272 (by omega)).trans hM0
  refine R_iload a_X11_ask_59 rfl ?_
  refine R_bipush (v := nI 8) a_X11_ask_61 rfl ?_
  first | with_reducible refine R_icmp_ge_n a_X11_ask_63 (by first | omega | exact Nat.lt_of_le_of_lt (inR_le _ _) (by decide) | exact Nat.lt_of_le_of_lt (bitN_le _ _) (by decide) | exact Nat.lt_of_le_of_lt (inI_le _ _ _) (by decide) | exact inI_le _ _ _ | exact inR_le _ _ | exact bitN_le _ _) (by first | omega | exact Nat.lt_of_le_of_lt (inR_le _ _) (by decide) | exact Nat.lt_of_le_of_lt (bitN_le _ _) (by decide) | exact Nat.lt_of_le_of_lt (inI_le _ _ _) (by decide) | exact inI_le _ _ _ | exact inR_le _ _ | exact bitN_le _ _) (fun h63 => ?_) (fun h63 => ?_) | refine R_icmp_ge a_X11_ask_63 (fun h63 => ?_) (fun h63 => ?_)
  · skip
    have hke : k = 8 := by omega
    subst hke
    refine R_ext (nF (fun _ => 0)) (by decide) hWy (fun j hj => sh0_in _ _ hj) (fun σ2 hWy ho => ?_)
    exact hx σ2 hWy (fun j hj => (ho j hj).trans (hfr j hj))
  · skip
    refine R_aload_n a_X11_ask_66 rfl ?_
    refine R_get a_X11_ask_67 hM rfl ?_
    refine R_iload a_X11_ask_70 rfl ?_
    refine R_iconst (v := nI 0) a_X11_ask_72 rfl ?_
    refine R_iastK a_X11_ask_73 (by omega) hWy (by first | omega | exact Nat.lt_of_le_of_lt (inR_le _ _) (by decide) | exact Nat.lt_of_le_of_lt (bitN_le _ _) (by decide) | exact Nat.lt_of_le_of_lt (inI_le _ _ _) (by decide) | exact inI_le _ _ _ | exact inR_le _ _ | exact bitN_le _ _) (by decide) (fun σ hWy ho => ?_)
    have hM := (ho _ (by omega)).trans hM
    have hfr : ∀ j, j ≠ 280 → σ j = σ0 j := fun j hj => (ho j (by omega)).trans (hfr j hj)
    have he : upd (sh0 f0 (nF (fun _ => 0)) k) k (nI 0) = sh0 f0 (nF (fun _ => 0)) (k + 1) := sh0_up _ _ _
    rw [he] at hWy
    first | with_reducible refine R_iinc_n (ls' := [_, _, _, _, _, _, _, _, _]) a_X11_ask_74 rfl rfl rfl rfl ?_ | refine R_iinc (ls' := [_, _, _, _, _, _, _, _, _]) a_X11_ask_74 rfl rfl rfl rfl rfl ?_
    refine R_goto a_X11_ask_77 ?_
    exact ih _ (show 8 - (k + 1) < n by omega) (k + 1) σ rfl (by omega) hWy hfr

set_option maxRecDepth 20000 in
theorem lp_ask4 {σ0 : AHp} {tl u kn ns : Nat} {at_ : Int32} {ft : Nat → Int32} {T : Tb} (hM0 : σ0 272 = some (mdO tl u kn ns at_)) (hMT0 : MT σ0 ft T) (ok : TbOk T) {h : Hs} (hSr0 : σ0 276 = some (iA 0 43 (nF (sF T h)))) (hHs : HsOk T h) {c i t : Nat} (hi : i < T.g) (ht : t < T.n) {found few : Int32} {Q : Option Value → AHp → Prop} (hx : ∀ (σ : AHp) (x8 : Option Value), (∃ fw, σ 280 = some (iA 0 8 fw)) → (∀ j, j ≠ 280 → σ j = σ0 j) → Run M_X11_ask 188 [some (.ref 272), some (.int (nI c)), some (.int found), some (.int few), some (.int (nI i)), some (.int (nI t)), some (.int (nI (woF (comesF T (saltF T h) (sayC i t 1) 128 (2 ^ t) T.law) (comesF T (saltF T h) (sayC i t 1) 128 0 T.law) (nfK (explF T h T.law) (2 ^ T.n)) (wsK (explF T h T.law) t (2 ^ T.n))))), some (.int (nI (2 ^ T.n))), x8] [] σ 0 0 Q) : ∀ (n k : Nat) (σ : AHp) (x8 : Option Value), (2 ^ T.n) - k = n → k ≤ (2 ^ T.n) → σ 280 = some (iA 0 8 (nF (wyF (comesF T (saltF T h) (sayC i t 1) 128 (2 ^ t) T.law) (comesF T (saltF T h) (sayC i t 1) 128 0 T.law) (nfK (explF T h T.law) k) (wsK (explF T h T.law) t k)))) → (∀ j, j ≠ 280 → σ j = σ0 j) → Run M_X11_ask 86 [some (.ref 272), some (.int (nI c)), some (.int found), some (.int few), some (.int (nI i)), some (.int (nI t)), some (.int (nI (woF (comesF T (saltF T h) (sayC i t 1) 128 (2 ^ t) T.law) (comesF T (saltF T h) (sayC i t 1) 128 0 T.law) (nfK (explF T h T.law) k) (wsK (explF T h T.law) t k)))), some (.int (nI k)), x8] [] σ 0 0 Q := by
  have hsg := saltF_lt ok h
  obtain ⟨hTo, t0, t1, t2, t3, t28, tkd, thn, tkn, thf⟩ := id hMT0
  obtain ⟨g3, g8, n1, n6, lw, stg, son, kd4, hn10, kn63, hf4⟩ := id ok
  have hn64 : 2 ^ T.n ≤ 2 ^ 6 := Nat.pow_le_pow_right (by decide) n6
  intro n
  induction n using Nat.strongRecOn
  rename_i n ih
  intro k σ x8 hm hk hWy hfr
  have hM := (hfr 272 (by omega)).trans hM0
  have hTo := (hfr 274 (by omega)).trans hTo
  have hSr := (hfr 276 (by omega)).trans hSr0
  have hMT : MT σ ft T := ⟨hTo, t0, t1, t2, t3, t28, tkd, thn, tkn, thf⟩
  have hws := wsK_le (explF T h T.law) t k
  have hnf := nfK_le (explF T h T.law) k
  have hb1 := b2n_le (explF T h T.law k)
  have hcA := comesF_lt (T := T) (a := saltF T h) (c := sayC i t 1) (d := 128) (w := 2 ^ t) (law := T.law) (by omega) hsg
  have hcB := comesF_lt (T := T) (a := saltF T h) (c := sayC i t 1) (d := 128) (w := 0) (law := T.law) (by omega) hsg
  have htop : cTop (sayC i t 1) = t := say_top (by omega) (by decide)
  have hwo := woF_le (A := comesF T (saltF T h) (sayC i t 1) 128 (2 ^ t) T.law) (B := comesF T (saltF T h) (sayC i t 1) 128 0 T.law) hws
  refine R_iload a_X11_ask_86 rfl ?_
  refine R_iconst (v := nI 1) a_X11_ask_88 rfl ?_
  refine R_aload_n a_X11_ask_89 rfl ?_
  refine R_get a_X11_ask_90 hM rfl ?_
  refine R_iconst (v := nI 1) a_X11_ask_93 rfl ?_
  refine R_iald_n a_X11_ask_94 hTo (by first | omega | exact Nat.lt_of_le_of_lt (inR_le _ _) (by decide) | exact Nat.lt_of_le_of_lt (bitN_le _ _) (by decide) | exact Nat.lt_of_le_of_lt (inI_le _ _ _) (by decide) | exact inI_le _ _ _ | exact inR_le _ _ | exact bitN_le _ _) (by decide) ?_
  refine R_top t1 ?_
  first | with_reducible refine R_ishl1 a_X11_ask_95 (by first | omega | exact Nat.lt_of_le_of_lt (inR_le _ _) (by decide) | exact Nat.lt_of_le_of_lt (bitN_le _ _) (by decide) | exact Nat.lt_of_le_of_lt (inI_le _ _ _) (by decide) | exact inI_le _ _ _ | exact inR_le _ _ | exact bitN_le _ _) ?_ | with_reducible refine R_ishl_n a_X11_ask_95 (by first | omega | exact Nat.lt_of_le_of_lt (inR_le _ _) (by decide) | exact Nat.lt_of_le_of_lt (bitN_le _ _) (by decide) | exact Nat.lt_of_le_of_lt (inI_le _ _ _) (by decide) | exact inI_le _ _ _ | exact inR_le _ _ | exact bitN_le _ _) (by first | omega | exact Nat.lt_of_le_of_lt (inR_le _ _) (by decide) | exact Nat.lt_of_le_of_lt (bitN_le _ _) (by decide) | exact Nat.lt_of_le_of_lt (inI_le _ _ _) (by decide) | exact inI_le _ _ _ | exact inR_le _ _ | exact bitN_le _ _) ?_ | refine R_ishl a_X11_ask_95 ?_
  refine R_icmp_ge_n (a := k) (b := (2 ^ T.n)) a_X11_ask_96 (by omega) (by omega) (fun h96 => ?_) (fun h96 => ?_)
  · skip
    have hke : k = (2 ^ T.n) := by omega
    subst hke
    exact hx σ x8 ⟨_, hWy⟩ hfr
  · skip
    refine R_aload_n a_X11_ask_99 rfl ?_
    refine R_iload a_X11_ask_100 rfl ?_
    refine R_aload_n a_X11_ask_102 rfl ?_
    refine R_get a_X11_ask_103 hM rfl ?_
    refine R_iconst (v := nI 2) a_X11_ask_106 rfl ?_
    refine R_iald_n a_X11_ask_107 hTo (by first | omega | exact Nat.lt_of_le_of_lt (inR_le _ _) (by decide) | exact Nat.lt_of_le_of_lt (bitN_le _ _) (by decide) | exact Nat.lt_of_le_of_lt (inI_le _ _ _) (by decide) | exact inI_le _ _ _ | exact inR_le _ _ | exact bitN_le _ _) (by decide) ?_
    refine R_top t2 ?_
    refine R_callVp a_X11_ask_108 hM (md_isSo hM hMT ok hSr hHs lw (show k < 2 ^ 31 by omega)) rfl rfl rfl rfl rfl ?_
    first | with_reducible refine R_if_eq_n a_X11_ask_111 (by first | omega | exact Nat.lt_of_le_of_lt (inR_le _ _) (by decide) | exact Nat.lt_of_le_of_lt (bitN_le _ _) (by decide) | exact Nat.lt_of_le_of_lt (inI_le _ _ _) (by decide) | exact inI_le _ _ _ | exact inR_le _ _ | exact bitN_le _ _) (fun h111 => ?_) (fun h111 => ?_) | refine R_if_eq a_X11_ask_111 (fun h111 => ?_) (fun h111 => ?_)
    · skip
      have hPk : explF T h T.law k = false := by
        rcases b2n_val (explF T h T.law k) with ⟨-, e⟩ | ⟨e, -⟩
        · exact e
        · rw [e] at h111; cases h111
      first | with_reducible refine R_iinc_n (ls' := [_, _, _, _, _, _, _, _, _]) a_X11_ask_182 rfl rfl rfl rfl ?_ | refine R_iinc (ls' := [_, _, _, _, _, _, _, _, _]) a_X11_ask_182 rfl rfl rfl rfl rfl ?_
      refine R_goto a_X11_ask_185 ?_
      have e1 : nfK (explF T h T.law) (k + 1) = nfK (explF T h T.law) k := by simp only [nfK]; rw [hPk]; rfl
      have e2 : wsK (explF T h T.law) t (k + 1) = wsK (explF T h T.law) t k := by simp only [wsK]; rw [hPk]; rfl
      have key := ih _ (show (2 ^ T.n) - (k + 1) < n by omega) (k + 1) σ x8 rfl (by omega) (by rw [e1, e2]; exact hWy) hfr
      rw [e1, e2] at key
      exact key
    · skip
      have hPk : explF T h T.law k = true := by
        rcases b2n_val (explF T h T.law k) with ⟨e, -⟩ | ⟨-, e⟩
        · exact absurd e h111
        · exact e
      have e1 : nfK (explF T h T.law) (k + 1) = nfK (explF T h T.law) k + 1 := by simp only [nfK]; rw [hPk]; rfl
      obtain ⟨to, hto, htg, hfn, e2, hwn⟩ : ∃ to, comesF T (saltF T h) (sayC i t 1) 128 k T.law = to ∧ to < T.g ∧ uN (wyF (comesF T (saltF T h) (sayC i t 1) 128 (2 ^ t) T.law) (comesF T (saltF T h) (sayC i t 1) 128 0 T.law) (nfK (explF T h T.law) k) (wsK (explF T h T.law) t k)) to ((wyF (comesF T (saltF T h) (sayC i t 1) 128 (2 ^ t) T.law) (comesF T (saltF T h) (sayC i t 1) 128 0 T.law) (nfK (explF T h T.law) k) (wsK (explF T h T.law) t k)) to + 1) = wyF (comesF T (saltF T h) (sayC i t 1) 128 (2 ^ t) T.law) (comesF T (saltF T h) (sayC i t 1) 128 0 T.law) (nfK (explF T h T.law) k + 1) (wsK (explF T h T.law) t k + bitN k t) ∧ wsK (explF T h T.law) t (k + 1) = wsK (explF T h T.law) t k + bitN k t ∧ (if (woF (comesF T (saltF T h) (sayC i t 1) 128 (2 ^ t) T.law) (comesF T (saltF T h) (sayC i t 1) 128 0 T.law) (nfK (explF T h T.law) k) (wsK (explF T h T.law) t k)) < wyF (comesF T (saltF T h) (sayC i t 1) 128 (2 ^ t) T.law) (comesF T (saltF T h) (sayC i t 1) 128 0 T.law) (nfK (explF T h T.law) k + 1) (wsK (explF T h T.law) t k + bitN k t) to then wyF (comesF T (saltF T h) (sayC i t 1) 128 (2 ^ t) T.law) (comesF T (saltF T h) (sayC i t 1) 128 0 T.law) (nfK (explF T h T.law) k + 1) (wsK (explF T h T.law) t k + bitN k t) to else (woF (comesF T (saltF T h) (sayC i t 1) 128 (2 ^ t) T.law) (comesF T (saltF T h) (sayC i t 1) 128 0 T.law) (nfK (explF T h T.law) k) (wsK (explF T h T.law) t k))) = woF (comesF T (saltF T h) (sayC i t 1) 128 (2 ^ t) T.law) (comesF T (saltF T h) (sayC i t 1) 128 0 T.law) (nfK (explF T h T.law) k + 1) (wsK (explF T h T.law) t k + bitN k t) := by
        have e2 : wsK (explF T h T.law) t (k + 1) = wsK (explF T h T.law) t k + bitN k t := by simp only [wsK]; rw [hPk]; rfl
        have hbk := bitN_le k t
        by_cases q : bitN k t = 0
        · refine ⟨_, comes_bit (w' := 0) (by rw [htop, q, bit_0]), hcB, ?_, e2, ?_⟩
          · rw [q]; exact wyF_B _ _ _ _ hws
          · rw [q]; exact woF_B hws
        · have q1 : bitN k t = 1 := by omega
          refine ⟨_, comes_bit (w' := 2 ^ t) (by rw [htop, q1, bit_pow]), hcA, ?_, e2, ?_⟩
          · rw [q1]; exact wyF_A _ _ _ _ hws
          · rw [q1]; exact woF_A hws
      have hwl : wyF (comesF T (saltF T h) (sayC i t 1) 128 (2 ^ t) T.law) (comesF T (saltF T h) (sayC i t 1) 128 0 T.law) (nfK (explF T h T.law) k + 1) (wsK (explF T h T.law) t k + bitN k t) to < 2 ^ 31 := by
        have hbk := bitN_le k t
        unfold wyF
        split
        · split <;> omega
        · split
          · omega
          · split <;> omega
      refine R_aload_n a_X11_ask_114 rfl ?_
      refine R_aload_n a_X11_ask_115 rfl ?_
      refine R_get a_X11_ask_116 hM rfl ?_
      refine R_iconst (v := nI 0) a_X11_ask_119 rfl ?_
      refine R_iald_n a_X11_ask_120 hSr (by first | omega | exact Nat.lt_of_le_of_lt (inR_le _ _) (by decide) | exact Nat.lt_of_le_of_lt (bitN_le _ _) (by decide) | exact Nat.lt_of_le_of_lt (inI_le _ _ _) (by decide) | exact inI_le _ _ _ | exact inR_le _ _ | exact bitN_le _ _) (by decide) ?_
      refine R_top (congrArg nI (sF_0 T h)) ?_
      refine R_iload a_X11_ask_121 rfl ?_
      refine R_iload a_X11_ask_123 rfl ?_
      refine R_iconst (v := nI 1) a_X11_ask_125 rfl ?_
      refine R_callSp a_X11_ask_126 (md_saying (by decide)) rfl rfl rfl rfl rfl ?_
      refine R_sipush (v := nI 128) a_X11_ask_129 rfl ?_
      refine R_iload a_X11_ask_132 rfl ?_
      refine R_aload_n a_X11_ask_134 rfl ?_
      refine R_get a_X11_ask_135 hM rfl ?_
      refine R_iconst (v := nI 2) a_X11_ask_138 rfl ?_
      refine R_iald_n a_X11_ask_139 hTo (by first | omega | exact Nat.lt_of_le_of_lt (inR_le _ _) (by decide) | exact Nat.lt_of_le_of_lt (bitN_le _ _) (by decide) | exact Nat.lt_of_le_of_lt (inI_le _ _ _) (by decide) | exact inI_le _ _ _ | exact inR_le _ _ | exact bitN_le _ _) (by decide) ?_
      refine R_top t2 ?_
      refine R_callVp a_X11_ask_140 hM (md_comes hM hMT ok hsg (CdOk.say ok hi ht (by decide)) (Or.inl rfl) (show k < 2 ^ 31 by omega) lw) rfl rfl rfl rfl rfl ?_
      refine R_top (congrArg nI hto) ?_
      refine R_istore (ls' := [_, _, _, _, _, _, _, _, _]) a_X11_ask_143 rfl rfl rfl ?_
      refine R_aload_n a_X11_ask_145 rfl ?_
      refine R_get a_X11_ask_146 hM rfl ?_
      refine R_iload a_X11_ask_149 rfl ?_
      refine R_dup2 a_X11_ask_151 rfl rfl ?_
      refine R_iald_n a_X11_ask_152 hWy (by first | omega | exact Nat.lt_of_le_of_lt (inR_le _ _) (by decide) | exact Nat.lt_of_le_of_lt (bitN_le _ _) (by decide) | exact Nat.lt_of_le_of_lt (inI_le _ _ _) (by decide) | exact inI_le _ _ _ | exact inR_le _ _ | exact bitN_le _ _) (by decide) ?_
      refine R_iconst (v := nI 1) a_X11_ask_153 rfl ?_
      first | with_reducible refine R_iadd_n a_X11_ask_154 ?_ | refine R_iadd a_X11_ask_154 ?_
      refine R_iastK a_X11_ask_155 (by omega) hWy (by first | omega | exact Nat.lt_of_le_of_lt (inR_le _ _) (by decide) | exact Nat.lt_of_le_of_lt (bitN_le _ _) (by decide) | exact Nat.lt_of_le_of_lt (inI_le _ _ _) (by decide) | exact inI_le _ _ _ | exact inR_le _ _ | exact bitN_le _ _) (by decide) (fun σ hWy ho => ?_)
      have hM := (ho _ (by omega)).trans hM
      have hfr : ∀ j, j ≠ 280 → σ j = σ0 j := fun j hj => (ho j (by omega)).trans (hfr j hj)
      rw [nF_upd, hfn] at hWy
      have hWn := hWy
      refine R_aload_n a_X11_ask_156 rfl ?_
      refine R_get a_X11_ask_157 hM rfl ?_
      refine R_iload a_X11_ask_160 rfl ?_
      refine R_iald_n a_X11_ask_162 hWy (by first | omega | exact Nat.lt_of_le_of_lt (inR_le _ _) (by decide) | exact Nat.lt_of_le_of_lt (bitN_le _ _) (by decide) | exact Nat.lt_of_le_of_lt (inI_le _ _ _) (by decide) | exact inI_le _ _ _ | exact inR_le _ _ | exact bitN_le _ _) (by decide) ?_
      refine R_iload a_X11_ask_163 rfl ?_
      refine R_icmp_le_n (a := wyF (comesF T (saltF T h) (sayC i t 1) 128 (2 ^ t) T.law) (comesF T (saltF T h) (sayC i t 1) 128 0 T.law) (nfK (explF T h T.law) k + 1) (wsK (explF T h T.law) t k + bitN k t) to) (b := (woF (comesF T (saltF T h) (sayC i t 1) 128 (2 ^ t) T.law) (comesF T (saltF T h) (sayC i t 1) 128 0 T.law) (nfK (explF T h T.law) k) (wsK (explF T h T.law) t k))) a_X11_ask_165 hwl (by omega) (fun h165 => ?_) (fun h165 => ?_)
      · skip
        rw [if_neg (show ¬ _ < _ from Nat.not_lt.mpr h165)] at hwn
        refine R_iload a_X11_ask_178 rfl ?_
        refine R_istore (ls' := [_, _, _, _, _, _, _, _, _]) a_X11_ask_180 rfl rfl rfl ?_
        first | with_reducible refine R_iinc_n (ls' := [_, _, _, _, _, _, _, _, _]) a_X11_ask_182 rfl rfl rfl rfl ?_ | refine R_iinc (ls' := [_, _, _, _, _, _, _, _, _]) a_X11_ask_182 rfl rfl rfl rfl rfl ?_
        refine R_goto a_X11_ask_185 ?_
        have key := ih _ (show (2 ^ T.n) - (k + 1) < n by omega) (k + 1) σ (some (.int (nI to))) rfl (by omega) (by rw [e1, e2]; exact hWn) hfr
        rw [e1, e2, ← hwn] at key
        exact key
      · skip
        rw [if_pos h165] at hwn
        refine R_aload_n a_X11_ask_168 rfl ?_
        refine R_get a_X11_ask_169 hM rfl ?_
        refine R_iload a_X11_ask_172 rfl ?_
        refine R_iald_n a_X11_ask_174 hWy (by first | omega | exact Nat.lt_of_le_of_lt (inR_le _ _) (by decide) | exact Nat.lt_of_le_of_lt (bitN_le _ _) (by decide) | exact Nat.lt_of_le_of_lt (inI_le _ _ _) (by decide) | exact inI_le _ _ _ | exact inR_le _ _ | exact bitN_le _ _) (by decide) ?_
        refine R_goto a_X11_ask_175 ?_
        refine R_istore (ls' := [_, _, _, _, _, _, _, _, _]) a_X11_ask_180 rfl rfl rfl ?_
        first | with_reducible refine R_iinc_n (ls' := [_, _, _, _, _, _, _, _, _]) a_X11_ask_182 rfl rfl rfl rfl ?_ | refine R_iinc (ls' := [_, _, _, _, _, _, _, _, _]) a_X11_ask_182 rfl rfl rfl rfl rfl ?_
        refine R_goto a_X11_ask_185 ?_
        have key := ih _ (show (2 ^ T.n) - (k + 1) < n by omega) (k + 1) σ (some (.int (nI to))) rfl (by omega) (by rw [e1, e2]; exact hWn) hfr
        rw [e1, e2, ← hwn] at key
        exact key

set_option maxRecDepth 20000 in
theorem lp_ask2 {σ0 : AHp} {tl u kn ns : Nat} {at_ : Int32} {ft : Nat → Int32} {T : Tb} (hM0 : σ0 272 = some (mdO tl u kn ns at_)) (hMT0 : MT σ0 ft T) (ok : TbOk T) {h : Hs} (hSr0 : σ0 276 = some (iA 0 43 (nF (sF T h)))) (hHs : HsOk T h) {c i : Nat} (hi : i < T.g) {q0 : Int32 × Nat} {Q : Option Value → AHp → Prop} (hx : ∀ (σ : AHp) (found few : Int32) (x6 x7 x8 : Option Value), ASt (nfK (explF T h T.law) (2 ^ T.n)) found few (qIn (maF T (nfK (explF T h T.law) (2 ^ T.n)) (fun t => wsK (explF T h T.law) t (2 ^ T.n)) (saltF T h)) i T.n q0) False → (∃ fw, σ 280 = some (iA 0 8 fw)) → (∀ j, j ≠ 280 → σ j = σ0 j) → Run M_X11_ask 243 [some (.ref 272), some (.int (nI c)), some (.int found), some (.int few), some (.int (nI i)), some (.int (nI T.n)), x6, x7, x8] [] σ 0 0 Q) : ∀ (n t : Nat) (σ : AHp) (found few : Int32) (x6 x7 x8 : Option Value), T.n - t = n → t ≤ T.n → ASt (nfK (explF T h T.law) (2 ^ T.n)) found few (qIn (maF T (nfK (explF T h T.law) (2 ^ T.n)) (fun t => wsK (explF T h T.law) t (2 ^ T.n)) (saltF T h)) i t q0) (t = 0) → (∃ fw, σ 280 = some (iA 0 8 fw)) → (∀ j, j ≠ 280 → σ j = σ0 j) → Run M_X11_ask 45 [some (.ref 272), some (.int (nI c)), some (.int found), some (.int few), some (.int (nI i)), some (.int (nI t)), x6, x7, x8] [] σ 0 0 Q := by
  have hsg := saltF_lt ok h
  obtain ⟨hTo, t0, t1, t2, t3, t28, tkd, thn, tkn, thf⟩ := id hMT0
  obtain ⟨g3, g8, n1, n6, lw, stg, son, kd4, hn10, kn63, hf4⟩ := id ok
  have hn64 : 2 ^ T.n ≤ 2 ^ 6 := Nat.pow_le_pow_right (by decide) n6
  intro n
  induction n using Nat.strongRecOn
  rename_i n ih
  intro t σ found few x6 x7 x8 hm hk hA hWx hfr
  have hM := (hfr 272 (by omega)).trans hM0
  have hTo := (hfr 274 (by omega)).trans hTo
  have hSr := (hfr 276 (by omega)).trans hSr0
  have hMT : MT σ ft T := ⟨hTo, t0, t1, t2, t3, t28, tkd, thn, tkn, thf⟩
  obtain ⟨fw, hWy⟩ := id hWx
  have hnf := nfK_le (explF T h T.law) (2 ^ T.n)
  have hws := wsK_le (explF T h T.law) t (2 ^ T.n)
  refine R_iload a_X11_ask_45 rfl ?_
  refine R_aload_n a_X11_ask_47 rfl ?_
  refine R_get a_X11_ask_48 hM rfl ?_
  refine R_iconst (v := nI 1) a_X11_ask_51 rfl ?_
  refine R_iald_n a_X11_ask_52 hTo (by first | omega | exact Nat.lt_of_le_of_lt (inR_le _ _) (by decide) | exact Nat.lt_of_le_of_lt (bitN_le _ _) (by decide) | exact Nat.lt_of_le_of_lt (inI_le _ _ _) (by decide) | exact inI_le _ _ _ | exact inR_le _ _ | exact bitN_le _ _) (by decide) ?_
  refine R_top t1 ?_
  first | with_reducible refine R_icmp_ge_n a_X11_ask_53 (by first | omega | exact Nat.lt_of_le_of_lt (inR_le _ _) (by decide) | exact Nat.lt_of_le_of_lt (bitN_le _ _) (by decide) | exact Nat.lt_of_le_of_lt (inI_le _ _ _) (by decide) | exact inI_le _ _ _ | exact inR_le _ _ | exact bitN_le _ _) (by first | omega | exact Nat.lt_of_le_of_lt (inR_le _ _) (by decide) | exact Nat.lt_of_le_of_lt (bitN_le _ _) (by decide) | exact Nat.lt_of_le_of_lt (inI_le _ _ _) (by decide) | exact inI_le _ _ _ | exact inR_le _ _ | exact bitN_le _ _) (fun h53 => ?_) (fun h53 => ?_) | refine R_icmp_ge a_X11_ask_53 (fun h53 => ?_) (fun h53 => ?_)
  · skip
    have hte : t = T.n := by omega
    subst hte
    exact hx σ _ _ _ _ _ ⟨hA.1, hA.2.1, hA.2.2.imp (fun q => ⟨q.1, q.2.1, by omega⟩) id⟩ hWx hfr
  · skip
    refine R_iconst (v := nI 0) a_X11_ask_56 rfl ?_
    refine R_istore (ls' := [_, _, _, _, _, _, _, _, _]) a_X11_ask_57 rfl rfl rfl ?_
    have hz0 := sh0_z fw (nF (fun _ => 0))
    rw [← hz0] at hWy
    refine lp_ask3 hM0 (fun σ hWy hfr => ?_) _ 0 σ rfl (Nat.zero_le _) hWy hfr
    have hM := (hfr 272 (by omega)).trans hM0
    refine R_iconst (v := nI 0) a_X11_ask_80 rfl ?_
    refine R_istore (ls' := [_, _, _, _, _, _, _, _, _]) a_X11_ask_81 rfl rfl rfl ?_
    refine R_iconst (v := nI 0) a_X11_ask_83 rfl ?_
    refine R_istore (ls' := [_, _, _, _, _, _, _, _, _]) a_X11_ask_84 rfl rfl rfl ?_
    have hz1 : wyF (comesF T (saltF T h) (sayC i t 1) 128 (2 ^ t) T.law) (comesF T (saltF T h) (sayC i t 1) 128 0 T.law) (nfK (explF T h T.law) 0) (wsK (explF T h T.law) t 0) = fun _ => 0 := wyF_0 _ _
    rw [← hz1] at hWy
    have hz2 : woF (comesF T (saltF T h) (sayC i t 1) 128 (2 ^ t) T.law) (comesF T (saltF T h) (sayC i t 1) 128 0 T.law) (nfK (explF T h T.law) 0) (wsK (explF T h T.law) t 0) = 0 := by show woF _ _ 0 0 = 0; unfold woF; split <;> rfl
    have key := lp_ask4 hM0 hMT0 ok hSr0 hHs (c := c) (i := i) (t := t) hi (by omega) (found := found) (few := few) (Q := Q) (fun σ x8 hWx hfr => ?_) _ 0 σ x8 rfl (Nat.zero_le _) hWy hfr
    · rw [hz2] at key
      exact key
    have hM := (hfr 272 (by omega)).trans hM0
    have hma : (woF (comesF T (saltF T h) (sayC i t 1) 128 (2 ^ t) T.law) (comesF T (saltF T h) (sayC i t 1) 128 0 T.law) (nfK (explF T h T.law) (2 ^ T.n)) (wsK (explF T h T.law) t (2 ^ T.n))) = (maF T (nfK (explF T h T.law) (2 ^ T.n)) (fun t => wsK (explF T h T.law) t (2 ^ T.n)) (saltF T h)) i t := woF_ma T _ (fun t => wsK (explF T h T.law) t (2 ^ T.n)) _ i t
    have hml := woF_le (A := comesF T (saltF T h) (sayC i t 1) 128 (2 ^ t) T.law) (B := comesF T (saltF T h) (sayC i t 1) 128 0 T.law) hws
    rw [hma] at hml ⊢
    generalize (maF T (nfK (explF T h T.law) (2 ^ T.n)) (fun t => wsK (explF T h T.law) t (2 ^ T.n)) (saltF T h)) i t = mv at hml hma ⊢
    have hA2y : mv < (qIn (maF T (nfK (explF T h T.law) (2 ^ T.n)) (fun t => wsK (explF T h T.law) t (2 ^ T.n)) (saltF T h)) i t q0).2 → ASt (nfK (explF T h T.law) (2 ^ T.n)) (nI (8 * i + t)) (nI mv) (qIn (maF T (nfK (explF T h T.law) (2 ^ T.n)) (fun t => wsK (explF T h T.law) t (2 ^ T.n)) (saltF T h)) i (t + 1) q0) (t + 1 = 0) := by
      intro q
      have e : qIn (maF T (nfK (explF T h T.law) (2 ^ T.n)) (fun t => wsK (explF T h T.law) t (2 ^ T.n)) (saltF T h)) i (t + 1) q0 = (nI (8 * i + t), mv) := by simp only [qIn]; rw [← hma] at q ⊢; exact if_pos q
      rw [e]
      exact ⟨rfl, by show mv ≤ _; omega, Or.inr ⟨by show ¬ nI (8 * i + t) = -4; intro q; have := nI_pos (show 8 * i + t < 2 ^ 31 by omega); rw [q] at this; exact this (by decide), rfl⟩⟩
    have hA2n : ¬ mv < (qIn (maF T (nfK (explF T h T.law) (2 ^ T.n)) (fun t => wsK (explF T h T.law) t (2 ^ T.n)) (saltF T h)) i t q0).2 → ¬ found = -4 → ASt (nfK (explF T h T.law) (2 ^ T.n)) found few (qIn (maF T (nfK (explF T h T.law) (2 ^ T.n)) (fun t => wsK (explF T h T.law) t (2 ^ T.n)) (saltF T h)) i (t + 1) q0) (t + 1 = 0) := by
      intro q q2
      have e : qIn (maF T (nfK (explF T h T.law) (2 ^ T.n)) (fun t => wsK (explF T h T.law) t (2 ^ T.n)) (saltF T h)) i (t + 1) q0 = qIn (maF T (nfK (explF T h T.law) (2 ^ T.n)) (fun t => wsK (explF T h T.law) t (2 ^ T.n)) (saltF T h)) i t q0 := by simp only [qIn]; rw [← hma] at q; exact if_neg q
      rw [e]
      exact ⟨hA.1, hA.2.1, Or.inr (hA.2.2.resolve_left (fun w => q2 (by rw [hA.1]; exact w.1)))⟩
    refine R_iload_n a_X11_ask_188 rfl ?_
    refine R_bipush (v := (-4)) a_X11_ask_189 rfl ?_
    refine R_icmp_eq a_X11_ask_191 (fun h191 => ?_) (fun h191 => ?_)
    · skip
      have hA2 := hA2y (by
        rcases hA.2.2 with w | w
        · omega
        · exact absurd (by rw [← hA.1]; exact h191) w.1)
      refine R_iconst (v := nI 1) a_X11_ask_200 rfl ?_
      refine R_goto a_X11_ask_201 ?_
      refine R_istore (ls' := [_, _, _, _, _, _, _, _, _]) a_X11_ask_205 rfl rfl rfl ?_
      refine R_iload a_X11_ask_207 rfl ?_
      first | with_reducible refine R_if_eq_n a_X11_ask_209 (by first | omega | exact Nat.lt_of_le_of_lt (inR_le _ _) (by decide) | exact Nat.lt_of_le_of_lt (bitN_le _ _) (by decide) | exact Nat.lt_of_le_of_lt (inI_le _ _ _) (by decide) | exact inI_le _ _ _ | exact inR_le _ _ | exact bitN_le _ _) (fun h209 => ?_) (fun h209 => ?_) | refine R_if_eq a_X11_ask_209 (fun h209 => ?_) (fun h209 => ?_)
      · skip
        exact absurd h209 (by decide)
      · skip
        refine R_bipush (v := nI 8) a_X11_ask_212 rfl ?_
        refine R_iload a_X11_ask_214 rfl ?_
        first | with_reducible refine R_imul_n a_X11_ask_216 ?_ | refine R_imul a_X11_ask_216 ?_
        refine R_iload a_X11_ask_217 rfl ?_
        first | with_reducible refine R_iadd_n a_X11_ask_219 ?_ | refine R_iadd a_X11_ask_219 ?_
        refine R_goto a_X11_ask_220 ?_
        refine R_istore_n (ls' := [_, _, _, _, _, _, _, _, _]) a_X11_ask_224 rfl rfl rfl ?_
        refine R_iload a_X11_ask_225 rfl ?_
        first | with_reducible refine R_if_eq_n a_X11_ask_227 (by first | omega | exact Nat.lt_of_le_of_lt (inR_le _ _) (by decide) | exact Nat.lt_of_le_of_lt (bitN_le _ _) (by decide) | exact Nat.lt_of_le_of_lt (inI_le _ _ _) (by decide) | exact inI_le _ _ _ | exact inR_le _ _ | exact bitN_le _ _) (fun h227 => ?_) (fun h227 => ?_) | refine R_if_eq a_X11_ask_227 (fun h227 => ?_) (fun h227 => ?_)
        · skip
          exact absurd h227 (by decide)
        · skip
          refine R_iload a_X11_ask_230 rfl ?_
          refine R_goto a_X11_ask_232 ?_
          refine R_istore_n (ls' := [_, _, _, _, _, _, _, _, _]) a_X11_ask_236 rfl rfl rfl ?_
          first | with_reducible refine R_iinc_n (ls' := [_, _, _, _, _, _, _, _, _]) a_X11_ask_237 rfl rfl rfl rfl ?_ | refine R_iinc (ls' := [_, _, _, _, _, _, _, _, _]) a_X11_ask_237 rfl rfl rfl rfl rfl ?_
          refine R_goto a_X11_ask_240 ?_
          exact ih _ (show T.n - (t + 1) < n by omega) (t + 1) σ _ _ _ _ _ rfl (by omega) hA2 hWx hfr
    · skip
      have hfw : few = nI (qIn (maF T (nfK (explF T h T.law) (2 ^ T.n)) (fun t => wsK (explF T h T.law) t (2 ^ T.n)) (saltF T h)) i t q0).2 := (hA.2.2.resolve_left (fun w => h191 (by rw [hA.1]; exact w.1))).2
      have hq2 := hA.2.1
      subst hfw
      refine R_iload a_X11_ask_194 rfl ?_
      refine R_iload_n a_X11_ask_196 rfl ?_
      first | with_reducible refine R_icmp_ge_n a_X11_ask_197 (by first | omega | exact Nat.lt_of_le_of_lt (inR_le _ _) (by decide) | exact Nat.lt_of_le_of_lt (bitN_le _ _) (by decide) | exact Nat.lt_of_le_of_lt (inI_le _ _ _) (by decide) | exact inI_le _ _ _ | exact inR_le _ _ | exact bitN_le _ _) (by first | omega | exact Nat.lt_of_le_of_lt (inR_le _ _) (by decide) | exact Nat.lt_of_le_of_lt (bitN_le _ _) (by decide) | exact Nat.lt_of_le_of_lt (inI_le _ _ _) (by decide) | exact inI_le _ _ _ | exact inR_le _ _ | exact bitN_le _ _) (fun h197 => ?_) (fun h197 => ?_) | refine R_icmp_ge a_X11_ask_197 (fun h197 => ?_) (fun h197 => ?_)
      · skip
        have hA2 := hA2n (by omega) h191
        refine R_iconst (v := nI 0) a_X11_ask_204 rfl ?_
        refine R_istore (ls' := [_, _, _, _, _, _, _, _, _]) a_X11_ask_205 rfl rfl rfl ?_
        refine R_iload a_X11_ask_207 rfl ?_
        first | with_reducible refine R_if_eq_n a_X11_ask_209 (by first | omega | exact Nat.lt_of_le_of_lt (inR_le _ _) (by decide) | exact Nat.lt_of_le_of_lt (bitN_le _ _) (by decide) | exact Nat.lt_of_le_of_lt (inI_le _ _ _) (by decide) | exact inI_le _ _ _ | exact inR_le _ _ | exact bitN_le _ _) (fun h209 => ?_) (fun h209 => ?_) | refine R_if_eq a_X11_ask_209 (fun h209 => ?_) (fun h209 => ?_)
        · skip
          refine R_iload_n a_X11_ask_223 rfl ?_
          refine R_istore_n (ls' := [_, _, _, _, _, _, _, _, _]) a_X11_ask_224 rfl rfl rfl ?_
          refine R_iload a_X11_ask_225 rfl ?_
          first | with_reducible refine R_if_eq_n a_X11_ask_227 (by first | omega | exact Nat.lt_of_le_of_lt (inR_le _ _) (by decide) | exact Nat.lt_of_le_of_lt (bitN_le _ _) (by decide) | exact Nat.lt_of_le_of_lt (inI_le _ _ _) (by decide) | exact inI_le _ _ _ | exact inR_le _ _ | exact bitN_le _ _) (fun h227 => ?_) (fun h227 => ?_) | refine R_if_eq a_X11_ask_227 (fun h227 => ?_) (fun h227 => ?_)
          · skip
            refine R_iload_n a_X11_ask_235 rfl ?_
            refine R_istore_n (ls' := [_, _, _, _, _, _, _, _, _]) a_X11_ask_236 rfl rfl rfl ?_
            first | with_reducible refine R_iinc_n (ls' := [_, _, _, _, _, _, _, _, _]) a_X11_ask_237 rfl rfl rfl rfl ?_ | refine R_iinc (ls' := [_, _, _, _, _, _, _, _, _]) a_X11_ask_237 rfl rfl rfl rfl rfl ?_
            refine R_goto a_X11_ask_240 ?_
            exact ih _ (show T.n - (t + 1) < n by omega) (t + 1) σ _ _ _ _ _ rfl (by omega) hA2 hWx hfr
          · skip
            exact absurd rfl h227
        · skip
          exact absurd rfl h209
      · skip
        have hA2 := hA2y (by omega)
        refine R_iconst (v := nI 1) a_X11_ask_200 rfl ?_
        refine R_goto a_X11_ask_201 ?_
        refine R_istore (ls' := [_, _, _, _, _, _, _, _, _]) a_X11_ask_205 rfl rfl rfl ?_
        refine R_iload a_X11_ask_207 rfl ?_
        first | with_reducible refine R_if_eq_n a_X11_ask_209 (by first | omega | exact Nat.lt_of_le_of_lt (inR_le _ _) (by decide) | exact Nat.lt_of_le_of_lt (bitN_le _ _) (by decide) | exact Nat.lt_of_le_of_lt (inI_le _ _ _) (by decide) | exact inI_le _ _ _ | exact inR_le _ _ | exact bitN_le _ _) (fun h209 => ?_) (fun h209 => ?_) | refine R_if_eq a_X11_ask_209 (fun h209 => ?_) (fun h209 => ?_)
        · skip
          exact absurd h209 (by decide)
        · skip
          refine R_bipush (v := nI 8) a_X11_ask_212 rfl ?_
          refine R_iload a_X11_ask_214 rfl ?_
          first | with_reducible refine R_imul_n a_X11_ask_216 ?_ | refine R_imul a_X11_ask_216 ?_
          refine R_iload a_X11_ask_217 rfl ?_
          first | with_reducible refine R_iadd_n a_X11_ask_219 ?_ | refine R_iadd a_X11_ask_219 ?_
          refine R_goto a_X11_ask_220 ?_
          refine R_istore_n (ls' := [_, _, _, _, _, _, _, _, _]) a_X11_ask_224 rfl rfl rfl ?_
          refine R_iload a_X11_ask_225 rfl ?_
          first | with_reducible refine R_if_eq_n a_X11_ask_227 (by first | omega | exact Nat.lt_of_le_of_lt (inR_le _ _) (by decide) | exact Nat.lt_of_le_of_lt (bitN_le _ _) (by decide) | exact Nat.lt_of_le_of_lt (inI_le _ _ _) (by decide) | exact inI_le _ _ _ | exact inR_le _ _ | exact bitN_le _ _) (fun h227 => ?_) (fun h227 => ?_) | refine R_if_eq a_X11_ask_227 (fun h227 => ?_) (fun h227 => ?_)
          · skip
            exact absurd h227 (by decide)
          · skip
            refine R_iload a_X11_ask_230 rfl ?_
            refine R_goto a_X11_ask_232 ?_
            refine R_istore_n (ls' := [_, _, _, _, _, _, _, _, _]) a_X11_ask_236 rfl rfl rfl ?_
            first | with_reducible refine R_iinc_n (ls' := [_, _, _, _, _, _, _, _, _]) a_X11_ask_237 rfl rfl rfl rfl ?_ | refine R_iinc (ls' := [_, _, _, _, _, _, _, _, _]) a_X11_ask_237 rfl rfl rfl rfl rfl ?_
            refine R_goto a_X11_ask_240 ?_
            exact ih _ (show T.n - (t + 1) < n by omega) (t + 1) σ _ _ _ _ _ rfl (by omega) hA2 hWx hfr

set_option maxRecDepth 20000 in
theorem lp_ask1 {σ0 : AHp} {tl u kn ns : Nat} {at_ : Int32} {ft : Nat → Int32} {T : Tb} (hM0 : σ0 272 = some (mdO tl u kn ns at_)) (hMT0 : MT σ0 ft T) (ok : TbOk T) {h : Hs} (hSr0 : σ0 276 = some (iA 0 43 (nF (sF T h)))) (hHs : HsOk T h) {c : Nat} (hc : c < 2) : ∀ (n i : Nat) (σ : AHp) (found few : Int32) (x5 x6 x7 x8 : Option Value), T.g - i = n → i ≤ T.g → ASt (nfK (explF T h T.law) (2 ^ T.n)) found few (qOut (maF T (nfK (explF T h T.law) (2 ^ T.n)) (fun t => wsK (explF T h T.law) t (2 ^ T.n)) (saltF T h)) T.n i (-4, nfK (explF T h T.law) (2 ^ T.n) + 1)) (i = 0) → (∃ fw, σ 280 = some (iA 0 8 fw)) → (∀ j, j ≠ 280 → σ j = σ0 j) → Run M_X11_ask 31 [some (.ref 272), some (.int (nI c)), some (.int found), some (.int few), some (.int (nI i)), x5, x6, x7, x8] [] σ 0 0 (fun r σ => r = some (.int (if c = 0 then (qOut (maF T (nfK (explF T h T.law) (2 ^ T.n)) (fun t => wsK (explF T h T.law) t (2 ^ T.n)) (saltF T h)) T.n T.g (-4, nfK (explF T h T.law) (2 ^ T.n) + 1)).1 else nI (qOut (maF T (nfK (explF T h T.law) (2 ^ T.n)) (fun t => wsK (explF T h T.law) t (2 ^ T.n)) (saltF T h)) T.n T.g (-4, nfK (explF T h T.law) (2 ^ T.n) + 1)).2)) ∧ (∃ fw, σ 280 = some (iA 0 8 fw)) ∧ ∀ j, j ≠ 280 → σ j = σ0 j) := by
  have hsg := saltF_lt ok h
  obtain ⟨hTo, t0, t1, t2, t3, t28, tkd, thn, tkn, thf⟩ := id hMT0
  obtain ⟨g3, g8, n1, n6, lw, stg, son, kd4, hn10, kn63, hf4⟩ := id ok
  have hn64 : 2 ^ T.n ≤ 2 ^ 6 := Nat.pow_le_pow_right (by decide) n6
  intro n
  induction n using Nat.strongRecOn
  rename_i n ih
  intro i σ found few x5 x6 x7 x8 hm hk hA hWx hfr
  have hM := (hfr 272 (by omega)).trans hM0
  have hTo := (hfr 274 (by omega)).trans hTo
  have hSr := (hfr 276 (by omega)).trans hSr0
  have hMT : MT σ ft T := ⟨hTo, t0, t1, t2, t3, t28, tkd, thn, tkn, thf⟩
  refine R_iload a_X11_ask_31 rfl ?_
  refine R_aload_n a_X11_ask_33 rfl ?_
  refine R_get a_X11_ask_34 hM rfl ?_
  refine R_iconst (v := nI 0) a_X11_ask_37 rfl ?_
  refine R_iald_n a_X11_ask_38 hTo (by first | omega | exact Nat.lt_of_le_of_lt (inR_le _ _) (by decide) | exact Nat.lt_of_le_of_lt (bitN_le _ _) (by decide) | exact Nat.lt_of_le_of_lt (inI_le _ _ _) (by decide) | exact inI_le _ _ _ | exact inR_le _ _ | exact bitN_le _ _) (by decide) ?_
  refine R_top t0 ?_
  first | with_reducible refine R_icmp_ge_n a_X11_ask_39 (by first | omega | exact Nat.lt_of_le_of_lt (inR_le _ _) (by decide) | exact Nat.lt_of_le_of_lt (bitN_le _ _) (by decide) | exact Nat.lt_of_le_of_lt (inI_le _ _ _) (by decide) | exact inI_le _ _ _ | exact inR_le _ _ | exact bitN_le _ _) (by first | omega | exact Nat.lt_of_le_of_lt (inR_le _ _) (by decide) | exact Nat.lt_of_le_of_lt (bitN_le _ _) (by decide) | exact Nat.lt_of_le_of_lt (inI_le _ _ _) (by decide) | exact inI_le _ _ _ | exact inR_le _ _ | exact bitN_le _ _) (fun h39 => ?_) (fun h39 => ?_) | refine R_icmp_ge a_X11_ask_39 (fun h39 => ?_) (fun h39 => ?_)
  · skip
    have hie : i = T.g := by omega
    subst hie
    have hA3 := hA.2.2.resolve_left (fun q => by omega)
    obtain ⟨hA1, -, -⟩ := hA
    refine R_iload_n a_X11_ask_249 rfl ?_
    first | with_reducible refine R_if_ne_n a_X11_ask_250 (by first | omega | exact Nat.lt_of_le_of_lt (inR_le _ _) (by decide) | exact Nat.lt_of_le_of_lt (bitN_le _ _) (by decide) | exact Nat.lt_of_le_of_lt (inI_le _ _ _) (by decide) | exact inI_le _ _ _ | exact inR_le _ _ | exact bitN_le _ _) (fun h250 => ?_) (fun h250 => ?_) | refine R_if_ne a_X11_ask_250 (fun h250 => ?_) (fun h250 => ?_)
    · skip
      refine R_iload_n a_X11_ask_257 rfl ?_
      refine R_iret a_X11_ask_258 rfl ?_
      first | exact ⟨by rw [if_neg h250, hA3.2], hWx, hfr⟩ | exact ⟨by rw [if_pos h250, hA1], hWx, hfr⟩
    · skip
      refine R_iload_n a_X11_ask_253 rfl ?_
      refine R_goto a_X11_ask_254 ?_
      refine R_iret a_X11_ask_258 rfl ?_
      first | exact ⟨by rw [if_neg h250, hA3.2], hWx, hfr⟩ | exact ⟨by rw [if_pos h250, hA1], hWx, hfr⟩
  · skip
    refine R_iconst (v := nI 0) a_X11_ask_42 rfl ?_
    refine R_istore (ls' := [_, _, _, _, _, _, _, _, _]) a_X11_ask_43 rfl rfl rfl ?_
    refine lp_ask2 hM0 hMT0 ok hSr0 hHs (show i < T.g by omega) (q0 := (qOut (maF T (nfK (explF T h T.law) (2 ^ T.n)) (fun t => wsK (explF T h T.law) t (2 ^ T.n)) (saltF T h)) T.n i (-4, nfK (explF T h T.law) (2 ^ T.n) + 1))) (fun σ found few x6 x7 x8 hA2 hWx hfr => ?_) _ 0 σ found few x6 x7 x8 rfl (Nat.zero_le _) ?_ hWx hfr
    rotate_left
    · exact ⟨hA.1, hA.2.1, hA.2.2.imp (fun q => ⟨q.1, q.2.1, rfl⟩) id⟩
    have hM := (hfr 272 (by omega)).trans hM0
    first | with_reducible refine R_iinc_n (ls' := [_, _, _, _, _, _, _, _, _]) a_X11_ask_243 rfl rfl rfl rfl ?_ | refine R_iinc (ls' := [_, _, _, _, _, _, _, _, _]) a_X11_ask_243 rfl rfl rfl rfl rfl ?_
    refine R_goto a_X11_ask_246 ?_
    exact ih _ (show T.g - (i + 1) < n by omega) (i + 1) σ _ _ _ _ _ _ rfl (by omega) ⟨hA2.1, hA2.2.1, hA2.2.2.imp (fun q => absurd q.2.2 id) id⟩ hWx hfr

set_option maxRecDepth 20000 in
theorem md_ask {σ0 : AHp} {U : Us} {m : Nat} (hC : MP σ0 U) (hU : UOk U m) (hm : m < 2 ^ 20) {w : Int32} : EvW M_X11_ask [.ref 272, .int w] σ0 (some (.int (zAsk U w))) (fun σ => MP σ (U) ∧ Fr σ0 σ 272 12) := by
  obtain ⟨at_, fx, ft, fd, fp, fi, fy, fw, fs, fb, fh, hM, hMX, hMT, hDr, hSr, hMPa, hMIm, hMSy, hWy, hSm, hBh, hHd⟩ := id hC
  obtain ⟨hTx, hTxv⟩ := id hMX
  obtain ⟨hTo, t0, t1, t2, t3, t28, tkd, thn, tkn, thf⟩ := id hMT
  obtain ⟨hPa, hPav⟩ := id hMPa
  obtain ⟨hIm, hImv⟩ := id hMIm
  obtain ⟨hSy, hSyv⟩ := id hMSy
  have ok := hU.T
  obtain ⟨g3, g8, n1, n6, lw, stg, son, kd4, hn10, kn63, hf4⟩ := id ok
  have hn64 : 2 ^ U.T.n ≤ 2 ^ 6 := Nat.pow_le_pow_right (by decide) n6
  have hg256 : 2 ^ U.T.g ≤ 2 ^ 8 := Nat.pow_le_pow_right (by decide) g8
  have hlen := hU.len
  have hu8 := hU.u8
  have hul := hU.ul
  have hkn2 := hU.kn2
  have hsg := saltF_lt ok U.h
  have hfr : ∀ j, j < 272 ∨ 284 ≤ j → σ0 j = σ0 j := fun _ _ => rfl
  have hHs := hU.2.2.2.1
  have hnf2 : U.nf ≤ 2 ^ U.T.n := nfK_le U.P (2 ^ U.T.n)
  refine Ev.of (ls := [_, _, _, _, _, _, _, _, _]) 7 (by decide) rfl rfl ?_
  refine R_iload_n a_X11_ask_0 rfl ?_
  refine R_iconst (v := nI 0) a_X11_ask_1 rfl ?_
  refine R_iconst (v := nI 1) a_X11_ask_2 rfl ?_
  refine R_callSp a_X11_ask_3 md_in rfl rfl rfl rfl rfl ?_
  refine R_top (congrArg nI (inI_c w (n := 1) (by decide))) ?_
  first | with_reducible refine R_if_ne_n a_X11_ask_6 (by first | omega | exact Nat.lt_of_le_of_lt (inR_le _ _) (by decide) | exact Nat.lt_of_le_of_lt (bitN_le _ _) (by decide) | exact Nat.lt_of_le_of_lt (inI_le _ _ _) (by decide) | exact inI_le _ _ _ | exact inR_le _ _ | exact bitN_le _ _) (fun h6 => ?_) (fun h6 => ?_) | refine R_if_ne a_X11_ask_6 (fun h6 => ?_) (fun h6 => ?_)
  · skip
    obtain ⟨c, hc, rfl⟩ := inR_nz (by omega) h6
    refine R_bipush (v := (-4)) a_X11_ask_11 rfl ?_
    refine R_istore_n (ls' := [_, _, _, _, _, _, _, _, _]) a_X11_ask_13 rfl rfl rfl ?_
    refine R_bipush (v := (-4)) a_X11_ask_14 rfl ?_
    refine R_istore_n (ls' := [_, _, _, _, _, _, _, _, _]) a_X11_ask_16 rfl rfl rfl ?_
    refine R_aload_n a_X11_ask_17 rfl ?_
    refine R_iconst (v := nI 0) a_X11_ask_18 rfl ?_
    refine R_callVp a_X11_ask_19 hM (md_fitsP hM hMT ok hSr hHs) rfl rfl rfl rfl rfl ?_
    refine R_top (show fitF U.T U.h (nI 0) = nI U.nf by unfold fitF; rw [gd_in (by decide) (by decide), if_pos rfl]) ?_
    refine R_if_ne_n (a := U.nf) a_X11_ask_22 (by omega) (fun h22 => ?_) (fun h22 => ?_)
    · skip
      have hz : zAsk U (nI c) = if c = 0 then (qU U).1 else nI (qU U).2 := by unfold zAsk; rw [gd_in hc (by decide), if_neg h22]
      refine R_iconst (v := nI 0) a_X11_ask_28 rfl ?_
      refine R_istore (ls' := [_, _, _, _, _, _, _, _, _]) a_X11_ask_29 rfl rfl rfl ?_
      rw [hz]
      refine Run.eqQ (lp_ask1 hM hMT ok hSr hHs hc _ 0 σ0 (-4) (-4) none none none none rfl (Nat.zero_le _) ⟨rfl, Nat.le_refl _, Or.inl ⟨rfl, rfl, rfl⟩⟩ ⟨_, hWy⟩ (fun _ _ => rfl)) (fun r σ2 hq => ?_)
      obtain ⟨hr, ⟨fw2, hWy⟩, hf⟩ := hq
      have hM := (hf 272 (by omega)).trans hM
      have hTx := (hf 273 (by omega)).trans hTx
      have hTo := (hf 274 (by omega)).trans hTo
      have hDr := (hf 275 (by omega)).trans hDr
      have hSr := (hf 276 (by omega)).trans hSr
      have hPa := (hf 277 (by omega)).trans hPa
      have hIm := (hf 278 (by omega)).trans hIm
      have hSy := (hf 279 (by omega)).trans hSy
      have hSm := (hf 281 (by omega)).trans hSm
      have hBh := (hf 282 (by omega)).trans hBh
      have hHd := (hf 283 (by omega)).trans hHd
      exact ⟨hr, ⟨_, _, _, _, _, _, _, _, _, _, _, hM, ⟨hTx, hTxv⟩, ⟨hTo, t0, t1, t2, t3, t28, tkd, thn, tkn, thf⟩, hDr, hSr, ⟨hPa, hPav⟩, ⟨hIm, hImv⟩, ⟨hSy, hSyv⟩, hWy, hSm, hBh, hHd⟩, fun j hj => hf j (by omega)⟩
    · skip
      have hz : zAsk U (nI c) = -4 := by unfold zAsk; rw [gd_in hc (by decide), if_pos h22]
      refine R_bipush (v := (-4)) a_X11_ask_25 rfl ?_
      refine R_iret a_X11_ask_27 rfl ?_
      exact ⟨by rw [hz], hC, Fr.rf _ _ _⟩
  · skip
    have hz : zAsk U w = -1 := by unfold zAsk; rw [gd_out h6]
    refine R_iconst (v := (-1)) a_X11_ask_9 rfl ?_
    refine R_iret a_X11_ask_10 rfl ?_
    exact ⟨by rw [hz], hC, Fr.rf _ _ _⟩

