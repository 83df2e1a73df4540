/-! ===== Ways.sift, findQuestion ===== -/
theorem lowI_step (P : Nat → Bool) {k : Nat} (hp : P k = true) : (if nfK P k = 0 then nI k else lowI (loK P k)) = lowI (loK P (k + 1)) := by
  simp only [loK]
  by_cases h : nfK P k = 0
  · rw [if_pos h, (loK_nf P k).mp h]
    simp only [hp, if_true]
    rfl
  · rw [if_neg h]
    cases hl : loK P k with
    | none => exact absurd ((loK_nf P k).mpr hl) h
    | some x => rfl
theorem lowI_same (P : Nat → Bool) {k : Nat} (hp : P k = false) : loK P (k + 1) = loK P k := by
  simp only [loK]
  cases hl : loK P k with
  | none => simp [hp]
  | some x => rfl

set_option maxRecDepth 20000 in
theorem lp_sift2 {σ0 : AHp} {p e : Nat} {T : Tb} {V : Vs} {h : Hs} {u : Nat} (hT0 : TbP σ0 p T) (ok : TbOk T) (hE0 : EvR σ0 e V) (hV : VH V T h u) (hln : h.length < 2 ^ 20) (hp : 238 ≤ p) (he : e + 75 ≤ 232) {qu wo : Int32} {R : Rs} : ∀ (n k : Nat) (g : Nat → Nat) (σ : AHp), 2 ^ T.n - k = n → k ≤ 2 ^ T.n → (∀ t, t < T.n → g t = wsK (explF T h T.law) t k) → WaR σ (nfK (explF T h T.law) k) (lowI (loK (explF T h T.law) k)) (alK (explF T h T.law) (2 ^ T.n - 1) k) (neK (explF T h T.law) (2 ^ T.n - 1) k) qu wo g R → (∀ j, j < 232 ∨ 238 ≤ j → σ j = σ0 j) → Run M_X9_sift 52 [some (.ref 232), some (.ref p), some (.ref e), some (.int (nI k))] [] σ 0 0 (fun r σ => r = none ∧ (∃ g' R', WaR σ (nfK (explF T h T.law) (2 ^ T.n)) (lowI (loK (explF T h T.law) (2 ^ T.n))) (alK (explF T h T.law) (2 ^ T.n - 1) (2 ^ T.n)) (neK (explF T h T.law) (2 ^ T.n - 1) (2 ^ T.n)) qu wo g' R' ∧ ∀ t, t < T.n → g' t = wsK (explF T h T.law) t (2 ^ T.n)) ∧ Fr σ0 σ 232 6) := by
  have hn6 := ok.2.2.2.1
  have hN : 2 ^ T.n ≤ 64 := Nat.pow_le_pow_right (n := 2) (by decide) hn6
  have hN0 := Nat.two_pow_pos T.n
  intro n
  induction n using Nat.strongRecOn
  rename_i n ih
  intro k g σ hm hk hg hWR hfr
  obtain ⟨hW, hF, hRP⟩ := id hWR
  have hTP : TbP σ p T := hT0.kept (fun j h1 h2 => hfr j (by omega))
  have hE : EvR σ e V := hE0.kept (fun j h1 h2 => hfr j (by omega))
  obtain ⟨hp0, hT, -⟩ := id hTP
  have hb := b2n_le (explF T h T.law k)
  have hnf := nfK_le (explF T h T.law) k
  refine R_iload_n a_X9_sift_52 rfl ?_
  refine R_aload_n a_X9_sift_53 rfl ?_
  refine R_callVp a_X9_sift_54 hT (ev_allThings hTP ok) rfl rfl rfl rfl rfl ?_
  first | with_reducible refine R_icmp_gt_n a_X9_sift_57 (by omega) (by omega) (fun h57 => ?_) (fun h57 => ?_) | refine R_icmp_gt a_X9_sift_57 (fun h57 => ?_) (fun h57 => ?_)
  · skip
    have hke : k = 2 ^ T.n := by omega
    subst hke
    refine R_vret a_X9_sift_85 rfl ?_
    exact ⟨rfl, ⟨g, R, hWR, hg⟩, hfr⟩
  · skip
    refine R_aload_n a_X9_sift_60 rfl ?_
    refine R_aload_n a_X9_sift_61 rfl ?_
    refine R_aload_n a_X9_sift_62 rfl ?_
    refine R_get a_X9_sift_63 hT rfl ?_
    refine R_iload_n a_X9_sift_66 rfl ?_
    refine R_callSp a_X9_sift_67 (ev_explains hTP ok hE hV hln ok.2.2.2.2.1 (show k < 2 ^ 31 by omega)) rfl rfl rfl rfl rfl ?_
    first | with_reducible refine R_if_eq_n a_X9_sift_70 (by omega) (fun h70 => ?_) (fun h70 => ?_) | refine R_if_eq a_X9_sift_70 (fun h70 => ?_) (fun h70 => ?_)
    · skip
      first | with_reducible refine R_iinc_n (ls' := [_, _, _, _]) a_X9_sift_79 rfl rfl rfl rfl ?_ | refine R_iinc (ls' := [_, _, _, _]) a_X9_sift_79 rfl rfl rfl rfl rfl ?_
      refine R_goto a_X9_sift_82 ?_
      first
      | (have hpk := b2n_0 h70
         have hs1 : nfK (explF T h T.law) (k + 1) = nfK (explF T h T.law) k := by simp only [nfK, hpk, b2n_f, Nat.add_zero]
         have hs3 : alK (explF T h T.law) (2 ^ T.n - 1) (k + 1) = alK (explF T h T.law) (2 ^ T.n - 1) k := by simp only [alK, hpk, Bool.false_eq_true, if_false]
         have hs4 : neK (explF T h T.law) (2 ^ T.n - 1) (k + 1) = neK (explF T h T.law) (2 ^ T.n - 1) k := by simp only [neK, hpk, Bool.false_eq_true, if_false]
         refine ih _ (show 2 ^ T.n - (k + 1) < n by omega) (k + 1) g σ rfl (by omega) (fun t ht => ?_) ?_ hfr
         · simp only [wsK, hpk, Bool.false_eq_true, if_false, Nat.add_zero]
           exact hg t ht
         · rw [hs1, hs3, hs4, lowI_same _ hpk]
           exact hWR)
      | (have hpk := b2n_n0 h70
         have hs1 : nfK (explF T h T.law) (k + 1) = nfK (explF T h T.law) k + 1 := by simp only [nfK, hpk, b2n_t]
         have hs3 : alK (explF T h T.law) (2 ^ T.n - 1) (k + 1) = alK (explF T h T.law) (2 ^ T.n - 1) k &&& k := by simp only [alK, hpk, if_true]
         have hs4 : neK (explF T h T.law) (2 ^ T.n - 1) (k + 1) = neK (explF T h T.law) (2 ^ T.n - 1) k &&& (63 ^^^ k) := by simp only [neK, hpk, if_true]
         refine ih _ (show 2 ^ T.n - (k + 1) < n by omega) (k + 1) g1 σ rfl (by omega) (fun t ht => ?_) ?_ (fun j hj => (hf1 j (by omega)).trans (hfr j hj))
         · simp only [wsK, hpk, if_true]
           rw [hg1 t ht, hg t ht]
         · rw [hs1, hs3, hs4, ← lowI_step _ hpk]
           exact hWR1)
    · skip
      refine R_aload_n a_X9_sift_73 rfl ?_
      refine R_aload_n a_X9_sift_74 rfl ?_
      refine R_iload_n a_X9_sift_75 rfl ?_
      refine R_callVv a_X9_sift_76 hW (ev_admit hTP ok hp (show k < 64 by omega) (show nfK (explF T h T.law) k < 2 ^ 20 by omega) (alK_lt _ (by omega) k) (neK_lt _ (by omega) k) hWR) rfl rfl rfl rfl rfl (fun σ hP => ?_)
      obtain ⟨⟨g1, hWR1, hg1⟩, hf1⟩ := hP
      first | with_reducible refine R_iinc_n (ls' := [_, _, _, _]) a_X9_sift_79 rfl rfl rfl rfl ?_ | refine R_iinc (ls' := [_, _, _, _]) a_X9_sift_79 rfl rfl rfl rfl rfl ?_
      refine R_goto a_X9_sift_82 ?_
      first
      | (have hpk := b2n_0 h70
         have hs1 : nfK (explF T h T.law) (k + 1) = nfK (explF T h T.law) k := by simp only [nfK, hpk, b2n_f, Nat.add_zero]
         have hs3 : alK (explF T h T.law) (2 ^ T.n - 1) (k + 1) = alK (explF T h T.law) (2 ^ T.n - 1) k := by simp only [alK, hpk, Bool.false_eq_true, if_false]
         have hs4 : neK (explF T h T.law) (2 ^ T.n - 1) (k + 1) = neK (explF T h T.law) (2 ^ T.n - 1) k := by simp only [neK, hpk, Bool.false_eq_true, if_false]
         refine ih _ (show 2 ^ T.n - (k + 1) < n by omega) (k + 1) g σ rfl (by omega) (fun t ht => ?_) ?_ hfr
         · simp only [wsK, hpk, Bool.false_eq_true, if_false, Nat.add_zero]
           exact hg t ht
         · rw [hs1, hs3, hs4, lowI_same _ hpk]
           exact hWR)
      | (have hpk := b2n_n0 h70
         have hs1 : nfK (explF T h T.law) (k + 1) = nfK (explF T h T.law) k + 1 := by simp only [nfK, hpk, b2n_t]
         have hs3 : alK (explF T h T.law) (2 ^ T.n - 1) (k + 1) = alK (explF T h T.law) (2 ^ T.n - 1) k &&& k := by simp only [alK, hpk, if_true]
         have hs4 : neK (explF T h T.law) (2 ^ T.n - 1) (k + 1) = neK (explF T h T.law) (2 ^ T.n - 1) k &&& (63 ^^^ k) := by simp only [neK, hpk, if_true]
         refine ih _ (show 2 ^ T.n - (k + 1) < n by omega) (k + 1) g1 σ rfl (by omega) (fun t ht => ?_) ?_ (fun j hj => (hf1 j (by omega)).trans (hfr j hj))
         · simp only [wsK, hpk, if_true]
           rw [hg1 t ht, hg t ht]
         · rw [hs1, hs3, hs4, ← lowI_step _ hpk]
           exact hWR1)

set_option maxRecDepth 20000 in
theorem lp_sift1 {σ0 : AHp} {p e : Nat} {T : Tb} {V : Vs} {h : Hs} {u : Nat} (hT0 : TbP σ0 p T) (ok : TbOk T) (hE0 : EvR σ0 e V) (hV : VH V T h u) (hln : h.length < 2 ^ 20) (hp : 238 ≤ p) (he : e + 75 ≤ 232) {qu wo : Int32} {R : Rs} : ∀ (n k : Nat) (g : Nat → Nat) (σ : AHp), T.n - k = n → k ≤ T.n → (∀ t, t < k → g t = 0) → WaR σ 0 (-4) (2 ^ T.n - 1) (2 ^ T.n - 1) qu wo g R → (∀ j, j < 232 ∨ 238 ≤ j → σ j = σ0 j) → Run M_X9_sift 29 [some (.ref 232), some (.ref p), some (.ref e), some (.int (nI k))] [] σ 0 0 (fun r σ => r = none ∧ (∃ g' R', WaR σ (nfK (explF T h T.law) (2 ^ T.n)) (lowI (loK (explF T h T.law) (2 ^ T.n))) (alK (explF T h T.law) (2 ^ T.n - 1) (2 ^ T.n)) (neK (explF T h T.law) (2 ^ T.n - 1) (2 ^ T.n)) qu wo g' R' ∧ ∀ t, t < T.n → g' t = wsK (explF T h T.law) t (2 ^ T.n)) ∧ Fr σ0 σ 232 6) := by
  have hn6 := ok.2.2.2.1
  intro n
  induction n using Nat.strongRecOn
  rename_i n ih
  intro k g σ hm hk hg hWR hfr
  obtain ⟨hW, hF, hRP⟩ := id hWR
  have hTP : TbP σ p T := hT0.kept (fun j h1 h2 => hfr j (by omega))
  obtain ⟨hp0, hT, -⟩ := id hTP
  refine R_iload_n a_X9_sift_29 rfl ?_
  refine R_aload_n a_X9_sift_30 rfl ?_
  refine R_get a_X9_sift_31 hT rfl ?_
  first | with_reducible refine R_icmp_ge_n a_X9_sift_34 (by omega) (by omega) (fun h34 => ?_) (fun h34 => ?_) | refine R_icmp_ge a_X9_sift_34 (fun h34 => ?_) (fun h34 => ?_)
  · skip
    refine R_iconst (v := nI 0) a_X9_sift_50 rfl ?_
    refine R_istore_n (ls' := [_, _, _, _]) a_X9_sift_51 rfl rfl rfl ?_
    exact lp_sift2 hT0 ok hE0 hV hln hp he _ 0 g σ rfl (Nat.zero_le _) (fun t ht => hg t (by omega)) hWR hfr
  · skip
    refine R_aload_n a_X9_sift_37 rfl ?_
    refine R_get a_X9_sift_38 hW rfl ?_
    refine R_iload_n a_X9_sift_41 rfl ?_
    refine R_iconst (v := nI 0) a_X9_sift_42 rfl ?_
    refine R_iastK a_X9_sift_43 (by omega) hF (by omega) (by decide) (fun σ hF ho => ?_)
    have hW := (ho _ (by omega)).trans hW
    have hfr : ∀ j, j < 232 ∨ 238 ≤ j → σ j = σ0 j := fun j hj => (ho j (by omega)).trans (hfr j hj)
    rw [nF_upd] at hF
    first | with_reducible refine R_iinc_n (ls' := [_, _, _, _]) a_X9_sift_44 rfl rfl rfl rfl ?_ | refine R_iinc (ls' := [_, _, _, _]) a_X9_sift_44 rfl rfl rfl rfl rfl ?_
    refine R_goto a_X9_sift_47 ?_
    exact ih _ (show T.n - (k + 1) < n by omega) (k + 1) (uN g k 0) σ rfl (by omega) (fun t ht => by
      by_cases e : t = k
      · rw [e, uN_self]
      · rw [uN_ne _ _ e]; exact hg t (by omega)) ⟨hW, hF, hRP.at234 (fun j h1 h2 => ho j (by omega))⟩ hfr

set_option maxRecDepth 20000 in
theorem ev_sift {σ0 : AHp} {p e : Nat} {T : Tb} {V : Vs} {h : Hs} {u : Nat} (hT0 : TbP σ0 p T) (ok : TbOk T) (hE0 : EvR σ0 e V) (hV : VH V T h u) (hln : h.length < 2 ^ 20) (hp : 238 ≤ p) (he : e + 75 ≤ 232) {a al ne : Nat} {lo qu wo : Int32} {g : Nat → Nat} {R : Rs} (hWR : WaR σ0 a lo al ne qu wo g R) : EvW M_X9_sift [.ref 232, .ref p, .ref e] σ0 none (fun σ => (∃ g' R', WaR σ (nfK (explF T h T.law) (2 ^ T.n)) (lowI (loK (explF T h T.law) (2 ^ T.n))) (alK (explF T h T.law) (2 ^ T.n - 1) (2 ^ T.n)) (neK (explF T h T.law) (2 ^ T.n - 1) (2 ^ T.n)) qu wo g' R' ∧ ∀ t, t < T.n → g' t = wsK (explF T h T.law) t (2 ^ T.n)) ∧ Fr σ0 σ 232 6) := by
  obtain ⟨hW, hF, hRP⟩ := id hWR
  obtain ⟨hp0, hT, -⟩ := id hT0
  have hfr : ∀ j, j < 232 ∨ 238 ≤ j → σ0 j = σ0 j := fun _ _ => rfl
  have hn0 := Nat.two_pow_pos T.n
  refine Ev.of (ls := [_, _, _, _]) 1 (by decide) rfl rfl ?_
  refine R_aload_n a_X9_sift_0 rfl ?_
  refine R_iconst (v := nI 0) a_X9_sift_1 rfl ?_
  refine R_putiK (fs' := [_, _, _, _, _, _, _, _]) a_X9_sift_2 hW rfl rfl (fun σ hW ho => ?_)
  have hF := (ho _ (by omega)).trans hF
  have hT := (ho _ (by omega)).trans hT
  have hfr : ∀ j, j < 232 ∨ 238 ≤ j → σ j = σ0 j := fun j hj => (ho j (by omega)).trans (hfr j hj)
  have hRP := hRP.at234 (fun j h1 h2 => ho j (by omega))
  refine R_aload_n a_X9_sift_5 rfl ?_
  refine R_bipush (v := (-4)) a_X9_sift_6 rfl ?_
  refine R_putiK (fs' := [_, _, _, _, _, _, _, _]) a_X9_sift_8 hW rfl rfl (fun σ hW ho => ?_)
  have hF := (ho _ (by omega)).trans hF
  have hT := (ho _ (by omega)).trans hT
  have hfr : ∀ j, j < 232 ∨ 238 ≤ j → σ j = σ0 j := fun j hj => (ho j (by omega)).trans (hfr j hj)
  have hRP := hRP.at234 (fun j h1 h2 => ho j (by omega))
  refine R_aload_n a_X9_sift_11 rfl ?_
  refine R_aload_n a_X9_sift_12 rfl ?_
  refine R_callVp a_X9_sift_13 hT (ev_allThings (hT0.kept (fun j h1 h2 => hfr j (by omega))) ok) rfl rfl rfl rfl rfl ?_
  refine R_putiK (fs' := [_, _, _, _, _, _, _, _]) a_X9_sift_16 hW rfl rfl (fun σ hW ho => ?_)
  have hF := (ho _ (by omega)).trans hF
  have hT := (ho _ (by omega)).trans hT
  have hfr : ∀ j, j < 232 ∨ 238 ≤ j → σ j = σ0 j := fun j hj => (ho j (by omega)).trans (hfr j hj)
  have hRP := hRP.at234 (fun j h1 h2 => ho j (by omega))
  refine R_aload_n a_X9_sift_19 rfl ?_
  refine R_aload_n a_X9_sift_20 rfl ?_
  refine R_callVp a_X9_sift_21 hT (ev_allThings (hT0.kept (fun j h1 h2 => hfr j (by omega))) ok) rfl rfl rfl rfl rfl ?_
  refine R_putiK (fs' := [_, _, _, _, _, _, _, _]) a_X9_sift_24 hW rfl rfl (fun σ hW ho => ?_)
  have hF := (ho _ (by omega)).trans hF
  have hT := (ho _ (by omega)).trans hT
  have hfr : ∀ j, j < 232 ∨ 238 ≤ j → σ j = σ0 j := fun j hj => (ho j (by omega)).trans (hfr j hj)
  have hRP := hRP.at234 (fun j h1 h2 => ho j (by omega))
  refine R_iconst (v := nI 0) a_X9_sift_27 rfl ?_
  refine R_istore_n (ls' := [_, _, _, _]) a_X9_sift_28 rfl rfl rfl ?_
  exact lp_sift1 hT0 ok hE0 hV hln hp he _ 0 g σ rfl (by omega) (fun t ht => absurd ht (by omega)) ⟨hW, hF, hRP⟩ hfr

/-- 16 t + 2 i + so: one says of t that it is so -/
def sayC (i t so : Nat) : Nat := 16 * t + 2 * i + so
def maF (T : Tb) (a : Nat) (g : Nat → Nat) (s i t : Nat) : Nat := if comesF T s (sayC i t 1) 128 (2 ^ t) T.law = comesF T s (sayC i t 1) 128 0 T.law then a else max (g t) (a - g t)
def rd1 (R : Rs) (i t so : Nat) : Rs := (1, uN R.w 0 i, uN R.tp 0 t, uN R.sd 0 so, R.fr, R.to, R.tb, R.li)
theorem rd1_ok {T : Tb} {R : Rs} {i t so : Nat} (hi : i < T.g) (ht : t < T.n) (hs : so ≤ 1) : RdOk T (rd1 R i t so) := ⟨(by decide : 1 ≤ 2), fun k hk => by
  obtain rfl : k = 0 := by have : k < 1 := hk; omega
  exact ⟨hi, ht, hs⟩⟩
theorem rd1_0 (R : Rs) (i t so : Nat) : cd (rd1 R i t so) 0 = sayC i t so := rfl
theorem rd1_1 (R : Rs) (i t so : Nat) : cd (rd1 R i t so) 1 = 128 := rfl
set_option maxRecDepth 20000 in
theorem ev_mostAlike {σ0 : AHp} {p a al ne s i t : Nat} {T : Tb} {lo qu wo : Int32} {g : Nat → Nat} {R : Rs} (hT0 : TbP σ0 p T) (ok : TbOk T) (hp : 238 ≤ p) (ha : a < 2 ^ 20) (hgt : g t ≤ a) (hs : s < T.g) (hi : i < T.g) (ht : t < T.n) (hWR : WaR σ0 a lo al ne qu wo g R) : EvW M_X9_mostAlike [.ref 232, .ref p, .int (nI s), .int (nI i), .int (nI t)] σ0 (some (.int (nI (maF T a g s i t)))) (fun σ => (∃ R', WaR σ a lo al ne qu wo g R') ∧ Fr σ0 σ 232 6) := by
  obtain ⟨hW, hF, hRP⟩ := id hWR
  obtain ⟨hr0, hR, -⟩ := id hRP
  obtain ⟨hp0, hT, -⟩ := id hT0
  have hn6 := ok.2.2.2.1
  have hg8 := ok.2.1
  have hp2 : 2 ^ t < 2 ^ 31 := Nat.pow_lt_pow_right (by decide) (by omega)
  have hc1 := comesF_lt (T := T) (a := s) (c := sayC i t 1) (d := 128) (w := 2 ^ t) (law := T.law) (by omega) hs
  have hc2 := comesF_lt (T := T) (a := s) (c := sayC i t 1) (d := 128) (w := 0) (law := T.law) (by omega) hs
  refine Ev.of (ls := [_, _, _, _, _, _, _, _]) 3 (by decide) rfl rfl ?_
  refine R_aload_n a_X9_mostAlike_0 rfl ?_
  refine R_get a_X9_mostAlike_1 hW rfl ?_
  refine R_callVv a_X9_mostAlike_4 hR (ev_Rclear hRP) rfl rfl rfl rfl rfl (fun σ hP => ?_)
  obtain ⟨hRP, hfA⟩ := hP
  obtain ⟨hr0, hR, -⟩ := id hRP
  have hW := (hfA 232 (by omega)).trans hW
  refine R_aload_n a_X9_mostAlike_7 rfl ?_
  refine R_get a_X9_mostAlike_8 hW rfl ?_
  refine R_iload_n a_X9_mostAlike_11 rfl ?_
  refine R_iload a_X9_mostAlike_12 rfl ?_
  refine R_iconst (v := nI 1) a_X9_mostAlike_14 rfl ?_
  refine R_callVv a_X9_mostAlike_15 hR (ev_Radd hRP (show 0 < 2 by decide) (by decide)) rfl rfl rfl rfl rfl (fun σ hP => ?_)
  obtain ⟨hRP, hfB⟩ := hP
  have hRP : RdP σ 234 (rd1 R i t 1) := hRP
  obtain ⟨hr0, hR, -⟩ := id hRP
  have hW := (hfB 232 (by omega)).trans hW
  have hF := (hfB 233 (by omega)).trans ((hfA 233 (by omega)).trans hF)
  have hfr : ∀ j, j < 232 ∨ 238 ≤ j → σ j = σ0 j := fun j hj => (hfB j (by omega)).trans (hfA j (by omega))
  have hTP : TbP σ p T := hT0.kept (fun j h1 h2 => hfr j (by omega))
  obtain ⟨hp0, hT, -⟩ := id hTP
  refine R_aload_n a_X9_mostAlike_18 rfl ?_
  refine R_aload_n a_X9_mostAlike_19 rfl ?_
  refine R_get a_X9_mostAlike_20 hT rfl ?_
  refine R_iconst (v := nI 1) a_X9_mostAlike_23 rfl ?_
  refine R_iload a_X9_mostAlike_24 rfl ?_
  first | with_reducible refine R_ishl1 a_X9_mostAlike_26 (by omega) ?_ | with_reducible refine R_ishl_n a_X9_mostAlike_26 (by omega) (by omega) ?_ | refine R_ishl a_X9_mostAlike_26 ?_
  refine R_iload_n a_X9_mostAlike_27 rfl ?_
  refine R_aload_n a_X9_mostAlike_28 rfl ?_
  refine R_get a_X9_mostAlike_29 hW rfl ?_
  refine R_callVp a_X9_mostAlike_32 hT (show EvP M_X8_landing [.ref p, .int (nI T.law), .int (nI (2 ^ t)), .int (nI s), .ref 234] σ (.int (nI (comesF T s (sayC i t 1) 128 (2 ^ t) T.law))) from ev_landing hTP ok hRP (rd1_ok hi ht (by decide)) hs hp2 ok.2.2.2.2.1) rfl rfl rfl rfl rfl ?_
  refine R_istore (ls' := [_, _, _, _, _, _, _, _]) a_X9_mostAlike_35 rfl rfl rfl ?_
  refine R_aload_n a_X9_mostAlike_37 rfl ?_
  refine R_aload_n a_X9_mostAlike_38 rfl ?_
  refine R_get a_X9_mostAlike_39 hT rfl ?_
  refine R_iconst (v := nI 0) a_X9_mostAlike_42 rfl ?_
  refine R_iload_n a_X9_mostAlike_43 rfl ?_
  refine R_aload_n a_X9_mostAlike_44 rfl ?_
  refine R_get a_X9_mostAlike_45 hW rfl ?_
  refine R_callVp a_X9_mostAlike_48 hT (show EvP M_X8_landing [.ref p, .int (nI T.law), .int (nI 0), .int (nI s), .ref 234] σ (.int (nI (comesF T s (sayC i t 1) 128 0 T.law))) from ev_landing hTP ok hRP (rd1_ok hi ht (by decide)) hs (by decide) ok.2.2.2.2.1) rfl rfl rfl rfl rfl ?_
  refine R_istore (ls' := [_, _, _, _, _, _, _, _]) a_X9_mostAlike_51 rfl rfl rfl ?_
  refine R_aload_n a_X9_mostAlike_53 rfl ?_
  refine R_get a_X9_mostAlike_54 hW rfl ?_
  refine R_iload a_X9_mostAlike_57 rfl ?_
  refine R_iald_n a_X9_mostAlike_59 hF (by omega) (by decide) ?_
  refine R_istore (ls' := [_, _, _, _, _, _, _, _]) a_X9_mostAlike_60 rfl rfl rfl ?_
  refine R_iload a_X9_mostAlike_62 rfl ?_
  refine R_iload a_X9_mostAlike_64 rfl ?_
  first | with_reducible refine R_icmp_ne_n a_X9_mostAlike_66 (by omega) (by omega) (fun h66 => ?_) (fun h66 => ?_) | refine R_icmp_ne a_X9_mostAlike_66 (fun h66 => ?_) (fun h66 => ?_)
  · skip
    refine R_iload a_X9_mostAlike_76 rfl ?_
    refine R_aload_n a_X9_mostAlike_78 rfl ?_
    refine R_get a_X9_mostAlike_79 hW rfl ?_
    refine R_iload a_X9_mostAlike_82 rfl ?_
    first | with_reducible refine R_isub_n a_X9_mostAlike_84 (by omega) ?_ | refine R_isub a_X9_mostAlike_84 ?_
    refine R_max a_X9_mostAlike_85 ml_X9_97 rfl rfl ?_
    refine R_top (max_nn (by omega) (by omega)) ?_
    refine R_iret a_X9_mostAlike_88 rfl ?_
    exact ⟨by unfold maF; first | rw [if_pos h66] | rw [if_neg h66], ⟨_, hW, hF, hRP⟩, hfr⟩
  · skip
    refine R_aload_n a_X9_mostAlike_69 rfl ?_
    refine R_get a_X9_mostAlike_70 hW rfl ?_
    refine R_goto a_X9_mostAlike_73 ?_
    refine R_iret a_X9_mostAlike_88 rfl ?_
    exact ⟨by unfold maF; first | rw [if_pos h66] | rw [if_neg h66], ⟨_, hW, hF, hRP⟩, hfr⟩

