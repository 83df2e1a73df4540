/-! ===== SaltToLiars.Table, reads ===== -/
/-- 1 if the number is one of 0 .. g - 1 -/
def inR (x : Int32) (g : Nat) : Nat := if ¬ x < 0 ∧ ¬ nI g ≤ x then 1 else 0
theorem inR_1 {x : Int32} {g : Nat} (h1 : ¬ x < 0) (h2 : ¬ nI g ≤ x) : inR x g = 1 := by unfold inR; rw [if_pos ⟨h1, h2⟩]
theorem inR_0a {x : Int32} {g : Nat} (h1 : x < 0) : inR x g = 0 := by unfold inR; rw [if_neg (fun q => q.1 h1)]
theorem inR_0b {x : Int32} {g : Nat} (h1 : nI g ≤ x) : inR x g = 0 := by unfold inR; rw [if_neg (fun q => q.2 h1)]
theorem inR_le (x : Int32) (g : Nat) : inR x g ≤ 1 := by unfold inR; split <;> omega
theorem inR_split (x : Int32) {g : Nat} (hg : g < 2 ^ 31) : (inR x g = 0 ∧ ∀ j, j < g → ¬ x = nI j) ∨ (inR x g = 1 ∧ ∃ j, j < g ∧ x = nI j) := by
  rcases pk_ix x hg with h | h | ⟨j, hj, rfl⟩
  · exact Or.inl ⟨inR_0a h, fun j hj e => nI_pos (by omega) (e ▸ h)⟩
  · exact Or.inl ⟨inR_0b h, fun j hj e => by subst e; exact nI_ge hj hg h⟩
  · exact Or.inr ⟨inR_1 (nI_pos (by omega)) (nI_ge hj hg), j, hj, rfl⟩
theorem upF_eq {g a b : Nat} (ha : a < g) (hb : b < g) : upF g a b = if a ≤ b then b - a else b + g - a := by
  unfold upF
  by_cases h : a ≤ b
  · rw [if_pos h, show b + g - a = (b - a) + g by omega, Nat.add_mod_right, Nat.mod_eq_of_lt (by omega)]
  · rw [if_neg h, Nat.mod_eq_of_lt (by omega)]
theorem upF_lt {g a b : Nat} (hg : 0 < g) : upF g a b < g := Nat.mod_lt _ hg
theorem farF_eq {g a b : Nat} (ha : a < g) (hb : b < g) : farF g a b = min (if a ≤ b then b - a else a - b) (g - (if a ≤ b then b - a else a - b)) := by
  unfold farF
  rw [upF_eq ha hb]
  by_cases h : a ≤ b
  · simp only [h, if_true]
    split <;> omega
  · simp only [h, if_false]
    split <;> omega
def wayF (g a b : Nat) : Int32 := if 2 * upF g a b ≤ g then nI 1 else -1
theorem neg1_mul (k : Nat) (a : Nat) : nI a + (-1) * nI k = nI a - nI k := by
  rw [Int32.neg_mul, Int32.one_mul, ← Int32.sub_eq_add_neg]
theorem step_way {g a b k : Nat} (ha : a < 9) (hk : k < 10) (hg0 : 0 < g) (hg : g < 9) : fmF (nI a + wayF g a b * nI k) (nI g) = nI (stepF g a b k) := by
  unfold wayF stepF
  by_cases h : 2 * upF g a b ≤ g
  · rw [if_pos h, if_pos h, pk_mul, nI_add, Nat.one_mul]
    exact fm_nn (by omega) hg0 (by omega)
  · rw [if_neg h, if_neg h, neg1_mul]
    exact fm_neg a ha k hk g hg hg0
set_option maxRecDepth 20000 in
theorem ev_hasGuest {σ : AHp} {p : Nat} {T : Tb} (h : TbP σ p T) (ok : TbOk T) {x : Int32} : EvP M_X8_hasGuest [.ref p, .int x] σ (.int (nI (inR x T.g))) := by
  obtain ⟨hp0, hT, hk, hh, hn, hf⟩ := h
  obtain ⟨g3, g8, n1, n6, lw, stg, son, kd4, hn10, kn63, hf4⟩ := ok
  refine Ev.of (ls := [_, _]) 0 (by decide) rfl rfl ?_
  refine R_iload_n a_X8_hasGuest_0 rfl ?_
  refine R_if_lt a_X8_hasGuest_1 (fun h1 => ?_) (fun h1 => ?_)
  · skip
    refine R_iconst (v := nI 0) a_X8_hasGuest_16 rfl ?_
    refine R_zret_n a_X8_hasGuest_17 rfl (by omega) ?_
    exact ⟨by first | rw [inR_1 h1 h9] | rw [inR_0a h1] | rw [inR_0b h9], rfl⟩
  · skip
    refine R_iload_n a_X8_hasGuest_4 rfl ?_
    refine R_aload_n a_X8_hasGuest_5 rfl ?_
    refine R_get a_X8_hasGuest_6 hT rfl ?_
    refine R_icmp_ge a_X8_hasGuest_9 (fun h9 => ?_) (fun h9 => ?_)
    · skip
      refine R_iconst (v := nI 0) a_X8_hasGuest_16 rfl ?_
      refine R_zret_n a_X8_hasGuest_17 rfl (by omega) ?_
      exact ⟨by first | rw [inR_1 h1 h9] | rw [inR_0a h1] | rw [inR_0b h9], rfl⟩
    · skip
      refine R_iconst (v := nI 1) a_X8_hasGuest_12 rfl ?_
      refine R_goto a_X8_hasGuest_13 ?_
      refine R_zret_n a_X8_hasGuest_17 rfl (by omega) ?_
      exact ⟨by first | rw [inR_1 h1 h9] | rw [inR_0a h1] | rw [inR_0b h9], rfl⟩

set_option maxRecDepth 20000 in
theorem ev_hasThing {σ : AHp} {p : Nat} {T : Tb} (h : TbP σ p T) (ok : TbOk T) {x : Int32} : EvP M_X8_hasThing [.ref p, .int x] σ (.int (nI (inR x T.n))) := by
  obtain ⟨hp0, hT, hk, hh, hn, hf⟩ := h
  obtain ⟨g3, g8, n1, n6, lw, stg, son, kd4, hn10, kn63, hf4⟩ := ok
  refine Ev.of (ls := [_, _]) 0 (by decide) rfl rfl ?_
  refine R_iload_n a_X8_hasThing_0 rfl ?_
  refine R_if_lt a_X8_hasThing_1 (fun h1 => ?_) (fun h1 => ?_)
  · skip
    refine R_iconst (v := nI 0) a_X8_hasThing_16 rfl ?_
    refine R_zret_n a_X8_hasThing_17 rfl (by omega) ?_
    exact ⟨by first | rw [inR_1 h1 h9] | rw [inR_0a h1] | rw [inR_0b h9], rfl⟩
  · skip
    refine R_iload_n a_X8_hasThing_4 rfl ?_
    refine R_aload_n a_X8_hasThing_5 rfl ?_
    refine R_get a_X8_hasThing_6 hT rfl ?_
    refine R_icmp_ge a_X8_hasThing_9 (fun h9 => ?_) (fun h9 => ?_)
    · skip
      refine R_iconst (v := nI 0) a_X8_hasThing_16 rfl ?_
      refine R_zret_n a_X8_hasThing_17 rfl (by omega) ?_
      exact ⟨by first | rw [inR_1 h1 h9] | rw [inR_0a h1] | rw [inR_0b h9], rfl⟩
    · skip
      refine R_iconst (v := nI 1) a_X8_hasThing_12 rfl ?_
      refine R_goto a_X8_hasThing_13 ?_
      refine R_zret_n a_X8_hasThing_17 rfl (by omega) ?_
      exact ⟨by first | rw [inR_1 h1 h9] | rw [inR_0a h1] | rw [inR_0b h9], rfl⟩

set_option maxRecDepth 20000 in
theorem ev_allThings {σ : AHp} {p : Nat} {T : Tb} (h : TbP σ p T) (ok : TbOk T)  : EvP M_X8_allThings [.ref p] σ (.int (nI (2 ^ T.n - 1))) := by
  obtain ⟨hp0, hT, hk, hh, hn, hf⟩ := h
  obtain ⟨g3, g8, n1, n6, lw, stg, son, kd4, hn10, kn63, hf4⟩ := ok
  refine Ev.of (ls := [_]) 0 (by decide) rfl rfl ?_
  refine R_iconst (v := nI 1) a_X8_allThings_0 rfl ?_
  refine R_aload_n a_X8_allThings_1 rfl ?_
  refine R_get a_X8_allThings_2 hT rfl ?_
  first | with_reducible refine R_ishl1 a_X8_allThings_5 (by omega) ?_ | with_reducible refine R_ishl_n a_X8_allThings_5 (by omega) (by omega) ?_ | refine R_ishl a_X8_allThings_5 ?_
  have hp2 : 0 < 2 ^ T.n := Nat.two_pow_pos _
  refine R_iconst (v := nI 1) a_X8_allThings_6 rfl ?_
  first | with_reducible refine R_isub_n a_X8_allThings_7 (by omega) ?_ | refine R_isub a_X8_allThings_7 ?_
  refine R_iret a_X8_allThings_8 rfl ?_
  exact ⟨rfl, rfl⟩

set_option maxRecDepth 20000 in
theorem ev_isSo {σ : AHp} {w t : Nat} (hw : w < 2 ^ 31) (ht : t < 32) : EvP M_X8_isSo [.int (nI w), .int (nI t)] σ (.int (nI (bitN w t))) := by
  refine Ev.of (ls := [_, _]) 0 (by decide) rfl rfl ?_
  refine R_iload_n a_X8_isSo_0 rfl ?_
  refine R_iload_n a_X8_isSo_1 rfl ?_
  first | with_reducible refine R_ishr_n a_X8_isSo_2 (by omega) (by omega) ?_ | refine R_ishr a_X8_isSo_2 ?_
  refine R_iconst (v := nI 1) a_X8_isSo_3 rfl ?_
  first | with_reducible refine R_iand1 a_X8_isSo_4 ?_ | with_reducible refine R_iand_n a_X8_isSo_4 ?_ | refine R_iand a_X8_isSo_4 ?_
  refine R_iconst (v := nI 1) a_X8_isSo_5 rfl ?_
  first | with_reducible refine R_icmp_ne_n a_X8_isSo_6 (by omega) (by omega) (fun h6 => ?_) (fun h6 => ?_) | refine R_icmp_ne a_X8_isSo_6 (fun h6 => ?_) (fun h6 => ?_)
  · skip
    have hb : bitN w t = 0 := by unfold bitN; omega
    refine R_iconst (v := nI 0) a_X8_isSo_13 rfl ?_
    refine R_zret_n a_X8_isSo_14 rfl (by omega) ?_
    exact ⟨by rw [hb], rfl⟩
  · skip
    have hb : bitN w t = 1 := h6
    refine R_iconst (v := nI 1) a_X8_isSo_9 rfl ?_
    refine R_goto a_X8_isSo_10 ?_
    refine R_zret_n a_X8_isSo_14 rfl (by omega) ?_
    exact ⟨by rw [hb], rfl⟩

set_option maxRecDepth 20000 in
theorem ev_knows {σ : AHp} {p : Nat} {T : Tb} (h : TbP σ p T) (ok : TbOk T) {i t : Nat} (hi : i < T.g) (ht : t < T.n) : EvP M_X8_knows [.ref p, .int (nI i), .int (nI t)] σ (.int (nI (bitN (T.kn i) t))) := by
  obtain ⟨hp0, hT, hk, hh, hn, hf⟩ := h
  obtain ⟨g3, g8, n1, n6, lw, stg, son, kd4, hn10, kn63, hf4⟩ := ok
  have hki := kn63 i hi
  refine Ev.of (ls := [_, _, _]) 0 (by decide) rfl rfl ?_
  refine R_aload_n a_X8_knows_0 rfl ?_
  refine R_get a_X8_knows_1 hT rfl ?_
  refine R_iload_n a_X8_knows_4 rfl ?_
  refine R_iald_n a_X8_knows_5 hn (by omega) (by decide) ?_
  refine R_iload_n a_X8_knows_6 rfl ?_
  refine R_callSp a_X8_knows_7 (ev_isSo (σ := σ) (by omega) (by omega)) rfl rfl rfl rfl rfl ?_
  refine R_zret_n a_X8_knows_10 rfl (by unfold bitN; omega) ?_
  exact ⟨rfl, rfl⟩

set_option maxRecDepth 20000 in
theorem ev_ttally {σ : AHp} {p : Nat} {T : Tb} (h : TbP σ p T) (ok : TbOk T) {i t : Nat} (hi : i < T.g) (ht : t < T.n) : EvP M_X8_tally [.ref p, .int (nI i), .int (nI t)] σ (.int (nI (cnt T i t))) := by
  obtain ⟨hp0, hT, hk, hh, hn, hf⟩ := h
  obtain ⟨g3, g8, n1, n6, lw, stg, son, kd4, hn10, kn63, hf4⟩ := ok
  have hki := kd4 i hi
  have hft := hf4 t ht
  refine Ev.of (ls := [_, _, _]) 0 (by decide) rfl rfl ?_
  refine R_aload_n a_X8_tally_0 rfl ?_
  refine R_get a_X8_tally_1 hT rfl ?_
  refine R_iload_n a_X8_tally_4 rfl ?_
  refine R_iald_n a_X8_tally_5 hk (by omega) (by decide) ?_
  by_cases hs2 : T.kd i = 2
  · refine R_tswN (off := 26) (tgt := 32) a_X8_tally_6 (by omega) (by omega) (by omega) (by rw [hs2]; rfl) rfl ?_
    have hd2 : cnt T i t = T.hf t - 1 := by unfold cnt cntK; rw [if_pos hs2]
    refine R_aload_n a_X8_tally_32 rfl ?_
    refine R_get a_X8_tally_33 hT rfl ?_
    refine R_iload_n a_X8_tally_36 rfl ?_
    refine R_iald_n a_X8_tally_37 hf (by omega) (by decide) ?_
    refine R_iconst (v := nI 1) a_X8_tally_38 rfl ?_
    first | with_reducible refine R_isub_n a_X8_tally_39 (by omega) ?_ | refine R_isub a_X8_tally_39 ?_
    refine R_iret a_X8_tally_40 rfl ?_
    exact ⟨by rw [hd2], rfl⟩
  by_cases hs3 : T.kd i = 3
  · refine R_tswN (off := 35) (tgt := 41) a_X8_tally_6 (by omega) (by omega) (by omega) (by rw [hs3]; rfl) rfl ?_
    have hd2 : cnt T i t = 2 * T.hf t := by unfold cnt cntK; rw [if_neg hs2, if_pos hs3]
    refine R_iconst (v := nI 2) a_X8_tally_41 rfl ?_
    refine R_aload_n a_X8_tally_42 rfl ?_
    refine R_get a_X8_tally_43 hT rfl ?_
    refine R_iload_n a_X8_tally_46 rfl ?_
    refine R_iald_n a_X8_tally_47 hf (by omega) (by decide) ?_
    first | with_reducible refine R_imul_n a_X8_tally_48 ?_ | refine R_imul a_X8_tally_48 ?_
    refine R_iret a_X8_tally_49 rfl ?_
    exact ⟨by rw [hd2], rfl⟩
  by_cases hs4 : T.kd i = 4
  · refine R_tswN (off := 44) (tgt := 50) a_X8_tally_6 (by omega) (by omega) (by omega) (by rw [hs4]; rfl) rfl ?_
    refine R_aload_n a_X8_tally_50 rfl ?_
    refine R_get a_X8_tally_51 hT rfl ?_
    refine R_iload_n a_X8_tally_54 rfl ?_
    refine R_iald_n a_X8_tally_55 hf (by omega) (by decide) ?_
    refine R_iconst (v := nI 1) a_X8_tally_56 rfl ?_
    first | with_reducible refine R_icmp_ne_n a_X8_tally_57 (by omega) (by omega) (fun h57 => ?_) (fun h57 => ?_) | refine R_icmp_ne a_X8_tally_57 (fun h57 => ?_) (fun h57 => ?_)
    · skip
      have hd2 : cnt T i t = T.hf t := by unfold cnt cntK; rw [if_neg hs2, if_neg hs3, if_neg (fun q => h57 q.2)]
      refine R_aload_n a_X8_tally_64 rfl ?_
      refine R_get a_X8_tally_65 hT rfl ?_
      refine R_iload_n a_X8_tally_68 rfl ?_
      refine R_iald_n a_X8_tally_69 hf (by omega) (by decide) ?_
      refine R_iret a_X8_tally_70 rfl ?_
      exact ⟨by rw [hd2], rfl⟩
    · skip
      have hd2 : cnt T i t = 0 := by unfold cnt cntK; rw [if_neg hs2, if_neg hs3, if_pos ⟨hs4, h57⟩]
      refine R_iconst (v := nI 0) a_X8_tally_60 rfl ?_
      refine R_goto a_X8_tally_61 ?_
      refine R_iret a_X8_tally_70 rfl ?_
      exact ⟨by rw [hd2], rfl⟩
  refine R_tswM (tgt := 71) a_X8_tally_6 (by omega) (by omega) rfl ?_
  have hd2 : cnt T i t = T.hf t := by unfold cnt cntK; rw [if_neg hs2, if_neg hs3, if_neg (fun q => hs4 q.1)]
  refine R_aload_n a_X8_tally_71 rfl ?_
  refine R_get a_X8_tally_72 hT rfl ?_
  refine R_iload_n a_X8_tally_75 rfl ?_
  refine R_iald_n a_X8_tally_76 hf (by omega) (by decide) ?_
  refine R_iret a_X8_tally_77 rfl ?_
  exact ⟨by rw [hd2], rfl⟩

set_option maxRecDepth 20000 in
theorem ev_remainder {σ : AHp} {x : Int32} {g : Nat} (h0 : 0 < g) (hg : g < 2 ^ 31) : EvP M_X8_remainder [.int x, .int (nI g)] σ (.int (fmF x (nI g))) := by
  refine Ev.of (ls := [_, _]) 0 (by decide) rfl rfl ?_
  refine R_iload_n a_X8_remainder_0 rfl ?_
  first | with_reducible refine R_if_le_n a_X8_remainder_1 (by omega) (fun h1 => ?_) (fun h1 => ?_) | refine R_if_le a_X8_remainder_1 (fun h1 => ?_) (fun h1 => ?_)
  · skip
    omega
  · skip
    refine R_iload_n a_X8_remainder_4 rfl ?_
    refine R_iload_n a_X8_remainder_5 rfl ?_
    refine R_floorMod a_X8_remainder_6 ml_X8_60 (nI_ne0 (by omega) (by omega)) rfl rfl ?_
    skip
    refine R_goto a_X8_remainder_9 ?_
    refine R_iret a_X8_remainder_13 rfl ?_
    exact ⟨rfl, rfl⟩

set_option maxRecDepth 20000 in
theorem ev_upward {σ : AHp} {p : Nat} {T : Tb} (h : TbP σ p T) (ok : TbOk T) {a b : Nat} (ha : a < T.g) (hb : b < T.g) : EvP M_X8_upward [.ref p, .int (nI a), .int (nI b)] σ (.int (nI (upF T.g a b))) := by
  obtain ⟨hp0, hT, hk, hh, hn, hf⟩ := h
  obtain ⟨g3, g8, n1, n6, lw, stg, son, kd4, hn10, kn63, hf4⟩ := ok
  refine Ev.of (ls := [_, _, _]) 0 (by decide) rfl rfl ?_
  refine R_iload_n a_X8_upward_0 rfl ?_
  refine R_iload_n a_X8_upward_1 rfl ?_
  first | with_reducible refine R_icmp_lt_n a_X8_upward_2 (by omega) (by omega) (fun h2 => ?_) (fun h2 => ?_) | refine R_icmp_lt a_X8_upward_2 (fun h2 => ?_) (fun h2 => ?_)
  · skip
    refine R_iload_n a_X8_upward_11 rfl ?_
    refine R_iload_n a_X8_upward_12 rfl ?_
    refine R_isub a_X8_upward_13 ?_
    refine R_aload_n a_X8_upward_14 rfl ?_
    refine R_get a_X8_upward_15 hT rfl ?_
    refine R_iadd a_X8_upward_18 (R_top (y := nI (b + T.g - a)) ?_ ?_)
    · rw [← pk_sub (show a ≤ b + T.g by omega), ← nI_add, Int32.sub_eq_add_neg, Int32.sub_eq_add_neg, Int32.add_assoc, Int32.add_comm (-nI a), ← Int32.add_assoc]
    refine R_iret a_X8_upward_19 rfl ?_
    exact ⟨by rw [upF_eq ha hb]; first | rw [if_neg (by omega)] | rw [if_pos (by omega)], rfl⟩
  · skip
    refine R_iload_n a_X8_upward_5 rfl ?_
    refine R_iload_n a_X8_upward_6 rfl ?_
    first | with_reducible refine R_isub_n a_X8_upward_7 (by omega) ?_ | refine R_isub a_X8_upward_7 ?_
    refine R_goto a_X8_upward_8 ?_
    refine R_iret a_X8_upward_19 rfl ?_
    exact ⟨by rw [upF_eq ha hb]; first | rw [if_neg (by omega)] | rw [if_pos (by omega)], rfl⟩

set_option maxRecDepth 20000 in
theorem ev_apart {σ : AHp} {p : Nat} {T : Tb} (h : TbP σ p T) (ok : TbOk T) {a b : Nat} (ha : a < T.g) (hb : b < T.g) : EvP M_X8_apart [.ref p, .int (nI a), .int (nI b)] σ (.int (nI (farF T.g a b))) := by
  obtain ⟨hp0, hT, hk, hh, hn, hf⟩ := h
  obtain ⟨g3, g8, n1, n6, lw, stg, son, kd4, hn10, kn63, hf4⟩ := ok
  refine Ev.of (ls := [_, _, _, _]) 1 (by decide) rfl rfl ?_
  refine R_iload_n a_X8_apart_0 rfl ?_
  refine R_iload_n a_X8_apart_1 rfl ?_
  refine R_isub a_X8_apart_2 ?_
  refine R_abs a_X8_apart_3 ml_X8_66 rfl rfl ?_
  refine R_top (abs_nn b (by omega) a (by omega)) ?_
  have hlt : (if a ≤ b then b - a else a - b) < T.g := by split <;> omega
  refine R_istore_n (ls' := [_, _, _, _]) a_X8_apart_6 rfl rfl rfl ?_
  refine R_iload_n a_X8_apart_7 rfl ?_
  refine R_aload_n a_X8_apart_8 rfl ?_
  refine R_get a_X8_apart_9 hT rfl ?_
  refine R_iload_n a_X8_apart_12 rfl ?_
  first | with_reducible refine R_isub_n a_X8_apart_13 (by omega) ?_ | refine R_isub a_X8_apart_13 ?_
  refine R_min a_X8_apart_14 ml_X8_70 rfl rfl ?_
  refine R_top (min_nn (by omega) (by omega)) ?_
  refine R_iret a_X8_apart_17 rfl ?_
  exact ⟨by rw [farF_eq ha hb], rfl⟩

set_option maxRecDepth 20000 in
theorem ev_shorterWay {σ : AHp} {p : Nat} {T : Tb} (h : TbP σ p T) (ok : TbOk T) {a b : Nat} (ha : a < T.g) (hb : b < T.g) : EvP M_X8_shorterWay [.ref p, .int (nI a), .int (nI b)] σ (.int (wayF T.g a b)) := by
  obtain ⟨hp0, hT, hk, hh, hn, hf⟩ := h
  obtain ⟨g3, g8, n1, n6, lw, stg, son, kd4, hn10, kn63, hf4⟩ := ok
  have hul := upF_lt (g := T.g) (a := a) (b := b) (by omega)
  have hTP : TbP σ p T := ⟨hp0, hT, hk, hh, hn, hf⟩
  have hok : TbOk T := ⟨g3, g8, n1, n6, lw, stg, son, kd4, hn10, kn63, hf4⟩
  refine Ev.of (ls := [_, _, _]) 0 (by decide) rfl rfl ?_
  refine R_iconst (v := nI 2) a_X8_shorterWay_0 rfl ?_
  refine R_aload_n a_X8_shorterWay_1 rfl ?_
  refine R_iload_n a_X8_shorterWay_2 rfl ?_
  refine R_iload_n a_X8_shorterWay_3 rfl ?_
  refine R_callVp a_X8_shorterWay_4 hT (ev_upward hTP hok ha hb) rfl rfl rfl rfl rfl ?_
  first | with_reducible refine R_imul_n a_X8_shorterWay_7 ?_ | refine R_imul a_X8_shorterWay_7 ?_
  refine R_aload_n a_X8_shorterWay_8 rfl ?_
  refine R_get a_X8_shorterWay_9 hT rfl ?_
  first | with_reducible refine R_icmp_gt_n a_X8_shorterWay_12 (by omega) (by omega) (fun h12 => ?_) (fun h12 => ?_) | refine R_icmp_gt a_X8_shorterWay_12 (fun h12 => ?_) (fun h12 => ?_)
  · skip
    refine R_iconst (v := (-1)) a_X8_shorterWay_19 rfl ?_
    refine R_iret a_X8_shorterWay_20 rfl ?_
    exact ⟨by unfold wayF; first | rw [if_neg (by omega)] | rw [if_pos (by omega)], rfl⟩
  · skip
    refine R_iconst (v := nI 1) a_X8_shorterWay_15 rfl ?_
    refine R_goto a_X8_shorterWay_16 ?_
    refine R_iret a_X8_shorterWay_20 rfl ?_
    exact ⟨by unfold wayF; first | rw [if_neg (by omega)] | rw [if_pos (by omega)], rfl⟩

