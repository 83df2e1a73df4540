/-! ===== Evening.play, takeBack ===== -/
/-- who lied, as bits -/
def liK (R : Rs) (w : Nat) : Nat → Nat
  | 0 => 0
  | k + 1 => if untr (cd R k) w = true then liK R w k ||| 2 ^ k else liK R w k
theorem liK_lt (R : Rs) (w : Nat) : ∀ k, k ≤ 2 → liK R w k < 4 := by
  intro k hk
  rcases (show k = 0 ∨ k = 1 ∨ k = 2 by omega) with rfl | rfl | rfl
  · exact (by decide : 0 < 4)
  · simp only [liK]; split <;> decide
  · simp only [liK]; split <;> split <;> decide
theorem liK_bit (R : Rs) (w : Nat) : ∀ n, n ≤ 2 → ∀ k, k < n → bitN (liK R w n) k = b2n (untr (cd R k) w) := by
  intro n hn k hk
  rcases (show n = 1 ∨ n = 2 by omega) with rfl | rfl
  · obtain rfl : k = 0 := by omega
    simp only [liK]
    cases untr (cd R 0) w <;> rfl
  · rcases (show k = 0 ∨ k = 1 by omega) with rfl | rfl
    · simp only [liK]
      cases untr (cd R 0) w <;> cases untr (cd R 1) w <;> rfl
    · simp only [liK]
      cases untr (cd R 0) w <;> cases untr (cd R 1) w <;> rfl
abbrev rdO (r sp fr to tb li : Nat) : ACell := oB 6 [.ref (r + 1), .ref (r + 2), .ref (r + 3), .int (nI sp), .int (nI fr), .int (nI to), .int (nI tb), .int (nI li)]
/-- what a round is, once it was played -/
def rdAft (R : Rs) (a b tr li : Nat) : Rs := (R.sp, R.w, R.tp, R.sd, a, b, tr, li)
theorem cd_aft (R : Rs) (a b tr li k : Nat) : cd (rdAft R a b tr li) k = cd R k := rfl
theorem RdOk.aft {T : Tb} {R : Rs} (h : RdOk T R) (a b tr li : Nat) : RdOk T (rdAft R a b tr li) := h
/-- the evening behind a round played -/
def vPlay (V : Vs) (R' : Rs) (m : Nat) : Vs := (R'.to, V.ro + 1, cuK R' V.un R'.sp, V.tr ||| 2 ^ R'.to, min (V.ud + 1) 8, clK R' V.ld R'.sp, fun k => if k = m then R' else V.rf k)
set_option maxRecDepth 20000 in
theorem lp_play2 {σ0 : AHp} {e r m : Nat} {V : Vs} (he0 : e ≠ 0) (hm : m < 18) (hre : r = e + 3 + 4 * m) (hrd : ∀ k, k < 18 → RdP σ0 (e + 3 + 4 * k) (V.rf k)) (hg0 : σ0 (e + 2) = some (rA 2 18 (ringF e))) (hro : V.ro < 2 ^ 30) (hun : V.un < 2 ^ 30) (hud : V.ud ≤ 8) {R' : Rs} {x3 : Option Value} {p : Nat} (hto : R'.to < 8) (hsp : R'.sp ≤ 2) (hw8 : ∀ k, k < R'.sp → R'.w k < 8) (hli : R'.li < 4) {σ : AHp} (hE : σ e = some (evO e V.sa V.ro V.un V.tr V.ud)) (hl : σ (e + 1) = some (iA 0 8 (nF V.ld))) (hRP : RdP σ r R') (hfr : ∀ j, j ≠ e ∧ j ≠ e + 1 ∧ (j < r ∨ r + 4 ≤ j) → σ j = σ0 j) : Run M_X0_play 87 [some (.ref e), some (.ref p), some (.ref r), x3] [] σ 0 0 (fun r' σ => r' = some (.int (nI R'.to)) ∧ EvR σ e (vPlay V R' m) ∧ Fr σ0 σ e 75) := by
  obtain ⟨hr0, hR, hw, ht, hs⟩ := id hRP
  refine R_aload_n a_X0_play_87 rfl ?_
  refine R_aload_n a_X0_play_88 rfl ?_
  refine R_iconst (v := nI 1) a_X0_play_89 rfl ?_
  refine R_callVv a_X0_play_90 hE (ev_countP he0 hE hl hRP (by omega) hsp hw8 hli) rfl rfl rfl rfl rfl (fun σ hP => ?_)
  obtain ⟨hE, hl, hfo⟩ := hP
  have hR := (hfo _ (by omega)).trans hR
  have hw := (hfo _ (by omega)).trans hw
  have ht := (hfo _ (by omega)).trans ht
  have hs := (hfo _ (by omega)).trans hs
  have hfr : ∀ j, j ≠ e ∧ j ≠ e + 1 ∧ (j < r ∨ r + 4 ≤ j) → σ j = σ0 j := fun j hj => (hfo j (by omega)).trans (hfr j hj)
  refine R_aload_n a_X0_play_93 rfl ?_
  refine R_aload_n a_X0_play_94 rfl ?_
  refine R_get a_X0_play_95 hR rfl ?_
  refine R_putiK (fs' := [_, _, _, _, _, _, _]) a_X0_play_98 hE rfl rfl (fun σ hE ho => ?_)
  have hl := (ho _ (by omega)).trans hl
  have hR := (ho _ (by omega)).trans hR
  have hw := (ho _ (by omega)).trans hw
  have ht := (ho _ (by omega)).trans ht
  have hs := (ho _ (by omega)).trans hs
  have hfr : ∀ j, j ≠ e ∧ j ≠ e + 1 ∧ (j < r ∨ r + 4 ≤ j) → σ j = σ0 j := fun j hj => (ho j (by omega)).trans (hfr j hj)
  refine R_aload_n a_X0_play_101 rfl ?_
  refine R_dup a_X0_play_102 rfl ?_
  refine R_get a_X0_play_103 hE rfl ?_
  refine R_iconst (v := nI 1) a_X0_play_106 rfl ?_
  refine R_aload_n a_X0_play_107 rfl ?_
  refine R_get a_X0_play_108 hE rfl ?_
  first | with_reducible refine R_ishl1 a_X0_play_111 (by omega) ?_ | with_reducible refine R_ishl_n a_X0_play_111 (by omega) (by omega) ?_ | refine R_ishl a_X0_play_111 ?_
  first | with_reducible refine R_ior_n a_X0_play_112 ?_ | refine R_ior a_X0_play_112 ?_
  refine R_putiK (fs' := [_, _, _, _, _, _, _]) a_X0_play_113 hE rfl rfl (fun σ hE ho => ?_)
  have hl := (ho _ (by omega)).trans hl
  have hR := (ho _ (by omega)).trans hR
  have hw := (ho _ (by omega)).trans hw
  have ht := (ho _ (by omega)).trans ht
  have hs := (ho _ (by omega)).trans hs
  have hfr : ∀ j, j ≠ e ∧ j ≠ e + 1 ∧ (j < r ∨ r + 4 ≤ j) → σ j = σ0 j := fun j hj => (ho j (by omega)).trans (hfr j hj)
  refine R_aload_n a_X0_play_116 rfl ?_
  refine R_dup a_X0_play_117 rfl ?_
  refine R_get a_X0_play_118 hE rfl ?_
  refine R_iconst (v := nI 1) a_X0_play_121 rfl ?_
  first | with_reducible refine R_iadd_n a_X0_play_122 ?_ | refine R_iadd a_X0_play_122 ?_
  refine R_putiK (fs' := [_, _, _, _, _, _, _]) a_X0_play_123 hE rfl rfl (fun σ hE ho => ?_)
  have hl := (ho _ (by omega)).trans hl
  have hR := (ho _ (by omega)).trans hR
  have hw := (ho _ (by omega)).trans hw
  have ht := (ho _ (by omega)).trans ht
  have hs := (ho _ (by omega)).trans hs
  have hfr : ∀ j, j ≠ e ∧ j ≠ e + 1 ∧ (j < r ∨ r + 4 ≤ j) → σ j = σ0 j := fun j hj => (ho j (by omega)).trans (hfr j hj)
  refine R_aload_n a_X0_play_126 rfl ?_
  refine R_aload_n a_X0_play_127 rfl ?_
  refine R_get a_X0_play_128 hE rfl ?_
  refine R_iconst (v := nI 1) a_X0_play_131 rfl ?_
  first | with_reducible refine R_iadd_n a_X0_play_132 ?_ | refine R_iadd a_X0_play_132 ?_
  refine R_bipush (v := nI 8) a_X0_play_133 rfl ?_
  refine R_min a_X0_play_135 ml_X0_47 rfl rfl ?_
  refine R_top (min_nn (by omega) (by omega)) ?_
  refine R_putiK (fs' := [_, _, _, _, _, _, _]) a_X0_play_138 hE rfl rfl (fun σ hE ho => ?_)
  have hl := (ho _ (by omega)).trans hl
  have hR := (ho _ (by omega)).trans hR
  have hw := (ho _ (by omega)).trans hw
  have ht := (ho _ (by omega)).trans ht
  have hs := (ho _ (by omega)).trans hs
  have hfr : ∀ j, j ≠ e ∧ j ≠ e + 1 ∧ (j < r ∨ r + 4 ≤ j) → σ j = σ0 j := fun j hj => (ho j (by omega)).trans (hfr j hj)
  refine R_aload_n a_X0_play_141 rfl ?_
  refine R_get a_X0_play_142 hE rfl ?_
  refine R_iret a_X0_play_145 rfl ?_
  refine ⟨rfl, ⟨he0, hE, hl, (hfr _ (by omega)).trans hg0, fun k hk => ?_⟩, fun j hj => hfr j (by omega)⟩
  by_cases hkm : k = m
  · subst hkm
    rw [← hre]
    show RdP σ r (if k = k then R' else V.rf k)
    rw [if_pos rfl]
    exact ⟨hr0, hR, hw, ht, hs⟩
  · show RdP σ (e + 3 + 4 * k) (if k = m then R' else V.rf k)
    rw [if_neg hkm]
    exact (hrd k hk).kept (fun j h1 h2 => hfr j (by omega))

set_option maxRecDepth 20000 in
theorem lp_play1 {σ0 : AHp} {e r m : Nat} {V : Vs} (he0 : e ≠ 0) (hm : m < 18) (hre : r = e + 3 + 4 * m) (hrd : ∀ k, k < 18 → RdP σ0 (e + 3 + 4 * k) (V.rf k)) (hg0 : σ0 (e + 2) = some (rA 2 18 (ringF e))) (hro : V.ro < 2 ^ 30) (hun : V.un < 2 ^ 30) (hud : V.ud ≤ 8) {R : Rs} {T : Tb} {p b : Nat} (ok : TbOk T) (hr : RdOk T R) (hb : b < 8) (hd : p + 5 ≤ e ∨ e + 75 ≤ p) (hT0 : TbP σ0 p T) : ∀ (n k : Nat) (σ : AHp), R.sp - k = n → k ≤ R.sp → σ e = some (evO e V.sa V.ro V.un V.tr V.ud) → σ (e + 1) = some (iA 0 8 (nF V.ld)) → RdP σ r (rdAft R V.sa b V.tr (liK R T.so k)) → (∀ j, j ≠ e ∧ j ≠ e + 1 ∧ (j < r ∨ r + 4 ≤ j) → σ j = σ0 j) → Run M_X0_play 49 [some (.ref e), some (.ref p), some (.ref r), some (.int (nI k))] [] σ 0 0 (fun r' σ => r' = some (.int (nI b)) ∧ EvR σ e (vPlay V (rdAft R V.sa b V.tr (liK R T.so R.sp)) m) ∧ Fr σ0 σ e 75) := by
  intro n
  induction n using Nat.strongRecOn
  rename_i n ih
  intro k σ hmm hk hE hl hRP hfr
  have hTP : TbP σ p T := hT0.kept (fun j h1 h2 => hfr j (by omega))
  obtain ⟨hp0, hT, -⟩ := id hTP
  obtain ⟨hr0, hR, hw, ht, hs⟩ := id hRP
  have hR : σ r = some (rdO r R.sp V.sa b V.tr (liK R T.so k)) := hR
  obtain ⟨g3, g8, n1, n6, lw, stg, son, -⟩ := id ok
  have hso : T.so < 2 ^ 31 := Nat.lt_of_lt_of_le son (Nat.pow_le_pow_right (by decide) (by omega))
  have hsp := hr.1
  have hlk := liK_lt R T.so k (by omega)
  have hb1 := b2n_le (untr (cd R k) T.so)
  refine R_iload_n a_X0_play_49 rfl ?_
  refine R_aload_n a_X0_play_50 rfl ?_
  refine R_get a_X0_play_51 hR rfl ?_
  first | with_reducible refine R_icmp_ge_n a_X0_play_54 (by omega) (by omega) (fun h54 => ?_) (fun h54 => ?_) | refine R_icmp_ge a_X0_play_54 (fun h54 => ?_) (fun h54 => ?_)
  · skip
    have hke : k = R.sp := by omega
    subst hke
    exact lp_play2 he0 hm hre hrd hg0 hro hun hud (R' := rdAft R V.sa b V.tr (liK R T.so R.sp)) hb hsp (fun k hk => Nat.lt_of_lt_of_le (hr.2 k hk).1 g8) (liK_lt R T.so R.sp hsp) hE hl ⟨hr0, hR, hw, ht, hs⟩ hfr
  · skip
    refine R_aload_n a_X0_play_57 rfl ?_
    refine R_iload_n a_X0_play_58 rfl ?_
    refine R_aload_n a_X0_play_59 rfl ?_
    refine R_get a_X0_play_60 hT rfl ?_
    refine R_callVp a_X0_play_63 hR (show EvP M_X6_isUntruth [.ref r, .int (nI k), .int (nI T.so)] σ (.int (nI (b2n (untr (cd R k) T.so)))) from ev_isUntruth hRP ok (hr.aft _ _ _ _) (by omega) hso) rfl rfl rfl rfl rfl ?_
    first | with_reducible refine R_if_eq_n a_X0_play_66 (by omega) (fun h66 => ?_) (fun h66 => ?_) | refine R_if_eq a_X0_play_66 (fun h66 => ?_) (fun h66 => ?_)
    · skip
      have hnx : liK R T.so (k + 1) = liK R T.so k := by
        rw [liK]
        refine if_neg (fun q => ?_)
        rw [q] at h66; cases h66
      first | with_reducible refine R_iinc_n (ls' := [_, _, _, _]) a_X0_play_81 rfl rfl rfl rfl ?_ | refine R_iinc (ls' := [_, _, _, _]) a_X0_play_81 rfl rfl rfl rfl rfl ?_
      refine R_goto a_X0_play_84 ?_
      refine ih _ (show R.sp - (k + 1) < n by omega) (k + 1) σ rfl (by omega) hE hl ?_ hfr
      rw [hnx]
      exact ⟨hr0, hR, hw, ht, hs⟩
    · skip
      have hnx : liK R T.so (k + 1) = liK R T.so k ||| 2 ^ k := by
        rw [liK]
        refine if_pos ?_
        cases hq : untr (cd R k) T.so with
        | true => rfl
        | false => rw [hq] at h66; exact absurd rfl h66
      refine R_aload_n a_X0_play_69 rfl ?_
      refine R_dup a_X0_play_70 rfl ?_
      refine R_get a_X0_play_71 hR rfl ?_
      refine R_iconst (v := nI 1) a_X0_play_74 rfl ?_
      refine R_iload_n a_X0_play_75 rfl ?_
      first | with_reducible refine R_ishl1 a_X0_play_76 (by omega) ?_ | with_reducible refine R_ishl_n a_X0_play_76 (by omega) (by omega) ?_ | refine R_ishl a_X0_play_76 ?_
      first | with_reducible refine R_ior_n a_X0_play_77 ?_ | refine R_ior a_X0_play_77 ?_
      refine R_putiK (fs' := [_, _, _, _, _, _, _, _]) a_X0_play_78 hR rfl rfl (fun σ hR ho => ?_)
      have hE := (ho _ (by omega)).trans hE
      have hl := (ho _ (by omega)).trans hl
      have hw := (ho _ (by omega)).trans hw
      have ht := (ho _ (by omega)).trans ht
      have hs := (ho _ (by omega)).trans hs
      have hT := (ho _ (by omega)).trans hT
      have hfr : ∀ j, j ≠ e ∧ j ≠ e + 1 ∧ (j < r ∨ r + 4 ≤ j) → σ j = σ0 j := fun j hj => (ho j (by omega)).trans (hfr j hj)
      first | with_reducible refine R_iinc_n (ls' := [_, _, _, _]) a_X0_play_81 rfl rfl rfl rfl ?_ | refine R_iinc (ls' := [_, _, _, _]) a_X0_play_81 rfl rfl rfl rfl rfl ?_
      refine R_goto a_X0_play_84 ?_
      refine ih _ (show R.sp - (k + 1) < n by omega) (k + 1) σ rfl (by omega) hE hl ?_ hfr
      rw [hnx]
      exact ⟨hr0, hR, hw, ht, hs⟩

theorem stepF_lt {g a b n : Nat} (hg : 0 < g) : stepF g a b n < g := by
  unfold stepF
  split <;> exact Nat.mod_lt _ hg
theorem hushF_lt {T : Tb} {a : Nat} {P : Nat → Bool} (hg : 0 < T.g) (ha : a < T.g) : hushF T a P < T.g := by
  unfold hushF
  split
  · exact ha
  · split
    · exact ha
    · exact stepF_lt hg
theorem drawF_lt {g a i c law : Nat} (hg : 0 < g) (ha : a < g) : drawF g a i c law < g := by
  unfold drawF
  split
  · exact ha
  · split
    · exact Nat.mod_lt _ hg
    · exact stepF_lt hg
theorem comesF_lt {T : Tb} {a c d w law : Nat} (hg : 0 < T.g) (ha : a < T.g) : comesF T a c d w law < T.g := by
  unfold comesF
  split
  · exact hushF_lt hg ha
  · split
    · exact ha
    · split <;> exact drawF_lt hg ha
set_option maxRecDepth 20000 in
theorem ev_play {σ0 : AHp} {e p : Nat} {V : Vs} {T : Tb} (h : EvR σ0 e V) (hT0 : TbP σ0 p T) (ok : TbOk T) (hr : RdOk T (V.rf (V.ro % 18))) (hsa : V.sa < T.g) (hro : V.ro < 2 ^ 30) (hun : V.un < 2 ^ 30) (hud : V.ud ≤ 8) (hd : p + 5 ≤ e ∨ e + 75 ≤ p) : EvW M_X0_play [.ref e, .ref p] σ0 (some (.int (nI (comesF T V.sa (cd (V.rf (V.ro % 18)) 0) (cd (V.rf (V.ro % 18)) 1) T.so T.law)))) (fun σ => EvR σ e (vPlay V (rdAft (V.rf (V.ro % 18)) V.sa (comesF T V.sa (cd (V.rf (V.ro % 18)) 0) (cd (V.rf (V.ro % 18)) 1) T.so T.law) V.tr (liK (V.rf (V.ro % 18)) T.so (V.rf (V.ro % 18)).sp)) (V.ro % 18)) ∧ Fr σ0 σ e 75) := by
  have hEv := h
  obtain ⟨he0, hE, hl, hg, hrd⟩ := h
  have hm : V.ro % 18 < 18 := Nat.mod_lt _ (by decide)
  have hRP := hrd _ hm
  generalize hmm : V.ro % 18 = m at hm hRP hr ⊢
  generalize hre : e + 3 + 4 * m = r at hRP
  generalize hRR : V.rf m = R at hRP hr ⊢
  obtain ⟨hp0, hT, -⟩ := id hT0
  obtain ⟨hr0, hR, hw, ht, hs⟩ := id hRP
  obtain ⟨g3, g8, n1, n6, lw, stg, son, -⟩ := id ok
  have hso : T.so < 2 ^ 31 := Nat.lt_of_lt_of_le son (Nat.pow_le_pow_right (by decide) (by omega))
  have hb := comesF_lt (T := T) (a := V.sa) (c := cd R 0) (d := cd R 1) (w := T.so) (law := T.law) (by omega) hsa
  have hfr : ∀ j, j ≠ e ∧ j ≠ e + 1 ∧ (j < r ∨ r + 4 ≤ j) → σ0 j = σ0 j := fun _ _ => rfl
  refine Ev.of (ls := [_, _, _, _]) 2 (by decide) rfl rfl ?_
  refine R_aload_n a_X0_play_0 rfl ?_
  refine R_callVp a_X0_play_1 hE (show EvP M_X0_upcoming [.ref e] σ0 (.ref r) from by have := ev_upcoming hEv hro; rw [hmm, hre] at this; exact this) rfl rfl rfl rfl rfl ?_
  refine R_astore_n (ls' := [_, _, _, _]) a_X0_play_4 rfl rfl rfl ?_
  refine R_aload_n a_X0_play_5 rfl ?_
  refine R_aload_n a_X0_play_6 rfl ?_
  refine R_get a_X0_play_7 hE rfl ?_
  refine R_putiK (fs' := [_, _, _, _, _, _, _, _]) a_X0_play_10 hR rfl rfl (fun σ hR ho => ?_)
  have hE := (ho _ (by omega)).trans hE
  have hl := (ho _ (by omega)).trans hl
  have hw := (ho _ (by omega)).trans hw
  have ht := (ho _ (by omega)).trans ht
  have hs := (ho _ (by omega)).trans hs
  have hT := (ho _ (by omega)).trans hT
  have hfr : ∀ j, j ≠ e ∧ j ≠ e + 1 ∧ (j < r ∨ r + 4 ≤ j) → σ j = σ0 j := fun j hj => (ho j (by omega)).trans (hfr j hj)
  refine R_aload_n a_X0_play_13 rfl ?_
  refine R_aload_n a_X0_play_14 rfl ?_
  refine R_aload_n a_X0_play_15 rfl ?_
  refine R_get a_X0_play_16 hT rfl ?_
  refine R_aload_n a_X0_play_19 rfl ?_
  refine R_get a_X0_play_20 hT rfl ?_
  refine R_aload_n a_X0_play_23 rfl ?_
  refine R_get a_X0_play_24 hE rfl ?_
  refine R_aload_n a_X0_play_27 rfl ?_
  refine R_callVp a_X0_play_28 hT (show EvP M_X8_landing [.ref p, .int (nI T.law), .int (nI T.so), .int (nI V.sa), .ref r] σ (.int (nI (comesF T V.sa (cd R 0) (cd R 1) T.so T.law))) from ev_landing (hT0.kept (fun j h1 h2 => hfr j (by omega))) ok (R := (R.sp, R.w, R.tp, R.sd, V.sa, R.to, R.tb, R.li)) ⟨hr0, hR, hw, ht, hs⟩ hr hsa hso lw) rfl rfl rfl rfl rfl ?_
  refine R_putiK (fs' := [_, _, _, _, _, _, _, _]) a_X0_play_31 hR rfl rfl (fun σ hR ho => ?_)
  have hE := (ho _ (by omega)).trans hE
  have hl := (ho _ (by omega)).trans hl
  have hw := (ho _ (by omega)).trans hw
  have ht := (ho _ (by omega)).trans ht
  have hs := (ho _ (by omega)).trans hs
  have hT := (ho _ (by omega)).trans hT
  have hfr : ∀ j, j ≠ e ∧ j ≠ e + 1 ∧ (j < r ∨ r + 4 ≤ j) → σ j = σ0 j := fun j hj => (ho j (by omega)).trans (hfr j hj)
  refine R_aload_n a_X0_play_34 rfl ?_
  refine R_aload_n a_X0_play_35 rfl ?_
  refine R_get a_X0_play_36 hE rfl ?_
  refine R_putiK (fs' := [_, _, _, _, _, _, _, _]) a_X0_play_39 hR rfl rfl (fun σ hR ho => ?_)
  have hE := (ho _ (by omega)).trans hE
  have hl := (ho _ (by omega)).trans hl
  have hw := (ho _ (by omega)).trans hw
  have ht := (ho _ (by omega)).trans ht
  have hs := (ho _ (by omega)).trans hs
  have hT := (ho _ (by omega)).trans hT
  have hfr : ∀ j, j ≠ e ∧ j ≠ e + 1 ∧ (j < r ∨ r + 4 ≤ j) → σ j = σ0 j := fun j hj => (ho j (by omega)).trans (hfr j hj)
  refine R_aload_n a_X0_play_42 rfl ?_
  refine R_iconst (v := nI 0) a_X0_play_43 rfl ?_
  refine R_putiK (fs' := [_, _, _, _, _, _, _, _]) a_X0_play_44 hR rfl rfl (fun σ hR ho => ?_)
  have hE := (ho _ (by omega)).trans hE
  have hl := (ho _ (by omega)).trans hl
  have hw := (ho _ (by omega)).trans hw
  have ht := (ho _ (by omega)).trans ht
  have hs := (ho _ (by omega)).trans hs
  have hT := (ho _ (by omega)).trans hT
  have hfr : ∀ j, j ≠ e ∧ j ≠ e + 1 ∧ (j < r ∨ r + 4 ≤ j) → σ j = σ0 j := fun j hj => (ho j (by omega)).trans (hfr j hj)
  refine R_iconst (v := nI 0) a_X0_play_47 rfl ?_
  refine R_istore_n (ls' := [_, _, _, _]) a_X0_play_48 rfl rfl rfl ?_
  exact lp_play1 he0 hm hre.symm hrd hg hro hun hud ok hr (by omega) hd hT0 _ 0 σ rfl (by omega) hE hl ⟨hr0, hR, hw, ht, hs⟩ hfr

/-- the evening with its latest round taken back -/
def vBack (V : Vs) (R : Rs) : Vs := (R.fr, V.ro - 1, duK R V.un R.sp, R.tb, V.ud - 1, dlK R V.ld R.sp, V.rf)
set_option maxRecDepth 20000 in
theorem ev_takeBack {σ0 : AHp} {e : Nat} {V : Vs} (h : EvR σ0 e V) (hro1 : 1 ≤ V.ro) (hro : V.ro < 2 ^ 30) (hud1 : 1 ≤ V.ud) (hsp : (V.rf ((V.ro - 1) % 18)).sp ≤ 2) (hw8 : ∀ k, k < (V.rf ((V.ro - 1) % 18)).sp → (V.rf ((V.ro - 1) % 18)).w k < 8) (hli : (V.rf ((V.ro - 1) % 18)).li < 4) (hge : ∀ k, k < (V.rf ((V.ro - 1) % 18)).sp → bitN (V.rf ((V.ro - 1) % 18)).li k = 1 → 1 ≤ dlK (V.rf ((V.ro - 1) % 18)) V.ld k ((V.rf ((V.ro - 1) % 18)).w k) ∧ 1 ≤ duK (V.rf ((V.ro - 1) % 18)) V.un k) : EvW M_X0_takeBack [.ref e] σ0 none (fun σ => EvR σ e (vBack V (V.rf ((V.ro - 1) % 18))) ∧ Fr σ0 σ e 75) := by
  obtain ⟨he0, hE, hl, hg, hrd⟩ := h
  have hm : (V.ro - 1) % 18 < 18 := Nat.mod_lt _ (by decide)
  have hRP := hrd _ hm
  generalize hmm : (V.ro - 1) % 18 = m at hm hRP hsp hw8 hli hge ⊢
  generalize hre : e + 3 + 4 * m = r at hRP
  generalize hRR : V.rf m = R at hRP hsp hw8 hli hge ⊢
  obtain ⟨hr0, hR, hw, ht, hs⟩ := id hRP
  have hfr : ∀ j, j ≠ e ∧ j ≠ e + 1 → σ0 j = σ0 j := fun _ _ => rfl
  refine Ev.of (ls := [_, _]) 1 (by decide) rfl rfl ?_
  refine R_aload_n a_X0_takeBack_0 rfl ?_
  refine R_dup a_X0_takeBack_1 rfl ?_
  refine R_get a_X0_takeBack_2 hE rfl ?_
  refine R_iconst (v := nI 1) a_X0_takeBack_5 rfl ?_
  first | with_reducible refine R_isub_n a_X0_takeBack_6 (by omega) ?_ | refine R_isub a_X0_takeBack_6 ?_
  refine R_putiK (fs' := [_, _, _, _, _, _, _]) a_X0_takeBack_7 hE rfl rfl (fun σ hE ho => ?_)
  have hl := (ho _ (by omega)).trans hl
  have hg := (ho _ (by omega)).trans hg
  have hR := (ho _ (by omega)).trans hR
  have hw := (ho _ (by omega)).trans hw
  have ht := (ho _ (by omega)).trans ht
  have hs := (ho _ (by omega)).trans hs
  have hfr : ∀ j, j ≠ e ∧ j ≠ e + 1 → σ j = σ0 j := fun j hj => (ho j (by omega)).trans (hfr j hj)
  refine R_aload_n a_X0_takeBack_10 rfl ?_
  refine R_dup a_X0_takeBack_11 rfl ?_
  refine R_get a_X0_takeBack_12 hE rfl ?_
  refine R_iconst (v := nI 1) a_X0_takeBack_15 rfl ?_
  first | with_reducible refine R_isub_n a_X0_takeBack_16 (by omega) ?_ | refine R_isub a_X0_takeBack_16 ?_
  refine R_putiK (fs' := [_, _, _, _, _, _, _]) a_X0_takeBack_17 hE rfl rfl (fun σ hE ho => ?_)
  have hl := (ho _ (by omega)).trans hl
  have hg := (ho _ (by omega)).trans hg
  have hR := (ho _ (by omega)).trans hR
  have hw := (ho _ (by omega)).trans hw
  have ht := (ho _ (by omega)).trans ht
  have hs := (ho _ (by omega)).trans hs
  have hfr : ∀ j, j ≠ e ∧ j ≠ e + 1 → σ j = σ0 j := fun j hj => (ho j (by omega)).trans (hfr j hj)
  refine R_aload_n a_X0_takeBack_20 rfl ?_
  refine R_callVp a_X0_takeBack_21 hE (show EvP M_X0_upcoming [.ref e] σ (.ref r) from by have this : EvP M_X0_upcoming [.ref e] σ (.ref (e + 3 + 4 * ((V.ro - 1) % 18))) := ev_upcoming (σ := σ) (e := e) (V := (V.sa, V.ro - 1, V.un, V.tr, V.ud - 1, V.ld, V.rf)) ⟨he0, hE, hl, hg, fun k hk => (hrd k hk).kept (fun j h1 h2 => hfr j (by omega))⟩ (show V.ro - 1 < 2 ^ 30 by omega); rw [hmm, hre] at this; exact this) rfl rfl rfl rfl rfl ?_
  refine R_astore_n (ls' := [_, _]) a_X0_takeBack_24 rfl rfl rfl ?_
  refine R_aload_n a_X0_takeBack_25 rfl ?_
  refine R_aload_n a_X0_takeBack_26 rfl ?_
  refine R_iconst (v := (-1)) a_X0_takeBack_27 rfl ?_
  refine R_callVv a_X0_takeBack_28 hE (ev_countM he0 hE hl (R := R) ⟨hr0, hR, hw, ht, hs⟩ (by omega) hsp hw8 hli hge) rfl rfl rfl rfl rfl (fun σ hP => ?_)
  obtain ⟨hE, hl, hfo⟩ := hP
  have hR := (hfo _ (by omega)).trans hR
  have hw := (hfo _ (by omega)).trans hw
  have ht := (hfo _ (by omega)).trans ht
  have hs := (hfo _ (by omega)).trans hs
  have hg := (hfo _ (by omega)).trans hg
  have hfr : ∀ j, j ≠ e ∧ j ≠ e + 1 → σ j = σ0 j := fun j hj => (hfo j (by omega)).trans (hfr j hj)
  refine R_aload_n a_X0_takeBack_31 rfl ?_
  refine R_aload_n a_X0_takeBack_32 rfl ?_
  refine R_get a_X0_takeBack_33 hR rfl ?_
  refine R_putiK (fs' := [_, _, _, _, _, _, _]) a_X0_takeBack_36 hE rfl rfl (fun σ hE ho => ?_)
  have hl := (ho _ (by omega)).trans hl
  have hg := (ho _ (by omega)).trans hg
  have hR := (ho _ (by omega)).trans hR
  have hw := (ho _ (by omega)).trans hw
  have ht := (ho _ (by omega)).trans ht
  have hs := (ho _ (by omega)).trans hs
  have hfr : ∀ j, j ≠ e ∧ j ≠ e + 1 → σ j = σ0 j := fun j hj => (ho j (by omega)).trans (hfr j hj)
  refine R_aload_n a_X0_takeBack_39 rfl ?_
  refine R_aload_n a_X0_takeBack_40 rfl ?_
  refine R_get a_X0_takeBack_41 hR rfl ?_
  refine R_putiK (fs' := [_, _, _, _, _, _, _]) a_X0_takeBack_44 hE rfl rfl (fun σ hE ho => ?_)
  have hl := (ho _ (by omega)).trans hl
  have hg := (ho _ (by omega)).trans hg
  have hR := (ho _ (by omega)).trans hR
  have hw := (ho _ (by omega)).trans hw
  have ht := (ho _ (by omega)).trans ht
  have hs := (ho _ (by omega)).trans hs
  have hfr : ∀ j, j ≠ e ∧ j ≠ e + 1 → σ j = σ0 j := fun j hj => (ho j (by omega)).trans (hfr j hj)
  refine R_vret a_X0_takeBack_47 rfl ?_
  exact ⟨rfl, ⟨he0, hE, hl, hg, fun k hk => (hrd k hk).kept (fun j h1 h2 => hfr j (by omega))⟩, fun j hj => hfr j (by omega)⟩

