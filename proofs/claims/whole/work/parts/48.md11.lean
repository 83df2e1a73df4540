/-! ===== SaltToLiarsModel: reads, fault, lays, lay ===== -/
theorem rdF_1 (t : Nat → Nat) (k p r : Nat) (f : Nat → Nat) : rdF t (r + 1) k p f = match numF t p with
    | none => none
    | some (v, q) => if t q = endC r then rdF t r (k + 1) (q + 1) (uN f k v) else none := rfl
/-- the number's end asked of both readers -/
theorem nb_num {t : Nat → Nat} {p hi e : Nat} : (nbF t p hi e = none ∧ (numF t p = none ∨ ∃ v q, numF t p = some (v, q) ∧ ¬ (t q = e ∧ v ≤ hi))) ∨ ∃ v q, nbF t p hi e = some (v, q + 1) ∧ numF t p = some (v, q) ∧ t q = e ∧ v ≤ hi := by
  unfold nbF
  cases hn : numF t p with
  | none => exact Or.inl ⟨rfl, Or.inl rfl⟩
  | some vq =>
    obtain ⟨v, q⟩ := vq
    dsimp only
    by_cases h : t q = e ∧ v ≤ hi
    · rw [if_pos h]
      exact Or.inr ⟨v, q, rfl, rfl, h.1, h.2⟩
    · rw [if_neg h]
      exact Or.inl ⟨rfl, Or.inr ⟨v, q, rfl, h⟩⟩
/-- what the class's reader makes of the item -/
def riC (t : Nat → Nat) (p c : Nat) (T : Tb) : Option (Tb × Nat) := match rdF t (manyF c) 0 p (fun _ => 0) with
  | none => none
  | some (f, q) => if manyF c = 0 then none else if (tkF T c f).1 = 1 then some ((tkF T c f).2, q) else none
theorem riC_l {t : Nat → Nat} {p : Nat} {T : Tb} : riF t p 108 T = riC t p 108 T := by
  have hm : manyF 108 = 1 := rfl
  unfold riF riC
  rw [if_neg (by decide), if_neg (by decide), if_pos rfl, hm, rdF_1]
  rcases nb_num (t := t) (p := p) (hi := 3) (e := 59) with ⟨h1, h2⟩ | ⟨v, q, h1, h2, h3, h4⟩
  · rw [h1]
    dsimp only
    rcases h2 with h2 | ⟨v, q, h2, h3⟩
    · rw [h2]
    · rw [h2]
      dsimp only
      by_cases e : t q = endC 0
      · rw [if_pos e]
        show none = if (1 = 0) then none else if (tkL T v).1 = 1 then some ((tkL T v).2, q + 1) else none
        rw [if_neg (by decide), show tkL T v = (0, T) from if_neg (fun hv => h3 ⟨e, by omega⟩)]
        rfl
      · rw [if_neg e]
  · rw [h1, h2]
    dsimp only
    rw [if_pos (show t q = endC 0 from h3)]
    show _ = if (1 = 0) then none else if (tkL T v).1 = 1 then some ((tkL T v).2, q + 1) else none
    rw [if_neg (by decide), show tkL T v = (1, tL T v) from if_pos (by omega), if_pos rfl]
theorem riC_a {t : Nat → Nat} {p : Nat} {T : Tb} : riF t p 97 T = riC t p 97 T := by
  have hm : manyF 97 = 1 := rfl
  unfold riF riC
  rw [if_neg (by decide), if_neg (by decide), if_neg (by decide), if_pos rfl, hm, rdF_1]
  rcases nb_num (t := t) (p := p) (hi := 7) (e := 59) with ⟨h1, h2⟩ | ⟨v, q, h1, h2, h3, h4⟩
  · rw [h1]
    dsimp only
    rcases h2 with h2 | ⟨v, q, h2, h3⟩
    · rw [h2]
    · rw [h2]
      dsimp only
      by_cases e : t q = endC 0
      · rw [if_pos e]
        show none = if (1 = 0) then none else if (tkA T v).1 = 1 then some ((tkA T v).2, q + 1) else none
        rw [if_neg (by decide), show tkA T v = (0, T) from if_neg (fun hv => h3 ⟨e, by omega⟩)]
        rfl
      · rw [if_neg e]
  · rw [h1, h2]
    dsimp only
    rw [if_pos (show t q = endC 0 from h3)]
    show _ = if (1 = 0) then none else if (tkA T v).1 = 1 then some ((tkA T v).2, q + 1) else none
    rw [if_neg (by decide), show tkA T v = (1, tA T v) from if_pos (by omega), if_pos rfl]
/-- the class's reader of two numbers, and of three, when the last ones come out badly -/
def kT (T : Tb) (a b q : Nat) : Option (Tb × Nat) := if (tkT T a b).1 = 1 then some ((tkT T a b).2, q) else none
def kG (T : Tb) (a b c q : Nat) : Option (Tb × Nat) := if (tkG T a b c).1 = 1 then some ((tkG T a b c).2, q) else none
theorem kT_no {T : Tb} {a b q : Nat} (h : ¬ (T.n < 6 ∧ a ≤ 1 ∧ 1 ≤ b ∧ b ≤ 4)) : kT T a b q = none := by
  unfold kT
  rw [show tkT T a b = (0, T) from if_neg h]
  rfl
theorem kT_yes {T : Tb} {a b q : Nat} (h : T.n < 6 ∧ a ≤ 1 ∧ 1 ≤ b ∧ b ≤ 4) : kT T a b q = some (tT T a b, q) := by
  unfold kT
  rw [show tkT T a b = (1, tT T a b) from if_pos h]
  rfl
theorem kG_no {T : Tb} {a b c q : Nat} (h : ¬ (T.g < 8 ∧ a ≤ 4 ∧ b ≤ 10 ∧ c ≤ 63)) : kG T a b c q = none := by
  unfold kG
  rw [show tkG T a b c = (0, T) from if_neg h]
  rfl
theorem kG_yes {T : Tb} {a b c q : Nat} (h : T.g < 8 ∧ a ≤ 4 ∧ b ≤ 10 ∧ c ≤ 63) : kG T a b c q = some (tG T a b c, q) := by
  unfold kG
  rw [show tkG T a b c = (1, tG T a b c) from if_pos h]
  rfl
def r2 (t : Nat → Nat) (T : Tb) (a p : Nat) : Option (Tb × Nat) := match numF t p with
  | none => none
  | some (b, q) => if t q = 59 then kT T a b (q + 1) else none
theorem riC_T {t : Nat → Nat} {p : Nat} {T : Tb} : riC t p 116 T = match numF t p with
    | none => none
    | some (a, q) => if t q = 44 then r2 t T a (q + 1) else none := by
  unfold riC
  rw [show manyF 116 = 2 from rfl, rdF_1]
  cases numF t p with
  | none => rfl
  | some vq =>
    obtain ⟨a, q⟩ := vq
    dsimp only
    by_cases e : t q = 44
    · rw [if_pos (show t q = endC 1 from e), if_pos e, rdF_1]
      unfold r2
      cases numF t (q + 1) with
      | none => rfl
      | some vq =>
        obtain ⟨b, q2⟩ := vq
        dsimp only
        by_cases e2 : t q2 = 59
        · rw [if_pos (show t q2 = endC 0 from e2), if_pos e2]
          rfl
        · rw [if_neg (show ¬ t q2 = endC 0 from e2), if_neg e2]
    · rw [if_neg (show ¬ t q = endC 1 from e), if_neg e]
def r3 (t : Nat → Nat) (T : Tb) (a b p : Nat) : Option (Tb × Nat) := match numF t p with
  | none => none
  | some (c, q) => if t q = 59 then kG T a b c (q + 1) else none
def r4 (t : Nat → Nat) (T : Tb) (a p : Nat) : Option (Tb × Nat) := match numF t p with
  | none => none
  | some (b, q) => if t q = 44 then r3 t T a b (q + 1) else none
theorem riC_G {t : Nat → Nat} {p : Nat} {T : Tb} : riC t p 103 T = match numF t p with
    | none => none
    | some (a, q) => if t q = 44 then r4 t T a (q + 1) else none := by
  unfold riC
  rw [show manyF 103 = 3 from rfl, rdF_1]
  cases numF t p with
  | none => rfl
  | some vq =>
    obtain ⟨a, q⟩ := vq
    dsimp only
    by_cases e : t q = 44
    · rw [if_pos (show t q = endC 2 from e), if_pos e, rdF_1]
      unfold r4
      cases numF t (q + 1) with
      | none => rfl
      | some vq =>
        obtain ⟨b, q2⟩ := vq
        dsimp only
        by_cases e2 : t q2 = 44
        · rw [if_pos (show t q2 = endC 1 from e2), if_pos e2, rdF_1]
          unfold r3
          cases numF t (q2 + 1) with
          | none => rfl
          | some vq =>
            obtain ⟨c, q3⟩ := vq
            dsimp only
            by_cases e3 : t q3 = 59
            · rw [if_pos (show t q3 = endC 0 from e3), if_pos e3]
              rfl
            · rw [if_neg (show ¬ t q3 = endC 0 from e3), if_neg e3]
        · rw [if_neg (show ¬ t q2 = endC 1 from e2), if_neg e2]
    · rw [if_neg (show ¬ t q = endC 2 from e), if_neg e]
theorem r2_no {t : Nat → Nat} {T : Tb} {a p : Nat} (h : ¬ a ≤ 1) : r2 t T a p = none := by
  unfold r2
  cases numF t p with
  | none => rfl
  | some vq =>
    obtain ⟨b, q⟩ := vq
    dsimp only
    rw [kT_no (by omega), ite_self]
theorem r3_no {t : Nat → Nat} {T : Tb} {a b p : Nat} (h : ¬ (a ≤ 4 ∧ b ≤ 10)) : r3 t T a b p = none := by
  unfold r3
  cases numF t p with
  | none => rfl
  | some vq =>
    obtain ⟨c, q⟩ := vq
    dsimp only
    rw [kG_no (by omega), ite_self]
theorem r4_no {t : Nat → Nat} {T : Tb} {a p : Nat} (h : ¬ a ≤ 4) : r4 t T a p = none := by
  unfold r4
  cases numF t p with
  | none => rfl
  | some vq =>
    obtain ⟨b, q⟩ := vq
    dsimp only
    rw [r3_no (by omega), ite_self]
theorem riC_t {t : Nat → Nat} {p : Nat} {T : Tb} : riF t p 116 T = riC t p 116 T := by
  rw [riC_T]
  unfold riF
  rw [if_neg (by decide), if_pos rfl]
  rcases nb_num (t := t) (p := p) (hi := 1) (e := 44) with ⟨h1, h2⟩ | ⟨a, q, h1, h2, h3, h4⟩
  · rw [h1]
    dsimp only
    rcases h2 with h2 | ⟨v, q, h2, h3⟩
    · rw [h2]
    · rw [h2]
      dsimp only
      by_cases e : t q = 44
      · rw [if_pos e, r2_no (fun hv => h3 ⟨e, hv⟩)]
      · rw [if_neg e]
  · rw [h1, h2]
    dsimp only
    rw [if_pos h3]
    unfold r2
    rcases nb_num (t := t) (p := q + 1) (hi := 4) (e := 59) with ⟨k1, k2⟩ | ⟨b, q2, k1, k2, k3, k4⟩
    · rw [k1]
      dsimp only
      rcases k2 with k2 | ⟨v, q2, k2, k3⟩
      · rw [k2]
      · rw [k2]
        dsimp only
        by_cases e : t q2 = 59
        · rw [if_pos e, kT_no (fun hv => k3 ⟨e, hv.2.2.2⟩)]
        · rw [if_neg e]
    · rw [k1, k2]
      dsimp only
      rw [if_pos k3]
      by_cases e : 1 ≤ b ∧ T.n < 6
      · rw [if_pos e, kT_yes (by omega)]
      · rw [if_neg e, kT_no (by omega)]
theorem riC_g {t : Nat → Nat} {p : Nat} {T : Tb} : riF t p 103 T = riC t p 103 T := by
  rw [riC_G]
  unfold riF
  rw [if_pos rfl]
  rcases nb_num (t := t) (p := p) (hi := 4) (e := 44) with ⟨h1, h2⟩ | ⟨a, q, h1, h2, h3, h4⟩
  · rw [h1]
    dsimp only
    rcases h2 with h2 | ⟨v, q, h2, h3⟩
    · rw [h2]
    · rw [h2]
      dsimp only
      by_cases e : t q = 44
      · rw [if_pos e, r4_no (fun hv => h3 ⟨e, hv⟩)]
      · rw [if_neg e]
  · rw [h1, h2]
    dsimp only
    rw [if_pos h3]
    unfold r4
    rcases nb_num (t := t) (p := q + 1) (hi := 10) (e := 44) with ⟨k1, k2⟩ | ⟨b, q2, k1, k2, k3, k4⟩
    · rw [k1]
      dsimp only
      rcases k2 with k2 | ⟨v, q2, k2, k3⟩
      · rw [k2]
      · rw [k2]
        dsimp only
        by_cases e : t q2 = 44
        · rw [if_pos e, r3_no (fun hv => k3 ⟨e, hv.2⟩)]
        · rw [if_neg e]
    · rw [k1, k2]
      dsimp only
      rw [if_pos k3]
      unfold r3
      rcases nb_num (t := t) (p := q2 + 1) (hi := 63) (e := 59) with ⟨m1, m2⟩ | ⟨c, q3, m1, m2, m3, m4⟩
      · rw [m1]
        dsimp only
        rcases m2 with m2 | ⟨v, q3, m2, m3⟩
        · rw [m2]
        · rw [m2]
          dsimp only
          by_cases e : t q3 = 59
          · rw [if_pos e, kG_no (fun hv => m3 ⟨e, hv.2.2.2⟩)]
          · rw [if_neg e]
      · rw [m1, m2]
        dsimp only
        rw [if_pos m3]
        by_cases e : T.g < 8
        · rw [if_pos e, kG_yes (by omega)]
        · rw [if_neg e, kG_no (by omega)]
theorem ri_eq (t : Nat → Nat) (p c : Nat) (T : Tb) : riF t p c T = riC t p c T := by
  by_cases h1 : c = 103
  · subst h1; exact riC_g
  by_cases h2 : c = 116
  · subst h2; exact riC_t
  by_cases h3 : c = 108
  · subst h3; exact riC_l
  by_cases h4 : c = 97
  · subst h4; exact riC_a
  have hm : manyF c = 0 := by unfold manyF; rw [if_neg h1, if_neg h2, if_neg h3, if_neg h4]
  unfold riF riC
  rw [if_neg h1, if_neg h2, if_neg h3, if_neg h4, hm]
  rfl
theorem rd_ri (t : Nat → Nat) (len n p : Nat) (T : Tb) : rdA t len (n + 1) p T = if p < len then (match riF t (p + 1) (t p) T with
    | none => (some p, T)
    | some (T2, q) => rdA t len n q T2) else (none, T) := by
  rw [rdA, ri_eq]
  unfold riC
  by_cases h : p < len
  · rw [if_pos h, if_pos h]
    cases rdF t (manyF (t p)) 0 (p + 1) (fun _ => 0) with
    | none => rfl
    | some fq =>
      obtain ⟨f, q⟩ := fq
      dsimp only
      by_cases e : manyF (t p) = 0
      · rw [if_pos e, if_pos e]
      · rw [if_neg e, if_neg e]
        by_cases e2 : (tkF T (t p) f).1 = 1
        · rw [if_pos e2, if_pos e2]
        · rw [if_neg e2, if_neg e2]
  · rw [if_neg h, if_neg h]
theorem rd_end (t : Nat → Nat) {len p : Nat} (n : Nat) (T : Tb) (h : len ≤ p) : rdA t len n p T = (none, T) := by
  cases n with
  | zero => rfl
  | succ n => rw [rdA, if_neg (by omega)]
theorem ri_ok {t : Nat → Nat} {p c q : Nat} {T T2 : Tb} (h : riF t p c T = some (T2, q)) (hT : TbIn T) : TbIn T2 ∧ p + 2 ≤ q ∧ q ≤ p + 9 := by
  rw [ri_eq] at h
  unfold riC at h
  cases hr : rdF t (manyF c) 0 p (fun _ => 0) with
  | none => rw [hr] at h; cases h
  | some fq =>
    obtain ⟨f, q1⟩ := fq
    rw [hr] at h
    dsimp only at h
    by_cases e : manyF c = 0
    · rw [if_pos e] at h; cases h
    · rw [if_neg e] at h
      by_cases e2 : (tkF T c f).1 = 1
      · rw [if_pos e2] at h
        cases h
        have hu := rdF_up _ _ _ _ _ _ hr
        have hm := manyF_le c
        exact ⟨hT.tk c f, by omega, by omega⟩
      · rw [if_neg e2] at h; cases h
set_option maxRecDepth 20000 in
theorem lp_reads {σ0 : AHp} {tl u kn ns : Nat} {fx : Nat → Int32} {tf : Nat → Nat} (hTx0 : σ0 273 = some (iA 0 200 fx)) (hTxv : ∀ j, j < tl → fx j = nI (tf j)) (htl : tl ≤ 200) (htf : ∀ j, j < tl → tf j < 127) : ∀ (n F p : Nat) (T : Tb) (fd : Nat → Int32) (σ : AHp) (x1 : Option Value), tl - p = n → tl - p ≤ F → p ≤ 220 → TbIn T → ToP fd T → σ 272 = some (mdO tl u kn ns (nI p)) → σ 275 = some (iA 0 35 fd) → (∀ j, j ≠ 272 ∧ j ≠ 275 → σ j = σ0 j) → Run M_X11_reads 9 [some (.ref 272), x1] [] σ 0 0 (fun r σ => r = some (.int (fauI (rdA (tg tf tl) tl F p T).1)) ∧ (∃ q fd2, σ 272 = some (mdO tl u kn ns q) ∧ σ 275 = some (iA 0 35 fd2) ∧ ((rdA (tg tf tl) tl F p T).1 = none → ToP fd2 (rdA (tg tf tl) tl F p T).2)) ∧ ∀ j, j ≠ 272 ∧ j ≠ 275 → σ j = σ0 j) := by
  intro n
  induction n using Nat.strongRecOn
  rename_i n ih
  intro F p T fd σ x1 hm hF hp hTi hDT hM hDr hfr
  have hTx := (hfr 273 (by omega)).trans hTx0
  refine R_aload_n a_X11_reads_9 rfl ?_
  refine R_get a_X11_reads_10 hM rfl ?_
  refine R_aload_n a_X11_reads_13 rfl ?_
  refine R_get a_X11_reads_14 hM rfl ?_
  first | with_reducible refine R_icmp_ge_n a_X11_reads_17 (by first | omega | exact Nat.lt_of_le_of_lt (inR_le _ _) (by decide) | exact Nat.lt_of_le_of_lt (bitN_le _ _) (by decide) | exact Nat.lt_of_le_of_lt (inI_le _ _ _) (by decide) | exact inI_le _ _ _ | exact inR_le _ _ | exact bitN_le _ _) (by first | omega | exact Nat.lt_of_le_of_lt (inR_le _ _) (by decide) | exact Nat.lt_of_le_of_lt (bitN_le _ _) (by decide) | exact Nat.lt_of_le_of_lt (inI_le _ _ _) (by decide) | exact inI_le _ _ _ | exact inR_le _ _ | exact bitN_le _ _) (fun h17 => ?_) (fun h17 => ?_) | refine R_icmp_ge a_X11_reads_17 (fun h17 => ?_) (fun h17 => ?_)
  · skip
    have hz : rdA (tg tf tl) tl F p T = (none, T) := rd_end _ _ _ (by omega)
    refine R_bipush (v := (-4)) a_X11_reads_53 rfl ?_
    refine R_iret a_X11_reads_55 rfl ?_
    exact ⟨by rw [hz]; rfl, ⟨_, _, hM, hDr, fun q => by rw [hz]; exact hDT⟩, hfr⟩
  · skip
    obtain ⟨F, rfl⟩ : ∃ G, F = G + 1 := ⟨F - 1, by omega⟩
    have htp : tg tf tl p = tf p := if_pos (by omega)
    have hcl := htf p (by omega)
    have hst0 := rd_ri (tg tf tl) tl F p T
    rw [if_pos (by omega), htp] at hst0
    have hb9 := b2n_le (riF (tg tf tl) (p + 1) (tf p) T).isSome
    refine R_aload_n a_X11_reads_20 rfl ?_
    refine R_get a_X11_reads_21 hM rfl ?_
    refine R_istore_n (ls' := [_, _]) a_X11_reads_24 rfl rfl rfl ?_
    refine R_aload_n a_X11_reads_25 rfl ?_
    refine R_dup a_X11_reads_26 rfl ?_
    refine R_get a_X11_reads_27 hM rfl ?_
    refine R_iconst (v := nI 1) a_X11_reads_30 rfl ?_
    first | with_reducible refine R_iadd_n a_X11_reads_31 ?_ | refine R_iadd a_X11_reads_31 ?_
    refine R_putiK (fs' := [_, _, _, _, _, _, _, _, _, _, _, _, _, _, _, _]) a_X11_reads_32 hM rfl rfl (fun σ hM ho => ?_)
    have hTx := (ho _ (by omega)).trans hTx
    have hDr := (ho _ (by omega)).trans hDr
    have hfr : ∀ j, j ≠ 272 ∧ j ≠ 275 → σ j = σ0 j := fun j hj => (ho j (by omega)).trans (hfr j hj)
    refine R_aload_n a_X11_reads_35 rfl ?_
    refine R_aload_n a_X11_reads_36 rfl ?_
    refine R_get a_X11_reads_37 hM rfl ?_
    refine R_iload_n a_X11_reads_40 rfl ?_
    refine R_iald_n a_X11_reads_41 hTx (by first | omega | exact Nat.lt_of_le_of_lt (inR_le _ _) (by decide) | exact Nat.lt_of_le_of_lt (bitN_le _ _) (by decide) | exact Nat.lt_of_le_of_lt (inI_le _ _ _) (by decide) | exact inI_le _ _ _ | exact inR_le _ _ | exact bitN_le _ _) (by decide) ?_
    refine R_top (hTxv p (by omega)) ?_
    refine R_callVs a_X11_reads_42 hM (md_readsItem hM hTx hTxv htl htf hDr hDT hTi (by omega) hcl) rfl rfl rfl rfl rfl (fun σ hP => ?_)
    obtain ⟨⟨q1, fd2, hM, hDr, hnx⟩, hf1⟩ := hP
    have hTx := (hf1 273 (by omega)).trans hTx
    have hfr : ∀ j, j ≠ 272 ∧ j ≠ 275 → σ j = σ0 j := fun j hj => (hf1 j hj).trans (hfr j hj)
    first | with_reducible refine R_if_ne_n a_X11_reads_45 (by first | omega | exact Nat.lt_of_le_of_lt (inR_le _ _) (by decide) | exact Nat.lt_of_le_of_lt (bitN_le _ _) (by decide) | exact Nat.lt_of_le_of_lt (inI_le _ _ _) (by decide) | exact inI_le _ _ _ | exact inR_le _ _ | exact bitN_le _ _) (fun h45 => ?_) (fun h45 => ?_) | refine R_if_ne a_X11_reads_45 (fun h45 => ?_) (fun h45 => ?_)
    · skip
      obtain ⟨⟨T2, r2⟩, hr2⟩ := Option.isSome_iff_exists.mp (b2n_n0 h45)
      have hnx := hnx T2 r2 hr2
      have hok := ri_ok hr2 hTi
      rw [hr2] at hst0
      have hst : rdA (tg tf tl) tl (F + 1) p T = rdA (tg tf tl) tl F r2 T2 := hst0
      refine R_goto a_X11_reads_50 ?_
      have hih := ih _ (show tl - r2 < n by omega) F r2 T2 fd2 σ (some (.int (nI p))) rfl (by omega) (by omega) hok.1 hnx.2 (by rw [← hnx.1]; exact hM) hDr hfr
      rw [← hst] at hih
      exact hih
    · skip
      have hno : riF (tg tf tl) (p + 1) (tf p) T = none := by
        have := b2n_0 h45
        rwa [Option.isSome_eq_false_iff, Option.isNone_iff_eq_none] at this
      rw [hno] at hst0
      have hz : rdA (tg tf tl) tl (F + 1) p T = (some p, T) := hst0
      refine R_iload_n a_X11_reads_48 rfl ?_
      refine R_iret a_X11_reads_49 rfl ?_
      exact ⟨by rw [hz]; rfl, ⟨_, _, hM, hDr, fun q => by rw [hz] at q; cases q⟩, hfr⟩

set_option maxRecDepth 20000 in
theorem md_reads {σ0 : AHp} {tl u kn ns : Nat} {at_ : Int32} (hM : σ0 272 = some (mdO tl u kn ns at_)) {fx : Nat → Int32} {tf : Nat → Nat} (hTx : σ0 273 = some (iA 0 200 fx)) (hTxv : ∀ j, j < tl → fx j = nI (tf j)) (htl : tl ≤ 200) (htf : ∀ j, j < tl → tf j < 127) {fd : Nat → Int32} (hDr : σ0 275 = some (iA 0 35 fd)) (D : Tb) : EvW M_X11_reads [.ref 272] σ0 (some (.int (fauI (rdA (tg tf tl) tl 200 0 (clr D)).1))) (fun σ => (∃ q fd2, σ 272 = some (mdO tl u kn ns q) ∧ σ 275 = some (iA 0 35 fd2) ∧ ((rdA (tg tf tl) tl 200 0 (clr D)).1 = none → ToP fd2 (rdA (tg tf tl) tl 200 0 (clr D)).2)) ∧ ∀ j, j ≠ 272 ∧ j ≠ 275 → σ j = σ0 j) := by
  have hfr : ∀ j, j ≠ 272 ∧ j ≠ 275 → σ0 j = σ0 j := fun _ _ => rfl
  have hTx0 := hTx
  refine Ev.of (ls := [_, _]) 1 (by decide) rfl rfl ?_
  refine R_aload_n a_X11_reads_0 rfl ?_
  refine R_callVv a_X11_reads_1 hM (md_begins hM hDr) rfl rfl rfl rfl rfl (fun σ hP => ?_)
  obtain ⟨hDr, hf1⟩ := hP
  have hM := (hf1 272 (by omega)).trans hM
  have hTx := (hf1 273 (by omega)).trans hTx
  have hfr : ∀ j, j ≠ 272 ∧ j ≠ 275 → σ j = σ0 j := fun j hj => (hf1 j hj.2).trans (hfr j hj)
  refine R_aload_n a_X11_reads_4 rfl ?_
  refine R_iconst (v := nI 0) a_X11_reads_5 rfl ?_
  refine R_putiK (fs' := [_, _, _, _, _, _, _, _, _, _, _, _, _, _, _, _]) a_X11_reads_6 hM rfl rfl (fun σ hM ho => ?_)
  have hTx := (ho _ (by omega)).trans hTx
  have hDr := (ho _ (by omega)).trans hDr
  have hfr : ∀ j, j ≠ 272 ∧ j ≠ 275 → σ j = σ0 j := fun j hj => (ho j (by omega)).trans (hfr j hj)
  exact lp_reads hTx0 hTxv htl htf _ 200 0 (clr D) (nF (fun _ => 0)) σ none rfl (by omega) (by omega) (TbIn.zero D) ⟨rfl, rfl, rfl, rfl, rfl, fun i hi => absurd hi (Nat.not_lt_zero i), fun i hi => absurd hi (Nat.not_lt_zero i), fun i hi => absurd hi (Nat.not_lt_zero i), fun i hi => absurd hi (Nat.not_lt_zero i)⟩ hM hDr hfr

set_option maxRecDepth 20000 in
theorem md_fault {σ0 : AHp} {U : Us} {m : Nat} (hC : MP σ0 U) (hU : UOk U m) (hm : m < 2 ^ 20) : EvW M_X11_fault [.ref 272] σ0 (some (.int ((zFault U).1))) (fun σ => MP σ ((zFault U).2) ∧ Fr σ0 σ 272 12) := by
  obtain ⟨at_, fx, ft, fd, fp, fi, fy, fw, fs, fb, fh, hM, hMX, hMT, hDr, hSr, hMPa, hMIm, hMSy, hWy, hSm, hBh, hHd⟩ := id hC
  obtain ⟨hTx, hTxv⟩ := id hMX
  obtain ⟨hTo, t0, t1, t2, t3, t28, tkd, thn, tkn, thf⟩ := id hMT
  obtain ⟨hPa, hPav⟩ := id hMPa
  obtain ⟨hIm, hImv⟩ := id hMIm
  obtain ⟨hSy, hSyv⟩ := id hMSy
  have ok := hU.T
  obtain ⟨g3, g8, n1, n6, lw, stg, son, kd4, hn10, kn63, hf4⟩ := id ok
  have hn64 : 2 ^ U.T.n ≤ 2 ^ 6 := Nat.pow_le_pow_right (by decide) n6
  have hg256 : 2 ^ U.T.g ≤ 2 ^ 8 := Nat.pow_le_pow_right (by decide) g8
  have hlen := hU.len
  have hu8 := hU.u8
  have hul := hU.ul
  have hkn2 := hU.kn2
  have hsg := saltF_lt ok U.h
  have hfr : ∀ j, j < 272 ∨ 284 ≤ j → σ0 j = σ0 j := fun _ _ => rfl
  have htxt : ∀ j, j < U.tl → U.tf j < 127 := hU.txt
  have htl := hU.1
  refine Ev.of (ls := [_]) 0 (by decide) rfl rfl ?_
  refine R_aload_n a_X11_fault_0 rfl ?_
  refine R_callVs a_X11_fault_1 hM (md_reads hM hTx hTxv htl htxt hDr U.D) rfl rfl rfl rfl rfl (fun σ hP => ?_)
  obtain ⟨⟨q9, fd9, hM, hDr, hDT9⟩, hf⟩ := hP
  have hTx := (hf 273 (by omega)).trans hTx
  have hTo := (hf 274 (by omega)).trans hTo
  have hSr := (hf 276 (by omega)).trans hSr
  have hPa := (hf 277 (by omega)).trans hPa
  have hIm := (hf 278 (by omega)).trans hIm
  have hSy := (hf 279 (by omega)).trans hSy
  have hWy := (hf 280 (by omega)).trans hWy
  have hSm := (hf 281 (by omega)).trans hSm
  have hBh := (hf 282 (by omega)).trans hBh
  have hHd := (hf 283 (by omega)).trans hHd
  have hfr : ∀ j, j < 272 ∨ 284 ≤ j → σ j = σ0 j := fun j hj => (hf j (by omega)).trans (hfr j hj)
  refine R_iret a_X11_fault_4 rfl ?_
  exact ⟨rfl, ⟨_, _, _, _, _, _, _, _, _, _, _, hM, ⟨hTx, hTxv⟩, ⟨hTo, t0, t1, t2, t3, t28, tkd, thn, tkn, thf⟩, hDr, hSr, ⟨hPa, hPav⟩, ⟨hIm, hImv⟩, ⟨hSy, hSyv⟩, hWy, hSm, hBh, hHd⟩, fun j hj => hfr j (by omega)⟩

theorem sF_nil (T : Tb) {j : Nat} (hj : j < 43) : uN (uN (fun _ => 0) 0 T.st) 3 (2 ^ T.st) j = sF T [] j := by
  by_cases h3 : j = 3
  · subst h3; rfl
  rw [uN_ne _ _ h3]
  by_cases h0 : j = 0
  · subst h0; rfl
  rw [uN_ne _ _ h0]
  unfold sF
  rw [if_neg h0]
  by_cases h1 : j = 1
  · rw [if_pos h1]; rfl
  rw [if_neg h1]
  by_cases h2 : j = 2
  · rw [if_pos h2]; rfl
  rw [if_neg h2, if_neg h3]
  by_cases h4 : j = 4
  · rw [if_pos h4]; rfl
  rw [if_neg h4]
  by_cases h5 : j < 13
  · rw [if_pos h5]; rfl
  rw [if_neg h5, if_neg (show ¬ (j - 13) / 3 < ([] : Hs).length from Nat.not_lt_zero _)]
theorem ToP.congr {f g : Nat → Int32} {T : Tb} (h : ToP f T) (hT : TbIn T) (he : ∀ j, j < 35 → g j = f j) : ToP g T := by
  obtain ⟨h0, h1, h2, h3, h28, hk, hh, hn, hf⟩ := h
  have g8 := hT.1
  have n6 := hT.2.1
  exact ⟨(he _ (by omega)).trans h0, (he _ (by omega)).trans h1, (he _ (by omega)).trans h2, (he _ (by omega)).trans h3, (he _ (by omega)).trans h28, fun i hi => (he _ (by omega)).trans (hk i hi), fun i hi => (he _ (by omega)).trans (hh i hi), fun i hi => (he _ (by omega)).trans (hn i hi), fun i hi => (he _ (by omega)).trans (hf i hi)⟩
set_option maxRecDepth 20000 in
theorem lp_lays2 {σ0 : AHp} {tl u kn ns : Nat} {at_ : Int32} (hM0 : σ0 272 = some (mdO tl u kn ns at_)) {fd : Nat → Int32} {T : Tb} (hDr0 : σ0 275 = some (iA 0 35 fd)) (hDT : ToP fd T) (hTi : TbIn T) {ft f0 : Nat → Int32} (htt : ∀ j, j < 35 → ft j = fd j) : ∀ (m q : Nat) (σ : AHp), 43 - q = m → q ≤ 43 → σ 274 = some (iA 0 35 ft) → σ 276 = some (iA 0 43 (sh0 f0 (nF (fun _ => 0)) q)) → (∀ j, j ≠ 274 ∧ j ≠ 276 → σ j = σ0 j) → Run M_X11_lays 28 [some (.ref 272), some (.int (nI q))] [] σ 0 0 (fun r σ => r = none ∧ σ 272 = some (mdO tl 0 0 0 at_) ∧ (∃ ft2, σ 274 = some (iA 0 35 ft2) ∧ ToP ft2 T) ∧ σ 276 = some (iA 0 43 (nF (sF T []))) ∧ ∀ j, j ≠ 272 ∧ j ≠ 274 ∧ j ≠ 276 → σ j = σ0 j) := by
  have hDT2 : ToP ft T := hDT.congr hTi htt
  obtain ⟨i1, i2, i3, i4, -⟩ := id hTi
  have hst := hDT2.2.2.2.1
  have hp8 : 2 ^ T.st < 2 ^ 8 := Nat.pow_lt_pow_right (by decide) i4
  intro m
  induction m using Nat.strongRecOn
  rename_i m ih
  intro q σ hm hk hTo hSq hfr
  have hM := (hfr 272 (by omega)).trans hM0
  have hfr0 := hfr
  have hfr : ∀ j, j ≠ 272 ∧ j ≠ 274 ∧ j ≠ 276 → σ j = σ0 j := fun j hj => hfr j hj.2
  refine R_iload_n a_X11_lays_28 rfl ?_
  refine R_bipush (v := nI 43) a_X11_lays_29 rfl ?_
  first | with_reducible refine R_icmp_ge_n a_X11_lays_31 (by first | omega | exact Nat.lt_of_le_of_lt (inR_le _ _) (by decide) | exact Nat.lt_of_le_of_lt (bitN_le _ _) (by decide) | exact Nat.lt_of_le_of_lt (inI_le _ _ _) (by decide) | exact inI_le _ _ _ | exact inR_le _ _ | exact bitN_le _ _) (by first | omega | exact Nat.lt_of_le_of_lt (inR_le _ _) (by decide) | exact Nat.lt_of_le_of_lt (bitN_le _ _) (by decide) | exact Nat.lt_of_le_of_lt (inI_le _ _ _) (by decide) | exact inI_le _ _ _ | exact inR_le _ _ | exact bitN_le _ _) (fun h31 => ?_) (fun h31 => ?_) | refine R_icmp_ge a_X11_lays_31 (fun h31 => ?_) (fun h31 => ?_)
  · skip
    have hke : q = 43 := by omega
    subst hke
    refine R_ext (nF (fun _ => 0)) (by decide) hSq (fun j hj => sh0_in _ _ hj) (fun σ2 hSq ho => ?_)
    have hM := (ho 272 (by omega)).trans hM
    have hTo := (ho 274 (by omega)).trans hTo
    have hfr : ∀ j, j ≠ 272 ∧ j ≠ 274 ∧ j ≠ 276 → σ2 j = σ0 j := fun j hj => (ho j hj.2.2).trans (hfr j hj)
    refine R_aload_n a_X11_lays_47 rfl ?_
    refine R_get a_X11_lays_48 hM rfl ?_
    refine R_iconst (v := nI 0) a_X11_lays_51 rfl ?_
    refine R_aload_n a_X11_lays_52 rfl ?_
    refine R_get a_X11_lays_53 hM rfl ?_
    refine R_iconst (v := nI 3) a_X11_lays_56 rfl ?_
    refine R_iald_n a_X11_lays_57 hTo (by first | omega | exact Nat.lt_of_le_of_lt (inR_le _ _) (by decide) | exact Nat.lt_of_le_of_lt (bitN_le _ _) (by decide) | exact Nat.lt_of_le_of_lt (inI_le _ _ _) (by decide) | exact inI_le _ _ _ | exact inR_le _ _ | exact bitN_le _ _) (by decide) ?_
    refine R_top hst ?_
    refine R_iastK a_X11_lays_58 (by omega) hSq (by first | omega | exact Nat.lt_of_le_of_lt (inR_le _ _) (by decide) | exact Nat.lt_of_le_of_lt (bitN_le _ _) (by decide) | exact Nat.lt_of_le_of_lt (inI_le _ _ _) (by decide) | exact inI_le _ _ _ | exact inR_le _ _ | exact bitN_le _ _) (by decide) (fun σ hSq ho => ?_)
    have hM := (ho _ (by omega)).trans hM
    have hTo := (ho _ (by omega)).trans hTo
    have hfr : ∀ j, j ≠ 272 ∧ j ≠ 274 ∧ j ≠ 276 → σ j = σ0 j := fun j hj => (ho j (by omega)).trans (hfr j hj)
    rw [nF_upd] at hSq
    refine R_aload_n a_X11_lays_59 rfl ?_
    refine R_get a_X11_lays_60 hM rfl ?_
    refine R_iconst (v := nI 3) a_X11_lays_63 rfl ?_
    refine R_iconst (v := nI 1) a_X11_lays_64 rfl ?_
    refine R_aload_n a_X11_lays_65 rfl ?_
    refine R_get a_X11_lays_66 hM rfl ?_
    refine R_iconst (v := nI 0) a_X11_lays_69 rfl ?_
    refine R_iald_n a_X11_lays_70 hSq (by first | omega | exact Nat.lt_of_le_of_lt (inR_le _ _) (by decide) | exact Nat.lt_of_le_of_lt (bitN_le _ _) (by decide) | exact Nat.lt_of_le_of_lt (inI_le _ _ _) (by decide) | exact inI_le _ _ _ | exact inR_le _ _ | exact bitN_le _ _) (by decide) ?_
    refine R_top (congrArg nI (uN_self (fun _ => 0) 0 T.st)) ?_
    first | with_reducible refine R_ishl1 a_X11_lays_71 (by first | omega | exact Nat.lt_of_le_of_lt (inR_le _ _) (by decide) | exact Nat.lt_of_le_of_lt (bitN_le _ _) (by decide) | exact Nat.lt_of_le_of_lt (inI_le _ _ _) (by decide) | exact inI_le _ _ _ | exact inR_le _ _ | exact bitN_le _ _) ?_ | with_reducible refine R_ishl_n a_X11_lays_71 (by first | omega | exact Nat.lt_of_le_of_lt (inR_le _ _) (by decide) | exact Nat.lt_of_le_of_lt (bitN_le _ _) (by decide) | exact Nat.lt_of_le_of_lt (inI_le _ _ _) (by decide) | exact inI_le _ _ _ | exact inR_le _ _ | exact bitN_le _ _) (by first | omega | exact Nat.lt_of_le_of_lt (inR_le _ _) (by decide) | exact Nat.lt_of_le_of_lt (bitN_le _ _) (by decide) | exact Nat.lt_of_le_of_lt (inI_le _ _ _) (by decide) | exact inI_le _ _ _ | exact inR_le _ _ | exact bitN_le _ _) ?_ | refine R_ishl a_X11_lays_71 ?_
    refine R_iastK a_X11_lays_72 (by omega) hSq (by first | omega | exact Nat.lt_of_le_of_lt (inR_le _ _) (by decide) | exact Nat.lt_of_le_of_lt (bitN_le _ _) (by decide) | exact Nat.lt_of_le_of_lt (inI_le _ _ _) (by decide) | exact inI_le _ _ _ | exact inR_le _ _ | exact bitN_le _ _) (by decide) (fun σ hSq ho => ?_)
    have hM := (ho _ (by omega)).trans hM
    have hTo := (ho _ (by omega)).trans hTo
    have hfr : ∀ j, j ≠ 272 ∧ j ≠ 274 ∧ j ≠ 276 → σ j = σ0 j := fun j hj => (ho j (by omega)).trans (hfr j hj)
    rw [nF_upd] at hSq
    refine R_aload_n a_X11_lays_73 rfl ?_
    refine R_iconst (v := nI 0) a_X11_lays_74 rfl ?_
    refine R_putiK (fs' := [_, _, _, _, _, _, _, _, _, _, _, _, _, _, _, _]) a_X11_lays_75 hM rfl rfl (fun σ hM ho => ?_)
    have hTo := (ho _ (by omega)).trans hTo
    have hSq := (ho _ (by omega)).trans hSq
    have hfr : ∀ j, j ≠ 272 ∧ j ≠ 274 ∧ j ≠ 276 → σ j = σ0 j := fun j hj => (ho j (by omega)).trans (hfr j hj)
    refine R_aload_n a_X11_lays_78 rfl ?_
    refine R_iconst (v := nI 0) a_X11_lays_79 rfl ?_
    refine R_putiK (fs' := [_, _, _, _, _, _, _, _, _, _, _, _, _, _, _, _]) a_X11_lays_80 hM rfl rfl (fun σ hM ho => ?_)
    have hTo := (ho _ (by omega)).trans hTo
    have hSq := (ho _ (by omega)).trans hSq
    have hfr : ∀ j, j ≠ 272 ∧ j ≠ 274 ∧ j ≠ 276 → σ j = σ0 j := fun j hj => (ho j (by omega)).trans (hfr j hj)
    refine R_aload_n a_X11_lays_83 rfl ?_
    refine R_iconst (v := nI 0) a_X11_lays_84 rfl ?_
    refine R_putiK (fs' := [_, _, _, _, _, _, _, _, _, _, _, _, _, _, _, _]) a_X11_lays_85 hM rfl rfl (fun σ hM ho => ?_)
    have hTo := (ho _ (by omega)).trans hTo
    have hSq := (ho _ (by omega)).trans hSq
    have hfr : ∀ j, j ≠ 272 ∧ j ≠ 274 ∧ j ≠ 276 → σ j = σ0 j := fun j hj => (ho j (by omega)).trans (hfr j hj)
    refine R_ext (nF (sF T [])) (by decide) hSq (fun j hj => congrArg nI (sF_nil T hj)) (fun σ2 hSq ho => ?_)
    have hM := (ho 272 (by omega)).trans hM
    have hTo := (ho 274 (by omega)).trans hTo
    have hfr : ∀ j, j ≠ 272 ∧ j ≠ 274 ∧ j ≠ 276 → σ2 j = σ0 j := fun j hj => (ho j hj.2.2).trans (hfr j hj)
    refine R_vret a_X11_lays_88 rfl ?_
    exact ⟨rfl, hM, ⟨_, hTo, hDT2⟩, hSq, hfr⟩
  · skip
    refine R_aload_n a_X11_lays_34 rfl ?_
    refine R_get a_X11_lays_35 hM rfl ?_
    refine R_iload_n a_X11_lays_38 rfl ?_
    refine R_iconst (v := nI 0) a_X11_lays_39 rfl ?_
    refine R_iastK a_X11_lays_40 (by omega) hSq (by first | omega | exact Nat.lt_of_le_of_lt (inR_le _ _) (by decide) | exact Nat.lt_of_le_of_lt (bitN_le _ _) (by decide) | exact Nat.lt_of_le_of_lt (inI_le _ _ _) (by decide) | exact inI_le _ _ _ | exact inR_le _ _ | exact bitN_le _ _) (by decide) (fun σ hSq ho => ?_)
    have hM := (ho _ (by omega)).trans hM
    have hTo := (ho _ (by omega)).trans hTo
    have hfr : ∀ j, j ≠ 272 ∧ j ≠ 274 ∧ j ≠ 276 → σ j = σ0 j := fun j hj => (ho j (by omega)).trans (hfr j hj)
    have he : upd (sh0 f0 (nF (fun _ => 0)) q) q (nI 0) = sh0 f0 (nF (fun _ => 0)) (q + 1) := sh0_up _ _ _
    rw [he] at hSq
    have hfr9 : ∀ j, j ≠ 274 ∧ j ≠ 276 → σ j = σ0 j := fun j hj => (ho j hj.2).trans (hfr0 j hj)
    first | with_reducible refine R_iinc_n (ls' := [_, _]) a_X11_lays_41 rfl rfl rfl rfl ?_ | refine R_iinc (ls' := [_, _]) a_X11_lays_41 rfl rfl rfl rfl rfl ?_
    refine R_goto a_X11_lays_44 ?_
    exact ih _ (show 43 - (q + 1) < m by omega) (q + 1) σ rfl (by omega) hTo hSq hfr9

set_option maxRecDepth 20000 in
theorem lp_lays1 {σ0 : AHp} {tl u kn ns : Nat} {at_ : Int32} (hM0 : σ0 272 = some (mdO tl u kn ns at_)) {fd : Nat → Int32} {T : Tb} (hDr0 : σ0 275 = some (iA 0 35 fd)) (hDT : ToP fd T) (hTi : TbIn T) {f0 f1 : Nat → Int32} (hSq0 : σ0 276 = some (iA 0 43 f1)) : ∀ (m q : Nat) (σ : AHp), 35 - q = m → q ≤ 35 → σ 274 = some (iA 0 35 (sh0 f0 fd q)) → (∀ j, j ≠ 274 → σ j = σ0 j) → Run M_X11_lays 2 [some (.ref 272), some (.int (nI q))] [] σ 0 0 (fun r σ => r = none ∧ σ 272 = some (mdO tl 0 0 0 at_) ∧ (∃ ft2, σ 274 = some (iA 0 35 ft2) ∧ ToP ft2 T) ∧ σ 276 = some (iA 0 43 (nF (sF T []))) ∧ ∀ j, j ≠ 272 ∧ j ≠ 274 ∧ j ≠ 276 → σ j = σ0 j) := by
  intro m
  induction m using Nat.strongRecOn
  rename_i m ih
  intro q σ hm hk hTo hfr
  have hM := (hfr 272 (by omega)).trans hM0
  have hDr := (hfr 275 (by omega)).trans hDr0
  refine R_iload_n a_X11_lays_2 rfl ?_
  refine R_bipush (v := nI 35) a_X11_lays_3 rfl ?_
  first | with_reducible refine R_icmp_ge_n a_X11_lays_5 (by first | omega | exact Nat.lt_of_le_of_lt (inR_le _ _) (by decide) | exact Nat.lt_of_le_of_lt (bitN_le _ _) (by decide) | exact Nat.lt_of_le_of_lt (inI_le _ _ _) (by decide) | exact inI_le _ _ _ | exact inR_le _ _ | exact bitN_le _ _) (by first | omega | exact Nat.lt_of_le_of_lt (inR_le _ _) (by decide) | exact Nat.lt_of_le_of_lt (bitN_le _ _) (by decide) | exact Nat.lt_of_le_of_lt (inI_le _ _ _) (by decide) | exact inI_le _ _ _ | exact inR_le _ _ | exact bitN_le _ _) (fun h5 => ?_) (fun h5 => ?_) | refine R_icmp_ge a_X11_lays_5 (fun h5 => ?_) (fun h5 => ?_)
  · skip
    have hke : q = 35 := by omega
    subst hke
    refine R_iconst (v := nI 0) a_X11_lays_26 rfl ?_
    refine R_istore_n (ls' := [_, _]) a_X11_lays_27 rfl rfl rfl ?_
    have hz0 := sh0_z f1 (nF (fun _ => 0))
    have hSq := (hfr 276 (by omega)).trans hSq0
    rw [← hz0] at hSq
    exact lp_lays2 hM0 hDr0 hDT hTi (fun j hj => sh0_in _ _ hj) _ 0 σ rfl (Nat.zero_le _) hTo hSq (fun j hj => hfr j hj.1)
  · skip
    refine R_aload_n a_X11_lays_8 rfl ?_
    refine R_get a_X11_lays_9 hM rfl ?_
    refine R_iload_n a_X11_lays_12 rfl ?_
    refine R_aload_n a_X11_lays_13 rfl ?_
    refine R_get a_X11_lays_14 hM rfl ?_
    refine R_iload_n a_X11_lays_17 rfl ?_
    refine R_iald_n a_X11_lays_18 hDr (by first | omega | exact Nat.lt_of_le_of_lt (inR_le _ _) (by decide) | exact Nat.lt_of_le_of_lt (bitN_le _ _) (by decide) | exact Nat.lt_of_le_of_lt (inI_le _ _ _) (by decide) | exact inI_le _ _ _ | exact inR_le _ _ | exact bitN_le _ _) (by decide) ?_
    refine R_iastK a_X11_lays_19 (by omega) hTo (by first | omega | exact Nat.lt_of_le_of_lt (inR_le _ _) (by decide) | exact Nat.lt_of_le_of_lt (bitN_le _ _) (by decide) | exact Nat.lt_of_le_of_lt (inI_le _ _ _) (by decide) | exact inI_le _ _ _ | exact inR_le _ _ | exact bitN_le _ _) (by decide) (fun σ hTo ho => ?_)
    have hM := (ho _ (by omega)).trans hM
    have hDr := (ho _ (by omega)).trans hDr
    have hfr : ∀ j, j ≠ 274 → σ j = σ0 j := fun j hj => (ho j (by omega)).trans (hfr j hj)
    have he : upd (sh0 f0 fd q) q (fd q) = sh0 f0 fd (q + 1) := sh0_up _ _ _
    rw [he] at hTo
    first | with_reducible refine R_iinc_n (ls' := [_, _]) a_X11_lays_20 rfl rfl rfl rfl ?_ | refine R_iinc (ls' := [_, _]) a_X11_lays_20 rfl rfl rfl rfl rfl ?_
    refine R_goto a_X11_lays_23 ?_
    exact ih _ (show 35 - (q + 1) < m by omega) (q + 1) σ rfl (by omega) hTo hfr

set_option maxRecDepth 20000 in
theorem md_lays {σ0 : AHp} {tl u kn ns : Nat} {at_ : Int32} (hM0 : σ0 272 = some (mdO tl u kn ns at_)) {fd : Nat → Int32} {T : Tb} (hDr0 : σ0 275 = some (iA 0 35 fd)) (hDT : ToP fd T) (hTi : TbIn T) {ft f1 : Nat → Int32} (hTo0 : σ0 274 = some (iA 0 35 ft)) (hSq0 : σ0 276 = some (iA 0 43 f1)) : EvW M_X11_lays [.ref 272] σ0 none (fun σ => σ 272 = some (mdO tl 0 0 0 at_) ∧ (∃ ft2, σ 274 = some (iA 0 35 ft2) ∧ ToP ft2 T) ∧ σ 276 = some (iA 0 43 (nF (sF T []))) ∧ ∀ j, j ≠ 272 ∧ j ≠ 274 ∧ j ≠ 276 → σ j = σ0 j) := by
  refine Ev.of (ls := [_, _]) 1 (by decide) rfl rfl ?_
  refine R_iconst (v := nI 0) a_X11_lays_0 rfl ?_
  refine R_istore_n (ls' := [_, _]) a_X11_lays_1 rfl rfl rfl ?_
  have hz0 := sh0_z ft fd
  rw [← hz0] at hTo0
  exact lp_lays1 hM0 hDr0 hDT hTi hSq0 _ 0 σ0 rfl (Nat.zero_le _) hTo0 (fun _ _ => rfl)

theorem fau_no {t : Nat → Nat} {len n p : Nat} {T : Tb} (hl : len ≤ 200) (h : ¬ fauI (rdA t len n p T).1 = -4) : ¬ (rdA t len n p T).1 = none := fun q => h (by rw [q]; rfl)
theorem fau_yes {t : Nat → Nat} {len n p : Nat} {T : Tb} (hl : len ≤ 200) (h : fauI (rdA t len n p T).1 = -4) : (rdA t len n p T).1 = none := by
  cases ho : (rdA t len n p T).1 with
  | none => rfl
  | some a =>
    have := rdA_flt ho
    rw [ho] at h
    have h1 : nI a = -4 := h
    exact absurd (show nI a < 0 by rw [h1]; decide) (nI_pos (by omega))
set_option maxRecDepth 20000 in
theorem md_lay {σ0 : AHp} {U : Us} {m : Nat} (hC : MP σ0 U) (hU : UOk U m) (hm : m < 2 ^ 20) : EvW M_X11_lay [.ref 272] σ0 (some (.int ((zLay U).1))) (fun σ => MP σ ((zLay U).2) ∧ Fr σ0 σ 272 12) := by
  obtain ⟨at_, fx, ft, fd, fp, fi, fy, fw, fs, fb, fh, hM, hMX, hMT, hDr, hSr, hMPa, hMIm, hMSy, hWy, hSm, hBh, hHd⟩ := id hC
  obtain ⟨hTx, hTxv⟩ := id hMX
  obtain ⟨hTo, t0, t1, t2, t3, t28, tkd, thn, tkn, thf⟩ := id hMT
  obtain ⟨hPa, hPav⟩ := id hMPa
  obtain ⟨hIm, hImv⟩ := id hMIm
  obtain ⟨hSy, hSyv⟩ := id hMSy
  have ok := hU.T
  obtain ⟨g3, g8, n1, n6, lw, stg, son, kd4, hn10, kn63, hf4⟩ := id ok
  have hn64 : 2 ^ U.T.n ≤ 2 ^ 6 := Nat.pow_le_pow_right (by decide) n6
  have hg256 : 2 ^ U.T.g ≤ 2 ^ 8 := Nat.pow_le_pow_right (by decide) g8
  have hlen := hU.len
  have hu8 := hU.u8
  have hul := hU.ul
  have hkn2 := hU.kn2
  have hsg := saltF_lt ok U.h
  have hfr : ∀ j, j < 272 ∨ 284 ≤ j → σ0 j = σ0 j := fun _ _ => rfl
  have htxt : ∀ j, j < U.tl → U.tf j < 127 := hU.txt
  have htl := hU.1
  refine Ev.of (ls := [_]) 0 (by decide) rfl rfl ?_
  refine R_aload_n a_X11_lay_0 rfl ?_
  refine R_callVs a_X11_lay_1 hM (md_reads hM hTx hTxv htl htxt hDr U.D) rfl rfl rfl rfl rfl (fun σ hP => ?_)
  obtain ⟨⟨q9, fd9, hM, hDr, hDT9⟩, hf⟩ := hP
  have hTx := (hf 273 (by omega)).trans hTx
  have hTo := (hf 274 (by omega)).trans hTo
  have hSr := (hf 276 (by omega)).trans hSr
  have hPa := (hf 277 (by omega)).trans hPa
  have hIm := (hf 278 (by omega)).trans hIm
  have hSy := (hf 279 (by omega)).trans hSy
  have hWy := (hf 280 (by omega)).trans hWy
  have hSm := (hf 281 (by omega)).trans hSm
  have hBh := (hf 282 (by omega)).trans hBh
  have hHd := (hf 283 (by omega)).trans hHd
  have hfr : ∀ j, j < 272 ∨ 284 ≤ j → σ j = σ0 j := fun j hj => (hf j (by omega)).trans (hfr j hj)
  refine R_bipush (v := (-4)) a_X11_lay_4 rfl ?_
  refine R_icmp_ne a_X11_lay_6 (fun h6 => ?_) (fun h6 => ?_)
  · skip
    have hz : zLay U = (-2, (U.tf, U.tl, U.T, (rdU U).2, U.2.2.2.2)) := by
      unfold zLay
      rw [if_neg]
      rintro ⟨q1, q2⟩
      exact fau_no htl h6 q1
    refine R_bipush (v := (-2)) a_X11_lay_43 rfl ?_
    refine R_iret a_X11_lay_45 rfl ?_
    rw [hz]
    exact ⟨rfl, ⟨_, _, _, _, _, _, _, _, _, _, _, hM, ⟨hTx, hTxv⟩, ⟨hTo, t0, t1, t2, t3, t28, tkd, thn, tkn, thf⟩, hDr, hSr, ⟨hPa, hPav⟩, ⟨hIm, hImv⟩, ⟨hSy, hSyv⟩, hWy, hSm, hBh, hHd⟩, fun j hj => hfr j (by omega)⟩
  · skip
    have hno := fau_yes htl h6
    have hDT9 := hDT9 hno
    obtain ⟨d0, d1, d2, d3, d28, dk, dh, dn, df⟩ := id hDT9
    have hTi : TbIn (rdU U).2 := rdA_in _ _ _ _ _ (TbIn.zero U.D)
    have i1 := hTi.1
    have i2 := hTi.2.1
    have i4 := hTi.2.2.2.1
    have d0 : fd9 0 = nI (rdU U).2.g := d0
    have d1 : fd9 1 = nI (rdU U).2.n := d1
    have d3 : fd9 3 = nI (rdU U).2.st := d3
    refine R_aload_n a_X11_lay_9 rfl ?_
    refine R_get a_X11_lay_10 hM rfl ?_
    refine R_iconst (v := nI 0) a_X11_lay_13 rfl ?_
    refine R_iald_n a_X11_lay_14 hDr (by first | omega | exact Nat.lt_of_le_of_lt (inR_le _ _) (by decide) | exact Nat.lt_of_le_of_lt (bitN_le _ _) (by decide) | exact Nat.lt_of_le_of_lt (inI_le _ _ _) (by decide) | exact inI_le _ _ _ | exact inR_le _ _ | exact bitN_le _ _) (by decide) ?_
    refine R_top d0 ?_
    refine R_iconst (v := nI 3) a_X11_lay_15 rfl ?_
    first | with_reducible refine R_icmp_lt_n a_X11_lay_16 (by first | omega | exact Nat.lt_of_le_of_lt (inR_le _ _) (by decide) | exact Nat.lt_of_le_of_lt (bitN_le _ _) (by decide) | exact Nat.lt_of_le_of_lt (inI_le _ _ _) (by decide) | exact inI_le _ _ _ | exact inR_le _ _ | exact bitN_le _ _) (by first | omega | exact Nat.lt_of_le_of_lt (inR_le _ _) (by decide) | exact Nat.lt_of_le_of_lt (bitN_le _ _) (by decide) | exact Nat.lt_of_le_of_lt (inI_le _ _ _) (by decide) | exact inI_le _ _ _ | exact inR_le _ _ | exact bitN_le _ _) (fun h16 => ?_) (fun h16 => ?_) | refine R_icmp_lt a_X11_lay_16 (fun h16 => ?_) (fun h16 => ?_)
    · skip
      have hz : zLay U = (-2, (U.tf, U.tl, U.T, (rdU U).2, U.2.2.2.2)) := by
        unfold zLay
        rw [if_neg]
        rintro ⟨q1, q2⟩
        have q3 := of_decide_eq_true q2
        omega
      refine R_bipush (v := (-2)) a_X11_lay_43 rfl ?_
      refine R_iret a_X11_lay_45 rfl ?_
      rw [hz]
      exact ⟨rfl, ⟨_, _, _, _, _, _, _, _, _, _, _, hM, ⟨hTx, hTxv⟩, ⟨hTo, t0, t1, t2, t3, t28, tkd, thn, tkn, thf⟩, hDr, hSr, ⟨hPa, hPav⟩, ⟨hIm, hImv⟩, ⟨hSy, hSyv⟩, hWy, hSm, hBh, hHd⟩, fun j hj => hfr j (by omega)⟩
    · skip
      refine R_aload_n a_X11_lay_19 rfl ?_
      refine R_get a_X11_lay_20 hM rfl ?_
      refine R_iconst (v := nI 1) a_X11_lay_23 rfl ?_
      refine R_iald_n a_X11_lay_24 hDr (by first | omega | exact Nat.lt_of_le_of_lt (inR_le _ _) (by decide) | exact Nat.lt_of_le_of_lt (bitN_le _ _) (by decide) | exact Nat.lt_of_le_of_lt (inI_le _ _ _) (by decide) | exact inI_le _ _ _ | exact inR_le _ _ | exact bitN_le _ _) (by decide) ?_
      refine R_top d1 ?_
      first | with_reducible refine R_if_eq_n a_X11_lay_25 (by first | omega | exact Nat.lt_of_le_of_lt (inR_le _ _) (by decide) | exact Nat.lt_of_le_of_lt (bitN_le _ _) (by decide) | exact Nat.lt_of_le_of_lt (inI_le _ _ _) (by decide) | exact inI_le _ _ _ | exact inR_le _ _ | exact bitN_le _ _) (fun h25 => ?_) (fun h25 => ?_) | refine R_if_eq a_X11_lay_25 (fun h25 => ?_) (fun h25 => ?_)
      · skip
        have hz : zLay U = (-2, (U.tf, U.tl, U.T, (rdU U).2, U.2.2.2.2)) := by
          unfold zLay
          rw [if_neg]
          rintro ⟨q1, q2⟩
          have q3 := of_decide_eq_true q2
          omega
        refine R_bipush (v := (-2)) a_X11_lay_43 rfl ?_
        refine R_iret a_X11_lay_45 rfl ?_
        rw [hz]
        exact ⟨rfl, ⟨_, _, _, _, _, _, _, _, _, _, _, hM, ⟨hTx, hTxv⟩, ⟨hTo, t0, t1, t2, t3, t28, tkd, thn, tkn, thf⟩, hDr, hSr, ⟨hPa, hPav⟩, ⟨hIm, hImv⟩, ⟨hSy, hSyv⟩, hWy, hSm, hBh, hHd⟩, fun j hj => hfr j (by omega)⟩
      · skip
        refine R_aload_n a_X11_lay_28 rfl ?_
        refine R_get a_X11_lay_29 hM rfl ?_
        refine R_iconst (v := nI 3) a_X11_lay_32 rfl ?_
        refine R_iald_n a_X11_lay_33 hDr (by first | omega | exact Nat.lt_of_le_of_lt (inR_le _ _) (by decide) | exact Nat.lt_of_le_of_lt (bitN_le _ _) (by decide) | exact Nat.lt_of_le_of_lt (inI_le _ _ _) (by decide) | exact inI_le _ _ _ | exact inR_le _ _ | exact bitN_le _ _) (by decide) ?_
        refine R_top d3 ?_
        refine R_aload_n a_X11_lay_34 rfl ?_
        refine R_get a_X11_lay_35 hM rfl ?_
        refine R_iconst (v := nI 0) a_X11_lay_38 rfl ?_
        refine R_iald_n a_X11_lay_39 hDr (by first | omega | exact Nat.lt_of_le_of_lt (inR_le _ _) (by decide) | exact Nat.lt_of_le_of_lt (bitN_le _ _) (by decide) | exact Nat.lt_of_le_of_lt (inI_le _ _ _) (by decide) | exact inI_le _ _ _ | exact inR_le _ _ | exact bitN_le _ _) (by decide) ?_
        refine R_top d0 ?_
        first | with_reducible refine R_icmp_lt_n a_X11_lay_40 (by first | omega | exact Nat.lt_of_le_of_lt (inR_le _ _) (by decide) | exact Nat.lt_of_le_of_lt (bitN_le _ _) (by decide) | exact Nat.lt_of_le_of_lt (inI_le _ _ _) (by decide) | exact inI_le _ _ _ | exact inR_le _ _ | exact bitN_le _ _) (by first | omega | exact Nat.lt_of_le_of_lt (inR_le _ _) (by decide) | exact Nat.lt_of_le_of_lt (bitN_le _ _) (by decide) | exact Nat.lt_of_le_of_lt (inI_le _ _ _) (by decide) | exact inI_le _ _ _ | exact inR_le _ _ | exact bitN_le _ _) (fun h40 => ?_) (fun h40 => ?_) | refine R_icmp_lt a_X11_lay_40 (fun h40 => ?_) (fun h40 => ?_)
        · skip
          have hz : zLay U = (nI (rdU U).2.g, (U.tf, U.tl, (rdU U).2, U.T, [], 0, U.kp, 0, 0, U.sw, U.ss)) := by
            unfold zLay
            rw [if_pos ⟨hno, decide_eq_true (show 3 ≤ (rdU U).2.g ∧ 1 ≤ (rdU U).2.n ∧ (rdU U).2.st < (rdU U).2.g by omega)⟩]
          refine R_aload_n a_X11_lay_46 rfl ?_
          refine R_callVv a_X11_lay_47 hM (md_lays (T := (rdU U).2) hM hDr hDT9 hTi hTo hSr) rfl rfl rfl rfl rfl (fun σ hP => ?_)
          obtain ⟨hM, ⟨ft2, hTo, hDT2⟩, hSr, hf⟩ := hP
          have hTx := (hf 273 (by omega)).trans hTx
          have hDr := (hf 275 (by omega)).trans hDr
          have hPa := (hf 277 (by omega)).trans hPa
          have hIm := (hf 278 (by omega)).trans hIm
          have hSy := (hf 279 (by omega)).trans hSy
          have hWy := (hf 280 (by omega)).trans hWy
          have hSm := (hf 281 (by omega)).trans hSm
          have hBh := (hf 282 (by omega)).trans hBh
          have hHd := (hf 283 (by omega)).trans hHd
          have hfr : ∀ j, j < 272 ∨ 284 ≤ j → σ j = σ0 j := fun j hj => (hf j (by omega)).trans (hfr j hj)
          refine R_aload_n a_X11_lay_50 rfl ?_
          refine R_get a_X11_lay_51 hM rfl ?_
          refine R_iconst (v := nI 0) a_X11_lay_54 rfl ?_
          refine R_iald_n a_X11_lay_55 hTo (by first | omega | exact Nat.lt_of_le_of_lt (inR_le _ _) (by decide) | exact Nat.lt_of_le_of_lt (bitN_le _ _) (by decide) | exact Nat.lt_of_le_of_lt (inI_le _ _ _) (by decide) | exact inI_le _ _ _ | exact inR_le _ _ | exact bitN_le _ _) (by decide) ?_
          refine R_top (show ft2 0 = nI (rdU U).2.g from hDT2.1) ?_
          refine R_iret a_X11_lay_56 rfl ?_
          rw [hz]
          exact ⟨rfl, ⟨_, _, _, _, _, _, _, _, _, _, _, hM, ⟨hTx, hTxv⟩, ⟨hTo, hDT2⟩, hDr, hSr, ⟨hPa, fun k hk => absurd hk (Nat.not_lt_zero k)⟩, ⟨hIm, fun k hk => absurd hk (Nat.not_lt_zero k)⟩, ⟨hSy, fun k hk => absurd hk (Nat.not_lt_zero k)⟩, hWy, hSm, hBh, hHd⟩, fun j hj => hfr j (by omega)⟩
        · skip
          have hz : zLay U = (-2, (U.tf, U.tl, U.T, (rdU U).2, U.2.2.2.2)) := by
            unfold zLay
            rw [if_neg]
            rintro ⟨q1, q2⟩
            have q3 := of_decide_eq_true q2
            omega
          refine R_bipush (v := (-2)) a_X11_lay_43 rfl ?_
          refine R_iret a_X11_lay_45 rfl ?_
          rw [hz]
          exact ⟨rfl, ⟨_, _, _, _, _, _, _, _, _, _, _, hM, ⟨hTx, hTxv⟩, ⟨hTo, t0, t1, t2, t3, t28, tkd, thn, tkn, thf⟩, hDr, hSr, ⟨hPa, hPav⟩, ⟨hIm, hImv⟩, ⟨hSy, hSyv⟩, hWy, hSm, hBh, hHd⟩, fun j hj => hfr j (by omega)⟩

