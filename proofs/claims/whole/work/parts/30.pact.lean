/-! ===== Pact ===== -/
abbrev pcO (st : Nat) (fs : Int32) : ACell := oB 3 [.int (nI st), .int fs, .ref 246, .ref 247, .ref 248, .ref 249, .ref 250]
def PcR (σ : AHp) (st : Nat) (fs : Int32) (w tp : Nat → Nat) (f1 f2 : Nat → Int32) (R : Rs) : Prop := σ 245 = some (pcO st fs) ∧ σ 246 = some (iA 0 2 (nF w)) ∧ σ 247 = some (iA 0 2 (nF tp)) ∧ σ 248 = some (iA 0 4 f1) ∧ σ 249 = some (iA 0 4 f2) ∧ RdP σ 250 R
/-- the untruth of one about a thing -/
def lcF (T : Tb) (i t : Nat) : Nat := sayC i t (1 - bitN T.so t)
def gainF (T : Tb) (to i t : Nat) (lies : Bool) : Int32 := nI (if to = i then 5 else 0) - nI (if lies = true then cnt T i t else 0)
set_option maxRecDepth 20000 in
theorem ev_between {σ0 : AHp} {st i s j t : Nat} {fs : Int32} {w tp : Nat → Nat} {f1 f2 : Nat → Int32} {R : Rs} (hPc : PcR σ0 st fs w tp f1 f2 R) : EvW M_X3_between [.ref 245, .int (nI i), .int (nI s), .int (nI j), .int (nI t)] σ0 none (fun σ => PcR σ st fs (uN (uN w 0 i) 1 j) (uN (uN tp 0 s) 1 t) f1 f2 R ∧ Fr σ0 σ 245 9) := by
  obtain ⟨hP, hw, ht, h1, h2, hRP⟩ := id hPc
  have hfr : ∀ j, j < 245 ∨ 254 ≤ j → σ0 j = σ0 j := fun _ _ => rfl
  refine Ev.of (ls := [_, _, _, _, _]) 0 (by decide) rfl rfl ?_
  refine R_aload_n a_X3_between_0 rfl ?_
  refine R_get a_X3_between_1 hP rfl ?_
  refine R_iconst (v := nI 0) a_X3_between_4 rfl ?_
  refine R_iload_n a_X3_between_5 rfl ?_
  refine R_iastK a_X3_between_6 (by omega) hw (by omega) (by decide) (fun σ hw ho => ?_)
  have hP := (ho _ (by omega)).trans hP
  have ht := (ho _ (by omega)).trans ht
  have h1 := (ho _ (by omega)).trans h1
  have h2 := (ho _ (by omega)).trans h2
  have hfr : ∀ j, j < 245 ∨ 254 ≤ j → σ j = σ0 j := fun j hj => (ho j (by omega)).trans (hfr j hj)
  rw [nF_upd] at hw
  have hRP := hRP.kept (fun j h1 h2 => ho j (by omega))
  refine R_aload_n a_X3_between_7 rfl ?_
  refine R_get a_X3_between_8 hP rfl ?_
  refine R_iconst (v := nI 0) a_X3_between_11 rfl ?_
  refine R_iload_n a_X3_between_12 rfl ?_
  refine R_iastK a_X3_between_13 (by omega) ht (by omega) (by decide) (fun σ ht ho => ?_)
  have hP := (ho _ (by omega)).trans hP
  have hw := (ho _ (by omega)).trans hw
  have h1 := (ho _ (by omega)).trans h1
  have h2 := (ho _ (by omega)).trans h2
  have hfr : ∀ j, j < 245 ∨ 254 ≤ j → σ j = σ0 j := fun j hj => (ho j (by omega)).trans (hfr j hj)
  rw [nF_upd] at ht
  have hRP := hRP.kept (fun j h1 h2 => ho j (by omega))
  refine R_aload_n a_X3_between_14 rfl ?_
  refine R_get a_X3_between_15 hP rfl ?_
  refine R_iconst (v := nI 1) a_X3_between_18 rfl ?_
  refine R_iload_n a_X3_between_19 rfl ?_
  refine R_iastK a_X3_between_20 (by omega) hw (by omega) (by decide) (fun σ hw ho => ?_)
  have hP := (ho _ (by omega)).trans hP
  have ht := (ho _ (by omega)).trans ht
  have h1 := (ho _ (by omega)).trans h1
  have h2 := (ho _ (by omega)).trans h2
  have hfr : ∀ j, j < 245 ∨ 254 ≤ j → σ j = σ0 j := fun j hj => (ho j (by omega)).trans (hfr j hj)
  rw [nF_upd] at hw
  have hRP := hRP.kept (fun j h1 h2 => ho j (by omega))
  refine R_aload_n a_X3_between_21 rfl ?_
  refine R_get a_X3_between_22 hP rfl ?_
  refine R_iconst (v := nI 1) a_X3_between_25 rfl ?_
  refine R_iload a_X3_between_26 rfl ?_
  refine R_iastK a_X3_between_28 (by omega) ht (by omega) (by decide) (fun σ ht ho => ?_)
  have hP := (ho _ (by omega)).trans hP
  have hw := (ho _ (by omega)).trans hw
  have h1 := (ho _ (by omega)).trans h1
  have h2 := (ho _ (by omega)).trans h2
  have hfr : ∀ j, j < 245 ∨ 254 ≤ j → σ j = σ0 j := fun j hj => (ho j (by omega)).trans (hfr j hj)
  rw [nF_upd] at ht
  have hRP := hRP.kept (fun j h1 h2 => ho j (by omega))
  refine R_vret a_X3_between_29 rfl ?_
  exact ⟨rfl, ⟨hP, hw, ht, h1, h2, hRP⟩, hfr⟩

set_option maxRecDepth 20000 in
theorem ev_lie {σ0 : AHp} {p st : Nat} {T : Tb} {fs : Int32} {w tp : Nat → Nat} {f1 f2 : Nat → Int32} {R : Rs} (hT0 : TbP σ0 p T) (ok : TbOk T) (hp : 254 ≤ p) (hPc : PcR σ0 st fs w tp f1 f2 R) {k : Nat} (hk : k < 2) (htn : tp k < T.n) (hsp : R.sp < 2) : EvW M_X3_lie [.ref 245, .ref p, .int (nI k)] σ0 none (fun σ => PcR σ st fs w tp f1 f2 (R.sp + 1, uN R.w R.sp (w k), uN R.tp R.sp (tp k), uN R.sd R.sp (1 - bitN T.so (tp k)), R.fr, R.to, R.tb, R.li) ∧ Fr σ0 σ 245 9) := by
  obtain ⟨hP, hw, ht, h1, h2, hRP⟩ := id hPc
  obtain ⟨hr0, hR, -⟩ := id hRP
  obtain ⟨hp0, hT, -⟩ := id hT0
  have hso := so_lt ok
  have hn6 := ok.2.2.2.1
  have hb1 : bitN T.so (tp k) ≤ 1 := by unfold bitN; omega
  refine Ev.of (ls := [_, _, _]) 0 (by decide) rfl rfl ?_
  refine R_aload_n a_X3_lie_0 rfl ?_
  refine R_get a_X3_lie_1 hP rfl ?_
  refine R_aload_n a_X3_lie_4 rfl ?_
  refine R_get a_X3_lie_5 hP rfl ?_
  refine R_iload_n a_X3_lie_8 rfl ?_
  refine R_iald_n a_X3_lie_9 hw (by omega) (by decide) ?_
  refine R_aload_n a_X3_lie_10 rfl ?_
  refine R_get a_X3_lie_11 hP rfl ?_
  refine R_iload_n a_X3_lie_14 rfl ?_
  refine R_iald_n a_X3_lie_15 ht (by omega) (by decide) ?_
  refine R_aload_n a_X3_lie_16 rfl ?_
  refine R_get a_X3_lie_17 hT rfl ?_
  refine R_aload_n a_X3_lie_20 rfl ?_
  refine R_get a_X3_lie_21 hP rfl ?_
  refine R_iload_n a_X3_lie_24 rfl ?_
  refine R_iald_n a_X3_lie_25 ht (by omega) (by decide) ?_
  refine R_callSp a_X3_lie_26 (ev_isSo (show T.so < 2 ^ 31 by omega) (show tp k < 32 by omega)) rfl rfl rfl rfl rfl ?_
  first | with_reducible refine R_if_ne_n a_X3_lie_29 (by omega) (fun h29 => ?_) (fun h29 => ?_) | refine R_if_ne a_X3_lie_29 (fun h29 => ?_) (fun h29 => ?_)
  · skip
    have hv : 1 - bitN T.so (tp k) = 0 := by omega
    refine R_iconst (v := nI 0) a_X3_lie_36 rfl ?_
    refine R_callVv a_X3_lie_37 hR (ev_Radd hRP hsp (by decide)) rfl rfl rfl rfl rfl (fun σ hP_ => ?_)
    obtain ⟨hRP, hfA⟩ := hP_
    refine R_vret a_X3_lie_40 rfl ?_
    exact ⟨rfl, ⟨(hfA _ (by omega)).trans hP, (hfA _ (by omega)).trans hw, (hfA _ (by omega)).trans ht, (hfA _ (by omega)).trans h1, (hfA _ (by omega)).trans h2, by rw [hv]; exact hRP⟩, fun j hj => hfA j (by omega)⟩
  · skip
    have hv : 1 - bitN T.so (tp k) = 1 := by omega
    refine R_iconst (v := nI 1) a_X3_lie_32 rfl ?_
    refine R_goto a_X3_lie_33 ?_
    refine R_callVv a_X3_lie_37 hR (ev_Radd hRP hsp (by decide)) rfl rfl rfl rfl rfl (fun σ hP_ => ?_)
    obtain ⟨hRP, hfA⟩ := hP_
    refine R_vret a_X3_lie_40 rfl ?_
    exact ⟨rfl, ⟨(hfA _ (by omega)).trans hP, (hfA _ (by omega)).trans hw, (hfA _ (by omega)).trans ht, (hfA _ (by omega)).trans h1, (hfA _ (by omega)).trans h2, by rw [hv]; exact hRP⟩, fun j hj => hfA j (by omega)⟩

set_option maxRecDepth 20000 in
theorem ev_gain {σ0 : AHp} {p st : Nat} {T : Tb} {fs : Int32} {w tp : Nat → Nat} {f1 f2 : Nat → Int32} {R : Rs} (hT0 : TbP σ0 p T) (ok : TbOk T) (hp : 254 ≤ p) (hPc : PcR σ0 st fs w tp f1 f2 R) {k to : Nat} {l : Bool} (hk : k < 2) (hwg : w k < T.g) (htn : tp k < T.n) (hto : to < T.g) : EvP M_X3_gain [.ref 245, .ref p, .int (nI k), .int (nI to), .int (nI (b2n l))] σ0 (.int (gainF T to (w k) (tp k) l)) := by
  obtain ⟨hP, hw, ht, h1, h2, hRP⟩ := id hPc
  obtain ⟨hp0, hT, -⟩ := id hT0
  have hg8 := ok.2.1
  have hbl := b2n_le l
  refine Ev.of (ls := [_, _, _, _, _]) 0 (by decide) rfl rfl ?_
  refine R_iload_n a_X3_gain_0 rfl ?_
  refine R_aload_n a_X3_gain_1 rfl ?_
  refine R_get a_X3_gain_2 hP rfl ?_
  refine R_iload_n a_X3_gain_5 rfl ?_
  refine R_iald_n a_X3_gain_6 hw (by omega) (by decide) ?_
  first | with_reducible refine R_icmp_ne_n a_X3_gain_7 (by omega) (by omega) (fun h7 => ?_) (fun h7 => ?_) | refine R_icmp_ne a_X3_gain_7 (fun h7 => ?_) (fun h7 => ?_)
  · skip
    refine R_iconst (v := nI 0) a_X3_gain_14 rfl ?_
    refine R_iload a_X3_gain_15 rfl ?_
    first | with_reducible refine R_if_eq_n a_X3_gain_17 (by omega) (fun h17 => ?_) (fun h17 => ?_) | refine R_if_eq a_X3_gain_17 (fun h17 => ?_) (fun h17 => ?_)
    · skip
      refine R_iconst (v := nI 0) a_X3_gain_39 rfl ?_
      refine R_isub a_X3_gain_40 ?_
      refine R_iret a_X3_gain_41 rfl ?_
      exact ⟨by unfold gainF; first | rw [if_neg h7] | rw [if_pos h7]
                first | rw [b2n_0 h17, if_neg (by decide)] | rw [b2n_n0 h17, if_pos rfl], rfl⟩
    · skip
      refine R_aload_n a_X3_gain_20 rfl ?_
      refine R_aload_n a_X3_gain_21 rfl ?_
      refine R_get a_X3_gain_22 hP rfl ?_
      refine R_iload_n a_X3_gain_25 rfl ?_
      refine R_iald_n a_X3_gain_26 hw (by omega) (by decide) ?_
      refine R_aload_n a_X3_gain_27 rfl ?_
      refine R_get a_X3_gain_28 hP rfl ?_
      refine R_iload_n a_X3_gain_31 rfl ?_
      refine R_iald_n a_X3_gain_32 ht (by omega) (by decide) ?_
      refine R_callVp a_X3_gain_33 hT (ev_ttally hT0 ok hwg htn) rfl rfl rfl rfl rfl ?_
      refine R_goto a_X3_gain_36 ?_
      refine R_isub a_X3_gain_40 ?_
      refine R_iret a_X3_gain_41 rfl ?_
      exact ⟨by unfold gainF; first | rw [if_neg h7] | rw [if_pos h7]
                first | rw [b2n_0 h17, if_neg (by decide)] | rw [b2n_n0 h17, if_pos rfl], rfl⟩
  · skip
    refine R_iconst (v := nI 5) a_X3_gain_10 rfl ?_
    refine R_goto a_X3_gain_11 ?_
    refine R_iload a_X3_gain_15 rfl ?_
    first | with_reducible refine R_if_eq_n a_X3_gain_17 (by omega) (fun h17 => ?_) (fun h17 => ?_) | refine R_if_eq a_X3_gain_17 (fun h17 => ?_) (fun h17 => ?_)
    · skip
      refine R_iconst (v := nI 0) a_X3_gain_39 rfl ?_
      refine R_isub a_X3_gain_40 ?_
      refine R_iret a_X3_gain_41 rfl ?_
      exact ⟨by unfold gainF; first | rw [if_neg h7] | rw [if_pos h7]
                first | rw [b2n_0 h17, if_neg (by decide)] | rw [b2n_n0 h17, if_pos rfl], rfl⟩
    · skip
      refine R_aload_n a_X3_gain_20 rfl ?_
      refine R_aload_n a_X3_gain_21 rfl ?_
      refine R_get a_X3_gain_22 hP rfl ?_
      refine R_iload_n a_X3_gain_25 rfl ?_
      refine R_iald_n a_X3_gain_26 hw (by omega) (by decide) ?_
      refine R_aload_n a_X3_gain_27 rfl ?_
      refine R_get a_X3_gain_28 hP rfl ?_
      refine R_iload_n a_X3_gain_31 rfl ?_
      refine R_iald_n a_X3_gain_32 ht (by omega) (by decide) ?_
      refine R_callVp a_X3_gain_33 hT (ev_ttally hT0 ok hwg htn) rfl rfl rfl rfl rfl ?_
      refine R_goto a_X3_gain_36 ?_
      refine R_isub a_X3_gain_40 ?_
      refine R_iret a_X3_gain_41 rfl ?_
      exact ⟨by unfold gainF; first | rw [if_neg h7] | rw [if_pos h7]
                first | rw [b2n_0 h17, if_neg (by decide)] | rw [b2n_n0 h17, if_pos rfl], rfl⟩

/-- where the salt comes by the four ways of RESTS -/
def toW (T : Tb) (a i s j t : Nat) : Nat → Nat
  | 0 => comesF T a (lcF T i s) (lcF T j t) T.so T.law
  | 1 => comesF T a (lcF T i s) 128 T.so T.law
  | 2 => comesF T a (lcF T j t) 128 T.so T.law
  | _ => comesF T a 128 128 T.so T.law
def g1W (T : Tb) (a i s j t wy : Nat) : Int32 := gainF T (toW T a i s j t wy) i s (decide (wy < 2))
def g2W (T : Tb) (a i s j t wy : Nat) : Int32 := gainF T (toW T a i s j t wy) j t (decide (wy % 2 = 0))
set_option maxRecDepth 20000 in
theorem ev_tryWay0 {σ0 : AHp} {p st : Nat} {T : Tb} {fs : Int32} {w tp : Nat → Nat} {f1 f2 : Nat → Int32} {R : Rs} (hT0 : TbP σ0 p T) (ok : TbOk T) (hp : 254 ≤ p) (hPc : PcR σ0 st fs w tp f1 f2 R) {a : Nat} (ha : a < T.g) (hi : w 0 < T.g) (hs : tp 0 < T.n) (hj : w 1 < T.g) (hu : tp 1 < T.n) : EvW M_X3_tryWay [.ref 245, .ref p, .int (nI a), .int (nI 0)] σ0 none (fun σ => (∃ R', PcR σ st fs w tp (upd f1 0 (g1W T a (w 0) (tp 0) (w 1) (tp 1) 0)) (upd f2 0 (g2W T a (w 0) (tp 0) (w 1) (tp 1) 0)) R') ∧ Fr σ0 σ 245 9) := by
  obtain ⟨hP, hw, ht, h1, h2, hRP⟩ := id hPc
  obtain ⟨hr0, hR, -⟩ := id hRP
  obtain ⟨hp0, hT, -⟩ := id hT0
  have hfr : ∀ j, j < 245 ∨ 254 ≤ j → σ0 j = σ0 j := fun _ _ => rfl
  have hg8 := ok.2.1
  have hso := so_lt ok
  refine Ev.of (ls := [_, _, _, _, _, _, _]) 3 (by decide) rfl rfl ?_
  refine R_iload_n a_X3_tryWay_0 rfl ?_
  refine R_iconst (v := nI 2) a_X3_tryWay_1 rfl ?_
  refine R_iand a_X3_tryWay_2 (R_top (y := nI 0) rfl ?_)
  first | with_reducible refine R_if_ne_n a_X3_tryWay_3 (by omega) (fun h3 => ?_) (fun h3 => ?_) | refine R_if_ne a_X3_tryWay_3 (fun h3 => ?_) (fun h3 => ?_)
  · skip
    exact absurd h3 (by decide)
  · skip
    refine R_iconst (v := nI 1) a_X3_tryWay_6 rfl ?_
    refine R_goto a_X3_tryWay_7 ?_
    refine R_istore (ls' := [_, _, _, _, _, _, _]) a_X3_tryWay_11 rfl rfl rfl ?_
    refine R_iload_n a_X3_tryWay_13 rfl ?_
    refine R_iconst (v := nI 1) a_X3_tryWay_14 rfl ?_
    refine R_iand a_X3_tryWay_15 (R_top (y := nI 0) rfl ?_)
    first | with_reducible refine R_if_ne_n a_X3_tryWay_16 (by omega) (fun h16 => ?_) (fun h16 => ?_) | refine R_if_ne a_X3_tryWay_16 (fun h16 => ?_) (fun h16 => ?_)
    · skip
      exact absurd h16 (by decide)
    · skip
      refine R_iconst (v := nI 1) a_X3_tryWay_19 rfl ?_
      refine R_goto a_X3_tryWay_20 ?_
      refine R_istore (ls' := [_, _, _, _, _, _, _]) a_X3_tryWay_24 rfl rfl rfl ?_
      refine R_aload_n a_X3_tryWay_26 rfl ?_
      refine R_get a_X3_tryWay_27 hP rfl ?_
      refine R_callVv a_X3_tryWay_30 hR (ev_Rclear hRP) rfl rfl rfl rfl rfl (fun σ hP_ => ?_)
      obtain ⟨hRP, hfA⟩ := hP_
      obtain ⟨hr0, hR, -⟩ := id hRP
      have hP := (hfA _ (by omega)).trans hP
      have hw := (hfA _ (by omega)).trans hw
      have ht := (hfA _ (by omega)).trans ht
      have h1 := (hfA _ (by omega)).trans h1
      have h2 := (hfA _ (by omega)).trans h2
      have hfr : ∀ j, j < 245 ∨ 254 ≤ j → σ j = σ0 j := fun j hj => (hfA j (by omega)).trans (hfr j hj)
      have hTP : TbP σ p T := hT0.kept (fun j h1 h2 => hfr j (by omega))
      obtain ⟨hp0, hT, -⟩ := id hTP
      refine R_iload a_X3_tryWay_33 rfl ?_
      first | with_reducible refine R_if_eq_n a_X3_tryWay_35 (by omega) (fun h35 => ?_) (fun h35 => ?_) | refine R_if_eq a_X3_tryWay_35 (fun h35 => ?_) (fun h35 => ?_)
      · skip
        exact absurd h35 (by decide)
      · skip
        refine R_aload_n a_X3_tryWay_38 rfl ?_
        refine R_aload_n a_X3_tryWay_39 rfl ?_
        refine R_iconst (v := nI 0) a_X3_tryWay_40 rfl ?_
        refine R_callVv a_X3_tryWay_41 hP (ev_lie hTP ok hp ⟨hP, hw, ht, h1, h2, hRP⟩ (k := 0) (by decide) hs (show 0 < 2 by decide)) rfl rfl rfl rfl rfl (fun σ hP_ => ?_)
        obtain ⟨hPc, hfA⟩ := hP_
        obtain ⟨hP, hw, ht, h1, h2, hRP⟩ := id hPc
        obtain ⟨hr0, hR, -⟩ := id hRP
        have hfr : ∀ j, j < 245 ∨ 254 ≤ j → σ j = σ0 j := fun j hj => (hfA j (by omega)).trans (hfr j hj)
        have hTP : TbP σ p T := hT0.kept (fun j h1 h2 => hfr j (by omega))
        obtain ⟨hp0, hT, -⟩ := id hTP
        refine R_iload a_X3_tryWay_44 rfl ?_
        first | with_reducible refine R_if_eq_n a_X3_tryWay_46 (by omega) (fun h46 => ?_) (fun h46 => ?_) | refine R_if_eq a_X3_tryWay_46 (fun h46 => ?_) (fun h46 => ?_)
        · skip
          exact absurd h46 (by decide)
        · skip
          refine R_aload_n a_X3_tryWay_49 rfl ?_
          refine R_aload_n a_X3_tryWay_50 rfl ?_
          refine R_iconst (v := nI 1) a_X3_tryWay_51 rfl ?_
          refine R_callVv a_X3_tryWay_52 hP (ev_lie hTP ok hp ⟨hP, hw, ht, h1, h2, hRP⟩ (k := 1) (by decide) hu (show 1 < 2 by decide)) rfl rfl rfl rfl rfl (fun σ hP_ => ?_)
          obtain ⟨hPc, hfA⟩ := hP_
          obtain ⟨hP, hw, ht, h1, h2, hRP⟩ := id hPc
          obtain ⟨hr0, hR, -⟩ := id hRP
          have hfr : ∀ j, j < 245 ∨ 254 ≤ j → σ j = σ0 j := fun j hj => (hfA j (by omega)).trans (hfr j hj)
          have hTP : TbP σ p T := hT0.kept (fun j h1 h2 => hfr j (by omega))
          obtain ⟨hp0, hT, -⟩ := id hTP
          obtain ⟨Rz, hRz⟩ : ∃ Rz, Rz = _ := ⟨_, rfl⟩
          have hRP9 : RdP σ 250 Rz := by rw [hRz]; exact hRP
          have hok9 : RdOk T Rz := by rw [hRz]; exact ⟨(by decide : 2 ≤ 2), fun k hk => by
            rcases (show k = 0 ∨ k = 1 by have : k < 2 := hk; omega) with rfl | rfl
            · exact ⟨hi, hs, Nat.sub_le 1 _⟩
            · exact ⟨hj, hu, Nat.sub_le 1 _⟩⟩
          have hland : EvP M_X8_landing [.ref p, .int (nI T.law), .int (nI T.so), .int (nI a), .ref 250] σ (.int (nI (toW T a (w 0) (tp 0) (w 1) (tp 1) 0))) := by
            have := ev_landing hTP ok hRP9 hok9 ha (show T.so < 2 ^ 31 by omega) ok.2.2.2.2.1
            rw [hRz] at this
            exact this
          have hto : toW T a (w 0) (tp 0) (w 1) (tp 1) 0 < T.g := comesF_lt (by omega) ha
          refine R_aload_n a_X3_tryWay_55 rfl ?_
          refine R_aload_n a_X3_tryWay_56 rfl ?_
          refine R_get a_X3_tryWay_57 hT rfl ?_
          refine R_aload_n a_X3_tryWay_60 rfl ?_
          refine R_get a_X3_tryWay_61 hT rfl ?_
          refine R_iload_n a_X3_tryWay_64 rfl ?_
          refine R_aload_n a_X3_tryWay_65 rfl ?_
          refine R_get a_X3_tryWay_66 hP rfl ?_
          refine R_callVp a_X3_tryWay_69 hT hland rfl rfl rfl rfl rfl ?_
          refine R_istore (ls' := [_, _, _, _, _, _, _]) a_X3_tryWay_72 rfl rfl rfl ?_
          refine R_aload_n a_X3_tryWay_74 rfl ?_
          refine R_get a_X3_tryWay_75 hP rfl ?_
          refine R_iload_n a_X3_tryWay_78 rfl ?_
          refine R_aload_n a_X3_tryWay_79 rfl ?_
          refine R_aload_n a_X3_tryWay_80 rfl ?_
          refine R_iconst (v := nI 0) a_X3_tryWay_81 rfl ?_
          refine R_iload a_X3_tryWay_82 rfl ?_
          refine R_iload a_X3_tryWay_84 rfl ?_
          refine R_callVp a_X3_tryWay_86 hP (show EvP M_X3_gain [.ref 245, .ref p, .int (nI 0), .int (nI (toW T a (w 0) (tp 0) (w 1) (tp 1) 0)), .int (nI 1)] σ (.int (g1W T a (w 0) (tp 0) (w 1) (tp 1) 0)) from ev_gain hTP ok hp ⟨hP, hw, ht, h1, h2, hRP⟩ (k := 0) (l := true) (by decide) hi hs hto) rfl rfl rfl rfl rfl ?_
          refine R_iastK a_X3_tryWay_89 (by omega) h1 (by omega) (by decide) (fun σ h1 ho => ?_)
          have hP := (ho _ (by omega)).trans hP
          have hw := (ho _ (by omega)).trans hw
          have ht := (ho _ (by omega)).trans ht
          have h2 := (ho _ (by omega)).trans h2
          have hfr : ∀ j, j < 245 ∨ 254 ≤ j → σ j = σ0 j := fun j hj => (ho j (by omega)).trans (hfr j hj)
          have hRP := hRP.kept (fun j h1 h2 => ho j (by omega))
          refine R_aload_n a_X3_tryWay_90 rfl ?_
          refine R_get a_X3_tryWay_91 hP rfl ?_
          refine R_iload_n a_X3_tryWay_94 rfl ?_
          refine R_aload_n a_X3_tryWay_95 rfl ?_
          refine R_aload_n a_X3_tryWay_96 rfl ?_
          refine R_iconst (v := nI 1) a_X3_tryWay_97 rfl ?_
          refine R_iload a_X3_tryWay_98 rfl ?_
          refine R_iload a_X3_tryWay_100 rfl ?_
          refine R_callVp a_X3_tryWay_102 hP (show EvP M_X3_gain [.ref 245, .ref p, .int (nI 1), .int (nI (toW T a (w 0) (tp 0) (w 1) (tp 1) 0)), .int (nI 1)] σ (.int (g2W T a (w 0) (tp 0) (w 1) (tp 1) 0)) from ev_gain (hTP.kept (fun j h1 h2 => ho j (by omega))) ok hp ⟨hP, hw, ht, h1, h2, hRP⟩ (k := 1) (l := true) (by decide) hj hu hto) rfl rfl rfl rfl rfl ?_
          refine R_iastK a_X3_tryWay_105 (by omega) h2 (by omega) (by decide) (fun σ h2 ho => ?_)
          have hP := (ho _ (by omega)).trans hP
          have hw := (ho _ (by omega)).trans hw
          have ht := (ho _ (by omega)).trans ht
          have h1 := (ho _ (by omega)).trans h1
          have hfr : ∀ j, j < 245 ∨ 254 ≤ j → σ j = σ0 j := fun j hj => (ho j (by omega)).trans (hfr j hj)
          have hRP := hRP.kept (fun j h1 h2 => ho j (by omega))
          refine R_vret a_X3_tryWay_106 rfl ?_
          exact ⟨rfl, ⟨_, hP, hw, ht, h1, h2, hRP⟩, hfr⟩

set_option maxRecDepth 20000 in
theorem ev_tryWay1 {σ0 : AHp} {p st : Nat} {T : Tb} {fs : Int32} {w tp : Nat → Nat} {f1 f2 : Nat → Int32} {R : Rs} (hT0 : TbP σ0 p T) (ok : TbOk T) (hp : 254 ≤ p) (hPc : PcR σ0 st fs w tp f1 f2 R) {a : Nat} (ha : a < T.g) (hi : w 0 < T.g) (hs : tp 0 < T.n) (hj : w 1 < T.g) (hu : tp 1 < T.n) : EvW M_X3_tryWay [.ref 245, .ref p, .int (nI a), .int (nI 1)] σ0 none (fun σ => (∃ R', PcR σ st fs w tp (upd f1 1 (g1W T a (w 0) (tp 0) (w 1) (tp 1) 1)) (upd f2 1 (g2W T a (w 0) (tp 0) (w 1) (tp 1) 1)) R') ∧ Fr σ0 σ 245 9) := by
  obtain ⟨hP, hw, ht, h1, h2, hRP⟩ := id hPc
  obtain ⟨hr0, hR, -⟩ := id hRP
  obtain ⟨hp0, hT, -⟩ := id hT0
  have hfr : ∀ j, j < 245 ∨ 254 ≤ j → σ0 j = σ0 j := fun _ _ => rfl
  have hg8 := ok.2.1
  have hso := so_lt ok
  refine Ev.of (ls := [_, _, _, _, _, _, _]) 3 (by decide) rfl rfl ?_
  refine R_iload_n a_X3_tryWay_0 rfl ?_
  refine R_iconst (v := nI 2) a_X3_tryWay_1 rfl ?_
  refine R_iand a_X3_tryWay_2 (R_top (y := nI 0) rfl ?_)
  first | with_reducible refine R_if_ne_n a_X3_tryWay_3 (by omega) (fun h3 => ?_) (fun h3 => ?_) | refine R_if_ne a_X3_tryWay_3 (fun h3 => ?_) (fun h3 => ?_)
  · skip
    exact absurd h3 (by decide)
  · skip
    refine R_iconst (v := nI 1) a_X3_tryWay_6 rfl ?_
    refine R_goto a_X3_tryWay_7 ?_
    refine R_istore (ls' := [_, _, _, _, _, _, _]) a_X3_tryWay_11 rfl rfl rfl ?_
    refine R_iload_n a_X3_tryWay_13 rfl ?_
    refine R_iconst (v := nI 1) a_X3_tryWay_14 rfl ?_
    refine R_iand a_X3_tryWay_15 (R_top (y := nI 1) rfl ?_)
    first | with_reducible refine R_if_ne_n a_X3_tryWay_16 (by omega) (fun h16 => ?_) (fun h16 => ?_) | refine R_if_ne a_X3_tryWay_16 (fun h16 => ?_) (fun h16 => ?_)
    · skip
      refine R_iconst (v := nI 0) a_X3_tryWay_23 rfl ?_
      refine R_istore (ls' := [_, _, _, _, _, _, _]) a_X3_tryWay_24 rfl rfl rfl ?_
      refine R_aload_n a_X3_tryWay_26 rfl ?_
      refine R_get a_X3_tryWay_27 hP rfl ?_
      refine R_callVv a_X3_tryWay_30 hR (ev_Rclear hRP) rfl rfl rfl rfl rfl (fun σ hP_ => ?_)
      obtain ⟨hRP, hfA⟩ := hP_
      obtain ⟨hr0, hR, -⟩ := id hRP
      have hP := (hfA _ (by omega)).trans hP
      have hw := (hfA _ (by omega)).trans hw
      have ht := (hfA _ (by omega)).trans ht
      have h1 := (hfA _ (by omega)).trans h1
      have h2 := (hfA _ (by omega)).trans h2
      have hfr : ∀ j, j < 245 ∨ 254 ≤ j → σ j = σ0 j := fun j hj => (hfA j (by omega)).trans (hfr j hj)
      have hTP : TbP σ p T := hT0.kept (fun j h1 h2 => hfr j (by omega))
      obtain ⟨hp0, hT, -⟩ := id hTP
      refine R_iload a_X3_tryWay_33 rfl ?_
      first | with_reducible refine R_if_eq_n a_X3_tryWay_35 (by omega) (fun h35 => ?_) (fun h35 => ?_) | refine R_if_eq a_X3_tryWay_35 (fun h35 => ?_) (fun h35 => ?_)
      · skip
        exact absurd h35 (by decide)
      · skip
        refine R_aload_n a_X3_tryWay_38 rfl ?_
        refine R_aload_n a_X3_tryWay_39 rfl ?_
        refine R_iconst (v := nI 0) a_X3_tryWay_40 rfl ?_
        refine R_callVv a_X3_tryWay_41 hP (ev_lie hTP ok hp ⟨hP, hw, ht, h1, h2, hRP⟩ (k := 0) (by decide) hs (show 0 < 2 by decide)) rfl rfl rfl rfl rfl (fun σ hP_ => ?_)
        obtain ⟨hPc, hfA⟩ := hP_
        obtain ⟨hP, hw, ht, h1, h2, hRP⟩ := id hPc
        obtain ⟨hr0, hR, -⟩ := id hRP
        have hfr : ∀ j, j < 245 ∨ 254 ≤ j → σ j = σ0 j := fun j hj => (hfA j (by omega)).trans (hfr j hj)
        have hTP : TbP σ p T := hT0.kept (fun j h1 h2 => hfr j (by omega))
        obtain ⟨hp0, hT, -⟩ := id hTP
        refine R_iload a_X3_tryWay_44 rfl ?_
        first | with_reducible refine R_if_eq_n a_X3_tryWay_46 (by omega) (fun h46 => ?_) (fun h46 => ?_) | refine R_if_eq a_X3_tryWay_46 (fun h46 => ?_) (fun h46 => ?_)
        · skip
          obtain ⟨Rz, hRz⟩ : ∃ Rz, Rz = _ := ⟨_, rfl⟩
          have hRP9 : RdP σ 250 Rz := by rw [hRz]; exact hRP
          have hok9 : RdOk T Rz := by rw [hRz]; exact ⟨(by decide : 1 ≤ 2), fun k hk => by
            obtain rfl : k = 0 := by have : k < 1 := hk; omega
            exact ⟨hi, hs, Nat.sub_le 1 _⟩⟩
          have hland : EvP M_X8_landing [.ref p, .int (nI T.law), .int (nI T.so), .int (nI a), .ref 250] σ (.int (nI (toW T a (w 0) (tp 0) (w 1) (tp 1) 1))) := by
            have := ev_landing hTP ok hRP9 hok9 ha (show T.so < 2 ^ 31 by omega) ok.2.2.2.2.1
            rw [hRz] at this
            exact this
          have hto : toW T a (w 0) (tp 0) (w 1) (tp 1) 1 < T.g := comesF_lt (by omega) ha
          refine R_aload_n a_X3_tryWay_55 rfl ?_
          refine R_aload_n a_X3_tryWay_56 rfl ?_
          refine R_get a_X3_tryWay_57 hT rfl ?_
          refine R_aload_n a_X3_tryWay_60 rfl ?_
          refine R_get a_X3_tryWay_61 hT rfl ?_
          refine R_iload_n a_X3_tryWay_64 rfl ?_
          refine R_aload_n a_X3_tryWay_65 rfl ?_
          refine R_get a_X3_tryWay_66 hP rfl ?_
          refine R_callVp a_X3_tryWay_69 hT hland rfl rfl rfl rfl rfl ?_
          refine R_istore (ls' := [_, _, _, _, _, _, _]) a_X3_tryWay_72 rfl rfl rfl ?_
          refine R_aload_n a_X3_tryWay_74 rfl ?_
          refine R_get a_X3_tryWay_75 hP rfl ?_
          refine R_iload_n a_X3_tryWay_78 rfl ?_
          refine R_aload_n a_X3_tryWay_79 rfl ?_
          refine R_aload_n a_X3_tryWay_80 rfl ?_
          refine R_iconst (v := nI 0) a_X3_tryWay_81 rfl ?_
          refine R_iload a_X3_tryWay_82 rfl ?_
          refine R_iload a_X3_tryWay_84 rfl ?_
          refine R_callVp a_X3_tryWay_86 hP (show EvP M_X3_gain [.ref 245, .ref p, .int (nI 0), .int (nI (toW T a (w 0) (tp 0) (w 1) (tp 1) 1)), .int (nI 1)] σ (.int (g1W T a (w 0) (tp 0) (w 1) (tp 1) 1)) from ev_gain hTP ok hp ⟨hP, hw, ht, h1, h2, hRP⟩ (k := 0) (l := true) (by decide) hi hs hto) rfl rfl rfl rfl rfl ?_
          refine R_iastK a_X3_tryWay_89 (by omega) h1 (by omega) (by decide) (fun σ h1 ho => ?_)
          have hP := (ho _ (by omega)).trans hP
          have hw := (ho _ (by omega)).trans hw
          have ht := (ho _ (by omega)).trans ht
          have h2 := (ho _ (by omega)).trans h2
          have hfr : ∀ j, j < 245 ∨ 254 ≤ j → σ j = σ0 j := fun j hj => (ho j (by omega)).trans (hfr j hj)
          have hRP := hRP.kept (fun j h1 h2 => ho j (by omega))
          refine R_aload_n a_X3_tryWay_90 rfl ?_
          refine R_get a_X3_tryWay_91 hP rfl ?_
          refine R_iload_n a_X3_tryWay_94 rfl ?_
          refine R_aload_n a_X3_tryWay_95 rfl ?_
          refine R_aload_n a_X3_tryWay_96 rfl ?_
          refine R_iconst (v := nI 1) a_X3_tryWay_97 rfl ?_
          refine R_iload a_X3_tryWay_98 rfl ?_
          refine R_iload a_X3_tryWay_100 rfl ?_
          refine R_callVp a_X3_tryWay_102 hP (show EvP M_X3_gain [.ref 245, .ref p, .int (nI 1), .int (nI (toW T a (w 0) (tp 0) (w 1) (tp 1) 1)), .int (nI 0)] σ (.int (g2W T a (w 0) (tp 0) (w 1) (tp 1) 1)) from ev_gain (hTP.kept (fun j h1 h2 => ho j (by omega))) ok hp ⟨hP, hw, ht, h1, h2, hRP⟩ (k := 1) (l := false) (by decide) hj hu hto) rfl rfl rfl rfl rfl ?_
          refine R_iastK a_X3_tryWay_105 (by omega) h2 (by omega) (by decide) (fun σ h2 ho => ?_)
          have hP := (ho _ (by omega)).trans hP
          have hw := (ho _ (by omega)).trans hw
          have ht := (ho _ (by omega)).trans ht
          have h1 := (ho _ (by omega)).trans h1
          have hfr : ∀ j, j < 245 ∨ 254 ≤ j → σ j = σ0 j := fun j hj => (ho j (by omega)).trans (hfr j hj)
          have hRP := hRP.kept (fun j h1 h2 => ho j (by omega))
          refine R_vret a_X3_tryWay_106 rfl ?_
          exact ⟨rfl, ⟨_, hP, hw, ht, h1, h2, hRP⟩, hfr⟩
        · skip
          exact absurd h46 (by decide)
    · skip
      exact absurd h16 (by decide)

set_option maxRecDepth 20000 in
theorem ev_tryWay2 {σ0 : AHp} {p st : Nat} {T : Tb} {fs : Int32} {w tp : Nat → Nat} {f1 f2 : Nat → Int32} {R : Rs} (hT0 : TbP σ0 p T) (ok : TbOk T) (hp : 254 ≤ p) (hPc : PcR σ0 st fs w tp f1 f2 R) {a : Nat} (ha : a < T.g) (hi : w 0 < T.g) (hs : tp 0 < T.n) (hj : w 1 < T.g) (hu : tp 1 < T.n) : EvW M_X3_tryWay [.ref 245, .ref p, .int (nI a), .int (nI 2)] σ0 none (fun σ => (∃ R', PcR σ st fs w tp (upd f1 2 (g1W T a (w 0) (tp 0) (w 1) (tp 1) 2)) (upd f2 2 (g2W T a (w 0) (tp 0) (w 1) (tp 1) 2)) R') ∧ Fr σ0 σ 245 9) := by
  obtain ⟨hP, hw, ht, h1, h2, hRP⟩ := id hPc
  obtain ⟨hr0, hR, -⟩ := id hRP
  obtain ⟨hp0, hT, -⟩ := id hT0
  have hfr : ∀ j, j < 245 ∨ 254 ≤ j → σ0 j = σ0 j := fun _ _ => rfl
  have hg8 := ok.2.1
  have hso := so_lt ok
  refine Ev.of (ls := [_, _, _, _, _, _, _]) 3 (by decide) rfl rfl ?_
  refine R_iload_n a_X3_tryWay_0 rfl ?_
  refine R_iconst (v := nI 2) a_X3_tryWay_1 rfl ?_
  refine R_iand a_X3_tryWay_2 (R_top (y := nI 2) rfl ?_)
  first | with_reducible refine R_if_ne_n a_X3_tryWay_3 (by omega) (fun h3 => ?_) (fun h3 => ?_) | refine R_if_ne a_X3_tryWay_3 (fun h3 => ?_) (fun h3 => ?_)
  · skip
    refine R_iconst (v := nI 0) a_X3_tryWay_10 rfl ?_
    refine R_istore (ls' := [_, _, _, _, _, _, _]) a_X3_tryWay_11 rfl rfl rfl ?_
    refine R_iload_n a_X3_tryWay_13 rfl ?_
    refine R_iconst (v := nI 1) a_X3_tryWay_14 rfl ?_
    refine R_iand a_X3_tryWay_15 (R_top (y := nI 0) rfl ?_)
    first | with_reducible refine R_if_ne_n a_X3_tryWay_16 (by omega) (fun h16 => ?_) (fun h16 => ?_) | refine R_if_ne a_X3_tryWay_16 (fun h16 => ?_) (fun h16 => ?_)
    · skip
      exact absurd h16 (by decide)
    · skip
      refine R_iconst (v := nI 1) a_X3_tryWay_19 rfl ?_
      refine R_goto a_X3_tryWay_20 ?_
      refine R_istore (ls' := [_, _, _, _, _, _, _]) a_X3_tryWay_24 rfl rfl rfl ?_
      refine R_aload_n a_X3_tryWay_26 rfl ?_
      refine R_get a_X3_tryWay_27 hP rfl ?_
      refine R_callVv a_X3_tryWay_30 hR (ev_Rclear hRP) rfl rfl rfl rfl rfl (fun σ hP_ => ?_)
      obtain ⟨hRP, hfA⟩ := hP_
      obtain ⟨hr0, hR, -⟩ := id hRP
      have hP := (hfA _ (by omega)).trans hP
      have hw := (hfA _ (by omega)).trans hw
      have ht := (hfA _ (by omega)).trans ht
      have h1 := (hfA _ (by omega)).trans h1
      have h2 := (hfA _ (by omega)).trans h2
      have hfr : ∀ j, j < 245 ∨ 254 ≤ j → σ j = σ0 j := fun j hj => (hfA j (by omega)).trans (hfr j hj)
      have hTP : TbP σ p T := hT0.kept (fun j h1 h2 => hfr j (by omega))
      obtain ⟨hp0, hT, -⟩ := id hTP
      refine R_iload a_X3_tryWay_33 rfl ?_
      first | with_reducible refine R_if_eq_n a_X3_tryWay_35 (by omega) (fun h35 => ?_) (fun h35 => ?_) | refine R_if_eq a_X3_tryWay_35 (fun h35 => ?_) (fun h35 => ?_)
      · skip
        refine R_iload a_X3_tryWay_44 rfl ?_
        first | with_reducible refine R_if_eq_n a_X3_tryWay_46 (by omega) (fun h46 => ?_) (fun h46 => ?_) | refine R_if_eq a_X3_tryWay_46 (fun h46 => ?_) (fun h46 => ?_)
        · skip
          exact absurd h46 (by decide)
        · skip
          refine R_aload_n a_X3_tryWay_49 rfl ?_
          refine R_aload_n a_X3_tryWay_50 rfl ?_
          refine R_iconst (v := nI 1) a_X3_tryWay_51 rfl ?_
          refine R_callVv a_X3_tryWay_52 hP (ev_lie hTP ok hp ⟨hP, hw, ht, h1, h2, hRP⟩ (k := 1) (by decide) hu (show 0 < 2 by decide)) rfl rfl rfl rfl rfl (fun σ hP_ => ?_)
          obtain ⟨hPc, hfA⟩ := hP_
          obtain ⟨hP, hw, ht, h1, h2, hRP⟩ := id hPc
          obtain ⟨hr0, hR, -⟩ := id hRP
          have hfr : ∀ j, j < 245 ∨ 254 ≤ j → σ j = σ0 j := fun j hj => (hfA j (by omega)).trans (hfr j hj)
          have hTP : TbP σ p T := hT0.kept (fun j h1 h2 => hfr j (by omega))
          obtain ⟨hp0, hT, -⟩ := id hTP
          obtain ⟨Rz, hRz⟩ : ∃ Rz, Rz = _ := ⟨_, rfl⟩
          have hRP9 : RdP σ 250 Rz := by rw [hRz]; exact hRP
          have hok9 : RdOk T Rz := by rw [hRz]; exact ⟨(by decide : 1 ≤ 2), fun k hk => by
            obtain rfl : k = 0 := by have : k < 1 := hk; omega
            exact ⟨hj, hu, Nat.sub_le 1 _⟩⟩
          have hland : EvP M_X8_landing [.ref p, .int (nI T.law), .int (nI T.so), .int (nI a), .ref 250] σ (.int (nI (toW T a (w 0) (tp 0) (w 1) (tp 1) 2))) := by
            have := ev_landing hTP ok hRP9 hok9 ha (show T.so < 2 ^ 31 by omega) ok.2.2.2.2.1
            rw [hRz] at this
            exact this
          have hto : toW T a (w 0) (tp 0) (w 1) (tp 1) 2 < T.g := comesF_lt (by omega) ha
          refine R_aload_n a_X3_tryWay_55 rfl ?_
          refine R_aload_n a_X3_tryWay_56 rfl ?_
          refine R_get a_X3_tryWay_57 hT rfl ?_
          refine R_aload_n a_X3_tryWay_60 rfl ?_
          refine R_get a_X3_tryWay_61 hT rfl ?_
          refine R_iload_n a_X3_tryWay_64 rfl ?_
          refine R_aload_n a_X3_tryWay_65 rfl ?_
          refine R_get a_X3_tryWay_66 hP rfl ?_
          refine R_callVp a_X3_tryWay_69 hT hland rfl rfl rfl rfl rfl ?_
          refine R_istore (ls' := [_, _, _, _, _, _, _]) a_X3_tryWay_72 rfl rfl rfl ?_
          refine R_aload_n a_X3_tryWay_74 rfl ?_
          refine R_get a_X3_tryWay_75 hP rfl ?_
          refine R_iload_n a_X3_tryWay_78 rfl ?_
          refine R_aload_n a_X3_tryWay_79 rfl ?_
          refine R_aload_n a_X3_tryWay_80 rfl ?_
          refine R_iconst (v := nI 0) a_X3_tryWay_81 rfl ?_
          refine R_iload a_X3_tryWay_82 rfl ?_
          refine R_iload a_X3_tryWay_84 rfl ?_
          refine R_callVp a_X3_tryWay_86 hP (show EvP M_X3_gain [.ref 245, .ref p, .int (nI 0), .int (nI (toW T a (w 0) (tp 0) (w 1) (tp 1) 2)), .int (nI 0)] σ (.int (g1W T a (w 0) (tp 0) (w 1) (tp 1) 2)) from ev_gain hTP ok hp ⟨hP, hw, ht, h1, h2, hRP⟩ (k := 0) (l := false) (by decide) hi hs hto) rfl rfl rfl rfl rfl ?_
          refine R_iastK a_X3_tryWay_89 (by omega) h1 (by omega) (by decide) (fun σ h1 ho => ?_)
          have hP := (ho _ (by omega)).trans hP
          have hw := (ho _ (by omega)).trans hw
          have ht := (ho _ (by omega)).trans ht
          have h2 := (ho _ (by omega)).trans h2
          have hfr : ∀ j, j < 245 ∨ 254 ≤ j → σ j = σ0 j := fun j hj => (ho j (by omega)).trans (hfr j hj)
          have hRP := hRP.kept (fun j h1 h2 => ho j (by omega))
          refine R_aload_n a_X3_tryWay_90 rfl ?_
          refine R_get a_X3_tryWay_91 hP rfl ?_
          refine R_iload_n a_X3_tryWay_94 rfl ?_
          refine R_aload_n a_X3_tryWay_95 rfl ?_
          refine R_aload_n a_X3_tryWay_96 rfl ?_
          refine R_iconst (v := nI 1) a_X3_tryWay_97 rfl ?_
          refine R_iload a_X3_tryWay_98 rfl ?_
          refine R_iload a_X3_tryWay_100 rfl ?_
          refine R_callVp a_X3_tryWay_102 hP (show EvP M_X3_gain [.ref 245, .ref p, .int (nI 1), .int (nI (toW T a (w 0) (tp 0) (w 1) (tp 1) 2)), .int (nI 1)] σ (.int (g2W T a (w 0) (tp 0) (w 1) (tp 1) 2)) from ev_gain (hTP.kept (fun j h1 h2 => ho j (by omega))) ok hp ⟨hP, hw, ht, h1, h2, hRP⟩ (k := 1) (l := true) (by decide) hj hu hto) rfl rfl rfl rfl rfl ?_
          refine R_iastK a_X3_tryWay_105 (by omega) h2 (by omega) (by decide) (fun σ h2 ho => ?_)
          have hP := (ho _ (by omega)).trans hP
          have hw := (ho _ (by omega)).trans hw
          have ht := (ho _ (by omega)).trans ht
          have h1 := (ho _ (by omega)).trans h1
          have hfr : ∀ j, j < 245 ∨ 254 ≤ j → σ j = σ0 j := fun j hj => (ho j (by omega)).trans (hfr j hj)
          have hRP := hRP.kept (fun j h1 h2 => ho j (by omega))
          refine R_vret a_X3_tryWay_106 rfl ?_
          exact ⟨rfl, ⟨_, hP, hw, ht, h1, h2, hRP⟩, hfr⟩
      · skip
        exact absurd h35 (by decide)
  · skip
    exact absurd h3 (by decide)

set_option maxRecDepth 20000 in
theorem ev_tryWay3 {σ0 : AHp} {p st : Nat} {T : Tb} {fs : Int32} {w tp : Nat → Nat} {f1 f2 : Nat → Int32} {R : Rs} (hT0 : TbP σ0 p T) (ok : TbOk T) (hp : 254 ≤ p) (hPc : PcR σ0 st fs w tp f1 f2 R) {a : Nat} (ha : a < T.g) (hi : w 0 < T.g) (hs : tp 0 < T.n) (hj : w 1 < T.g) (hu : tp 1 < T.n) : EvW M_X3_tryWay [.ref 245, .ref p, .int (nI a), .int (nI 3)] σ0 none (fun σ => (∃ R', PcR σ st fs w tp (upd f1 3 (g1W T a (w 0) (tp 0) (w 1) (tp 1) 3)) (upd f2 3 (g2W T a (w 0) (tp 0) (w 1) (tp 1) 3)) R') ∧ Fr σ0 σ 245 9) := by
  obtain ⟨hP, hw, ht, h1, h2, hRP⟩ := id hPc
  obtain ⟨hr0, hR, -⟩ := id hRP
  obtain ⟨hp0, hT, -⟩ := id hT0
  have hfr : ∀ j, j < 245 ∨ 254 ≤ j → σ0 j = σ0 j := fun _ _ => rfl
  have hg8 := ok.2.1
  have hso := so_lt ok
  refine Ev.of (ls := [_, _, _, _, _, _, _]) 3 (by decide) rfl rfl ?_
  refine R_iload_n a_X3_tryWay_0 rfl ?_
  refine R_iconst (v := nI 2) a_X3_tryWay_1 rfl ?_
  refine R_iand a_X3_tryWay_2 (R_top (y := nI 2) rfl ?_)
  first | with_reducible refine R_if_ne_n a_X3_tryWay_3 (by omega) (fun h3 => ?_) (fun h3 => ?_) | refine R_if_ne a_X3_tryWay_3 (fun h3 => ?_) (fun h3 => ?_)
  · skip
    refine R_iconst (v := nI 0) a_X3_tryWay_10 rfl ?_
    refine R_istore (ls' := [_, _, _, _, _, _, _]) a_X3_tryWay_11 rfl rfl rfl ?_
    refine R_iload_n a_X3_tryWay_13 rfl ?_
    refine R_iconst (v := nI 1) a_X3_tryWay_14 rfl ?_
    refine R_iand a_X3_tryWay_15 (R_top (y := nI 1) rfl ?_)
    first | with_reducible refine R_if_ne_n a_X3_tryWay_16 (by omega) (fun h16 => ?_) (fun h16 => ?_) | refine R_if_ne a_X3_tryWay_16 (fun h16 => ?_) (fun h16 => ?_)
    · skip
      refine R_iconst (v := nI 0) a_X3_tryWay_23 rfl ?_
      refine R_istore (ls' := [_, _, _, _, _, _, _]) a_X3_tryWay_24 rfl rfl rfl ?_
      refine R_aload_n a_X3_tryWay_26 rfl ?_
      refine R_get a_X3_tryWay_27 hP rfl ?_
      refine R_callVv a_X3_tryWay_30 hR (ev_Rclear hRP) rfl rfl rfl rfl rfl (fun σ hP_ => ?_)
      obtain ⟨hRP, hfA⟩ := hP_
      obtain ⟨hr0, hR, -⟩ := id hRP
      have hP := (hfA _ (by omega)).trans hP
      have hw := (hfA _ (by omega)).trans hw
      have ht := (hfA _ (by omega)).trans ht
      have h1 := (hfA _ (by omega)).trans h1
      have h2 := (hfA _ (by omega)).trans h2
      have hfr : ∀ j, j < 245 ∨ 254 ≤ j → σ j = σ0 j := fun j hj => (hfA j (by omega)).trans (hfr j hj)
      have hTP : TbP σ p T := hT0.kept (fun j h1 h2 => hfr j (by omega))
      obtain ⟨hp0, hT, -⟩ := id hTP
      refine R_iload a_X3_tryWay_33 rfl ?_
      first | with_reducible refine R_if_eq_n a_X3_tryWay_35 (by omega) (fun h35 => ?_) (fun h35 => ?_) | refine R_if_eq a_X3_tryWay_35 (fun h35 => ?_) (fun h35 => ?_)
      · skip
        refine R_iload a_X3_tryWay_44 rfl ?_
        first | with_reducible refine R_if_eq_n a_X3_tryWay_46 (by omega) (fun h46 => ?_) (fun h46 => ?_) | refine R_if_eq a_X3_tryWay_46 (fun h46 => ?_) (fun h46 => ?_)
        · skip
          obtain ⟨Rz, hRz⟩ : ∃ Rz, Rz = _ := ⟨_, rfl⟩
          have hRP9 : RdP σ 250 Rz := by rw [hRz]; exact hRP
          have hok9 : RdOk T Rz := by rw [hRz]; exact ⟨(by decide : 0 ≤ 2), fun k hk => absurd hk (Nat.not_lt_zero k)⟩
          have hland : EvP M_X8_landing [.ref p, .int (nI T.law), .int (nI T.so), .int (nI a), .ref 250] σ (.int (nI (toW T a (w 0) (tp 0) (w 1) (tp 1) 3))) := by
            have := ev_landing hTP ok hRP9 hok9 ha (show T.so < 2 ^ 31 by omega) ok.2.2.2.2.1
            rw [hRz] at this
            exact this
          have hto : toW T a (w 0) (tp 0) (w 1) (tp 1) 3 < T.g := comesF_lt (by omega) ha
          refine R_aload_n a_X3_tryWay_55 rfl ?_
          refine R_aload_n a_X3_tryWay_56 rfl ?_
          refine R_get a_X3_tryWay_57 hT rfl ?_
          refine R_aload_n a_X3_tryWay_60 rfl ?_
          refine R_get a_X3_tryWay_61 hT rfl ?_
          refine R_iload_n a_X3_tryWay_64 rfl ?_
          refine R_aload_n a_X3_tryWay_65 rfl ?_
          refine R_get a_X3_tryWay_66 hP rfl ?_
          refine R_callVp a_X3_tryWay_69 hT hland rfl rfl rfl rfl rfl ?_
          refine R_istore (ls' := [_, _, _, _, _, _, _]) a_X3_tryWay_72 rfl rfl rfl ?_
          refine R_aload_n a_X3_tryWay_74 rfl ?_
          refine R_get a_X3_tryWay_75 hP rfl ?_
          refine R_iload_n a_X3_tryWay_78 rfl ?_
          refine R_aload_n a_X3_tryWay_79 rfl ?_
          refine R_aload_n a_X3_tryWay_80 rfl ?_
          refine R_iconst (v := nI 0) a_X3_tryWay_81 rfl ?_
          refine R_iload a_X3_tryWay_82 rfl ?_
          refine R_iload a_X3_tryWay_84 rfl ?_
          refine R_callVp a_X3_tryWay_86 hP (show EvP M_X3_gain [.ref 245, .ref p, .int (nI 0), .int (nI (toW T a (w 0) (tp 0) (w 1) (tp 1) 3)), .int (nI 0)] σ (.int (g1W T a (w 0) (tp 0) (w 1) (tp 1) 3)) from ev_gain hTP ok hp ⟨hP, hw, ht, h1, h2, hRP⟩ (k := 0) (l := false) (by decide) hi hs hto) rfl rfl rfl rfl rfl ?_
          refine R_iastK a_X3_tryWay_89 (by omega) h1 (by omega) (by decide) (fun σ h1 ho => ?_)
          have hP := (ho _ (by omega)).trans hP
          have hw := (ho _ (by omega)).trans hw
          have ht := (ho _ (by omega)).trans ht
          have h2 := (ho _ (by omega)).trans h2
          have hfr : ∀ j, j < 245 ∨ 254 ≤ j → σ j = σ0 j := fun j hj => (ho j (by omega)).trans (hfr j hj)
          have hRP := hRP.kept (fun j h1 h2 => ho j (by omega))
          refine R_aload_n a_X3_tryWay_90 rfl ?_
          refine R_get a_X3_tryWay_91 hP rfl ?_
          refine R_iload_n a_X3_tryWay_94 rfl ?_
          refine R_aload_n a_X3_tryWay_95 rfl ?_
          refine R_aload_n a_X3_tryWay_96 rfl ?_
          refine R_iconst (v := nI 1) a_X3_tryWay_97 rfl ?_
          refine R_iload a_X3_tryWay_98 rfl ?_
          refine R_iload a_X3_tryWay_100 rfl ?_
          refine R_callVp a_X3_tryWay_102 hP (show EvP M_X3_gain [.ref 245, .ref p, .int (nI 1), .int (nI (toW T a (w 0) (tp 0) (w 1) (tp 1) 3)), .int (nI 0)] σ (.int (g2W T a (w 0) (tp 0) (w 1) (tp 1) 3)) from ev_gain (hTP.kept (fun j h1 h2 => ho j (by omega))) ok hp ⟨hP, hw, ht, h1, h2, hRP⟩ (k := 1) (l := false) (by decide) hj hu hto) rfl rfl rfl rfl rfl ?_
          refine R_iastK a_X3_tryWay_105 (by omega) h2 (by omega) (by decide) (fun σ h2 ho => ?_)
          have hP := (ho _ (by omega)).trans hP
          have hw := (ho _ (by omega)).trans hw
          have ht := (ho _ (by omega)).trans ht
          have h1 := (ho _ (by omega)).trans h1
          have hfr : ∀ j, j < 245 ∨ 254 ≤ j → σ j = σ0 j := fun j hj => (ho j (by omega)).trans (hfr j hj)
          have hRP := hRP.kept (fun j h1 h2 => ho j (by omega))
          refine R_vret a_X3_tryWay_106 rfl ?_
          exact ⟨rfl, ⟨_, hP, hw, ht, h1, h2, hRP⟩, hfr⟩
        · skip
          exact absurd h46 (by decide)
      · skip
        exact absurd h35 (by decide)
    · skip
      exact absurd h16 (by decide)
  · skip
    exact absurd h3 (by decide)

/-- whether neither would have more by doing otherwise alone -/
def okW (T : Tb) (a i s j t wy : Nat) : Bool := decide (¬ g1W T a i s j t wy < g1W T a i s j t (wy ^^^ 2)) && decide (¬ g2W T a i s j t wy < g2W T a i s j t (wy ^^^ 1))
theorem okW_f1 {T : Tb} {a i s j t k x : Nat} (hx : k ^^^ 2 = x) (h : g1W T a i s j t k < g1W T a i s j t x) : okW T a i s j t k = false := by
  unfold okW
  rw [hx, Bool.and_eq_false_iff]
  exact Or.inl (decide_eq_false (fun q => q h))
theorem okW_f2 {T : Tb} {a i s j t k x : Nat} (hx : k ^^^ 1 = x) (h : g2W T a i s j t k < g2W T a i s j t x) : okW T a i s j t k = false := by
  unfold okW
  rw [hx, Bool.and_eq_false_iff]
  exact Or.inr (decide_eq_false (fun q => q h))
theorem okW_t {T : Tb} {a i s j t k x y : Nat} (hx : k ^^^ 2 = x) (hy : k ^^^ 1 = y) (h : ¬ g1W T a i s j t k < g1W T a i s j t x) (h2 : ¬ g2W T a i s j t k < g2W T a i s j t y) : okW T a i s j t k = true := by
  unfold okW
  rw [hx, hy, Bool.and_eq_true]
  exact ⟨decide_eq_true h, decide_eq_true h2⟩
/-- of the ways k and above: how many rest, the lowest -/
def rsN (ok : Nat → Bool) (k : Nat) : Nat := (if k ≤ 3 then b2n (ok 3) else 0) + (if k ≤ 2 then b2n (ok 2) else 0) + (if k ≤ 1 then b2n (ok 1) else 0) + (if k ≤ 0 then b2n (ok 0) else 0)
def rsF (ok : Nat → Bool) (k : Nat) : Int32 := if k ≤ 0 ∧ ok 0 = true then nI 0 else if k ≤ 1 ∧ ok 1 = true then nI 1 else if k ≤ 2 ∧ ok 2 = true then nI 2 else if k ≤ 3 ∧ ok 3 = true then nI 3 else -4
theorem rsN_le (ok : Nat → Bool) (k : Nat) : rsN ok k ≤ 4 := by
  unfold rsN
  have := b2n_le (ok 0)
  have := b2n_le (ok 1)
  have := b2n_le (ok 2)
  have := b2n_le (ok 3)
  split <;> split <;> split <;> split <;> omega
theorem rs_y (ok : Nat → Bool) : ∀ k, k < 4 → ok k = true → rsN ok k = rsN ok (k + 1) + 1 ∧ rsF ok k = nI k := by
  intro k hk h
  rcases (show k = 0 ∨ k = 1 ∨ k = 2 ∨ k = 3 by omega) with rfl | rfl | rfl | rfl <;> simp [rsN, rsF, h, b2n]
theorem rs_n (ok : Nat → Bool) : ∀ k, k < 4 → ok k = false → rsN ok k = rsN ok (k + 1) ∧ rsF ok k = rsF ok (k + 1) := by
  intro k hk h
  rcases (show k = 0 ∨ k = 1 ∨ k = 2 ∨ k = 3 by omega) with rfl | rfl | rfl | rfl <;> simp [rsN, rsF, h, b2n]
set_option maxRecDepth 20000 in
theorem lp_weigh2m {σ0 : AHp} {p : Nat} {T : Tb} {w tp : Nat → Nat} (hp : 254 ≤ p) {a : Nat} {f1 f2 : Nat → Int32} {R : Rs} (e1 : ∀ v, v < 4 → f1 v = g1W T a (w 0) (tp 0) (w 1) (tp 1) v) (e2 : ∀ v, v < 4 → f2 v = g2W T a (w 0) (tp 0) (w 1) (tp 1) v) {σ : AHp} (hPc : PcR σ (rsN (okW T a (w 0) (tp 0) (w 1) (tp 1)) 0) (rsF (okW T a (w 0) (tp 0) (w 1) (tp 1)) 0) w tp f1 f2 R) (hfr : ∀ j, j < 245 ∨ 254 ≤ j → σ j = σ0 j) : Run M_X3_weigh 33 [some (.ref 245), some (.ref p), some (.int (nI a)), some (.int (nI 0 + Int32.ofInt (-1)))] [] σ 0 0 (fun r σ => r = none ∧ (∃ f1 f2 R', PcR σ (rsN (okW T a (w 0) (tp 0) (w 1) (tp 1)) 0) (rsF (okW T a (w 0) (tp 0) (w 1) (tp 1)) 0) w tp f1 f2 R') ∧ Fr σ0 σ 245 9) := by
  obtain ⟨hP, hw, ht, h1, h2, hRP⟩ := id hPc
  refine R_iload_n a_X3_weigh_33 rfl ?_
  refine R_if_lt a_X3_weigh_34 (fun h34 => ?_) (fun h34 => ?_)
  · skip
    refine R_vret a_X3_weigh_92 rfl ?_
    exact ⟨rfl, ⟨f1, f2, R, hPc⟩, hfr⟩
  · skip
    exact absurd (by decide) h34

set_option maxRecDepth 20000 in
theorem lp_weigh20 {σ0 : AHp} {p : Nat} {T : Tb} {w tp : Nat → Nat} (hp : 254 ≤ p) {a : Nat} {f1 f2 : Nat → Int32} {R : Rs} (e1 : ∀ v, v < 4 → f1 v = g1W T a (w 0) (tp 0) (w 1) (tp 1) v) (e2 : ∀ v, v < 4 → f2 v = g2W T a (w 0) (tp 0) (w 1) (tp 1) v) {σ : AHp} (hPc : PcR σ (rsN (okW T a (w 0) (tp 0) (w 1) (tp 1)) 1) (rsF (okW T a (w 0) (tp 0) (w 1) (tp 1)) 1) w tp f1 f2 R) (hfr : ∀ j, j < 245 ∨ 254 ≤ j → σ j = σ0 j) : Run M_X3_weigh 33 [some (.ref 245), some (.ref p), some (.int (nI a)), some (.int (nI 0))] [] σ 0 0 (fun r σ => r = none ∧ (∃ f1 f2 R', PcR σ (rsN (okW T a (w 0) (tp 0) (w 1) (tp 1)) 0) (rsF (okW T a (w 0) (tp 0) (w 1) (tp 1)) 0) w tp f1 f2 R') ∧ Fr σ0 σ 245 9) := by
  obtain ⟨hP, hw, ht, h1, h2, hRP⟩ := id hPc
  have hrl := rsN_le (okW T a (w 0) (tp 0) (w 1) (tp 1)) 1
  refine R_iload_n a_X3_weigh_33 rfl ?_
  refine R_if_lt a_X3_weigh_34 (fun h34 => ?_) (fun h34 => ?_)
  · skip
    exact absurd h34 (by decide)
  · skip
    refine R_aload_n a_X3_weigh_37 rfl ?_
    refine R_get a_X3_weigh_38 hP rfl ?_
    refine R_iload_n a_X3_weigh_41 rfl ?_
    refine R_iald_n a_X3_weigh_42 h1 (by omega) (by decide) ?_
    refine R_aload_n a_X3_weigh_43 rfl ?_
    refine R_get a_X3_weigh_44 hP rfl ?_
    refine R_iload_n a_X3_weigh_47 rfl ?_
    refine R_iconst (v := nI 2) a_X3_weigh_48 rfl ?_
    refine R_ixor a_X3_weigh_49 (R_top (y := nI 2) rfl ?_)
    refine R_iald_n a_X3_weigh_50 h1 (by omega) (by decide) ?_
    refine R_icmp_lt a_X3_weigh_51 (fun h51 => ?_) (fun h51 => ?_)
    · skip
      have hno : okW T a (w 0) (tp 0) (w 1) (tp 1) 0 = false := by
        rw [e1 0 (by decide), e1 2 (by decide)] at h51
        exact okW_f1 rfl h51
      have hst := rs_n (okW T a (w 0) (tp 0) (w 1) (tp 1)) 0 (by decide) hno
      first | with_reducible refine R_iinc_m (ls' := [_, _, _, _]) a_X3_weigh_86 rfl rfl rfl rfl ?_ | refine R_iinc (ls' := [_, _, _, _]) a_X3_weigh_86 rfl rfl rfl rfl rfl ?_
      refine R_goto a_X3_weigh_89 ?_
      exact lp_weigh2m hp e1 e2 (R := R) (by rw [hst.1, hst.2]; exact ⟨hP, hw, ht, h1, h2, hRP⟩) hfr
    · skip
      refine R_aload_n a_X3_weigh_54 rfl ?_
      refine R_get a_X3_weigh_55 hP rfl ?_
      refine R_iload_n a_X3_weigh_58 rfl ?_
      refine R_iald_n a_X3_weigh_59 h2 (by omega) (by decide) ?_
      refine R_aload_n a_X3_weigh_60 rfl ?_
      refine R_get a_X3_weigh_61 hP rfl ?_
      refine R_iload_n a_X3_weigh_64 rfl ?_
      refine R_iconst (v := nI 1) a_X3_weigh_65 rfl ?_
      refine R_ixor a_X3_weigh_66 (R_top (y := nI 1) rfl ?_)
      refine R_iald_n a_X3_weigh_67 h2 (by omega) (by decide) ?_
      refine R_icmp_lt a_X3_weigh_68 (fun h68 => ?_) (fun h68 => ?_)
      · skip
        have hno : okW T a (w 0) (tp 0) (w 1) (tp 1) 0 = false := by
          rw [e2 0 (by decide), e2 1 (by decide)] at h68
          exact okW_f2 rfl h68
        have hst := rs_n (okW T a (w 0) (tp 0) (w 1) (tp 1)) 0 (by decide) hno
        first | with_reducible refine R_iinc_m (ls' := [_, _, _, _]) a_X3_weigh_86 rfl rfl rfl rfl ?_ | refine R_iinc (ls' := [_, _, _, _]) a_X3_weigh_86 rfl rfl rfl rfl rfl ?_
        refine R_goto a_X3_weigh_89 ?_
        exact lp_weigh2m hp e1 e2 (R := R) (by rw [hst.1, hst.2]; exact ⟨hP, hw, ht, h1, h2, hRP⟩) hfr
      · skip
        have hyes : okW T a (w 0) (tp 0) (w 1) (tp 1) 0 = true := by
          rw [e1 0 (by decide), e1 2 (by decide)] at h51
          rw [e2 0 (by decide), e2 1 (by decide)] at h68
          exact okW_t rfl rfl h51 h68
        have hst := rs_y (okW T a (w 0) (tp 0) (w 1) (tp 1)) 0 (by decide) hyes
        refine R_aload_n a_X3_weigh_71 rfl ?_
        refine R_dup a_X3_weigh_72 rfl ?_
        refine R_get a_X3_weigh_73 hP rfl ?_
        refine R_iconst (v := nI 1) a_X3_weigh_76 rfl ?_
        first | with_reducible refine R_iadd_n a_X3_weigh_77 ?_ | refine R_iadd a_X3_weigh_77 ?_
        refine R_putiK (fs' := [_, _, _, _, _, _, _]) a_X3_weigh_78 hP rfl rfl (fun σ hP ho => ?_)
        have hw := (ho _ (by omega)).trans hw
        have ht := (ho _ (by omega)).trans ht
        have h1 := (ho _ (by omega)).trans h1
        have h2 := (ho _ (by omega)).trans h2
        have hfr : ∀ j, j < 245 ∨ 254 ≤ j → σ j = σ0 j := fun j hj => (ho j (by omega)).trans (hfr j hj)
        have hRP := hRP.kept (fun j h1 h2 => ho j (by omega))
        refine R_aload_n a_X3_weigh_81 rfl ?_
        refine R_iload_n a_X3_weigh_82 rfl ?_
        refine R_putiK (fs' := [_, _, _, _, _, _, _]) a_X3_weigh_83 hP rfl rfl (fun σ hP ho => ?_)
        have hw := (ho _ (by omega)).trans hw
        have ht := (ho _ (by omega)).trans ht
        have h1 := (ho _ (by omega)).trans h1
        have h2 := (ho _ (by omega)).trans h2
        have hfr : ∀ j, j < 245 ∨ 254 ≤ j → σ j = σ0 j := fun j hj => (ho j (by omega)).trans (hfr j hj)
        have hRP := hRP.kept (fun j h1 h2 => ho j (by omega))
        first | with_reducible refine R_iinc_m (ls' := [_, _, _, _]) a_X3_weigh_86 rfl rfl rfl rfl ?_ | refine R_iinc (ls' := [_, _, _, _]) a_X3_weigh_86 rfl rfl rfl rfl rfl ?_
        refine R_goto a_X3_weigh_89 ?_
        exact lp_weigh2m hp e1 e2 (R := R) (by rw [hst.1, hst.2]; exact ⟨hP, hw, ht, h1, h2, hRP⟩) hfr

set_option maxRecDepth 20000 in
theorem lp_weigh21 {σ0 : AHp} {p : Nat} {T : Tb} {w tp : Nat → Nat} (hp : 254 ≤ p) {a : Nat} {f1 f2 : Nat → Int32} {R : Rs} (e1 : ∀ v, v < 4 → f1 v = g1W T a (w 0) (tp 0) (w 1) (tp 1) v) (e2 : ∀ v, v < 4 → f2 v = g2W T a (w 0) (tp 0) (w 1) (tp 1) v) {σ : AHp} (hPc : PcR σ (rsN (okW T a (w 0) (tp 0) (w 1) (tp 1)) 2) (rsF (okW T a (w 0) (tp 0) (w 1) (tp 1)) 2) w tp f1 f2 R) (hfr : ∀ j, j < 245 ∨ 254 ≤ j → σ j = σ0 j) : Run M_X3_weigh 33 [some (.ref 245), some (.ref p), some (.int (nI a)), some (.int (nI 1))] [] σ 0 0 (fun r σ => r = none ∧ (∃ f1 f2 R', PcR σ (rsN (okW T a (w 0) (tp 0) (w 1) (tp 1)) 0) (rsF (okW T a (w 0) (tp 0) (w 1) (tp 1)) 0) w tp f1 f2 R') ∧ Fr σ0 σ 245 9) := by
  obtain ⟨hP, hw, ht, h1, h2, hRP⟩ := id hPc
  have hrl := rsN_le (okW T a (w 0) (tp 0) (w 1) (tp 1)) 2
  refine R_iload_n a_X3_weigh_33 rfl ?_
  refine R_if_lt a_X3_weigh_34 (fun h34 => ?_) (fun h34 => ?_)
  · skip
    exact absurd h34 (by decide)
  · skip
    refine R_aload_n a_X3_weigh_37 rfl ?_
    refine R_get a_X3_weigh_38 hP rfl ?_
    refine R_iload_n a_X3_weigh_41 rfl ?_
    refine R_iald_n a_X3_weigh_42 h1 (by omega) (by decide) ?_
    refine R_aload_n a_X3_weigh_43 rfl ?_
    refine R_get a_X3_weigh_44 hP rfl ?_
    refine R_iload_n a_X3_weigh_47 rfl ?_
    refine R_iconst (v := nI 2) a_X3_weigh_48 rfl ?_
    refine R_ixor a_X3_weigh_49 (R_top (y := nI 3) rfl ?_)
    refine R_iald_n a_X3_weigh_50 h1 (by omega) (by decide) ?_
    refine R_icmp_lt a_X3_weigh_51 (fun h51 => ?_) (fun h51 => ?_)
    · skip
      have hno : okW T a (w 0) (tp 0) (w 1) (tp 1) 1 = false := by
        rw [e1 1 (by decide), e1 3 (by decide)] at h51
        exact okW_f1 rfl h51
      have hst := rs_n (okW T a (w 0) (tp 0) (w 1) (tp 1)) 1 (by decide) hno
      first | with_reducible refine R_iinc_m (ls' := [_, _, _, _]) a_X3_weigh_86 rfl rfl rfl rfl ?_ | refine R_iinc (ls' := [_, _, _, _]) a_X3_weigh_86 rfl rfl rfl rfl rfl ?_
      refine R_goto a_X3_weigh_89 ?_
      exact lp_weigh20 hp e1 e2 (R := R) (by rw [hst.1, hst.2]; exact ⟨hP, hw, ht, h1, h2, hRP⟩) hfr
    · skip
      refine R_aload_n a_X3_weigh_54 rfl ?_
      refine R_get a_X3_weigh_55 hP rfl ?_
      refine R_iload_n a_X3_weigh_58 rfl ?_
      refine R_iald_n a_X3_weigh_59 h2 (by omega) (by decide) ?_
      refine R_aload_n a_X3_weigh_60 rfl ?_
      refine R_get a_X3_weigh_61 hP rfl ?_
      refine R_iload_n a_X3_weigh_64 rfl ?_
      refine R_iconst (v := nI 1) a_X3_weigh_65 rfl ?_
      refine R_ixor a_X3_weigh_66 (R_top (y := nI 0) rfl ?_)
      refine R_iald_n a_X3_weigh_67 h2 (by omega) (by decide) ?_
      refine R_icmp_lt a_X3_weigh_68 (fun h68 => ?_) (fun h68 => ?_)
      · skip
        have hno : okW T a (w 0) (tp 0) (w 1) (tp 1) 1 = false := by
          rw [e2 1 (by decide), e2 0 (by decide)] at h68
          exact okW_f2 rfl h68
        have hst := rs_n (okW T a (w 0) (tp 0) (w 1) (tp 1)) 1 (by decide) hno
        first | with_reducible refine R_iinc_m (ls' := [_, _, _, _]) a_X3_weigh_86 rfl rfl rfl rfl ?_ | refine R_iinc (ls' := [_, _, _, _]) a_X3_weigh_86 rfl rfl rfl rfl rfl ?_
        refine R_goto a_X3_weigh_89 ?_
        exact lp_weigh20 hp e1 e2 (R := R) (by rw [hst.1, hst.2]; exact ⟨hP, hw, ht, h1, h2, hRP⟩) hfr
      · skip
        have hyes : okW T a (w 0) (tp 0) (w 1) (tp 1) 1 = true := by
          rw [e1 1 (by decide), e1 3 (by decide)] at h51
          rw [e2 1 (by decide), e2 0 (by decide)] at h68
          exact okW_t rfl rfl h51 h68
        have hst := rs_y (okW T a (w 0) (tp 0) (w 1) (tp 1)) 1 (by decide) hyes
        refine R_aload_n a_X3_weigh_71 rfl ?_
        refine R_dup a_X3_weigh_72 rfl ?_
        refine R_get a_X3_weigh_73 hP rfl ?_
        refine R_iconst (v := nI 1) a_X3_weigh_76 rfl ?_
        first | with_reducible refine R_iadd_n a_X3_weigh_77 ?_ | refine R_iadd a_X3_weigh_77 ?_
        refine R_putiK (fs' := [_, _, _, _, _, _, _]) a_X3_weigh_78 hP rfl rfl (fun σ hP ho => ?_)
        have hw := (ho _ (by omega)).trans hw
        have ht := (ho _ (by omega)).trans ht
        have h1 := (ho _ (by omega)).trans h1
        have h2 := (ho _ (by omega)).trans h2
        have hfr : ∀ j, j < 245 ∨ 254 ≤ j → σ j = σ0 j := fun j hj => (ho j (by omega)).trans (hfr j hj)
        have hRP := hRP.kept (fun j h1 h2 => ho j (by omega))
        refine R_aload_n a_X3_weigh_81 rfl ?_
        refine R_iload_n a_X3_weigh_82 rfl ?_
        refine R_putiK (fs' := [_, _, _, _, _, _, _]) a_X3_weigh_83 hP rfl rfl (fun σ hP ho => ?_)
        have hw := (ho _ (by omega)).trans hw
        have ht := (ho _ (by omega)).trans ht
        have h1 := (ho _ (by omega)).trans h1
        have h2 := (ho _ (by omega)).trans h2
        have hfr : ∀ j, j < 245 ∨ 254 ≤ j → σ j = σ0 j := fun j hj => (ho j (by omega)).trans (hfr j hj)
        have hRP := hRP.kept (fun j h1 h2 => ho j (by omega))
        first | with_reducible refine R_iinc_m (ls' := [_, _, _, _]) a_X3_weigh_86 rfl rfl rfl rfl ?_ | refine R_iinc (ls' := [_, _, _, _]) a_X3_weigh_86 rfl rfl rfl rfl rfl ?_
        refine R_goto a_X3_weigh_89 ?_
        exact lp_weigh20 hp e1 e2 (R := R) (by rw [hst.1, hst.2]; exact ⟨hP, hw, ht, h1, h2, hRP⟩) hfr

set_option maxRecDepth 20000 in
theorem lp_weigh22 {σ0 : AHp} {p : Nat} {T : Tb} {w tp : Nat → Nat} (hp : 254 ≤ p) {a : Nat} {f1 f2 : Nat → Int32} {R : Rs} (e1 : ∀ v, v < 4 → f1 v = g1W T a (w 0) (tp 0) (w 1) (tp 1) v) (e2 : ∀ v, v < 4 → f2 v = g2W T a (w 0) (tp 0) (w 1) (tp 1) v) {σ : AHp} (hPc : PcR σ (rsN (okW T a (w 0) (tp 0) (w 1) (tp 1)) 3) (rsF (okW T a (w 0) (tp 0) (w 1) (tp 1)) 3) w tp f1 f2 R) (hfr : ∀ j, j < 245 ∨ 254 ≤ j → σ j = σ0 j) : Run M_X3_weigh 33 [some (.ref 245), some (.ref p), some (.int (nI a)), some (.int (nI 2))] [] σ 0 0 (fun r σ => r = none ∧ (∃ f1 f2 R', PcR σ (rsN (okW T a (w 0) (tp 0) (w 1) (tp 1)) 0) (rsF (okW T a (w 0) (tp 0) (w 1) (tp 1)) 0) w tp f1 f2 R') ∧ Fr σ0 σ 245 9) := by
  obtain ⟨hP, hw, ht, h1, h2, hRP⟩ := id hPc
  have hrl := rsN_le (okW T a (w 0) (tp 0) (w 1) (tp 1)) 3
  refine R_iload_n a_X3_weigh_33 rfl ?_
  refine R_if_lt a_X3_weigh_34 (fun h34 => ?_) (fun h34 => ?_)
  · skip
    exact absurd h34 (by decide)
  · skip
    refine R_aload_n a_X3_weigh_37 rfl ?_
    refine R_get a_X3_weigh_38 hP rfl ?_
    refine R_iload_n a_X3_weigh_41 rfl ?_
    refine R_iald_n a_X3_weigh_42 h1 (by omega) (by decide) ?_
    refine R_aload_n a_X3_weigh_43 rfl ?_
    refine R_get a_X3_weigh_44 hP rfl ?_
    refine R_iload_n a_X3_weigh_47 rfl ?_
    refine R_iconst (v := nI 2) a_X3_weigh_48 rfl ?_
    refine R_ixor a_X3_weigh_49 (R_top (y := nI 0) rfl ?_)
    refine R_iald_n a_X3_weigh_50 h1 (by omega) (by decide) ?_
    refine R_icmp_lt a_X3_weigh_51 (fun h51 => ?_) (fun h51 => ?_)
    · skip
      have hno : okW T a (w 0) (tp 0) (w 1) (tp 1) 2 = false := by
        rw [e1 2 (by decide), e1 0 (by decide)] at h51
        exact okW_f1 rfl h51
      have hst := rs_n (okW T a (w 0) (tp 0) (w 1) (tp 1)) 2 (by decide) hno
      first | with_reducible refine R_iinc_m (ls' := [_, _, _, _]) a_X3_weigh_86 rfl rfl rfl rfl ?_ | refine R_iinc (ls' := [_, _, _, _]) a_X3_weigh_86 rfl rfl rfl rfl rfl ?_
      refine R_goto a_X3_weigh_89 ?_
      exact lp_weigh21 hp e1 e2 (R := R) (by rw [hst.1, hst.2]; exact ⟨hP, hw, ht, h1, h2, hRP⟩) hfr
    · skip
      refine R_aload_n a_X3_weigh_54 rfl ?_
      refine R_get a_X3_weigh_55 hP rfl ?_
      refine R_iload_n a_X3_weigh_58 rfl ?_
      refine R_iald_n a_X3_weigh_59 h2 (by omega) (by decide) ?_
      refine R_aload_n a_X3_weigh_60 rfl ?_
      refine R_get a_X3_weigh_61 hP rfl ?_
      refine R_iload_n a_X3_weigh_64 rfl ?_
      refine R_iconst (v := nI 1) a_X3_weigh_65 rfl ?_
      refine R_ixor a_X3_weigh_66 (R_top (y := nI 3) rfl ?_)
      refine R_iald_n a_X3_weigh_67 h2 (by omega) (by decide) ?_
      refine R_icmp_lt a_X3_weigh_68 (fun h68 => ?_) (fun h68 => ?_)
      · skip
        have hno : okW T a (w 0) (tp 0) (w 1) (tp 1) 2 = false := by
          rw [e2 2 (by decide), e2 3 (by decide)] at h68
          exact okW_f2 rfl h68
        have hst := rs_n (okW T a (w 0) (tp 0) (w 1) (tp 1)) 2 (by decide) hno
        first | with_reducible refine R_iinc_m (ls' := [_, _, _, _]) a_X3_weigh_86 rfl rfl rfl rfl ?_ | refine R_iinc (ls' := [_, _, _, _]) a_X3_weigh_86 rfl rfl rfl rfl rfl ?_
        refine R_goto a_X3_weigh_89 ?_
        exact lp_weigh21 hp e1 e2 (R := R) (by rw [hst.1, hst.2]; exact ⟨hP, hw, ht, h1, h2, hRP⟩) hfr
      · skip
        have hyes : okW T a (w 0) (tp 0) (w 1) (tp 1) 2 = true := by
          rw [e1 2 (by decide), e1 0 (by decide)] at h51
          rw [e2 2 (by decide), e2 3 (by decide)] at h68
          exact okW_t rfl rfl h51 h68
        have hst := rs_y (okW T a (w 0) (tp 0) (w 1) (tp 1)) 2 (by decide) hyes
        refine R_aload_n a_X3_weigh_71 rfl ?_
        refine R_dup a_X3_weigh_72 rfl ?_
        refine R_get a_X3_weigh_73 hP rfl ?_
        refine R_iconst (v := nI 1) a_X3_weigh_76 rfl ?_
        first | with_reducible refine R_iadd_n a_X3_weigh_77 ?_ | refine R_iadd a_X3_weigh_77 ?_
        refine R_putiK (fs' := [_, _, _, _, _, _, _]) a_X3_weigh_78 hP rfl rfl (fun σ hP ho => ?_)
        have hw := (ho _ (by omega)).trans hw
        have ht := (ho _ (by omega)).trans ht
        have h1 := (ho _ (by omega)).trans h1
        have h2 := (ho _ (by omega)).trans h2
        have hfr : ∀ j, j < 245 ∨ 254 ≤ j → σ j = σ0 j := fun j hj => (ho j (by omega)).trans (hfr j hj)
        have hRP := hRP.kept (fun j h1 h2 => ho j (by omega))
        refine R_aload_n a_X3_weigh_81 rfl ?_
        refine R_iload_n a_X3_weigh_82 rfl ?_
        refine R_putiK (fs' := [_, _, _, _, _, _, _]) a_X3_weigh_83 hP rfl rfl (fun σ hP ho => ?_)
        have hw := (ho _ (by omega)).trans hw
        have ht := (ho _ (by omega)).trans ht
        have h1 := (ho _ (by omega)).trans h1
        have h2 := (ho _ (by omega)).trans h2
        have hfr : ∀ j, j < 245 ∨ 254 ≤ j → σ j = σ0 j := fun j hj => (ho j (by omega)).trans (hfr j hj)
        have hRP := hRP.kept (fun j h1 h2 => ho j (by omega))
        first | with_reducible refine R_iinc_m (ls' := [_, _, _, _]) a_X3_weigh_86 rfl rfl rfl rfl ?_ | refine R_iinc (ls' := [_, _, _, _]) a_X3_weigh_86 rfl rfl rfl rfl rfl ?_
        refine R_goto a_X3_weigh_89 ?_
        exact lp_weigh21 hp e1 e2 (R := R) (by rw [hst.1, hst.2]; exact ⟨hP, hw, ht, h1, h2, hRP⟩) hfr

set_option maxRecDepth 20000 in
theorem lp_weigh23 {σ0 : AHp} {p : Nat} {T : Tb} {w tp : Nat → Nat} (hp : 254 ≤ p) {a : Nat} {f1 f2 : Nat → Int32} {R : Rs} (e1 : ∀ v, v < 4 → f1 v = g1W T a (w 0) (tp 0) (w 1) (tp 1) v) (e2 : ∀ v, v < 4 → f2 v = g2W T a (w 0) (tp 0) (w 1) (tp 1) v) {σ : AHp} (hPc : PcR σ (rsN (okW T a (w 0) (tp 0) (w 1) (tp 1)) 4) (rsF (okW T a (w 0) (tp 0) (w 1) (tp 1)) 4) w tp f1 f2 R) (hfr : ∀ j, j < 245 ∨ 254 ≤ j → σ j = σ0 j) : Run M_X3_weigh 33 [some (.ref 245), some (.ref p), some (.int (nI a)), some (.int (nI 3))] [] σ 0 0 (fun r σ => r = none ∧ (∃ f1 f2 R', PcR σ (rsN (okW T a (w 0) (tp 0) (w 1) (tp 1)) 0) (rsF (okW T a (w 0) (tp 0) (w 1) (tp 1)) 0) w tp f1 f2 R') ∧ Fr σ0 σ 245 9) := by
  obtain ⟨hP, hw, ht, h1, h2, hRP⟩ := id hPc
  have hrl := rsN_le (okW T a (w 0) (tp 0) (w 1) (tp 1)) 4
  refine R_iload_n a_X3_weigh_33 rfl ?_
  refine R_if_lt a_X3_weigh_34 (fun h34 => ?_) (fun h34 => ?_)
  · skip
    exact absurd h34 (by decide)
  · skip
    refine R_aload_n a_X3_weigh_37 rfl ?_
    refine R_get a_X3_weigh_38 hP rfl ?_
    refine R_iload_n a_X3_weigh_41 rfl ?_
    refine R_iald_n a_X3_weigh_42 h1 (by omega) (by decide) ?_
    refine R_aload_n a_X3_weigh_43 rfl ?_
    refine R_get a_X3_weigh_44 hP rfl ?_
    refine R_iload_n a_X3_weigh_47 rfl ?_
    refine R_iconst (v := nI 2) a_X3_weigh_48 rfl ?_
    refine R_ixor a_X3_weigh_49 (R_top (y := nI 1) rfl ?_)
    refine R_iald_n a_X3_weigh_50 h1 (by omega) (by decide) ?_
    refine R_icmp_lt a_X3_weigh_51 (fun h51 => ?_) (fun h51 => ?_)
    · skip
      have hno : okW T a (w 0) (tp 0) (w 1) (tp 1) 3 = false := by
        rw [e1 3 (by decide), e1 1 (by decide)] at h51
        exact okW_f1 rfl h51
      have hst := rs_n (okW T a (w 0) (tp 0) (w 1) (tp 1)) 3 (by decide) hno
      first | with_reducible refine R_iinc_m (ls' := [_, _, _, _]) a_X3_weigh_86 rfl rfl rfl rfl ?_ | refine R_iinc (ls' := [_, _, _, _]) a_X3_weigh_86 rfl rfl rfl rfl rfl ?_
      refine R_goto a_X3_weigh_89 ?_
      exact lp_weigh22 hp e1 e2 (R := R) (by rw [hst.1, hst.2]; exact ⟨hP, hw, ht, h1, h2, hRP⟩) hfr
    · skip
      refine R_aload_n a_X3_weigh_54 rfl ?_
      refine R_get a_X3_weigh_55 hP rfl ?_
      refine R_iload_n a_X3_weigh_58 rfl ?_
      refine R_iald_n a_X3_weigh_59 h2 (by omega) (by decide) ?_
      refine R_aload_n a_X3_weigh_60 rfl ?_
      refine R_get a_X3_weigh_61 hP rfl ?_
      refine R_iload_n a_X3_weigh_64 rfl ?_
      refine R_iconst (v := nI 1) a_X3_weigh_65 rfl ?_
      refine R_ixor a_X3_weigh_66 (R_top (y := nI 2) rfl ?_)
      refine R_iald_n a_X3_weigh_67 h2 (by omega) (by decide) ?_
      refine R_icmp_lt a_X3_weigh_68 (fun h68 => ?_) (fun h68 => ?_)
      · skip
        have hno : okW T a (w 0) (tp 0) (w 1) (tp 1) 3 = false := by
          rw [e2 3 (by decide), e2 2 (by decide)] at h68
          exact okW_f2 rfl h68
        have hst := rs_n (okW T a (w 0) (tp 0) (w 1) (tp 1)) 3 (by decide) hno
        first | with_reducible refine R_iinc_m (ls' := [_, _, _, _]) a_X3_weigh_86 rfl rfl rfl rfl ?_ | refine R_iinc (ls' := [_, _, _, _]) a_X3_weigh_86 rfl rfl rfl rfl rfl ?_
        refine R_goto a_X3_weigh_89 ?_
        exact lp_weigh22 hp e1 e2 (R := R) (by rw [hst.1, hst.2]; exact ⟨hP, hw, ht, h1, h2, hRP⟩) hfr
      · skip
        have hyes : okW T a (w 0) (tp 0) (w 1) (tp 1) 3 = true := by
          rw [e1 3 (by decide), e1 1 (by decide)] at h51
          rw [e2 3 (by decide), e2 2 (by decide)] at h68
          exact okW_t rfl rfl h51 h68
        have hst := rs_y (okW T a (w 0) (tp 0) (w 1) (tp 1)) 3 (by decide) hyes
        refine R_aload_n a_X3_weigh_71 rfl ?_
        refine R_dup a_X3_weigh_72 rfl ?_
        refine R_get a_X3_weigh_73 hP rfl ?_
        refine R_iconst (v := nI 1) a_X3_weigh_76 rfl ?_
        first | with_reducible refine R_iadd_n a_X3_weigh_77 ?_ | refine R_iadd a_X3_weigh_77 ?_
        refine R_putiK (fs' := [_, _, _, _, _, _, _]) a_X3_weigh_78 hP rfl rfl (fun σ hP ho => ?_)
        have hw := (ho _ (by omega)).trans hw
        have ht := (ho _ (by omega)).trans ht
        have h1 := (ho _ (by omega)).trans h1
        have h2 := (ho _ (by omega)).trans h2
        have hfr : ∀ j, j < 245 ∨ 254 ≤ j → σ j = σ0 j := fun j hj => (ho j (by omega)).trans (hfr j hj)
        have hRP := hRP.kept (fun j h1 h2 => ho j (by omega))
        refine R_aload_n a_X3_weigh_81 rfl ?_
        refine R_iload_n a_X3_weigh_82 rfl ?_
        refine R_putiK (fs' := [_, _, _, _, _, _, _]) a_X3_weigh_83 hP rfl rfl (fun σ hP ho => ?_)
        have hw := (ho _ (by omega)).trans hw
        have ht := (ho _ (by omega)).trans ht
        have h1 := (ho _ (by omega)).trans h1
        have h2 := (ho _ (by omega)).trans h2
        have hfr : ∀ j, j < 245 ∨ 254 ≤ j → σ j = σ0 j := fun j hj => (ho j (by omega)).trans (hfr j hj)
        have hRP := hRP.kept (fun j h1 h2 => ho j (by omega))
        first | with_reducible refine R_iinc_m (ls' := [_, _, _, _]) a_X3_weigh_86 rfl rfl rfl rfl ?_ | refine R_iinc (ls' := [_, _, _, _]) a_X3_weigh_86 rfl rfl rfl rfl rfl ?_
        refine R_goto a_X3_weigh_89 ?_
        exact lp_weigh22 hp e1 e2 (R := R) (by rw [hst.1, hst.2]; exact ⟨hP, hw, ht, h1, h2, hRP⟩) hfr

set_option maxRecDepth 20000 in
theorem lp_weigh14 {σ0 : AHp} {p : Nat} {T : Tb} {w tp : Nat → Nat} (hT0 : TbP σ0 p T) (ok : TbOk T) (hp : 254 ≤ p) {a : Nat} (ha : a < T.g) (hi : w 0 < T.g) (hs : tp 0 < T.n) (hj : w 1 < T.g) (hu : tp 1 < T.n) {st : Nat} {fs : Int32} {f1 f2 : Nat → Int32} {R : Rs} (e1 : ∀ v, v < 4 → f1 v = g1W T a (w 0) (tp 0) (w 1) (tp 1) v) (e2 : ∀ v, v < 4 → f2 v = g2W T a (w 0) (tp 0) (w 1) (tp 1) v) {σ : AHp} (hPc : PcR σ st fs w tp f1 f2 R) (hfr : ∀ j, j < 245 ∨ 254 ≤ j → σ j = σ0 j) : Run M_X3_weigh 2 [some (.ref 245), some (.ref p), some (.int (nI a)), some (.int (nI 4))] [] σ 0 0 (fun r σ => r = none ∧ (∃ f1 f2 R', PcR σ (rsN (okW T a (w 0) (tp 0) (w 1) (tp 1)) 0) (rsF (okW T a (w 0) (tp 0) (w 1) (tp 1)) 0) w tp f1 f2 R') ∧ Fr σ0 σ 245 9) := by
  obtain ⟨hP, hw, ht, h1, h2, hRP⟩ := id hPc
  refine R_iload_n a_X3_weigh_2 rfl ?_
  refine R_iconst (v := nI 4) a_X3_weigh_3 rfl ?_
  first | with_reducible refine R_icmp_ge_n a_X3_weigh_4 (by omega) (by omega) (fun h4 => ?_) (fun h4 => ?_) | refine R_icmp_ge a_X3_weigh_4 (fun h4 => ?_) (fun h4 => ?_)
  · skip
    refine R_aload_n a_X3_weigh_20 rfl ?_
    refine R_iconst (v := nI 0) a_X3_weigh_21 rfl ?_
    refine R_putiK (fs' := [_, _, _, _, _, _, _]) a_X3_weigh_22 hP rfl rfl (fun σ hP ho => ?_)
    have hw := (ho _ (by omega)).trans hw
    have ht := (ho _ (by omega)).trans ht
    have h1 := (ho _ (by omega)).trans h1
    have h2 := (ho _ (by omega)).trans h2
    have hfr : ∀ j, j < 245 ∨ 254 ≤ j → σ j = σ0 j := fun j hj => (ho j (by omega)).trans (hfr j hj)
    have hRP := hRP.kept (fun j h1 h2 => ho j (by omega))
    refine R_aload_n a_X3_weigh_25 rfl ?_
    refine R_bipush (v := (-4)) a_X3_weigh_26 rfl ?_
    refine R_putiK (fs' := [_, _, _, _, _, _, _]) a_X3_weigh_28 hP rfl rfl (fun σ hP ho => ?_)
    have hw := (ho _ (by omega)).trans hw
    have ht := (ho _ (by omega)).trans ht
    have h1 := (ho _ (by omega)).trans h1
    have h2 := (ho _ (by omega)).trans h2
    have hfr : ∀ j, j < 245 ∨ 254 ≤ j → σ j = σ0 j := fun j hj => (ho j (by omega)).trans (hfr j hj)
    have hRP := hRP.kept (fun j h1 h2 => ho j (by omega))
    refine R_iconst (v := nI 3) a_X3_weigh_31 rfl ?_
    refine R_istore_n (ls' := [_, _, _, _]) a_X3_weigh_32 rfl rfl rfl ?_
    exact lp_weigh23 hp e1 e2 (R := R) ⟨hP, hw, ht, h1, h2, hRP⟩ hfr
  · skip
    exact absurd h4 (by decide)

set_option maxRecDepth 20000 in
theorem lp_weigh13 {σ0 : AHp} {p : Nat} {T : Tb} {w tp : Nat → Nat} (hT0 : TbP σ0 p T) (ok : TbOk T) (hp : 254 ≤ p) {a : Nat} (ha : a < T.g) (hi : w 0 < T.g) (hs : tp 0 < T.n) (hj : w 1 < T.g) (hu : tp 1 < T.n) {st : Nat} {fs : Int32} {f1 f2 : Nat → Int32} {R : Rs} (e1 : ∀ v, v < 3 → f1 v = g1W T a (w 0) (tp 0) (w 1) (tp 1) v) (e2 : ∀ v, v < 3 → f2 v = g2W T a (w 0) (tp 0) (w 1) (tp 1) v) {σ : AHp} (hPc : PcR σ st fs w tp f1 f2 R) (hfr : ∀ j, j < 245 ∨ 254 ≤ j → σ j = σ0 j) : Run M_X3_weigh 2 [some (.ref 245), some (.ref p), some (.int (nI a)), some (.int (nI 3))] [] σ 0 0 (fun r σ => r = none ∧ (∃ f1 f2 R', PcR σ (rsN (okW T a (w 0) (tp 0) (w 1) (tp 1)) 0) (rsF (okW T a (w 0) (tp 0) (w 1) (tp 1)) 0) w tp f1 f2 R') ∧ Fr σ0 σ 245 9) := by
  obtain ⟨hP, hw, ht, h1, h2, hRP⟩ := id hPc
  have hTP : TbP σ p T := hT0.kept (fun j h1 h2 => hfr j (by omega))
  refine R_iload_n a_X3_weigh_2 rfl ?_
  refine R_iconst (v := nI 4) a_X3_weigh_3 rfl ?_
  first | with_reducible refine R_icmp_ge_n a_X3_weigh_4 (by omega) (by omega) (fun h4 => ?_) (fun h4 => ?_) | refine R_icmp_ge a_X3_weigh_4 (fun h4 => ?_) (fun h4 => ?_)
  · skip
    exact absurd h4 (by decide)
  · skip
    refine R_aload_n a_X3_weigh_7 rfl ?_
    refine R_aload_n a_X3_weigh_8 rfl ?_
    refine R_iload_n a_X3_weigh_9 rfl ?_
    refine R_iload_n a_X3_weigh_10 rfl ?_
    refine R_callVv a_X3_weigh_11 hP (ev_tryWay3 hTP ok hp hPc ha hi hs hj hu) rfl rfl rfl rfl rfl (fun σ hP_ => ?_)
    obtain ⟨⟨R1, hPc1⟩, hfA⟩ := hP_
    first | with_reducible refine R_iinc_n (ls' := [_, _, _, _]) a_X3_weigh_14 rfl rfl rfl rfl ?_ | refine R_iinc (ls' := [_, _, _, _]) a_X3_weigh_14 rfl rfl rfl rfl rfl ?_
    refine R_goto a_X3_weigh_17 ?_
    exact lp_weigh14 hT0 ok hp ha hi hs hj hu (fun v hv => by
      unfold upd
      by_cases e : v = 3
      · rw [e]; rfl
      · rw [if_neg e]; exact e1 v (by omega)) (fun v hv => by
      unfold upd
      by_cases e : v = 3
      · rw [e]; rfl
      · rw [if_neg e]; exact e2 v (by omega)) hPc1 (fun j hj => (hfA j (by omega)).trans (hfr j hj))

set_option maxRecDepth 20000 in
theorem lp_weigh12 {σ0 : AHp} {p : Nat} {T : Tb} {w tp : Nat → Nat} (hT0 : TbP σ0 p T) (ok : TbOk T) (hp : 254 ≤ p) {a : Nat} (ha : a < T.g) (hi : w 0 < T.g) (hs : tp 0 < T.n) (hj : w 1 < T.g) (hu : tp 1 < T.n) {st : Nat} {fs : Int32} {f1 f2 : Nat → Int32} {R : Rs} (e1 : ∀ v, v < 2 → f1 v = g1W T a (w 0) (tp 0) (w 1) (tp 1) v) (e2 : ∀ v, v < 2 → f2 v = g2W T a (w 0) (tp 0) (w 1) (tp 1) v) {σ : AHp} (hPc : PcR σ st fs w tp f1 f2 R) (hfr : ∀ j, j < 245 ∨ 254 ≤ j → σ j = σ0 j) : Run M_X3_weigh 2 [some (.ref 245), some (.ref p), some (.int (nI a)), some (.int (nI 2))] [] σ 0 0 (fun r σ => r = none ∧ (∃ f1 f2 R', PcR σ (rsN (okW T a (w 0) (tp 0) (w 1) (tp 1)) 0) (rsF (okW T a (w 0) (tp 0) (w 1) (tp 1)) 0) w tp f1 f2 R') ∧ Fr σ0 σ 245 9) := by
  obtain ⟨hP, hw, ht, h1, h2, hRP⟩ := id hPc
  have hTP : TbP σ p T := hT0.kept (fun j h1 h2 => hfr j (by omega))
  refine R_iload_n a_X3_weigh_2 rfl ?_
  refine R_iconst (v := nI 4) a_X3_weigh_3 rfl ?_
  first | with_reducible refine R_icmp_ge_n a_X3_weigh_4 (by omega) (by omega) (fun h4 => ?_) (fun h4 => ?_) | refine R_icmp_ge a_X3_weigh_4 (fun h4 => ?_) (fun h4 => ?_)
  · skip
    exact absurd h4 (by decide)
  · skip
    refine R_aload_n a_X3_weigh_7 rfl ?_
    refine R_aload_n a_X3_weigh_8 rfl ?_
    refine R_iload_n a_X3_weigh_9 rfl ?_
    refine R_iload_n a_X3_weigh_10 rfl ?_
    refine R_callVv a_X3_weigh_11 hP (ev_tryWay2 hTP ok hp hPc ha hi hs hj hu) rfl rfl rfl rfl rfl (fun σ hP_ => ?_)
    obtain ⟨⟨R1, hPc1⟩, hfA⟩ := hP_
    first | with_reducible refine R_iinc_n (ls' := [_, _, _, _]) a_X3_weigh_14 rfl rfl rfl rfl ?_ | refine R_iinc (ls' := [_, _, _, _]) a_X3_weigh_14 rfl rfl rfl rfl rfl ?_
    refine R_goto a_X3_weigh_17 ?_
    exact lp_weigh13 hT0 ok hp ha hi hs hj hu (fun v hv => by
      unfold upd
      by_cases e : v = 2
      · rw [e]; rfl
      · rw [if_neg e]; exact e1 v (by omega)) (fun v hv => by
      unfold upd
      by_cases e : v = 2
      · rw [e]; rfl
      · rw [if_neg e]; exact e2 v (by omega)) hPc1 (fun j hj => (hfA j (by omega)).trans (hfr j hj))

set_option maxRecDepth 20000 in
theorem lp_weigh11 {σ0 : AHp} {p : Nat} {T : Tb} {w tp : Nat → Nat} (hT0 : TbP σ0 p T) (ok : TbOk T) (hp : 254 ≤ p) {a : Nat} (ha : a < T.g) (hi : w 0 < T.g) (hs : tp 0 < T.n) (hj : w 1 < T.g) (hu : tp 1 < T.n) {st : Nat} {fs : Int32} {f1 f2 : Nat → Int32} {R : Rs} (e1 : ∀ v, v < 1 → f1 v = g1W T a (w 0) (tp 0) (w 1) (tp 1) v) (e2 : ∀ v, v < 1 → f2 v = g2W T a (w 0) (tp 0) (w 1) (tp 1) v) {σ : AHp} (hPc : PcR σ st fs w tp f1 f2 R) (hfr : ∀ j, j < 245 ∨ 254 ≤ j → σ j = σ0 j) : Run M_X3_weigh 2 [some (.ref 245), some (.ref p), some (.int (nI a)), some (.int (nI 1))] [] σ 0 0 (fun r σ => r = none ∧ (∃ f1 f2 R', PcR σ (rsN (okW T a (w 0) (tp 0) (w 1) (tp 1)) 0) (rsF (okW T a (w 0) (tp 0) (w 1) (tp 1)) 0) w tp f1 f2 R') ∧ Fr σ0 σ 245 9) := by
  obtain ⟨hP, hw, ht, h1, h2, hRP⟩ := id hPc
  have hTP : TbP σ p T := hT0.kept (fun j h1 h2 => hfr j (by omega))
  refine R_iload_n a_X3_weigh_2 rfl ?_
  refine R_iconst (v := nI 4) a_X3_weigh_3 rfl ?_
  first | with_reducible refine R_icmp_ge_n a_X3_weigh_4 (by omega) (by omega) (fun h4 => ?_) (fun h4 => ?_) | refine R_icmp_ge a_X3_weigh_4 (fun h4 => ?_) (fun h4 => ?_)
  · skip
    exact absurd h4 (by decide)
  · skip
    refine R_aload_n a_X3_weigh_7 rfl ?_
    refine R_aload_n a_X3_weigh_8 rfl ?_
    refine R_iload_n a_X3_weigh_9 rfl ?_
    refine R_iload_n a_X3_weigh_10 rfl ?_
    refine R_callVv a_X3_weigh_11 hP (ev_tryWay1 hTP ok hp hPc ha hi hs hj hu) rfl rfl rfl rfl rfl (fun σ hP_ => ?_)
    obtain ⟨⟨R1, hPc1⟩, hfA⟩ := hP_
    first | with_reducible refine R_iinc_n (ls' := [_, _, _, _]) a_X3_weigh_14 rfl rfl rfl rfl ?_ | refine R_iinc (ls' := [_, _, _, _]) a_X3_weigh_14 rfl rfl rfl rfl rfl ?_
    refine R_goto a_X3_weigh_17 ?_
    exact lp_weigh12 hT0 ok hp ha hi hs hj hu (fun v hv => by
      unfold upd
      by_cases e : v = 1
      · rw [e]; rfl
      · rw [if_neg e]; exact e1 v (by omega)) (fun v hv => by
      unfold upd
      by_cases e : v = 1
      · rw [e]; rfl
      · rw [if_neg e]; exact e2 v (by omega)) hPc1 (fun j hj => (hfA j (by omega)).trans (hfr j hj))

set_option maxRecDepth 20000 in
theorem lp_weigh10 {σ0 : AHp} {p : Nat} {T : Tb} {w tp : Nat → Nat} (hT0 : TbP σ0 p T) (ok : TbOk T) (hp : 254 ≤ p) {a : Nat} (ha : a < T.g) (hi : w 0 < T.g) (hs : tp 0 < T.n) (hj : w 1 < T.g) (hu : tp 1 < T.n) {st : Nat} {fs : Int32} {f1 f2 : Nat → Int32} {R : Rs} (e1 : ∀ v, v < 0 → f1 v = g1W T a (w 0) (tp 0) (w 1) (tp 1) v) (e2 : ∀ v, v < 0 → f2 v = g2W T a (w 0) (tp 0) (w 1) (tp 1) v) {σ : AHp} (hPc : PcR σ st fs w tp f1 f2 R) (hfr : ∀ j, j < 245 ∨ 254 ≤ j → σ j = σ0 j) : Run M_X3_weigh 2 [some (.ref 245), some (.ref p), some (.int (nI a)), some (.int (nI 0))] [] σ 0 0 (fun r σ => r = none ∧ (∃ f1 f2 R', PcR σ (rsN (okW T a (w 0) (tp 0) (w 1) (tp 1)) 0) (rsF (okW T a (w 0) (tp 0) (w 1) (tp 1)) 0) w tp f1 f2 R') ∧ Fr σ0 σ 245 9) := by
  obtain ⟨hP, hw, ht, h1, h2, hRP⟩ := id hPc
  have hTP : TbP σ p T := hT0.kept (fun j h1 h2 => hfr j (by omega))
  refine R_iload_n a_X3_weigh_2 rfl ?_
  refine R_iconst (v := nI 4) a_X3_weigh_3 rfl ?_
  first | with_reducible refine R_icmp_ge_n a_X3_weigh_4 (by omega) (by omega) (fun h4 => ?_) (fun h4 => ?_) | refine R_icmp_ge a_X3_weigh_4 (fun h4 => ?_) (fun h4 => ?_)
  · skip
    exact absurd h4 (by decide)
  · skip
    refine R_aload_n a_X3_weigh_7 rfl ?_
    refine R_aload_n a_X3_weigh_8 rfl ?_
    refine R_iload_n a_X3_weigh_9 rfl ?_
    refine R_iload_n a_X3_weigh_10 rfl ?_
    refine R_callVv a_X3_weigh_11 hP (ev_tryWay0 hTP ok hp hPc ha hi hs hj hu) rfl rfl rfl rfl rfl (fun σ hP_ => ?_)
    obtain ⟨⟨R1, hPc1⟩, hfA⟩ := hP_
    first | with_reducible refine R_iinc_n (ls' := [_, _, _, _]) a_X3_weigh_14 rfl rfl rfl rfl ?_ | refine R_iinc (ls' := [_, _, _, _]) a_X3_weigh_14 rfl rfl rfl rfl rfl ?_
    refine R_goto a_X3_weigh_17 ?_
    exact lp_weigh11 hT0 ok hp ha hi hs hj hu (fun v hv => by
      unfold upd
      by_cases e : v = 0
      · rw [e]; rfl
      · rw [if_neg e]; exact e1 v (by omega)) (fun v hv => by
      unfold upd
      by_cases e : v = 0
      · rw [e]; rfl
      · rw [if_neg e]; exact e2 v (by omega)) hPc1 (fun j hj => (hfA j (by omega)).trans (hfr j hj))

set_option maxRecDepth 20000 in
theorem ev_weigh {σ0 : AHp} {p : Nat} {T : Tb} {w tp : Nat → Nat} (hT0 : TbP σ0 p T) (ok : TbOk T) (hp : 254 ≤ p) {a : Nat} (ha : a < T.g) (hi : w 0 < T.g) (hs : tp 0 < T.n) (hj : w 1 < T.g) (hu : tp 1 < T.n) {st : Nat} {fs : Int32} {f1 f2 : Nat → Int32} {R : Rs} (hPc : PcR σ0 st fs w tp f1 f2 R) : EvW M_X3_weigh [.ref 245, .ref p, .int (nI a)] σ0 none (fun σ => (∃ f1 f2 R', PcR σ (rsN (okW T a (w 0) (tp 0) (w 1) (tp 1)) 0) (rsF (okW T a (w 0) (tp 0) (w 1) (tp 1)) 0) w tp f1 f2 R') ∧ Fr σ0 σ 245 9) := by
  refine Ev.of (ls := [_, _, _, _]) 1 (by decide) rfl rfl ?_
  refine R_iconst (v := nI 0) a_X3_weigh_0 rfl ?_
  refine R_istore_n (ls' := [_, _, _, _]) a_X3_weigh_1 rfl rfl rfl ?_
  exact lp_weigh10 hT0 ok hp ha hi hs hj hu (fun v hv => absurd hv (by omega)) (fun v hv => absurd hv (by omega)) hPc (fun _ _ => rfl)

