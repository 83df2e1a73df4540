/-! ===== longs; Feast ===== -/
theorem R_ladd_n {M : MI} {pc nx : Nat} {ls : List (Option Value)} {st : List Value} {σ : AHp} {kc ks : Nat} {Q : Option Value → AHp → Prop} {a b : Nat} (h : At M pc .ladd 1 nx) (k : Run M nx ls (.long (lN (a + b)) :: st) σ kc ks Q) : Run M pc ls (.long (lN b) :: .long (lN a) :: st) σ kc ks Q := R_ladd h (R_topl (lN_add a b) k)
theorem R_lmul_n {M : MI} {pc nx : Nat} {ls : List (Option Value)} {st : List Value} {σ : AHp} {kc ks : Nat} {Q : Option Value → AHp → Prop} {a b : Nat} (h : At M pc .lmul 1 nx) (k : Run M nx ls (.long (lN (a * b)) :: st) σ kc ks Q) : Run M pc ls (.long (lN b) :: .long (lN a) :: st) σ kc ks Q := R_lmul h (R_topl (lN_mul a b) k)
theorem lN_ne0 {b : Nat} (h0 : 0 < b) (hb : b < 2 ^ 63) : ¬ lN b = 0 := fun e => by
  have := (pk_lEQ (b := 0) hb (by decide)).mp e
  omega
theorem R_ldiv_n {M : MI} {pc nx : Nat} {ls : List (Option Value)} {st : List Value} {σ : AHp} {kc ks : Nat} {Q : Option Value → AHp → Prop} {a b : Nat} (h : At M pc .ldiv 1 nx) (ha : a < 2 ^ 63) (h0 : 0 < b) (hb : b < 2 ^ 63) (k : Run M nx ls (.long (lN (a / b)) :: st) σ kc ks Q) : Run M pc ls (.long (lN b) :: .long (lN a) :: st) σ kc ks Q := R_ldiv h (lN_ne0 h0 hb) (R_topl (pk_lDiv ha h0 hb) k)
theorem R_lrem_n {M : MI} {pc nx : Nat} {ls : List (Option Value)} {st : List Value} {σ : AHp} {kc ks : Nat} {Q : Option Value → AHp → Prop} {a b : Nat} (h : At M pc .lrem 1 nx) (ha : a < 2 ^ 63) (h0 : 0 < b) (hb : b < 2 ^ 63) (k : Run M nx ls (.long (lN (a % b)) :: st) σ kc ks Q) : Run M pc ls (.long (lN b) :: .long (lN a) :: st) σ kc ks Q := R_lrem h (lN_ne0 h0 hb) (R_topl (pk_lRem ha h0 hb) k)
theorem R_i2l_n {M : MI} {pc nx : Nat} {ls : List (Option Value)} {st : List Value} {σ : AHp} {kc ks : Nat} {Q : Option Value → AHp → Prop} {a : Nat} (h : At M pc .i2l 1 nx) (ha : a < 2 ^ 31) (k : Run M nx ls (.long (lN a) :: st) σ kc ks Q) : Run M pc ls (.int (nI a) :: st) σ kc ks Q := R_i2l h (nI_l ha) k
theorem R_l2i_n {M : MI} {pc nx : Nat} {ls : List (Option Value)} {st : List Value} {σ : AHp} {kc ks : Nat} {Q : Option Value → AHp → Prop} {a : Nat} (h : At M pc .l2i 1 nx) (k : Run M nx ls (.int (nI a) :: st) σ kc ks Q) : Run M pc ls (.long (lN a) :: st) σ kc ks Q := R_l2i h (lN_i a) k
def drwF (z k : Nat) : Nat := (7919 * z + 6151 * k + 1) * (7919 * z + 6151 * k + 1) % 65521 / 8
set_option maxRecDepth 20000 in
theorem ev_fdrawn {σ : AHp} {z k : Nat} (hz : z ≤ 9999) (hk : k < 60) : EvP M_X1_drawn [.int (nI z), .int (nI k)] σ (.int (nI (drwF z k))) := by
  have hx : 7919 * z + 6151 * k + 1 ≤ 80000000 := by omega
  have hxx : (7919 * z + 6151 * k + 1) * (7919 * z + 6151 * k + 1) ≤ 80000000 * 80000000 := Nat.mul_le_mul hx hx
  have hmo := Nat.mod_lt ((7919 * z + 6151 * k + 1) * (7919 * z + 6151 * k + 1)) (show 0 < 65521 by decide)
  refine Ev.of (ls := [_, _, _, _]) 2 (by decide) rfl rfl ?_
  refine R_ldc2 a_X1_drawn_0 ck_X1_63 ?_
  refine R_topl (show (7919 : Int64) = lN 7919 from rfl) ?_
  refine R_iload_n a_X1_drawn_3 rfl ?_
  refine R_i2l_n a_X1_drawn_4 (by omega) ?_
  first | with_reducible refine R_lmul_n a_X1_drawn_5 ?_ | refine R_lmul a_X1_drawn_5 ?_
  refine R_ldc2 a_X1_drawn_6 ck_X1_65 ?_
  refine R_topl (show (6151 : Int64) = lN 6151 from rfl) ?_
  refine R_iload_n a_X1_drawn_9 rfl ?_
  refine R_i2l_n a_X1_drawn_10 (by omega) ?_
  first | with_reducible refine R_lmul_n a_X1_drawn_11 ?_ | refine R_lmul a_X1_drawn_11 ?_
  first | with_reducible refine R_ladd_n a_X1_drawn_12 ?_ | refine R_ladd a_X1_drawn_12 ?_
  refine R_lconst (v := lN 1) a_X1_drawn_13 rfl ?_
  first | with_reducible refine R_ladd_n a_X1_drawn_14 ?_ | refine R_ladd a_X1_drawn_14 ?_
  refine R_lstore_n (ls' := [_, _, _, _]) a_X1_drawn_15 rfl rfl rfl ?_
  refine R_lload_n a_X1_drawn_16 rfl ?_
  refine R_lload_n a_X1_drawn_17 rfl ?_
  first | with_reducible refine R_lmul_n a_X1_drawn_18 ?_ | refine R_lmul a_X1_drawn_18 ?_
  refine R_ldc2 a_X1_drawn_19 ck_X1_67 ?_
  refine R_topl (show (65521 : Int64) = lN 65521 from rfl) ?_
  refine R_lrem_n a_X1_drawn_22 (by omega) (by omega) (by omega) ?_
  refine R_ldc2 a_X1_drawn_23 ck_X1_69 ?_
  refine R_topl (show (8 : Int64) = lN 8 from rfl) ?_
  refine R_ldiv_n a_X1_drawn_26 (by omega) (by omega) (by omega) ?_
  refine R_l2i_n a_X1_drawn_27 ?_
  refine R_iret a_X1_drawn_28 rfl ?_
  exact ⟨rfl, rfl⟩

def fO (s u : Nat) : ACell := oB 1 [.int (nI s), .int (nI u), .ref 258]
def FsP (σ : AHp) (s u : Nat) (R : Rs) : Prop := σ 257 = some (oB 1 [.int (nI s), .int (nI u), .ref 258]) ∧ RdP σ 258 R
/-- the k-th round of a dinner: who, of what, truly or not, what is said -/
def dnI (T : Tb) (z k : Nat) : Nat := drwF z k % T.g
def dnT (T : Tb) (z k : Nat) : Nat := drwF z k / 8 % T.n
def dnH (T : Tb) (z k : Nat) : Bool := decide (drwF z k / 64 % 10 < T.hn (dnI T z k))
def dnC (T : Tb) (z k : Nat) : Nat := sayC (dnI T z k) (dnT T z k) (if bitN T.so (dnT T z k) = b2n (dnH T z k) then 1 else 0)
def dnK (T : Tb) (a z : Nat) : Nat → Nat × Nat
  | 0 => (a, 0)
  | k + 1 => (comesF T (dnK T a z k).1 (dnC T z k) 128 T.so T.law, (dnK T a z k).2 + (if dnH T z k = true then 0 else 1))
theorem dnK_lt {T : Tb} {a z : Nat} (hg : 0 < T.g) (ha : a < T.g) : ∀ k, (dnK T a z k).1 < T.g ∧ (dnK T a z k).2 ≤ k := by
  intro k
  induction k with
  | zero => exact ⟨ha, Nat.le_refl 0⟩
  | succ k ih =>
    refine ⟨comesF_lt hg ih.1, ?_⟩
    simp only [dnK]
    split <;> omega
set_option maxRecDepth 20000 in
theorem lp_hold {σ0 : AHp} {p : Nat} {T : Tb} (hT0 : TbP σ0 p T) (ok : TbOk T) (hp : 262 ≤ p) {a z m : Nat} (ha : a < T.g) (hz : z ≤ 9999) (hm : m ≤ 60) : ∀ (n k : Nat) (σ : AHp) (R : Rs) (x6 x7 x8 x9 : Option Value), m - k = n → k ≤ m → FsP σ (dnK T a z k).1 (dnK T a z k).2 R → (∀ j, j < 257 ∨ 262 ≤ j → σ j = σ0 j) → Run M_X1_hold 13 [some (.ref 257), some (.ref p), some (.int (nI a)), some (.int (nI z)), some (.int (nI m)), some (.int (nI k)), x6, x7, x8, x9] [] σ 0 0 (fun r σ => r = none ∧ (∃ R', FsP σ (dnK T a z m).1 (dnK T a z m).2 R') ∧ Fr σ0 σ 257 5) := by
  intro n
  induction n using Nat.strongRecOn
  rename_i n ih
  intro k σ R x6 x7 x8 x9 hmm hk hFs hfr
  obtain ⟨hF, hRP⟩ := id hFs
  obtain ⟨hr0, hR, -⟩ := id hRP
  have hTP : TbP σ p T := hT0.kept (fun j h1 h2 => hfr j (by omega))
  obtain ⟨hp0, hT, hk_, hh, hn_, hf_⟩ := id hTP
  obtain ⟨g3, g8, n1, n6, lw, stg, son, kd4, hn10, kn63, hf4⟩ := id ok
  have hso := so_lt ok
  have hdl : drwF z k < 2 ^ 20 := by
    unfold drwF
    have := Nat.mod_lt ((7919 * z + 6151 * k + 1) * (7919 * z + 6151 * k + 1)) (show 0 < 65521 by decide)
    omega
  have hi : dnI T z k < T.g := Nat.mod_lt _ (by omega)
  have ht : dnT T z k < T.n := Nat.mod_lt _ (by omega)
  have hh10 := hn10 _ hi
  obtain ⟨hsl, hul⟩ := dnK_lt (T := T) (a := a) (z := z) (by omega) ha k
  have hbl : bitN T.so (dnT T z k) ≤ 1 := by unfold bitN; omega
  refine R_iload a_X1_hold_13 rfl ?_
  refine R_iload a_X1_hold_15 rfl ?_
  first | with_reducible refine R_icmp_ge_n a_X1_hold_17 (by omega) (by omega) (fun h17 => ?_) (fun h17 => ?_) | refine R_icmp_ge a_X1_hold_17 (fun h17 => ?_) (fun h17 => ?_)
  · skip
    have hke : k = m := by omega
    subst hke
    refine R_vret a_X1_hold_164 rfl ?_
    exact ⟨rfl, ⟨R, hFs⟩, hfr⟩
  · skip
    refine R_iload_n a_X1_hold_20 rfl ?_
    refine R_iload a_X1_hold_21 rfl ?_
    refine R_callSp a_X1_hold_23 (ev_fdrawn hz (show k < 60 by omega)) rfl rfl rfl rfl rfl ?_
    refine R_istore (ls' := [_, _, _, _, _, _, _, _, _, _]) a_X1_hold_26 rfl rfl rfl ?_
    refine R_iload a_X1_hold_28 rfl ?_
    refine R_aload_n a_X1_hold_30 rfl ?_
    refine R_get a_X1_hold_31 hT rfl ?_
    refine R_callSp a_X1_hold_34 (ev_remainder (by omega) (by omega)) rfl rfl rfl rfl rfl ?_
    refine R_top (y := nI (dnI T z k)) (fm_nn (by omega) (by omega) (by omega)) ?_
    refine R_istore (ls' := [_, _, _, _, _, _, _, _, _, _]) a_X1_hold_37 rfl rfl rfl ?_
    refine R_iload a_X1_hold_39 rfl ?_
    refine R_bipush (v := nI 8) a_X1_hold_41 rfl ?_
    refine R_idiv_n a_X1_hold_43 (by omega) (by omega) (by omega) ?_
    refine R_aload_n a_X1_hold_44 rfl ?_
    refine R_get a_X1_hold_45 hT rfl ?_
    refine R_callSp a_X1_hold_48 (ev_remainder (by omega) (by omega)) rfl rfl rfl rfl rfl ?_
    refine R_top (y := nI (dnT T z k)) (fm_nn (by omega) (by omega) (by omega)) ?_
    refine R_istore (ls' := [_, _, _, _, _, _, _, _, _, _]) a_X1_hold_51 rfl rfl rfl ?_
    refine R_iload a_X1_hold_53 rfl ?_
    refine R_bipush (v := nI 64) a_X1_hold_55 rfl ?_
    refine R_idiv_n a_X1_hold_57 (by omega) (by omega) (by omega) ?_
    refine R_bipush (v := nI 10) a_X1_hold_58 rfl ?_
    refine R_irem_n a_X1_hold_60 (by omega) (by omega) (by omega) ?_
    refine R_aload_n a_X1_hold_61 rfl ?_
    refine R_get a_X1_hold_62 hT rfl ?_
    refine R_iload a_X1_hold_65 rfl ?_
    refine R_iald_n a_X1_hold_67 hh (by omega) (by decide) ?_
    first | with_reducible refine R_icmp_ge_n a_X1_hold_68 (by omega) (by omega) (fun h68 => ?_) (fun h68 => ?_) | refine R_icmp_ge a_X1_hold_68 (fun h68 => ?_) (fun h68 => ?_)
    · skip
      have hhon : dnH T z k = false := decide_eq_false (by omega)
      refine R_iconst (v := nI 0) a_X1_hold_75 rfl ?_
      refine R_istore (ls' := [_, _, _, _, _, _, _, _, _, _]) a_X1_hold_76 rfl rfl rfl ?_
      refine R_aload_n a_X1_hold_78 rfl ?_
      refine R_get a_X1_hold_79 hF rfl ?_
      refine R_callVv a_X1_hold_82 hR (ev_Rclear hRP) rfl rfl rfl rfl rfl (fun σ hP => ?_)
      obtain ⟨hRP, hfA⟩ := hP
      obtain ⟨hr0, hR, -⟩ := id hRP
      have hF := (hfA _ (by omega)).trans hF
      have hfr : ∀ j, j < 257 ∨ 262 ≤ j → σ j = σ0 j := fun j hj => (hfA j (by omega)).trans (hfr j hj)
      have hTP : TbP σ p T := hT0.kept (fun j h1 h2 => hfr j (by omega))
      obtain ⟨hp0, hT, hk_, hh, hn_, hf_⟩ := id hTP
      refine R_aload_n a_X1_hold_85 rfl ?_
      refine R_get a_X1_hold_86 hF rfl ?_
      refine R_iload a_X1_hold_89 rfl ?_
      refine R_iload a_X1_hold_91 rfl ?_
      refine R_aload_n a_X1_hold_93 rfl ?_
      refine R_get a_X1_hold_94 hT rfl ?_
      refine R_iload a_X1_hold_97 rfl ?_
      refine R_callSp a_X1_hold_99 (ev_isSo (show T.so < 2 ^ 31 by omega) (show dnT T z k < 32 by omega)) rfl rfl rfl rfl rfl ?_
      refine R_iload a_X1_hold_102 rfl ?_
      first | with_reducible refine R_icmp_ne_n a_X1_hold_104 (by omega) (by omega) (fun h104 => ?_) (fun h104 => ?_) | refine R_icmp_ne a_X1_hold_104 (fun h104 => ?_) (fun h104 => ?_)
      · skip
        have hsd : (if bitN T.so (dnT T z k) = b2n (dnH T z k) then 1 else 0) = 0 := by rw [hhon]; exact if_neg h104
        refine R_iconst (v := nI 0) a_X1_hold_111 rfl ?_
        refine R_callVv a_X1_hold_112 hR (ev_Radd hRP (show 0 < 2 by decide) (by decide)) rfl rfl rfl rfl rfl (fun σ hP => ?_)
        obtain ⟨hRP, hfA⟩ := hP
        obtain ⟨hr0, hR, -⟩ := id hRP
        have hF := (hfA _ (by omega)).trans hF
        have hfr : ∀ j, j < 257 ∨ 262 ≤ j → σ j = σ0 j := fun j hj => (hfA j (by omega)).trans (hfr j hj)
        have hTP : TbP σ p T := hT0.kept (fun j h1 h2 => hfr j (by omega))
        obtain ⟨hp0, hT, hk_, hh, hn_, hf_⟩ := id hTP
        have hRP : RdP σ 258 (rd1 R (dnI T z k) (dnT T z k) (if bitN T.so (dnT T z k) = b2n (dnH T z k) then 1 else 0)) := by rw [hsd]; exact hRP
        refine R_aload_n a_X1_hold_115 rfl ?_
        refine R_aload_n a_X1_hold_116 rfl ?_
        refine R_aload_n a_X1_hold_117 rfl ?_
        refine R_get a_X1_hold_118 hT rfl ?_
        refine R_aload_n a_X1_hold_121 rfl ?_
        refine R_get a_X1_hold_122 hT rfl ?_
        refine R_aload_n a_X1_hold_125 rfl ?_
        refine R_get a_X1_hold_126 hF rfl ?_
        refine R_aload_n a_X1_hold_129 rfl ?_
        refine R_get a_X1_hold_130 hF rfl ?_
        refine R_callVp a_X1_hold_133 hT (show EvP M_X8_landing [.ref p, .int (nI T.law), .int (nI T.so), .int (nI (dnK T a z k).1), .ref 258] σ (.int (nI (comesF T (dnK T a z k).1 (dnC T z k) 128 T.so T.law))) from ev_landing hTP ok hRP (rd1_ok hi ht (by rw [hsd]; decide)) hsl (show T.so < 2 ^ 31 by omega) lw) rfl rfl rfl rfl rfl ?_
        refine R_putiK (fs' := [_, _, _]) a_X1_hold_136 hF rfl rfl (fun σ hF ho => ?_)
        have hT := (ho _ (by omega)).trans hT
        have hfr : ∀ j, j < 257 ∨ 262 ≤ j → σ j = σ0 j := fun j hj => (ho j (by omega)).trans (hfr j hj)
        have hRP := hRP.kept (fun j h1 h2 => ho j (by omega))
        refine R_aload_n a_X1_hold_139 rfl ?_
        refine R_dup a_X1_hold_140 rfl ?_
        refine R_get a_X1_hold_141 hF rfl ?_
        refine R_dian 154 (fun v => v = if dnH T z k = true then 0 else 1) (fun hJ144 => ?_) (fun v144 e144 => ?_)
        · skip
          refine R_iload a_X1_hold_144 rfl ?_
          first | with_reducible refine R_if_eq_n a_X1_hold_146 (by omega) (fun h146 => ?_) (fun h146 => ?_) | refine R_if_eq a_X1_hold_146 (fun h146 => ?_) (fun h146 => ?_)
          · skip
            refine R_iconst (v := nI 1) a_X1_hold_153 rfl ?_
            exact hJ144 _ (by rw [hhon]; first | rfl | exact absurd h146 (by decide))
          · skip
            refine R_iconst (v := nI 0) a_X1_hold_149 rfl ?_
            refine R_goto a_X1_hold_150 ?_
            exact hJ144 _ (by rw [hhon]; first | rfl | exact absurd h146 (by decide))
        · skip
          have hv1 : v144 ≤ 1 := by rw [e144]; split <;> omega
          first | with_reducible refine R_iadd_n a_X1_hold_154 ?_ | refine R_iadd a_X1_hold_154 ?_
          refine R_putiK (fs' := [_, _, _]) a_X1_hold_155 hF rfl rfl (fun σ hF ho => ?_)
          have hT := (ho _ (by omega)).trans hT
          have hfr : ∀ j, j < 257 ∨ 262 ≤ j → σ j = σ0 j := fun j hj => (ho j (by omega)).trans (hfr j hj)
          have hRP := hRP.kept (fun j h1 h2 => ho j (by omega))
          first | with_reducible refine R_iinc_n (ls' := [_, _, _, _, _, _, _, _, _, _]) a_X1_hold_158 rfl rfl rfl rfl ?_ | refine R_iinc (ls' := [_, _, _, _, _, _, _, _, _, _]) a_X1_hold_158 rfl rfl rfl rfl rfl ?_
          refine R_goto a_X1_hold_161 ?_
          refine ih _ (show m - (k + 1) < n by omega) (k + 1) σ _ _ _ _ _ rfl (by omega) ⟨?_, hRP⟩ hfr
          simp only [dnK]
          rw [← e144]
          exact hF
      · skip
        have hsd : (if bitN T.so (dnT T z k) = b2n (dnH T z k) then 1 else 0) = 1 := by rw [hhon]; exact if_pos h104
        refine R_iconst (v := nI 1) a_X1_hold_107 rfl ?_
        refine R_goto a_X1_hold_108 ?_
        refine R_callVv a_X1_hold_112 hR (ev_Radd hRP (show 0 < 2 by decide) (by decide)) rfl rfl rfl rfl rfl (fun σ hP => ?_)
        obtain ⟨hRP, hfA⟩ := hP
        obtain ⟨hr0, hR, -⟩ := id hRP
        have hF := (hfA _ (by omega)).trans hF
        have hfr : ∀ j, j < 257 ∨ 262 ≤ j → σ j = σ0 j := fun j hj => (hfA j (by omega)).trans (hfr j hj)
        have hTP : TbP σ p T := hT0.kept (fun j h1 h2 => hfr j (by omega))
        obtain ⟨hp0, hT, hk_, hh, hn_, hf_⟩ := id hTP
        have hRP : RdP σ 258 (rd1 R (dnI T z k) (dnT T z k) (if bitN T.so (dnT T z k) = b2n (dnH T z k) then 1 else 0)) := by rw [hsd]; exact hRP
        refine R_aload_n a_X1_hold_115 rfl ?_
        refine R_aload_n a_X1_hold_116 rfl ?_
        refine R_aload_n a_X1_hold_117 rfl ?_
        refine R_get a_X1_hold_118 hT rfl ?_
        refine R_aload_n a_X1_hold_121 rfl ?_
        refine R_get a_X1_hold_122 hT rfl ?_
        refine R_aload_n a_X1_hold_125 rfl ?_
        refine R_get a_X1_hold_126 hF rfl ?_
        refine R_aload_n a_X1_hold_129 rfl ?_
        refine R_get a_X1_hold_130 hF rfl ?_
        refine R_callVp a_X1_hold_133 hT (show EvP M_X8_landing [.ref p, .int (nI T.law), .int (nI T.so), .int (nI (dnK T a z k).1), .ref 258] σ (.int (nI (comesF T (dnK T a z k).1 (dnC T z k) 128 T.so T.law))) from ev_landing hTP ok hRP (rd1_ok hi ht (by rw [hsd]; decide)) hsl (show T.so < 2 ^ 31 by omega) lw) rfl rfl rfl rfl rfl ?_
        refine R_putiK (fs' := [_, _, _]) a_X1_hold_136 hF rfl rfl (fun σ hF ho => ?_)
        have hT := (ho _ (by omega)).trans hT
        have hfr : ∀ j, j < 257 ∨ 262 ≤ j → σ j = σ0 j := fun j hj => (ho j (by omega)).trans (hfr j hj)
        have hRP := hRP.kept (fun j h1 h2 => ho j (by omega))
        refine R_aload_n a_X1_hold_139 rfl ?_
        refine R_dup a_X1_hold_140 rfl ?_
        refine R_get a_X1_hold_141 hF rfl ?_
        refine R_dian 154 (fun v => v = if dnH T z k = true then 0 else 1) (fun hJ144 => ?_) (fun v144 e144 => ?_)
        · skip
          refine R_iload a_X1_hold_144 rfl ?_
          first | with_reducible refine R_if_eq_n a_X1_hold_146 (by omega) (fun h146 => ?_) (fun h146 => ?_) | refine R_if_eq a_X1_hold_146 (fun h146 => ?_) (fun h146 => ?_)
          · skip
            refine R_iconst (v := nI 1) a_X1_hold_153 rfl ?_
            exact hJ144 _ (by rw [hhon]; first | rfl | exact absurd h146 (by decide))
          · skip
            refine R_iconst (v := nI 0) a_X1_hold_149 rfl ?_
            refine R_goto a_X1_hold_150 ?_
            exact hJ144 _ (by rw [hhon]; first | rfl | exact absurd h146 (by decide))
        · skip
          have hv1 : v144 ≤ 1 := by rw [e144]; split <;> omega
          first | with_reducible refine R_iadd_n a_X1_hold_154 ?_ | refine R_iadd a_X1_hold_154 ?_
          refine R_putiK (fs' := [_, _, _]) a_X1_hold_155 hF rfl rfl (fun σ hF ho => ?_)
          have hT := (ho _ (by omega)).trans hT
          have hfr : ∀ j, j < 257 ∨ 262 ≤ j → σ j = σ0 j := fun j hj => (ho j (by omega)).trans (hfr j hj)
          have hRP := hRP.kept (fun j h1 h2 => ho j (by omega))
          first | with_reducible refine R_iinc_n (ls' := [_, _, _, _, _, _, _, _, _, _]) a_X1_hold_158 rfl rfl rfl rfl ?_ | refine R_iinc (ls' := [_, _, _, _, _, _, _, _, _, _]) a_X1_hold_158 rfl rfl rfl rfl rfl ?_
          refine R_goto a_X1_hold_161 ?_
          refine ih _ (show m - (k + 1) < n by omega) (k + 1) σ _ _ _ _ _ rfl (by omega) ⟨?_, hRP⟩ hfr
          simp only [dnK]
          rw [← e144]
          exact hF
    · skip
      have hhon : dnH T z k = true := decide_eq_true h68
      refine R_iconst (v := nI 1) a_X1_hold_71 rfl ?_
      refine R_goto a_X1_hold_72 ?_
      refine R_istore (ls' := [_, _, _, _, _, _, _, _, _, _]) a_X1_hold_76 rfl rfl rfl ?_
      refine R_aload_n a_X1_hold_78 rfl ?_
      refine R_get a_X1_hold_79 hF rfl ?_
      refine R_callVv a_X1_hold_82 hR (ev_Rclear hRP) rfl rfl rfl rfl rfl (fun σ hP => ?_)
      obtain ⟨hRP, hfA⟩ := hP
      obtain ⟨hr0, hR, -⟩ := id hRP
      have hF := (hfA _ (by omega)).trans hF
      have hfr : ∀ j, j < 257 ∨ 262 ≤ j → σ j = σ0 j := fun j hj => (hfA j (by omega)).trans (hfr j hj)
      have hTP : TbP σ p T := hT0.kept (fun j h1 h2 => hfr j (by omega))
      obtain ⟨hp0, hT, hk_, hh, hn_, hf_⟩ := id hTP
      refine R_aload_n a_X1_hold_85 rfl ?_
      refine R_get a_X1_hold_86 hF rfl ?_
      refine R_iload a_X1_hold_89 rfl ?_
      refine R_iload a_X1_hold_91 rfl ?_
      refine R_aload_n a_X1_hold_93 rfl ?_
      refine R_get a_X1_hold_94 hT rfl ?_
      refine R_iload a_X1_hold_97 rfl ?_
      refine R_callSp a_X1_hold_99 (ev_isSo (show T.so < 2 ^ 31 by omega) (show dnT T z k < 32 by omega)) rfl rfl rfl rfl rfl ?_
      refine R_iload a_X1_hold_102 rfl ?_
      first | with_reducible refine R_icmp_ne_n a_X1_hold_104 (by omega) (by omega) (fun h104 => ?_) (fun h104 => ?_) | refine R_icmp_ne a_X1_hold_104 (fun h104 => ?_) (fun h104 => ?_)
      · skip
        have hsd : (if bitN T.so (dnT T z k) = b2n (dnH T z k) then 1 else 0) = 0 := by rw [hhon]; exact if_neg h104
        refine R_iconst (v := nI 0) a_X1_hold_111 rfl ?_
        refine R_callVv a_X1_hold_112 hR (ev_Radd hRP (show 0 < 2 by decide) (by decide)) rfl rfl rfl rfl rfl (fun σ hP => ?_)
        obtain ⟨hRP, hfA⟩ := hP
        obtain ⟨hr0, hR, -⟩ := id hRP
        have hF := (hfA _ (by omega)).trans hF
        have hfr : ∀ j, j < 257 ∨ 262 ≤ j → σ j = σ0 j := fun j hj => (hfA j (by omega)).trans (hfr j hj)
        have hTP : TbP σ p T := hT0.kept (fun j h1 h2 => hfr j (by omega))
        obtain ⟨hp0, hT, hk_, hh, hn_, hf_⟩ := id hTP
        have hRP : RdP σ 258 (rd1 R (dnI T z k) (dnT T z k) (if bitN T.so (dnT T z k) = b2n (dnH T z k) then 1 else 0)) := by rw [hsd]; exact hRP
        refine R_aload_n a_X1_hold_115 rfl ?_
        refine R_aload_n a_X1_hold_116 rfl ?_
        refine R_aload_n a_X1_hold_117 rfl ?_
        refine R_get a_X1_hold_118 hT rfl ?_
        refine R_aload_n a_X1_hold_121 rfl ?_
        refine R_get a_X1_hold_122 hT rfl ?_
        refine R_aload_n a_X1_hold_125 rfl ?_
        refine R_get a_X1_hold_126 hF rfl ?_
        refine R_aload_n a_X1_hold_129 rfl ?_
        refine R_get a_X1_hold_130 hF rfl ?_
        refine R_callVp a_X1_hold_133 hT (show EvP M_X8_landing [.ref p, .int (nI T.law), .int (nI T.so), .int (nI (dnK T a z k).1), .ref 258] σ (.int (nI (comesF T (dnK T a z k).1 (dnC T z k) 128 T.so T.law))) from ev_landing hTP ok hRP (rd1_ok hi ht (by rw [hsd]; decide)) hsl (show T.so < 2 ^ 31 by omega) lw) rfl rfl rfl rfl rfl ?_
        refine R_putiK (fs' := [_, _, _]) a_X1_hold_136 hF rfl rfl (fun σ hF ho => ?_)
        have hT := (ho _ (by omega)).trans hT
        have hfr : ∀ j, j < 257 ∨ 262 ≤ j → σ j = σ0 j := fun j hj => (ho j (by omega)).trans (hfr j hj)
        have hRP := hRP.kept (fun j h1 h2 => ho j (by omega))
        refine R_aload_n a_X1_hold_139 rfl ?_
        refine R_dup a_X1_hold_140 rfl ?_
        refine R_get a_X1_hold_141 hF rfl ?_
        refine R_dian 154 (fun v => v = if dnH T z k = true then 0 else 1) (fun hJ144 => ?_) (fun v144 e144 => ?_)
        · skip
          refine R_iload a_X1_hold_144 rfl ?_
          first | with_reducible refine R_if_eq_n a_X1_hold_146 (by omega) (fun h146 => ?_) (fun h146 => ?_) | refine R_if_eq a_X1_hold_146 (fun h146 => ?_) (fun h146 => ?_)
          · skip
            refine R_iconst (v := nI 1) a_X1_hold_153 rfl ?_
            exact hJ144 _ (by rw [hhon]; first | rfl | exact absurd h146 (by decide))
          · skip
            refine R_iconst (v := nI 0) a_X1_hold_149 rfl ?_
            refine R_goto a_X1_hold_150 ?_
            exact hJ144 _ (by rw [hhon]; first | rfl | exact absurd h146 (by decide))
        · skip
          have hv1 : v144 ≤ 1 := by rw [e144]; split <;> omega
          first | with_reducible refine R_iadd_n a_X1_hold_154 ?_ | refine R_iadd a_X1_hold_154 ?_
          refine R_putiK (fs' := [_, _, _]) a_X1_hold_155 hF rfl rfl (fun σ hF ho => ?_)
          have hT := (ho _ (by omega)).trans hT
          have hfr : ∀ j, j < 257 ∨ 262 ≤ j → σ j = σ0 j := fun j hj => (ho j (by omega)).trans (hfr j hj)
          have hRP := hRP.kept (fun j h1 h2 => ho j (by omega))
          first | with_reducible refine R_iinc_n (ls' := [_, _, _, _, _, _, _, _, _, _]) a_X1_hold_158 rfl rfl rfl rfl ?_ | refine R_iinc (ls' := [_, _, _, _, _, _, _, _, _, _]) a_X1_hold_158 rfl rfl rfl rfl rfl ?_
          refine R_goto a_X1_hold_161 ?_
          refine ih _ (show m - (k + 1) < n by omega) (k + 1) σ _ _ _ _ _ rfl (by omega) ⟨?_, hRP⟩ hfr
          simp only [dnK]
          rw [← e144]
          exact hF
      · skip
        have hsd : (if bitN T.so (dnT T z k) = b2n (dnH T z k) then 1 else 0) = 1 := by rw [hhon]; exact if_pos h104
        refine R_iconst (v := nI 1) a_X1_hold_107 rfl ?_
        refine R_goto a_X1_hold_108 ?_
        refine R_callVv a_X1_hold_112 hR (ev_Radd hRP (show 0 < 2 by decide) (by decide)) rfl rfl rfl rfl rfl (fun σ hP => ?_)
        obtain ⟨hRP, hfA⟩ := hP
        obtain ⟨hr0, hR, -⟩ := id hRP
        have hF := (hfA _ (by omega)).trans hF
        have hfr : ∀ j, j < 257 ∨ 262 ≤ j → σ j = σ0 j := fun j hj => (hfA j (by omega)).trans (hfr j hj)
        have hTP : TbP σ p T := hT0.kept (fun j h1 h2 => hfr j (by omega))
        obtain ⟨hp0, hT, hk_, hh, hn_, hf_⟩ := id hTP
        have hRP : RdP σ 258 (rd1 R (dnI T z k) (dnT T z k) (if bitN T.so (dnT T z k) = b2n (dnH T z k) then 1 else 0)) := by rw [hsd]; exact hRP
        refine R_aload_n a_X1_hold_115 rfl ?_
        refine R_aload_n a_X1_hold_116 rfl ?_
        refine R_aload_n a_X1_hold_117 rfl ?_
        refine R_get a_X1_hold_118 hT rfl ?_
        refine R_aload_n a_X1_hold_121 rfl ?_
        refine R_get a_X1_hold_122 hT rfl ?_
        refine R_aload_n a_X1_hold_125 rfl ?_
        refine R_get a_X1_hold_126 hF rfl ?_
        refine R_aload_n a_X1_hold_129 rfl ?_
        refine R_get a_X1_hold_130 hF rfl ?_
        refine R_callVp a_X1_hold_133 hT (show EvP M_X8_landing [.ref p, .int (nI T.law), .int (nI T.so), .int (nI (dnK T a z k).1), .ref 258] σ (.int (nI (comesF T (dnK T a z k).1 (dnC T z k) 128 T.so T.law))) from ev_landing hTP ok hRP (rd1_ok hi ht (by rw [hsd]; decide)) hsl (show T.so < 2 ^ 31 by omega) lw) rfl rfl rfl rfl rfl ?_
        refine R_putiK (fs' := [_, _, _]) a_X1_hold_136 hF rfl rfl (fun σ hF ho => ?_)
        have hT := (ho _ (by omega)).trans hT
        have hfr : ∀ j, j < 257 ∨ 262 ≤ j → σ j = σ0 j := fun j hj => (ho j (by omega)).trans (hfr j hj)
        have hRP := hRP.kept (fun j h1 h2 => ho j (by omega))
        refine R_aload_n a_X1_hold_139 rfl ?_
        refine R_dup a_X1_hold_140 rfl ?_
        refine R_get a_X1_hold_141 hF rfl ?_
        refine R_dian 154 (fun v => v = if dnH T z k = true then 0 else 1) (fun hJ144 => ?_) (fun v144 e144 => ?_)
        · skip
          refine R_iload a_X1_hold_144 rfl ?_
          first | with_reducible refine R_if_eq_n a_X1_hold_146 (by omega) (fun h146 => ?_) (fun h146 => ?_) | refine R_if_eq a_X1_hold_146 (fun h146 => ?_) (fun h146 => ?_)
          · skip
            refine R_iconst (v := nI 1) a_X1_hold_153 rfl ?_
            exact hJ144 _ (by rw [hhon]; first | rfl | exact absurd h146 (by decide))
          · skip
            refine R_iconst (v := nI 0) a_X1_hold_149 rfl ?_
            refine R_goto a_X1_hold_150 ?_
            exact hJ144 _ (by rw [hhon]; first | rfl | exact absurd h146 (by decide))
        · skip
          have hv1 : v144 ≤ 1 := by rw [e144]; split <;> omega
          first | with_reducible refine R_iadd_n a_X1_hold_154 ?_ | refine R_iadd a_X1_hold_154 ?_
          refine R_putiK (fs' := [_, _, _]) a_X1_hold_155 hF rfl rfl (fun σ hF ho => ?_)
          have hT := (ho _ (by omega)).trans hT
          have hfr : ∀ j, j < 257 ∨ 262 ≤ j → σ j = σ0 j := fun j hj => (ho j (by omega)).trans (hfr j hj)
          have hRP := hRP.kept (fun j h1 h2 => ho j (by omega))
          first | with_reducible refine R_iinc_n (ls' := [_, _, _, _, _, _, _, _, _, _]) a_X1_hold_158 rfl rfl rfl rfl ?_ | refine R_iinc (ls' := [_, _, _, _, _, _, _, _, _, _]) a_X1_hold_158 rfl rfl rfl rfl rfl ?_
          refine R_goto a_X1_hold_161 ?_
          refine ih _ (show m - (k + 1) < n by omega) (k + 1) σ _ _ _ _ _ rfl (by omega) ⟨?_, hRP⟩ hfr
          simp only [dnK]
          rw [← e144]
          exact hF

set_option maxRecDepth 20000 in
theorem ev_hold {σ0 : AHp} {p s u : Nat} {T : Tb} {R : Rs} (hT0 : TbP σ0 p T) (ok : TbOk T) (hp : 262 ≤ p) {a z m : Nat} (ha : a < T.g) (hz : z ≤ 9999) (hm : m ≤ 60) (hFs : FsP σ0 s u R) : EvW M_X1_hold [.ref 257, .ref p, .int (nI a), .int (nI z), .int (nI m)] σ0 none (fun σ => (∃ R', FsP σ (dnK T a z m).1 (dnK T a z m).2 R') ∧ Fr σ0 σ 257 5) := by
  obtain ⟨hF, hRP⟩ := id hFs
  have hfr : ∀ j, j < 257 ∨ 262 ≤ j → σ0 j = σ0 j := fun _ _ => rfl
  refine Ev.of (ls := [_, _, _, _, _, _, _, _, _, _]) 5 (by decide) rfl rfl ?_
  refine R_aload_n a_X1_hold_0 rfl ?_
  refine R_iload_n a_X1_hold_1 rfl ?_
  refine R_putiK (fs' := [_, _, _]) a_X1_hold_2 hF rfl rfl (fun σ hF ho => ?_)
  have hfr : ∀ j, j < 257 ∨ 262 ≤ j → σ j = σ0 j := fun j hj => (ho j (by omega)).trans (hfr j hj)
  have hRP := hRP.kept (fun j h1 h2 => ho j (by omega))
  refine R_aload_n a_X1_hold_5 rfl ?_
  refine R_iconst (v := nI 0) a_X1_hold_6 rfl ?_
  refine R_putiK (fs' := [_, _, _]) a_X1_hold_7 hF rfl rfl (fun σ hF ho => ?_)
  have hfr : ∀ j, j < 257 ∨ 262 ≤ j → σ j = σ0 j := fun j hj => (ho j (by omega)).trans (hfr j hj)
  have hRP := hRP.kept (fun j h1 h2 => ho j (by omega))
  refine R_iconst (v := nI 0) a_X1_hold_10 rfl ?_
  refine R_istore (ls' := [_, _, _, _, _, _, _, _, _, _]) a_X1_hold_11 rfl rfl rfl ?_
  exact lp_hold hT0 ok hp ha hz hm _ 0 σ R none none none none rfl (Nat.zero_le _) ⟨hF, hRP⟩ hfr

