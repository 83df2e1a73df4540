/-! ===== SaltToLiarsModel: what can be so ===== -/
theorem EvP.mp {M : MI} {av : List Value} {σ : AHp} {x : Value} {U : Us} (h : EvP M av σ x) (hC : MP σ U) : EvW M av σ (some x) (fun σ' => MP σ' U ∧ Fr σ σ' 272 12) := Ev.mono h (fun r σ' g => ⟨g.1, by rw [g.2]; exact ⟨hC, Fr.rf _ _ _⟩⟩)
def dcI : Nat → Int32
  | 0 => -1
  | k + 1 => nI k
theorem dcI_dec (q : Nat) : nI q + Int32.ofInt (-1) = dcI q := by
  cases q with
  | zero => rfl
  | succ q => exact pk_m1 q
def loE (o : Option Nat) (d : Int32) : Int32 := match o with
  | none => d
  | some x => nI x
theorem loE_step (Q : Nat → Bool) (k : Nat) (d : Int32) : loE (loK Q (k + 1)) d = loE (loK Q k) (if Q k = true then nI k else d) := by
  simp only [loK]
  cases e : loK Q k with
  | none =>
    by_cases q : Q k = true
    · rw [if_pos q, if_pos q]; rfl
    · rw [if_neg q, if_neg q]
  | some x => rfl
def fitF (T : Tb) (h : Hs) (w : Int32) : Int32 := gd (-1) w 2 fun c => if c = 0 then nI (nfK (explF T h T.law) (2 ^ T.n)) else lowI (loK (explF T h T.law) (2 ^ T.n))
set_option maxRecDepth 20000 in
theorem lp_fits {σ : AHp} {tl u kn ns : Nat} {at_ : Int32} {ft : Nat → Int32} {T : Tb} (hM : σ 272 = some (mdO tl u kn ns at_)) (hMT : MT σ ft T) (ok : TbOk T) {h : Hs} (hSr : σ 276 = some (iA 0 43 (nF (sF T h)))) (hHs : HsOk T h) {c : Nat} (hc : c < 2) : ∀ (n k m : Nat) (d v : Int32) (x5 : Option Value), k = n → k ≤ 2 ^ T.n → m + nfK (explF T h T.law) k = nfK (explF T h T.law) (2 ^ T.n) → lowI (loK (explF T h T.law) (2 ^ T.n)) = loE (loK (explF T h T.law) k) d → v = dcI k → Run M_X11_fits 28 [some (.ref 272), some (.int (nI c)), some (.int (nI m)), some (.int d), some (.int v), x5] [] σ 0 0 (fun r σ' => r = some (.int (if c = 0 then nI (nfK (explF T h T.law) (2 ^ T.n)) else lowI (loK (explF T h T.law) (2 ^ T.n)))) ∧ σ' = σ) := by
  obtain ⟨hTo, t0, t1, t2, t3, t28, tkd, thn, tkn, thf⟩ := id hMT
  obtain ⟨g3, g8, n1, n6, lw, stg, son, kd4, hn10, kn63, hf4⟩ := id ok
  have hn64 : 2 ^ T.n ≤ 2 ^ 6 := Nat.pow_le_pow_right (by decide) n6
  have hnf := nfK_le (explF T h T.law) (2 ^ T.n)
  intro n
  induction n using Nat.strongRecOn
  rename_i n ih
  intro k m d v x5 hm hk hmn hlo hv
  refine R_iload a_X11_fits_28 rfl ?_
  refine R_if_lt a_X11_fits_30 (fun h30 => ?_) (fun h30 => ?_)
  · skip
    have hk0 : k = 0 := by
      cases k with
      | zero => rfl
      | succ q => rw [hv] at h30; exact absurd h30 (nI_pos (show q < 2 ^ 31 by omega))
    subst hk0
    have hm0 : m = nfK (explF T h T.law) (2 ^ T.n) := by rw [← hmn]; rfl
    have hd0 : d = lowI (loK (explF T h T.law) (2 ^ T.n)) := hlo.symm
    refine R_iload_n a_X11_fits_78 rfl ?_
    first | with_reducible refine R_if_ne_n a_X11_fits_79 (by first | omega | exact Nat.lt_of_le_of_lt (inR_le _ _) (by decide) | exact Nat.lt_of_le_of_lt (bitN_le _ _) (by decide) | exact Nat.lt_of_le_of_lt (inI_le _ _ _) (by decide) | exact inI_le _ _ _ | exact inR_le _ _ | exact bitN_le _ _) (fun h79 => ?_) (fun h79 => ?_) | refine R_if_ne a_X11_fits_79 (fun h79 => ?_) (fun h79 => ?_)
    · skip
      have hz : nI m = nI m := rfl
      refine R_iload_n a_X11_fits_86 rfl ?_
      refine R_iret a_X11_fits_87 rfl ?_
      first | exact ⟨by rw [if_neg h79, hd0], rfl⟩ | exact ⟨by rw [if_pos h79, hm0], rfl⟩
    · skip
      refine R_iload_n a_X11_fits_82 rfl ?_
      refine R_goto a_X11_fits_83 ?_
      refine R_iret a_X11_fits_87 rfl ?_
      first | exact ⟨by rw [if_neg h79, hd0], rfl⟩ | exact ⟨by rw [if_pos h79, hm0], rfl⟩
  · skip
    obtain ⟨q, rfl⟩ : ∃ q, k = q + 1 := by
      cases k with
      | zero => rw [hv] at h30; exact absurd (by decide) h30
      | succ q => exact ⟨q, rfl⟩
    have hv : v = nI q := hv
    subst hv
    have hb1 := b2n_le (explF T h T.law q)
    refine R_aload_n a_X11_fits_33 rfl ?_
    refine R_iload a_X11_fits_34 rfl ?_
    refine R_aload_n a_X11_fits_36 rfl ?_
    refine R_get a_X11_fits_37 hM rfl ?_
    refine R_iconst (v := nI 2) a_X11_fits_40 rfl ?_
    refine R_iald_n a_X11_fits_41 hTo (by first | omega | exact Nat.lt_of_le_of_lt (inR_le _ _) (by decide) | exact Nat.lt_of_le_of_lt (bitN_le _ _) (by decide) | exact Nat.lt_of_le_of_lt (inI_le _ _ _) (by decide) | exact inI_le _ _ _ | exact inR_le _ _ | exact bitN_le _ _) (by decide) ?_
    refine R_top t2 ?_
    refine R_callVp a_X11_fits_42 hM (md_isSo hM hMT ok hSr hHs lw (show q < 2 ^ 31 by omega)) rfl rfl rfl rfl rfl ?_
    refine R_istore (ls' := [_, _, _, _, _, _]) a_X11_fits_45 rfl rfl rfl ?_
    refine R_iload_n a_X11_fits_47 rfl ?_
    refine R_iload a_X11_fits_48 rfl ?_
    first | with_reducible refine R_if_eq_n a_X11_fits_50 (by first | omega | exact Nat.lt_of_le_of_lt (inR_le _ _) (by decide) | exact Nat.lt_of_le_of_lt (bitN_le _ _) (by decide) | exact Nat.lt_of_le_of_lt (inI_le _ _ _) (by decide) | exact inI_le _ _ _ | exact inR_le _ _ | exact bitN_le _ _) (fun h50 => ?_) (fun h50 => ?_) | refine R_if_eq a_X11_fits_50 (fun h50 => ?_) (fun h50 => ?_)
    · skip
      have hPq : explF T h T.law q = false := by
        rcases b2n_val (explF T h T.law q) with ⟨-, e⟩ | ⟨e, -⟩
        · exact e
        · rw [e] at h50; cases h50
      have hmn2 : m + 0 + nfK (explF T h T.law) q = nfK (explF T h T.law) (2 ^ T.n) := by rw [← hmn]; simp only [nfK]; rw [hPq]; rfl
      have hlo2 : lowI (loK (explF T h T.law) (2 ^ T.n)) = loE (loK (explF T h T.law) q) d := by rw [hlo, loE_step, hPq]; rfl
      refine R_iconst (v := nI 0) a_X11_fits_57 rfl ?_
      first | with_reducible refine R_iadd_n a_X11_fits_58 ?_ | refine R_iadd a_X11_fits_58 ?_
      refine R_istore_n (ls' := [_, _, _, _, _, _]) a_X11_fits_59 rfl rfl rfl ?_
      refine R_iload a_X11_fits_60 rfl ?_
      first | with_reducible refine R_if_eq_n a_X11_fits_62 (by first | omega | exact Nat.lt_of_le_of_lt (inR_le _ _) (by decide) | exact Nat.lt_of_le_of_lt (bitN_le _ _) (by decide) | exact Nat.lt_of_le_of_lt (inI_le _ _ _) (by decide) | exact inI_le _ _ _ | exact inR_le _ _ | exact bitN_le _ _) (fun h62 => ?_) (fun h62 => ?_) | refine R_if_eq a_X11_fits_62 (fun h62 => ?_) (fun h62 => ?_)
      · skip
        refine R_iload_n a_X11_fits_70 rfl ?_
        refine R_istore_n (ls' := [_, _, _, _, _, _]) a_X11_fits_71 rfl rfl rfl ?_
        refine R_iinc (v := dcI q) (ls' := [_, _, _, _, _, _]) a_X11_fits_72 rfl (dcI_dec q) rfl rfl rfl ?_
        refine R_goto a_X11_fits_75 ?_
        exact ih q (by omega) q _ _ _ _ rfl (by omega) hmn2 hlo2 rfl
      · skip
        exact absurd h50 h62
    · skip
      have hPq : explF T h T.law q = true := by
        rcases b2n_val (explF T h T.law q) with ⟨e, -⟩ | ⟨-, e⟩
        · exact absurd e h50
        · exact e
      have hmn2 : m + 1 + nfK (explF T h T.law) q = nfK (explF T h T.law) (2 ^ T.n) := by rw [← hmn]; simp only [nfK]; rw [hPq, b2n_t]; omega
      have hlo2 : lowI (loK (explF T h T.law) (2 ^ T.n)) = loE (loK (explF T h T.law) q) (nI q) := by rw [hlo, loE_step, hPq]; rfl
      refine R_iconst (v := nI 1) a_X11_fits_53 rfl ?_
      refine R_goto a_X11_fits_54 ?_
      first | with_reducible refine R_iadd_n a_X11_fits_58 ?_ | refine R_iadd a_X11_fits_58 ?_
      refine R_istore_n (ls' := [_, _, _, _, _, _]) a_X11_fits_59 rfl rfl rfl ?_
      refine R_iload a_X11_fits_60 rfl ?_
      first | with_reducible refine R_if_eq_n a_X11_fits_62 (by first | omega | exact Nat.lt_of_le_of_lt (inR_le _ _) (by decide) | exact Nat.lt_of_le_of_lt (bitN_le _ _) (by decide) | exact Nat.lt_of_le_of_lt (inI_le _ _ _) (by decide) | exact inI_le _ _ _ | exact inR_le _ _ | exact bitN_le _ _) (fun h62 => ?_) (fun h62 => ?_) | refine R_if_eq a_X11_fits_62 (fun h62 => ?_) (fun h62 => ?_)
      · skip
        exact absurd h62 h50
      · skip
        refine R_iload a_X11_fits_65 rfl ?_
        refine R_goto a_X11_fits_67 ?_
        refine R_istore_n (ls' := [_, _, _, _, _, _]) a_X11_fits_71 rfl rfl rfl ?_
        refine R_iinc (v := dcI q) (ls' := [_, _, _, _, _, _]) a_X11_fits_72 rfl (dcI_dec q) rfl rfl rfl ?_
        refine R_goto a_X11_fits_75 ?_
        exact ih q (by omega) q _ _ _ _ rfl (by omega) hmn2 hlo2 rfl

set_option maxRecDepth 20000 in
theorem md_fitsP {σ : AHp} {tl u kn ns : Nat} {at_ : Int32} {ft : Nat → Int32} {T : Tb} (hM : σ 272 = some (mdO tl u kn ns at_)) (hMT : MT σ ft T) (ok : TbOk T) {h : Hs} (hSr : σ 276 = some (iA 0 43 (nF (sF T h)))) (hHs : HsOk T h) {w : Int32} : EvP M_X11_fits [.ref 272, .int w] σ (.int (fitF T h w)) := by
  obtain ⟨hTo, t0, t1, t2, t3, t28, tkd, thn, tkn, thf⟩ := id hMT
  obtain ⟨g3, g8, n1, n6, lw, stg, son, kd4, hn10, kn63, hf4⟩ := id ok
  have hn64 : 2 ^ T.n ≤ 2 ^ 6 := Nat.pow_le_pow_right (by decide) n6
  refine Ev.of (ls := [_, _, _, _, _, _]) 4 (by decide) rfl rfl ?_
  refine R_iload_n a_X11_fits_0 rfl ?_
  refine R_iconst (v := nI 0) a_X11_fits_1 rfl ?_
  refine R_iconst (v := nI 1) a_X11_fits_2 rfl ?_
  refine R_callSp a_X11_fits_3 md_in rfl rfl rfl rfl rfl ?_
  refine R_top (congrArg nI (inI_c w (n := 1) (by decide))) ?_
  first | with_reducible refine R_if_ne_n a_X11_fits_6 (by first | omega | exact Nat.lt_of_le_of_lt (inR_le _ _) (by decide) | exact Nat.lt_of_le_of_lt (bitN_le _ _) (by decide) | exact Nat.lt_of_le_of_lt (inI_le _ _ _) (by decide) | exact inI_le _ _ _ | exact inR_le _ _ | exact bitN_le _ _) (fun h6 => ?_) (fun h6 => ?_) | refine R_if_ne a_X11_fits_6 (fun h6 => ?_) (fun h6 => ?_)
  · skip
    obtain ⟨c, hc, rfl⟩ := inR_nz (by omega) h6
    have hz : fitF T h (nI c) = if c = 0 then nI (nfK (explF T h T.law) (2 ^ T.n)) else lowI (loK (explF T h T.law) (2 ^ T.n)) := by unfold fitF; rw [gd_in hc (by decide)]
    refine R_iconst (v := nI 0) a_X11_fits_11 rfl ?_
    refine R_istore_n (ls' := [_, _, _, _, _, _]) a_X11_fits_12 rfl rfl rfl ?_
    refine R_bipush (v := (-4)) a_X11_fits_13 rfl ?_
    refine R_istore_n (ls' := [_, _, _, _, _, _]) a_X11_fits_15 rfl rfl rfl ?_
    refine R_iconst (v := nI 1) a_X11_fits_16 rfl ?_
    refine R_aload_n a_X11_fits_17 rfl ?_
    refine R_get a_X11_fits_18 hM rfl ?_
    refine R_iconst (v := nI 1) a_X11_fits_21 rfl ?_
    refine R_iald_n a_X11_fits_22 hTo (by first | omega | exact Nat.lt_of_le_of_lt (inR_le _ _) (by decide) | exact Nat.lt_of_le_of_lt (bitN_le _ _) (by decide) | exact Nat.lt_of_le_of_lt (inI_le _ _ _) (by decide) | exact inI_le _ _ _ | exact inR_le _ _ | exact bitN_le _ _) (by decide) ?_
    refine R_top t1 ?_
    first | with_reducible refine R_ishl1 a_X11_fits_23 (by first | omega | exact Nat.lt_of_le_of_lt (inR_le _ _) (by decide) | exact Nat.lt_of_le_of_lt (bitN_le _ _) (by decide) | exact Nat.lt_of_le_of_lt (inI_le _ _ _) (by decide) | exact inI_le _ _ _ | exact inR_le _ _ | exact bitN_le _ _) ?_ | with_reducible refine R_ishl_n a_X11_fits_23 (by first | omega | exact Nat.lt_of_le_of_lt (inR_le _ _) (by decide) | exact Nat.lt_of_le_of_lt (bitN_le _ _) (by decide) | exact Nat.lt_of_le_of_lt (inI_le _ _ _) (by decide) | exact inI_le _ _ _ | exact inR_le _ _ | exact bitN_le _ _) (by first | omega | exact Nat.lt_of_le_of_lt (inR_le _ _) (by decide) | exact Nat.lt_of_le_of_lt (bitN_le _ _) (by decide) | exact Nat.lt_of_le_of_lt (inI_le _ _ _) (by decide) | exact inI_le _ _ _ | exact inR_le _ _ | exact bitN_le _ _) ?_ | refine R_ishl a_X11_fits_23 ?_
    refine R_iconst (v := nI 1) a_X11_fits_24 rfl ?_
    refine R_isub_n a_X11_fits_25 (Nat.one_le_two_pow) ?_
    refine R_istore (ls' := [_, _, _, _, _, _]) a_X11_fits_26 rfl rfl rfl ?_
    rw [hz]
    have h2n : 1 ≤ 2 ^ T.n := Nat.one_le_two_pow
    exact lp_fits hM hMT ok hSr hHs hc _ (2 ^ T.n) 0 (-4) _ none rfl (Nat.le_refl _) (Nat.zero_add _) (by cases loK (explF T h T.law) (2 ^ T.n) <;> rfl) (by cases e : 2 ^ T.n with | zero => omega | succ q => rfl)
  · skip
    have hz : fitF T h w = -1 := by unfold fitF; rw [gd_out h6]
    refine R_iconst (v := (-1)) a_X11_fits_9 rfl ?_
    refine R_iret a_X11_fits_10 rfl ?_
    exact ⟨by rw [hz], rfl⟩

theorem md_fits {σ0 : AHp} {U : Us} {m : Nat} (hC : MP σ0 U) (hU : UOk U m) (hm : m < 2 ^ 20) {w : Int32} : EvW M_X11_fits [.ref 272, .int w] σ0 (some (.int (zFits U w))) (fun σ => MP σ U ∧ Fr σ0 σ 272 12) := by
  obtain ⟨at_, fx, ft, fd, fp, fi, fy, fw, fs, fb, fh, hM, hMX, hMT, hDr, hSr, -⟩ := id hC
  exact EvP.mp (md_fitsP hM hMT hU.T hSr hU.2.2.2.1) hC
def suK (Q : Nat → Bool) (all b k : Nat) : Nat := if b = 0 then neK Q all k else alK Q all k
theorem suK_lt (Q : Nat → Bool) {all : Nat} (ha : all < 64) (b : Nat) : ∀ k, suK Q all b k < 64 := by
  intro k
  unfold suK
  split
  · induction k with
    | zero => exact ha
    | succ k ih =>
      simp only [neK]
      split
      · exact Nat.lt_of_le_of_lt Nat.and_le_left ih
      · exact ih
  · induction k with
    | zero => exact ha
    | succ k ih =>
      simp only [alK]
      split
      · exact Nat.lt_of_le_of_lt Nat.and_le_left ih
      · exact ih
def surF (T : Tb) (h : Hs) (b : Nat) : Int32 := if nfK (explF T h T.law) (2 ^ T.n) = 0 then -4 else nI (suK (explF T h T.law) (2 ^ T.n - 1) b (2 ^ T.n))
theorem surF_eq (U : Us) (b : Nat) : zSure U b = surF U.T U.h b := by
  unfold zSure surF suK
  split
  · rfl
  · split <;> rfl
set_option maxRecDepth 20000 in
theorem lp_sure {σ : AHp} {tl u kn ns : Nat} {at_ : Int32} {ft : Nat → Int32} {T : Tb} (hM : σ 272 = some (mdO tl u kn ns at_)) (hMT : MT σ ft T) (ok : TbOk T) {h : Hs} (hSr : σ 276 = some (iA 0 43 (nF (sF T h)))) (hHs : HsOk T h) {b : Nat} (hb : b ≤ 1) : ∀ (n k a : Nat), 2 ^ T.n - k = n → k ≤ 2 ^ T.n → a = (if nfK (explF T h T.law) k = 0 then 0 else 1) → Run M_X11_sure 19 [some (.ref 272), some (.int (nI b)), some (.int (nI (2 ^ T.n - 1))), some (.int (nI (suK (explF T h T.law) (2 ^ T.n - 1) b k))), some (.int (nI a)), some (.int (nI k))] [] σ 0 0 (fun r σ' => r = some (.int (surF T h b)) ∧ σ' = σ) := by
  obtain ⟨hTo, t0, t1, t2, t3, t28, tkd, thn, tkn, thf⟩ := id hMT
  obtain ⟨g3, g8, n1, n6, lw, stg, son, kd4, hn10, kn63, hf4⟩ := id ok
  have hn64 : 2 ^ T.n ≤ 2 ^ 6 := Nat.pow_le_pow_right (by decide) n6
  have h2n : 1 ≤ 2 ^ T.n := Nat.one_le_two_pow
  intro n
  induction n using Nat.strongRecOn
  rename_i n ih
  intro k a hm hk ha
  have hs64 := suK_lt (explF T h T.law) (all := 2 ^ T.n - 1) (by omega) b k
  have hb1 := b2n_le (explF T h T.law k)
  have ha1 : a ≤ 1 := by rw [ha]; split <;> omega
  refine R_iload a_X11_sure_19 rfl ?_
  refine R_iload_n a_X11_sure_21 rfl ?_
  first | with_reducible refine R_icmp_gt_n a_X11_sure_22 (by first | omega | exact Nat.lt_of_le_of_lt (inR_le _ _) (by decide) | exact Nat.lt_of_le_of_lt (bitN_le _ _) (by decide) | exact Nat.lt_of_le_of_lt (inI_le _ _ _) (by decide) | exact inI_le _ _ _ | exact inR_le _ _ | exact bitN_le _ _) (by first | omega | exact Nat.lt_of_le_of_lt (inR_le _ _) (by decide) | exact Nat.lt_of_le_of_lt (bitN_le _ _) (by decide) | exact Nat.lt_of_le_of_lt (inI_le _ _ _) (by decide) | exact inI_le _ _ _ | exact inR_le _ _ | exact bitN_le _ _) (fun h22 => ?_) (fun h22 => ?_) | refine R_icmp_gt a_X11_sure_22 (fun h22 => ?_) (fun h22 => ?_)
  · skip
    have hke : k = 2 ^ T.n := by omega
    subst hke
    refine R_iload a_X11_sure_65 rfl ?_
    first | with_reducible refine R_if_eq_n a_X11_sure_67 (by first | omega | exact Nat.lt_of_le_of_lt (inR_le _ _) (by decide) | exact Nat.lt_of_le_of_lt (bitN_le _ _) (by decide) | exact Nat.lt_of_le_of_lt (inI_le _ _ _) (by decide) | exact inI_le _ _ _ | exact inR_le _ _ | exact bitN_le _ _) (fun h67 => ?_) (fun h67 => ?_) | refine R_if_eq a_X11_sure_67 (fun h67 => ?_) (fun h67 => ?_)
    · skip
      have hz : surF T h b = -4 := by
        unfold surF
        rw [if_pos]
        by_cases q : nfK (explF T h T.law) (2 ^ T.n) = 0
        · exact q
        · rw [ha, if_neg q] at h67; cases h67
      refine R_bipush (v := (-4)) a_X11_sure_74 rfl ?_
      refine R_iret a_X11_sure_76 rfl ?_
      exact ⟨by rw [hz], rfl⟩
    · skip
      have hz : surF T h b = nI (suK (explF T h T.law) (2 ^ T.n - 1) b (2 ^ T.n)) := by
        unfold surF
        rw [if_neg]
        intro q
        rw [ha, if_pos q] at h67
        exact h67 rfl
      refine R_iload_n a_X11_sure_70 rfl ?_
      refine R_goto a_X11_sure_71 ?_
      refine R_iret a_X11_sure_76 rfl ?_
      exact ⟨by rw [hz], rfl⟩
  · skip
    refine R_aload_n a_X11_sure_25 rfl ?_
    refine R_iload a_X11_sure_26 rfl ?_
    refine R_aload_n a_X11_sure_28 rfl ?_
    refine R_get a_X11_sure_29 hM rfl ?_
    refine R_iconst (v := nI 2) a_X11_sure_32 rfl ?_
    refine R_iald_n a_X11_sure_33 hTo (by first | omega | exact Nat.lt_of_le_of_lt (inR_le _ _) (by decide) | exact Nat.lt_of_le_of_lt (bitN_le _ _) (by decide) | exact Nat.lt_of_le_of_lt (inI_le _ _ _) (by decide) | exact inI_le _ _ _ | exact inR_le _ _ | exact bitN_le _ _) (by decide) ?_
    refine R_top t2 ?_
    refine R_callVp a_X11_sure_34 hM (md_isSo hM hMT ok hSr hHs lw (show k < 2 ^ 31 by omega)) rfl rfl rfl rfl rfl ?_
    first | with_reducible refine R_if_eq_n a_X11_sure_37 (by first | omega | exact Nat.lt_of_le_of_lt (inR_le _ _) (by decide) | exact Nat.lt_of_le_of_lt (bitN_le _ _) (by decide) | exact Nat.lt_of_le_of_lt (inI_le _ _ _) (by decide) | exact inI_le _ _ _ | exact inR_le _ _ | exact bitN_le _ _) (fun h37 => ?_) (fun h37 => ?_) | refine R_if_eq a_X11_sure_37 (fun h37 => ?_) (fun h37 => ?_)
    · skip
      have hPk : explF T h T.law k = false := by
        rcases b2n_val (explF T h T.law k) with ⟨-, e⟩ | ⟨e, -⟩
        · exact e
        · rw [e] at h37; cases h37
      first | with_reducible refine R_iinc_n (ls' := [_, _, _, _, _, _]) a_X11_sure_59 rfl rfl rfl rfl ?_ | refine R_iinc (ls' := [_, _, _, _, _, _]) a_X11_sure_59 rfl rfl rfl rfl rfl ?_
      refine R_goto a_X11_sure_62 ?_
      have hse : suK (explF T h T.law) (2 ^ T.n - 1) b (k + 1) = suK (explF T h T.law) (2 ^ T.n - 1) b k := by
        unfold suK
        simp only [neK, alK]
        rw [hPk]
        rfl
      rw [← hse]
      exact ih _ (show 2 ^ T.n - (k + 1) < n by omega) (k + 1) _ rfl (by omega) (by rw [ha, show nfK (explF T h T.law) (k + 1) = nfK (explF T h T.law) k by simp only [nfK]; rw [hPk]; rfl])
    · skip
      have hPk : explF T h T.law k = true := by
        rcases b2n_val (explF T h T.law k) with ⟨e, -⟩ | ⟨-, e⟩
        · exact absurd e h37
        · exact e
      refine R_iconst (v := nI 1) a_X11_sure_40 rfl ?_
      refine R_istore (ls' := [_, _, _, _, _, _]) a_X11_sure_41 rfl rfl rfl ?_
      refine R_iload_n a_X11_sure_43 rfl ?_
      refine R_iload_n a_X11_sure_44 rfl ?_
      first | with_reducible refine R_if_eq_n a_X11_sure_45 (by first | omega | exact Nat.lt_of_le_of_lt (inR_le _ _) (by decide) | exact Nat.lt_of_le_of_lt (bitN_le _ _) (by decide) | exact Nat.lt_of_le_of_lt (inI_le _ _ _) (by decide) | exact inI_le _ _ _ | exact inR_le _ _ | exact bitN_le _ _) (fun h45 => ?_) (fun h45 => ?_) | refine R_if_eq a_X11_sure_45 (fun h45 => ?_) (fun h45 => ?_)
      · skip
        have hse : nI (suK (explF T h T.law) (2 ^ T.n - 1) b k) &&& (nI k ^^^ (-1)) = nI (suK (explF T h T.law) (2 ^ T.n - 1) b (k + 1)) := by
          rw [not64 _ hs64 k (by omega)]
          unfold suK
          rw [if_pos h45, if_pos h45]
          simp only [neK]
          rw [if_pos hPk]
        refine R_iload a_X11_sure_53 rfl ?_
        refine R_iconst (v := (-1)) a_X11_sure_55 rfl ?_
        first | with_reducible refine R_ixor_n a_X11_sure_56 ?_ | refine R_ixor a_X11_sure_56 ?_
        first | with_reducible refine R_iand1 a_X11_sure_57 ?_ | with_reducible refine R_iand_n a_X11_sure_57 ?_ | refine R_iand a_X11_sure_57 ?_
        refine R_istore_n (ls' := [_, _, _, _, _, _]) a_X11_sure_58 rfl rfl rfl ?_
        first | with_reducible refine R_iinc_n (ls' := [_, _, _, _, _, _]) a_X11_sure_59 rfl rfl rfl rfl ?_ | refine R_iinc (ls' := [_, _, _, _, _, _]) a_X11_sure_59 rfl rfl rfl rfl rfl ?_
        refine R_goto a_X11_sure_62 ?_
        rw [hse]
        exact ih _ (show 2 ^ T.n - (k + 1) < n by omega) (k + 1) _ rfl (by omega) (by rw [if_neg]; simp only [nfK]; rw [hPk, b2n_t]; omega)
      · skip
        have hse : nI (suK (explF T h T.law) (2 ^ T.n - 1) b k &&& k) = nI (suK (explF T h T.law) (2 ^ T.n - 1) b (k + 1)) := by
          unfold suK
          rw [if_neg h45, if_neg h45]
          simp only [alK]
          rw [if_pos hPk]
        refine R_iload a_X11_sure_48 rfl ?_
        refine R_goto a_X11_sure_50 ?_
        first | with_reducible refine R_iand1 a_X11_sure_57 ?_ | with_reducible refine R_iand_n a_X11_sure_57 ?_ | refine R_iand a_X11_sure_57 ?_
        refine R_istore_n (ls' := [_, _, _, _, _, _]) a_X11_sure_58 rfl rfl rfl ?_
        first | with_reducible refine R_iinc_n (ls' := [_, _, _, _, _, _]) a_X11_sure_59 rfl rfl rfl rfl ?_ | refine R_iinc (ls' := [_, _, _, _, _, _]) a_X11_sure_59 rfl rfl rfl rfl rfl ?_
        refine R_goto a_X11_sure_62 ?_
        rw [hse]
        exact ih _ (show 2 ^ T.n - (k + 1) < n by omega) (k + 1) _ rfl (by omega) (by rw [if_neg]; simp only [nfK]; rw [hPk, b2n_t]; omega)

set_option maxRecDepth 20000 in
theorem md_sureP {σ : AHp} {tl u kn ns : Nat} {at_ : Int32} {ft : Nat → Int32} {T : Tb} (hM : σ 272 = some (mdO tl u kn ns at_)) (hMT : MT σ ft T) (ok : TbOk T) {h : Hs} (hSr : σ 276 = some (iA 0 43 (nF (sF T h)))) (hHs : HsOk T h) {b : Nat} (hb : b ≤ 1) : EvP M_X11_sure [.ref 272, .int (nI b)] σ (.int (surF T h b)) := by
  obtain ⟨hTo, t0, t1, t2, t3, t28, tkd, thn, tkn, thf⟩ := id hMT
  obtain ⟨g3, g8, n1, n6, lw, stg, son, kd4, hn10, kn63, hf4⟩ := id ok
  have hn64 : 2 ^ T.n ≤ 2 ^ 6 := Nat.pow_le_pow_right (by decide) n6
  refine Ev.of (ls := [_, _, _, _, _, _]) 4 (by decide) rfl rfl ?_
  refine R_iconst (v := nI 1) a_X11_sure_0 rfl ?_
  refine R_aload_n a_X11_sure_1 rfl ?_
  refine R_get a_X11_sure_2 hM rfl ?_
  refine R_iconst (v := nI 1) a_X11_sure_5 rfl ?_
  refine R_iald_n a_X11_sure_6 hTo (by first | omega | exact Nat.lt_of_le_of_lt (inR_le _ _) (by decide) | exact Nat.lt_of_le_of_lt (bitN_le _ _) (by decide) | exact Nat.lt_of_le_of_lt (inI_le _ _ _) (by decide) | exact inI_le _ _ _ | exact inR_le _ _ | exact bitN_le _ _) (by decide) ?_
  refine R_top t1 ?_
  first | with_reducible refine R_ishl1 a_X11_sure_7 (by first | omega | exact Nat.lt_of_le_of_lt (inR_le _ _) (by decide) | exact Nat.lt_of_le_of_lt (bitN_le _ _) (by decide) | exact Nat.lt_of_le_of_lt (inI_le _ _ _) (by decide) | exact inI_le _ _ _ | exact inR_le _ _ | exact bitN_le _ _) ?_ | with_reducible refine R_ishl_n a_X11_sure_7 (by first | omega | exact Nat.lt_of_le_of_lt (inR_le _ _) (by decide) | exact Nat.lt_of_le_of_lt (bitN_le _ _) (by decide) | exact Nat.lt_of_le_of_lt (inI_le _ _ _) (by decide) | exact inI_le _ _ _ | exact inR_le _ _ | exact bitN_le _ _) (by first | omega | exact Nat.lt_of_le_of_lt (inR_le _ _) (by decide) | exact Nat.lt_of_le_of_lt (bitN_le _ _) (by decide) | exact Nat.lt_of_le_of_lt (inI_le _ _ _) (by decide) | exact inI_le _ _ _ | exact inR_le _ _ | exact bitN_le _ _) ?_ | refine R_ishl a_X11_sure_7 ?_
  refine R_iconst (v := nI 1) a_X11_sure_8 rfl ?_
  refine R_isub_n a_X11_sure_9 (Nat.one_le_two_pow) ?_
  refine R_istore_n (ls' := [_, _, _, _, _, _]) a_X11_sure_10 rfl rfl rfl ?_
  refine R_iload_n a_X11_sure_11 rfl ?_
  refine R_istore_n (ls' := [_, _, _, _, _, _]) a_X11_sure_12 rfl rfl rfl ?_
  refine R_iconst (v := nI 0) a_X11_sure_13 rfl ?_
  refine R_istore (ls' := [_, _, _, _, _, _]) a_X11_sure_14 rfl rfl rfl ?_
  refine R_iconst (v := nI 0) a_X11_sure_16 rfl ?_
  refine R_istore (ls' := [_, _, _, _, _, _]) a_X11_sure_17 rfl rfl rfl ?_
  have hz : suK (explF T h T.law) (2 ^ T.n - 1) b 0 = 2 ^ T.n - 1 := by unfold suK; split <;> rfl
  have key := lp_sure hM hMT ok hSr hHs hb _ 0 0 rfl (Nat.zero_le _) rfl
  rw [hz] at key
  exact key

theorem md_sure {σ0 : AHp} {U : Us} {m : Nat} (hC : MP σ0 U) (hU : UOk U m) (hm : m < 2 ^ 20) {b : Nat} (hb : b ≤ 1) : EvW M_X11_sure [.ref 272, .int (nI b)] σ0 (some (.int (zSure U b))) (fun σ => MP σ U ∧ Fr σ0 σ 272 12) := by
  obtain ⟨at_, fx, ft, fd, fp, fi, fy, fw, fs, fb, fh, hM, hMX, hMT, hDr, hSr, -⟩ := id hC
  rw [surF_eq]
  exact EvP.mp (md_sureP hM hMT hU.T hSr hU.2.2.2.1 hb) hC
set_option maxRecDepth 20000 in
theorem lp_mlaws {σ : AHp} {tl u kn ns : Nat} {at_ : Int32} {ft : Nat → Int32} {T : Tb} (hM : σ 272 = some (mdO tl u kn ns at_)) (hMT : MT σ ft T) (ok : TbOk T) {h : Hs} (hSr : σ 276 = some (iA 0 43 (nF (sF T h)))) (hHs : HsOk T h) : ∀ (n k : Nat), 4 - k = n → k ≤ 4 → Run M_X11_laws 4 [some (.ref 272), some (.int (nI (lwK T h k))), some (.int (nI k))] [] σ 0 0 (fun r σ' => r = some (.int (nI (lwK T h 4))) ∧ σ' = σ) := by
  obtain ⟨hTo, t0, t1, t2, t3, t28, tkd, thn, tkn, thf⟩ := id hMT
  obtain ⟨g3, g8, n1, n6, lw, stg, son, kd4, hn10, kn63, hf4⟩ := id ok
  have hn64 : 2 ^ T.n ≤ 2 ^ 6 := Nat.pow_le_pow_right (by decide) n6
  intro n
  induction n using Nat.strongRecOn
  rename_i n ih
  intro k hm hk
  have hb1 := b2n_le (explF T h k T.so)
  refine R_iload_n a_X11_laws_4 rfl ?_
  refine R_iconst (v := nI 4) a_X11_laws_5 rfl ?_
  first | with_reducible refine R_icmp_ge_n a_X11_laws_6 (by first | omega | exact Nat.lt_of_le_of_lt (inR_le _ _) (by decide) | exact Nat.lt_of_le_of_lt (bitN_le _ _) (by decide) | exact Nat.lt_of_le_of_lt (inI_le _ _ _) (by decide) | exact inI_le _ _ _ | exact inR_le _ _ | exact bitN_le _ _) (by first | omega | exact Nat.lt_of_le_of_lt (inR_le _ _) (by decide) | exact Nat.lt_of_le_of_lt (bitN_le _ _) (by decide) | exact Nat.lt_of_le_of_lt (inI_le _ _ _) (by decide) | exact inI_le _ _ _ | exact inR_le _ _ | exact bitN_le _ _) (fun h6 => ?_) (fun h6 => ?_) | refine R_icmp_ge a_X11_laws_6 (fun h6 => ?_) (fun h6 => ?_)
  · skip
    have hke : k = 4 := by omega
    subst hke
    refine R_iload_n a_X11_laws_40 rfl ?_
    refine R_iret a_X11_laws_41 rfl ?_
    exact ⟨rfl, rfl⟩
  · skip
    refine R_iload_n a_X11_laws_9 rfl ?_
    refine R_aload_n a_X11_laws_10 rfl ?_
    refine R_aload_n a_X11_laws_11 rfl ?_
    refine R_get a_X11_laws_12 hM rfl ?_
    refine R_bipush (v := nI 28) a_X11_laws_15 rfl ?_
    refine R_iald_n a_X11_laws_17 hTo (by first | omega | exact Nat.lt_of_le_of_lt (inR_le _ _) (by decide) | exact Nat.lt_of_le_of_lt (bitN_le _ _) (by decide) | exact Nat.lt_of_le_of_lt (inI_le _ _ _) (by decide) | exact inI_le _ _ _ | exact inR_le _ _ | exact bitN_le _ _) (by decide) ?_
    refine R_top t28 ?_
    refine R_iload_n a_X11_laws_18 rfl ?_
    refine R_callVp a_X11_laws_19 hM (md_isSo hM hMT ok hSr hHs (show k < 4 by omega) (show T.so < 2 ^ 31 by omega)) rfl rfl rfl rfl rfl ?_
    first | with_reducible refine R_if_eq_n a_X11_laws_22 (by first | omega | exact Nat.lt_of_le_of_lt (inR_le _ _) (by decide) | exact Nat.lt_of_le_of_lt (bitN_le _ _) (by decide) | exact Nat.lt_of_le_of_lt (inI_le _ _ _) (by decide) | exact inI_le _ _ _ | exact inR_le _ _ | exact bitN_le _ _) (fun h22 => ?_) (fun h22 => ?_) | refine R_if_eq a_X11_laws_22 (fun h22 => ?_) (fun h22 => ?_)
    · skip
      have hse : lwK T h k ||| 0 = lwK T h (k + 1) := by
        simp only [lwK]
        rw [if_neg, Nat.or_zero]
        intro q
        rw [q] at h22
        cases h22
      refine R_iconst (v := nI 0) a_X11_laws_31 rfl ?_
      first | with_reducible refine R_ior_n a_X11_laws_32 ?_ | refine R_ior a_X11_laws_32 ?_
      refine R_istore_n (ls' := [_, _, _]) a_X11_laws_33 rfl rfl rfl ?_
      first | with_reducible refine R_iinc_n (ls' := [_, _, _]) a_X11_laws_34 rfl rfl rfl rfl ?_ | refine R_iinc (ls' := [_, _, _]) a_X11_laws_34 rfl rfl rfl rfl rfl ?_
      refine R_goto a_X11_laws_37 ?_
      rw [hse]
      exact ih _ (show 4 - (k + 1) < n by omega) (k + 1) rfl (by omega)
    · skip
      have hse : lwK T h k ||| 2 ^ k = lwK T h (k + 1) := by
        simp only [lwK]
        rw [if_pos]
        rcases b2n_val (explF T h k T.so) with ⟨e, -⟩ | ⟨-, e⟩
        · exact absurd e h22
        · exact e
      refine R_iconst (v := nI 1) a_X11_laws_25 rfl ?_
      refine R_iload_n a_X11_laws_26 rfl ?_
      first | with_reducible refine R_ishl1 a_X11_laws_27 (by first | omega | exact Nat.lt_of_le_of_lt (inR_le _ _) (by decide) | exact Nat.lt_of_le_of_lt (bitN_le _ _) (by decide) | exact Nat.lt_of_le_of_lt (inI_le _ _ _) (by decide) | exact inI_le _ _ _ | exact inR_le _ _ | exact bitN_le _ _) ?_ | with_reducible refine R_ishl_n a_X11_laws_27 (by first | omega | exact Nat.lt_of_le_of_lt (inR_le _ _) (by decide) | exact Nat.lt_of_le_of_lt (bitN_le _ _) (by decide) | exact Nat.lt_of_le_of_lt (inI_le _ _ _) (by decide) | exact inI_le _ _ _ | exact inR_le _ _ | exact bitN_le _ _) (by first | omega | exact Nat.lt_of_le_of_lt (inR_le _ _) (by decide) | exact Nat.lt_of_le_of_lt (bitN_le _ _) (by decide) | exact Nat.lt_of_le_of_lt (inI_le _ _ _) (by decide) | exact inI_le _ _ _ | exact inR_le _ _ | exact bitN_le _ _) ?_ | refine R_ishl a_X11_laws_27 ?_
      refine R_goto a_X11_laws_28 ?_
      first | with_reducible refine R_ior_n a_X11_laws_32 ?_ | refine R_ior a_X11_laws_32 ?_
      refine R_istore_n (ls' := [_, _, _]) a_X11_laws_33 rfl rfl rfl ?_
      first | with_reducible refine R_iinc_n (ls' := [_, _, _]) a_X11_laws_34 rfl rfl rfl rfl ?_ | refine R_iinc (ls' := [_, _, _]) a_X11_laws_34 rfl rfl rfl rfl rfl ?_
      refine R_goto a_X11_laws_37 ?_
      rw [hse]
      exact ih _ (show 4 - (k + 1) < n by omega) (k + 1) rfl (by omega)

set_option maxRecDepth 20000 in
theorem md_lawsP {σ : AHp} {tl u kn ns : Nat} {at_ : Int32} {ft : Nat → Int32} {T : Tb} (hM : σ 272 = some (mdO tl u kn ns at_)) (hMT : MT σ ft T) (ok : TbOk T) {h : Hs} (hSr : σ 276 = some (iA 0 43 (nF (sF T h)))) (hHs : HsOk T h) : EvP M_X11_laws [.ref 272] σ (.int (nI (lwK T h 4))) := by
  refine Ev.of (ls := [_, _, _]) 2 (by decide) rfl rfl ?_
  refine R_iconst (v := nI 0) a_X11_laws_0 rfl ?_
  refine R_istore_n (ls' := [_, _, _]) a_X11_laws_1 rfl rfl rfl ?_
  refine R_iconst (v := nI 0) a_X11_laws_2 rfl ?_
  refine R_istore_n (ls' := [_, _, _]) a_X11_laws_3 rfl rfl rfl ?_
  exact lp_mlaws hM hMT ok hSr hHs _ 0 rfl (Nat.zero_le _)

theorem md_laws {σ0 : AHp} {U : Us} {m : Nat} (hC : MP σ0 U) (hU : UOk U m) (hm : m < 2 ^ 20) : EvW M_X11_laws [.ref 272] σ0 (some (.int (zLaws U))) (fun σ => MP σ U ∧ Fr σ0 σ 272 12) := by
  obtain ⟨at_, fx, ft, fd, fp, fi, fy, fw, fs, fb, fh, hM, hMX, hMT, hDr, hSr, -⟩ := id hC
  exact EvP.mp (md_lawsP hM hMT hU.T hSr hU.2.2.2.1) hC
def onN (a : Nat) : Nat → Nat
  | 0 => 0
  | k + 1 => onN a k + bitN a k
theorem ones_bc : ∀ a, a < 64 → bcF (nI a) = nI (onN a 8) := by decide +kernel
theorem nI_self (y : Int32) : ∃ z, y = nI z := ⟨y.toBitVec.toNat, by
  apply Int32.toBitVec_inj.mp
  show y.toBitVec = BitVec.ofNat 32 y.toBitVec.toNat
  simp⟩
theorem and_small {a : Nat} (ha : a < 64) (y : Int32) : ∃ b, b < 64 ∧ nI a &&& y = nI b := by
  obtain ⟨z, rfl⟩ := nI_self y
  exact ⟨a &&& z, Nat.lt_of_le_of_lt Nat.and_le_left ha, n_and a z⟩
set_option maxRecDepth 20000 in
theorem lp_ones {σ : AHp} {a : Nat} (ha : a < 64) : ∀ (n k : Nat), 8 - k = n → k ≤ 8 → Run M_X11_ones 4 [some (.int (nI a)), some (.int (nI (onN a k))), some (.int (nI k))] [] σ 0 0 (fun r σ' => r = some (.int (nI (onN a 8))) ∧ σ' = σ) := by
  intro n
  induction n using Nat.strongRecOn
  rename_i n ih
  intro k hm hk
  refine R_iload_n a_X11_ones_4 rfl ?_
  refine R_bipush (v := nI 8) a_X11_ones_5 rfl ?_
  first | with_reducible refine R_icmp_ge_n a_X11_ones_7 (by first | omega | exact Nat.lt_of_le_of_lt (inR_le _ _) (by decide) | exact Nat.lt_of_le_of_lt (bitN_le _ _) (by decide) | exact Nat.lt_of_le_of_lt (inI_le _ _ _) (by decide) | exact inI_le _ _ _ | exact inR_le _ _ | exact bitN_le _ _) (by first | omega | exact Nat.lt_of_le_of_lt (inR_le _ _) (by decide) | exact Nat.lt_of_le_of_lt (bitN_le _ _) (by decide) | exact Nat.lt_of_le_of_lt (inI_le _ _ _) (by decide) | exact inI_le _ _ _ | exact inR_le _ _ | exact bitN_le _ _) (fun h7 => ?_) (fun h7 => ?_) | refine R_icmp_ge a_X11_ones_7 (fun h7 => ?_) (fun h7 => ?_)
  · skip
    have hke : k = 8 := by omega
    subst hke
    refine R_iload_n a_X11_ones_24 rfl ?_
    refine R_iret a_X11_ones_25 rfl ?_
    exact ⟨rfl, rfl⟩
  · skip
    refine R_iload_n a_X11_ones_10 rfl ?_
    refine R_iload_n a_X11_ones_11 rfl ?_
    refine R_iload_n a_X11_ones_12 rfl ?_
    first | with_reducible refine R_ishr_n a_X11_ones_13 (by first | omega | exact Nat.lt_of_le_of_lt (inR_le _ _) (by decide) | exact Nat.lt_of_le_of_lt (bitN_le _ _) (by decide) | exact Nat.lt_of_le_of_lt (inI_le _ _ _) (by decide) | exact inI_le _ _ _ | exact inR_le _ _ | exact bitN_le _ _) (by first | omega | exact Nat.lt_of_le_of_lt (inR_le _ _) (by decide) | exact Nat.lt_of_le_of_lt (bitN_le _ _) (by decide) | exact Nat.lt_of_le_of_lt (inI_le _ _ _) (by decide) | exact inI_le _ _ _ | exact inR_le _ _ | exact bitN_le _ _) ?_ | refine R_ishr a_X11_ones_13 ?_
    refine R_iconst (v := nI 1) a_X11_ones_14 rfl ?_
    first | with_reducible refine R_iand1 a_X11_ones_15 ?_ | with_reducible refine R_iand_n a_X11_ones_15 ?_ | refine R_iand a_X11_ones_15 ?_
    first | with_reducible refine R_iadd_n a_X11_ones_16 ?_ | refine R_iadd a_X11_ones_16 ?_
    refine R_istore_n (ls' := [_, _, _]) a_X11_ones_17 rfl rfl rfl ?_
    first | with_reducible refine R_iinc_n (ls' := [_, _, _]) a_X11_ones_18 rfl rfl rfl rfl ?_ | refine R_iinc (ls' := [_, _, _]) a_X11_ones_18 rfl rfl rfl rfl rfl ?_
    refine R_goto a_X11_ones_21 ?_
    exact ih _ (show 8 - (k + 1) < n by omega) (k + 1) rfl (by omega)

set_option maxRecDepth 20000 in
theorem md_ones {σ : AHp} {a : Nat} (ha : a < 64) : EvP M_X11_ones [.int (nI a)] σ (.int (nI (onN a 8))) := by
  refine Ev.of (ls := [_, _, _]) 2 (by decide) rfl rfl ?_
  refine R_iconst (v := nI 0) a_X11_ones_0 rfl ?_
  refine R_istore_n (ls' := [_, _, _]) a_X11_ones_1 rfl rfl rfl ?_
  refine R_iconst (v := nI 0) a_X11_ones_2 rfl ?_
  refine R_istore_n (ls' := [_, _, _]) a_X11_ones_3 rfl rfl rfl ?_
  exact lp_ones ha _ 0 rfl (Nat.zero_le _)

def stF (T : Tb) (set c : Nat) : Int32 := if c = 0 then nI (knF T set) else stoF T set
set_option maxRecDepth 20000 in
theorem lp_story {σ : AHp} {tl u kn ns : Nat} {at_ : Int32} {ft : Nat → Int32} {T : Tb} (hM : σ 272 = some (mdO tl u kn ns at_)) (hMT : MT σ ft T) (ok : TbOk T) {set c : Nat} (hset : set < 256) (hc : c < 2) : ∀ (n k : Nat), T.g - k = n → k ≤ T.g → Run M_X11_story 46 [some (.ref 272), some (.int (nI set)), some (.int (nI c)), some (.int (nI (2 ^ T.n - 1))), some (.int (nI (knK T set k &&& (2 ^ T.n - 1)))), some (.int (nI k))] [] σ 0 0 (fun r σ' => r = some (.int (stF T set c)) ∧ σ' = σ) := by
  obtain ⟨hTo, t0, t1, t2, t3, t28, tkd, thn, tkn, thf⟩ := id hMT
  obtain ⟨g3, g8, n1, n6, lw, stg, son, kd4, hn10, kn63, hf4⟩ := id ok
  have hn64 : 2 ^ T.n ≤ 2 ^ 6 := Nat.pow_le_pow_right (by decide) n6
  intro n
  induction n using Nat.strongRecOn
  rename_i n ih
  intro k hm hk
  refine R_iload a_X11_story_46 rfl ?_
  refine R_aload_n a_X11_story_48 rfl ?_
  refine R_get a_X11_story_49 hM rfl ?_
  refine R_iconst (v := nI 0) a_X11_story_52 rfl ?_
  refine R_iald_n a_X11_story_53 hTo (by first | omega | exact Nat.lt_of_le_of_lt (inR_le _ _) (by decide) | exact Nat.lt_of_le_of_lt (bitN_le _ _) (by decide) | exact Nat.lt_of_le_of_lt (inI_le _ _ _) (by decide) | exact inI_le _ _ _ | exact inR_le _ _ | exact bitN_le _ _) (by decide) ?_
  refine R_top t0 ?_
  first | with_reducible refine R_icmp_ge_n a_X11_story_54 (by first | omega | exact Nat.lt_of_le_of_lt (inR_le _ _) (by decide) | exact Nat.lt_of_le_of_lt (bitN_le _ _) (by decide) | exact Nat.lt_of_le_of_lt (inI_le _ _ _) (by decide) | exact inI_le _ _ _ | exact inR_le _ _ | exact bitN_le _ _) (by first | omega | exact Nat.lt_of_le_of_lt (inR_le _ _) (by decide) | exact Nat.lt_of_le_of_lt (bitN_le _ _) (by decide) | exact Nat.lt_of_le_of_lt (inI_le _ _ _) (by decide) | exact inI_le _ _ _ | exact inR_le _ _ | exact bitN_le _ _) (fun h54 => ?_) (fun h54 => ?_) | refine R_icmp_ge a_X11_story_54 (fun h54 => ?_) (fun h54 => ?_)
  · skip
    have hke : k = T.g := by omega
    subst hke
    refine R_iload_n a_X11_story_94 rfl ?_
    first | with_reducible refine R_if_ne_n a_X11_story_95 (by first | omega | exact Nat.lt_of_le_of_lt (inR_le _ _) (by decide) | exact Nat.lt_of_le_of_lt (bitN_le _ _) (by decide) | exact Nat.lt_of_le_of_lt (inI_le _ _ _) (by decide) | exact inI_le _ _ _ | exact inR_le _ _ | exact bitN_le _ _) (fun h95 => ?_) (fun h95 => ?_) | refine R_if_ne a_X11_story_95 (fun h95 => ?_) (fun h95 => ?_)
    · skip
      obtain ⟨a, ha, hae⟩ := and_small (show 2 ^ T.n - 1 < 64 by omega) (nI T.so ^^^ (-1))
      obtain ⟨b, hb, hbe⟩ := and_small ha (nI (knF T set) ^^^ (-1))
      have hz : stF T set c = nI (onN b 8) := by
        unfold stF stoF
        rw [if_neg h95, hae, hbe, ones_bc b hb]
      refine R_iload_n a_X11_story_103 rfl ?_
      refine R_aload_n a_X11_story_104 rfl ?_
      refine R_get a_X11_story_105 hM rfl ?_
      refine R_bipush (v := nI 28) a_X11_story_108 rfl ?_
      refine R_iald_n a_X11_story_110 hTo (by first | omega | exact Nat.lt_of_le_of_lt (inR_le _ _) (by decide) | exact Nat.lt_of_le_of_lt (bitN_le _ _) (by decide) | exact Nat.lt_of_le_of_lt (inI_le _ _ _) (by decide) | exact inI_le _ _ _ | exact inR_le _ _ | exact bitN_le _ _) (by decide) ?_
      refine R_top t28 ?_
      refine R_iconst (v := (-1)) a_X11_story_111 rfl ?_
      first | with_reducible refine R_ixor_n a_X11_story_112 ?_ | refine R_ixor a_X11_story_112 ?_
      first | with_reducible refine R_iand1 a_X11_story_113 ?_ | with_reducible refine R_iand_n a_X11_story_113 ?_ | refine R_iand a_X11_story_113 ?_
      refine R_iload a_X11_story_114 rfl ?_
      refine R_iconst (v := (-1)) a_X11_story_116 rfl ?_
      first | with_reducible refine R_ixor_n a_X11_story_117 ?_ | refine R_ixor a_X11_story_117 ?_
      first | with_reducible refine R_iand1 a_X11_story_118 ?_ | with_reducible refine R_iand_n a_X11_story_118 ?_ | refine R_iand a_X11_story_118 ?_
      refine R_top (show (nI (2 ^ T.n - 1) &&& (nI T.so ^^^ (-1))) &&& (nI (knK T set T.g &&& (2 ^ T.n - 1)) ^^^ (-1)) = nI b by rw [hae]; exact hbe) ?_
      refine R_callSp a_X11_story_119 (md_ones hb) rfl rfl rfl rfl rfl ?_
      refine R_iret a_X11_story_122 rfl ?_
      exact ⟨by rw [hz] <;> rfl, rfl⟩
    · skip
      have hz : stF T set c = nI (knF T set) := by unfold stF; rw [if_pos h95]
      refine R_iload a_X11_story_98 rfl ?_
      refine R_goto a_X11_story_100 ?_
      refine R_iret a_X11_story_122 rfl ?_
      exact ⟨by rw [hz] <;> rfl, rfl⟩
  · skip
    refine R_iload a_X11_story_57 rfl ?_
    refine R_iload_n a_X11_story_59 rfl ?_
    refine R_iload a_X11_story_60 rfl ?_
    first | with_reducible refine R_ishr_n a_X11_story_62 (by first | omega | exact Nat.lt_of_le_of_lt (inR_le _ _) (by decide) | exact Nat.lt_of_le_of_lt (bitN_le _ _) (by decide) | exact Nat.lt_of_le_of_lt (inI_le _ _ _) (by decide) | exact inI_le _ _ _ | exact inR_le _ _ | exact bitN_le _ _) (by first | omega | exact Nat.lt_of_le_of_lt (inR_le _ _) (by decide) | exact Nat.lt_of_le_of_lt (bitN_le _ _) (by decide) | exact Nat.lt_of_le_of_lt (inI_le _ _ _) (by decide) | exact inI_le _ _ _ | exact inR_le _ _ | exact bitN_le _ _) ?_ | refine R_ishr a_X11_story_62 ?_
    refine R_iconst (v := nI 1) a_X11_story_63 rfl ?_
    first | with_reducible refine R_iand1 a_X11_story_64 ?_ | with_reducible refine R_iand_n a_X11_story_64 ?_ | refine R_iand a_X11_story_64 ?_
    refine R_iconst (v := nI 1) a_X11_story_65 rfl ?_
    refine R_icmp_ne_n (a := bitN set k) (b := 1) a_X11_story_66 (Nat.lt_of_le_of_lt (bitN_le _ _) (by decide)) (by omega) (fun h66 => ?_) (fun h66 => ?_)
    · skip
      have hse : knK T set k &&& (2 ^ T.n - 1) ||| 0 = knK T set (k + 1) &&& (2 ^ T.n - 1) := by simp only [knK]; rw [if_neg h66, Nat.or_zero]
      refine R_iconst (v := nI 0) a_X11_story_84 rfl ?_
      first | with_reducible refine R_ior_n a_X11_story_85 ?_ | refine R_ior a_X11_story_85 ?_
      refine R_istore (ls' := [_, _, _, _, _, _]) a_X11_story_86 rfl rfl rfl ?_
      first | with_reducible refine R_iinc_n (ls' := [_, _, _, _, _, _]) a_X11_story_88 rfl rfl rfl rfl ?_ | refine R_iinc (ls' := [_, _, _, _, _, _]) a_X11_story_88 rfl rfl rfl rfl rfl ?_
      refine R_goto a_X11_story_91 ?_
      rw [hse]
      exact ih _ (show T.g - (k + 1) < n by omega) (k + 1) rfl (by omega)
    · skip
      have hse : knK T set k &&& (2 ^ T.n - 1) ||| T.kn k &&& (2 ^ T.n - 1) = knK T set (k + 1) &&& (2 ^ T.n - 1) := by simp only [knK]; rw [if_pos h66, Nat.and_or_distrib_right]
      refine R_aload_n a_X11_story_69 rfl ?_
      refine R_get a_X11_story_70 hM rfl ?_
      refine R_bipush (v := nI 20) a_X11_story_73 rfl ?_
      refine R_iload a_X11_story_75 rfl ?_
      first | with_reducible refine R_iadd_n a_X11_story_77 ?_ | refine R_iadd a_X11_story_77 ?_
      refine R_iald_n a_X11_story_78 hTo (by first | omega | exact Nat.lt_of_le_of_lt (inR_le _ _) (by decide) | exact Nat.lt_of_le_of_lt (bitN_le _ _) (by decide) | exact Nat.lt_of_le_of_lt (inI_le _ _ _) (by decide) | exact inI_le _ _ _ | exact inR_le _ _ | exact bitN_le _ _) (by decide) ?_
      refine R_top (tkn _ (by first | omega | exact Nat.lt_of_le_of_lt (inR_le _ _) (by decide) | exact Nat.lt_of_le_of_lt (bitN_le _ _) (by decide) | exact Nat.lt_of_le_of_lt (inI_le _ _ _) (by decide) | exact inI_le _ _ _ | exact inR_le _ _ | exact bitN_le _ _)) ?_
      refine R_iload_n a_X11_story_79 rfl ?_
      first | with_reducible refine R_iand1 a_X11_story_80 ?_ | with_reducible refine R_iand_n a_X11_story_80 ?_ | refine R_iand a_X11_story_80 ?_
      refine R_goto a_X11_story_81 ?_
      first | with_reducible refine R_ior_n a_X11_story_85 ?_ | refine R_ior a_X11_story_85 ?_
      refine R_istore (ls' := [_, _, _, _, _, _]) a_X11_story_86 rfl rfl rfl ?_
      first | with_reducible refine R_iinc_n (ls' := [_, _, _, _, _, _]) a_X11_story_88 rfl rfl rfl rfl ?_ | refine R_iinc (ls' := [_, _, _, _, _, _]) a_X11_story_88 rfl rfl rfl rfl rfl ?_
      refine R_goto a_X11_story_91 ?_
      rw [hse]
      exact ih _ (show T.g - (k + 1) < n by omega) (k + 1) rfl (by omega)

set_option maxRecDepth 20000 in
theorem md_story {σ0 : AHp} {U : Us} {m : Nat} (hC : MP σ0 U) (hU : UOk U m) (hm : m < 2 ^ 20) {x w : Int32} : EvW M_X11_story [.ref 272, .int x, .int w] σ0 (some (.int (zStory U x w))) (fun σ => MP σ (U) ∧ Fr σ0 σ 272 12) := by
  obtain ⟨at_, fx, ft, fd, fp, fi, fy, fw, fs, fb, fh, hM, hMX, hMT, hDr, hSr, hMPa, hMIm, hMSy, hWy, hSm, hBh, hHd⟩ := id hC
  obtain ⟨hTx, hTxv⟩ := id hMX
  obtain ⟨hTo, t0, t1, t2, t3, t28, tkd, thn, tkn, thf⟩ := id hMT
  obtain ⟨hPa, hPav⟩ := id hMPa
  obtain ⟨hIm, hImv⟩ := id hMIm
  obtain ⟨hSy, hSyv⟩ := id hMSy
  have ok := hU.T
  obtain ⟨g3, g8, n1, n6, lw, stg, son, kd4, hn10, kn63, hf4⟩ := id ok
  have hn64 : 2 ^ U.T.n ≤ 2 ^ 6 := Nat.pow_le_pow_right (by decide) n6
  have hg256 : 2 ^ U.T.g ≤ 2 ^ 8 := Nat.pow_le_pow_right (by decide) g8
  have hlen := hU.len
  have hu8 := hU.u8
  have hul := hU.ul
  have hkn2 := hU.kn2
  have hsg := saltF_lt ok U.h
  have hfr : ∀ j, j < 272 ∨ 284 ≤ j → σ0 j = σ0 j := fun _ _ => rfl
  refine Ev.of (ls := [_, _, _, _, _, _]) 3 (by decide) rfl rfl ?_
  refine R_iload_n a_X11_story_0 rfl ?_
  refine R_iconst (v := nI 0) a_X11_story_1 rfl ?_
  refine R_iconst (v := nI 1) a_X11_story_2 rfl ?_
  refine R_aload_n a_X11_story_3 rfl ?_
  refine R_get a_X11_story_4 hM rfl ?_
  refine R_iconst (v := nI 0) a_X11_story_7 rfl ?_
  refine R_iald_n a_X11_story_8 hTo (by first | omega | exact Nat.lt_of_le_of_lt (inR_le _ _) (by decide) | exact Nat.lt_of_le_of_lt (bitN_le _ _) (by decide) | exact Nat.lt_of_le_of_lt (inI_le _ _ _) (by decide) | exact inI_le _ _ _ | exact inR_le _ _ | exact bitN_le _ _) (by decide) ?_
  refine R_top t0 ?_
  first | with_reducible refine R_ishl1 a_X11_story_9 (by first | omega | exact Nat.lt_of_le_of_lt (inR_le _ _) (by decide) | exact Nat.lt_of_le_of_lt (bitN_le _ _) (by decide) | exact Nat.lt_of_le_of_lt (inI_le _ _ _) (by decide) | exact inI_le _ _ _ | exact inR_le _ _ | exact bitN_le _ _) ?_ | with_reducible refine R_ishl_n a_X11_story_9 (by first | omega | exact Nat.lt_of_le_of_lt (inR_le _ _) (by decide) | exact Nat.lt_of_le_of_lt (bitN_le _ _) (by decide) | exact Nat.lt_of_le_of_lt (inI_le _ _ _) (by decide) | exact inI_le _ _ _ | exact inR_le _ _ | exact bitN_le _ _) (by first | omega | exact Nat.lt_of_le_of_lt (inR_le _ _) (by decide) | exact Nat.lt_of_le_of_lt (bitN_le _ _) (by decide) | exact Nat.lt_of_le_of_lt (inI_le _ _ _) (by decide) | exact inI_le _ _ _ | exact inR_le _ _ | exact bitN_le _ _) ?_ | refine R_ishl a_X11_story_9 ?_
  refine R_iconst (v := nI 1) a_X11_story_10 rfl ?_
  refine R_isub_n a_X11_story_11 (Nat.one_le_two_pow) ?_
  refine R_callSp a_X11_story_12 md_in rfl rfl rfl rfl rfl ?_
  refine R_top (congrArg nI (inI_R' x (g := 2 ^ U.T.g) (Nat.one_le_two_pow) (by omega))) ?_
  first | with_reducible refine R_if_eq_n a_X11_story_15 (by first | omega | exact Nat.lt_of_le_of_lt (inR_le _ _) (by decide) | exact Nat.lt_of_le_of_lt (bitN_le _ _) (by decide) | exact Nat.lt_of_le_of_lt (inI_le _ _ _) (by decide) | exact inI_le _ _ _ | exact inR_le _ _ | exact bitN_le _ _) (fun h15 => ?_) (fun h15 => ?_) | refine R_if_eq a_X11_story_15 (fun h15 => ?_) (fun h15 => ?_)
  · skip
    have hz : zStory U x w = -1 := by unfold zStory; rw [gd_out h15]
    refine R_iconst (v := (-1)) a_X11_story_27 rfl ?_
    refine R_iret a_X11_story_28 rfl ?_
    exact ⟨by rw [hz], hC, Fr.rf _ _ _⟩
  · skip
    obtain ⟨set, hset, rfl⟩ := inR_nz (by omega) h15
    refine R_iload_n a_X11_story_18 rfl ?_
    refine R_iconst (v := nI 0) a_X11_story_19 rfl ?_
    refine R_iconst (v := nI 1) a_X11_story_20 rfl ?_
    refine R_callSp a_X11_story_21 md_in rfl rfl rfl rfl rfl ?_
    refine R_top (congrArg nI (inI_c w (n := 1) (by decide))) ?_
    first | with_reducible refine R_if_ne_n a_X11_story_24 (by first | omega | exact Nat.lt_of_le_of_lt (inR_le _ _) (by decide) | exact Nat.lt_of_le_of_lt (bitN_le _ _) (by decide) | exact Nat.lt_of_le_of_lt (inI_le _ _ _) (by decide) | exact inI_le _ _ _ | exact inR_le _ _ | exact bitN_le _ _) (fun h24 => ?_) (fun h24 => ?_) | refine R_if_ne a_X11_story_24 (fun h24 => ?_) (fun h24 => ?_)
    · skip
      obtain ⟨c, hc, rfl⟩ := inR_nz (by omega) h24
      have hz : zStory U (nI set) (nI c) = stF U.T set c := by unfold zStory stF; rw [gd_in hset (by omega), gd_in hc (by decide)]
      refine R_iconst (v := nI 1) a_X11_story_29 rfl ?_
      refine R_aload_n a_X11_story_30 rfl ?_
      refine R_get a_X11_story_31 hM rfl ?_
      refine R_iconst (v := nI 1) a_X11_story_34 rfl ?_
      refine R_iald_n a_X11_story_35 hTo (by first | omega | exact Nat.lt_of_le_of_lt (inR_le _ _) (by decide) | exact Nat.lt_of_le_of_lt (bitN_le _ _) (by decide) | exact Nat.lt_of_le_of_lt (inI_le _ _ _) (by decide) | exact inI_le _ _ _ | exact inR_le _ _ | exact bitN_le _ _) (by decide) ?_
      refine R_top t1 ?_
      first | with_reducible refine R_ishl1 a_X11_story_36 (by first | omega | exact Nat.lt_of_le_of_lt (inR_le _ _) (by decide) | exact Nat.lt_of_le_of_lt (bitN_le _ _) (by decide) | exact Nat.lt_of_le_of_lt (inI_le _ _ _) (by decide) | exact inI_le _ _ _ | exact inR_le _ _ | exact bitN_le _ _) ?_ | with_reducible refine R_ishl_n a_X11_story_36 (by first | omega | exact Nat.lt_of_le_of_lt (inR_le _ _) (by decide) | exact Nat.lt_of_le_of_lt (bitN_le _ _) (by decide) | exact Nat.lt_of_le_of_lt (inI_le _ _ _) (by decide) | exact inI_le _ _ _ | exact inR_le _ _ | exact bitN_le _ _) (by first | omega | exact Nat.lt_of_le_of_lt (inR_le _ _) (by decide) | exact Nat.lt_of_le_of_lt (bitN_le _ _) (by decide) | exact Nat.lt_of_le_of_lt (inI_le _ _ _) (by decide) | exact inI_le _ _ _ | exact inR_le _ _ | exact bitN_le _ _) ?_ | refine R_ishl a_X11_story_36 ?_
      refine R_iconst (v := nI 1) a_X11_story_37 rfl ?_
      refine R_isub_n a_X11_story_38 (Nat.one_le_two_pow) ?_
      refine R_istore_n (ls' := [_, _, _, _, _, _]) a_X11_story_39 rfl rfl rfl ?_
      refine R_iconst (v := nI 0) a_X11_story_40 rfl ?_
      refine R_istore (ls' := [_, _, _, _, _, _]) a_X11_story_41 rfl rfl rfl ?_
      refine R_iconst (v := nI 0) a_X11_story_43 rfl ?_
      refine R_istore (ls' := [_, _, _, _, _, _]) a_X11_story_44 rfl rfl rfl ?_
      rw [hz]
      have key := lp_story hM hMT ok (show set < 256 by omega) hc _ 0 rfl (Nat.zero_le _)
      rw [show knK U.T set 0 &&& (2 ^ U.T.n - 1) = 0 from Nat.zero_and _] at key
      refine Run.eqQ key (fun r σ2 hq => ⟨hq.1, ?_⟩)
      rw [hq.2]
      exact ⟨hC, Fr.rf _ _ _⟩
    · skip
      have hz : zStory U (nI set) w = -1 := by unfold zStory; rw [gd_in hset (by omega), gd_out h24]
      refine R_iconst (v := (-1)) a_X11_story_27 rfl ?_
      refine R_iret a_X11_story_28 rfl ?_
      exact ⟨by rw [hz], hC, Fr.rf _ _ _⟩

