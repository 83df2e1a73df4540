/-! ===== histories: the rounds of an evening, the latest first, each as two sayings ===== -/
abbrev Hs : Type := List (Nat × Nat)
def saltF (T : Tb) : Hs → Nat
  | [] => T.st
  | c :: h => comesF T (saltF T h) c.1 c.2 T.so T.law
def trlF (T : Tb) : Hs → Nat
  | [] => 2 ^ T.st
  | c :: h => trlF T h ||| 2 ^ saltF T (c :: h)
def untF (T : Tb) : Hs → Nat
  | [] => 0
  | c :: h => untF T h + b2n (untr c.1 T.so) + b2n (untr c.2 T.so)
def ad1 (c w : Nat) (f : Nat → Nat) : Nat → Nat := if untr c w = true then uN f (cWho c) (f (cWho c) + 1) else f
def su1 (c w : Nat) (f : Nat → Nat) : Nat → Nat := if untr c w = true then uN f (cWho c) (f (cWho c) - 1) else f
def ldF (T : Tb) : Hs → Nat → Nat
  | [] => fun _ => 0
  | c :: h => ad1 c.2 T.so (ad1 c.1 T.so (ldF T h))
def hAt (h : Hs) (j : Nat) : Nat × Nat := h.getD j (128, 128)
/-- the round R is the j-th of the history -/
def RIs (T : Tb) (h : Hs) (j : Nat) (R : Rs) : Prop := RdOk T R ∧ cd R 0 = (hAt h j).1 ∧ cd R 1 = (hAt h j).2 ∧ R.fr = saltF T (h.drop (j + 1)) ∧ R.to = saltF T (h.drop j) ∧ R.tb = trlF T (h.drop (j + 1)) ∧ R.li < 4 ∧ ∀ k, k < R.sp → bitN R.li k = b2n (untr (cd R k) T.so)
/-- the evening's cells hold the history h, of which u rounds can be undone -/
def VH (V : Vs) (T : Tb) (h : Hs) (u : Nat) : Prop := V.sa = saltF T h ∧ V.ro = h.length ∧ V.un = untF T h ∧ V.tr = trlF T h ∧ V.ud = u ∧ V.ld = ldF T h ∧ (∀ k, k < 18 → ∀ m, m < 2 → (V.rf k).sd m ≤ 1) ∧ ∀ j, j < h.length → j < 10 + u → RIs T h j (V.rf ((h.length - 1 - j) % 18))
theorem saltF_lt {T : Tb} (ok : TbOk T) (h : Hs) : saltF T h < T.g := by
  induction h with
  | nil => exact ok.2.2.2.2.2.1
  | cons c h ih => exact comesF_lt (by have := ok.1; omega) ih
theorem trlF_lt {T : Tb} (ok : TbOk T) (h : Hs) : trlF T h < 256 := by
  have hs : ∀ h : Hs, 2 ^ saltF T h < 2 ^ 8 := fun h => Nat.pow_lt_pow_right (by decide) (by have := saltF_lt ok h; have := ok.2.1; omega)
  induction h with
  | nil => exact hs []
  | cons c h ih => exact Nat.or_lt_two_pow (n := 8) ih (hs (c :: h))
theorem b2n_val (b : Bool) : b2n b = 0 ∧ b = false ∨ b2n b = 1 ∧ b = true := by cases b <;> simp [b2n]
theorem untF_le (T : Tb) (h : Hs) : untF T h ≤ 2 * h.length := by
  induction h with
  | nil => exact Nat.le_refl 0
  | cons c h ih =>
    have h1 := b2n_le (untr c.1 T.so)
    have h2 := b2n_le (untr c.2 T.so)
    simp only [untF, List.length_cons]
    omega
theorem ad1_le (c w : Nat) (f : Nat → Nat) (j : Nat) : ad1 c w f j ≤ f j + 1 := by
  unfold ad1
  split
  · unfold uN
    split
    · rename_i h; rw [h]; omega
    · omega
  · omega
theorem ldF_le (T : Tb) (h : Hs) (j : Nat) : ldF T h j ≤ 2 * h.length := by
  induction h with
  | nil => exact Nat.le_refl 0
  | cons c h ih =>
    have h1 := ad1_le c.2 T.so (ad1 c.1 T.so (ldF T h)) j
    have h2 := ad1_le c.1 T.so (ldF T h) j
    simp only [ldF, List.length_cons]
    omega
/-- the liars counted, as the history counts them -/
theorem cuK_eq {R : Rs} {w un : Nat} (hsp : R.sp ≤ 2) (hb : ∀ k, k < R.sp → bitN R.li k = b2n (untr (cd R k) w)) : cuK R un R.sp = un + b2n (untr (cd R 0) w) + b2n (untr (cd R 1) w) := by
  rcases (show R.sp = 0 ∨ R.sp = 1 ∨ R.sp = 2 by omega) with h | h | h
  · rw [h, cd_out (show R.sp ≤ 0 by omega), cd_out (show R.sp ≤ 1 by omega), untr_128]; rfl
  · rw [h, cd_out (show R.sp ≤ 1 by omega), untr_128]
    simp only [cuK]
    rw [hb 0 (by omega)]
    rcases b2n_val (untr (cd R 0) w) with ⟨e, -⟩ | ⟨e, -⟩ <;> rw [e] <;> rfl
  · rw [h]
    simp only [cuK]
    rw [hb 0 (by omega), hb 1 (by omega)]
    rcases b2n_val (untr (cd R 0) w) with ⟨e, -⟩ | ⟨e, -⟩ <;> rcases b2n_val (untr (cd R 1) w) with ⟨e', -⟩ | ⟨e', -⟩ <;> rw [e, e'] <;> rfl
theorem ad1_128 (w : Nat) (f : Nat → Nat) : ad1 128 w f = f := by unfold ad1; rw [untr_128]; rfl
theorem su1_128 (w : Nat) (f : Nat → Nat) : su1 128 w f = f := by unfold su1; rw [untr_128]; rfl
theorem ad1_k {T : Tb} {R : Rs} (ok : TbOk T) (hr : RdOk T R) {k w : Nat} (hk : k < R.sp) (hb : bitN R.li k = b2n (untr (cd R k) w)) (f : Nat → Nat) : (if bitN R.li k = 1 then uN f (R.w k) (f (R.w k) + 1) else f) = ad1 (cd R k) w f := by
  unfold ad1
  rw [(cd_in ok hr hk).2.1, hb]
  rcases b2n_val (untr (cd R k) w) with ⟨e, e'⟩ | ⟨e, e'⟩ <;> rw [e, e'] <;> rfl
theorem su1_k {T : Tb} {R : Rs} (ok : TbOk T) (hr : RdOk T R) {k w : Nat} (hk : k < R.sp) (hb : bitN R.li k = b2n (untr (cd R k) w)) (f : Nat → Nat) : (if bitN R.li k = 1 then uN f (R.w k) (f (R.w k) - 1) else f) = su1 (cd R k) w f := by
  unfold su1
  rw [(cd_in ok hr hk).2.1, hb]
  rcases b2n_val (untr (cd R k) w) with ⟨e, e'⟩ | ⟨e, e'⟩ <;> rw [e, e'] <;> rfl
theorem clK_eq {T : Tb} {R : Rs} (ok : TbOk T) (hr : RdOk T R) {w : Nat} {f : Nat → Nat} (hb : ∀ k, k < R.sp → bitN R.li k = b2n (untr (cd R k) w)) : clK R f R.sp = ad1 (cd R 1) w (ad1 (cd R 0) w f) := by
  have hsp := hr.1
  rcases (show R.sp = 0 ∨ R.sp = 1 ∨ R.sp = 2 by omega) with h | h | h
  · rw [h, cd_out (show R.sp ≤ 0 by omega), cd_out (show R.sp ≤ 1 by omega), ad1_128, ad1_128]; rfl
  · rw [h, cd_out (show R.sp ≤ 1 by omega), ad1_128]
    simp only [clK]
    exact ad1_k ok hr (by omega) (hb 0 (by omega)) f
  · rw [h]
    simp only [clK]
    rw [ad1_k ok hr (by omega) (hb 0 (by omega)) f, ad1_k ok hr (by omega) (hb 1 (by omega))]
theorem dlK_eq {T : Tb} {R : Rs} (ok : TbOk T) (hr : RdOk T R) {w : Nat} {f : Nat → Nat} (hb : ∀ k, k < R.sp → bitN R.li k = b2n (untr (cd R k) w)) : dlK R f R.sp = su1 (cd R 1) w (su1 (cd R 0) w f) := by
  have hsp := hr.1
  rcases (show R.sp = 0 ∨ R.sp = 1 ∨ R.sp = 2 by omega) with h | h | h
  · rw [h, cd_out (show R.sp ≤ 0 by omega), cd_out (show R.sp ≤ 1 by omega), su1_128, su1_128]; rfl
  · rw [h, cd_out (show R.sp ≤ 1 by omega), su1_128]
    simp only [dlK]
    exact su1_k ok hr (by omega) (hb 0 (by omega)) f
  · rw [h]
    simp only [dlK]
    rw [su1_k ok hr (by omega) (hb 0 (by omega)) f, su1_k ok hr (by omega) (hb 1 (by omega))]
theorem su_ad (c d w : Nat) (f : Nat → Nat) : su1 c w (ad1 d w (ad1 c w f)) = ad1 d w f := by
  funext j
  unfold su1 ad1
  generalize cWho c = a
  generalize cWho d = b
  by_cases hc : untr c w = true <;> by_cases hd : untr d w = true <;> simp only [hc, hd, if_true, if_false, Bool.false_eq_true]
  · by_cases h1 : a = b
    · subst h1
      by_cases h2 : j = a <;> simp [uN, h2]
    · by_cases h2 : j = a
      · subst h2; simp [uN, h1]
      · by_cases h3 : j = b
        · subst h3; simp [uN, h2, Ne.symm h1]
        · simp [uN, h2, h3]
  · by_cases h2 : j = a <;> simp [uN, h2]
theorem su_ad1 (c w : Nat) (f : Nat → Nat) : su1 c w (ad1 c w f) = f := by
  have := su_ad c 128 w f
  rw [ad1_128, ad1_128] at this
  exact this
theorem duK_eq {R : Rs} {w un : Nat} (hsp : R.sp ≤ 2) (hb : ∀ k, k < R.sp → bitN R.li k = b2n (untr (cd R k) w)) : duK R (un + b2n (untr (cd R 0) w) + b2n (untr (cd R 1) w)) R.sp = un := by
  rcases (show R.sp = 0 ∨ R.sp = 1 ∨ R.sp = 2 by omega) with h | h | h
  · rw [h, cd_out (show R.sp ≤ 0 by omega), cd_out (show R.sp ≤ 1 by omega), untr_128]; rfl
  · rw [h, cd_out (show R.sp ≤ 1 by omega), untr_128]
    simp only [duK]
    rw [hb 0 (by omega)]
    rcases b2n_val (untr (cd R 0) w) with ⟨e, -⟩ | ⟨e, -⟩ <;> rw [e] <;> rfl
  · rw [h]
    simp only [duK]
    rw [hb 0 (by omega), hb 1 (by omega)]
    rcases b2n_val (untr (cd R 0) w) with ⟨e, -⟩ | ⟨e, -⟩ <;> rcases b2n_val (untr (cd R 1) w) with ⟨e', -⟩ | ⟨e', -⟩ <;> rw [e, e'] <;> rfl
theorem ad1_ge (c w : Nat) (f : Nat → Nat) (h : untr c w = true) : 1 ≤ ad1 c w f (cWho c) := by
  unfold ad1
  rw [h]
  simp [uN]
theorem ad1_mono (d w : Nat) (g : Nat → Nat) (j : Nat) : g j ≤ ad1 d w g j := by
  unfold ad1
  split
  · unfold uN
    split
    · rename_i h; rw [h]; omega
    · omega
  · omega
theorem ad1_ge2 (c d w : Nat) (f : Nat → Nat) (h : untr c w = true) : 1 ≤ ad1 d w (ad1 c w f) (cWho c) := Nat.le_trans (ad1_ge c w f h) (ad1_mono d w _ _)
/-- what taking back asks for: the liars were counted -/
theorem back_ge {T : Tb} {R : Rs} (ok : TbOk T) (hr : RdOk T R) {w un : Nat} {f : Nat → Nat} (hb : ∀ k, k < R.sp → bitN R.li k = b2n (untr (cd R k) w)) : ∀ k, k < R.sp → bitN R.li k = 1 → 1 ≤ dlK R (ad1 (cd R 1) w (ad1 (cd R 0) w f)) k (R.w k) ∧ 1 ≤ duK R (un + b2n (untr (cd R 0) w) + b2n (untr (cd R 1) w)) k := by
  intro k hk h1
  have hsp := hr.1
  have hu : untr (cd R k) w = true := by
    rcases b2n_val (untr (cd R k) w) with ⟨e, e'⟩ | ⟨e, e'⟩
    · rw [hb k hk, e] at h1; cases h1
    · exact e'
  have hw := (cd_in ok hr hk).2.1
  rcases (show k = 0 ∨ k = 1 by omega) with rfl | rfl
  · refine ⟨?_, ?_⟩
    · rw [← hw]
      exact ad1_ge2 _ _ _ _ hu
    · simp only [duK]
      rw [hu, b2n_t]
      omega
  · refine ⟨?_, ?_⟩
    · simp only [dlK]
      rw [su1_k ok hr (by omega) (hb 0 (by omega)), su_ad, ← hw]
      exact ad1_ge _ _ _ hu
    · simp only [duK]
      rw [hb 0 (by omega), hu, b2n_t]
      rcases b2n_val (untr (cd R 0) w) with ⟨e, -⟩ | ⟨e, -⟩ <;> rw [e]
      · rw [if_neg (by decide)]; omega
      · rw [if_pos rfl]; omega
theorem slt_ne {len j : Nat} (hj : j < len) (h17 : j < 17) : (len - 1 - j) % 18 ≠ len % 18 := by omega
theorem VH.play {V : Vs} {T : Tb} {h : Hs} {u m : Nat} {R : Rs} (hV : VH V T h u) (hu : u ≤ 8) (ok : TbOk T) (hr : RdOk T R) (hsd : ∀ k, k < 2 → R.sd k ≤ 1) (hm : m = h.length % 18) {rf : Nat → Rs} (hrf : ∀ k, k ≠ m → rf k = V.rf k) : VH (vPlay (V.sa, V.ro, V.un, V.tr, V.ud, V.ld, rf) (rdAft R V.sa (comesF T V.sa (cd R 0) (cd R 1) T.so T.law) V.tr (liK R T.so R.sp)) m) T ((cd R 0, cd R 1) :: h) (min (u + 1) 8) := by
  obtain ⟨h1, h2, h3, h4, h5, h6, h7, h8⟩ := hV
  have hbit : ∀ k, k < R.sp → bitN (liK R T.so R.sp) k = b2n (untr (cd R k) T.so) := fun k hk => liK_bit R T.so R.sp hr.1 k hk
  have hsa : comesF T V.sa (cd R 0) (cd R 1) T.so T.law = saltF T ((cd R 0, cd R 1) :: h) := by rw [h1]; rfl
  refine ⟨hsa, ?_, ?_, ?_, ?_, ?_, fun k hk => ?_, fun j hj hj2 => ?_⟩
  · show V.ro + 1 = h.length + 1
    rw [h2]
  · show cuK (rdAft R V.sa _ V.tr (liK R T.so R.sp)) V.un R.sp = _
    exact (cuK_eq (R := rdAft R V.sa (comesF T V.sa (cd R 0) (cd R 1) T.so T.law) V.tr (liK R T.so R.sp)) (w := T.so) hr.1 hbit).trans (by rw [h3]; rfl)
  · show V.tr ||| 2 ^ comesF T V.sa (cd R 0) (cd R 1) T.so T.law = _
    rw [hsa, h4]
    rfl
  · show min (V.ud + 1) 8 = _
    rw [h5]
  · show clK (rdAft R V.sa _ V.tr (liK R T.so R.sp)) V.ld R.sp = _
    exact (clK_eq (R := rdAft R V.sa (comesF T V.sa (cd R 0) (cd R 1) T.so T.law) V.tr (liK R T.so R.sp)) ok (hr.aft _ _ _ _) (w := T.so) hbit).trans (by rw [h6]; rfl)
  · show ∀ i, i < 2 → (if k = m then _ else rf k : Rs).sd i ≤ 1
    by_cases hkm : k = m
    · rw [if_pos hkm]
      exact hsd
    · rw [if_neg hkm, hrf k hkm]
      exact h7 k hk
  · show RIs T _ j (if ((((cd R 0, cd R 1) :: h).length - 1 - j) % 18) = m then _ else rf _)
    simp only [List.length_cons, Nat.add_sub_cancel] at hj ⊢
    cases j with
    | zero =>
      rw [if_pos (by rw [hm]; rfl)]
      refine ⟨hr.aft _ _ _ _, rfl, rfl, h1, hsa, h4, liK_lt R T.so R.sp hr.1, hbit⟩
    | succ j =>
      have hne : (h.length - (j + 1)) % 18 ≠ m := by
        rw [hm, show h.length - (j + 1) = h.length - 1 - j by omega]
        exact slt_ne (by omega) (by omega)
      rw [if_neg hne, hrf _ hne, show h.length - (j + 1) = h.length - 1 - j by omega]
      exact h8 j (by omega) (by omega)
theorem VH.back {V : Vs} {T : Tb} {c : Nat × Nat} {h : Hs} {u : Nat} (hV : VH V T (c :: h) u) (hu1 : 1 ≤ u) (ok : TbOk T) : VH (vBack V (V.rf ((V.ro - 1) % 18))) T h (u - 1) := by
  obtain ⟨h1, h2, h3, h4, h5, h6, h7, h8⟩ := hV
  have hR := h8 0 (by simp) (by omega)
  rw [show (c :: h).length - 1 - 0 = V.ro - 1 by rw [h2]; rfl] at hR
  generalize V.rf ((V.ro - 1) % 18) = R at hR ⊢
  obtain ⟨r1, r2, r3, r4, r5, r6, r7, r8⟩ := hR
  have e0 : cd R 0 = c.1 := r2
  have e1 : cd R 1 = c.2 := r3
  refine ⟨r4, ?_, ?_, r6, ?_, ?_, h7, fun j hj hj2 => ?_⟩
  · show V.ro - 1 = h.length
    rw [h2]; rfl
  · show duK R V.un R.sp = untF T h
    have : V.un = untF T h + b2n (untr (cd R 0) T.so) + b2n (untr (cd R 1) T.so) := by rw [h3, e0, e1]; rfl
    rw [this, duK_eq r1.1 r8]
  · show V.ud - 1 = u - 1
    rw [h5]
  · show dlK R V.ld R.sp = ldF T h
    have : V.ld = ad1 (cd R 1) T.so (ad1 (cd R 0) T.so (ldF T h)) := by rw [h6, e0, e1]; rfl
    rw [this, dlK_eq ok r1 r8, su_ad, su_ad1]
  · have := h8 (j + 1) (by simp; omega) (by omega)
    rw [show (c :: h).length - 1 - (j + 1) = h.length - 1 - j by simp; omega] at this
    exact this
theorem VH.backPre {V : Vs} {T : Tb} {c : Nat × Nat} {h : Hs} {u : Nat} (hV : VH V T (c :: h) u) (ok : TbOk T) : (V.rf ((V.ro - 1) % 18)).sp ≤ 2 ∧ (∀ k, k < (V.rf ((V.ro - 1) % 18)).sp → (V.rf ((V.ro - 1) % 18)).w k < 8) ∧ (V.rf ((V.ro - 1) % 18)).li < 4 ∧ ∀ k, k < (V.rf ((V.ro - 1) % 18)).sp → bitN (V.rf ((V.ro - 1) % 18)).li k = 1 → 1 ≤ dlK (V.rf ((V.ro - 1) % 18)) V.ld k ((V.rf ((V.ro - 1) % 18)).w k) ∧ 1 ≤ duK (V.rf ((V.ro - 1) % 18)) V.un k := by
  obtain ⟨h1, h2, h3, h4, h5, h6, h7, h8⟩ := hV
  have hR := h8 0 (by simp) (by omega)
  rw [show (c :: h).length - 1 - 0 = V.ro - 1 by rw [h2]; rfl] at hR
  generalize V.rf ((V.ro - 1) % 18) = R at hR ⊢
  obtain ⟨r1, r2, r3, r4, r5, r6, r7, r8⟩ := hR
  have e0 : cd R 0 = c.1 := r2
  have e1 : cd R 1 = c.2 := r3
  refine ⟨r1.1, fun k hk => Nat.lt_of_lt_of_le (r1.2 k hk).1 ok.2.1, r7, ?_⟩
  have q1 : V.un = untF T h + b2n (untr (cd R 0) T.so) + b2n (untr (cd R 1) T.so) := by rw [h3, e0, e1]; rfl
  have q2 : V.ld = ad1 (cd R 1) T.so (ad1 (cd R 0) T.so (ldF T h)) := by rw [h6, e0, e1]; rfl
  rw [q1, q2]
  exact back_ge ok r1 r8
theorem VH.copy {V : Vs} {T : Tb} {h : Hs} {u : Nat} (hV : VH V T h u) : VH (V.sa, V.ro, V.un, V.tr, 0, V.ld, V.rf) T h 0 := by
  obtain ⟨h1, h2, h3, h4, h5, h6, h7, h8⟩ := hV
  exact ⟨h1, h2, h3, h4, rfl, h6, h7, fun j hj hj2 => h8 j hj (by omega)⟩
theorem VH.begin {T : Tb} {rf : Nat → Rs} (hsd : ∀ k, k < 18 → ∀ m, m < 2 → (rf k).sd m ≤ 1) : VH (T.st, 0, 0, 2 ^ T.st, 0, fun _ => 0, rf) T [] 0 := ⟨rfl, rfl, rfl, rfl, rfl, rfl, hsd, fun j hj => absurd hj (by simp)⟩
