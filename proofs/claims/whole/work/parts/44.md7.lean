/-! ===== SaltToLiarsModel.fewest ===== -/
def lead (b : Nat → Nat) (to s : Nat) : Nat → Nat := uN b to (min (b to) s)
theorem lead_le (b : Nat → Nat) (to s j v : Nat) : lead b to s j ≤ v ↔ b j ≤ v ∨ (to = j ∧ s ≤ v) := by
  unfold lead uN
  by_cases e : j = to
  · subst e; rw [if_pos rfl]; omega
  · rw [if_neg e]
    constructor
    · intro h; exact Or.inl h
    · rintro (h | ⟨h, -⟩)
      · exact h
      · exact absurd h.symm e
theorem le_ext {a b : Nat} (h : ∀ v, a ≤ v ↔ b ≤ v) : a = b := Nat.le_antisymm ((h b).mpr (Nat.le_refl b)) ((h a).mp (Nat.le_refl a))
theorem sprK_char (T : Tb) (c : Nat) (cost nx : Nat → Nat) (j v : Nat) : ∀ k, sprK T c cost nx k j ≤ v ↔ nx j ≤ v ∨ ∃ q, q < k ∧ cost q < 1000 ∧ comesF T q c 128 T.so T.law = j ∧ cost q + cntOf T c T.so ≤ v := by
  intro k
  induction k with
  | zero => simp [sprK]
  | succ k ih =>
    simp only [sprK]
    by_cases h : cost k < 1000
    · rw [if_pos h]
      have := lead_le (sprK T c cost nx k) (comesF T k c 128 T.so T.law) (cost k + cntOf T c T.so) j v
      unfold lead at this
      rw [this, ih]
      constructor
      · rintro ((q | ⟨q, h1, h2⟩) | q)
        · exact Or.inl q
        · exact Or.inr ⟨q, by omega, h2⟩
        · exact Or.inr ⟨k, by omega, h, q⟩
      · rintro (q | ⟨q, h1, h2⟩)
        · exact Or.inl (Or.inl q)
        · by_cases e : q = k
          · subst e; exact Or.inr h2.2
          · exact Or.inl (Or.inr ⟨q, by omega, h2⟩)
    · rw [if_neg h, ih]
      constructor
      · rintro (q | ⟨q, h1, h2⟩)
        · exact Or.inl q
        · exact Or.inr ⟨q, by omega, h2⟩
      · rintro (q | ⟨q, h1, h2⟩)
        · exact Or.inl q
        · by_cases e : q = k
          · subst e; exact absurd h2.1 h
          · exact Or.inr ⟨q, by omega, h2⟩
/-- there is a way to j by the saying c that costs at most v -/
def Edg (T : Tb) (cost : Nat → Nat) (j v q c : Nat) : Prop := comesF T q c 128 T.so T.law = j ∧ cost q + cntOf T c T.so ≤ v
def EdC (T : Tb) (cost : Nat → Nat) (j v c : Nat) : Prop := ∃ q, q < T.g ∧ cost q < 1000 ∧ Edg T cost j v q c
theorem grIn_char (T : Tb) (cost nx : Nat → Nat) (i j v : Nat) : ∀ t, grIn T cost i nx t j ≤ v ↔ nx j ≤ v ∨ ∃ r, r < t ∧ bitN (T.kn i) r = 1 ∧ ∃ b, b ≤ 1 ∧ EdC T cost j v (sayC i r b) := by
  intro t
  induction t with
  | zero => simp [grIn]
  | succ t ih =>
    simp only [grIn]
    by_cases h : bitN (T.kn i) t = 1
    · rw [if_pos h]
      unfold sprF
      rw [sprK_char, sprK_char, ih]
      constructor
      · rintro (((q | ⟨r, h1, h2⟩) | q) | q)
        · exact Or.inl q
        · exact Or.inr ⟨r, by omega, h2⟩
        · exact Or.inr ⟨t, by omega, h, 1, by omega, q⟩
        · exact Or.inr ⟨t, by omega, h, 0, by omega, q⟩
      · rintro (q | ⟨r, h1, h2, b, hb, h3⟩)
        · exact Or.inl (Or.inl (Or.inl q))
        · by_cases e : r = t
          · subst e
            rcases (show b = 0 ∨ b = 1 by omega) with rfl | rfl
            · exact Or.inr h3
            · exact Or.inl (Or.inr h3)
          · exact Or.inl (Or.inl (Or.inr ⟨r, by omega, h2, b, hb, h3⟩))
    · rw [if_neg h, ih]
      constructor
      · rintro (q | ⟨r, h1, h2⟩)
        · exact Or.inl q
        · exact Or.inr ⟨r, by omega, h2⟩
      · rintro (q | ⟨r, h1, h2⟩)
        · exact Or.inl q
        · by_cases e : r = t
          · subst e; exact absurd h2.1 h
          · exact Or.inr ⟨r, by omega, h2⟩
theorem grOut_char (T : Tb) (cost nx : Nat → Nat) (j v : Nat) : ∀ k, grOut T cost nx k j ≤ v ↔ nx j ≤ v ∨ ∃ i, i < k ∧ ∃ r, r < T.n ∧ bitN (T.kn i) r = 1 ∧ ∃ b, b ≤ 1 ∧ EdC T cost j v (sayC i r b) := by
  intro k
  induction k with
  | zero => simp [grOut]
  | succ k ih =>
    simp only [grOut]
    rw [grIn_char, ih]
    constructor
    · rintro ((q | ⟨i, h1, h2⟩) | q)
      · exact Or.inl q
      · exact Or.inr ⟨i, by omega, h2⟩
      · exact Or.inr ⟨k, by omega, q⟩
    · rintro (q | ⟨i, h1, h2⟩)
      · exact Or.inl (Or.inl q)
      · by_cases e : i = k
        · subst e; exact Or.inr h2
        · exact Or.inl (Or.inr ⟨i, by omega, h2⟩)
def InC (T : Tb) (c : Nat) : Prop := c = 128 ∨ ∃ i, i < T.g ∧ ∃ r, r < T.n ∧ bitN (T.kn i) r = 1 ∧ ∃ b, b ≤ 1 ∧ c = sayC i r b
theorem grF_char (T : Tb) (cost nx : Nat → Nat) (j v : Nat) : grF T cost nx j ≤ v ↔ nx j ≤ v ∨ ∃ q, q < T.g ∧ cost q < 1000 ∧ ∃ c, InC T c ∧ Edg T cost j v q c := by
  unfold grF sprF
  rw [grOut_char, sprK_char]
  constructor
  · rintro ((h | ⟨q, h1, h2, h3⟩) | ⟨i, hi, r, hr, hb, b, hb1, q, h1, h2, h3⟩)
    · exact Or.inl h
    · exact Or.inr ⟨q, h1, h2, 128, Or.inl rfl, h3⟩
    · exact Or.inr ⟨q, h1, h2, _, Or.inr ⟨i, hi, r, hr, hb, b, hb1, rfl⟩, h3⟩
  · rintro (h | ⟨q, h1, h2, c, rfl | ⟨i, hi, r, hr, hb, b, hb1, rfl⟩, h3⟩)
    · exact Or.inl (Or.inl h)
    · exact Or.inl (Or.inr ⟨q, h1, h2, h3⟩)
    · exact Or.inr ⟨i, hi, r, hr, hb, b, hb1, q, h1, h2, h3⟩
/-- as the model goes through the ways -/
def huB (T : Tb) (f sp : Nat) : Nat := hushF T f (fun j => decide (bitN sp j = 1))
def mIn (T : Tb) (cost : Nat → Nat) (f i : Nat) (nb : Nat → Nat) : Nat → Nat → Nat
  | 0 => nb
  | t + 1 => if bitN (T.kn i) t = 1 then lead (lead (mIn T cost f i nb t) (comesF T f (lcF T i t) 128 T.so T.law) (cost f + cnt T i t)) (huB T f (2 ^ i)) (cost f) else mIn T cost f i nb t
def mMid (T : Tb) (cost : Nat → Nat) (f : Nat) (nb : Nat → Nat) : Nat → Nat → Nat
  | 0 => nb
  | i + 1 => mIn T cost f i (mMid T cost f nb i) T.n
def mOut (T : Tb) (cost nb : Nat → Nat) : Nat → Nat → Nat
  | 0 => nb
  | f + 1 => if cost f < 1000 then mMid T cost f (lead (mOut T cost nb f) (huB T f 0) (cost f)) T.g else mOut T cost nb f
theorem cnt_lie {T : Tb} {i t : Nat} (hi : i < 8) (ht : t < 6) : cntOf T (lcF T i t) T.so = cnt T i t := by
  have hb := bitN_le T.so t
  have hl := say_lt (i := i) (t := t) (b := 1 - bitN T.so t) hi ht (by omega)
  unfold lcF
  unfold cntOf untr
  rw [say_top hi (by omega), say_who hi (by omega), say_said (by omega), if_pos (decide_eq_true ⟨by omega, by omega⟩)]
theorem cnt_tru {T : Tb} {i t : Nat} (hi : i < 8) : cntOf T (sayC i t (bitN T.so t)) T.so = 0 := by
  have hb := bitN_le T.so t
  unfold cntOf untr
  rw [say_top hi (by omega), say_said (by omega), if_neg]
  intro q
  exact (of_decide_eq_true q).2 rfl
theorem cnt_128 (T : Tb) (w : Nat) : cntOf T 128 w = 0 := by unfold cntOf; rw [untr_128]; rfl
theorem huB_128 (T : Tb) (f : Nat) : huB T f 0 = comesF T f 128 128 T.so T.law := by
  unfold huB comesF
  rw [cnt_128, if_pos ⟨rfl, rfl⟩]
  refine hushF_congr (fun i _ => ?_)
  rw [bit_0]
  rfl
theorem huB_tru {T : Tb} {f i t : Nat} (hi : i < 8) (ht : t < 6) : huB T f (2 ^ i) = comesF T f (sayC i t (bitN T.so t)) 128 T.so T.law := by
  have hb := bitN_le T.so t
  have hl := say_lt hi ht hb
  unfold huB comesF
  rw [cnt_128, cnt_tru hi, if_pos ⟨rfl, rfl⟩]
  refine hushF_congr (fun j _ => ?_)
  have e := spk_bits (sayC i t (bitN T.so t)) 128 j
  have s1 : soF (sayC i t (bitN T.so t)) = 2 ^ i := by unfold soF; rw [if_neg (by omega), say_who hi hb]
  have s2 : soF 128 = 0 := rfl
  rw [s1, s2, Nat.or_zero] at e
  exact e
theorem mIn_char {T : Tb} (ok : TbOk T) (cost nb : Nat → Nat) {f i : Nat} (hi : i < T.g) (j v : Nat) : ∀ t, t ≤ T.n → (mIn T cost f i nb t j ≤ v ↔ nb j ≤ v ∨ ∃ r, r < t ∧ bitN (T.kn i) r = 1 ∧ ∃ b, b ≤ 1 ∧ Edg T cost j v f (sayC i r b)) := by
  have g8 := ok.2.1
  have n6 := ok.2.2.2.1
  intro t
  induction t with
  | zero => intro _; simp [mIn]
  | succ t ih =>
    intro ht
    have ih := ih (by omega)
    simp only [mIn]
    by_cases h : bitN (T.kn i) t = 1
    · rw [if_pos h, lead_le, lead_le, ih, huB_tru (t := t) (show i < 8 by omega) (by omega)]
      have hb := bitN_le T.so t
      have eL : (comesF T f (lcF T i t) 128 T.so T.law = j ∧ cost f + cnt T i t ≤ v) ↔ Edg T cost j v f (sayC i t (1 - bitN T.so t)) := by
        unfold Edg
        rw [← cnt_lie (T := T) (i := i) (t := t) (by omega) (by omega)]
        rfl
      have eT : (comesF T f (sayC i t (bitN T.so t)) 128 T.so T.law = j ∧ cost f ≤ v) ↔ Edg T cost j v f (sayC i t (bitN T.so t)) := by
        unfold Edg
        rw [cnt_tru (by omega)]
        rfl
      rw [eL, eT]
      constructor
      · rintro (((q | ⟨r, h1, h2⟩) | q) | q)
        · exact Or.inl q
        · exact Or.inr ⟨r, by omega, h2⟩
        · exact Or.inr ⟨t, by omega, h, _, by omega, q⟩
        · exact Or.inr ⟨t, by omega, h, _, hb, q⟩
      · rintro (q | ⟨r, h1, h2, b, hb1, h3⟩)
        · exact Or.inl (Or.inl (Or.inl q))
        · by_cases e : r = t
          · subst e
            by_cases e2 : b = bitN T.so r
            · rw [e2] at h3; exact Or.inr h3
            · rw [show b = 1 - bitN T.so r by omega] at h3; exact Or.inl (Or.inr h3)
          · exact Or.inl (Or.inl (Or.inr ⟨r, by omega, h2, b, hb1, h3⟩))
    · rw [if_neg h, ih]
      constructor
      · rintro (q | ⟨r, h1, h2⟩)
        · exact Or.inl q
        · exact Or.inr ⟨r, by omega, h2⟩
      · rintro (q | ⟨r, h1, h2⟩)
        · exact Or.inl q
        · by_cases e : r = t
          · subst e; exact absurd h2.1 h
          · exact Or.inr ⟨r, by omega, h2⟩
theorem mMid_char {T : Tb} (ok : TbOk T) (cost nb : Nat → Nat) {f : Nat} (j v : Nat) : ∀ k, k ≤ T.g → (mMid T cost f nb k j ≤ v ↔ nb j ≤ v ∨ ∃ i, i < k ∧ ∃ r, r < T.n ∧ bitN (T.kn i) r = 1 ∧ ∃ b, b ≤ 1 ∧ Edg T cost j v f (sayC i r b)) := by
  intro k
  induction k with
  | zero => intro _; simp [mMid]
  | succ k ih =>
    intro hk
    simp only [mMid]
    rw [mIn_char ok cost _ (by omega) j v T.n (Nat.le_refl _), ih (by omega)]
    constructor
    · rintro ((q | ⟨i, h1, h2⟩) | q)
      · exact Or.inl q
      · exact Or.inr ⟨i, by omega, h2⟩
      · exact Or.inr ⟨k, by omega, q⟩
    · rintro (q | ⟨i, h1, h2⟩)
      · exact Or.inl (Or.inl q)
      · by_cases e : i = k
        · subst e; exact Or.inr h2
        · exact Or.inl (Or.inr ⟨i, by omega, h2⟩)
theorem mOut_char {T : Tb} (ok : TbOk T) (cost nb : Nat → Nat) (j v : Nat) : ∀ k, k ≤ T.g → (mOut T cost nb k j ≤ v ↔ nb j ≤ v ∨ ∃ q, q < k ∧ cost q < 1000 ∧ ∃ c, InC T c ∧ Edg T cost j v q c) := by
  intro k
  induction k with
  | zero => intro _; simp [mOut]
  | succ k ih =>
    intro hk
    have ih := ih (by omega)
    simp only [mOut]
    by_cases h : cost k < 1000
    · have e0 : (huB T k 0 = j ∧ cost k ≤ v) ↔ Edg T cost j v k 128 := by
        unfold Edg
        rw [huB_128, cnt_128]
        rfl
      rw [if_pos h, mMid_char ok cost _ j v T.g (Nat.le_refl _), lead_le, ih, e0]
      constructor
      · rintro (((q | ⟨q, h1, h2⟩) | q) | ⟨i, hi, r, hr, hb, b, hb1, q⟩)
        · exact Or.inl q
        · exact Or.inr ⟨q, by omega, h2⟩
        · exact Or.inr ⟨k, by omega, h, 128, Or.inl rfl, q⟩
        · exact Or.inr ⟨k, by omega, h, _, Or.inr ⟨i, hi, r, hr, hb, b, hb1, rfl⟩, q⟩
      · rintro (q | ⟨q, h1, h2, c, hc, h3⟩)
        · exact Or.inl (Or.inl (Or.inl q))
        · by_cases e : q = k
          · subst e
            rcases hc with rfl | ⟨i, hi, r, hr, hb, b, hb1, rfl⟩
            · exact Or.inl (Or.inr h3)
            · exact Or.inr ⟨i, hi, r, hr, hb, b, hb1, h3⟩
          · exact Or.inl (Or.inl (Or.inr ⟨q, by omega, h2, c, hc, h3⟩))
    · rw [if_neg h, ih]
      constructor
      · rintro (q | ⟨q, h1, h2⟩)
        · exact Or.inl q
        · exact Or.inr ⟨q, by omega, h2⟩
      · rintro (q | ⟨q, h1, h2⟩)
        · exact Or.inl q
        · by_cases e : q = k
          · subst e; exact absurd h2.1 h
          · exact Or.inr ⟨q, by omega, h2⟩
theorem mOut_gr {T : Tb} (ok : TbOk T) (cost nb : Nat → Nat) : mOut T cost nb T.g = grF T cost nb := by
  funext j
  exact le_ext (fun v => (mOut_char ok cost nb j v T.g (Nat.le_refl _)).trans (grF_char T cost nb j v).symm)
theorem fwF_small {T : Tb} (ok : TbOk T) (s : Nat) : ∀ n j, fwF T s n j < 1000 → fwF T s n j ≤ 8 * n := by
  intro n
  induction n with
  | zero =>
    intro j h
    have h2 : (if j = s then 0 else 1000) < 1000 := h
    show (if j = s then 0 else 1000) ≤ 8 * 0
    split
    · exact Nat.le_refl _
    · rename_i e; rw [if_neg e] at h2; omega
  | succ n ih =>
    intro j h
    have h1 := (grF_char T (fwF T s n) (fun _ => 1000) j (fwF T s (n + 1) j)).mp (Nat.le_refl _)
    rcases h1 with h1 | ⟨q, h1, h2, c, hc, h3⟩
    · have h1 : 1000 ≤ fwF T s (n + 1) j := h1
      omega
    · have h4 := (grF_char T (fwF T s n) (fun _ => 1000) j (fwF T s n q + cntOf T c T.so)).mpr (Or.inr ⟨q, h1, h2, c, hc, h3.1, Nat.le_refl _⟩)
      have h5 := ih q h2
      have h6 : cntOf T c T.so ≤ 8 := by
        refine cntOf_le8 ok ?_ T.so
        rcases hc with e | ⟨i, hi, r, hr, hb, b, hb1, rfl⟩
        · exact Or.inl e
        · refine Or.inr ?_
          rw [say_top (by have := ok.2.1; omega) hb1]
          exact hr
      have h7 : fwF T s (n + 1) j ≤ fwF T s n q + cntOf T c T.so := h4
      omega
def enI (v : Nat) : Int32 := if v < 1000 then nI v else -1
def enF (f : Nat → Nat) : Nat → Int32 := fun j => enI (f j)
theorem enF_up (f : Nat → Nat) (k v : Nat) : upd (enF f) k (enI v) = enF (uN f k v) := by
  funext j
  by_cases h : j = k <;> simp [upd, uN, enF, h]
theorem enI_lt {v : Nat} (h : v < 1000) : enI v = nI v := if_pos h
theorem enI_ge {v : Nat} (h : ¬ v < 1000) : enI v = -1 := if_neg h
set_option maxRecDepth 20000 in
theorem md_leads {σ0 : AHp} {tl u kn ns : Nat} {at_ : Int32} (hM : σ0 272 = some (mdO tl u kn ns at_)) {nb : Nat → Nat} {to s : Nat} (hBh : σ0 282 = some (iA 0 8 (enF nb))) (hto : to < 8) (hs : s < 1000) : EvW M_X11_leads [.ref 272, .int (nI to), .int (nI s)] σ0 none (fun σ => σ 282 = some (iA 0 8 (enF (lead nb to s))) ∧ ∀ j, j ≠ 282 → σ j = σ0 j) := by
  have hfr : ∀ j, j ≠ 282 → σ0 j = σ0 j := fun _ _ => rfl
  refine Ev.of (ls := [_, _, _]) 0 (by decide) rfl rfl ?_
  refine R_aload_n a_X11_leads_0 rfl ?_
  refine R_get a_X11_leads_1 hM rfl ?_
  refine R_iload_n a_X11_leads_4 rfl ?_
  refine R_aload_n a_X11_leads_5 rfl ?_
  refine R_get a_X11_leads_6 hM rfl ?_
  refine R_iload_n a_X11_leads_9 rfl ?_
  refine R_iald_n a_X11_leads_10 hBh (by first | omega | exact Nat.lt_of_le_of_lt (inR_le _ _) (by decide) | exact Nat.lt_of_le_of_lt (bitN_le _ _) (by decide) | exact Nat.lt_of_le_of_lt (inI_le _ _ _) (by decide) | exact inI_le _ _ _ | exact inR_le _ _ | exact bitN_le _ _) (by decide) ?_
  refine R_if_lt a_X11_leads_11 (fun h11 => ?_) (fun h11 => ?_)
  · skip
    have hge : ¬ nb to < 1000 := by
      intro q
      have e : enF nb to = nI (nb to) := enI_lt q
      rw [e] at h11
      exact nI_pos (by omega) h11
    have hv : nI s = enI (min (nb to) s) := by rw [show min (nb to) s = s by omega, enI_lt hs]
    refine R_iload_n a_X11_leads_24 rfl ?_
    refine R_goto a_X11_leads_25 ?_
    refine R_iastK a_X11_leads_34 (by omega) hBh (by first | omega | exact Nat.lt_of_le_of_lt (inR_le _ _) (by decide) | exact Nat.lt_of_le_of_lt (bitN_le _ _) (by decide) | exact Nat.lt_of_le_of_lt (inI_le _ _ _) (by decide) | exact inI_le _ _ _ | exact inR_le _ _ | exact bitN_le _ _) (by decide) (fun σ hBh ho => ?_)
    have hM := (ho _ (by omega)).trans hM
    have hfr : ∀ j, j ≠ 282 → σ j = σ0 j := fun j hj => (ho j (by omega)).trans (hfr j hj)
    rw [hv, enF_up] at hBh
    refine R_vret a_X11_leads_35 rfl ?_
    exact ⟨rfl, hBh, hfr⟩
  · skip
    have hlt : nb to < 1000 := by
      by_cases q : nb to < 1000
      · exact q
      · have e : enF nb to = -1 := enI_ge q
        rw [e] at h11
        exact absurd (by decide) h11
    have hev : enF nb to = nI (nb to) := enI_lt hlt
    refine R_iload_n a_X11_leads_14 rfl ?_
    refine R_aload_n a_X11_leads_15 rfl ?_
    refine R_get a_X11_leads_16 hM rfl ?_
    refine R_iload_n a_X11_leads_19 rfl ?_
    refine R_iald_n a_X11_leads_20 hBh (by first | omega | exact Nat.lt_of_le_of_lt (inR_le _ _) (by decide) | exact Nat.lt_of_le_of_lt (bitN_le _ _) (by decide) | exact Nat.lt_of_le_of_lt (inI_le _ _ _) (by decide) | exact inI_le _ _ _ | exact inR_le _ _ | exact bitN_le _ _) (by decide) ?_
    refine R_top hev ?_
    first | with_reducible refine R_icmp_ge_n a_X11_leads_21 (by first | omega | exact Nat.lt_of_le_of_lt (inR_le _ _) (by decide) | exact Nat.lt_of_le_of_lt (bitN_le _ _) (by decide) | exact Nat.lt_of_le_of_lt (inI_le _ _ _) (by decide) | exact inI_le _ _ _ | exact inR_le _ _ | exact bitN_le _ _) (by first | omega | exact Nat.lt_of_le_of_lt (inR_le _ _) (by decide) | exact Nat.lt_of_le_of_lt (bitN_le _ _) (by decide) | exact Nat.lt_of_le_of_lt (inI_le _ _ _) (by decide) | exact inI_le _ _ _ | exact inR_le _ _ | exact bitN_le _ _) (fun h21 => ?_) (fun h21 => ?_) | refine R_icmp_ge a_X11_leads_21 (fun h21 => ?_) (fun h21 => ?_)
    · skip
      have hv : enF nb to = enI (min (nb to) s) := by rw [show min (nb to) s = nb to by omega]; rfl
      refine R_aload_n a_X11_leads_28 rfl ?_
      refine R_get a_X11_leads_29 hM rfl ?_
      refine R_iload_n a_X11_leads_32 rfl ?_
      refine R_iald_n a_X11_leads_33 hBh (by first | omega | exact Nat.lt_of_le_of_lt (inR_le _ _) (by decide) | exact Nat.lt_of_le_of_lt (bitN_le _ _) (by decide) | exact Nat.lt_of_le_of_lt (inI_le _ _ _) (by decide) | exact inI_le _ _ _ | exact inR_le _ _ | exact bitN_le _ _) (by decide) ?_
      refine R_iastK a_X11_leads_34 (by omega) hBh (by first | omega | exact Nat.lt_of_le_of_lt (inR_le _ _) (by decide) | exact Nat.lt_of_le_of_lt (bitN_le _ _) (by decide) | exact Nat.lt_of_le_of_lt (inI_le _ _ _) (by decide) | exact inI_le _ _ _ | exact inR_le _ _ | exact bitN_le _ _) (by decide) (fun σ hBh ho => ?_)
      have hM := (ho _ (by omega)).trans hM
      have hfr : ∀ j, j ≠ 282 → σ j = σ0 j := fun j hj => (ho j (by omega)).trans (hfr j hj)
      rw [hv, enF_up] at hBh
      refine R_vret a_X11_leads_35 rfl ?_
      exact ⟨rfl, hBh, hfr⟩
    · skip
      have hv : nI s = enI (min (nb to) s) := by rw [show min (nb to) s = s by omega, enI_lt hs]
      refine R_iload_n a_X11_leads_24 rfl ?_
      refine R_goto a_X11_leads_25 ?_
      refine R_iastK a_X11_leads_34 (by omega) hBh (by first | omega | exact Nat.lt_of_le_of_lt (inR_le _ _) (by decide) | exact Nat.lt_of_le_of_lt (bitN_le _ _) (by decide) | exact Nat.lt_of_le_of_lt (inI_le _ _ _) (by decide) | exact inI_le _ _ _ | exact inR_le _ _ | exact bitN_le _ _) (by decide) (fun σ hBh ho => ?_)
      have hM := (ho _ (by omega)).trans hM
      have hfr : ∀ j, j ≠ 282 → σ j = σ0 j := fun j hj => (ho j (by omega)).trans (hfr j hj)
      rw [hv, enF_up] at hBh
      refine R_vret a_X11_leads_35 rfl ?_
      exact ⟨rfl, hBh, hfr⟩

set_option maxRecDepth 20000 in
theorem lp_few6 {σ0 : AHp} {tl u kn ns : Nat} {at_ : Int32} {ft : Nat → Int32} {T : Tb} (hM0 : σ0 272 = some (mdO tl u kn ns at_)) (hMT0 : MT σ0 ft T) (ok : TbOk T) {cost : Nat → Nat} (hSm0 : σ0 281 = some (iA 0 8 (enF cost))) (hcs : ∀ j, cost j < 1000 → cost j ≤ 48) {k n rd f i : Nat} (hf_ : f < T.g) (hi : i < T.g) (hcf : cost f < 1000) {nb : Nat → Nat} {Q : Option Value → AHp → Prop} (hx : ∀ (σ : AHp) (x7 : Option Value), σ 282 = some (iA 0 8 (enF (mIn T cost f i nb T.n))) → (∀ j, j ≠ 282 → σ j = σ0 j) → Run M_X11_fewest 275 [some (.ref 272), some (.int (nI k)), some (.int (nI n)), some (.int (nI rd)), some (.int (nI f)), some (.int (nI i)), some (.int (nI T.n)), x7] [] σ 0 0 Q) : ∀ (m t : Nat) (σ : AHp) (x7 : Option Value), T.n - t = m → t ≤ T.n → σ 282 = some (iA 0 8 (enF (mIn T cost f i nb t))) → (∀ j, j ≠ 282 → σ j = σ0 j) → Run M_X11_fewest 145 [some (.ref 272), some (.int (nI k)), some (.int (nI n)), some (.int (nI rd)), some (.int (nI f)), some (.int (nI i)), some (.int (nI t)), x7] [] σ 0 0 Q := by
  obtain ⟨hTo, t0, t1, t2, t3, t28, tkd, thn, tkn, thf⟩ := id hMT0
  obtain ⟨g3, g8, n1, n6, lw, stg, son, kd4, hn10, kn63, hf4⟩ := id ok
  have hn64 : 2 ^ T.n ≤ 2 ^ 6 := Nat.pow_le_pow_right (by decide) n6
  intro m
  induction m using Nat.strongRecOn
  rename_i m ih
  intro t σ x7 hm hk hBh hfr
  have hM := (hfr 272 (by omega)).trans hM0
  have hTo := (hfr 274 (by omega)).trans hMT0.1
  have hMT : MT σ ft T := ⟨hTo, t0, t1, t2, t3, t28, tkd, thn, tkn, thf⟩
  have hSm := (hfr 281 (by omega)).trans hSm0
  have hc48 := hcs f hcf
  have hcf2 : enF cost f = nI (cost f) := enI_lt hcf
  have hkn := kn63 i hi
  have hlie := comesF_lt (T := T) (a := f) (c := lcF T i t) (d := 128) (w := T.so) (law := T.law) (by omega) hf_
  have hhu : huB T f (2 ^ i) < T.g := hushF_lt (by omega) hf_
  have h2i : 2 ^ i < 2 ^ 8 := Nat.pow_lt_pow_right (by decide) (by omega)
  refine R_iload a_X11_fewest_145 rfl ?_
  refine R_aload_n a_X11_fewest_147 rfl ?_
  refine R_get a_X11_fewest_148 hM rfl ?_
  refine R_iconst (v := nI 1) a_X11_fewest_151 rfl ?_
  refine R_iald_n a_X11_fewest_152 hTo (by first | omega | exact Nat.lt_of_le_of_lt (inR_le _ _) (by decide) | exact Nat.lt_of_le_of_lt (bitN_le _ _) (by decide) | exact Nat.lt_of_le_of_lt (inI_le _ _ _) (by decide) | exact inI_le _ _ _ | exact inR_le _ _ | exact bitN_le _ _) (by decide) ?_
  refine R_top t1 ?_
  first | with_reducible refine R_icmp_ge_n a_X11_fewest_153 (by first | omega | exact Nat.lt_of_le_of_lt (inR_le _ _) (by decide) | exact Nat.lt_of_le_of_lt (bitN_le _ _) (by decide) | exact Nat.lt_of_le_of_lt (inI_le _ _ _) (by decide) | exact inI_le _ _ _ | exact inR_le _ _ | exact bitN_le _ _) (by first | omega | exact Nat.lt_of_le_of_lt (inR_le _ _) (by decide) | exact Nat.lt_of_le_of_lt (bitN_le _ _) (by decide) | exact Nat.lt_of_le_of_lt (inI_le _ _ _) (by decide) | exact inI_le _ _ _ | exact inR_le _ _ | exact bitN_le _ _) (fun h153 => ?_) (fun h153 => ?_) | refine R_icmp_ge a_X11_fewest_153 (fun h153 => ?_) (fun h153 => ?_)
  · skip
    have hte : t = T.n := by omega
    subst hte
    exact hx σ _ hBh hfr
  · skip
    have hcn := cnt_le ok i (show t < T.n by omega)
    refine R_aload_n a_X11_fewest_156 rfl ?_
    refine R_get a_X11_fewest_157 hM rfl ?_
    refine R_bipush (v := nI 20) a_X11_fewest_160 rfl ?_
    refine R_iload a_X11_fewest_162 rfl ?_
    first | with_reducible refine R_iadd_n a_X11_fewest_164 ?_ | refine R_iadd a_X11_fewest_164 ?_
    refine R_iald_n a_X11_fewest_165 hTo (by first | omega | exact Nat.lt_of_le_of_lt (inR_le _ _) (by decide) | exact Nat.lt_of_le_of_lt (bitN_le _ _) (by decide) | exact Nat.lt_of_le_of_lt (inI_le _ _ _) (by decide) | exact inI_le _ _ _ | exact inR_le _ _ | exact bitN_le _ _) (by decide) ?_
    refine R_top (tkn _ (by first | omega | exact Nat.lt_of_le_of_lt (inR_le _ _) (by decide) | exact Nat.lt_of_le_of_lt (bitN_le _ _) (by decide) | exact Nat.lt_of_le_of_lt (inI_le _ _ _) (by decide) | exact inI_le _ _ _ | exact inR_le _ _ | exact bitN_le _ _)) ?_
    refine R_iload a_X11_fewest_166 rfl ?_
    first | with_reducible refine R_ishr_n a_X11_fewest_168 (by first | omega | exact Nat.lt_of_le_of_lt (inR_le _ _) (by decide) | exact Nat.lt_of_le_of_lt (bitN_le _ _) (by decide) | exact Nat.lt_of_le_of_lt (inI_le _ _ _) (by decide) | exact inI_le _ _ _ | exact inR_le _ _ | exact bitN_le _ _) (by first | omega | exact Nat.lt_of_le_of_lt (inR_le _ _) (by decide) | exact Nat.lt_of_le_of_lt (bitN_le _ _) (by decide) | exact Nat.lt_of_le_of_lt (inI_le _ _ _) (by decide) | exact inI_le _ _ _ | exact inR_le _ _ | exact bitN_le _ _) ?_ | refine R_ishr a_X11_fewest_168 ?_
    refine R_iconst (v := nI 1) a_X11_fewest_169 rfl ?_
    first | with_reducible refine R_iand1 a_X11_fewest_170 ?_ | with_reducible refine R_iand_n a_X11_fewest_170 ?_ | refine R_iand a_X11_fewest_170 ?_
    refine R_iconst (v := nI 1) a_X11_fewest_171 rfl ?_
    refine R_icmp_ne_n (a := bitN (T.kn i) t) (b := 1) a_X11_fewest_172 (Nat.lt_of_le_of_lt (bitN_le _ _) (by decide)) (by omega) (fun h172 => ?_) (fun h172 => ?_)
    · skip
      first | with_reducible refine R_iinc_n (ls' := [_, _, _, _, _, _, _, _]) a_X11_fewest_269 rfl rfl rfl rfl ?_ | refine R_iinc (ls' := [_, _, _, _, _, _, _, _]) a_X11_fewest_269 rfl rfl rfl rfl rfl ?_
      refine R_goto a_X11_fewest_272 ?_
      have e : mIn T cost f i nb (t + 1) = mIn T cost f i nb t := by simp only [mIn]; rw [if_neg h172]
      exact ih _ (show T.n - (t + 1) < m by omega) (t + 1) σ _ rfl (by omega) (by rw [e]; exact hBh) hfr
    · skip
      refine R_iload a_X11_fewest_175 rfl ?_
      refine R_iload a_X11_fewest_177 rfl ?_
      refine R_aload_n a_X11_fewest_179 rfl ?_
      refine R_get a_X11_fewest_180 hM rfl ?_
      refine R_bipush (v := nI 28) a_X11_fewest_183 rfl ?_
      refine R_iald_n a_X11_fewest_185 hTo (by first | omega | exact Nat.lt_of_le_of_lt (inR_le _ _) (by decide) | exact Nat.lt_of_le_of_lt (bitN_le _ _) (by decide) | exact Nat.lt_of_le_of_lt (inI_le _ _ _) (by decide) | exact inI_le _ _ _ | exact inR_le _ _ | exact bitN_le _ _) (by decide) ?_
      refine R_top t28 ?_
      refine R_iload a_X11_fewest_186 rfl ?_
      first | with_reducible refine R_ishr_n a_X11_fewest_188 (by first | omega | exact Nat.lt_of_le_of_lt (inR_le _ _) (by decide) | exact Nat.lt_of_le_of_lt (bitN_le _ _) (by decide) | exact Nat.lt_of_le_of_lt (inI_le _ _ _) (by decide) | exact inI_le _ _ _ | exact inR_le _ _ | exact bitN_le _ _) (by first | omega | exact Nat.lt_of_le_of_lt (inR_le _ _) (by decide) | exact Nat.lt_of_le_of_lt (bitN_le _ _) (by decide) | exact Nat.lt_of_le_of_lt (inI_le _ _ _) (by decide) | exact inI_le _ _ _ | exact inR_le _ _ | exact bitN_le _ _) ?_ | refine R_ishr a_X11_fewest_188 ?_
      refine R_iconst (v := nI 1) a_X11_fewest_189 rfl ?_
      first | with_reducible refine R_iand1 a_X11_fewest_190 ?_ | with_reducible refine R_iand_n a_X11_fewest_190 ?_ | refine R_iand a_X11_fewest_190 ?_
      refine R_if_ne_n (a := bitN T.so t) a_X11_fewest_191 (Nat.lt_of_le_of_lt (bitN_le _ _) (by decide)) (fun h191 => ?_) (fun h191 => ?_)
      · skip
        have hlc : sayC i t 0 = lcF T i t := by unfold lcF; rw [bit_b h191]
        refine R_iconst (v := nI 0) a_X11_fewest_198 rfl ?_
        refine R_callSp a_X11_fewest_199 (md_saying (by decide)) rfl rfl rfl rfl rfl ?_
        refine R_top (congrArg nI hlc) ?_
        refine R_istore (ls' := [_, _, _, _, _, _, _, _]) a_X11_fewest_202 rfl rfl rfl ?_
        refine R_aload_n a_X11_fewest_204 rfl ?_
        refine R_aload_n a_X11_fewest_205 rfl ?_
        refine R_iload a_X11_fewest_206 rfl ?_
        refine R_iload a_X11_fewest_208 rfl ?_
        refine R_sipush (v := nI 128) a_X11_fewest_210 rfl ?_
        refine R_aload_n a_X11_fewest_213 rfl ?_
        refine R_get a_X11_fewest_214 hM rfl ?_
        refine R_bipush (v := nI 28) a_X11_fewest_217 rfl ?_
        refine R_iald_n a_X11_fewest_219 hTo (by first | omega | exact Nat.lt_of_le_of_lt (inR_le _ _) (by decide) | exact Nat.lt_of_le_of_lt (bitN_le _ _) (by decide) | exact Nat.lt_of_le_of_lt (inI_le _ _ _) (by decide) | exact inI_le _ _ _ | exact inR_le _ _ | exact bitN_le _ _) (by decide) ?_
        refine R_top t28 ?_
        refine R_aload_n a_X11_fewest_220 rfl ?_
        refine R_get a_X11_fewest_221 hM rfl ?_
        refine R_iconst (v := nI 2) a_X11_fewest_224 rfl ?_
        refine R_iald_n a_X11_fewest_225 hTo (by first | omega | exact Nat.lt_of_le_of_lt (inR_le _ _) (by decide) | exact Nat.lt_of_le_of_lt (bitN_le _ _) (by decide) | exact Nat.lt_of_le_of_lt (inI_le _ _ _) (by decide) | exact inI_le _ _ _ | exact inR_le _ _ | exact bitN_le _ _) (by decide) ?_
        refine R_top t2 ?_
        refine R_callVp a_X11_fewest_226 hM (md_comes hM hMT ok hf_ (CdOk.say ok hi (show t < T.n by omega) (show 1 - bitN T.so t ≤ 1 by omega)) (Or.inl rfl) (show T.so < 2 ^ 31 by omega) lw) rfl rfl rfl rfl rfl ?_
        refine R_aload_n a_X11_fewest_229 rfl ?_
        refine R_get a_X11_fewest_230 hM rfl ?_
        refine R_iload a_X11_fewest_233 rfl ?_
        refine R_iald_n a_X11_fewest_235 hSm (by first | omega | exact Nat.lt_of_le_of_lt (inR_le _ _) (by decide) | exact Nat.lt_of_le_of_lt (bitN_le _ _) (by decide) | exact Nat.lt_of_le_of_lt (inI_le _ _ _) (by decide) | exact inI_le _ _ _ | exact inR_le _ _ | exact bitN_le _ _) (by decide) ?_
        refine R_top hcf2 ?_
        refine R_aload_n a_X11_fewest_236 rfl ?_
        refine R_iload a_X11_fewest_237 rfl ?_
        refine R_iload a_X11_fewest_239 rfl ?_
        refine R_callVp a_X11_fewest_241 hM (md_counts hM hMT ok hi (show t < T.n by omega)) rfl rfl rfl rfl rfl ?_
        first | with_reducible refine R_iadd_n a_X11_fewest_244 ?_ | refine R_iadd a_X11_fewest_244 ?_
        refine R_callVv a_X11_fewest_245 hM (md_leads hM hBh (show comesF T f (lcF T i t) 128 T.so T.law < 8 by omega) (show cost f + cnt T i t < 1000 by omega)) rfl rfl rfl rfl rfl (fun σ hP => ?_)
        obtain ⟨hBh, hf⟩ := hP
        have hfr : ∀ j, j ≠ 282 → σ j = σ0 j := fun j hj => (hf j hj).trans (hfr j hj)
        have hM := (hfr 272 (by omega)).trans hM0
        have hTo := (hfr 274 (by omega)).trans hMT0.1
        have hMT : MT σ ft T := ⟨hTo, t0, t1, t2, t3, t28, tkd, thn, tkn, thf⟩
        have hSm := (hfr 281 (by omega)).trans hSm0
        refine R_aload_n a_X11_fewest_248 rfl ?_
        refine R_aload_n a_X11_fewest_249 rfl ?_
        refine R_iload a_X11_fewest_250 rfl ?_
        refine R_iconst (v := nI 1) a_X11_fewest_252 rfl ?_
        refine R_iload a_X11_fewest_253 rfl ?_
        first | with_reducible refine R_ishl1 a_X11_fewest_255 (by first | omega | exact Nat.lt_of_le_of_lt (inR_le _ _) (by decide) | exact Nat.lt_of_le_of_lt (bitN_le _ _) (by decide) | exact Nat.lt_of_le_of_lt (inI_le _ _ _) (by decide) | exact inI_le _ _ _ | exact inR_le _ _ | exact bitN_le _ _) ?_ | with_reducible refine R_ishl_n a_X11_fewest_255 (by first | omega | exact Nat.lt_of_le_of_lt (inR_le _ _) (by decide) | exact Nat.lt_of_le_of_lt (bitN_le _ _) (by decide) | exact Nat.lt_of_le_of_lt (inI_le _ _ _) (by decide) | exact inI_le _ _ _ | exact inR_le _ _ | exact bitN_le _ _) (by first | omega | exact Nat.lt_of_le_of_lt (inR_le _ _) (by decide) | exact Nat.lt_of_le_of_lt (bitN_le _ _) (by decide) | exact Nat.lt_of_le_of_lt (inI_le _ _ _) (by decide) | exact inI_le _ _ _ | exact inR_le _ _ | exact bitN_le _ _) ?_ | refine R_ishl a_X11_fewest_255 ?_
        refine R_callVp a_X11_fewest_256 hM (md_hushed hM hMT ok hf_ (show 2 ^ i < 256 by omega)) rfl rfl rfl rfl rfl ?_
        refine R_aload_n a_X11_fewest_259 rfl ?_
        refine R_get a_X11_fewest_260 hM rfl ?_
        refine R_iload a_X11_fewest_263 rfl ?_
        refine R_iald_n a_X11_fewest_265 hSm (by first | omega | exact Nat.lt_of_le_of_lt (inR_le _ _) (by decide) | exact Nat.lt_of_le_of_lt (bitN_le _ _) (by decide) | exact Nat.lt_of_le_of_lt (inI_le _ _ _) (by decide) | exact inI_le _ _ _ | exact inR_le _ _ | exact bitN_le _ _) (by decide) ?_
        refine R_top hcf2 ?_
        refine R_callVv a_X11_fewest_266 hM (md_leads hM hBh (show huB T f (2 ^ i) < 8 by omega) (show cost f < 1000 by omega)) rfl rfl rfl rfl rfl (fun σ hP => ?_)
        obtain ⟨hBh, hf⟩ := hP
        have hfr : ∀ j, j ≠ 282 → σ j = σ0 j := fun j hj => (hf j hj).trans (hfr j hj)
        have hM := (hfr 272 (by omega)).trans hM0
        have hTo := (hfr 274 (by omega)).trans hMT0.1
        have hMT : MT σ ft T := ⟨hTo, t0, t1, t2, t3, t28, tkd, thn, tkn, thf⟩
        have hSm := (hfr 281 (by omega)).trans hSm0
        first | with_reducible refine R_iinc_n (ls' := [_, _, _, _, _, _, _, _]) a_X11_fewest_269 rfl rfl rfl rfl ?_ | refine R_iinc (ls' := [_, _, _, _, _, _, _, _]) a_X11_fewest_269 rfl rfl rfl rfl rfl ?_
        refine R_goto a_X11_fewest_272 ?_
        have e : mIn T cost f i nb (t + 1) = lead (lead (mIn T cost f i nb t) (comesF T f (lcF T i t) 128 T.so T.law) (cost f + cnt T i t)) (huB T f (2 ^ i)) (cost f) := by simp only [mIn]; rw [if_pos h172]
        exact ih _ (show T.n - (t + 1) < m by omega) (t + 1) σ _ rfl (by omega) (by rw [e]; exact hBh) hfr
      · skip
        have hlc : sayC i t 1 = lcF T i t := by unfold lcF; rw [h191]
        refine R_iconst (v := nI 1) a_X11_fewest_194 rfl ?_
        refine R_goto a_X11_fewest_195 ?_
        refine R_callSp a_X11_fewest_199 (md_saying (by decide)) rfl rfl rfl rfl rfl ?_
        refine R_top (congrArg nI hlc) ?_
        refine R_istore (ls' := [_, _, _, _, _, _, _, _]) a_X11_fewest_202 rfl rfl rfl ?_
        refine R_aload_n a_X11_fewest_204 rfl ?_
        refine R_aload_n a_X11_fewest_205 rfl ?_
        refine R_iload a_X11_fewest_206 rfl ?_
        refine R_iload a_X11_fewest_208 rfl ?_
        refine R_sipush (v := nI 128) a_X11_fewest_210 rfl ?_
        refine R_aload_n a_X11_fewest_213 rfl ?_
        refine R_get a_X11_fewest_214 hM rfl ?_
        refine R_bipush (v := nI 28) a_X11_fewest_217 rfl ?_
        refine R_iald_n a_X11_fewest_219 hTo (by first | omega | exact Nat.lt_of_le_of_lt (inR_le _ _) (by decide) | exact Nat.lt_of_le_of_lt (bitN_le _ _) (by decide) | exact Nat.lt_of_le_of_lt (inI_le _ _ _) (by decide) | exact inI_le _ _ _ | exact inR_le _ _ | exact bitN_le _ _) (by decide) ?_
        refine R_top t28 ?_
        refine R_aload_n a_X11_fewest_220 rfl ?_
        refine R_get a_X11_fewest_221 hM rfl ?_
        refine R_iconst (v := nI 2) a_X11_fewest_224 rfl ?_
        refine R_iald_n a_X11_fewest_225 hTo (by first | omega | exact Nat.lt_of_le_of_lt (inR_le _ _) (by decide) | exact Nat.lt_of_le_of_lt (bitN_le _ _) (by decide) | exact Nat.lt_of_le_of_lt (inI_le _ _ _) (by decide) | exact inI_le _ _ _ | exact inR_le _ _ | exact bitN_le _ _) (by decide) ?_
        refine R_top t2 ?_
        refine R_callVp a_X11_fewest_226 hM (md_comes hM hMT ok hf_ (CdOk.say ok hi (show t < T.n by omega) (show 1 - bitN T.so t ≤ 1 by omega)) (Or.inl rfl) (show T.so < 2 ^ 31 by omega) lw) rfl rfl rfl rfl rfl ?_
        refine R_aload_n a_X11_fewest_229 rfl ?_
        refine R_get a_X11_fewest_230 hM rfl ?_
        refine R_iload a_X11_fewest_233 rfl ?_
        refine R_iald_n a_X11_fewest_235 hSm (by first | omega | exact Nat.lt_of_le_of_lt (inR_le _ _) (by decide) | exact Nat.lt_of_le_of_lt (bitN_le _ _) (by decide) | exact Nat.lt_of_le_of_lt (inI_le _ _ _) (by decide) | exact inI_le _ _ _ | exact inR_le _ _ | exact bitN_le _ _) (by decide) ?_
        refine R_top hcf2 ?_
        refine R_aload_n a_X11_fewest_236 rfl ?_
        refine R_iload a_X11_fewest_237 rfl ?_
        refine R_iload a_X11_fewest_239 rfl ?_
        refine R_callVp a_X11_fewest_241 hM (md_counts hM hMT ok hi (show t < T.n by omega)) rfl rfl rfl rfl rfl ?_
        first | with_reducible refine R_iadd_n a_X11_fewest_244 ?_ | refine R_iadd a_X11_fewest_244 ?_
        refine R_callVv a_X11_fewest_245 hM (md_leads hM hBh (show comesF T f (lcF T i t) 128 T.so T.law < 8 by omega) (show cost f + cnt T i t < 1000 by omega)) rfl rfl rfl rfl rfl (fun σ hP => ?_)
        obtain ⟨hBh, hf⟩ := hP
        have hfr : ∀ j, j ≠ 282 → σ j = σ0 j := fun j hj => (hf j hj).trans (hfr j hj)
        have hM := (hfr 272 (by omega)).trans hM0
        have hTo := (hfr 274 (by omega)).trans hMT0.1
        have hMT : MT σ ft T := ⟨hTo, t0, t1, t2, t3, t28, tkd, thn, tkn, thf⟩
        have hSm := (hfr 281 (by omega)).trans hSm0
        refine R_aload_n a_X11_fewest_248 rfl ?_
        refine R_aload_n a_X11_fewest_249 rfl ?_
        refine R_iload a_X11_fewest_250 rfl ?_
        refine R_iconst (v := nI 1) a_X11_fewest_252 rfl ?_
        refine R_iload a_X11_fewest_253 rfl ?_
        first | with_reducible refine R_ishl1 a_X11_fewest_255 (by first | omega | exact Nat.lt_of_le_of_lt (inR_le _ _) (by decide) | exact Nat.lt_of_le_of_lt (bitN_le _ _) (by decide) | exact Nat.lt_of_le_of_lt (inI_le _ _ _) (by decide) | exact inI_le _ _ _ | exact inR_le _ _ | exact bitN_le _ _) ?_ | with_reducible refine R_ishl_n a_X11_fewest_255 (by first | omega | exact Nat.lt_of_le_of_lt (inR_le _ _) (by decide) | exact Nat.lt_of_le_of_lt (bitN_le _ _) (by decide) | exact Nat.lt_of_le_of_lt (inI_le _ _ _) (by decide) | exact inI_le _ _ _ | exact inR_le _ _ | exact bitN_le _ _) (by first | omega | exact Nat.lt_of_le_of_lt (inR_le _ _) (by decide) | exact Nat.lt_of_le_of_lt (bitN_le _ _) (by decide) | exact Nat.lt_of_le_of_lt (inI_le _ _ _) (by decide) | exact inI_le _ _ _ | exact inR_le _ _ | exact bitN_le _ _) ?_ | refine R_ishl a_X11_fewest_255 ?_
        refine R_callVp a_X11_fewest_256 hM (md_hushed hM hMT ok hf_ (show 2 ^ i < 256 by omega)) rfl rfl rfl rfl rfl ?_
        refine R_aload_n a_X11_fewest_259 rfl ?_
        refine R_get a_X11_fewest_260 hM rfl ?_
        refine R_iload a_X11_fewest_263 rfl ?_
        refine R_iald_n a_X11_fewest_265 hSm (by first | omega | exact Nat.lt_of_le_of_lt (inR_le _ _) (by decide) | exact Nat.lt_of_le_of_lt (bitN_le _ _) (by decide) | exact Nat.lt_of_le_of_lt (inI_le _ _ _) (by decide) | exact inI_le _ _ _ | exact inR_le _ _ | exact bitN_le _ _) (by decide) ?_
        refine R_top hcf2 ?_
        refine R_callVv a_X11_fewest_266 hM (md_leads hM hBh (show huB T f (2 ^ i) < 8 by omega) (show cost f < 1000 by omega)) rfl rfl rfl rfl rfl (fun σ hP => ?_)
        obtain ⟨hBh, hf⟩ := hP
        have hfr : ∀ j, j ≠ 282 → σ j = σ0 j := fun j hj => (hf j hj).trans (hfr j hj)
        have hM := (hfr 272 (by omega)).trans hM0
        have hTo := (hfr 274 (by omega)).trans hMT0.1
        have hMT : MT σ ft T := ⟨hTo, t0, t1, t2, t3, t28, tkd, thn, tkn, thf⟩
        have hSm := (hfr 281 (by omega)).trans hSm0
        first | with_reducible refine R_iinc_n (ls' := [_, _, _, _, _, _, _, _]) a_X11_fewest_269 rfl rfl rfl rfl ?_ | refine R_iinc (ls' := [_, _, _, _, _, _, _, _]) a_X11_fewest_269 rfl rfl rfl rfl rfl ?_
        refine R_goto a_X11_fewest_272 ?_
        have e : mIn T cost f i nb (t + 1) = lead (lead (mIn T cost f i nb t) (comesF T f (lcF T i t) 128 T.so T.law) (cost f + cnt T i t)) (huB T f (2 ^ i)) (cost f) := by simp only [mIn]; rw [if_pos h172]
        exact ih _ (show T.n - (t + 1) < m by omega) (t + 1) σ _ rfl (by omega) (by rw [e]; exact hBh) hfr

set_option maxRecDepth 20000 in
theorem lp_few5 {σ0 : AHp} {tl u kn ns : Nat} {at_ : Int32} {ft : Nat → Int32} {T : Tb} (hM0 : σ0 272 = some (mdO tl u kn ns at_)) (hMT0 : MT σ0 ft T) (ok : TbOk T) {cost : Nat → Nat} (hSm0 : σ0 281 = some (iA 0 8 (enF cost))) (hcs : ∀ j, cost j < 1000 → cost j ≤ 48) {k n rd f : Nat} (hf_ : f < T.g) (hcf : cost f < 1000) {nb : Nat → Nat} {Q : Option Value → AHp → Prop} (hx : ∀ (σ : AHp) (x5 x6 x7 : Option Value), σ 282 = some (iA 0 8 (enF (mMid T cost f nb T.g))) → (∀ j, j ≠ 282 → σ j = σ0 j) → Run M_X11_fewest 281 [some (.ref 272), some (.int (nI k)), some (.int (nI n)), some (.int (nI rd)), some (.int (nI f)), x5, x6, x7] [] σ 0 0 Q) : ∀ (m i : Nat) (σ : AHp) (x6 x7 : Option Value), T.g - i = m → i ≤ T.g → σ 282 = some (iA 0 8 (enF (mMid T cost f nb i))) → (∀ j, j ≠ 282 → σ j = σ0 j) → Run M_X11_fewest 131 [some (.ref 272), some (.int (nI k)), some (.int (nI n)), some (.int (nI rd)), some (.int (nI f)), some (.int (nI i)), x6, x7] [] σ 0 0 Q := by
  obtain ⟨hTo, t0, t1, t2, t3, t28, tkd, thn, tkn, thf⟩ := id hMT0
  obtain ⟨g3, g8, n1, n6, lw, stg, son, kd4, hn10, kn63, hf4⟩ := id ok
  have hn64 : 2 ^ T.n ≤ 2 ^ 6 := Nat.pow_le_pow_right (by decide) n6
  intro m
  induction m using Nat.strongRecOn
  rename_i m ih
  intro i σ x6 x7 hm hk hBh hfr
  have hM := (hfr 272 (by omega)).trans hM0
  have hTo := (hfr 274 (by omega)).trans hMT0.1
  have hMT : MT σ ft T := ⟨hTo, t0, t1, t2, t3, t28, tkd, thn, tkn, thf⟩
  refine R_iload a_X11_fewest_131 rfl ?_
  refine R_aload_n a_X11_fewest_133 rfl ?_
  refine R_get a_X11_fewest_134 hM rfl ?_
  refine R_iconst (v := nI 0) a_X11_fewest_137 rfl ?_
  refine R_iald_n a_X11_fewest_138 hTo (by first | omega | exact Nat.lt_of_le_of_lt (inR_le _ _) (by decide) | exact Nat.lt_of_le_of_lt (bitN_le _ _) (by decide) | exact Nat.lt_of_le_of_lt (inI_le _ _ _) (by decide) | exact inI_le _ _ _ | exact inR_le _ _ | exact bitN_le _ _) (by decide) ?_
  refine R_top t0 ?_
  first | with_reducible refine R_icmp_ge_n a_X11_fewest_139 (by first | omega | exact Nat.lt_of_le_of_lt (inR_le _ _) (by decide) | exact Nat.lt_of_le_of_lt (bitN_le _ _) (by decide) | exact Nat.lt_of_le_of_lt (inI_le _ _ _) (by decide) | exact inI_le _ _ _ | exact inR_le _ _ | exact bitN_le _ _) (by first | omega | exact Nat.lt_of_le_of_lt (inR_le _ _) (by decide) | exact Nat.lt_of_le_of_lt (bitN_le _ _) (by decide) | exact Nat.lt_of_le_of_lt (inI_le _ _ _) (by decide) | exact inI_le _ _ _ | exact inR_le _ _ | exact bitN_le _ _) (fun h139 => ?_) (fun h139 => ?_) | refine R_icmp_ge a_X11_fewest_139 (fun h139 => ?_) (fun h139 => ?_)
  · skip
    have hie : i = T.g := by omega
    subst hie
    exact hx σ _ _ _ hBh hfr
  · skip
    refine R_iconst (v := nI 0) a_X11_fewest_142 rfl ?_
    refine R_istore (ls' := [_, _, _, _, _, _, _, _]) a_X11_fewest_143 rfl rfl rfl ?_
    refine lp_few6 hM0 hMT0 ok hSm0 hcs hf_ (show i < T.g by omega) hcf (nb := mMid T cost f nb i) (fun σ x7 hBh hfr => ?_) _ 0 σ _ rfl (Nat.zero_le _) hBh hfr
    have hM := (hfr 272 (by omega)).trans hM0
    first | with_reducible refine R_iinc_n (ls' := [_, _, _, _, _, _, _, _]) a_X11_fewest_275 rfl rfl rfl rfl ?_ | refine R_iinc (ls' := [_, _, _, _, _, _, _, _]) a_X11_fewest_275 rfl rfl rfl rfl rfl ?_
    refine R_goto a_X11_fewest_278 ?_
    exact ih _ (show T.g - (i + 1) < m by omega) (i + 1) σ _ _ rfl (by omega) hBh hfr

set_option maxRecDepth 20000 in
theorem lp_few4 {σ0 : AHp} {tl u kn ns : Nat} {at_ : Int32} {ft : Nat → Int32} {T : Tb} (hM0 : σ0 272 = some (mdO tl u kn ns at_)) (hMT0 : MT σ0 ft T) (ok : TbOk T) {cost : Nat → Nat} (hSm0 : σ0 281 = some (iA 0 8 (enF cost))) (hcs : ∀ j, cost j < 1000 → cost j ≤ 48) {k n rd : Nat} {nb : Nat → Nat} {Q : Option Value → AHp → Prop} (hx : ∀ (σ : AHp) (x5 x6 x7 : Option Value), σ 282 = some (iA 0 8 (enF (mOut T cost nb T.g))) → (∀ j, j ≠ 282 → σ j = σ0 j) → Run M_X11_fewest 287 [some (.ref 272), some (.int (nI k)), some (.int (nI n)), some (.int (nI rd)), some (.int (nI T.g)), x5, x6, x7] [] σ 0 0 Q) : ∀ (m f : Nat) (σ : AHp) (x5 x6 x7 : Option Value), T.g - f = m → f ≤ T.g → σ 282 = some (iA 0 8 (enF (mOut T cost nb f))) → (∀ j, j ≠ 282 → σ j = σ0 j) → Run M_X11_fewest 89 [some (.ref 272), some (.int (nI k)), some (.int (nI n)), some (.int (nI rd)), some (.int (nI f)), x5, x6, x7] [] σ 0 0 Q := by
  obtain ⟨hTo, t0, t1, t2, t3, t28, tkd, thn, tkn, thf⟩ := id hMT0
  obtain ⟨g3, g8, n1, n6, lw, stg, son, kd4, hn10, kn63, hf4⟩ := id ok
  have hn64 : 2 ^ T.n ≤ 2 ^ 6 := Nat.pow_le_pow_right (by decide) n6
  intro m
  induction m using Nat.strongRecOn
  rename_i m ih
  intro f σ x5 x6 x7 hm hk hBh hfr
  have hM := (hfr 272 (by omega)).trans hM0
  have hTo := (hfr 274 (by omega)).trans hMT0.1
  have hMT : MT σ ft T := ⟨hTo, t0, t1, t2, t3, t28, tkd, thn, tkn, thf⟩
  have hSm := (hfr 281 (by omega)).trans hSm0
  refine R_iload a_X11_fewest_89 rfl ?_
  refine R_aload_n a_X11_fewest_91 rfl ?_
  refine R_get a_X11_fewest_92 hM rfl ?_
  refine R_iconst (v := nI 0) a_X11_fewest_95 rfl ?_
  refine R_iald_n a_X11_fewest_96 hTo (by first | omega | exact Nat.lt_of_le_of_lt (inR_le _ _) (by decide) | exact Nat.lt_of_le_of_lt (bitN_le _ _) (by decide) | exact Nat.lt_of_le_of_lt (inI_le _ _ _) (by decide) | exact inI_le _ _ _ | exact inR_le _ _ | exact bitN_le _ _) (by decide) ?_
  refine R_top t0 ?_
  first | with_reducible refine R_icmp_ge_n a_X11_fewest_97 (by first | omega | exact Nat.lt_of_le_of_lt (inR_le _ _) (by decide) | exact Nat.lt_of_le_of_lt (bitN_le _ _) (by decide) | exact Nat.lt_of_le_of_lt (inI_le _ _ _) (by decide) | exact inI_le _ _ _ | exact inR_le _ _ | exact bitN_le _ _) (by first | omega | exact Nat.lt_of_le_of_lt (inR_le _ _) (by decide) | exact Nat.lt_of_le_of_lt (bitN_le _ _) (by decide) | exact Nat.lt_of_le_of_lt (inI_le _ _ _) (by decide) | exact inI_le _ _ _ | exact inR_le _ _ | exact bitN_le _ _) (fun h97 => ?_) (fun h97 => ?_) | refine R_icmp_ge a_X11_fewest_97 (fun h97 => ?_) (fun h97 => ?_)
  · skip
    have hie : f = T.g := by omega
    subst hie
    exact hx σ _ _ _ hBh hfr
  · skip
    have hhu : huB T f 0 < T.g := hushF_lt (by omega) (by omega)
    refine R_aload_n a_X11_fewest_100 rfl ?_
    refine R_get a_X11_fewest_101 hM rfl ?_
    refine R_iload a_X11_fewest_104 rfl ?_
    refine R_iald_n a_X11_fewest_106 hSm (by first | omega | exact Nat.lt_of_le_of_lt (inR_le _ _) (by decide) | exact Nat.lt_of_le_of_lt (bitN_le _ _) (by decide) | exact Nat.lt_of_le_of_lt (inI_le _ _ _) (by decide) | exact inI_le _ _ _ | exact inR_le _ _ | exact bitN_le _ _) (by decide) ?_
    refine R_if_lt a_X11_fewest_107 (fun h107 => ?_) (fun h107 => ?_)
    · skip
      have hcf : ¬ cost f < 1000 := by
        intro q
        have e : enF cost f = nI (cost f) := enI_lt q
        rw [e] at h107
        exact nI_pos (by omega) h107
      first | with_reducible refine R_iinc_n (ls' := [_, _, _, _, _, _, _, _]) a_X11_fewest_281 rfl rfl rfl rfl ?_ | refine R_iinc (ls' := [_, _, _, _, _, _, _, _]) a_X11_fewest_281 rfl rfl rfl rfl rfl ?_
      refine R_goto a_X11_fewest_284 ?_
      have e : mOut T cost nb (f + 1) = mOut T cost nb f := by simp only [mOut]; rw [if_neg hcf]
      exact ih _ (show T.g - (f + 1) < m by omega) (f + 1) σ _ _ _ rfl (by omega) (by rw [e]; exact hBh) hfr
    · skip
      have hcf : cost f < 1000 := by
        by_cases q : cost f < 1000
        · exact q
        · have e : enF cost f = -1 := enI_ge q
          rw [e] at h107
          exact absurd (by decide) h107
      have hcf2 : enF cost f = nI (cost f) := enI_lt hcf
      refine R_aload_n a_X11_fewest_110 rfl ?_
      refine R_aload_n a_X11_fewest_111 rfl ?_
      refine R_iload a_X11_fewest_112 rfl ?_
      refine R_iconst (v := nI 0) a_X11_fewest_114 rfl ?_
      refine R_callVp a_X11_fewest_115 hM (md_hushed hM hMT ok (show f < T.g by omega) (show 0 < 256 by decide)) rfl rfl rfl rfl rfl ?_
      refine R_aload_n a_X11_fewest_118 rfl ?_
      refine R_get a_X11_fewest_119 hM rfl ?_
      refine R_iload a_X11_fewest_122 rfl ?_
      refine R_iald_n a_X11_fewest_124 hSm (by first | omega | exact Nat.lt_of_le_of_lt (inR_le _ _) (by decide) | exact Nat.lt_of_le_of_lt (bitN_le _ _) (by decide) | exact Nat.lt_of_le_of_lt (inI_le _ _ _) (by decide) | exact inI_le _ _ _ | exact inR_le _ _ | exact bitN_le _ _) (by decide) ?_
      refine R_top hcf2 ?_
      refine R_callVv a_X11_fewest_125 hM (md_leads hM hBh (show huB T f 0 < 8 by omega) (show cost f < 1000 by omega)) rfl rfl rfl rfl rfl (fun σ hP => ?_)
      obtain ⟨hBh, hf⟩ := hP
      have hfr : ∀ j, j ≠ 282 → σ j = σ0 j := fun j hj => (hf j hj).trans (hfr j hj)
      have hM := (hfr 272 (by omega)).trans hM0
      have hTo := (hfr 274 (by omega)).trans hMT0.1
      have hMT : MT σ ft T := ⟨hTo, t0, t1, t2, t3, t28, tkd, thn, tkn, thf⟩
      have hSm := (hfr 281 (by omega)).trans hSm0
      refine R_iconst (v := nI 0) a_X11_fewest_128 rfl ?_
      refine R_istore (ls' := [_, _, _, _, _, _, _, _]) a_X11_fewest_129 rfl rfl rfl ?_
      refine lp_few5 hM0 hMT0 ok hSm0 hcs (show f < T.g by omega) hcf (nb := lead (mOut T cost nb f) (huB T f 0) (cost f)) (fun σ x5 x6 x7 hBh hfr => ?_) _ 0 σ _ _ rfl (Nat.zero_le _) hBh hfr
      have hM := (hfr 272 (by omega)).trans hM0
      first | with_reducible refine R_iinc_n (ls' := [_, _, _, _, _, _, _, _]) a_X11_fewest_281 rfl rfl rfl rfl ?_ | refine R_iinc (ls' := [_, _, _, _, _, _, _, _]) a_X11_fewest_281 rfl rfl rfl rfl rfl ?_
      refine R_goto a_X11_fewest_284 ?_
      have e : mOut T cost nb (f + 1) = mMid T cost f (lead (mOut T cost nb f) (huB T f 0) (cost f)) T.g := by simp only [mOut]; rw [if_pos hcf]
      exact ih _ (show T.g - (f + 1) < m by omega) (f + 1) σ _ _ _ rfl (by omega) (by rw [e]; exact hBh) hfr

set_option maxRecDepth 20000 in
theorem lp_few3 {σ0 : AHp} {tl u kn ns : Nat} {at_ : Int32} (hM0 : σ0 272 = some (mdO tl u kn ns at_)) {f0 : Nat → Int32} {k n rd : Nat} {x5 x6 x7 : Option Value} {Q : Option Value → AHp → Prop} (hx : ∀ σ : AHp, σ 282 = some (iA 0 8 (enF (fun _ => 1000))) → (∀ j, j ≠ 282 → σ j = σ0 j) → Run M_X11_fewest 86 [some (.ref 272), some (.int (nI k)), some (.int (nI n)), some (.int (nI rd)), some (.int (nI 8)), x5, x6, x7] [] σ 0 0 Q) : ∀ (m q : Nat) (σ : AHp), 8 - q = m → q ≤ 8 → σ 282 = some (iA 0 8 (sh0 f0 (enF (fun _ => 1000)) q)) → (∀ j, j ≠ 282 → σ j = σ0 j) → Run M_X11_fewest 65 [some (.ref 272), some (.int (nI k)), some (.int (nI n)), some (.int (nI rd)), some (.int (nI q)), x5, x6, x7] [] σ 0 0 Q := by
  intro m
  induction m using Nat.strongRecOn
  rename_i m ih
  intro q σ hm hk hBh hfr
  have hM := (hfr 272 (by omega)).trans hM0
  refine R_iload a_X11_fewest_65 rfl ?_
  refine R_bipush (v := nI 8) a_X11_fewest_67 rfl ?_
  first | with_reducible refine R_icmp_ge_n a_X11_fewest_69 (by first | omega | exact Nat.lt_of_le_of_lt (inR_le _ _) (by decide) | exact Nat.lt_of_le_of_lt (bitN_le _ _) (by decide) | exact Nat.lt_of_le_of_lt (inI_le _ _ _) (by decide) | exact inI_le _ _ _ | exact inR_le _ _ | exact bitN_le _ _) (by first | omega | exact Nat.lt_of_le_of_lt (inR_le _ _) (by decide) | exact Nat.lt_of_le_of_lt (bitN_le _ _) (by decide) | exact Nat.lt_of_le_of_lt (inI_le _ _ _) (by decide) | exact inI_le _ _ _ | exact inR_le _ _ | exact bitN_le _ _) (fun h69 => ?_) (fun h69 => ?_) | refine R_icmp_ge a_X11_fewest_69 (fun h69 => ?_) (fun h69 => ?_)
  · skip
    have hke : q = 8 := by omega
    subst hke
    refine R_ext (enF (fun _ => 1000)) (by decide) hBh (fun j hj => sh0_in _ _ hj) (fun σ2 hBh ho => ?_)
    exact hx σ2 hBh (fun j hj => (ho j hj).trans (hfr j hj))
  · skip
    refine R_aload_n a_X11_fewest_72 rfl ?_
    refine R_get a_X11_fewest_73 hM rfl ?_
    refine R_iload a_X11_fewest_76 rfl ?_
    refine R_iconst (v := (-1)) a_X11_fewest_78 rfl ?_
    refine R_iastK a_X11_fewest_79 (by omega) hBh (by first | omega | exact Nat.lt_of_le_of_lt (inR_le _ _) (by decide) | exact Nat.lt_of_le_of_lt (bitN_le _ _) (by decide) | exact Nat.lt_of_le_of_lt (inI_le _ _ _) (by decide) | exact inI_le _ _ _ | exact inR_le _ _ | exact bitN_le _ _) (by decide) (fun σ hBh ho => ?_)
    have hM := (ho _ (by omega)).trans hM
    have hfr : ∀ j, j ≠ 282 → σ j = σ0 j := fun j hj => (ho j (by omega)).trans (hfr j hj)
    have he : upd (sh0 f0 (enF (fun _ => 1000)) q) q (-1) = sh0 f0 (enF (fun _ => 1000)) (q + 1) := sh0_up _ _ _
    rw [he] at hBh
    first | with_reducible refine R_iinc_n (ls' := [_, _, _, _, _, _, _, _]) a_X11_fewest_80 rfl rfl rfl rfl ?_ | refine R_iinc (ls' := [_, _, _, _, _, _, _, _]) a_X11_fewest_80 rfl rfl rfl rfl rfl ?_
    refine R_goto a_X11_fewest_83 ?_
    exact ih _ (show 8 - (q + 1) < m by omega) (q + 1) σ rfl (by omega) hBh hfr

set_option maxRecDepth 20000 in
theorem lp_few7 {σ0 : AHp} {tl u kn ns : Nat} {at_ : Int32} (hM0 : σ0 272 = some (mdO tl u kn ns at_)) {f0 g : Nat → Int32} (hBh0 : σ0 282 = some (iA 0 8 g)) {k n rd : Nat} {x5 x6 x7 : Option Value} {Q : Option Value → AHp → Prop} (hx : ∀ σ : AHp, σ 281 = some (iA 0 8 g) → (∀ j, j ≠ 281 → σ j = σ0 j) → Run M_X11_fewest 317 [some (.ref 272), some (.int (nI k)), some (.int (nI n)), some (.int (nI rd)), some (.int (nI 8)), x5, x6, x7] [] σ 0 0 Q) : ∀ (m q : Nat) (σ : AHp), 8 - q = m → q ≤ 8 → σ 281 = some (iA 0 8 (sh0 f0 g q)) → (∀ j, j ≠ 281 → σ j = σ0 j) → Run M_X11_fewest 290 [some (.ref 272), some (.int (nI k)), some (.int (nI n)), some (.int (nI rd)), some (.int (nI q)), x5, x6, x7] [] σ 0 0 Q := by
  intro m
  induction m using Nat.strongRecOn
  rename_i m ih
  intro q σ hm hk hSm hfr
  have hM := (hfr 272 (by omega)).trans hM0
  have hBh := (hfr 282 (by omega)).trans hBh0
  refine R_iload a_X11_fewest_290 rfl ?_
  refine R_bipush (v := nI 8) a_X11_fewest_292 rfl ?_
  first | with_reducible refine R_icmp_ge_n a_X11_fewest_294 (by first | omega | exact Nat.lt_of_le_of_lt (inR_le _ _) (by decide) | exact Nat.lt_of_le_of_lt (bitN_le _ _) (by decide) | exact Nat.lt_of_le_of_lt (inI_le _ _ _) (by decide) | exact inI_le _ _ _ | exact inR_le _ _ | exact bitN_le _ _) (by first | omega | exact Nat.lt_of_le_of_lt (inR_le _ _) (by decide) | exact Nat.lt_of_le_of_lt (bitN_le _ _) (by decide) | exact Nat.lt_of_le_of_lt (inI_le _ _ _) (by decide) | exact inI_le _ _ _ | exact inR_le _ _ | exact bitN_le _ _) (fun h294 => ?_) (fun h294 => ?_) | refine R_icmp_ge a_X11_fewest_294 (fun h294 => ?_) (fun h294 => ?_)
  · skip
    have hke : q = 8 := by omega
    subst hke
    refine R_ext g (by decide) hSm (fun j hj => sh0_in _ _ hj) (fun σ2 hSm ho => ?_)
    exact hx σ2 hSm (fun j hj => (ho j hj).trans (hfr j hj))
  · skip
    refine R_aload_n a_X11_fewest_297 rfl ?_
    refine R_get a_X11_fewest_298 hM rfl ?_
    refine R_iload a_X11_fewest_301 rfl ?_
    refine R_aload_n a_X11_fewest_303 rfl ?_
    refine R_get a_X11_fewest_304 hM rfl ?_
    refine R_iload a_X11_fewest_307 rfl ?_
    refine R_iald_n a_X11_fewest_309 hBh (by first | omega | exact Nat.lt_of_le_of_lt (inR_le _ _) (by decide) | exact Nat.lt_of_le_of_lt (bitN_le _ _) (by decide) | exact Nat.lt_of_le_of_lt (inI_le _ _ _) (by decide) | exact inI_le _ _ _ | exact inR_le _ _ | exact bitN_le _ _) (by decide) ?_
    refine R_iastK a_X11_fewest_310 (by omega) hSm (by first | omega | exact Nat.lt_of_le_of_lt (inR_le _ _) (by decide) | exact Nat.lt_of_le_of_lt (bitN_le _ _) (by decide) | exact Nat.lt_of_le_of_lt (inI_le _ _ _) (by decide) | exact inI_le _ _ _ | exact inR_le _ _ | exact bitN_le _ _) (by decide) (fun σ hSm ho => ?_)
    have hM := (ho _ (by omega)).trans hM
    have hBh := (ho _ (by omega)).trans hBh
    have hfr : ∀ j, j ≠ 281 → σ j = σ0 j := fun j hj => (ho j (by omega)).trans (hfr j hj)
    have he : upd (sh0 f0 g q) q (g q) = sh0 f0 g (q + 1) := sh0_up _ _ _
    rw [he] at hSm
    first | with_reducible refine R_iinc_n (ls' := [_, _, _, _, _, _, _, _]) a_X11_fewest_311 rfl rfl rfl rfl ?_ | refine R_iinc (ls' := [_, _, _, _, _, _, _, _]) a_X11_fewest_311 rfl rfl rfl rfl rfl ?_
    refine R_goto a_X11_fewest_314 ?_
    exact ih _ (show 8 - (q + 1) < m by omega) (q + 1) σ rfl (by omega) hSm hfr

set_option maxRecDepth 20000 in
theorem lp_few2 {σ0 : AHp} {tl u kn ns : Nat} {at_ : Int32} {ft : Nat → Int32} {T : Tb} (hM0 : σ0 272 = some (mdO tl u kn ns at_)) (hMT0 : MT σ0 ft T) (ok : TbOk T) {s k n : Nat} (hk8 : k < 8) (hn : n < 7) : ∀ (m rd : Nat) (σ : AHp) (x4 x5 x6 x7 : Option Value), n - rd = m → rd ≤ n → σ 281 = some (iA 0 8 (enF (fwF T s rd))) → (∃ fb, σ 282 = some (iA 0 8 fb)) → (∀ j, j ≠ 281 ∧ j ≠ 282 → σ j = σ0 j) → Run M_X11_fewest 57 [some (.ref 272), some (.int (nI k)), some (.int (nI n)), some (.int (nI rd)), x4, x5, x6, x7] [] σ 0 0 (fun r σ => r = some (.int (if fwF T s n k < 1000 then nI (fwF T s n k) else -4)) ∧ (∃ fs fb, σ 281 = some (iA 0 8 fs) ∧ σ 282 = some (iA 0 8 fb)) ∧ ∀ j, j ≠ 281 ∧ j ≠ 282 → σ j = σ0 j) := by
  obtain ⟨hTo, t0, t1, t2, t3, t28, tkd, thn, tkn, thf⟩ := id hMT0
  obtain ⟨g3, g8, n1, n6, lw, stg, son, kd4, hn10, kn63, hf4⟩ := id ok
  have hn64 : 2 ^ T.n ≤ 2 ^ 6 := Nat.pow_le_pow_right (by decide) n6
  intro m
  induction m using Nat.strongRecOn
  rename_i m ih
  intro rd σ x4 x5 x6 x7 hm hk hSm hBx hfr
  have hM := (hfr 272 (by omega)).trans hM0
  have hTo := (hfr 274 (by omega)).trans hTo
  have hMT : MT σ ft T := ⟨hTo, t0, t1, t2, t3, t28, tkd, thn, tkn, thf⟩
  obtain ⟨fb, hBh⟩ := id hBx
  have hcs : ∀ j, fwF T s rd j < 1000 → fwF T s rd j ≤ 48 := fun j hj => by have := fwF_small ok s rd j hj; omega
  refine R_iload_n a_X11_fewest_57 rfl ?_
  refine R_iload_n a_X11_fewest_58 rfl ?_
  first | with_reducible refine R_icmp_ge_n a_X11_fewest_59 (by first | omega | exact Nat.lt_of_le_of_lt (inR_le _ _) (by decide) | exact Nat.lt_of_le_of_lt (bitN_le _ _) (by decide) | exact Nat.lt_of_le_of_lt (inI_le _ _ _) (by decide) | exact inI_le _ _ _ | exact inR_le _ _ | exact bitN_le _ _) (by first | omega | exact Nat.lt_of_le_of_lt (inR_le _ _) (by decide) | exact Nat.lt_of_le_of_lt (bitN_le _ _) (by decide) | exact Nat.lt_of_le_of_lt (inI_le _ _ _) (by decide) | exact inI_le _ _ _ | exact inR_le _ _ | exact bitN_le _ _) (fun h59 => ?_) (fun h59 => ?_) | refine R_icmp_ge a_X11_fewest_59 (fun h59 => ?_) (fun h59 => ?_)
  · skip
    have hre : rd = n := by omega
    subst hre
    refine R_aload_n a_X11_fewest_323 rfl ?_
    refine R_get a_X11_fewest_324 hM rfl ?_
    refine R_iload_n a_X11_fewest_327 rfl ?_
    refine R_iald_n a_X11_fewest_328 hSm (by first | omega | exact Nat.lt_of_le_of_lt (inR_le _ _) (by decide) | exact Nat.lt_of_le_of_lt (bitN_le _ _) (by decide) | exact Nat.lt_of_le_of_lt (inI_le _ _ _) (by decide) | exact inI_le _ _ _ | exact inR_le _ _ | exact bitN_le _ _) (by decide) ?_
    refine R_if_ge a_X11_fewest_329 (fun h329 => ?_) (fun h329 => ?_)
    · skip
      have hlt : fwF T s rd k < 1000 := by
        by_cases q : fwF T s rd k < 1000
        · exact q
        · have e : enF (fwF T s rd) k = -1 := enI_ge q
          rw [e] at h329
          exact absurd h329 (by decide)
      have hv : enF (fwF T s rd) k = nI (fwF T s rd k) := enI_lt hlt
      refine R_aload_n a_X11_fewest_337 rfl ?_
      refine R_get a_X11_fewest_338 hM rfl ?_
      refine R_iload_n a_X11_fewest_341 rfl ?_
      refine R_iald_n a_X11_fewest_342 hSm (by first | omega | exact Nat.lt_of_le_of_lt (inR_le _ _) (by decide) | exact Nat.lt_of_le_of_lt (bitN_le _ _) (by decide) | exact Nat.lt_of_le_of_lt (inI_le _ _ _) (by decide) | exact inI_le _ _ _ | exact inR_le _ _ | exact bitN_le _ _) (by decide) ?_
      refine R_iret a_X11_fewest_343 rfl ?_
      first | exact ⟨by rw [if_pos hlt, hv], ⟨_, _, hSm, hBh⟩, hfr⟩ | exact ⟨by rw [if_neg hlt], ⟨_, _, hSm, hBh⟩, hfr⟩
    · skip
      have hlt : ¬ fwF T s rd k < 1000 := by
        intro q
        have e : enF (fwF T s rd) k = nI (fwF T s rd k) := enI_lt q
        rw [e] at h329
        exact h329 (nI_pos' (by omega))
      refine R_bipush (v := (-4)) a_X11_fewest_332 rfl ?_
      refine R_goto a_X11_fewest_334 ?_
      refine R_iret a_X11_fewest_343 rfl ?_
      first | exact ⟨by rw [if_pos hlt, hv], ⟨_, _, hSm, hBh⟩, hfr⟩ | exact ⟨by rw [if_neg hlt], ⟨_, _, hSm, hBh⟩, hfr⟩
  · skip
    refine R_iconst (v := nI 0) a_X11_fewest_62 rfl ?_
    refine R_istore (ls' := [_, _, _, _, _, _, _, _]) a_X11_fewest_63 rfl rfl rfl ?_
    have hz0 := sh0_z fb (enF (fun _ => 1000))
    rw [← hz0] at hBh
    refine lp_few3 hM (fun σ1 hBh hf1 => ?_) _ 0 σ rfl (Nat.zero_le _) hBh (fun _ _ => rfl)
    have hM := (hf1 272 (by omega)).trans hM
    have hTo := (hf1 274 (by omega)).trans hTo
    have hSm := (hf1 281 (by omega)).trans hSm
    have hfr : ∀ j, j ≠ 281 ∧ j ≠ 282 → σ1 j = σ0 j := fun j hj => (hf1 j hj.2).trans (hfr j hj)
    have hMT : MT σ1 ft T := ⟨hTo, t0, t1, t2, t3, t28, tkd, thn, tkn, thf⟩
    refine R_iconst (v := nI 0) a_X11_fewest_86 rfl ?_
    refine R_istore (ls' := [_, _, _, _, _, _, _, _]) a_X11_fewest_87 rfl rfl rfl ?_
    refine lp_few4 hM hMT ok hSm hcs (nb := fun _ => 1000) (fun σ2 x5 x6 x7 hBh hf2 => ?_) _ 0 σ1 _ _ _ rfl (Nat.zero_le _) hBh (fun _ _ => rfl)
    rw [mOut_gr ok] at hBh
    have hM := (hf2 272 (by omega)).trans hM
    have hSm := (hf2 281 (by omega)).trans hSm
    have hfr : ∀ j, j ≠ 281 ∧ j ≠ 282 → σ2 j = σ0 j := fun j hj => (hf2 j hj.2).trans (hfr j hj)
    refine R_iconst (v := nI 0) a_X11_fewest_287 rfl ?_
    refine R_istore (ls' := [_, _, _, _, _, _, _, _]) a_X11_fewest_288 rfl rfl rfl ?_
    have hz1 := sh0_z (enF (fwF T s rd)) (enF (grF T (fwF T s rd) (fun _ => 1000)))
    rw [← hz1] at hSm
    refine lp_few7 hM hBh (fun σ hSm hf3 => ?_) _ 0 σ2 rfl (Nat.zero_le _) hSm (fun _ _ => rfl)
    have hM := (hf3 272 (by omega)).trans hM
    have hBh := (hf3 282 (by omega)).trans hBh
    have hfr : ∀ j, j ≠ 281 ∧ j ≠ 282 → σ j = σ0 j := fun j hj => (hf3 j hj.1).trans (hfr j hj)
    first | with_reducible refine R_iinc_n (ls' := [_, _, _, _, _, _, _, _]) a_X11_fewest_317 rfl rfl rfl rfl ?_ | refine R_iinc (ls' := [_, _, _, _, _, _, _, _]) a_X11_fewest_317 rfl rfl rfl rfl rfl ?_
    refine R_goto a_X11_fewest_320 ?_
    exact ih _ (show n - (rd + 1) < m by omega) (rd + 1) σ _ _ _ _ rfl (by omega) hSm ⟨_, hBh⟩ hfr

set_option maxRecDepth 20000 in
theorem lp_few1 {σ0 : AHp} {tl u kn ns : Nat} {at_ : Int32} {ft : Nat → Int32} {T : Tb} (hM0 : σ0 272 = some (mdO tl u kn ns at_)) (hMT0 : MT σ0 ft T) (ok : TbOk T) {h : Hs} (hSr0 : σ0 276 = some (iA 0 43 (nF (sF T h)))) {k n : Nat} (hk8 : k < 8) (hn : n < 7) {f0 fb : Nat → Int32} (hBh0 : σ0 282 = some (iA 0 8 fb)) : ∀ (m q : Nat) (σ : AHp), 8 - q = m → q ≤ 8 → σ 281 = some (iA 0 8 (sh0 f0 (enF (fwF T (saltF T h) 0)) q)) → (∀ j, j ≠ 281 → σ j = σ0 j) → Run M_X11_fewest 22 [some (.ref 272), some (.int (nI k)), some (.int (nI n)), some (.int (nI q)), none, none, none, none] [] σ 0 0 (fun r σ => r = some (.int (if fwF T (saltF T h) n k < 1000 then nI (fwF T (saltF T h) n k) else -4)) ∧ (∃ fs fb, σ 281 = some (iA 0 8 fs) ∧ σ 282 = some (iA 0 8 fb)) ∧ ∀ j, j ≠ 281 ∧ j ≠ 282 → σ j = σ0 j) := by
  obtain ⟨hTo, t0, t1, t2, t3, t28, tkd, thn, tkn, thf⟩ := id hMT0
  obtain ⟨g3, g8, n1, n6, lw, stg, son, kd4, hn10, kn63, hf4⟩ := id ok
  have hn64 : 2 ^ T.n ≤ 2 ^ 6 := Nat.pow_le_pow_right (by decide) n6
  have hsg := saltF_lt ok h
  intro m
  induction m using Nat.strongRecOn
  rename_i m ih
  intro q σ hm hk hSm hfr
  have hM := (hfr 272 (by omega)).trans hM0
  have hSr := (hfr 276 (by omega)).trans hSr0
  refine R_iload_n a_X11_fewest_22 rfl ?_
  refine R_bipush (v := nI 8) a_X11_fewest_23 rfl ?_
  first | with_reducible refine R_icmp_ge_n a_X11_fewest_25 (by first | omega | exact Nat.lt_of_le_of_lt (inR_le _ _) (by decide) | exact Nat.lt_of_le_of_lt (bitN_le _ _) (by decide) | exact Nat.lt_of_le_of_lt (inI_le _ _ _) (by decide) | exact inI_le _ _ _ | exact inR_le _ _ | exact bitN_le _ _) (by first | omega | exact Nat.lt_of_le_of_lt (inR_le _ _) (by decide) | exact Nat.lt_of_le_of_lt (bitN_le _ _) (by decide) | exact Nat.lt_of_le_of_lt (inI_le _ _ _) (by decide) | exact inI_le _ _ _ | exact inR_le _ _ | exact bitN_le _ _) (fun h25 => ?_) (fun h25 => ?_) | refine R_icmp_ge a_X11_fewest_25 (fun h25 => ?_) (fun h25 => ?_)
  · skip
    have hke : q = 8 := by omega
    subst hke
    refine R_iconst (v := nI 0) a_X11_fewest_55 rfl ?_
    refine R_istore_n (ls' := [_, _, _, _, _, _, _, _]) a_X11_fewest_56 rfl rfl rfl ?_
    refine R_ext (enF (fwF T (saltF T h) 0)) (by decide) hSm (fun j hj => sh0_in _ _ hj) (fun σ2 hSm ho => ?_)
    have hfr2 : ∀ j, j ≠ 281 → σ2 j = σ0 j := fun j hj => (ho j hj).trans (hfr j hj)
    exact lp_few2 hM0 hMT0 ok hk8 hn _ 0 σ2 _ _ _ _ rfl (Nat.zero_le _) hSm ⟨_, (hfr2 282 (by omega)).trans hBh0⟩ (fun j hj => hfr2 j hj.1)
  · skip
    refine R_aload_n a_X11_fewest_28 rfl ?_
    refine R_get a_X11_fewest_29 hM rfl ?_
    refine R_iload_n a_X11_fewest_32 rfl ?_
    refine R_iload_n a_X11_fewest_33 rfl ?_
    refine R_aload_n a_X11_fewest_34 rfl ?_
    refine R_get a_X11_fewest_35 hM rfl ?_
    refine R_iconst (v := nI 0) a_X11_fewest_38 rfl ?_
    refine R_iald_n a_X11_fewest_39 hSr (by first | omega | exact Nat.lt_of_le_of_lt (inR_le _ _) (by decide) | exact Nat.lt_of_le_of_lt (bitN_le _ _) (by decide) | exact Nat.lt_of_le_of_lt (inI_le _ _ _) (by decide) | exact inI_le _ _ _ | exact inR_le _ _ | exact bitN_le _ _) (by decide) ?_
    refine R_top (congrArg nI (sF_0 T h)) ?_
    first | with_reducible refine R_icmp_ne_n a_X11_fewest_40 (by first | omega | exact Nat.lt_of_le_of_lt (inR_le _ _) (by decide) | exact Nat.lt_of_le_of_lt (bitN_le _ _) (by decide) | exact Nat.lt_of_le_of_lt (inI_le _ _ _) (by decide) | exact inI_le _ _ _ | exact inR_le _ _ | exact bitN_le _ _) (by first | omega | exact Nat.lt_of_le_of_lt (inR_le _ _) (by decide) | exact Nat.lt_of_le_of_lt (bitN_le _ _) (by decide) | exact Nat.lt_of_le_of_lt (inI_le _ _ _) (by decide) | exact inI_le _ _ _ | exact inR_le _ _ | exact bitN_le _ _) (fun h40 => ?_) (fun h40 => ?_) | refine R_icmp_ne a_X11_fewest_40 (fun h40 => ?_) (fun h40 => ?_)
    · skip
      have hv : -1 = enF (fwF T (saltF T h) 0) q := by show -1 = enI (if q = saltF T h then 0 else 1000); rw [if_neg h40]; rfl
      refine R_iconst (v := (-1)) a_X11_fewest_47 rfl ?_
      refine R_iastK a_X11_fewest_48 (by omega) hSm (by first | omega | exact Nat.lt_of_le_of_lt (inR_le _ _) (by decide) | exact Nat.lt_of_le_of_lt (bitN_le _ _) (by decide) | exact Nat.lt_of_le_of_lt (inI_le _ _ _) (by decide) | exact inI_le _ _ _ | exact inR_le _ _ | exact bitN_le _ _) (by decide) (fun σ hSm ho => ?_)
      have hM := (ho _ (by omega)).trans hM
      have hSr := (ho _ (by omega)).trans hSr
      have hfr : ∀ j, j ≠ 281 → σ j = σ0 j := fun j hj => (ho j (by omega)).trans (hfr j hj)
      rw [hv, sh0_up] at hSm
      first | with_reducible refine R_iinc_n (ls' := [_, _, _, _, _, _, _, _]) a_X11_fewest_49 rfl rfl rfl rfl ?_ | refine R_iinc (ls' := [_, _, _, _, _, _, _, _]) a_X11_fewest_49 rfl rfl rfl rfl rfl ?_
      refine R_goto a_X11_fewest_52 ?_
      exact ih _ (show 8 - (q + 1) < m by omega) (q + 1) σ rfl (by omega) hSm hfr
    · skip
      have hv : nI 0 = enF (fwF T (saltF T h) 0) q := by show nI 0 = enI (if q = saltF T h then 0 else 1000); rw [if_pos h40]; rfl
      refine R_iconst (v := nI 0) a_X11_fewest_43 rfl ?_
      refine R_goto a_X11_fewest_44 ?_
      refine R_iastK a_X11_fewest_48 (by omega) hSm (by first | omega | exact Nat.lt_of_le_of_lt (inR_le _ _) (by decide) | exact Nat.lt_of_le_of_lt (bitN_le _ _) (by decide) | exact Nat.lt_of_le_of_lt (inI_le _ _ _) (by decide) | exact inI_le _ _ _ | exact inR_le _ _ | exact bitN_le _ _) (by decide) (fun σ hSm ho => ?_)
      have hM := (ho _ (by omega)).trans hM
      have hSr := (ho _ (by omega)).trans hSr
      have hfr : ∀ j, j ≠ 281 → σ j = σ0 j := fun j hj => (ho j (by omega)).trans (hfr j hj)
      rw [hv, sh0_up] at hSm
      first | with_reducible refine R_iinc_n (ls' := [_, _, _, _, _, _, _, _]) a_X11_fewest_49 rfl rfl rfl rfl ?_ | refine R_iinc (ls' := [_, _, _, _, _, _, _, _]) a_X11_fewest_49 rfl rfl rfl rfl rfl ?_
      refine R_goto a_X11_fewest_52 ?_
      exact ih _ (show 8 - (q + 1) < m by omega) (q + 1) σ rfl (by omega) hSm hfr

set_option maxRecDepth 20000 in
theorem md_fewest {σ0 : AHp} {U : Us} {m : Nat} (hC : MP σ0 U) (hU : UOk U m) (hm : m < 2 ^ 20) {x y : Int32} : EvW M_X11_fewest [.ref 272, .int x, .int y] σ0 (some (.int (zFewest U x y))) (fun σ => MP σ (U) ∧ Fr σ0 σ 272 12) := by
  obtain ⟨at_, fx, ft, fd, fp, fi, fy, fw, fs, fb, fh, hM, hMX, hMT, hDr, hSr, hMPa, hMIm, hMSy, hWy, hSm, hBh, hHd⟩ := id hC
  obtain ⟨hTx, hTxv⟩ := id hMX
  obtain ⟨hTo, t0, t1, t2, t3, t28, tkd, thn, tkn, thf⟩ := id hMT
  obtain ⟨hPa, hPav⟩ := id hMPa
  obtain ⟨hIm, hImv⟩ := id hMIm
  obtain ⟨hSy, hSyv⟩ := id hMSy
  have ok := hU.T
  obtain ⟨g3, g8, n1, n6, lw, stg, son, kd4, hn10, kn63, hf4⟩ := id ok
  have hn64 : 2 ^ U.T.n ≤ 2 ^ 6 := Nat.pow_le_pow_right (by decide) n6
  have hg256 : 2 ^ U.T.g ≤ 2 ^ 8 := Nat.pow_le_pow_right (by decide) g8
  have hlen := hU.len
  have hu8 := hU.u8
  have hul := hU.ul
  have hkn2 := hU.kn2
  have hsg := saltF_lt ok U.h
  have hfr : ∀ j, j < 272 ∨ 284 ≤ j → σ0 j = σ0 j := fun _ _ => rfl
  refine Ev.of (ls := [_, _, _, _, _, _, _, _]) 5 (by decide) rfl rfl ?_
  refine R_aload_n a_X11_fewest_0 rfl ?_
  refine R_iload_n a_X11_fewest_1 rfl ?_
  refine R_callVp a_X11_fewest_2 hM (md_isGuest hM hMT ok) rfl rfl rfl rfl rfl ?_
  first | with_reducible refine R_if_eq_n a_X11_fewest_5 (by first | omega | exact Nat.lt_of_le_of_lt (inR_le _ _) (by decide) | exact Nat.lt_of_le_of_lt (bitN_le _ _) (by decide) | exact Nat.lt_of_le_of_lt (inI_le _ _ _) (by decide) | exact inI_le _ _ _ | exact inR_le _ _ | exact bitN_le _ _) (fun h5 => ?_) (fun h5 => ?_) | refine R_if_eq a_X11_fewest_5 (fun h5 => ?_) (fun h5 => ?_)
  · skip
    have hz : zFewest U x y = -1 := by unfold zFewest; rw [gd_out h5]
    refine R_iconst (v := (-1)) a_X11_fewest_18 rfl ?_
    refine R_iret a_X11_fewest_19 rfl ?_
    exact ⟨by rw [hz], hC, Fr.rf _ _ _⟩
  · skip
    obtain ⟨k, hk, rfl⟩ := inR_nz (by omega) h5
    refine R_iload_n a_X11_fewest_8 rfl ?_
    refine R_iconst (v := nI 0) a_X11_fewest_9 rfl ?_
    refine R_bipush (v := nI 6) a_X11_fewest_10 rfl ?_
    refine R_callSp a_X11_fewest_12 md_in rfl rfl rfl rfl rfl ?_
    refine R_top (congrArg nI (inI_c y (n := 6) (by decide))) ?_
    first | with_reducible refine R_if_ne_n a_X11_fewest_15 (by first | omega | exact Nat.lt_of_le_of_lt (inR_le _ _) (by decide) | exact Nat.lt_of_le_of_lt (bitN_le _ _) (by decide) | exact Nat.lt_of_le_of_lt (inI_le _ _ _) (by decide) | exact inI_le _ _ _ | exact inR_le _ _ | exact bitN_le _ _) (fun h15 => ?_) (fun h15 => ?_) | refine R_if_ne a_X11_fewest_15 (fun h15 => ?_) (fun h15 => ?_)
    · skip
      obtain ⟨n, hn, rfl⟩ := inR_nz (by omega) h15
      have hz : zFewest U (nI k) (nI n) = if fwF U.T (saltF U.T U.h) n k < 1000 then nI (fwF U.T (saltF U.T U.h) n k) else -4 := by unfold zFewest; rw [gd_in hk (by omega), gd_in hn (by decide)]
      refine R_iconst (v := nI 0) a_X11_fewest_20 rfl ?_
      refine R_istore_n (ls' := [_, _, _, _, _, _, _, _]) a_X11_fewest_21 rfl rfl rfl ?_
      rw [hz]
      have hz0 := sh0_z fs (enF (fwF U.T (saltF U.T U.h) 0))
      rw [← hz0] at hSm
      refine Run.eqQ (lp_few1 hM hMT ok hSr (by omega) hn hBh _ 0 σ0 rfl (Nat.zero_le _) hSm (fun _ _ => rfl)) (fun r σ2 hq => ?_)
      obtain ⟨hr, ⟨fs2, fb2, hSm, hBh⟩, hf⟩ := hq
      have hM := (hf 272 (by omega)).trans hM
      have hTx := (hf 273 (by omega)).trans hTx
      have hTo := (hf 274 (by omega)).trans hTo
      have hDr := (hf 275 (by omega)).trans hDr
      have hSr := (hf 276 (by omega)).trans hSr
      have hPa := (hf 277 (by omega)).trans hPa
      have hIm := (hf 278 (by omega)).trans hIm
      have hSy := (hf 279 (by omega)).trans hSy
      have hWy := (hf 280 (by omega)).trans hWy
      have hHd := (hf 283 (by omega)).trans hHd
      exact ⟨hr, ⟨_, _, _, _, _, _, _, _, _, _, _, hM, ⟨hTx, hTxv⟩, ⟨hTo, t0, t1, t2, t3, t28, tkd, thn, tkn, thf⟩, hDr, hSr, ⟨hPa, hPav⟩, ⟨hIm, hImv⟩, ⟨hSy, hSyv⟩, hWy, hSm, hBh, hHd⟩, fun j hj => hf j (by omega)⟩
    · skip
      have hz : zFewest U (nI k) y = -1 := by unfold zFewest; rw [gd_in hk (by omega), gd_out h15]
      refine R_iconst (v := (-1)) a_X11_fewest_18 rfl ?_
      refine R_iret a_X11_fewest_19 rfl ?_
      exact ⟨by rw [hz], hC, Fr.rf _ _ _⟩

