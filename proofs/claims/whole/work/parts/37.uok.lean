/-! ===== what every call keeps of the state ===== -/
theorem UOk.mono {U : Us} {m m' : Nat} (h : UOk U m) (hm : m ≤ m') : UOk U m' := by
  obtain ⟨h1, h2, h3, h4, h5, h6, h7, h8, h9, h10, h11⟩ := h
  exact ⟨h1, h2, h3, h4, by omega, h6, h7, h8, fun k hk => ⟨(h9 k hk).1, by have := (h9 k hk).2; omega⟩, h10, h11⟩
theorem say_top {i t b : Nat} (hi : i < 8) (hb : b ≤ 1) : cTop (sayC i t b) = t := by unfold cTop sayC; omega
theorem say_who {i t b : Nat} (hi : i < 8) (hb : b ≤ 1) : cWho (sayC i t b) = i := by unfold cWho sayC; omega
theorem say_said {i t b : Nat} (hb : b ≤ 1) : cSaid (sayC i t b) = b := by unfold cSaid sayC; omega
theorem say_lt {i t b : Nat} (hi : i < 8) (ht : t < 6) (hb : b ≤ 1) : sayC i t b < 128 := by unfold sayC; omega
theorem CdOk.say {T : Tb} (ok : TbOk T) {i t b : Nat} (hi : i < T.g) (ht : t < T.n) (hb : b ≤ 1) : CdOk T (sayC i t b) := by
  have h8 := ok.2.1
  have h6 := ok.2.2.2.1
  refine Or.inr ⟨?_, ?_, say_lt (by omega) (by omega) hb⟩
  · rw [say_top (by omega) hb]; exact ht
  · rw [say_who (by omega) hb]; exact hi
theorem UOk.write {U : Us} {m : Nat} (h : UOk U m) (x : Int32) : UOk (zWrite U x).2 (m + 1) := by
  unfold zWrite
  split
  · exact h.mono (by omega)
  · rename_i hx
    split
    · rename_i hl
      have hx1 : ¬ x < nI 32 := fun q => hx (Or.inl q)
      have hx2 : ¬ nI 126 < x := fun q => hx (Or.inr q)
      obtain ⟨c, hc1, hc2, rfl⟩ := i32_nt (a := 32) (b := 126) (by decide) (by decide) hx1 hx2
      obtain ⟨h1, h2, h3⟩ := h.mono (show m ≤ m + 1 by omega)
      refine ⟨by show U.tl + 1 ≤ 200; omega, fun j hj => ?_, h3⟩
      have hj : j < U.tl + 1 := hj
      show 32 ≤ uN U.tf U.tl (iN (nI c)) j ∧ uN U.tf U.tl (iN (nI c)) j < 127
      rw [iN_nI (by omega)]
      unfold uN
      split
      · omega
      · exact h2 j (by omega)
    · exact h.mono (by omega)
theorem UOk.wipe {U : Us} {m : Nat} (h : UOk U m) : UOk (zWipe U).2 (m + 1) := by
  obtain ⟨h1, h2, h3⟩ := h.mono (show m ≤ m + 1 by omega)
  exact ⟨Nat.zero_le _, fun j hj => absurd hj (Nat.not_lt_zero j), h3⟩
theorem UOk.fault {U : Us} {m : Nat} (h : UOk U m) : UOk (zFault U).2 (m + 1) := h.mono (show m ≤ m + 1 by omega)
theorem UOk.lay {U : Us} {m : Nat} (h : UOk U m) : UOk (zLay U).2 (m + 1) := by
  unfold zLay
  split
  · rename_i hc
    have hTi : TbIn (rdU U).2 := rdA_in (tg U.tf U.tl) U.tl 200 0 (clr U.D) (TbIn.zero U.D)
    obtain ⟨i1, i2, i3, i4, i5, i6, i7, i8, i9⟩ := hTi
    have hcn := hc.2
    unfold canL at hcn
    obtain ⟨c1, c2, c3⟩ := of_decide_eq_true hcn
    obtain ⟨h1, h2, -⟩ := h
    refine ⟨h1, h2, ⟨c1, i1, c2, i2, i3, c3, i5, i6, i7, i8, i9⟩, fun c hc => ?_, Nat.zero_le _, Nat.zero_le _, Nat.zero_le _, Nat.zero_le _, fun k hk => absurd hk (Nat.not_lt_zero k), Nat.zero_le _, fun k hk => absurd hk (Nat.not_lt_zero k)⟩
    cases hc
  · exact h.mono (by omega)
theorem UOk.go {U : Us} {m a b : Nat} (h : UOk U m) (ha : CdOk U.T a) (hb : CdOk U.T b) : UOk (zGo U a b).2 (m + 1) := by
  obtain ⟨h1, h2, h3, h4, h5, h6, h7, h8⟩ := h.mono (show m ≤ m + 1 by omega)
  have hl := h.len
  refine ⟨h1, h2, h3, fun c hc => ?_, ?_, ?_, ?_, h8⟩
  · rcases List.mem_cons.mp hc with rfl | hc
    · exact ⟨ha, hb⟩
    · exact h4 c hc
  · show U.h.length + 1 ≤ m + 1
    omega
  · show min (U.u + 1) 8 ≤ 8
    omega
  · show min (U.u + 1) 8 ≤ U.h.length + 1
    omega
theorem gd_ind {α : Type} {P : α → Prop} {d : α} {x : Int32} {g : Nat} {k : Nat → α} (hg : g < 2 ^ 31) (hd : P d) (hk : ∀ i, i < g → P (k i)) : P (gd d x g k) := by
  rcases inR_split x hg with ⟨q, -⟩ | ⟨-, j, hj, rfl⟩
  · rw [gd_out q]; exact hd
  · rw [gd_in hj hg]; exact hk j hj
theorem UOk.say {U : Us} {m : Nat} (h : UOk U m) (x y : Int32) {b : Nat} (hb : b ≤ 1) : UOk (zSay U x y b).2 (m + 1) := by
  have g8 := h.T.2.1
  have n6 := h.T.2.2.2.1
  have hbad : UOk (bad U).2 (m + 1) := h.mono (by omega)
  exact gd_ind (P := fun r : Rz => UOk r.2 (m + 1)) (by omega) hbad (fun i hi => gd_ind (P := fun r : Rz => UOk r.2 (m + 1)) (by omega) hbad (fun t ht => h.go (CdOk.say h.T hi ht hb) (Or.inl rfl)))
theorem UOk.both {U : Us} {m : Nat} (h : UOk U m) (x y x' y' : Int32) {b b' : Nat} (hb : b ≤ 1) (hb' : b' ≤ 1) : UOk (zBoth U x y b x' y' b').2 (m + 1) := by
  have g8 := h.T.2.1
  have n6 := h.T.2.2.2.1
  have hbad : UOk (bad U).2 (m + 1) := h.mono (by omega)
  refine gd_ind (P := fun r : Rz => UOk r.2 (m + 1)) (by omega) hbad (fun i hi => gd_ind (P := fun r : Rz => UOk r.2 (m + 1)) (by omega) hbad (fun j hj => ?_))
  by_cases e : i = j
  · rw [if_pos e]; exact hbad
  · rw [if_neg e]
    exact gd_ind (P := fun r : Rz => UOk r.2 (m + 1)) (by omega) hbad (fun t ht => gd_ind (P := fun r : Rz => UOk r.2 (m + 1)) (by omega) hbad (fun s hs => h.go (CdOk.say h.T hi ht hb) (CdOk.say h.T hj hs hb')))
theorem UOk.undo {U : Us} {m : Nat} (h : UOk U m) : UOk (zUndo U).2 (m + 1) := by
  unfold zUndo
  split
  · exact h.mono (by omega)
  · rename_i hu
    obtain ⟨h1, h2, h3, h4, h5, h6, h7, h8⟩ := h.mono (show m ≤ m + 1 by omega)
    refine ⟨h1, h2, h3, fun c hc => h4 c (List.mem_of_mem_tail hc), ?_, ?_, ?_, h8⟩
    · show U.h.tail.length ≤ m + 1
      rw [List.length_tail]
      omega
    · show U.u - 1 ≤ 8
      omega
    · show U.u - 1 ≤ U.h.tail.length
      rw [List.length_tail]
      omega
theorem UOk.tell {U : Us} {m : Nat} (h : UOk U m) (x : Int32) {b : Nat} (hb : b ≤ 1) : UOk (zTell U x b).2 (m + 1) := by
  have g8 := h.T.2.1
  have hbad : UOk U (m + 1) := h.mono (by omega)
  refine gd_ind (P := fun r : Rz => UOk r.2 (m + 1)) (by omega) hbad (fun i hi => ?_)
  by_cases e : U.ns < 8
  · rw [if_pos e]
    obtain ⟨h1, h2, h3, h4, h5, h6, h7, h8, h9, h10, h11⟩ := hbad
    refine ⟨h1, h2, h3, h4, h5, h6, h7, h8, h9, by show U.ns + 1 ≤ 8; omega, fun k hk => ?_⟩
    have hk : k < U.ns + 1 := hk
    show uN U.sw U.ns i k < U.T.g ∧ uN U.ss U.ns b k ≤ 1
    unfold uN
    by_cases q : k = U.ns
    · rw [if_pos q, if_pos q]; exact ⟨hi, hb⟩
    · rw [if_neg q, if_neg q]; exact h11 k (by omega)
  · rw [if_neg e]; exact hbad
theorem UOk.forget {U : Us} {m : Nat} (h : UOk U m) : UOk (zForget U).2 (m + 1) := by
  obtain ⟨h1, h2, h3, h4, h5, h6, h7, h8, h9, h10, h11⟩ := h.mono (show m ≤ m + 1 by omega)
  exact ⟨h1, h2, h3, h4, h5, h6, h7, h8, h9, Nat.zero_le _, fun k hk => absurd hk (Nat.not_lt_zero k)⟩
theorem UOk.keep {U : Us} {m : Nat} (h : UOk U m) : UOk (zKeep U).2 (m + 1) := by
  unfold zKeep
  split
  · rename_i hk
    obtain ⟨h1, h2, h3, h4, h5, h6, h7, h8, h9, h10⟩ := h.mono (show m ≤ m + 1 by omega)
    refine ⟨h1, h2, h3, h4, h5, h6, h7, by show U.kn + 1 ≤ 2; omega, fun k hk2 => ?_, h10⟩
    have hk2 : k < U.kn + 1 := hk2
    show HsOk U.T (kpU U k) ∧ (kpU U k).length ≤ m + 1
    unfold kpU
    split
    · exact ⟨h4, h5⟩
    · exact h9 k (by omega)
  · exact h.mono (by omega)
theorem UOk.back {U : Us} {m : Nat} (h : UOk U m) : UOk (zBack U).2 (m + 1) := by
  unfold zBack
  split
  · exact h.mono (by omega)
  · rename_i hk
    obtain ⟨h1, h2, h3, h4, h5, h6, h7, h8, h9, h10⟩ := h.mono (show m ≤ m + 1 by omega)
    have hq := h9 (U.kn - 1) (by omega)
    exact ⟨h1, h2, h3, hq.1, hq.2, Nat.zero_le _, Nat.zero_le _, by show U.kn - 1 ≤ 2; omega, fun k hk2 => h9 k (by have hk2 : k < U.kn - 1 := hk2; omega), h10⟩
/-! ===== THE MODEL's picture ===== -/
/-- the row of numbers that holds an evening -/
def sF (T : Tb) (h : Hs) (j : Nat) : Nat :=
  if j = 0 then saltF T h else if j = 1 then h.length else if j = 2 then untF T h else if j = 3 then trlF T h else if j = 4 then min h.length 10 else if j < 13 then ldF T h (j - 5)
  else if (j - 13) / 3 < h.length then (if (j - 13) % 3 = 0 then saltF T (h.drop ((j - 13) / 3 + 1)) else if (j - 13) % 3 = 1 then saltF T (h.drop ((j - 13) / 3)) else (hAt h ((j - 13) / 3)).1 + 256 * (hAt h ((j - 13) / 3)).2) else 0
theorem sF_0 (T : Tb) (h : Hs) : sF T h 0 = saltF T h := rfl
theorem sF_1 (T : Tb) (h : Hs) : sF T h 1 = h.length := rfl
theorem sF_2 (T : Tb) (h : Hs) : sF T h 2 = untF T h := rfl
theorem sF_3 (T : Tb) (h : Hs) : sF T h 3 = trlF T h := rfl
theorem sF_4 (T : Tb) (h : Hs) : sF T h 4 = min h.length 10 := rfl
theorem sF_ld (T : Tb) (h : Hs) {i : Nat} (hi : i < 8) : sF T h (5 + i) = ldF T h i := by
  unfold sF
  rw [if_neg (by omega), if_neg (by omega), if_neg (by omega), if_neg (by omega), if_neg (by omega), if_pos (by omega), show 5 + i - 5 = i by omega]
theorem sF_w (T : Tb) (h : Hs) (k m : Nat) (hm : m < 3) : sF T h (13 + (3 * k + m)) = if k < h.length then (if m = 0 then saltF T (h.drop (k + 1)) else if m = 1 then saltF T (h.drop k) else (hAt h k).1 + 256 * (hAt h k).2) else 0 := by
  unfold sF
  rw [if_neg (by omega), if_neg (by omega), if_neg (by omega), if_neg (by omega), if_neg (by omega), if_neg (by omega), show (13 + (3 * k + m) - 13) / 3 = k by omega, show (13 + (3 * k + m) - 13) % 3 = m by omega]
theorem sF_w0 (T : Tb) (h : Hs) {k : Nat} (hk : k < h.length) : sF T h (13 + 3 * k) = saltF T (h.drop (k + 1)) := by
  have := sF_w T h k 0 (by decide)
  rw [if_pos hk, if_pos rfl] at this
  exact this
theorem sF_w1 (T : Tb) (h : Hs) {k : Nat} (hk : k < h.length) : sF T h (13 + 3 * k + 1) = saltF T (h.drop k) := by
  have := sF_w T h k 1 (by decide)
  rw [if_pos hk, if_neg (by decide), if_pos rfl] at this
  exact this
theorem sF_w2 (T : Tb) (h : Hs) {k : Nat} (hk : k < h.length) : sF T h (13 + 3 * k + 2) = (hAt h k).1 + 256 * (hAt h k).2 := by
  have := sF_w T h k 2 (by decide)
  rw [if_pos hk, if_neg (by decide), if_neg (by decide)] at this
  exact this
/-- the row that holds a table -/
def ToP (f : Nat → Int32) (T : Tb) : Prop := f 0 = nI T.g ∧ f 1 = nI T.n ∧ f 2 = nI T.law ∧ f 3 = nI T.st ∧ f 28 = nI T.so ∧ (∀ i, i < T.g → f (4 + i) = nI (T.kd i)) ∧ (∀ i, i < T.g → f (12 + i) = nI (T.hn i)) ∧ (∀ i, i < T.g → f (20 + i) = nI (T.kn i)) ∧ ∀ t, t < T.n → f (29 + t) = nI (T.hf t)
abbrev mdO (tl u kn ns : Nat) (at_ : Int32) : ACell := oB 11 [.ref 273, .int (nI tl), .ref 274, .ref 275, .ref 276, .ref 277, .int (nI u), .ref 278, .int (nI kn), .ref 279, .int (nI ns), .int at_, .ref 280, .ref 281, .ref 282, .ref 283]
/-- what reads of the table and of the evening need -/
def MT (σ : AHp) (f : Nat → Int32) (T : Tb) : Prop := σ 274 = some (iA 0 35 f) ∧ ToP f T
def MX (σ : AHp) (U : Us) (fx : Nat → Int32) : Prop := σ 273 = some (iA 0 200 fx) ∧ ∀ j, j < U.tl → fx j = nI (U.tf j)
def MPa (σ : AHp) (T : Tb) (h : Hs) (u : Nat) (fp : Nat → Int32) : Prop := σ 277 = some (iA 0 344 fp) ∧ ∀ k, k < u → ∀ j, j < 43 → fp (43 * k + j) = nI (sF T (h.drop (u - k)) j)
def MIm (σ : AHp) (T : Tb) (kp : Nat → Hs) (kn : Nat) (fi : Nat → Int32) : Prop := σ 278 = some (iA 0 86 fi) ∧ ∀ k, k < kn → ∀ j, j < 43 → fi (43 * k + j) = nI (sF T (kp k) j)
def MSy (σ : AHp) (ns : Nat) (sw ss : Nat → Nat) (fy : Nat → Int32) : Prop := σ 279 = some (iA 0 8 fy) ∧ ∀ k, k < ns → fy k = nI (2 * sw k + ss k)
def MP (σ : AHp) (U : Us) : Prop := ∃ at_ fx ft fd fp fi fy fw fs fb fh, σ 272 = some (mdO U.tl U.u U.kn U.ns at_) ∧ MX σ U fx ∧ MT σ ft U.T ∧ σ 275 = some (iA 0 35 fd) ∧ σ 276 = some (iA 0 43 (nF (sF U.T U.h))) ∧ MPa σ U.T U.h U.u fp ∧ MIm σ U.T U.kp U.kn fi ∧ MSy σ U.ns U.sw U.ss fy ∧ σ 280 = some (iA 0 8 fw) ∧ σ 281 = some (iA 0 8 fs) ∧ σ 282 = some (iA 0 8 fb) ∧ σ 283 = some (iA 0 43 fh)
theorem MP.kept {σ σ' : AHp} {U : Us} (h : MP σ U) (hk : ∀ j, 272 ≤ j → j < 284 → σ' j = σ j) : MP σ' U := by
  obtain ⟨at_, fx, ft, fd, fp, fi, fy, fw, fs, fb, fh, h1, h2, h3, h4, h5, h6, h7, h8, h9, h10, h11, h12⟩ := h
  exact ⟨at_, fx, ft, fd, fp, fi, fy, fw, fs, fb, fh, (hk _ (by omega) (by omega)).trans h1, ⟨(hk _ (by omega) (by omega)).trans h2.1, h2.2⟩, ⟨(hk _ (by omega) (by omega)).trans h3.1, h3.2⟩, (hk _ (by omega) (by omega)).trans h4, (hk _ (by omega) (by omega)).trans h5, ⟨(hk _ (by omega) (by omega)).trans h6.1, h6.2⟩, ⟨(hk _ (by omega) (by omega)).trans h7.1, h7.2⟩, ⟨(hk _ (by omega) (by omega)).trans h8.1, h8.2⟩, (hk _ (by omega) (by omega)).trans h9, (hk _ (by omega) (by omega)).trans h10, (hk _ (by omega) (by omega)).trans h11, (hk _ (by omega) (by omega)).trans h12⟩
