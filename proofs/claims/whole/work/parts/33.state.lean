/-! ===== THE STATE that both sides hold, and what each call answers ===== -/
/-- text, its length, table, the class's other table, history, how many rounds can be undone, kept histories, how many, told sayings: how many, who, so -/
abbrev Us : Type := (Nat → Nat) × Nat × Tb × Tb × Hs × Nat × (Nat → Hs) × Nat × Nat × (Nat → Nat) × (Nat → Nat)
abbrev Us.tf (U : Us) : Nat → Nat := U.1
abbrev Us.tl (U : Us) : Nat := U.2.1
abbrev Us.T (U : Us) : Tb := U.2.2.1
abbrev Us.D (U : Us) : Tb := U.2.2.2.1
abbrev Us.h (U : Us) : Hs := U.2.2.2.2.1
abbrev Us.u (U : Us) : Nat := U.2.2.2.2.2.1
abbrev Us.kp (U : Us) : Nat → Hs := U.2.2.2.2.2.2.1
abbrev Us.kn (U : Us) : Nat := U.2.2.2.2.2.2.2.1
abbrev Us.ns (U : Us) : Nat := U.2.2.2.2.2.2.2.2.1
abbrev Us.sw (U : Us) : Nat → Nat := U.2.2.2.2.2.2.2.2.2.1
abbrev Us.ss (U : Us) : Nat → Nat := U.2.2.2.2.2.2.2.2.2.2
/-- a saying that can be -/
def CdOk (T : Tb) (c : Nat) : Prop := c = 128 ∨ (cTop c < T.n ∧ cWho c < T.g ∧ c < 128)
def HsOk (T : Tb) (h : Hs) : Prop := ∀ c, c ∈ h → CdOk T c.1 ∧ CdOk T c.2
def UOk (U : Us) (m : Nat) : Prop := U.tl ≤ 200 ∧ (∀ j, j < U.tl → 32 ≤ U.tf j ∧ U.tf j < 127) ∧ TbOk U.T ∧ HsOk U.T U.h ∧ U.h.length ≤ m ∧ U.u ≤ 8 ∧ U.u ≤ U.h.length ∧ U.kn ≤ 2 ∧ (∀ k, k < U.kn → HsOk U.T (U.kp k) ∧ (U.kp k).length ≤ m) ∧ U.ns ≤ 8 ∧ ∀ k, k < U.ns → U.sw k < U.T.g ∧ U.ss k ≤ 1
def iN (x : Int32) : Nat := x.toInt.toNat
theorem iN_nI {i : Nat} (h : i < 2 ^ 31) : iN (nI i) = i := by unfold iN; rw [nI_toInt h]; rfl
/-- a number of 0 .. g - 1, or else d -/
def gd {α : Type} (d : α) (x : Int32) (g : Nat) (k : Nat → α) : α := if inR x g = 1 then k (iN x) else d
theorem gd_out {α : Type} {d : α} {x : Int32} {g : Nat} {k : Nat → α} (h : inR x g = 0) : gd d x g k = d := by unfold gd; rw [h]; rfl
theorem gd_in {α : Type} {d : α} {i g : Nat} {k : Nat → α} (hi : i < g) (hg : g < 2 ^ 31) : gd d (nI i) g k = k i := by
  unfold gd
  rw [inR_1 (nI_pos (by omega)) (nI_ge hi hg), if_pos rfl, iN_nI (by omega)]
theorem inR_nz {x : Int32} {g : Nat} (hg : g < 2 ^ 31) (h : ¬ inR x g = 0) : ∃ i, i < g ∧ x = nI i := by
  rcases inR_split x hg with h1 | h1
  · exact absurd h1.1 h
  · exact h1.2
theorem gt_out {x : Int32} {n : Nat} (hn : n + 1 < 2 ^ 31) (h : nI n < x) : inR x (n + 1) = 0 := by
  rcases inR_split x hn with h1 | ⟨-, j, hj, rfl⟩
  · exact h1.1
  · exact absurd ((nI_ltI (by omega) (by omega)).mp h) (by omega)
theorem le_in {x : Int32} {n : Nat} (hn : n + 1 < 2 ^ 31) (h1 : ¬ x < 0) (h2 : ¬ nI n < x) : ∃ i, i < n + 1 ∧ x = nI i := by
  rcases pk_ix x hn with h | h | h
  · exact absurd h h1
  · exact absurd (Int32.lt_of_lt_of_le ((nI_ltI (by omega) hn).mpr (Nat.lt_succ_self n)) h) h2
  · exact h
abbrev Rz : Type := Int32 × Us
def bad (U : Us) : Rz := (-1, U)
def clr (D : Tb) : Tb := (0, 0, 0, 0, 0, D.kd, D.hn, D.kn, D.hf)
def rdU (U : Us) : Option Nat × Tb := rdA (tg U.tf U.tl) U.tl 200 0 (clr U.D)
def zWrite (U : Us) (x : Int32) : Rz := if x < nI 32 ∨ nI 126 < x then bad U else if U.tl < 200 then (nI (U.tl + 1), (uN U.tf U.tl (iN x), U.tl + 1, U.2.2)) else (-3, U)
def zWipe (U : Us) : Rz := (nI U.tl, (U.tf, 0, U.2.2))
def zFault (U : Us) : Rz := (fauI (rdU U).1, (U.tf, U.tl, U.T, (rdU U).2, U.2.2.2.2))
def canL (T : Tb) : Bool := decide (3 ≤ T.g ∧ 1 ≤ T.n ∧ T.st < T.g)
def zLay (U : Us) : Rz := if (rdU U).1 = none ∧ canL (rdU U).2 = true then (nI (rdU U).2.g, (U.tf, U.tl, (rdU U).2, U.T, [], 0, U.kp, 0, 0, U.sw, U.ss)) else (-2, (U.tf, U.tl, U.T, (rdU U).2, U.2.2.2.2))
def zGuest (U : Us) (x w : Int32) : Int32 := gd (-1) x U.T.g fun i => gd (-1) w 5 fun c => if c = 0 then nI (U.T.kd i) else if c = 1 then nI (U.T.hn i) else if c = 2 then nI (U.T.kn i) else if c = 3 then nI (ldF U.T U.h i) else nI (farF U.T.g (saltF U.T U.h) i)
def zThing (U : Us) (x w : Int32) : Int32 := gd (-1) x U.T.n fun t => gd (-1) w 2 fun c => if c = 0 then nI (bitN U.T.so t) else nI (U.T.hf t)
def zWeight (U : Us) (x y : Int32) : Int32 := gd (-1) x U.T.g fun i => gd (-1) y U.T.n fun t => nI (cnt U.T i t)
def Us.go (U : Us) (a b : Nat) : Us := (U.tf, U.tl, U.T, U.D, (a, b) :: U.h, min (U.u + 1) 8, U.2.2.2.2.2.2)
def zGo (U : Us) (a b : Nat) : Rz := (nI (saltF U.T ((a, b) :: U.h)), U.go a b)
def zSay (U : Us) (x y : Int32) (b : Nat) : Rz := gd (bad U) x U.T.g fun i => gd (bad U) y U.T.n fun t => zGo U (sayC i t b) 128
def zBoth (U : Us) (x y : Int32) (b : Nat) (x' y' : Int32) (b' : Nat) : Rz := gd (bad U) x U.T.g fun i => gd (bad U) x' U.T.g fun j => if i = j then bad U else gd (bad U) y U.T.n fun t => gd (bad U) y' U.T.n fun s => zGo U (sayC i t b) (sayC j s b')
def zUndo (U : Us) : Rz := if U.u = 0 then (-2, U) else (nI (U.u - 1), (U.tf, U.tl, U.T, U.D, U.h.tail, U.u - 1, U.2.2.2.2.2.2))
def spoke (c : Nat × Nat) : Nat := (if c.1 = 128 then 0 else 1) + (if c.2 = 128 then 0 else 1)
def zWent (U : Us) (x w : Int32) : Int32 := gd (-1) x (min U.h.length 10) fun k => gd (-1) w 3 fun c => if c = 0 then nI (saltF U.T (U.h.drop (k + 1))) else if c = 1 then nI (saltF U.T (U.h.drop k)) else nI (spoke (hAt U.h k))
abbrev Us.P (U : Us) : Nat → Bool := explF U.T U.h U.T.law
abbrev Us.nf (U : Us) : Nat := nfK U.P (2 ^ U.T.n)
def zFits (U : Us) (w : Int32) : Int32 := gd (-1) w 2 fun c => if c = 0 then nI U.nf else lowI (loK U.P (2 ^ U.T.n))
def zSure (U : Us) (b : Nat) : Int32 := if U.nf = 0 then -4 else if b = 0 then nI (neK U.P (2 ^ U.T.n - 1) (2 ^ U.T.n)) else nI (alK U.P (2 ^ U.T.n - 1) (2 ^ U.T.n))
def zLaws (U : Us) : Int32 := nI (lwK U.T U.h 4)
def qU (U : Us) : Int32 × Nat := qOut (maF U.T U.nf (fun t => wsK U.P t (2 ^ U.T.n)) (saltF U.T U.h)) U.T.n U.T.g (-4, U.nf + 1)
def zAsk (U : Us) (w : Int32) : Int32 := gd (-1) w 2 fun c => if U.nf = 0 then -4 else if c = 0 then (qU U).1 else nI (qU U).2
def fwF (T : Tb) (s : Nat) : Nat → Nat → Nat
  | 0 => fun j => if j = s then 0 else 1000
  | n + 1 => grF T (fwF T s n) (fun _ => 1000)
def zFewest (U : Us) (x y : Int32) : Int32 := gd (-1) x U.T.g fun k => gd (-1) y 7 fun n => if fwF U.T (saltF U.T U.h) n k < 1000 then nI (fwF U.T (saltF U.T U.h) n k) else -4
def stoF (T : Tb) (set : Nat) : Int32 := bcF ((nI (2 ^ T.n - 1) &&& (nI T.so ^^^ (-1))) &&& (nI (knF T set) ^^^ (-1)))
def zStory (U : Us) (x w : Int32) : Int32 := gd (-1) x (2 ^ U.T.g) fun set => gd (-1) w 2 fun c => if c = 0 then nI (knF U.T set) else stoF U.T set
def zRests (U : Us) (x y x' y' w : Int32) : Int32 := gd (-1) x U.T.g fun i => gd (-1) x' U.T.g fun j => if i = j then -1 else gd (-1) y U.T.n fun s => gd (-1) y' U.T.n fun t => gd (-1) w 2 fun c => if c = 0 then nI (rsN (okW U.T (saltF U.T U.h) i s j t) 0) else rsF (okW U.T (saltF U.T U.h) i s j t) 0
def zTell (U : Us) (x : Int32) (b : Nat) : Rz := gd (bad U) x U.T.g fun i => if U.ns < 8 then (nI (U.ns + 1), (U.tf, U.tl, U.T, U.D, U.h, U.u, U.kp, U.kn, U.ns + 1, uN U.sw U.ns i, uN U.ss U.ns b)) else (-3, U)
def zForget (U : Us) : Rz := (nI U.ns, (U.tf, U.tl, U.T, U.D, U.h, U.u, U.kp, U.kn, 0, U.sw, U.ss))
def zBelieve (U : Us) (x : Int32) : Int64 := gd (-1) x 2 fun c => belF (pS U.T U.sw U.ss U.ns) (pN U.T U.sw U.ss U.ns) (decide (c = 0))
def zTrail (U : Us) : Int32 := nI (trlF U.T U.h)
def zDinner (U : Us) (x y w : Int32) : Int32 := gd (-1) x 10000 fun z => gd (-1) y 61 fun n => if n = 0 then -1 else gd (-1) w 2 fun c => if c = 0 then nI (dnK U.T (saltF U.T U.h) z n).1 else nI (dnK U.T (saltF U.T U.h) z n).2
def kpU (U : Us) : Nat → Hs := fun j => if j = U.kn then U.h else U.kp j
def zKeep (U : Us) : Rz := if U.kn < 2 then (nI (U.kn + 1), (U.tf, U.tl, U.T, U.D, U.h, U.u, kpU U, U.kn + 1, U.2.2.2.2.2.2.2.2)) else (-3, U)
def zBack (U : Us) : Rz := if U.kn = 0 then (-2, U) else (nI (U.kn - 1), (U.tf, U.tl, U.T, U.D, U.kp (U.kn - 1), 0, U.kp, U.kn - 1, U.2.2.2.2.2.2.2.2))
def zCount (U : Us) (w : Int32) : Int32 := gd (-1) w 10 fun c => if c = 0 then nI U.T.g else if c = 1 then nI U.T.n else if c = 2 then nI U.T.law else if c = 3 then nI (saltF U.T U.h) else if c = 4 then nI U.h.length else if c = 5 then nI (untF U.T U.h) else if c = 6 then nI U.ns else if c = 7 then nI U.u else if c = 8 then nI U.kn else nI U.tl
/-! ===== THE CLASS's picture ===== -/
abbrev clO (t d kn : Nat) : ACell := oB 10 [.ref 2, .ref 4, .ref 6, .ref 81, .ref 232, .ref 238, .ref 245, .ref 254, .ref 257, .ref t, .ref d, .int (nI kn)]
def CR (σ : AHp) : Prop := ∃ nf pl, RrP σ nf pl
def CVe (σ : AHp) (T : Tb) (h : Hs) (u : Nat) : Prop := ∃ V, EvR σ 6 V ∧ VH V T h u
def CK (σ : AHp) (T : Tb) (kp : Nat → Hs) (kn : Nat) : Prop := σ 81 = some (rA 3 2 (fun k => some (82 + 75 * k))) ∧ ∀ k, k < 2 → ∃ V, EvR σ (82 + 75 * k) V ∧ (∀ j, j < 18 → ∀ m, m < 2 → (V.rf j).sd m ≤ 1) ∧ (k < kn → VH V T (kp k) 0)
def CW (σ : AHp) : Prop := ∃ a lo al ne qu wo g R, WaR σ a lo al ne qu wo g R
def CA (σ : AHp) : Prop := ∃ c d fc fd R, PaP σ c d fc fd R
def CT (σ : AHp) : Prop := ∃ st fs w tp f1 f2 R, PcR σ st fs w tp f1 f2 R
def CF (σ : AHp) : Prop := ∃ s u R, FsP σ s u R
def TD (t d : Nat) : Prop := (t = 262 ∧ d = 267) ∨ (t = 267 ∧ d = 262)
def CP (σ : AHp) (U : Us) : Prop := ∃ t d, TD t d ∧ σ 1 = some (clO t d U.kn) ∧ LtP σ U.tf U.tl ∧ CR σ ∧ CVe σ U.T U.h U.u ∧ CK σ U.T U.kp U.kn ∧ CW σ ∧ CA σ ∧ CT σ ∧ SyR σ U.ns U.sw U.ss ∧ CF σ ∧ TbP σ t U.T ∧ TbP σ d U.D
theorem LtP.kept {σ σ' : AHp} {f : Nat → Nat} {n : Nat} (h : LtP σ f n) (hk : ∀ j, 2 ≤ j → j < 4 → σ' j = σ j) : LtP σ' f n := ⟨(hk 2 (by omega) (by omega)).trans h.1, (hk 3 (by omega) (by omega)).trans h.2.1, h.2.2⟩
theorem CR.kept {σ σ' : AHp} (h : CR σ) (hk : ∀ j, 4 ≤ j → j < 6 → σ' j = σ j) : CR σ' := by
  obtain ⟨nf, pl, h1, h2⟩ := h
  exact ⟨nf, pl, (hk 4 (by omega) (by omega)).trans h1, (hk 5 (by omega) (by omega)).trans h2⟩
theorem CVe.kept {σ σ' : AHp} {T : Tb} {h : Hs} {u : Nat} (hc : CVe σ T h u) (hk : ∀ j, 6 ≤ j → j < 81 → σ' j = σ j) : CVe σ' T h u := by
  obtain ⟨V, h1, h2⟩ := hc
  exact ⟨V, h1.kept (fun j a b => hk j a b), h2⟩
theorem CK.kept {σ σ' : AHp} {T : Tb} {kp : Nat → Hs} {kn : Nat} (hc : CK σ T kp kn) (hk : ∀ j, 81 ≤ j → j < 232 → σ' j = σ j) : CK σ' T kp kn := by
  refine ⟨(hk 81 (by omega) (by omega)).trans hc.1, fun k hk2 => ?_⟩
  obtain ⟨V, h1, h2⟩ := hc.2 k hk2
  exact ⟨V, h1.kept (fun j a b => hk j (by omega) (by omega)), h2⟩
theorem WaR.kept {σ σ' : AHp} {a : Nat} {lo : Int32} {al ne : Nat} {qu wo : Int32} {g : Nat → Nat} {R : Rs} (h : WaR σ a lo al ne qu wo g R) (hk : ∀ j, 232 ≤ j → j < 238 → σ' j = σ j) : WaR σ' a lo al ne qu wo g R := ⟨(hk 232 (by omega) (by omega)).trans h.1, (hk 233 (by omega) (by omega)).trans h.2.1, h.2.2.kept (fun j h1 h2 => hk j (by omega) (by omega))⟩
theorem CW.kept {σ σ' : AHp} (h : CW σ) (hk : ∀ j, 232 ≤ j → j < 238 → σ' j = σ j) : CW σ' := by
  obtain ⟨a, lo, al, ne, qu, wo, g, R, h⟩ := h
  exact ⟨a, lo, al, ne, qu, wo, g, R, h.kept hk⟩
theorem PaP.kept {σ σ' : AHp} {c d : Nat} {fc fd : Nat → Nat} {R : Rs} (h : PaP σ c d fc fd R) (hk : ∀ j, 238 ≤ j → j < 245 → σ' j = σ j) : PaP σ' c d fc fd R := by
  obtain ⟨h1, h2, h3, h4, h5⟩ := h
  exact ⟨(hk _ (by omega) (by omega)).trans h1, (hk _ (by omega) (by omega)).trans h2, (hk _ (by omega) (by omega)).trans h3, h4.kept (fun j a b => hk j (by omega) (by omega)), h5⟩
theorem CA.kept {σ σ' : AHp} (h : CA σ) (hk : ∀ j, 238 ≤ j → j < 245 → σ' j = σ j) : CA σ' := by
  obtain ⟨c, d, fc, fd, R, h⟩ := h
  exact ⟨c, d, fc, fd, R, h.kept hk⟩
theorem CT.kept {σ σ' : AHp} (h : CT σ) (hk : ∀ j, 245 ≤ j → j < 254 → σ' j = σ j) : CT σ' := by
  obtain ⟨st, fs, w, tp, f1, f2, R, h1, h2, h3, h4, h5, h6⟩ := h
  exact ⟨st, fs, w, tp, f1, f2, R, (hk _ (by omega) (by omega)).trans h1, (hk _ (by omega) (by omega)).trans h2, (hk _ (by omega) (by omega)).trans h3, (hk _ (by omega) (by omega)).trans h4, (hk _ (by omega) (by omega)).trans h5, h6.kept (fun j a b => hk j (by omega) (by omega))⟩
theorem SyR.kept {σ σ' : AHp} {n : Nat} {w sd : Nat → Nat} (h : SyR σ n w sd) (hk : ∀ j, 254 ≤ j → j < 257 → σ' j = σ j) : SyR σ' n w sd := by
  obtain ⟨h1, h2, h3, h4⟩ := h
  exact ⟨(hk _ (by omega) (by omega)).trans h1, (hk _ (by omega) (by omega)).trans h2, (hk _ (by omega) (by omega)).trans h3, h4⟩
theorem CF.kept {σ σ' : AHp} (h : CF σ) (hk : ∀ j, 257 ≤ j → j < 262 → σ' j = σ j) : CF σ' := by
  obtain ⟨s, u, R, h1, h2⟩ := h
  exact ⟨s, u, R, (hk _ (by omega) (by omega)).trans h1, h2.kept (fun j a b => hk j (by omega) (by omega))⟩
theorem CP.kept {σ σ' : AHp} {U : Us} (h : CP σ U) (hk : ∀ j, 1 ≤ j → j < 272 → σ' j = σ j) : CP σ' U := by
  obtain ⟨t, d, htd, hO, hL, hR, hV, hK, hW, hA, hP, hS, hF, hT, hD⟩ := h
  have htd' := htd
  unfold TD at htd'
  exact ⟨t, d, htd, (hk _ (by omega) (by omega)).trans hO, hL.kept (fun j a b => hk j (by omega) (by omega)), hR.kept (fun j a b => hk j (by omega) (by omega)), hV.kept (fun j a b => hk j (by omega) (by omega)), hK.kept (fun j a b => hk j (by omega) (by omega)), hW.kept (fun j a b => hk j (by omega) (by omega)), hA.kept (fun j a b => hk j (by omega) (by omega)), hP.kept (fun j a b => hk j (by omega) (by omega)), hS.kept (fun j a b => hk j (by omega) (by omega)), hF.kept (fun j a b => hk j (by omega) (by omega)), hT.kept (fun j a b => hk j (by omega) (by omega)), hD.kept (fun j a b => hk j (by omega) (by omega))⟩
theorem UOk.T {U : Us} {m : Nat} (h : UOk U m) : TbOk U.T := h.2.2.1
theorem UOk.len {U : Us} {m : Nat} (h : UOk U m) : U.h.length ≤ m := h.2.2.2.2.1
theorem UOk.u8 {U : Us} {m : Nat} (h : UOk U m) : U.u ≤ 8 := h.2.2.2.2.2.1
theorem UOk.ul {U : Us} {m : Nat} (h : UOk U m) : U.u ≤ U.h.length := h.2.2.2.2.2.2.1
theorem UOk.kn2 {U : Us} {m : Nat} (h : UOk U m) : U.kn ≤ 2 := h.2.2.2.2.2.2.2.1
theorem UOk.txt {U : Us} {m : Nat} (h : UOk U m) : ∀ j, j < U.tl → U.tf j < 127 := fun j hj => (h.2.1 j hj).2
