/-! ===== what the table and its salt are, as numbers ===== -/
/-- a table: guests, things, law, start, what is so (bits), kinds, honesties, knowledge, weights -/
abbrev Tb : Type := Nat × Nat × Nat × Nat × Nat × (Nat → Nat) × (Nat → Nat) × (Nat → Nat) × (Nat → Nat)
abbrev Tb.g (T : Tb) : Nat := T.1
abbrev Tb.n (T : Tb) : Nat := T.2.1
abbrev Tb.law (T : Tb) : Nat := T.2.2.1
abbrev Tb.st (T : Tb) : Nat := T.2.2.2.1
abbrev Tb.so (T : Tb) : Nat := T.2.2.2.2.1
abbrev Tb.kd (T : Tb) : Nat → Nat := T.2.2.2.2.2.1
abbrev Tb.hn (T : Tb) : Nat → Nat := T.2.2.2.2.2.2.1
abbrev Tb.kn (T : Tb) : Nat → Nat := T.2.2.2.2.2.2.2.1
abbrev Tb.hf (T : Tb) : Nat → Nat := T.2.2.2.2.2.2.2.2
def TbOk (T : Tb) : Prop := 3 ≤ T.g ∧ T.g ≤ 8 ∧ 1 ≤ T.n ∧ T.n ≤ 6 ∧ T.law < 4 ∧ T.st < T.g ∧ T.so < 2 ^ T.n ∧ (∀ i, i < T.g → T.kd i ≤ 4) ∧ (∀ i, i < T.g → T.hn i ≤ 10) ∧ (∀ i, i < T.g → T.kn i ≤ 63) ∧ ∀ t, t < T.n → 1 ≤ T.hf t ∧ T.hf t ≤ 4
/-- the table at the cell p -/
def TbP (σ : AHp) (p : Nat) (T : Tb) : Prop := p ≠ 0 ∧ σ p = some (oB 8 [.int (nI T.g), .int (nI T.n), .int (nI T.law), .int (nI T.st), .int (nI T.so), .ref (p + 1), .ref (p + 2), .ref (p + 3), .ref (p + 4)]) ∧ σ (p + 1) = some (iA 0 8 (nF T.kd)) ∧ σ (p + 2) = some (iA 0 8 (nF T.hn)) ∧ σ (p + 3) = some (iA 0 8 (nF T.kn)) ∧ σ (p + 4) = some (iA 0 6 (nF T.hf))
theorem TbP.kept {σ σ' : AHp} {p : Nat} {T : Tb} (h : TbP σ p T) (hk : ∀ j, p ≤ j → j < p + 5 → σ' j = σ j) : TbP σ' p T := by
  obtain ⟨h0, h1, h2, h3, h4, h5⟩ := h
  exact ⟨h0, (hk _ (by omega) (by omega)).trans h1, (hk _ (by omega) (by omega)).trans h2, (hk _ (by omega) (by omega)).trans h3, (hk _ (by omega) (by omega)).trans h4, (hk _ (by omega) (by omega)).trans h5⟩
/-- by how much an untruth of a thing of weight w by one of kind k counts -/
def cntK (k w : Nat) : Nat := if k = 2 then w - 1 else if k = 3 then 2 * w else if k = 4 ∧ w = 1 then 0 else w
def cnt (T : Tb) (i t : Nat) : Nat := cntK (T.kd i) (T.hf t)
theorem cnt_le {T : Tb} (h : TbOk T) (i : Nat) {t : Nat} (ht : t < T.n) : cnt T i t ≤ 8 := by
  have := h.2.2.2.2.2.2.2.2.2.2 t ht
  unfold cnt cntK
  split
  · omega
  · split
    · omega
    · split <;> omega
def upF (g a b : Nat) : Nat := (b + g - a) % g
def farF (g a b : Nat) : Nat := if 2 * upF g a b ≤ g then upF g a b else g - upF g a b
def stepF (g a b n : Nat) : Nat := if 2 * upF g a b ≤ g then (a + n) % g else (a + n * (g - 1)) % g
def drawF (g a i c law : Nat) : Nat := if a = i then a else if law = 1 then (a + min c (upF g a i)) % g else stepF g a i (if law = 0 then min c (farF g a i) else if law = 2 then 1 else c + 1)
/-- of the first k guests the nearest deaf one who didn't speak -/
def deafF (T : Tb) (a : Nat) (P : Nat → Bool) : Nat → Option Nat
  | 0 => none
  | k + 1 => if T.kd k = 1 ∧ P k = false ∧ (deafF T a P k).all (fun d => decide (farF T.g a k < farF T.g a d)) = true then some k else deafF T a P k
def hushF (T : Tb) (a : Nat) (P : Nat → Bool) : Nat := match deafF T a P T.g with
  | none => a
  | some d => if d = a then a else stepF T.g a d 1
/-- sayings: 16 t + 2 i + so; 128 is silence -/
def cWho (c : Nat) : Nat := c / 2 % 8
def cTop (c : Nat) : Nat := c / 16
def cSaid (c : Nat) : Nat := c % 2
def bitN (w t : Nat) : Nat := w / 2 ^ t % 2
def untr (c w : Nat) : Bool := decide (c ≠ 128 ∧ cSaid c ≠ bitN w (cTop c))
def cntOf (T : Tb) (c w : Nat) : Nat := if untr c w then cnt T (cWho c) (cTop c) else 0
def spk (one two i : Nat) : Bool := decide ((one ≠ 128 ∧ cWho one = i) ∨ (two ≠ 128 ∧ cWho two = i))
def comesF (T : Tb) (a one two w law : Nat) : Nat :=
  if cntOf T one w = 0 ∧ cntOf T two w = 0 then hushF T a (spk one two)
  else if cntOf T one w = cntOf T two w then a
  else if cntOf T two w < cntOf T one w then drawF T.g a (cWho one) (cntOf T one w - cntOf T two w) law
  else drawF T.g a (cWho two) (cntOf T two w - cntOf T one w) law
