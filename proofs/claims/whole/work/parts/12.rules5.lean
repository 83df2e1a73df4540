/-! ===== RULES that name the new heap; small words ===== -/
section K5
variable {M : MI} {pc nx : Nat} {ls : List (Option Value)} {st : List Value} {σ : AHp} {kc ks : Nat} {Q : Option Value → AHp → Prop}
theorem R_putiK {ci k q : Nat} {fs fs' : List Value} {x : Int32} {ty : FieldType} (h : PF M pc ci k ty nx) (hσ : σ q = some (oB ci fs)) (hl : Nat.ble (k + 1) fs.length = true) (hs' : fs.set k (.int x) = fs') (kk : ∀ σ' : AHp, σ' q = some (oB ci fs') → (∀ j, j ≠ q → σ' j = σ j) → Run M nx ls st σ' kc ks Q) (hty : ty = .int := by rfl) : Run M pc ls (.int x :: .ref q :: st) σ kc ks Q := by
  subst hty
  exact R_puti h hσ hl hs' (kk _ (up_self _ _ _) (fun j hj => up_ne _ _ hj))
theorem R_putaK {ci k q x : Nat} {fs fs' : List Value} {ty : FieldType} (h : PF M pc ci k ty nx) (hσ : σ q = some (oB ci fs)) (hv : ∀ a, narrow ty (.ref a) = .ref a ∧ fits ty (.ref a) = true) (hl : Nat.ble (k + 1) fs.length = true) (hs' : fs.set k (.ref x) = fs') (kk : ∀ σ' : AHp, σ' q = some (oB ci fs') → (∀ j, j ≠ q → σ' j = σ j) → Run M nx ls st σ' kc ks Q) : Run M pc ls (.ref x :: .ref q :: st) σ kc ks Q := R_puta h hσ hv hl hs' (kk _ (up_self _ _ _) (fun j hj => up_ne _ _ hj))
theorem R_iastK {q n j : Nat} {f : Nat → Int32} {x : Int32} (h : At M pc .iastore 1 nx) (h0 : q ≠ 0) (hσ : σ q = some (iA 0 n f)) (hj : j < n) (hn : n ≤ 100000) (kk : ∀ σ' : AHp, σ' q = some (iA 0 n (upd f j x)) → (∀ j, j ≠ q → σ' j = σ j) → Run M nx ls st σ' kc ks Q) : Run M pc ls (.int x :: .int (nI j) :: .ref q :: st) σ kc ks Q := R_iast_n h h0 hσ hj hn (kk _ (up_self _ _ _) (fun j hj => up_ne _ _ hj))
theorem R_zastK {q n j b : Nat} {f : Nat → Int32} (h : At M pc .bastore 1 nx) (h0 : q ≠ 0) (hσ : σ q = some (iA 1 n f)) (hj : j < n) (hn : n ≤ 100000) (hb : b ≤ 1) (kk : ∀ σ' : AHp, σ' q = some (iA 1 n (upd f j (nI b))) → (∀ j, j ≠ q → σ' j = σ j) → Run M nx ls st σ' kc ks Q) : Run M pc ls (.int (nI b) :: .int (nI j) :: .ref q :: st) σ kc ks Q := R_zast_n h h0 hσ hj hn hb (kk _ (up_self _ _ _) (fun j hj => up_ne _ _ hj))
theorem R_aastK {q t n v ci j : Nat} {vs : List Value} {f : Nat → Option Nat} (h : At M pc .aastore 1 nx) (hσ : σ q = some (rA t n f)) (hv : σ v = some (oB ci vs)) (htc : (t = 2 ∧ ci = 6) ∨ (t = 3 ∧ ci = 0)) (hj : j < n) (hn : n ≤ 100000) (kk : ∀ σ' : AHp, σ' q = some (rA t n (va_up f j (some v))) → (∀ j, j ≠ q → σ' j = σ j) → Run M nx ls st σ' kc ks Q) : Run M pc ls (.ref v :: .int (nI j) :: .ref q :: st) σ kc ks Q := R_aast_n h hσ hv htc hj hn (kk _ (up_self _ _ _) (fun j hj => up_ne _ _ hj))
end K5
theorem i32_ne {x : Int32} {c : Nat} (h : ¬ x = nI c) (hc : c < 2 ^ 31) : x.toInt ≠ (c : Int) := fun e => h (Int32.toInt_inj.mp (by rw [e, nI_toInt hc]))
theorem i32_out {x : Int32} {n : Nat} (hn : n < 2 ^ 31) (h : ∀ j, j < n → ¬ x = nI j) : x < 0 ∨ nI n ≤ x := by
  rcases pk_ix x hn with h1 | h1 | ⟨j, hj, rfl⟩
  · exact Or.inl h1
  · exact Or.inr h1
  · exact absurd rfl (h j hj)
/-- arrays that hold small numbers -/
abbrev nF (f : Nat → Nat) : Nat → Int32 := fun j => nI (f j)
def uN (f : Nat → Nat) (k v : Nat) : Nat → Nat := fun j => if j = k then v else f j
theorem nF_upd (f : Nat → Nat) (k v : Nat) : upd (nF f) k (nI v) = nF (uN f k v) := by
  funext j
  by_cases h : j = k <;> simp [upd, uN, nF, h]
theorem uN_self (f : Nat → Nat) (k v : Nat) : uN f k v k = v := by simp [uN]
theorem uN_ne (f : Nat → Nat) {k j : Nat} (v : Nat) (h : j ≠ k) : uN f k v j = f j := by simp [uN, h]
theorem nF_0 : (fun _ => (0 : Int32)) = nF (fun _ => 0) := rfl
/-- outside the cells a .. a + n - 1 nothing changed -/
def Fr (σ σ' : AHp) (a n : Nat) : Prop := ∀ j, j < a ∨ a + n ≤ j → σ' j = σ j
theorem Fr.rf (σ : AHp) (a n : Nat) : Fr σ σ a n := fun _ _ => rfl
theorem Fr.trans {σ σ' σ'' : AHp} {a n : Nat} (h : Fr σ σ' a n) (h' : Fr σ' σ'' a n) : Fr σ σ'' a n := fun j hj => (h' j hj).trans (h j hj)
theorem Fr.wide {σ σ' : AHp} {a n b m : Nat} (h : Fr σ σ' a n) (h1 : b ≤ a) (h2 : a + n ≤ b + m) : Fr σ σ' b m := fun j hj => h j (by omega)
theorem arrV_ext (cA : ClassId) {n : Nat} {f f' : Nat → Value} (h : ∀ j, j < n → f j = f' j) : arrV cA n f = arrV cA n f' := by
  unfold arrV
  congr 1
  apply Array.ext
  · simp
  · intro i hi1 hi2
    simp only [Array.getElem_ofFn]
    rw [h i (by simpa using hi2)]
theorem vpc_ext (cA : ClassId) {n : Nat} {f f' : Nat → Int32} (h : ∀ j, j < n → f j = f' j) : vp_cell cA (n, .inl f) = vp_cell cA (n, .inl f') := by
  rw [vp_cell_i, vp_cell_i]
  exact arrV_ext cA (fun j hj => by rw [h j hj])
theorem vpc_extr (cA : ClassId) (E : En) {n : Nat} {f f' : Nat → Option Nat} (h : ∀ j, j < n → f j = f' j) : vp_cell cA (n, .inr (.inr (.inr (.inr (fun j => (f j).map (ad E)))))) = vp_cell cA (n, .inr (.inr (.inr (.inr (fun j => (f' j).map (ad E)))))) := by
  rw [vp_cell_q, vp_cell_q]
  exact arrV_ext cA (fun j hj => by rw [h j hj])
/-- an array otherwise written -/
theorem R_ext {M : MI} {pc : Nat} {ls : List (Option Value)} {st : List Value} {σ : AHp} {kc ks : Nat} {Q : Option Value → AHp → Prop} {q t n : Nat} {f : Nat → Int32} (f' : Nat → Int32) (h0 : q ≠ 0) (hσ : σ q = some (iA t n f)) (he : ∀ j, j < n → f j = f' j) (kk : ∀ σ' : AHp, σ' q = some (iA t n f') → (∀ j, j ≠ q → σ' j = σ j) → Run M pc ls st σ' kc ks Q) : Run M pc ls st σ kc ks Q := by
  intro p l e s m args below meth c E H locs cells slots lsA C hW hS hL hc hs
  refine kk (up σ q (iA t n f')) (up_self _ _ _) (fun j hj => up_ne _ _ hj) p l e s m args below meth c E H locs cells slots lsA C (hW.put h0 hσ ?_ rfl (fun _ _ => rfl)) hS hL hc hs
  obtain ⟨h1, h2⟩ := hW.arr h0 hσ
  refine ⟨?_, h2⟩
  exact h1.trans (congrArg some (vpc_ext _ he))
theorem R_extr {M : MI} {pc : Nat} {ls : List (Option Value)} {st : List Value} {σ : AHp} {kc ks : Nat} {Q : Option Value → AHp → Prop} {q t n : Nat} {f : Nat → Option Nat} (f' : Nat → Option Nat) (hσ : σ q = some (rA t n f)) (he : ∀ j, j < n → f j = f' j) (kk : ∀ σ' : AHp, σ' q = some (rA t n f') → (∀ j, j ≠ q → σ' j = σ j) → Run M pc ls st σ' kc ks Q) : Run M pc ls st σ kc ks Q := by
  intro p l e s m args below meth c E H locs cells slots lsA C hW hS hL hc hs
  obtain ⟨h0, h1, h2⟩ := hW.arrR hσ
  refine kk (up σ q (rA t n f')) (up_self _ _ _) (fun j hj => up_ne _ _ hj) p l e s m args below meth c E H locs cells slots lsA C (hW.put h0 hσ ?_ rfl (fun _ _ => rfl)) hS hL hc hs
  refine ⟨?_, h2⟩
  exact h1.trans (congrArg some (vpc_extr _ _ he))
/-- the same contract where the arguments are otherwise written -/
theorem Run.eqQ {M : MI} {pc : Nat} {ls : List (Option Value)} {st : List Value} {σ : AHp} {kc ks : Nat} {Q Q' : Option Value → AHp → Prop} (h : Run M pc ls st σ kc ks Q) (hq : ∀ r σ', Q r σ' → Q' r σ') : Run M pc ls st σ kc ks Q' := by
  intro p l e s m args below meth c E H locs cells slots lsA C hW hS hL hc hs T hT X
  obtain ⟨t, a1, o, b1, b2, ⟨r, σ', g1, g2, g3, g4⟩, b4⟩ := h p l e s m args below meth c E H locs cells slots lsA C hW hS hL hc hs T hT X
  exact ⟨t, a1, o, b1, b2, ⟨r, σ', g1, hq r σ' g2, g3, g4⟩, b4⟩
def b2n (b : Bool) : Nat := if b then 1 else 0
theorem b2n_le (b : Bool) : b2n b ≤ 1 := by cases b <;> decide
theorem b2n_t : b2n true = 1 := rfl
theorem b2n_f : b2n false = 0 := rfl
