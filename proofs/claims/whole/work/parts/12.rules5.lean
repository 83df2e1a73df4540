/-! ===== RULES that name the new heap; small words ===== -/
section K5
variable {M : MI} {pc nx : Nat} {ls : List (Option Value)} {st : List Value} {σ : AHp} {kc ks : Nat} {Q : Option Value → AHp → Prop}
theorem R_putiK {ci k q : Nat} {fs fs' : List Value} {x : Int32} {ty : FieldType} (h : PF M pc ci k ty nx) (hσ : σ q = some (oB ci fs)) (hl : Nat.ble (k + 1) fs.length = true) (hs' : fs.set k (.int x) = fs') (kk : ∀ σ' : AHp, σ' q = some (oB ci fs') → (∀ j, j ≠ q → σ' j = σ j) → Run M nx ls st σ' kc ks Q) (hty : ty = .int := by rfl) : Run M pc ls (.int x :: .ref q :: st) σ kc ks Q := by
  subst hty
  exact R_puti h hσ hl hs' (kk _ (up_self _ _ _) (fun j hj => up_ne _ _ hj))
theorem R_putaK {ci k q x : Nat} {fs fs' : List Value} {ty : FieldType} (h : PF M pc ci k ty nx) (hσ : σ q = some (oB ci fs)) (hv : ∀ a, narrow ty (.ref a) = .ref a ∧ fits ty (.ref a) = true) (hl : Nat.ble (k + 1) fs.length = true) (hs' : fs.set k (.ref x) = fs') (kk : ∀ σ' : AHp, σ' q = some (oB ci fs') → (∀ j, j ≠ q → σ' j = σ j) → Run M nx ls st σ' kc ks Q) : Run M pc ls (.ref x :: .ref q :: st) σ kc ks Q := R_puta h hσ hv hl hs' (kk _ (up_self _ _ _) (fun j hj => up_ne _ _ hj))
theorem R_iastK {q n j : Nat} {f : Nat → Int32} {x : Int32} (h : At M pc .iastore 1 nx) (h0 : q ≠ 0) (hσ : σ q = some (iA 0 n f)) (hj : j < n) (hn : n ≤ 100000) (kk : ∀ σ' : AHp, σ' q = some (iA 0 n (upd f j x)) → (∀ j, j ≠ q → σ' j = σ j) → Run M nx ls st σ' kc ks Q) : Run M pc ls (.int x :: .int (nI j) :: .ref q :: st) σ kc ks Q := R_iast_n h h0 hσ hj hn (kk _ (up_self _ _ _) (fun j hj => up_ne _ _ hj))
theorem R_zastK {q n j b : Nat} {f : Nat → Int32} (h : At M pc .bastore 1 nx) (h0 : q ≠ 0) (hσ : σ q = some (iA 1 n f)) (hj : j < n) (hn : n ≤ 100000) (hb : b ≤ 1) (kk : ∀ σ' : AHp, σ' q = some (iA 1 n (upd f j (nI b))) → (∀ j, j ≠ q → σ' j = σ j) → Run M nx ls st σ' kc ks Q) : Run M pc ls (.int (nI b) :: .int (nI j) :: .ref q :: st) σ kc ks Q := R_zast_n h h0 hσ hj hn hb (kk _ (up_self _ _ _) (fun j hj => up_ne _ _ hj))
theorem R_aastK {q t n v ci j : Nat} {vs : List Value} {f : Nat → Option Nat} (h : At M pc .aastore 1 nx) (hσ : σ q = some (rA t n f)) (hv : σ v = some (oB ci vs)) (htc : (t = 2 ∧ ci = 6) ∨ (t = 3 ∧ ci = 0)) (hj : j < n) (hn : n ≤ 100000) (kk : ∀ σ' : AHp, σ' q = some (rA t n (va_up f j (some v))) → (∀ j, j ≠ q → σ' j = σ j) → Run M nx ls st σ' kc ks Q) : Run M pc ls (.ref v :: .int (nI j) :: .ref q :: st) σ kc ks Q := R_aast_n h hσ hv htc hj hn (kk _ (up_self _ _ _) (fun j hj => up_ne _ _ hj))
end K5
theorem i32_ne {x : Int32} {c : Nat} (h : ¬ x = nI c) (hc : c < 2 ^ 31) : x.toInt ≠ (c : Int) := fun e => h (Int32.toInt_inj.mp (by rw [e, nI_toInt hc]))
theorem i32_out {x : Int32} {n : Nat} (hn : n < 2 ^ 31) (h : ∀ j, j < n → ¬ x = nI j) : x < 0 ∨ nI n ≤ x := by
  rcases pk_ix x hn with h1 | h1 | ⟨j, hj, rfl⟩
  · exact Or.inl h1
  · exact Or.inr h1
  · exact absurd rfl (h j hj)
/-- arrays that hold small numbers -/
abbrev nF (f : Nat → Nat) : Nat → Int32 := fun j => nI (f j)
def uN (f : Nat → Nat) (k v : Nat) : Nat → Nat := fun j => if j = k then v else f j
theorem nF_upd (f : Nat → Nat) (k v : Nat) : upd (nF f) k (nI v) = nF (uN f k v) := by
  funext j
  by_cases h : j = k <;> simp [upd, uN, nF, h]
theorem uN_self (f : Nat → Nat) (k v : Nat) : uN f k v k = v := by simp [uN]
theorem uN_ne (f : Nat → Nat) {k j : Nat} (v : Nat) (h : j ≠ k) : uN f k v j = f j := by simp [uN, h]
theorem nF_0 : (fun _ => (0 : Int32)) = nF (fun _ => 0) := rfl
