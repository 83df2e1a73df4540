/-! ===== RULES of the judgement Run: an instruction, a rule ===== -/
def At (M : MI) (pc : Nat) (i : Instr) (len nx : Nat) : Prop := decode M.code pc = .ok (i, len) ∧ pc + len = nx
def AtB (M : MI) (pc : Nat) (i : Int → Instr) (nx tgt : Nat) : Prop := ∃ off : Int, decode M.code pc = .ok (i off, 3) ∧ pc + 3 = nx ∧ (pc : Int) + off = (tgt : Int)
theorem R_iconst {M : MI} {pc nx : Nat} {ls : List (Option Value)} {st : List Value} {σ : AHp} {kc ks : Nat} {Q : Option Value → AHp → Prop} {n : Int} {v : Int32} (h : At M pc (.iconst n) 1 nx) (hv : Int32.ofInt n = v) (k : Run M nx ls (.int v :: st) σ kc ks Q) : Run M pc ls (st) σ kc ks Q := by
  obtain ⟨hd, rfl⟩ := h
  intro p l e s m args below meth c E H locs cells slots lsA C hW hS hL hc hs
  exact lv_iconst C.1 C.2.1 hd hv (k p l e s m args below meth c E H locs cells slots lsA C hW hS hL hc hs)
theorem R_bipush {M : MI} {pc nx : Nat} {ls : List (Option Value)} {st : List Value} {σ : AHp} {kc ks : Nat} {Q : Option Value → AHp → Prop} {n : Int} {v : Int32} (h : At M pc (.bipush n) 2 nx) (hv : (Int8.ofInt n).toInt32 = v) (k : Run M nx ls (.int v :: st) σ kc ks Q) : Run M pc ls (st) σ kc ks Q := by
  obtain ⟨hd, rfl⟩ := h
  intro p l e s m args below meth c E H locs cells slots lsA C hW hS hL hc hs
  exact lv_bipush C.1 C.2.1 hd hv (k p l e s m args below meth c E H locs cells slots lsA C hW hS hL hc hs)
theorem R_sipush {M : MI} {pc nx : Nat} {ls : List (Option Value)} {st : List Value} {σ : AHp} {kc ks : Nat} {Q : Option Value → AHp → Prop} {n : Int} {v : Int32} (h : At M pc (.sipush n) 3 nx) (hv : (Int16.ofInt n).toInt32 = v) (k : Run M nx ls (.int v :: st) σ kc ks Q) : Run M pc ls (st) σ kc ks Q := by
  obtain ⟨hd, rfl⟩ := h
  intro p l e s m args below meth c E H locs cells slots lsA C hW hS hL hc hs
  exact lv_sipush C.1 C.2.1 hd hv (k p l e s m args below meth c E H locs cells slots lsA C hW hS hL hc hs)
theorem R_lconst {M : MI} {pc nx : Nat} {ls : List (Option Value)} {st : List Value} {σ : AHp} {kc ks : Nat} {Q : Option Value → AHp → Prop} {n : Fin 2} {v : Int64} (h : At M pc (.lconst n) 1 nx) (hv : Int64.ofNat (n : Nat) = v) (k : Run M nx ls (.long v :: st) σ kc ks Q) : Run M pc ls (st) σ kc ks Q := by
  obtain ⟨hd, rfl⟩ := h
  intro p l e s m args below meth c E H locs cells slots lsA C hW hS hL hc hs
  exact lv_lconst C.1 C.2.1 hd hv (k p l e s m args below meth c E H locs cells slots lsA C hW hS hL hc hs)
theorem R_iload {M : MI} {pc nx : Nat} {ls : List (Option Value)} {st : List Value} {σ : AHp} {kc ks : Nat} {Q : Option Value → AHp → Prop} {i : Nat} {x : Int32} (h : At M pc (.iload i) 2 nx) (hl : ls[i]? = some (some (.int x))) (k : Run M nx ls (.int x :: st) σ kc ks Q) : Run M pc ls (st) σ kc ks Q := by
  obtain ⟨hd, rfl⟩ := h
  intro p l e s m args below meth c E H locs cells slots lsA C hW hS hL hc hs
  exact lv_iload C.1 C.2.1 hd (LsR.get hL hl) (k p l e s m args below meth c E H locs cells slots lsA C hW hS hL hc hs)
theorem R_iload_n {M : MI} {pc nx : Nat} {ls : List (Option Value)} {st : List Value} {σ : AHp} {kc ks : Nat} {Q : Option Value → AHp → Prop} {i : Fin 4} {x : Int32} (h : At M pc (.iload_n i) 1 nx) (hl : ls[(i : Nat)]? = some (some (.int x))) (k : Run M nx ls (.int x :: st) σ kc ks Q) : Run M pc ls st σ kc ks Q := by
  obtain ⟨hd, rfl⟩ := h
  intro p l e s m args below meth c E H locs cells slots lsA C hW hS hL hc hs
  exact lv_iload_n C.1 C.2.1 hd rfl (LsR.get hL hl) (k p l e s m args below meth c E H locs cells slots lsA C hW hS hL hc hs)
theorem R_lload {M : MI} {pc nx : Nat} {ls : List (Option Value)} {st : List Value} {σ : AHp} {kc ks : Nat} {Q : Option Value → AHp → Prop} {i : Nat} {x : Int64} (h : At M pc (.lload i) 2 nx) (hl : ls[i]? = some (some (.long x))) (k : Run M nx ls (.long x :: st) σ kc ks Q) : Run M pc ls (st) σ kc ks Q := by
  obtain ⟨hd, rfl⟩ := h
  intro p l e s m args below meth c E H locs cells slots lsA C hW hS hL hc hs
  exact lv_lload C.1 C.2.1 hd (LsR.get hL hl) (k p l e s m args below meth c E H locs cells slots lsA C hW hS hL hc hs)
theorem R_lload_n {M : MI} {pc nx : Nat} {ls : List (Option Value)} {st : List Value} {σ : AHp} {kc ks : Nat} {Q : Option Value → AHp → Prop} {i : Fin 4} {x : Int64} (h : At M pc (.lload_n i) 1 nx) (hl : ls[(i : Nat)]? = some (some (.long x))) (k : Run M nx ls (.long x :: st) σ kc ks Q) : Run M pc ls st σ kc ks Q := by
  obtain ⟨hd, rfl⟩ := h
  intro p l e s m args below meth c E H locs cells slots lsA C hW hS hL hc hs
  exact lv_lload_n C.1 C.2.1 hd rfl (LsR.get hL hl) (k p l e s m args below meth c E H locs cells slots lsA C hW hS hL hc hs)
theorem R_aload {M : MI} {pc nx : Nat} {ls : List (Option Value)} {st : List Value} {σ : AHp} {kc ks : Nat} {Q : Option Value → AHp → Prop} {i : Nat} {x : Nat} (h : At M pc (.aload i) 2 nx) (hl : ls[i]? = some (some (.ref x))) (k : Run M nx ls (.ref x :: st) σ kc ks Q) : Run M pc ls (st) σ kc ks Q := by
  obtain ⟨hd, rfl⟩ := h
  intro p l e s m args below meth c E H locs cells slots lsA C hW hS hL hc hs
  exact lv_aload C.1 C.2.1 hd (LsR.get hL hl) (k p l e s m args below meth c E H locs cells slots lsA C hW hS hL hc hs)
theorem R_aload_n {M : MI} {pc nx : Nat} {ls : List (Option Value)} {st : List Value} {σ : AHp} {kc ks : Nat} {Q : Option Value → AHp → Prop} {i : Fin 4} {x : Nat} (h : At M pc (.aload_n i) 1 nx) (hl : ls[(i : Nat)]? = some (some (.ref x))) (k : Run M nx ls (.ref x :: st) σ kc ks Q) : Run M pc ls st σ kc ks Q := by
  obtain ⟨hd, rfl⟩ := h
  intro p l e s m args below meth c E H locs cells slots lsA C hW hS hL hc hs
  exact lv_aload_n C.1 C.2.1 hd rfl (LsR.get hL hl) (k p l e s m args below meth c E H locs cells slots lsA C hW hS hL hc hs)
theorem R_istore {M : MI} {pc nx : Nat} {ls : List (Option Value)} {st : List Value} {σ : AHp} {kc ks : Nat} {Q : Option Value → AHp → Prop} {i : Nat} {x : Int32} {ls' : List (Option Value)} (h : At M pc (.istore i) 2 nx) (hi : Nat.ble (i + 1) M.mL = true) (hok : okS ls i = true) (hl : ls.set i (some (.int x)) = ls') (k : Run M nx ls' st σ kc ks Q) : Run M pc ls (.int x :: st) σ kc ks Q := by
  obtain ⟨hd, rfl⟩ := h
  subst hl
  intro p l e s m args below meth c E H locs cells slots lsA C hW hS hL hc hs
  exact lv_istore C.1 C.2.1 hd hL (Nat.le_of_ble_eq_true hi) rfl fun lsA' hL' => k p l e s m args below meth c E H locs cells slots lsA' C hW hS (LsR.set1 (v := .int x) hok hL') hc hs
theorem R_istore_n {M : MI} {pc nx : Nat} {ls : List (Option Value)} {st : List Value} {σ : AHp} {kc ks : Nat} {Q : Option Value → AHp → Prop} {i : Fin 4} {x : Int32} {ls' : List (Option Value)} (h : At M pc (.istore_n i) 1 nx) (hi : Nat.ble ((i : Nat) + 1) M.mL = true) (hok : okS ls (i : Nat) = true) (hl : ls.set (i : Nat) (some (.int x)) = ls') (k : Run M nx ls' st σ kc ks Q) : Run M pc ls (.int x :: st) σ kc ks Q := by
  obtain ⟨hd, rfl⟩ := h
  subst hl
  intro p l e s m args below meth c E H locs cells slots lsA C hW hS hL hc hs
  exact lv_istore_n C.1 C.2.1 hd rfl hL (Nat.le_of_ble_eq_true hi) rfl fun lsA' hL' => k p l e s m args below meth c E H locs cells slots lsA' C hW hS (LsR.set1 (v := .int x) hok hL') hc hs
theorem R_astore {M : MI} {pc nx : Nat} {ls : List (Option Value)} {st : List Value} {σ : AHp} {kc ks : Nat} {Q : Option Value → AHp → Prop} {i : Nat} {x : Nat} {ls' : List (Option Value)} (h : At M pc (.astore i) 2 nx) (hi : Nat.ble (i + 1) M.mL = true) (hok : okS ls i = true) (hl : ls.set i (some (.ref x)) = ls') (k : Run M nx ls' st σ kc ks Q) : Run M pc ls (.ref x :: st) σ kc ks Q := by
  obtain ⟨hd, rfl⟩ := h
  subst hl
  intro p l e s m args below meth c E H locs cells slots lsA C hW hS hL hc hs
  exact lv_astore C.1 C.2.1 hd hL (Nat.le_of_ble_eq_true hi) rfl fun lsA' hL' => k p l e s m args below meth c E H locs cells slots lsA' C hW hS (LsR.set1 (v := .ref x) hok hL') hc hs
theorem R_astore_n {M : MI} {pc nx : Nat} {ls : List (Option Value)} {st : List Value} {σ : AHp} {kc ks : Nat} {Q : Option Value → AHp → Prop} {i : Fin 4} {x : Nat} {ls' : List (Option Value)} (h : At M pc (.astore_n i) 1 nx) (hi : Nat.ble ((i : Nat) + 1) M.mL = true) (hok : okS ls (i : Nat) = true) (hl : ls.set (i : Nat) (some (.ref x)) = ls') (k : Run M nx ls' st σ kc ks Q) : Run M pc ls (.ref x :: st) σ kc ks Q := by
  obtain ⟨hd, rfl⟩ := h
  subst hl
  intro p l e s m args below meth c E H locs cells slots lsA C hW hS hL hc hs
  exact lv_astore_n C.1 C.2.1 hd rfl hL (Nat.le_of_ble_eq_true hi) rfl fun lsA' hL' => k p l e s m args below meth c E H locs cells slots lsA' C hW hS (LsR.set1 (v := .ref x) hok hL') hc hs
theorem R_lstore {M : MI} {pc nx : Nat} {ls : List (Option Value)} {st : List Value} {σ : AHp} {kc ks : Nat} {Q : Option Value → AHp → Prop} {i : Nat} {x : Int64} {ls' : List (Option Value)} (h : At M pc (.lstore i) 2 nx) (hi : Nat.ble (i + 2) M.mL = true) (hok : okS ls i = true) (hl : (ls.set i (some (.long x))).set (i + 1) none = ls') (k : Run M nx ls' st σ kc ks Q) : Run M pc ls (.long x :: st) σ kc ks Q := by
  obtain ⟨hd, rfl⟩ := h
  subst hl
  intro p l e s m args below meth c E H locs cells slots lsA C hW hS hL hc hs
  exact lv_lstore C.1 C.2.1 hd hL (Nat.le_of_ble_eq_true hi) rfl fun lsA' hL' => k p l e s m args below meth c E H locs cells slots lsA' C hW hS (LsR.set2 (v := .long x) hok hL') hc hs
theorem R_lstore_n {M : MI} {pc nx : Nat} {ls : List (Option Value)} {st : List Value} {σ : AHp} {kc ks : Nat} {Q : Option Value → AHp → Prop} {i : Fin 4} {x : Int64} {ls' : List (Option Value)} (h : At M pc (.lstore_n i) 1 nx) (hi : Nat.ble ((i : Nat) + 2) M.mL = true) (hok : okS ls (i : Nat) = true) (hl : (ls.set (i : Nat) (some (.long x))).set ((i : Nat) + 1) none = ls') (k : Run M nx ls' st σ kc ks Q) : Run M pc ls (.long x :: st) σ kc ks Q := by
  obtain ⟨hd, rfl⟩ := h
  subst hl
  intro p l e s m args below meth c E H locs cells slots lsA C hW hS hL hc hs
  exact lv_lstore_n C.1 C.2.1 hd rfl hL (Nat.le_of_ble_eq_true hi) rfl fun lsA' hL' => k p l e s m args below meth c E H locs cells slots lsA' C hW hS (LsR.set2 (v := .long x) hok hL') hc hs
theorem lvF_at {E : En} {ls : List (Option Value)} {i : Nat} {v : Value} (h : ls[i]? = some (some v)) : ∃ k : Nat, (lvF E 0 ls)[k]? = some (i, cv E v) := List.getElem?_of_mem (mem_lvF.mpr ⟨i, v, h, by simp⟩)
theorem R_iinc {M : MI} {pc nx : Nat} {ls : List (Option Value)} {st : List Value} {σ : AHp} {kc ks : Nat} {Q : Option Value → AHp → Prop} {i : Nat} {n : Int} {x v : Int32} {ls' : List (Option Value)} (h : At M pc (.iinc i n) 3 nx) (hx : ls[i]? = some (some (.int x))) (hv : x + Int32.ofInt n = v) (hi : Nat.ble (i + 1) M.mL = true) (hok : okS ls i = true) (hl : ls.set i (some (.int v)) = ls') (k : Run M nx ls' st σ kc ks Q) : Run M pc ls st σ kc ks Q := by
  obtain ⟨hd, rfl⟩ := h
  subst hl
  intro p l e s m args below meth c E H locs cells slots lsA C hW hS hL hc hs
  obtain ⟨j, hj⟩ := lvF_at (E := E) hx
  exact lv_iinc C.1 C.2.1 hd hL hj hv (Nat.le_of_ble_eq_true hi) rfl fun lsA' hL' => k p l e s m args below meth c E H locs cells slots lsA' C hW hS (LsR.set1 (v := .int v) hok hL') hc hs
theorem R_dup {M : MI} {pc nx : Nat} {ls : List (Option Value)} {st : List Value} {σ : AHp} {kc ks : Nat} {Q : Option Value → AHp → Prop} {va : Value} (h : At M pc (.dup) 1 nx) (hva : va.category = 1) (k : Run M nx ls (va :: va :: st) σ kc ks Q) : Run M pc ls (va :: st) σ kc ks Q := by
  obtain ⟨hd, rfl⟩ := h
  intro p l e s m args below meth c E H locs cells slots lsA C hW hS hL hc hs
  exact lv_dup C.1 C.2.1 hd (by rw [cv_cat]; exact hva) (k p l e s m args below meth c E H locs cells slots lsA C hW hS hL hc hs)
theorem R_pop {M : MI} {pc nx : Nat} {ls : List (Option Value)} {st : List Value} {σ : AHp} {kc ks : Nat} {Q : Option Value → AHp → Prop} {va : Value} (h : At M pc (.pop) 1 nx) (hva : va.category = 1) (k : Run M nx ls (st) σ kc ks Q) : Run M pc ls (va :: st) σ kc ks Q := by
  obtain ⟨hd, rfl⟩ := h
  intro p l e s m args below meth c E H locs cells slots lsA C hW hS hL hc hs
  exact lv_pop C.1 C.2.1 hd (by rw [cv_cat]; exact hva) (k p l e s m args below meth c E H locs cells slots lsA C hW hS hL hc hs)
theorem R_dup2 {M : MI} {pc nx : Nat} {ls : List (Option Value)} {st : List Value} {σ : AHp} {kc ks : Nat} {Q : Option Value → AHp → Prop} {va vb : Value} (h : At M pc (.dup2) 1 nx) (hva : va.category = 1) (hvb : vb.category = 1) (k : Run M nx ls (va :: vb :: va :: vb :: st) σ kc ks Q) : Run M pc ls (va :: vb :: st) σ kc ks Q := by
  obtain ⟨hd, rfl⟩ := h
  intro p l e s m args below meth c E H locs cells slots lsA C hW hS hL hc hs
  exact lv_dup2_11 C.1 C.2.1 hd (by rw [cv_cat]; exact hva) (by rw [cv_cat]; exact hvb) (k p l e s m args below meth c E H locs cells slots lsA C hW hS hL hc hs)
theorem R_iadd {M : MI} {pc nx : Nat} {ls : List (Option Value)} {st : List Value} {σ : AHp} {kc ks : Nat} {Q : Option Value → AHp → Prop} {x y : Int32} (h : At M pc (.iadd) 1 nx)  (k : Run M nx ls (.int (x + y) :: st) σ kc ks Q) : Run M pc ls (.int y :: .int x :: st) σ kc ks Q := by
  obtain ⟨hd, rfl⟩ := h
  intro p l e s m args below meth c E H locs cells slots lsA C hW hS hL hc hs
  exact lv_iadd C.1 C.2.1 hd  (k p l e s m args below meth c E H locs cells slots lsA C hW hS hL hc hs)
theorem R_isub {M : MI} {pc nx : Nat} {ls : List (Option Value)} {st : List Value} {σ : AHp} {kc ks : Nat} {Q : Option Value → AHp → Prop} {x y : Int32} (h : At M pc (.isub) 1 nx)  (k : Run M nx ls (.int (x - y) :: st) σ kc ks Q) : Run M pc ls (.int y :: .int x :: st) σ kc ks Q := by
  obtain ⟨hd, rfl⟩ := h
  intro p l e s m args below meth c E H locs cells slots lsA C hW hS hL hc hs
  exact lv_isub C.1 C.2.1 hd  (k p l e s m args below meth c E H locs cells slots lsA C hW hS hL hc hs)
theorem R_imul {M : MI} {pc nx : Nat} {ls : List (Option Value)} {st : List Value} {σ : AHp} {kc ks : Nat} {Q : Option Value → AHp → Prop} {x y : Int32} (h : At M pc (.imul) 1 nx)  (k : Run M nx ls (.int (x * y) :: st) σ kc ks Q) : Run M pc ls (.int y :: .int x :: st) σ kc ks Q := by
  obtain ⟨hd, rfl⟩ := h
  intro p l e s m args below meth c E H locs cells slots lsA C hW hS hL hc hs
  exact lv_imul C.1 C.2.1 hd  (k p l e s m args below meth c E H locs cells slots lsA C hW hS hL hc hs)
theorem R_iand {M : MI} {pc nx : Nat} {ls : List (Option Value)} {st : List Value} {σ : AHp} {kc ks : Nat} {Q : Option Value → AHp → Prop} {x y : Int32} (h : At M pc (.iand) 1 nx)  (k : Run M nx ls (.int (x &&& y) :: st) σ kc ks Q) : Run M pc ls (.int y :: .int x :: st) σ kc ks Q := by
  obtain ⟨hd, rfl⟩ := h
  intro p l e s m args below meth c E H locs cells slots lsA C hW hS hL hc hs
  exact lv_iand C.1 C.2.1 hd  (k p l e s m args below meth c E H locs cells slots lsA C hW hS hL hc hs)
theorem R_ior {M : MI} {pc nx : Nat} {ls : List (Option Value)} {st : List Value} {σ : AHp} {kc ks : Nat} {Q : Option Value → AHp → Prop} {x y : Int32} (h : At M pc (.ior) 1 nx)  (k : Run M nx ls (.int (x ||| y) :: st) σ kc ks Q) : Run M pc ls (.int y :: .int x :: st) σ kc ks Q := by
  obtain ⟨hd, rfl⟩ := h
  intro p l e s m args below meth c E H locs cells slots lsA C hW hS hL hc hs
  exact lv_ior C.1 C.2.1 hd  (k p l e s m args below meth c E H locs cells slots lsA C hW hS hL hc hs)
theorem R_ixor {M : MI} {pc nx : Nat} {ls : List (Option Value)} {st : List Value} {σ : AHp} {kc ks : Nat} {Q : Option Value → AHp → Prop} {x y : Int32} (h : At M pc (.ixor) 1 nx)  (k : Run M nx ls (.int (x ^^^ y) :: st) σ kc ks Q) : Run M pc ls (.int y :: .int x :: st) σ kc ks Q := by
  obtain ⟨hd, rfl⟩ := h
  intro p l e s m args below meth c E H locs cells slots lsA C hW hS hL hc hs
  exact lv_ixor C.1 C.2.1 hd  (k p l e s m args below meth c E H locs cells slots lsA C hW hS hL hc hs)
theorem R_ishl {M : MI} {pc nx : Nat} {ls : List (Option Value)} {st : List Value} {σ : AHp} {kc ks : Nat} {Q : Option Value → AHp → Prop} {x y : Int32} (h : At M pc (.ishl) 1 nx)  (k : Run M nx ls (.int (x <<< (y &&& 31)) :: st) σ kc ks Q) : Run M pc ls (.int y :: .int x :: st) σ kc ks Q := by
  obtain ⟨hd, rfl⟩ := h
  intro p l e s m args below meth c E H locs cells slots lsA C hW hS hL hc hs
  exact lv_ishl C.1 C.2.1 hd  (k p l e s m args below meth c E H locs cells slots lsA C hW hS hL hc hs)
theorem R_ishr {M : MI} {pc nx : Nat} {ls : List (Option Value)} {st : List Value} {σ : AHp} {kc ks : Nat} {Q : Option Value → AHp → Prop} {x y : Int32} (h : At M pc (.ishr) 1 nx)  (k : Run M nx ls (.int (x >>> (y &&& 31)) :: st) σ kc ks Q) : Run M pc ls (.int y :: .int x :: st) σ kc ks Q := by
  obtain ⟨hd, rfl⟩ := h
  intro p l e s m args below meth c E H locs cells slots lsA C hW hS hL hc hs
  exact lv_ishr C.1 C.2.1 hd  (k p l e s m args below meth c E H locs cells slots lsA C hW hS hL hc hs)
theorem R_idiv {M : MI} {pc nx : Nat} {ls : List (Option Value)} {st : List Value} {σ : AHp} {kc ks : Nat} {Q : Option Value → AHp → Prop} {x y : Int32} (h : At M pc (.idiv) 1 nx) (hne : ¬ y = 0) (k : Run M nx ls (.int (x / y) :: st) σ kc ks Q) : Run M pc ls (.int y :: .int x :: st) σ kc ks Q := by
  obtain ⟨hd, rfl⟩ := h
  intro p l e s m args below meth c E H locs cells slots lsA C hW hS hL hc hs
  exact lv_idiv C.1 C.2.1 hd hne (k p l e s m args below meth c E H locs cells slots lsA C hW hS hL hc hs)
theorem R_irem {M : MI} {pc nx : Nat} {ls : List (Option Value)} {st : List Value} {σ : AHp} {kc ks : Nat} {Q : Option Value → AHp → Prop} {x y : Int32} (h : At M pc (.irem) 1 nx) (hne : ¬ y = 0) (k : Run M nx ls (.int (x - x / y * y) :: st) σ kc ks Q) : Run M pc ls (.int y :: .int x :: st) σ kc ks Q := by
  obtain ⟨hd, rfl⟩ := h
  intro p l e s m args below meth c E H locs cells slots lsA C hW hS hL hc hs
  exact lv_irem C.1 C.2.1 hd hne (k p l e s m args below meth c E H locs cells slots lsA C hW hS hL hc hs)
theorem R_iushr {M : MI} {pc nx : Nat} {ls : List (Option Value)} {st : List Value} {σ : AHp} {kc ks : Nat} {Q : Option Value → AHp → Prop} {x y v : Int32} (h : At M pc (.iushr) 1 nx) (hv : (x.toUInt32 >>> (y.toUInt32 &&& Int32.toUInt32 31)).toInt32 = v) (k : Run M nx ls (.int v :: st) σ kc ks Q) : Run M pc ls (.int y :: .int x :: st) σ kc ks Q := by
  obtain ⟨hd, rfl⟩ := h
  intro p l e s m args below meth c E H locs cells slots lsA C hW hS hL hc hs
  exact lv_iushr C.1 C.2.1 hd hv (k p l e s m args below meth c E H locs cells slots lsA C hW hS hL hc hs)
theorem R_ineg {M : MI} {pc nx : Nat} {ls : List (Option Value)} {st : List Value} {σ : AHp} {kc ks : Nat} {Q : Option Value → AHp → Prop} {x : Int32} (h : At M pc (.ineg) 1 nx)  (k : Run M nx ls (.int (-x) :: st) σ kc ks Q) : Run M pc ls (.int x :: st) σ kc ks Q := by
  obtain ⟨hd, rfl⟩ := h
  intro p l e s m args below meth c E H locs cells slots lsA C hW hS hL hc hs
  exact lv_ineg C.1 C.2.1 hd  (k p l e s m args below meth c E H locs cells slots lsA C hW hS hL hc hs)
theorem R_ladd {M : MI} {pc nx : Nat} {ls : List (Option Value)} {st : List Value} {σ : AHp} {kc ks : Nat} {Q : Option Value → AHp → Prop} {x y : Int64} (h : At M pc (.ladd) 1 nx)  (k : Run M nx ls (.long (x + y) :: st) σ kc ks Q) : Run M pc ls (.long y :: .long x :: st) σ kc ks Q := by
  obtain ⟨hd, rfl⟩ := h
  intro p l e s m args below meth c E H locs cells slots lsA C hW hS hL hc hs
  exact lv_ladd C.1 C.2.1 hd  (k p l e s m args below meth c E H locs cells slots lsA C hW hS hL hc hs)
theorem R_lmul {M : MI} {pc nx : Nat} {ls : List (Option Value)} {st : List Value} {σ : AHp} {kc ks : Nat} {Q : Option Value → AHp → Prop} {x y : Int64} (h : At M pc (.lmul) 1 nx)  (k : Run M nx ls (.long (x * y) :: st) σ kc ks Q) : Run M pc ls (.long y :: .long x :: st) σ kc ks Q := by
  obtain ⟨hd, rfl⟩ := h
  intro p l e s m args below meth c E H locs cells slots lsA C hW hS hL hc hs
  exact lv_lmul C.1 C.2.1 hd  (k p l e s m args below meth c E H locs cells slots lsA C hW hS hL hc hs)
theorem R_ldiv {M : MI} {pc nx : Nat} {ls : List (Option Value)} {st : List Value} {σ : AHp} {kc ks : Nat} {Q : Option Value → AHp → Prop} {x y : Int64} (h : At M pc (.ldiv) 1 nx) (hne : ¬ y = 0) (k : Run M nx ls (.long (x / y) :: st) σ kc ks Q) : Run M pc ls (.long y :: .long x :: st) σ kc ks Q := by
  obtain ⟨hd, rfl⟩ := h
  intro p l e s m args below meth c E H locs cells slots lsA C hW hS hL hc hs
  exact lv_ldiv C.1 C.2.1 hd hne (k p l e s m args below meth c E H locs cells slots lsA C hW hS hL hc hs)
theorem R_lrem {M : MI} {pc nx : Nat} {ls : List (Option Value)} {st : List Value} {σ : AHp} {kc ks : Nat} {Q : Option Value → AHp → Prop} {x y : Int64} (h : At M pc (.lrem) 1 nx) (hne : ¬ y = 0) (k : Run M nx ls (.long (x - x / y * y) :: st) σ kc ks Q) : Run M pc ls (.long y :: .long x :: st) σ kc ks Q := by
  obtain ⟨hd, rfl⟩ := h
  intro p l e s m args below meth c E H locs cells slots lsA C hW hS hL hc hs
  exact lv_lrem C.1 C.2.1 hd hne (k p l e s m args below meth c E H locs cells slots lsA C hW hS hL hc hs)
theorem R_i2l {M : MI} {pc nx : Nat} {ls : List (Option Value)} {st : List Value} {σ : AHp} {kc ks : Nat} {Q : Option Value → AHp → Prop} {x : Int32} {v : Int64} (h : At M pc (.i2l) 1 nx) (hv : x.toInt64 = v) (k : Run M nx ls (.long v :: st) σ kc ks Q) : Run M pc ls (.int x :: st) σ kc ks Q := by
  obtain ⟨hd, rfl⟩ := h
  intro p l e s m args below meth c E H locs cells slots lsA C hW hS hL hc hs
  exact lv_i2l C.1 C.2.1 hd hv (k p l e s m args below meth c E H locs cells slots lsA C hW hS hL hc hs)
theorem R_l2i {M : MI} {pc nx : Nat} {ls : List (Option Value)} {st : List Value} {σ : AHp} {kc ks : Nat} {Q : Option Value → AHp → Prop} {x : Int64} {v : Int32} (h : At M pc (.l2i) 1 nx) (hv : x.toInt32 = v) (k : Run M nx ls (.int v :: st) σ kc ks Q) : Run M pc ls (.long x :: st) σ kc ks Q := by
  obtain ⟨hd, rfl⟩ := h
  intro p l e s m args below meth c E H locs cells slots lsA C hW hS hL hc hs
  exact lv_l2i C.1 C.2.1 hd hv (k p l e s m args below meth c E H locs cells slots lsA C hW hS hL hc hs)
theorem R_lcmp {M : MI} {pc nx : Nat} {ls : List (Option Value)} {st : List Value} {σ : AHp} {kc ks : Nat} {Q : Option Value → AHp → Prop} {x y : Int64} (h : At M pc (.lcmp) 1 nx)  (k : Run M nx ls (.int (lg_cmp x y) :: st) σ kc ks Q) : Run M pc ls (.long y :: .long x :: st) σ kc ks Q := by
  obtain ⟨hd, rfl⟩ := h
  intro p l e s m args below meth c E H locs cells slots lsA C hW hS hL hc hs
  exact W.lcmp C.1 C.2.1 hd  (k p l e s m args below meth c E H locs cells slots lsA C hW hS hL hc hs)
theorem R_top {M : MI} {pc : Nat} {ls : List (Option Value)} {st : List Value} {σ : AHp} {kc ks : Nat} {Q : Option Value → AHp → Prop} {x y : Int32} (h : x = y) (k : Run M pc ls (.int y :: st) σ kc ks Q) : Run M pc ls (.int x :: st) σ kc ks Q := h ▸ k
theorem R_topl {M : MI} {pc : Nat} {ls : List (Option Value)} {st : List Value} {σ : AHp} {kc ks : Nat} {Q : Option Value → AHp → Prop} {x y : Int64} (h : x = y) (k : Run M pc ls (.long y :: st) σ kc ks Q) : Run M pc ls (.long x :: st) σ kc ks Q := h ▸ k
theorem R_goto {M : MI} {pc nx nx' : Nat} {ls : List (Option Value)} {st : List Value} {σ : AHp} {kc ks : Nat} {Q : Option Value → AHp → Prop} (h : AtB M pc .goto nx nx') (k : Run M nx' ls st σ kc ks Q) : Run M pc ls st σ kc ks Q := by
  obtain ⟨off, hd, rfl, ht⟩ := h
  intro p l e s m args below meth c E H locs cells slots lsA C hW hS hL hc hs
  exact lv_goto C.1 C.2.1 hd ht (k p l e s m args below meth c E H locs cells slots lsA C hW hS hL hc hs)
theorem R_icmp_eq {M : MI} {pc nx tgt : Nat} {ls : List (Option Value)} {st : List Value} {σ : AHp} {kc ks : Nat} {Q : Option Value → AHp → Prop} {x y : Int32} (h : AtB M pc (.if_icmp .eq) nx tgt) (kt : x = y → Run M tgt ls st σ kc ks Q) (kf : ¬ x = y → Run M nx ls st σ kc ks Q) : Run M pc ls (.int y :: .int x :: st) σ kc ks Q := by
  obtain ⟨off, hd, rfl, ht⟩ := h
  intro p l e s m args below meth c E H locs cells slots lsA C hW hS hL hc hs
  exact lv_icmp_eq C.1 C.2.1 hd ht (fun q => kt q p l e s m args below meth c E H locs cells slots lsA C hW hS hL hc hs) (fun q => kf q p l e s m args below meth c E H locs cells slots lsA C hW hS hL hc hs)
theorem R_if_eq {M : MI} {pc nx tgt : Nat} {ls : List (Option Value)} {st : List Value} {σ : AHp} {kc ks : Nat} {Q : Option Value → AHp → Prop} {x : Int32} (h : AtB M pc (.ifCond .eq) nx tgt) (kt : x = 0 → Run M tgt ls st σ kc ks Q) (kf : ¬ x = 0 → Run M nx ls st σ kc ks Q) : Run M pc ls (.int x :: st) σ kc ks Q := by
  obtain ⟨off, hd, rfl, ht⟩ := h
  intro p l e s m args below meth c E H locs cells slots lsA C hW hS hL hc hs
  exact lv_if_eq C.1 C.2.1 hd ht (fun q => kt q p l e s m args below meth c E H locs cells slots lsA C hW hS hL hc hs) (fun q => kf q p l e s m args below meth c E H locs cells slots lsA C hW hS hL hc hs)
theorem R_icmp_ne {M : MI} {pc nx tgt : Nat} {ls : List (Option Value)} {st : List Value} {σ : AHp} {kc ks : Nat} {Q : Option Value → AHp → Prop} {x y : Int32} (h : AtB M pc (.if_icmp .ne) nx tgt) (kt : ¬ x = y → Run M tgt ls st σ kc ks Q) (kf : x = y → Run M nx ls st σ kc ks Q) : Run M pc ls (.int y :: .int x :: st) σ kc ks Q := by
  obtain ⟨off, hd, rfl, ht⟩ := h
  intro p l e s m args below meth c E H locs cells slots lsA C hW hS hL hc hs
  exact lv_icmp_ne C.1 C.2.1 hd ht (fun q => kt q p l e s m args below meth c E H locs cells slots lsA C hW hS hL hc hs) (fun q => kf q p l e s m args below meth c E H locs cells slots lsA C hW hS hL hc hs)
theorem R_if_ne {M : MI} {pc nx tgt : Nat} {ls : List (Option Value)} {st : List Value} {σ : AHp} {kc ks : Nat} {Q : Option Value → AHp → Prop} {x : Int32} (h : AtB M pc (.ifCond .ne) nx tgt) (kt : ¬ x = 0 → Run M tgt ls st σ kc ks Q) (kf : x = 0 → Run M nx ls st σ kc ks Q) : Run M pc ls (.int x :: st) σ kc ks Q := by
  obtain ⟨off, hd, rfl, ht⟩ := h
  intro p l e s m args below meth c E H locs cells slots lsA C hW hS hL hc hs
  exact lv_if_ne C.1 C.2.1 hd ht (fun q => kt q p l e s m args below meth c E H locs cells slots lsA C hW hS hL hc hs) (fun q => kf q p l e s m args below meth c E H locs cells slots lsA C hW hS hL hc hs)
theorem R_icmp_lt {M : MI} {pc nx tgt : Nat} {ls : List (Option Value)} {st : List Value} {σ : AHp} {kc ks : Nat} {Q : Option Value → AHp → Prop} {x y : Int32} (h : AtB M pc (.if_icmp .lt) nx tgt) (kt : x < y → Run M tgt ls st σ kc ks Q) (kf : ¬ x < y → Run M nx ls st σ kc ks Q) : Run M pc ls (.int y :: .int x :: st) σ kc ks Q := by
  obtain ⟨off, hd, rfl, ht⟩ := h
  intro p l e s m args below meth c E H locs cells slots lsA C hW hS hL hc hs
  exact lv_icmp_lt C.1 C.2.1 hd ht (fun q => kt q p l e s m args below meth c E H locs cells slots lsA C hW hS hL hc hs) (fun q => kf q p l e s m args below meth c E H locs cells slots lsA C hW hS hL hc hs)
theorem R_if_lt {M : MI} {pc nx tgt : Nat} {ls : List (Option Value)} {st : List Value} {σ : AHp} {kc ks : Nat} {Q : Option Value → AHp → Prop} {x : Int32} (h : AtB M pc (.ifCond .lt) nx tgt) (kt : x < 0 → Run M tgt ls st σ kc ks Q) (kf : ¬ x < 0 → Run M nx ls st σ kc ks Q) : Run M pc ls (.int x :: st) σ kc ks Q := by
  obtain ⟨off, hd, rfl, ht⟩ := h
  intro p l e s m args below meth c E H locs cells slots lsA C hW hS hL hc hs
  exact lv_if_lt C.1 C.2.1 hd ht (fun q => kt q p l e s m args below meth c E H locs cells slots lsA C hW hS hL hc hs) (fun q => kf q p l e s m args below meth c E H locs cells slots lsA C hW hS hL hc hs)
theorem R_icmp_ge {M : MI} {pc nx tgt : Nat} {ls : List (Option Value)} {st : List Value} {σ : AHp} {kc ks : Nat} {Q : Option Value → AHp → Prop} {x y : Int32} (h : AtB M pc (.if_icmp .ge) nx tgt) (kt : y ≤ x → Run M tgt ls st σ kc ks Q) (kf : ¬ y ≤ x → Run M nx ls st σ kc ks Q) : Run M pc ls (.int y :: .int x :: st) σ kc ks Q := by
  obtain ⟨off, hd, rfl, ht⟩ := h
  intro p l e s m args below meth c E H locs cells slots lsA C hW hS hL hc hs
  exact lv_icmp_ge C.1 C.2.1 hd ht (fun q => kt q p l e s m args below meth c E H locs cells slots lsA C hW hS hL hc hs) (fun q => kf q p l e s m args below meth c E H locs cells slots lsA C hW hS hL hc hs)
theorem R_if_ge {M : MI} {pc nx tgt : Nat} {ls : List (Option Value)} {st : List Value} {σ : AHp} {kc ks : Nat} {Q : Option Value → AHp → Prop} {x : Int32} (h : AtB M pc (.ifCond .ge) nx tgt) (kt : 0 ≤ x → Run M tgt ls st σ kc ks Q) (kf : ¬ 0 ≤ x → Run M nx ls st σ kc ks Q) : Run M pc ls (.int x :: st) σ kc ks Q := by
  obtain ⟨off, hd, rfl, ht⟩ := h
  intro p l e s m args below meth c E H locs cells slots lsA C hW hS hL hc hs
  exact lv_if_ge C.1 C.2.1 hd ht (fun q => kt q p l e s m args below meth c E H locs cells slots lsA C hW hS hL hc hs) (fun q => kf q p l e s m args below meth c E H locs cells slots lsA C hW hS hL hc hs)
theorem R_icmp_gt {M : MI} {pc nx tgt : Nat} {ls : List (Option Value)} {st : List Value} {σ : AHp} {kc ks : Nat} {Q : Option Value → AHp → Prop} {x y : Int32} (h : AtB M pc (.if_icmp .gt) nx tgt) (kt : y < x → Run M tgt ls st σ kc ks Q) (kf : ¬ y < x → Run M nx ls st σ kc ks Q) : Run M pc ls (.int y :: .int x :: st) σ kc ks Q := by
  obtain ⟨off, hd, rfl, ht⟩ := h
  intro p l e s m args below meth c E H locs cells slots lsA C hW hS hL hc hs
  exact lv_icmp_gt C.1 C.2.1 hd ht (fun q => kt q p l e s m args below meth c E H locs cells slots lsA C hW hS hL hc hs) (fun q => kf q p l e s m args below meth c E H locs cells slots lsA C hW hS hL hc hs)
theorem R_if_gt {M : MI} {pc nx tgt : Nat} {ls : List (Option Value)} {st : List Value} {σ : AHp} {kc ks : Nat} {Q : Option Value → AHp → Prop} {x : Int32} (h : AtB M pc (.ifCond .gt) nx tgt) (kt : 0 < x → Run M tgt ls st σ kc ks Q) (kf : ¬ 0 < x → Run M nx ls st σ kc ks Q) : Run M pc ls (.int x :: st) σ kc ks Q := by
  obtain ⟨off, hd, rfl, ht⟩ := h
  intro p l e s m args below meth c E H locs cells slots lsA C hW hS hL hc hs
  exact lv_if_gt C.1 C.2.1 hd ht (fun q => kt q p l e s m args below meth c E H locs cells slots lsA C hW hS hL hc hs) (fun q => kf q p l e s m args below meth c E H locs cells slots lsA C hW hS hL hc hs)
theorem R_icmp_le {M : MI} {pc nx tgt : Nat} {ls : List (Option Value)} {st : List Value} {σ : AHp} {kc ks : Nat} {Q : Option Value → AHp → Prop} {x y : Int32} (h : AtB M pc (.if_icmp .le) nx tgt) (kt : x ≤ y → Run M tgt ls st σ kc ks Q) (kf : ¬ x ≤ y → Run M nx ls st σ kc ks Q) : Run M pc ls (.int y :: .int x :: st) σ kc ks Q := by
  obtain ⟨off, hd, rfl, ht⟩ := h
  intro p l e s m args below meth c E H locs cells slots lsA C hW hS hL hc hs
  exact lv_icmp_le C.1 C.2.1 hd ht (fun q => kt q p l e s m args below meth c E H locs cells slots lsA C hW hS hL hc hs) (fun q => kf q p l e s m args below meth c E H locs cells slots lsA C hW hS hL hc hs)
theorem R_if_le {M : MI} {pc nx tgt : Nat} {ls : List (Option Value)} {st : List Value} {σ : AHp} {kc ks : Nat} {Q : Option Value → AHp → Prop} {x : Int32} (h : AtB M pc (.ifCond .le) nx tgt) (kt : x ≤ 0 → Run M tgt ls st σ kc ks Q) (kf : ¬ x ≤ 0 → Run M nx ls st σ kc ks Q) : Run M pc ls (.int x :: st) σ kc ks Q := by
  obtain ⟨off, hd, rfl, ht⟩ := h
  intro p l e s m args below meth c E H locs cells slots lsA C hW hS hL hc hs
  exact lv_if_le C.1 C.2.1 hd ht (fun q => kt q p l e s m args below meth c E H locs cells slots lsA C hW hS hL hc hs) (fun q => kf q p l e s m args below meth c E H locs cells slots lsA C hW hS hL hc hs)
theorem R_tswI {M : MI} {pc nx tgt : Nat} {ls : List (Option Value)} {st : List Value} {σ : AHp} {kc ks : Nat} {Q : Option Value → AHp → Prop} {len : Nat} {dflt lo hi off c0 : Int} {offs : Array Int} {x : Int32} (h : At M pc (.tableswitch dflt lo hi offs) len nx) (hx : x.toInt = c0) (h1 : ¬ c0 < lo) (h2 : ¬ hi < c0) (ho : offs[(c0 - lo).toNat]? = some off) (ht : (pc : Int) + off = (tgt : Int)) (k : Run M tgt ls st σ kc ks Q) : Run M pc ls (.int x :: st) σ kc ks Q := by
  obtain ⟨hd, rfl⟩ := h
  subst hx
  intro p l e s m args below meth c E H locs cells slots lsA C hW hS hL hc hs
  exact lv_tableIn C.1 C.2.1 hd h1 h2 ho ht (k p l e s m args below meth c E H locs cells slots lsA C hW hS hL hc hs)
theorem R_tswO {M : MI} {pc nx tgt : Nat} {ls : List (Option Value)} {st : List Value} {σ : AHp} {kc ks : Nat} {Q : Option Value → AHp → Prop} {len : Nat} {dflt lo hi : Int} {offs : Array Int} {x : Int32} (h : At M pc (.tableswitch dflt lo hi offs) len nx) (hx : x.toInt < lo ∨ hi < x.toInt) (ht : (pc : Int) + dflt = (tgt : Int)) (k : Run M tgt ls st σ kc ks Q) : Run M pc ls (.int x :: st) σ kc ks Q := by
  obtain ⟨hd, rfl⟩ := h
  intro p l e s m args below meth c E H locs cells slots lsA C hW hS hL hc hs
  exact lv_tableOut C.1 C.2.1 hd hx ht (k p l e s m args below meth c E H locs cells slots lsA C hW hS hL hc hs)
theorem R_lsw {M : MI} {pc nx tgt : Nat} {ls : List (Option Value)} {st : List Value} {σ : AHp} {kc ks : Nat} {Q : Option Value → AHp → Prop} {len : Nat} {dflt off : Int} {ps : Array (Int × Int)} {x : Int32} (h : At M pc (.lookupswitch dflt ps) len nx) (hp : (ps.toList.zip (ps.toList.drop 1)).all (fun (a, next) => a.1 < next.1) = true) (ho : Op.lookupswitch.offset ps.toList dflt x.toInt = off) (ht : (pc : Int) + off = (tgt : Int)) (k : Run M tgt ls st σ kc ks Q) : Run M pc ls (.int x :: st) σ kc ks Q := by
  obtain ⟨hd, rfl⟩ := h
  intro p l e s m args below meth c E H locs cells slots lsA C hW hS hL hc hs
  exact lv_lookup C.1 C.2.1 hd hp ho ht (k p l e s m args below meth c E H locs cells slots lsA C hW hS hL hc hs)
