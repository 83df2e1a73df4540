/-! ===== RULES: the heap ===== -/
theorem Cx.K {M : MI} {E : En} {p : Program} {s : State} {m : MethodId} {args : Array Value} {meth : Method} {c : Code} (C : Cx M E p s m args meth c) : va_K E.D vwCl (tysE E) s := C.2.2.2.2.2.2.2.2.1
theorem Cx.ts {M : MI} {E : En} {p : Program} {s : State} {m : MethodId} {args : Array Value} {meth : Method} {c : Code} (C : Cx M E p s m args meth c) : ∀ w ∈ wsM M, w.before args s = true := C.2.2.2.2.2.1
theorem Cx.own {M : MI} {E : En} {p : Program} {s : State} {m : MethodId} {args : Array Value} {meth : Method} {c : Code} (C : Cx M E p s m args meth c) : s.vm.findClass M.y.cls = some m.cls := C.2.2.2.2.1
theorem Cx.lt {M : MI} {E : En} {p : Program} {s : State} {m : MethodId} {args : Array Value} {meth : Method} {c : Code} (C : Cx M E p s m args meth c) {w : Cond} (h : w ∈ LT) : w.before args s = true := C.ts w (wsM_LT h)
theorem Wd.obj {E : En} {U : State} {σ : AHp} {H : Heap} {q ci : Nat} {fs : List Value} (h : Wd E U σ H) (hq : σ q = some (oB ci fs)) : q ≠ 0 ∧ va_at E.D vwCl (ad E q, .inr (ci, fs.map (cv E))) H := by
  have h0 : q ≠ 0 := by
    rintro rfl
    obtain ⟨L, xs, h1, -⟩ := h.2.1 _ hq
    cases h1
  exact ⟨h0, h.1 q _ h0 hq⟩
theorem Wd.P1 {E : En} {U : State} {σ : AHp} {H : Heap} {q ci : Nat} {fs : List Value} (h : Wd E U σ H) (hq : σ q = some (oB ci fs)) : va_P E.D vwCl [(ad E q, .inr (ci, fs.map (cv E)))] H := by
  intro k x hx
  have hk : k < 1 := (List.getElem?_eq_some_iff.mp hx).1
  rw [show k = 0 by omega] at hx
  cases hx
  exact (h.obj hq).2
def GF (M : MI) (pc ci k nx : Nat) : Prop := ∃ (C : String) (T : u_T) (N idx : Nat), decode M.code pc = .ok (.getfield idx, 3) ∧ pc + 3 = nx ∧ vwCl[ci]? = some (C, T, N) ∧ k < N ∧ (∀ w ∈ u_ws C T N, w ∈ LT) ∧ Cond.fieldLink M.y.cls idx (T k).1 (T k).2.1 (T k).2.2.1 ∈ LT
def PF (M : MI) (pc ci k : Nat) (ty : FieldType) (nx : Nat) : Prop := ∃ (C : String) (T : u_T) (N idx : Nat) (ty0 : Nat → FieldType), decode M.code pc = .ok (.putfield idx, 3) ∧ pc + 3 = nx ∧ vwCl[ci]? = some (C, T, N) ∧ k < N ∧ (∀ w ∈ u_ws C T N, w ∈ LT) ∧ Cond.fieldLink M.y.cls idx (T k).1 (T k).2.1 (T k).2.2.1 ∈ LT ∧ (∀ k, k < N → parseFieldDescriptor (T k).2.2.1 = some (ty0 k)) ∧ (∀ a, a < N → ∀ b, b < N → a ≠ b → (T a).2.1 ≠ (T b).2.1) ∧ ty0 k = ty ∧ ((T k).2.2.2 = false ∨ ((T k).2.2.2 = true ∧ M.y.name = "<init>" ∧ (T k).1 = M.y.cls))

theorem R_get {M : MI} {pc nx : Nat} {ls : List (Option Value)} {st : List Value} {σ : AHp} {kc ks : Nat} {Q : Option Value → AHp → Prop} {ci k q : Nat} {fs : List Value} {v : Value} (h : GF M pc ci k nx) (hσ : σ q = some (oB ci fs)) (hv : fs[k]? = some v) (kk : Run M nx ls (v :: st) σ kc ks Q) : Run M pc ls (.ref q :: st) σ kc ks Q := by
  obtain ⟨C0, T, N, idx, hd, rfl, hcl, hk, hin, hlk⟩ := h
  intro p l e s m args below meth c E H locs cells slots lsA C hW hS hL hc hs
  exact va_get (D := E.D) (cl := vwCl) (ci := ci) (C := C0) (T := T) (N := N) (ref := (T k).1) C.1 C.2.1 C.ts (fun w hw => wsM_LT (hin w hw)) C.own C.K (hW.P1 hσ) 0 rfl hcl k hk (C.lt hlk) (fun _ h9 => h9) (v := cv E v) (by simp [hv]) hd (kk p l e s m args below meth c E H locs cells slots lsA C hW hS hL hc hs)
theorem R_put0 {M : MI} {pc nx : Nat} {ls : List (Option Value)} {st : List Value} {σ : AHp} {kc ks : Nat} {Q : Option Value → AHp → Prop} {ci k q : Nat} {fs fs' : List Value} {v : Value} {ty : FieldType} (h : PF M pc ci k ty nx) (hσ : σ q = some (oB ci fs)) (hv : ∀ E, narrow ty (cv E v) = cv E v ∧ fits ty (cv E v) = true) (hl : Nat.ble (k + 1) fs.length = true) (hs' : fs.set k v = fs') (kk : Run M nx ls st (up σ q (oB ci fs')) kc ks Q) : Run M pc ls (v :: .ref q :: st) σ kc ks Q := by
  obtain ⟨C0, T, N, idx, ty0, hd, rfl, hcl, hk, hin, hlk, hty, hnm, rfl, hfin⟩ := h
  subst hs'
  intro p l e s m args below meth c E H locs cells slots lsA C hW hS hL hc hs
  have hlen : k < fs.length := Nat.le_of_ble_eq_true hl
  have hP := hW.P1 hσ
  have hin' : ∀ w ∈ u_ws C0 T N, w ∈ wsM M := fun w hw => wsM_LT (hin w hw)
  have hap := va_apart (own := M.y.cls) (D := E.D) C.ts hin' ty0 hty hnm C.K hcl
  obtain ⟨r, h1, cell, q1, q2, q3, q4⟩ := hP 0 _ rfl
  have hr : r = (C0, T, N) := Option.some.inj (h1.symm.trans hcl)
  subst hr
  obtain ⟨hSl, hfc, kC, hkC, hkind⟩ := C.K.1 ci _ hcl
  obtain ⟨cf, kf, fi, f, hi, hsl⟩ := hSl k hk
  have hlay := C.ts _ (hin' _ (u_in_lay hk))
  have hst := (u_facts hfc hkC (u_lays C.ts hin' hk) hi).1
  have fin : ∀ (H' : Heap) (locs' : List Loc), H'[ad E q]? = some (cell.setSlot (E.D.2 ci k) (cv E v)) → H'.size = H.size → (∀ x : Nat, x ≠ ad E q → H'[x]? = H[x]?) → va_S (AE E) s.heap H' locs' → W p l e M.rm s m args below meth c H' locs' cells slots (MQ below (Qa E Q) args s M.rm.cells M.rm.slots (AE E)) (F0 m (pc + 3) lsA (st.map (cv E))) := by
    intro H' locs' e1 e2 e3 hS'
    refine kk p l e s m args below meth c E H' locs' cells slots lsA C (hW.put (hW.obj hσ).1 hσ ?_ e2 e3) hS' hL hc hs
    show va_at E.D vwCl (ad E q, .inr (ci, (fs.set k v).map (cv E))) H'
    rw [List.map_set]
    exact ⟨_, hcl, t_OB.to (V := updV (vp_V (fs.map (cv E))) k (cv E v)) ⟨_, e1, q2, q3, t_set q4 hap hk (cv E v)⟩ (fun j _ => vp_updV_set (by simpa using hlen) (cv E v) j)⟩
  rcases hfin with hfin | ⟨hfin, hinit, hdecl⟩
  · unfold u_lay at hlay
    rw [if_neg (by rw [hfin]; decide)] at hlay
    have h6 := u_store hfc hkC hkind hlay hi (hty k hk) (hv E).1 (hv E).2
    refine W.putK C.1 C.2.1 (f := f) ⟨C.own, C.lt hlk, ⟨_, _, _, hi⟩, hst⟩ (by rw [q2]; exact h6) q1 q3 (by rw [hsl]; exact k2_hasslot (q4 k hk)) rfl rfl hd fun H' e1 e2 e3 => ?_
    rw [hsl] at e1 ⊢
    exact fin H' _ e1 e2 e3 (hS.put e2 e3 (AE_ad (hW.obj hσ).1))
  · unfold u_lay at hlay
    rw [if_pos hfin] at hlay
    have hcf : m.cls = cf := by
      obtain ⟨_, _, c', _, _, _, -, -, hf', -, -, -, hown2, -⟩ := Cond.laysFinal_spec hlay
      have e1 : c' = cf := by have := hi.symm.trans hf'; simp at this; exact this.1.symm
      rw [hdecl] at hown2
      rw [← e1]; exact Option.some.inj (C.own.symm.trans hown2)
    have h6 := u_fits hfc hkC hkind (Or.inr hlay) hi (hty k hk) (hv E).1 (hv E).2
    refine W.putFinK C.1 C.2.1 C.own (C.lt hlk) hi hst hcf (C.2.2.2.2.2.2.2.1.trans hinit) (by rw [q2]; exact h6) q1 q3 (by rw [hsl]; exact k2_hasslot (q4 k hk)) rfl rfl hd fun H' e1 e2 e3 => ?_
    rw [hsl] at e1 ⊢
    exact fin H' _ e1 e2 e3 (hS.put e2 e3 (AE_ad (hW.obj hσ).1))
theorem R_puti {M : MI} {pc nx : Nat} {ls : List (Option Value)} {st : List Value} {σ : AHp} {kc ks : Nat} {Q : Option Value → AHp → Prop} {ci k q : Nat} {fs fs' : List Value} {x : Int32} (h : PF M pc ci k .int nx) (hσ : σ q = some (oB ci fs)) (hl : Nat.ble (k + 1) fs.length = true) (hs' : fs.set k (.int x) = fs') (kk : Run M nx ls st (up σ q (oB ci fs')) kc ks Q) : Run M pc ls (.int x :: .ref q :: st) σ kc ks Q := R_put0 h hσ (fun _ => ⟨rfl, rfl⟩) hl hs' kk
theorem R_puta {M : MI} {pc nx : Nat} {ls : List (Option Value)} {st : List Value} {σ : AHp} {kc ks : Nat} {Q : Option Value → AHp → Prop} {ci k q x : Nat} {fs fs' : List Value} {ty : FieldType} (h : PF M pc ci k ty nx) (hσ : σ q = some (oB ci fs)) (hv : ∀ a, narrow ty (.ref a) = .ref a ∧ fits ty (.ref a) = true) (hl : Nat.ble (k + 1) fs.length = true) (hs' : fs.set k (.ref x) = fs') (kk : Run M nx ls st (up σ q (oB ci fs')) kc ks Q) : Run M pc ls (.ref x :: .ref q :: st) σ kc ks Q := R_put0 h hσ (fun _ => hv _) hl hs' kk
theorem Wd.arr {E : En} {U : State} {σ : AHp} {H : Heap} {q t n : Nat} {f : Nat → Int32} (h : Wd E U σ H) (h0 : q ≠ 0) (hq : σ q = some (iA t n f)) : H[ad E q]? = some (vp_cell (E.dA t) (n, .inl f)) ∧ t < 2 := h.1 q _ h0 hq
theorem Wd.arrR {E : En} {U : State} {σ : AHp} {H : Heap} {q t n : Nat} {f : Nat → Option Nat} (h : Wd E U σ H) (hq : σ q = some (rA t n f)) : q ≠ 0 ∧ H[ad E q]? = some (vp_cell (E.dA t) (n, .inr (.inr (.inr (.inr (fun j => (f j).map (ad E))))))) ∧ (t = 2 ∨ t = 3) := by
  have h0 : q ≠ 0 := by
    rintro rfl
    obtain ⟨L, xs, h1, -⟩ := h.2.1 _ hq
    cases h1
  exact ⟨h0, h.1 q _ h0 hq⟩
theorem ty0E (E : En) : (tysE E)[0]? = some (E.dA 0, .int) := rfl
theorem ty1E (E : En) : (tysE E)[1]? = some (E.dA 1, .boolean) := rfl
theorem R_iald {M : MI} {pc nx : Nat} {ls : List (Option Value)} {st : List Value} {σ : AHp} {kc ks : Nat} {Q : Option Value → AHp → Prop} {q n : Nat} {f : Nat → Int32} {i : Int32} (h : At M pc .iaload 1 nx) (hσ : σ q = some (iA 0 n f)) (hi : vp_in i n) (kk : Run M nx ls (.int (f i.toNatClampNeg) :: st) σ kc ks Q) : Run M pc ls (.int i :: .ref q :: st) σ kc ks Q := by
  obtain ⟨hd, rfl⟩ := h
  intro p l e s m args below meth c E H locs cells slots lsA C hW hS hL hc hs
  have hlt : i.toNatClampNeg < n := Nat.not_le.mp fun q => hi (Or.inr q)
  by_cases h0 : q = 0
  · subst h0
    obtain ⟨L, xs, h1, h2⟩ := hW.2.1 _ hσ
    cases h1
    obtain ⟨scr, g1, g2, g3, g4, g5⟩ := h2
    exact W.iald (v := .int (f i.toNatClampNeg)) C.1 C.2.1 (by rw [ad_0]; exact g1) g2 g3 (by rw [g4]; exact hi) (g5 _ hlt) rfl rfl hd (kk p l e s m args below meth c E H locs cells slots lsA C hW hS hL hc hs)
  · obtain ⟨h1, -⟩ := hW.arr h0 hσ
    exact W.iald (v := .int (f i.toNatClampNeg)) C.1 C.2.1 h1 ((C.K.2 0 _ (ty0E E)).1 n (fun j => .int (f j))) (fun q => by cases q) (by show ¬ (i < 0 ∨ (arrV _ _ _).slots.size ≤ _); rw [arrV_size]; exact hi) (by show (arrV _ _ _).slots[_]? = _; rw [arrV_read _ _ hlt]) rfl rfl hd (kk p l e s m args below meth c E H locs cells slots lsA C hW hS hL hc hs)
theorem R_zald {M : MI} {pc nx : Nat} {ls : List (Option Value)} {st : List Value} {σ : AHp} {kc ks : Nat} {Q : Option Value → AHp → Prop} {q n : Nat} {f : Nat → Int32} {i : Int32} (h : At M pc .baload 1 nx) (h0 : q ≠ 0) (hσ : σ q = some (iA 1 n f)) (hi : vp_in i n) (kk : Run M nx ls (.int (f i.toNatClampNeg) :: st) σ kc ks Q) : Run M pc ls (.int i :: .ref q :: st) σ kc ks Q := by
  obtain ⟨hd, rfl⟩ := h
  intro p l e s m args below meth c E H locs cells slots lsA C hW hS hL hc hs
  have hlt : i.toNatClampNeg < n := Nat.not_le.mp fun q => hi (Or.inr q)
  obtain ⟨h1, -⟩ := hW.arr h0 hσ
  exact W.zald (v := .int (f i.toNatClampNeg)) C.1 C.2.1 h1 ((C.K.2 1 _ (ty1E E)).1 n (fun j => .int (f j))) (fun q => by cases q) (by show ¬ (i < 0 ∨ (arrV _ _ _).slots.size ≤ _); rw [arrV_size]; exact hi) (by show (arrV _ _ _).slots[_]? = _; rw [arrV_read _ _ hlt]) rfl rfl hd (kk p l e s m args below meth c E H locs cells slots lsA C hW hS hL hc hs)
theorem upd_V (cA : ClassId) (n k : Nat) (f : Nat → Int32) (x : Int32) : (vp_cell cA (n, .inl f)).setSlot k (.int x) = vp_cell cA (n, .inl (upd f k x)) := by
  rw [vp_cell_i, vp_cell_i, arrV_store]
  congr 1
  funext q
  by_cases hq : q = k <;> simp [updV, upd, hq]
theorem R_iast {M : MI} {pc nx : Nat} {ls : List (Option Value)} {st : List Value} {σ : AHp} {kc ks : Nat} {Q : Option Value → AHp → Prop} {q n : Nat} {f : Nat → Int32} {i x : Int32} (h : At M pc .iastore 1 nx) (h0 : q ≠ 0) (hσ : σ q = some (iA 0 n f)) (hi : vp_in i n) (kk : Run M nx ls st (up σ q (iA 0 n (upd f i.toNatClampNeg x))) kc ks Q) : Run M pc ls (.int x :: .int i :: .ref q :: st) σ kc ks Q := by
  obtain ⟨hd, rfl⟩ := h
  intro p l e s m args below meth c E H locs cells slots lsA C hW hS hL hc hs
  obtain ⟨h1, -⟩ := hW.arr h0 hσ
  refine W.iast C.1 C.2.1 h1 ((C.K.2 0 _ (ty0E E)).1 n (fun j => .int (f j))) (fun q => by cases q) (by show ¬ (i < 0 ∨ (arrV _ _ _).slots.size ≤ _); rw [arrV_size]; exact hi) rfl rfl hd fun H1 e9 z oq => ?_
  rw [upd_V] at e9
  exact kk p l e s m args below meth c E H1 _ cells slots lsA C (hW.put h0 hσ ⟨e9, Nat.zero_lt_two⟩ z oq) (hS.put z oq (AE_ad h0)) hL hc hs
theorem R_zast {M : MI} {pc nx : Nat} {ls : List (Option Value)} {st : List Value} {σ : AHp} {kc ks : Nat} {Q : Option Value → AHp → Prop} {q n : Nat} {f : Nat → Int32} {i x : Int32} (h : At M pc .bastore 1 nx) (h0 : q ≠ 0) (hσ : σ q = some (iA 1 n f)) (hi : vp_in i n) (hx : narrow .boolean (.int x) = .int x) (kk : Run M nx ls st (up σ q (iA 1 n (upd f i.toNatClampNeg x))) kc ks Q) : Run M pc ls (.int x :: .int i :: .ref q :: st) σ kc ks Q := by
  obtain ⟨hd, rfl⟩ := h
  intro p l e s m args below meth c E H locs cells slots lsA C hW hS hL hc hs
  obtain ⟨h1, -⟩ := hW.arr h0 hσ
  refine W.zast C.1 C.2.1 h1 ((C.K.2 1 _ (ty1E E)).1 n (fun j => .int (f j))) (fun q => by cases q) (by show ¬ (i < 0 ∨ (arrV _ _ _).slots.size ≤ _); rw [arrV_size]; exact hi) rfl rfl hd fun H1 e9 z oq => ?_
  rw [hx, upd_V] at e9
  exact kk p l e s m args below meth c E H1 _ cells slots lsA C (hW.put h0 hσ ⟨e9, Nat.one_lt_two⟩ z oq) (hS.put z oq (AE_ad h0)) hL hc hs
theorem R_alen {M : MI} {pc nx : Nat} {ls : List (Option Value)} {st : List Value} {σ : AHp} {kc ks : Nat} {Q : Option Value → AHp → Prop} {q n : Nat} {f : Nat → Int32} (h : At M pc .arraylength 1 nx) (hσ : σ q = some (iA 0 n f)) (kk : Run M nx ls (.int (nI n) :: st) σ kc ks Q) : Run M pc ls (.ref q :: st) σ kc ks Q := by
  obtain ⟨hd, rfl⟩ := h
  intro p l e s m args below meth c E H locs cells slots lsA C hW hS hL hc hs
  by_cases h0 : q = 0
  · subst h0
    obtain ⟨L, xs, h1, h2⟩ := hW.2.1 _ hσ
    cases h1
    obtain ⟨scr, g1, g2, g3, g4, g5⟩ := h2
    exact W.alen (n := nI n) C.1 C.2.1 (by rw [ad_0]; exact g1) g2 (by rw [g4] <;> rfl) rfl rfl hd (kk p l e s m args below meth c E H locs cells slots lsA C hW hS hL hc hs)
  · obtain ⟨h1, -⟩ := hW.arr h0 hσ
    exact W.alen (n := nI n) C.1 C.2.1 h1 ((C.K.2 0 _ (ty0E E)).1 n (fun j => .int (f j))) (by rw [vp_cell_i, arrV_size] <;> rfl) rfl rfl hd (kk p l e s m args below meth c E H locs cells slots lsA C hW hS hL hc hs)
theorem R_aald {M : MI} {pc nx : Nat} {ls : List (Option Value)} {st : List Value} {σ : AHp} {kc ks : Nat} {Q : Option Value → AHp → Prop} {q t n r : Nat} {f : Nat → Option Nat} {i : Int32} (h : At M pc .aaload 1 nx) (hσ : σ q = some (rA t n f)) (hi : vp_in i n) (hr : f i.toNatClampNeg = some r) (kk : Run M nx ls (.ref r :: st) σ kc ks Q) : Run M pc ls (.int i :: .ref q :: st) σ kc ks Q := by
  obtain ⟨hd, rfl⟩ := h
  intro p l e s m args below meth c E H locs cells slots lsA C hW hS hL hc hs
  have hlt : i.toNatClampNeg < n := Nat.not_le.mp fun q => hi (Or.inr q)
  obtain ⟨h0, h1, ht⟩ := hW.arrR hσ
  obtain ⟨ty, hty, hrt⟩ : ∃ ty, (tysE E)[t]? = some (E.dA t, ty) ∧ ty.isReference = true := by
    rcases ht with rfl | rfl
    · exact ⟨_, rfl, rfl⟩
    · exact ⟨_, rfl, rfl⟩
  exact W.aald (v := .ref (ad E r)) (ty := ty) C.1 C.2.1 h1 ((C.K.2 t _ hty).1 n (fun j => va_rf ((f j).map (ad E)))) hrt (fun q => by cases q) (by show ¬ (i < 0 ∨ (arrV _ _ _).slots.size ≤ _); rw [arrV_size]; exact hi) (by show (arrV _ _ _).slots[_]? = _; rw [arrV_read _ _ hlt]; show some (va_rf ((f _).map (ad E))) = _; rw [hr]; rfl) rfl rfl hd (kk p l e s m args below meth c E H locs cells slots lsA C hW hS hL hc hs)
theorem upR_V (cA : ClassId) (n k : Nat) (E : En) (f : Nat → Option Nat) (x : Nat) : (vp_cell cA (n, .inr (.inr (.inr (.inr (fun j => (f j).map (ad E))))))).setSlot k (.ref (ad E x)) = vp_cell cA (n, .inr (.inr (.inr (.inr (fun j => (va_up f k (some x) j).map (ad E)))))) := by
  rw [vp_cell_q, vp_cell_q, arrV_store]
  congr 1
  funext q
  by_cases hq : q = k <;> simp [updV, va_up, hq, va_rf]
theorem R_aast {M : MI} {pc nx : Nat} {ls : List (Option Value)} {st : List Value} {σ : AHp} {kc ks : Nat} {Q : Option Value → AHp → Prop} {q t n v ci : Nat} {vs : List Value} {f : Nat → Option Nat} {i : Int32} (h : At M pc .aastore 1 nx) (hσ : σ q = some (rA t n f)) (hv : σ v = some (oB ci vs)) (htc : (t = 2 ∧ ci = 6) ∨ (t = 3 ∧ ci = 0)) (hi : vp_in i n) (kk : Run M nx ls st (up σ q (rA t n (va_up f i.toNatClampNeg (some v)))) kc ks Q) : Run M pc ls (.ref v :: .int i :: .ref q :: st) σ kc ks Q := by
  obtain ⟨hd, rfl⟩ := h
  intro p l e s m args below meth c E H locs cells slots lsA C hW hS hL hc hs
  have hlt : i.toNatClampNeg < n := Nat.not_le.mp fun q => hi (Or.inr q)
  have hi0 : ¬ i < 0 := fun q => hi (Or.inl q)
  obtain ⟨h0, h1, ht⟩ := hW.arrR hσ
  obtain ⟨r, hr, hty⟩ : ∃ r : vw_C, vwCl[ci]? = some r ∧ (tysE E)[t]? = some (E.dA t, .object r.1) := by
    rcases htc with ⟨rfl, rfl⟩ | ⟨rfl, rfl⟩
    · exact ⟨_, rfl, rfl⟩
    · exact ⟨_, rfl, rfl⟩
  obtain ⟨r', hr', cellV, g1, g2, g3, -⟩ := (hW.obj hv).2
  have hcls := (C.K.1 ci r hr).2
  obtain ⟨kA, comp, k1, k2, k3, -⟩ := (C.K.2 t _ hty).2
  have hcomp : comp = E.D.1 ci := Option.some.inj (k3.symm.trans hcls.1)
  subst hcomp
  obtain ⟨kC, hkC, -⟩ := hcls.2
  refine W.aast C.1 C.2.1 h1 (fun q h => by cases h) (fun h => by cases h) k1 k2 rfl hkC ⟨hi0, by show _ < (arrV _ _ _).slots.size; rw [arrV_size]; exact hlt⟩ g1 (fun q h => by rw [g3] at h; cases h) (by rw [g2]; exact hkC) (by rw [g2]; exact va_assign hcls) rfl rfl hd fun H1 e9 z oq => ?_
  rw [upR_V] at e9
  exact kk p l e s m args below meth c E H1 _ cells slots lsA C (hW.put h0 hσ ⟨e9, ht⟩ z oq) (hS.put z oq (AE_ad h0)) hL hc hs
def NF (M : MI) (pc ci : Nat) (N : Nat) (fs : List Value) (nx : Nat) : Prop := ∃ (C : String) (T : u_T) (idx : Nat) (ty : Nat → FieldType), decode M.code pc = .ok (.new idx, 3) ∧ pc + 3 = nx ∧ vwCl[ci]? = some (C, T, N) ∧ (∀ w ∈ u_ws C T N, w ∈ LT) ∧ (∀ k, k < N → parseFieldDescriptor (T k).2.2.1 = some (ty k)) ∧ Cond.classLink M.y.cls idx C ∈ LT ∧ Cond.instantiable C N ∈ LT ∧ Cond.initialized C ∈ LT ∧ ∀ E : En, ∀ j, j < N → defaultValue (ty j) = vp_V (fs.map (cv E)) j
theorem R_new {M : MI} {pc nx : Nat} {ls : List (Option Value)} {st : List Value} {σ : AHp} {kc ks : Nat} {Q : Option Value → AHp → Prop} {ci N : Nat} {fs : List Value} (q : Nat) (h : NF M pc ci N fs nx) (hq : q ≠ 0) (hn : σ q = none) (hp : q = 1 ∨ ∃ c, σ (q - 1) = some c) (kk : Run M nx ls (.ref q :: st) (up σ q (oB ci fs)) kc ks Q) : Run M pc ls st σ (kc + 1) (ks + N) Q := by
  obtain ⟨C0, T, idx, ty, hd, rfl, hcl, hin, hty, hcl2, hins, hini, hfs⟩ := h
  intro p l e s m args below meth c E H locs cells slots lsA C hW hS hL hc hs
  have had := hW.next hq hn hp
  have hin' : ∀ w ∈ u_ws C0 T N, w ∈ wsM M := fun w hw => wsM_LT (hin w hw)
  have hKn := C.K.1 ci _ hcl
  refine W.newcK C.1 C.2.1 C.own (C.lt hcl2) (C.lt hins) (C.lt hini) rfl hd (by omega) (by omega) hKn.2.1 rfl fun H1 kC hkC e1 z1 o1 => ?_
  have hc1 : cAt E q (oB ci fs) H1 := by
    show va_at E.D vwCl (ad E q, .inr (ci, fs.map (cv E))) H1
    rw [had]
    exact ⟨_, hcl, (u_born ty C.ts hin' hKn hkC e1 hty).to (hfs E)⟩
  have := kk p l e s m args below meth c E H1 locs (cells + 1) (slots + N) lsA C (hW.new hq had hc1 z1 o1) ⟨Nat.le_trans hS.1 (by omega), fun x h1 h2 => (o1 x (Nat.lt_of_lt_of_le h1 hS.1)).trans (hS.2.1 x h1 h2), hS.2.2⟩ hL (by omega) (by omega)
  rw [← had]
  exact this
theorem R_newi {M : MI} {pc nx : Nat} {ls : List (Option Value)} {st : List Value} {σ : AHp} {kc ks : Nat} {Q : Option Value → AHp → Prop} {N : Nat} {n : Int32} (q : Nat) (h : At M pc (.newarray .int) 2 nx) (hN : n = nI N) (hb : N < 100000) (hq : q ≠ 0) (hn : σ q = none) (hp : q = 1 ∨ ∃ c, σ (q - 1) = some c) (kk : Run M nx ls (.ref q :: st) (up σ q (iA 0 N (fun _ => 0))) kc ks Q) (hw : Cond.arrayClass .int ∈ LT) : Run M pc ls (.int n :: st) σ (kc + 1) (ks + N) Q := by
  obtain ⟨hd, rfl⟩ := h
  subst hN
  intro p l e s m args below meth c E H locs cells slots lsA C hW hS hL hc hs
  have had := hW.next hq hn hp
  refine va_newaK (atype := .int) C.1 C.2.1 (C.lt hw) rfl hd rfl (nI_pos (by omega)) (nI_clamp (by omega)) (by simp [componentBytes, newarray.typeOf]; omega) (by omega) (by omega) rfl fun H1 cA e1 z1 o1 hAr hNm => ?_
  have hcA : cA = E.dA 0 := by
    have h2 := (C.K.2 0 _ (ty0E E)).2
    exact Option.some.inj (hNm.symm.trans h2)
  subst hcA
  have hc1 : cAt E q (iA 0 N (fun _ => 0)) H1 := ⟨by rw [had]; exact e1, Nat.zero_lt_two⟩
  have := kk p l e s m args below meth c E H1 locs (cells + 1) (slots + N) lsA C (hW.new hq had hc1 z1 o1) ⟨Nat.le_trans hS.1 (by omega), fun x h1 h2 => (o1 x (Nat.lt_of_lt_of_le h1 hS.1)).trans (hS.2.1 x h1 h2), hS.2.2⟩ hL (by omega) (by omega)
  rw [← had]
  exact this
theorem R_newz {M : MI} {pc nx : Nat} {ls : List (Option Value)} {st : List Value} {σ : AHp} {kc ks : Nat} {Q : Option Value → AHp → Prop} {N : Nat} {n : Int32} (q : Nat) (h : At M pc (.newarray .boolean) 2 nx) (hN : n = nI N) (hb : N < 100000) (hq : q ≠ 0) (hn : σ q = none) (hp : q = 1 ∨ ∃ c, σ (q - 1) = some c) (kk : Run M nx ls (.ref q :: st) (up σ q (iA 1 N (fun _ => 0))) kc ks Q) (hw : Cond.arrayClass .boolean ∈ LT) : Run M pc ls (.int n :: st) σ (kc + 1) (ks + N) Q := by
  obtain ⟨hd, rfl⟩ := h
  subst hN
  intro p l e s m args below meth c E H locs cells slots lsA C hW hS hL hc hs
  have had := hW.next hq hn hp
  refine va_newaK (atype := .boolean) C.1 C.2.1 (C.lt hw) rfl hd rfl (nI_pos (by omega)) (nI_clamp (by omega)) (by simp [componentBytes, newarray.typeOf]; omega) (by omega) (by omega) rfl fun H1 cA e1 z1 o1 hAr hNm => ?_
  have hcA : cA = E.dA 1 := by
    have h2 := (C.K.2 1 _ (ty1E E)).2
    exact Option.some.inj (hNm.symm.trans h2)
  subst hcA
  have hc1 : cAt E q (iA 1 N (fun _ => 0)) H1 := ⟨by rw [had]; exact e1, Nat.one_lt_two⟩
  have := kk p l e s m args below meth c E H1 locs (cells + 1) (slots + N) lsA C (hW.new hq had hc1 z1 o1) ⟨Nat.le_trans hS.1 (by omega), fun x h1 h2 => (o1 x (Nat.lt_of_lt_of_le h1 hS.1)).trans (hS.2.1 x h1 h2), hS.2.2⟩ hL (by omega) (by omega)
  rw [← had]
  exact this
theorem R_newr {M : MI} {pc nx : Nat} {ls : List (Option Value)} {st : List Value} {σ : AHp} {kc ks : Nat} {Q : Option Value → AHp → Prop} {t N : Nat} {n : Int32} {Cn : String} {idx : Nat} (q : Nat) (h : At M pc (.anewarray idx) 3 nx) (hlk : Cond.classLink M.y.cls idx Cn ∈ LT) (htc : (t = 2 ∧ Cn = RX6) ∨ (t = 3 ∧ Cn = RX0)) (hN : n = nI N) (hb : N < 100000) (hq : q ≠ 0) (hn : σ q = none) (hp : q = 1 ∨ ∃ c, σ (q - 1) = some c) (kk : Run M nx ls (.ref q :: st) (up σ q (rA t N (fun _ => none))) kc ks Q) : Run M pc ls (.int n :: st) σ (kc + 1) (ks + N) Q := by
  obtain ⟨hd, rfl⟩ := h
  subst hN
  intro p l e s m args below meth c E H locs cells slots lsA C hW hS hL hc hs
  have had := hW.next hq hn hp
  have hcl : (nI N).toNatClampNeg = N := nI_clamp (by omega)
  have hov : va_AO Cn s := by
    rcases htc with ⟨-, rfl⟩ | ⟨-, rfl⟩
    · exact C.2.2.2.2.2.2.2.2.2.2.1
    · exact C.2.2.2.2.2.2.2.2.2.2.2.1
  refine W.anew C.1 C.2.1 C.own (C.lt hlk) (va_AO.use hov) rfl hd rfl (nI_pos (by omega)) (by rw [hcl]; omega) (by omega) (by rw [hcl]; omega) fun cA kA comp f1 f2 f3 f4 => ?_
  rw [hcl]
  generalize hH1 : H.push ({ cls := cA, slots := Array.replicate N .null, vm := .none } : Cell) = H1
  have z1 : H1.size = H.size + 1 := by rw [← hH1, Array.size_push]
  have e1 : H1[H.size]? = some (arrV cA N (fun _ => .null)) := by rw [← hH1, Array.getElem?_push_size, ← arrV_new]
  have o1 : ∀ q : Nat, q < H.size → H1[q]? = H[q]? := fun q hq => by rw [← hH1, Array.getElem?_push, if_neg (Nat.ne_of_lt hq)]
  have ht : t = 2 ∨ t = 3 := by
    rcases htc with ⟨h, -⟩ | ⟨h, -⟩
    · exact Or.inl h
    · exact Or.inr h
  have hcA : cA = E.dA t := by
    have hty : (tysE E)[t]? = some (E.dA t, .object Cn) := by
      rcases htc with ⟨rfl, rfl⟩ | ⟨rfl, rfl⟩ <;> rfl
    obtain ⟨_, _, -, -, -, k4⟩ := (C.K.2 t _ hty).2
    exact Option.some.inj (f1.symm.trans k4)
  subst hcA
  have hc1 : cAt E q (rA t N (fun _ => none)) H1 := ⟨by rw [had]; exact e1, ht⟩
  have := kk p l e s m args below meth c E H1 locs (cells + 1) (slots + N) lsA C (hW.new hq had hc1 z1 o1) ⟨Nat.le_trans hS.1 (by omega), fun x h1 h2 => (o1 x (Nat.lt_of_lt_of_le h1 hS.1)).trans (hS.2.1 x h1 h2), hS.2.2⟩ hL (by omega) (by omega)
  rw [← had]
  exact this
theorem R_ldc2 {M : MI} {pc nx : Nat} {ls : List (Option Value)} {st : List Value} {σ : AHp} {kc ks : Nat} {Q : Option Value → AHp → Prop} {idx : Nat} {v : Int64} (h : At M pc (.ldc2_w idx) 3 nx) (hw : Cond.constantLong M.y.cls idx v ∈ LT) (kk : Run M nx ls (.long v :: st) σ kc ks Q) : Run M pc ls st σ kc ks Q := by
  obtain ⟨hd, rfl⟩ := h
  intro p l e s m args below meth c E H locs cells slots lsA C hW hS hL hc hs
  exact lv_ldc2 C.1 C.2.1 C.own (C.lt hw) hd (kk p l e s m args below meth c E H locs cells slots lsA C hW hS hL hc hs)
theorem R_ldcw {M : MI} {pc nx : Nat} {ls : List (Option Value)} {st : List Value} {σ : AHp} {kc ks : Nat} {Q : Option Value → AHp → Prop} {idx : Nat} {v : Int32} (h : At M pc (.ldc_w idx) 3 nx) (hw : Cond.constant M.y.cls idx v ∈ LT) (kk : Run M nx ls (.int v :: st) σ kc ks Q) : Run M pc ls st σ kc ks Q := by
  obtain ⟨hd, rfl⟩ := h
  intro p l e s m args below meth c E H locs cells slots lsA C hW hS hL hc hs
  exact lv_ldcw C.1 C.2.1 C.own (C.lt hw) hd (kk p l e s m args below meth c E H locs cells slots lsA C hW hS hL hc hs)
theorem R_ldcS {M : MI} {pc nx : Nat} {ls : List (Option Value)} {st : List Value} {σ : AHp} {kc ks : Nat} {Q : Option Value → AHp → Prop} (h : At M pc (.ldc 79) 2 nx) (hM : M.y.cls = RX10) (kk : Run M nx ls (.float 0 :: st) σ kc ks Q) : Run M pc ls st σ kc ks Q := by
  obtain ⟨hd, rfl⟩ := h
  intro p l e s m args below meth c E H locs cells slots lsA C hW hS hL hc hs
  have hR : vk_R RX10 79 tx0 E.sk s := C.2.2.2.2.2.2.2.2.2.1.2.1
  exact va_ldcS C.1 C.2.1 (by rw [← hM]; exact C.own) hR hd (kk p l e s m args below meth c E H locs cells slots lsA C hW hS hL hc hs)
