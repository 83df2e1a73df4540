/-! ===== RULES: calls and returns ===== -/
/-- what a call site needs of its callee M' (n parameters) -/
def CB (M M' : MI) (n : Nat) : Prop := Cond.code M'.y M'.code M'.mL M'.ret ∈ LT ∧ Cond.initialized M'.y.cls ∈ LT ∧ (M'.y.cls ≠ "java/lang/invoke/MethodHandle" ∧ M'.y.cls ≠ "java/lang/invoke/VarHandle" ∧ (parseMethodDescriptor M'.y.desc).map (fun d => d.parameters.length) = some n) ∧ (M'.rm.frames + 1 ≤ M.rm.frames ∧ 8 + (M'.mL + 11) + M'.rm.locals ≤ M.rm.locals)
def CV (M : MI) (pc : Nat) (M' : MI) (n ci nx : Nat) : Prop := ∃ idx, decode M.code pc = .ok (.invokevirtual idx, 3) ∧ pc + 3 = nx ∧ CB M M' n ∧ Cond.methodLink M.y.cls idx M'.y ∈ LT ∧ Cond.instanceMethod M'.y ∈ LT ∧ Cond.selects M'.y.cls M'.y M'.y ∈ LT ∧ (vwCl[ci]?).map (fun q => q.1) = some M'.y.cls
def CS (M : MI) (pc : Nat) (M' : MI) (n nx : Nat) : Prop := ∃ idx, decode M.code pc = .ok (.invokestatic idx, 3) ∧ pc + 3 = nx ∧ CB M M' n ∧ Cond.methodLink M.y.cls idx M'.y ∈ LT ∧ Cond.static M'.y ∈ LT
def CI (M : MI) (pc : Nat) (M' : MI) (n nx : Nat) : Prop := ∃ idx, decode M.code pc = .ok (.invokespecial idx, 3) ∧ pc + 3 = nx ∧ CB M M' n ∧ (Cond.methodLink M.y.cls idx M'.y ∈ LT ∨ ∃ host, Cond.methodLinkNest M.y.cls idx M'.y host ∈ NL) ∧ Cond.instanceMethod M'.y ∈ LT ∧ M'.y.name = "<init>" ∧ M'.ret = none
theorem CB.of {M M' : MI} {n : Nat} {E : En} {p : Program} {s : State} {m : MethodId} {args : Array Value} {meth : Method} {c : Code} (h : CB M M' n) (C : Cx M E p s m args meth c) {idx : Nat} (hl : Cond.methodLink M.y.cls idx M'.y ∈ LT) : CallB M.rm s args M.y.cls idx M'.y M'.code M'.mL M'.ret (wsM M') M'.rm M'.rm.cells M'.rm.slots n :=
  callB_of n C.ts (wsM_in h.1) rfl rfl rfl (C.lt h.2.1) (C.lt hl) h.2.2.1 h.2.2.2
theorem Kc.warm {E : En} {s U : State} {H : Heap} {locs : List Loc} (hS : va_S (AE E) s.heap H locs) (hU : U.heap = H) (hW : s.WarmedH U.vm) (h : Kc E s) : Kc E U := ⟨h.1.moved hW.alike, h.2.1.warm hS hU hW, h.2.2.1.moved hW.alike, h.2.2.2.1.moved hW.alike, h.2.2.2.2.warm hW⟩
theorem Ev.blind {av : List Value} {E : En} {σ : AHp} : FrameBlind (va_Pc (av.map (cv E)) (fun U => Wd E U σ U.heap ∧ Kc E U)) := by
  intro a U g mk h
  obtain ⟨h1, h2, h3, h4, h5, h6, h7⟩ := h
  exact ⟨h1, Wd.moved (u := U) (U := U.calling g mk a) (Vm.Alike.refl U.vm) h2, va_K.moved (u := U) (U := U.calling g mk a) (Vm.Alike.refl U.vm) h3, SK.same (s := U) rfl rfl h4, va_AO.moved (u := U) (U := U.calling g mk a) (Vm.Alike.refl U.vm) h5, va_AO.moved (u := U) (U := U.calling g mk a) (Vm.Alike.refl U.vm) h6, NK.same (s := U) rfl h7⟩
theorem Ev.pre {M : MI} {E : En} {p : Program} {s : State} {m : MethodId} {args : Array Value} {meth : Method} {c : Code} {av : List Value} {σ : AHp} {H : Heap} {locs : List Loc} (C : Cx M E p s m args meth c) (hW : Wd E s σ H) (hS : va_S (AE E) s.heap H locs) : ∀ U : State, U.heap = H → s.WarmedH U.vm → va_Pc (av.map (cv E)) (fun U => Wd E U σ U.heap ∧ Kc E U) (av.map (cv E)).toArray U :=
  fun U hU hwU => ⟨rfl, by rw [hU]; exact hW.moved hwU.alike, Kc.warm hS hU hwU C.2.2.2.2.2.2.2.2⟩
/-- behind a call -/
theorem Run.back {M : MI} {pc : Nat} {ls : List (Option Value)} {st : List Value} {kc ks : Nat} {Q : Option Value → AHp → Prop} {Q' : Option Value → AHp → Prop} {st0 : List Value} {p : Program} {l : Launch} {e : Env} {s : State} {m : MethodId} {args : Array Value} {below : List Frame} {meth : Method} {c : Code} {E : En} {H : Heap} {locs : List Loc} {cells slots mc ms : Nat} {lsA : Array Slot} {a : Array Value} (C : Cx M E p s m args meth c) (hS : va_S (AE E) s.heap H locs) (hL : LsR E ls lsA M.mL) (hc : cells + mc + kc ≤ M.rm.cells) (hs : slots + ms + ks ≤ M.rm.slots)
    (hr : va_Run p l e M.rm s m args below meth c H locs cells slots mc ms (F0 m pc lsA st0) (st.map (cv E)) (Qa E Q' a) (AE E)) (kk : ∀ r σ', Q' r σ' → Run M (pc + 3) ls (r.toList ++ st) σ' kc ks Q) : W p l e M.rm s m args below meth c H locs cells slots (MQ below (Qa E Q) args s M.rm.cells M.rm.slots (AE E)) (F0 m pc lsA st0) := by
  intro T hT X
  obtain ⟨v, st₀, t, T', L, h0, X', hLo, e1, e2, ⟨r, σ', hv, hQ, hWd, hz, hk⟩, hgo⟩ := hr T hT X
  cases hv
  rw [h0] at hz hk
  have hS' : va_S (AE E) s.heap T'.heap (locs ++ L) := ⟨Nat.le_trans hS.1 (by rw [e1]; exact hz), fun q h1 h2 => by rw [e1, hk q (Nat.lt_of_lt_of_le h1 hS.1) h2]; exact hS.2.1 q h1 h2, fun q hq => by
      rcases List.mem_append.mp hq with h | h
      · exact hS.2.2 q h
      · exact hLo q h⟩
  have hW' : Wd E s σ' T'.heap := by
    rw [e1]
    exact hWd.moved (by have := X'.warmed.alike; rw [e2] at this; exact this.symm)
  obtain ⟨t2, a1, b1⟩ := kk r σ' hQ p l e s m args below meth c E T'.heap (locs ++ L) (cells + mc) (slots + ms) lsA C hW' hS' hL hc hs T' rfl X'
  refine ⟨t2, hgo t2 ?_, b1⟩
  have he : ({ F0 m pc lsA st0 with pc := (F0 m pc lsA st0).pc + 3, stack := (r.map (cv E)).toList ++ st.map (cv E) } : JFrame) = F0 m (pc + 3) lsA ((r.toList ++ st).map (cv E)) := by
    cases r <;> rfl
  rw [he]
  exact a1
theorem cat_sum (E : En) (st : List Value) : ((st.map (cv E)).map fun v => v.category).sum = (st.map fun v => v.category).sum := by
  rw [List.map_map]
  congr 1
  exact List.map_congr_left (fun v _ => cv_cat E v)
theorem R_callV {M : MI} {pc nx : Nat} {ls : List (Option Value)} {st : List Value} {σ : AHp} {kc ks : Nat} {Q : Option Value → AHp → Prop} {M' : MI} {n ci b : Nat} {fs As st0 : List Value} {Q' : Option Value → AHp → Prop} (h : CV M pc M' n ci nx) (hσ : σ b = some (oB ci fs)) (hev : Ev M' (.ref b :: As) σ Q') (hn : As.length = n) (hst : As.reverse ++ .ref b :: st = st0) (hW8 : Nat.ble (st.map fun v => v.category).sum 8 = true) (kk : ∀ r σ', Q' r σ' → Run M nx ls (r.toList ++ st) σ' kc ks Q) : Run M pc ls st0 σ (M'.rm.cells + kc) (M'.rm.slots + ks) Q := by
  obtain ⟨idx, hd, rfl, hB, hl, hin, hse, hci⟩ := h
  subst hst
  intro p l e s m args below meth c E H locs cells slots lsA C hW hS hL hc hs
  have hrecv : ∃ cellB : Cell, H[ad E b]? = some cellB ∧ cellB.vm.isStatics = false ∧ s.vm.findClass M'.y.cls = some cellB.cls := by
    cases hq : vwCl[ci]? with
    | none => rw [hq] at hci; cases hci
    | some q =>
      rw [hq] at hci
      have hq1 : q.1 = M'.y.cls := Option.some.inj hci
      rw [← hq1]
      exact va_recv C.K (hW.P1 hσ) hq (q0 := 0) rfl
  refine Run.back C hS hL (by omega) (by omega) (va_runV (As := As.map (cv E)) (b := ad E b) ⟨C.1, C.2.1, C.2.2.2.1, C.own, C.ts⟩ (hev l E) ⟨hB.of C hl, C.lt hin, C.lt hse⟩ ⟨Ev.blind, hrecv, Ev.pre (av := .ref b :: As) C hW hS⟩ rfl (by simpa using hn) hL.1 (by simp [cv]) (lv_room (by rw [cat_sum]; exact Nat.le_of_ble_eq_true hW8)) hd ⟨by omega, by omega⟩) kk
theorem R_callS {M : MI} {pc nx : Nat} {ls : List (Option Value)} {st : List Value} {σ : AHp} {kc ks : Nat} {Q : Option Value → AHp → Prop} {M' : MI} {n : Nat} {As st0 : List Value} {Q' : Option Value → AHp → Prop} (h : CS M pc M' n nx) (hev : Ev M' As σ Q') (hn : As.length = n) (hst : As.reverse ++ st = st0) (hW8 : Nat.ble (st.map fun v => v.category).sum 8 = true) (kk : ∀ r σ', Q' r σ' → Run M nx ls (r.toList ++ st) σ' kc ks Q) : Run M pc ls st0 σ (M'.rm.cells + kc) (M'.rm.slots + ks) Q := by
  obtain ⟨idx, hd, rfl, hB, hl, hstat⟩ := h
  subst hst
  intro p l e s m args below meth c E H locs cells slots lsA C hW hS hL hc hs
  refine Run.back C hS hL (by omega) (by omega) (va_runS (As := As.map (cv E)) ⟨C.1, C.2.1, C.2.2.2.1, C.own, C.ts⟩ (hev l E) ⟨hB.of C hl, C.lt hstat⟩ ⟨Ev.blind, Ev.pre (av := As) C hW hS⟩ rfl (by simpa using hn) hL.1 (by simp) (lv_room (by rw [cat_sum]; exact Nat.le_of_ble_eq_true hW8)) hd ⟨by omega, by omega⟩) kk
theorem R_callI {M : MI} {pc nx : Nat} {ls : List (Option Value)} {st : List Value} {σ : AHp} {kc ks : Nat} {Q : Option Value → AHp → Prop} {M' : MI} {n b : Nat} {As st0 : List Value} {Q' : Option Value → AHp → Prop} (h : CI M pc M' n nx) (hev : Ev M' (.ref b :: As) σ Q') (hn : As.length = n) (hst : As.reverse ++ .ref b :: st = st0) (hW8 : Nat.ble (st.map fun v => v.category).sum 8 = true) (kk : ∀ r σ', Q' r σ' → Run M nx ls (r.toList ++ st) σ' kc ks Q) : Run M pc ls st0 σ (M'.rm.cells + kc) (M'.rm.slots + ks) Q := by
  obtain ⟨idx, hd, rfl, hB, hl, hin, hnm, hret⟩ := h
  subst hst
  intro p l e s m args below meth c E H locs cells slots lsA C hW hS hL hc hs
  rcases hl with hl | ⟨host, hl⟩
  · refine Run.back C hS hL (by omega) (by omega) (va_runI (As := As.map (cv E)) (b := ad E b) ⟨C.1, C.2.1, C.2.2.2.1, C.own, C.ts⟩ (hev l E) ⟨by have := hB.of C hl; rw [hret] at this; exact this, hnm, C.lt hin⟩ ⟨Ev.blind, Ev.pre (av := .ref b :: As) C hW hS⟩ rfl (by simpa using hn) hL.1 (by simp [cv]) (lv_room (by rw [cat_sum]; exact Nat.le_of_ble_eq_true hW8)) hd ⟨by omega, by omega⟩) kk
  · refine Run.back C hS hL (by omega) (by omega) (va_runIN (As := As.map (cv E)) (b := ad E b) (host := host) (bytes := M'.code) (maxL := M'.mL) ⟨C.1, C.2.1, C.2.2.2.1, C.own, C.ts⟩ (hev l E) ⟨⟨⟨rfl, rfl, hB.2.2.2.1, hB.2.2.2.2, pay_in C.ts (wsM_in hB.1), (by rw [← hret]; exact List.mem_cons_self)⟩, ?_, C.lt hB.2.1, ⟨hB.2.2.1.1, hB.2.2.1.2.1⟩, ?_, va_Nw.use rfl (C.2.2.2.2.2.2.2.2.2.2.2.2 _ hl)⟩, hnm, C.lt hin⟩ ⟨Ev.blind, Ev.pre (av := .ref b :: As) C hW hS⟩ rfl (by simpa using hn) hL.1 (by simp [cv]) (lv_room (by rw [cat_sum]; exact Nat.le_of_ble_eq_true hW8)) hd ⟨by omega, by omega⟩) kk
    · have := C.lt hB.1
      rw [hret] at this
      exact this
    · intro sig hsig
      have h2 := hB.2.2.1.2.2
      rw [hsig] at h2
      exact (Option.some.inj h2).symm
/-- Object's constructor -/
theorem R_objInit {M : MI} {pc nx : Nat} {ls : List (Option Value)} {st : List Value} {σ : AHp} {kc ks : Nat} {Q : Option Value → AHp → Prop} {b idx : Nat} (h : At M pc (.invokespecial idx) 3 nx) (hl : Cond.methodLink M.y.cls idx objectInit ∈ LT) (hi : Cond.instanceMethod objectInit ∈ LT) (hco : Cond.code objectInit ⟨#[0xb1]⟩ 1 none ∈ LT) (hfr : Nat.ble 1 M.rm.frames = true) (hlo : Nat.ble ((st.map fun v => v.category).sum + 12) M.rm.locals = true) (kk : Run M nx ls st σ kc ks Q) : Run M pc ls (.ref b :: st) σ kc ks Q := by
  obtain ⟨hd, rfl⟩ := h
  intro p l e s m args below meth c E H locs cells slots lsA C hW hS hL hc hs
  exact W.objInit C.1 C.2.1 C.own (C.lt hl) (C.lt hi) (C.lt hco) rfl (by rw [C.2.2.2.1]; exact hL.1) rfl hd (Nat.le_of_ble_eq_true hfr) (by show 2 * 0 + _ + 12 ≤ _; rw [cat_sum]; simpa using Nat.le_of_ble_eq_true hlo) (kk p l e s m args below meth c E H locs cells slots lsA C hW hS hL hc hs)
/-- returns -/
theorem Run.fin {M : MI} {Q : Option Value → AHp → Prop} {E : En} {s : State} {σ : AHp} {H : Heap} {locs : List Loc} {r : Option Value} (hW : Wd E s σ H) (hS : va_S (AE E) s.heap H locs) (hQ : Q r σ) {args : Array Value} : ∀ t : State, t.heap = H → s.WarmedH t.vm → Qa E Q args s (.returned (r.map (cv E))) t := fun t ht hw => ⟨r, σ, rfl, hQ, by rw [ht]; exact hW.moved hw.alike, hS.F ht⟩
theorem R_iret {M : MI} {pc nx : Nat} {ls : List (Option Value)} {σ : AHp} {kc ks : Nat} {Q : Option Value → AHp → Prop} {x : Int32} (h : At M pc .ireturn 1 nx) (hr : M.ret = some .int) (hQ : Q (some (.int x)) σ) : Run M pc ls [.int x] σ kc ks Q := by
  obtain ⟨hd, rfl⟩ := h
  intro p l e s m args below meth c E H locs cells slots lsA C hW hS hL hc hs
  refine W.widen (k := M.rm.cells) (n := M.rm.slots) (by omega) (by omega) ?_
  exact W.iret C.1 C.2.1 (C.2.2.1.trans hr) (Run.fin (M := M) (r := some (.int x)) hW hS hQ) hS.2.2 hd C.2.2.2.2.2.2.1
theorem R_zret {M : MI} {pc nx : Nat} {ls : List (Option Value)} {σ : AHp} {kc ks : Nat} {Q : Option Value → AHp → Prop} {x : Int32} {ty : FieldType} (h : At M pc .ireturn 1 nx) (hr : M.ret = some ty) (hx : narrow ty (.int x) = .int x) (hQ : Q (some (.int x)) σ) : Run M pc ls [.int x] σ kc ks Q := by
  obtain ⟨hd, rfl⟩ := h
  intro p l e s m args below meth c E H locs cells slots lsA C hW hS hL hc hs
  refine W.widen (k := M.rm.cells) (n := M.rm.slots) (by omega) (by omega) ?_
  exact W.zret C.1 C.2.1 (C.2.2.1.trans hr) hx (Run.fin (M := M) (r := some (.int x)) hW hS hQ) hS.2.2 hd C.2.2.2.2.2.2.1
theorem R_lret {M : MI} {pc nx : Nat} {ls : List (Option Value)} {σ : AHp} {kc ks : Nat} {Q : Option Value → AHp → Prop} {x : Int64} (h : At M pc .lreturn 1 nx) (hr : M.ret = some .long) (hQ : Q (some (.long x)) σ) : Run M pc ls [.long x] σ kc ks Q := by
  obtain ⟨hd, rfl⟩ := h
  intro p l e s m args below meth c E H locs cells slots lsA C hW hS hL hc hs
  refine W.widen (k := M.rm.cells) (n := M.rm.slots) (by omega) (by omega) ?_
  exact W.lret C.1 C.2.1 (C.2.2.1.trans hr) (Run.fin (M := M) (r := some (.long x)) hW hS hQ) hS.2.2 hd C.2.2.2.2.2.2.1
theorem R_aret {M : MI} {pc nx : Nat} {ls : List (Option Value)} {σ : AHp} {kc ks : Nat} {Q : Option Value → AHp → Prop} {x : Nat} {Cn : String} (h : At M pc .areturn 1 nx) (hr : M.ret = some (.object Cn)) (hQ : Q (some (.ref x)) σ) : Run M pc ls [.ref x] σ kc ks Q := by
  obtain ⟨hd, rfl⟩ := h
  intro p l e s m args below meth c E H locs cells slots lsA C hW hS hL hc hs
  refine W.widen (k := M.rm.cells) (n := M.rm.slots) (by omega) (by omega) ?_
  exact W.aret C.1 C.2.1 (C.2.2.1.trans hr) (Or.inl ⟨_, rfl⟩) (Or.inr ⟨_, rfl⟩) (Run.fin (M := M) (r := some (.ref x)) hW hS hQ) hS.2.2 hd C.2.2.2.2.2.2.1
theorem R_vret {M : MI} {pc nx : Nat} {ls : List (Option Value)} {σ : AHp} {kc ks : Nat} {Q : Option Value → AHp → Prop} (h : At M pc .return_ 1 nx) (hr : M.ret = none) (hQ : Q none σ) : Run M pc ls [] σ kc ks Q := by
  obtain ⟨hd, rfl⟩ := h
  intro p l e s m args below meth c E H locs cells slots lsA C hW hS hL hc hs
  refine W.widen (k := M.rm.cells) (n := M.rm.slots) (by omega) (by omega) ?_
  exact W.vret C.1 C.2.1 (C.2.2.1.trans hr) (Run.fin (M := M) (r := none) hW hS hQ) hS.2.2 hd C.2.2.2.2.2.2.1
/-- the locals with which a method begins -/
def entL : List Value → List (Option Value)
  | [] => []
  | v :: vs => if v.category = 2 then some v :: none :: entL vs else some v :: entL vs
theorem lv_args_in (E : En) : ∀ (vs : List Value) (i : Nat) (n : Nat) (q : Nat × Value), q ∈ lvF E i (entL vs ++ List.replicate n none) → q ∈ lv_args i (vs.map (cv E)) := by
  intro vs
  induction vs with
  | nil =>
    intro i n q hq
    obtain ⟨j, v, hj, -⟩ := mem_lvF.mp hq
    simp [entL, List.getElem?_replicate] at hj
  | cons v vs ih =>
    intro i n q hq
    by_cases hc : v.category = 2
    · simp only [entL, hc, if_true, List.cons_append, lvF, List.mem_cons] at hq
      simp only [List.map_cons, lv_args, cv_cat, hc, if_true, List.mem_cons]
      rcases hq with h | h
      · exact Or.inl h
      · exact Or.inr (ih (i + 2) n q h)
    · simp only [entL, hc, if_false, List.cons_append, lvF, List.mem_cons] at hq
      simp only [List.map_cons, lv_args, cv_cat, hc, if_false, List.mem_cons]
      rcases hq with h | h
      · exact Or.inl h
      · exact Or.inr (ih (i + 1) n q h)
theorem lg_len (E : En) (vs : List Value) : (lg_sl (vs.map (cv E))).length = (lg_sl vs).length := by
  induction vs with
  | nil => rfl
  | cons v vs ih =>
    simp only [lg_sl, List.map_cons, List.flatMap_cons, List.length_append, cv_cat] at ih ⊢
    rw [ih]
    by_cases hc : v.category = 2 <;> simp [hc]
theorem Ev.of {M : MI} {av : List Value} {σ : AHp} {Q : Option Value → AHp → Prop} {ls : List (Option Value)} (n : Nat) (hy : plainName M.y.cls = true) (hlen : Nat.ble (lg_sl av).length M.mL = true) (hls : entL av ++ List.replicate n none = ls) (hr : Run M 0 ls [] σ M.rm.cells M.rm.slots Q) : Ev M av σ Q := by
  intro l E
  refine Met.ofW (cc := M.code) (maxL := M.mL) (ret := M.ret) hy rfl ?_
  intro p e s m args below meth c s₁ B hml hv
  obtain ⟨rfl, hWd, hK⟩ := hv
  have hts := atoms_spec (ws := wsM M) B.pre
  have hown : s.vm.findClass M.y.cls = some m.cls := findClass_of_methodNamed B.named
  have hnm : meth.name = M.y.name := (name_of_methodNamed B.named B.method).1
  have hl := lv_entry (av.map (cv E)) (n := M.mL) (by rw [lg_len]; exact Nat.le_of_ble_eq_true hlen)
  rw [lg_entry_eq]
  generalize (lg_sl (av.map (cv E)) ++ List.replicate (M.mL - (lg_sl (av.map (cv E))).length) Slot.unset).toArray = lsA at hl ⊢
  have hL : LsR E ls lsA M.mL := ⟨hl.1, hl.2.1, fun q hq => hl.2.2 q (lv_args_in E av 0 n q (by rw [hls]; exact hq))⟩
  exact hr p l e s m _ below meth c E s.heap [] 0 0 lsA ⟨B.exec, B.bytes, B.returns, hml, hown, hts, B.notSynchronized, hnm, hK⟩ hWd va_S.rf hL (by show 0 + M.rm.cells ≤ M.rm.cells; omega) (by show 0 + M.rm.slots ≤ M.rm.slots; omega)
theorem Ev.mono {M : MI} {av : List Value} {σ : AHp} {Q Q' : Option Value → AHp → Prop} (h : Ev M av σ Q) (hq : ∀ r σ', Q r σ' → Q' r σ') : Ev M av σ Q' := by
  intro l E p e h1 h2 h3 s m args below h4 h5 h6 h7
  obtain ⟨k, o, g1, g2, g3, ⟨r, σ', q1, q2, q3, q4⟩, g5⟩ := h l E p e h1 h2 h3 s m args below h4 h5 h6 h7
  exact ⟨k, o, g1, g2, g3, ⟨r, σ', q1, hq r σ' q2, q3, q4⟩, g5⟩
