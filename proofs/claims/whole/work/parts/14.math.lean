/-! ===== Math, Integer ===== -/
def fmF (x y : Int32) : Int32 := if ¬ 0 ≤ x ^^^ y ∧ ¬ x - x / y * y = 0 then x - x / y * y + y else x - x / y * y
def absF (x : Int32) : Int32 := if 0 ≤ x then x else 0 - x
def minF (x y : Int32) : Int32 := if y < x then y else x
def maxF (x y : Int32) : Int32 := if x < y then y else x
def ush (x : Int32) (k : Nat) : Int32 := (x.toUInt32 >>> ((nI k).toUInt32 &&& Int32.toUInt32 31)).toInt32
def bcF (x0 : Int32) : Int32 :=
  let x1 := x0 - (ush x0 1 &&& 1431655765)
  let x2 := (x1 &&& 858993459) + (ush x1 2 &&& 858993459)
  let x3 := (x2 + ush x2 4) &&& 252645135
  let x4 := x3 + ush x3 8
  let x5 := x4 + ush x4 16
  x5 &&& nI 63
theorem fm_0 : decode cJ9_floorMod_7cf53 0 = .ok (.iload_n 0, 1) := by decide +kernel
theorem fm_1 : decode cJ9_floorMod_7cf53 1 = .ok (.iload_n 1, 1) := by decide +kernel
theorem fm_2 : decode cJ9_floorMod_7cf53 2 = .ok (.irem, 1) := by decide +kernel
theorem fm_3 : decode cJ9_floorMod_7cf53 3 = .ok (.istore_n 2, 1) := by decide +kernel
theorem fm_4 : decode cJ9_floorMod_7cf53 4 = .ok (.iload_n 0, 1) := by decide +kernel
theorem fm_5 : decode cJ9_floorMod_7cf53 5 = .ok (.iload_n 1, 1) := by decide +kernel
theorem fm_6 : decode cJ9_floorMod_7cf53 6 = .ok (.ixor, 1) := by decide +kernel
theorem fm_7 : decode cJ9_floorMod_7cf53 7 = .ok (.ifCond .ge 11, 3) := by decide +kernel
theorem fm_10 : decode cJ9_floorMod_7cf53 10 = .ok (.iload_n 2, 1) := by decide +kernel
theorem fm_11 : decode cJ9_floorMod_7cf53 11 = .ok (.ifCond .eq 7, 3) := by decide +kernel
theorem fm_14 : decode cJ9_floorMod_7cf53 14 = .ok (.iload_n 2, 1) := by decide +kernel
theorem fm_15 : decode cJ9_floorMod_7cf53 15 = .ok (.iload_n 1, 1) := by decide +kernel
theorem fm_16 : decode cJ9_floorMod_7cf53 16 = .ok (.iadd, 1) := by decide +kernel
theorem fm_17 : decode cJ9_floorMod_7cf53 17 = .ok (.ireturn, 1) := by decide +kernel
theorem fm_18 : decode cJ9_floorMod_7cf53 18 = .ok (.iload_n 2, 1) := by decide +kernel
theorem fm_19 : decode cJ9_floorMod_7cf53 19 = .ok (.ireturn, 1) := by decide +kernel
def fmSpec (x y : Int32) : Spec where
  pre := .and (.code yJ9_floorMod_7cf53 cJ9_floorMod_7cf53 3 (some .int)) (.and (.count 2) (.and (.isInt (.arg 0)) (.and (.isInt (.arg 1)) (.and (.eq (.arg 0) (.int x)) (.eq (.arg 1) (.int y))))))
  post := .and .returned (.eq .result (.int (fmF x y)))
  changes := some []
theorem fm_noRow0 : (NativeRow.find? natives yJ9_floorMod_7cf53.cls yJ9_floorMod_7cf53.name yJ9_floorMod_7cf53.desc).isNone = true := by decide +kernel
theorem fm_noRow (p : Program) : NativeRow.find? p.tables.natives yJ9_floorMod_7cf53.cls yJ9_floorMod_7cf53.name yJ9_floorMod_7cf53.desc = none := by
  cases p <;> exact Option.isNone_iff_eq_none.mp fm_noRow0
set_option maxHeartbeats 4000000 in
theorem fm_meets (l : Launch) (x y : Int32) (hy : ¬ y = 0) : MeetsLoose l yJ9_floorMod_7cf53 (fmSpec x y) := by
  refine MeetsLoose.of_body_ov (code := cJ9_floorMod_7cf53) (maxLocals := 3) (ret := some .int) fm_noRow ?_ ?_
  · intro args s h
    simp only [fmSpec, Cond.before_and, Bool.and_eq_true] at h
    exact h.1
  · intro p e s m args below meth c s₁ B
    have hpre := B.pre
    simp only [fmSpec, Cond.before_and, Bool.and_eq_true] at hpre
    obtain ⟨a, b, rfl⟩ := Cond.two_ints hpre.2.1 hpre.2.2.1 hpre.2.2.2.1
    have ha : a = x := by simpa [Cond.before, Cond.holds, Cond.value, Term.eval] using hpre.2.2.2.2.1
    have hb : b = y := by simpa [Cond.before, Cond.holds, Cond.value, Term.eval] using hpre.2.2.2.2.2
    subst ha hb
    have hloc : argsToLocals #[.int a, .int b] 3 = #[.val (.int a), .val (.int b), .unset] := rfl
    have fin : (∀ fs, Steps p.tables e below (s₁.setTop (entryFrame m #[.int a, .int b] 3)) (s₁.setFrames fs) ∨ handOver s₁ (some (.int (fmF a b))) below ≠ some fs) →
        ∃ s₂ o, Steps p.tables e below (s₁.setTop (entryFrame m #[.int a, .int b] 3)) s₂ ∧ s₂.status = .running ∧ Ended s₂ below o ∧
          (fmSpec a b).ensures #[.int a, .int b] s o s₂ := by
      intro hwalk
      obtain ⟨fs, hfs⟩ := handOver_isSome (s := s₁) (some (.int (fmF a b))) B.hears₁
      refine ⟨s₁.setFrames fs, .returned (some (.int (fmF a b))), (hwalk fs).resolve_right (fun h => h hfs), B.here.running, B.ended hfs (by intro h; cases h), ?_, State.sameBut_nil.mpr ?_⟩
      · simp [fmSpec, Cond.after, Cond.holds, Cond.value, Term.eval]
      · rw [State.frames_setFrames _ B.cur₁, B.back]
    refine fin (fun fs => ?_)
    by_cases hfs : handOver s₁ (some (.int (fmF a b))) below = some fs
    · left
      unfold entryFrame; rw [hloc]
      by_cases h1 : 0 ≤ a ^^^ b
      · have hv : fmF a b = a - a / b * b := by unfold fmF; rw [if_neg (fun q => q.1 h1)]
        rw [hv] at hfs
        refine Steps.instrAtOv (c := _) (by simpa using B.here) ?_
        simp [jvm, wpRun, exec, B.here.top, B.exec, B.bytes, fm_0]
        refine Steps.instrAtOv (c := _) (by simpa using B.here) ?_
        simp [jvm, wpRun, exec, B.here.top, B.exec, B.bytes, fm_1]
        refine Steps.instrAtOv (c := _) (by simpa using B.here) ?_
        simp [jvm, wpRun, exec, B.here.top, B.exec, B.bytes, fm_2, hy]
        refine Steps.instrAtOv (c := _) (by simpa using B.here) ?_
        simp [jvm, wpRun, exec, B.here.top, B.exec, B.bytes, fm_3]
        refine ⟨#[.val (.int a), .val (.int b), .val (.int (a - a / b * b))], rfl, ?_⟩
        refine Steps.instrAtOv (c := _) (by simpa using B.here) ?_
        simp [jvm, wpRun, exec, B.here.top, B.exec, B.bytes, fm_4]
        refine Steps.instrAtOv (c := _) (by simpa using B.here) ?_
        simp [jvm, wpRun, exec, B.here.top, B.exec, B.bytes, fm_5]
        refine Steps.instrAtOv (c := _) (by simpa using B.here) ?_
        simp [jvm, wpRun, exec, B.here.top, B.exec, B.bytes, fm_6]
        refine Steps.instrAtOv (c := _) (by simpa using B.here) ?_
        simp [jvm, wpRun, exec, B.here.top, B.exec, B.bytes, fm_7, ifCond.holds, h1]
        refine Steps.instrAtOv (c := _) (by simpa using B.here) ?_
        simp [jvm, wpRun, exec, B.here.top, B.exec, B.bytes, fm_18]
        refine Steps.instrAtOv (c := _) (by simpa using B.here) ?_
        simp [jvm, wpRun, exec, B.here.top, B.exec, B.bytes, fm_19, B.method₁, B.returns, narrow]
        intro acts
        rw [ret_to B.frames₁ B.method₁ B.notSynchronized rfl rfl hfs]
        exact Steps.refl _
      · by_cases h2 : a - a / b * b = 0
        · have hv : fmF a b = a - a / b * b := by unfold fmF; rw [if_neg (fun q => q.2 h2)]
          rw [hv, h2] at hfs
          refine Steps.instrAtOv (c := _) (by simpa using B.here) ?_
          simp [jvm, wpRun, exec, B.here.top, B.exec, B.bytes, fm_0]
          refine Steps.instrAtOv (c := _) (by simpa using B.here) ?_
          simp [jvm, wpRun, exec, B.here.top, B.exec, B.bytes, fm_1]
          refine Steps.instrAtOv (c := _) (by simpa using B.here) ?_
          simp [jvm, wpRun, exec, B.here.top, B.exec, B.bytes, fm_2, hy]
          refine Steps.instrAtOv (c := _) (by simpa using B.here) ?_
          simp [jvm, wpRun, exec, B.here.top, B.exec, B.bytes, fm_3]
          refine ⟨#[.val (.int a), .val (.int b), .val (.int (a - a / b * b))], rfl, ?_⟩
          refine Steps.instrAtOv (c := _) (by simpa using B.here) ?_
          simp [jvm, wpRun, exec, B.here.top, B.exec, B.bytes, fm_4]
          refine Steps.instrAtOv (c := _) (by simpa using B.here) ?_
          simp [jvm, wpRun, exec, B.here.top, B.exec, B.bytes, fm_5]
          refine Steps.instrAtOv (c := _) (by simpa using B.here) ?_
          simp [jvm, wpRun, exec, B.here.top, B.exec, B.bytes, fm_6]
          refine Steps.instrAtOv (c := _) (by simpa using B.here) ?_
          simp [jvm, wpRun, exec, B.here.top, B.exec, B.bytes, fm_7, ifCond.holds, h1]
          refine Steps.instrAtOv (c := _) (by simpa using B.here) ?_
          simp [jvm, wpRun, exec, B.here.top, B.exec, B.bytes, fm_10]
          refine Steps.instrAtOv (c := _) (by simpa using B.here) ?_
          simp [jvm, wpRun, exec, B.here.top, B.exec, B.bytes, fm_11, ifCond.holds, h2]
          refine Steps.instrAtOv (c := _) (by simpa using B.here) ?_
          simp [jvm, wpRun, exec, B.here.top, B.exec, B.bytes, fm_18]
          refine Steps.instrAtOv (c := _) (by simpa using B.here) ?_
          simp [jvm, wpRun, exec, B.here.top, B.exec, B.bytes, fm_19, B.method₁, B.returns, narrow]
          intro acts
          rw [ret_to B.frames₁ B.method₁ B.notSynchronized rfl rfl hfs]
          exact Steps.refl _
        · have hv : fmF a b = a - a / b * b + b := by unfold fmF; rw [if_pos ⟨h1, h2⟩]
          rw [hv] at hfs
          refine Steps.instrAtOv (c := _) (by simpa using B.here) ?_
          simp [jvm, wpRun, exec, B.here.top, B.exec, B.bytes, fm_0]
          refine Steps.instrAtOv (c := _) (by simpa using B.here) ?_
          simp [jvm, wpRun, exec, B.here.top, B.exec, B.bytes, fm_1]
          refine Steps.instrAtOv (c := _) (by simpa using B.here) ?_
          simp [jvm, wpRun, exec, B.here.top, B.exec, B.bytes, fm_2, hy]
          refine Steps.instrAtOv (c := _) (by simpa using B.here) ?_
          simp [jvm, wpRun, exec, B.here.top, B.exec, B.bytes, fm_3]
          refine ⟨#[.val (.int a), .val (.int b), .val (.int (a - a / b * b))], rfl, ?_⟩
          refine Steps.instrAtOv (c := _) (by simpa using B.here) ?_
          simp [jvm, wpRun, exec, B.here.top, B.exec, B.bytes, fm_4]
          refine Steps.instrAtOv (c := _) (by simpa using B.here) ?_
          simp [jvm, wpRun, exec, B.here.top, B.exec, B.bytes, fm_5]
          refine Steps.instrAtOv (c := _) (by simpa using B.here) ?_
          simp [jvm, wpRun, exec, B.here.top, B.exec, B.bytes, fm_6]
          refine Steps.instrAtOv (c := _) (by simpa using B.here) ?_
          simp [jvm, wpRun, exec, B.here.top, B.exec, B.bytes, fm_7, ifCond.holds, h1]
          refine Steps.instrAtOv (c := _) (by simpa using B.here) ?_
          simp [jvm, wpRun, exec, B.here.top, B.exec, B.bytes, fm_10]
          refine Steps.instrAtOv (c := _) (by simpa using B.here) ?_
          simp [jvm, wpRun, exec, B.here.top, B.exec, B.bytes, fm_11, ifCond.holds, h2]
          refine Steps.instrAtOv (c := _) (by simpa using B.here) ?_
          simp [jvm, wpRun, exec, B.here.top, B.exec, B.bytes, fm_14]
          refine Steps.instrAtOv (c := _) (by simpa using B.here) ?_
          simp [jvm, wpRun, exec, B.here.top, B.exec, B.bytes, fm_15]
          refine Steps.instrAtOv (c := _) (by simpa using B.here) ?_
          simp [jvm, wpRun, exec, B.here.top, B.exec, B.bytes, fm_16]
          refine Steps.instrAtOv (c := _) (by simpa using B.here) ?_
          simp [jvm, wpRun, exec, B.here.top, B.exec, B.bytes, fm_17, B.method₁, B.returns, narrow]
          intro acts
          rw [ret_to B.frames₁ B.method₁ B.notSynchronized rfl rfl hfs]
          exact Steps.refl _
    · exact Or.inr hfs
theorem R_floorMod {M : MI} {pc nx : Nat} {ls : List (Option Value)} {st : List Value} {σ : AHp} {kc ks : Nat} {Q : Option Value → AHp → Prop} {idx : Nat} {x y : Int32} (h : At M pc (.invokestatic idx) 3 nx) (hl : Cond.methodLink M.y.cls idx yJ9_floorMod_7cf53 ∈ LT) (hy : ¬ y = 0) (hfr : Nat.ble 1 M.rm.frames = true) (hlo : Nat.ble ((st.map fun v => v.category).sum + 14) M.rm.locals = true) (k : Run M nx ls (.int (fmF x y) :: st) σ kc ks Q) : Run M pc ls (.int y :: .int x :: st) σ kc ks Q := by
  obtain ⟨hd, rfl⟩ := h
  intro p l e s m args below meth c E H locs cells slots lsA C hW hS hL hc hs
  intro T hT X
  have hcode := C.lt cw_J9_floorMod_7cf53
  have hfr' := Nat.le_of_ble_eq_true hfr
  have hlo' := Nat.le_of_ble_eq_true hlo
  have hsum := cat_sum E st
  obtain ⟨v, T', X', ⟨first, t, hpost⟩, hstep⟩ := X.staticByContractV C.1 C.own (C.lt hl) (C.lt st_J9_floorMod_7cf53) (C.lt ini_J9) hcode (by decide) (fm_meets l x y hy) rfl rfl rfl rfl
    (fun args' first o s₂ h => by
      simp only [fmSpec, Cond.after_and, Bool.and_eq_true] at h
      cases o with
      | returned r => exact ⟨r, rfl⟩
      | threw y => simp [Cond.after, Cond.holds, Cond.value] at h)
    (g := F0 m pc lsA (.int y :: .int x :: st.map (cv E))) rfl (by rw [C.2.2.2.1]; exact hL.1) (argsL := [.int x, .int y]) (rest := st.map (cv E))
    (fun sig hs => by
      have h : parseMethodDescriptor "(II)I" = some { parameters := [.int, .int], returnType := some .int } := by decide +kernel
      rw [show yJ9_floorMod_7cf53.desc = "(II)I" from rfl, h] at hs
      rw [← Option.some.inj hs]; rfl)
    rfl (by rw [C.2.1]; exact hd)
    (fun vm' hW => by
      simp only [fmSpec, Cond.before_and, Bool.and_eq_true]
      refine ⟨?_, rfl, rfl, rfl, ?_, ?_⟩
      · have q := hcode
        rw [← Cond.code_setVm hW.alike] at q
        simp only [Cond.before, Cond.holds, Cond.value, State.methodNamed?, State.vm_setVm] at q ⊢
        exact q
      · simp [Cond.before, Cond.holds, Cond.value, Term.eval]
      · simp [Cond.before, Cond.holds, Cond.value, Term.eval])
    (by show 0 + 1 ≤ M.rm.frames; omega) (by show 2 * 0 + ((st.map (cv E)).map fun v => v.category).sum + (3 + 11) + 0 ≤ M.rm.locals; rw [hsum]; omega) (by show cells + 0 ≤ M.rm.cells; omega) (by show slots + 0 ≤ M.rm.slots; omega)
  obtain ⟨t2, a1, b1⟩ := k p l e s m args below meth c E H locs cells slots lsA C hW hS hL hc hs (T.setVm T') hT X'
  refine ⟨t2, hstep t2 ?_, b1⟩
  obtain rfl : v = some (.int (fmF x y)) := by
    rcases v with _ | w
    · simp [fmSpec, Cond.after, Cond.holds, Cond.value, Term.eval] at hpost
    · cases w <;> simp [fmSpec, Cond.after, Cond.holds, Cond.value, Term.eval] at hpost
      rw [hpost]
  exact a1
theorem cw_minL : Cond.code Lib.Math.min.name Lib.Math.min.code 2 (some .int) ∈ LT := cw_J9_min_7cf53
theorem R_min {M : MI} {pc nx : Nat} {ls : List (Option Value)} {st : List Value} {σ : AHp} {kc ks : Nat} {Q : Option Value → AHp → Prop} {idx : Nat} {x y : Int32} (h : At M pc (.invokestatic idx) 3 nx) (hl : Cond.methodLink M.y.cls idx yJ9_min_7cf53 ∈ LT) (hfr : Nat.ble 1 M.rm.frames = true) (hlo : Nat.ble ((st.map fun v => v.category).sum + 13) M.rm.locals = true) (k : Run M nx ls (.int (minF x y) :: st) σ kc ks Q) : Run M pc ls (.int y :: .int x :: st) σ kc ks Q := by
  obtain ⟨hd, rfl⟩ := h
  intro p l e s m args below meth c E H locs cells slots lsA C hW hS hL hc hs
  exact va_mmin C.1 C.2.1 (by rw [C.2.2.2.1]; exact hL.1.symm) C.own (C.lt hl) (C.lt st_J9_min_7cf53) (C.lt ini_J9) (C.lt cw_minL) (Nat.le_of_ble_eq_true hfr) (by rw [cat_sum]; exact Nat.le_of_ble_eq_true hlo) (by omega) (by omega) hd (k p l e s m args below meth c E H locs cells slots lsA C hW hS hL hc hs)
theorem cw_maxL : Cond.code Lib.Math.max.name Lib.Math.max.code 2 (some .int) ∈ LT := cw_J9_max_7cf53
theorem R_max {M : MI} {pc nx : Nat} {ls : List (Option Value)} {st : List Value} {σ : AHp} {kc ks : Nat} {Q : Option Value → AHp → Prop} {idx : Nat} {x y : Int32} (h : At M pc (.invokestatic idx) 3 nx) (hl : Cond.methodLink M.y.cls idx yJ9_max_7cf53 ∈ LT) (hfr : Nat.ble 1 M.rm.frames = true) (hlo : Nat.ble ((st.map fun v => v.category).sum + 13) M.rm.locals = true) (k : Run M nx ls (.int (maxF x y) :: st) σ kc ks Q) : Run M pc ls (.int y :: .int x :: st) σ kc ks Q := by
  obtain ⟨hd, rfl⟩ := h
  intro p l e s m args below meth c E H locs cells slots lsA C hW hS hL hc hs
  exact va_mmax C.1 C.2.1 (by rw [C.2.2.2.1]; exact hL.1.symm) C.own (C.lt hl) (C.lt st_J9_max_7cf53) (C.lt ini_J9) (C.lt cw_maxL) (Nat.le_of_ble_eq_true hfr) (by rw [cat_sum]; exact Nat.le_of_ble_eq_true hlo) (by omega) (by omega) hd (k p l e s m args below meth c E H locs cells slots lsA C hW hS hL hc hs)
theorem cw_absL : Cond.code Lib.Math.abs.name Lib.Math.abs.code 1 (some .int) ∈ LT := cw_J9_abs_0f7a4
theorem R_abs {M : MI} {pc nx : Nat} {ls : List (Option Value)} {st : List Value} {σ : AHp} {kc ks : Nat} {Q : Option Value → AHp → Prop} {idx : Nat} {x : Int32} (h : At M pc (.invokestatic idx) 3 nx) (hl : Cond.methodLink M.y.cls idx yJ9_abs_0f7a4 ∈ LT) (hfr : Nat.ble 1 M.rm.frames = true) (hlo : Nat.ble ((st.map fun v => v.category).sum + 13) M.rm.locals = true) (k : Run M nx ls (.int (absF x) :: st) σ kc ks Q) : Run M pc ls (.int x :: st) σ kc ks Q := by
  obtain ⟨hd, rfl⟩ := h
  intro p l e s m args below meth c E H locs cells slots lsA C hW hS hL hc hs
  exact va_mabs C.1 C.2.1 (by rw [C.2.2.2.1]; exact hL.1.symm) C.own (C.lt hl) (C.lt st_J9_abs_0f7a4) (C.lt ini_J9) (C.lt cw_absL) (Nat.le_of_ble_eq_true hfr) (by rw [cat_sum]; exact Nat.le_of_ble_eq_true hlo) (by omega) (by omega) hd (k p l e s m args below meth c E H locs cells slots lsA C hW hS hL hc hs)
set_option maxRecDepth 20000 in
theorem ev_bitCount {σ : AHp} {x : Int32} : EvP M_J6_bitCount_0f7a4 [.int x] σ (.int (bcF x)) := by
  refine Ev.of (ls := [_]) 0 (by decide) rfl rfl ?_
  refine R_iload_n a_J6_bitCount_0f7a4_0 rfl ?_
  refine R_iload_n a_J6_bitCount_0f7a4_1 rfl ?_
  refine R_iconst (v := nI 1) a_J6_bitCount_0f7a4_2 rfl ?_
  refine R_iushr a_J6_bitCount_0f7a4_3 rfl ?_
  refine R_ldcw a_J6_bitCount_0f7a4_4 ck_J6_265 ?_
  first | with_reducible refine R_iand1 a_J6_bitCount_0f7a4_7 ?_ | with_reducible refine R_iand_n a_J6_bitCount_0f7a4_7 ?_ | refine R_iand a_J6_bitCount_0f7a4_7 ?_
  first | with_reducible refine R_isub_n a_J6_bitCount_0f7a4_8 (by omega) ?_ | refine R_isub a_J6_bitCount_0f7a4_8 ?_
  refine R_istore_n (ls' := [_]) a_J6_bitCount_0f7a4_9 rfl rfl rfl ?_
  refine R_iload_n a_J6_bitCount_0f7a4_10 rfl ?_
  refine R_ldcw a_J6_bitCount_0f7a4_11 ck_J6_266 ?_
  first | with_reducible refine R_iand1 a_J6_bitCount_0f7a4_14 ?_ | with_reducible refine R_iand_n a_J6_bitCount_0f7a4_14 ?_ | refine R_iand a_J6_bitCount_0f7a4_14 ?_
  refine R_iload_n a_J6_bitCount_0f7a4_15 rfl ?_
  refine R_iconst (v := nI 2) a_J6_bitCount_0f7a4_16 rfl ?_
  refine R_iushr a_J6_bitCount_0f7a4_17 rfl ?_
  refine R_ldcw a_J6_bitCount_0f7a4_18 ck_J6_266 ?_
  first | with_reducible refine R_iand1 a_J6_bitCount_0f7a4_21 ?_ | with_reducible refine R_iand_n a_J6_bitCount_0f7a4_21 ?_ | refine R_iand a_J6_bitCount_0f7a4_21 ?_
  first | with_reducible refine R_iadd_n a_J6_bitCount_0f7a4_22 ?_ | refine R_iadd a_J6_bitCount_0f7a4_22 ?_
  refine R_istore_n (ls' := [_]) a_J6_bitCount_0f7a4_23 rfl rfl rfl ?_
  refine R_iload_n a_J6_bitCount_0f7a4_24 rfl ?_
  refine R_iload_n a_J6_bitCount_0f7a4_25 rfl ?_
  refine R_iconst (v := nI 4) a_J6_bitCount_0f7a4_26 rfl ?_
  refine R_iushr a_J6_bitCount_0f7a4_27 rfl ?_
  first | with_reducible refine R_iadd_n a_J6_bitCount_0f7a4_28 ?_ | refine R_iadd a_J6_bitCount_0f7a4_28 ?_
  refine R_ldcw a_J6_bitCount_0f7a4_29 ck_J6_267 ?_
  first | with_reducible refine R_iand1 a_J6_bitCount_0f7a4_32 ?_ | with_reducible refine R_iand_n a_J6_bitCount_0f7a4_32 ?_ | refine R_iand a_J6_bitCount_0f7a4_32 ?_
  refine R_istore_n (ls' := [_]) a_J6_bitCount_0f7a4_33 rfl rfl rfl ?_
  refine R_iload_n a_J6_bitCount_0f7a4_34 rfl ?_
  refine R_iload_n a_J6_bitCount_0f7a4_35 rfl ?_
  refine R_bipush (v := nI 8) a_J6_bitCount_0f7a4_36 rfl ?_
  refine R_iushr a_J6_bitCount_0f7a4_38 rfl ?_
  first | with_reducible refine R_iadd_n a_J6_bitCount_0f7a4_39 ?_ | refine R_iadd a_J6_bitCount_0f7a4_39 ?_
  refine R_istore_n (ls' := [_]) a_J6_bitCount_0f7a4_40 rfl rfl rfl ?_
  refine R_iload_n a_J6_bitCount_0f7a4_41 rfl ?_
  refine R_iload_n a_J6_bitCount_0f7a4_42 rfl ?_
  refine R_bipush (v := nI 16) a_J6_bitCount_0f7a4_43 rfl ?_
  refine R_iushr a_J6_bitCount_0f7a4_45 rfl ?_
  first | with_reducible refine R_iadd_n a_J6_bitCount_0f7a4_46 ?_ | refine R_iadd a_J6_bitCount_0f7a4_46 ?_
  refine R_istore_n (ls' := [_]) a_J6_bitCount_0f7a4_47 rfl rfl rfl ?_
  refine R_iload_n a_J6_bitCount_0f7a4_48 rfl ?_
  refine R_bipush (v := nI 63) a_J6_bitCount_0f7a4_49 rfl ?_
  first | with_reducible refine R_iand1 a_J6_bitCount_0f7a4_51 ?_ | with_reducible refine R_iand_n a_J6_bitCount_0f7a4_51 ?_ | refine R_iand a_J6_bitCount_0f7a4_51 ?_
  refine R_iret a_J6_bitCount_0f7a4_52 rfl ?_
  exact ⟨rfl, rfl⟩

theorem fm_nn {a g : Nat} (ha : a < 2 ^ 31) (h0 : 0 < g) (hg : g < 2 ^ 31) : fmF (nI a) (nI g) = nI (a % g) := by
  unfold fmF
  have hx : (0 : Int32) ≤ nI a ^^^ nI g := by
    rw [n_xor]
    exact nI_pos' (Nat.xor_lt_two_pow ha hg)
  rw [if_neg (fun q => q.1 hx), pk_rem ha h0 hg]
theorem fm_neg : ∀ a, a < 9 → ∀ b, b < 10 → ∀ g, g < 9 → 0 < g → fmF (nI a - nI b) (nI g) = nI ((a + b * (g - 1)) % g) := by decide +kernel
theorem min_nn {a b : Nat} (ha : a < 2 ^ 31) (hb : b < 2 ^ 31) : minF (nI a) (nI b) = nI (min a b) := by
  unfold minF
  by_cases h : b < a
  · rw [if_pos ((nI_ltI hb ha).mpr h), Nat.min_eq_right (by omega)]
  · rw [if_neg (fun q => h ((nI_ltI hb ha).mp q)), Nat.min_eq_left (by omega)]
theorem max_nn {a b : Nat} (ha : a < 2 ^ 31) (hb : b < 2 ^ 31) : maxF (nI a) (nI b) = nI (max a b) := by
  unfold maxF
  by_cases h : a < b
  · rw [if_pos ((nI_ltI ha hb).mpr h), Nat.max_eq_right (by omega)]
  · rw [if_neg (fun q => h ((nI_ltI ha hb).mp q)), Nat.max_eq_left (by omega)]
theorem abs_nn : ∀ a, a < 9 → ∀ b, b < 9 → absF (nI a - nI b) = nI (if b ≤ a then a - b else b - a) := by decide +kernel
