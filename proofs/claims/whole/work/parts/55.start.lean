/-! ===== what holds at the law's entry ===== -/
theorem tw (i : Nat) {w : Cond} (h : lw_tbl[i]? = some w) : w ∈ lw_tbl := List.mem_of_getElem? h
theorem el_mem : ∀ j, j < 60 → Cond.eq (.elem (.field (.string "SaltToLiars" 79) "java/lang/String" "value" "[B") (.int (Int32.ofNat j))) (.int (tb0.getD j 0)) ∈ flatC (Jvm.Cond.and given_1 narrow_1) := by decide +kernel
theorem arr_of {args : Array Value} {s : State} {ty : FieldType} (h : (Cond.arrayClass ty).before args s = true) : ∃ cA, ArrOfT s cA ty ∧ s.vm.findClass ("[" ++ ty.toString) = some cA := by
  obtain ⟨cA, kA, comp, f1, f2, f3⟩ := Cond.arrayClass_spec h
  exact ⟨cA, fun n z => ⟨fun k h => (by cases h), kA, f2, comp, f3⟩, f1⟩
theorem arr_ofR {args : Array Value} {s : State} {C : String} (h : (Cond.arrayOver (.object C)).before args s = true) : ∃ cA, ArrOfT s cA (.object C) ∧ va_RA s cA (.object C) := by
  obtain ⟨comp, cA, kA, g1, g2, g3, g4, g5⟩ := Cond.arrayOver_spec h
  exact ⟨cA, fun n z => ⟨fun k h => (by cases h), kA, g3, comp, g4⟩, kA, comp, g3, g4, g1, g5⟩
theorem kc_start {s : State} {args : Array Value} (hts : ∀ w ∈ lw_tbl, w.before args s = true) (hgv : (Jvm.Cond.and given_1 narrow_1).before args s = true) (b : Nat) (hbl : b < s.heap.size) : ∃ E : En, E.b = b ∧ E.bs = s.heap.size - 1 ∧ Kc E s := by
  have hs := flat_of_before _ hgv
  have hlt : ∀ w ∈ LT, w.before args s = true := fun w h => hts w (List.mem_filter.mp h).1
  have hA : ∀ a : Nat, a < s.heap.size → ¬ (fun q : Nat => s.heap.size - 1 < q) a := fun a ha h => by
    have h : s.heap.size - 1 < a := h
    omega
  obtain ⟨c0, i0, hK0⟩ := u_known (C := RX0) (T := TX0) (N := 7) (n := 7) hlt in_X0 (hlt _ inst_X0)
  obtain ⟨c1, i1, hK1⟩ := u_known (C := RX1) (T := TX1) (N := 3) (n := 3) hlt in_X1 (hlt _ inst_X1)
  obtain ⟨c2, i2, hK2⟩ := u_known (C := RX2) (T := TX2) (N := 2) (n := 2) hlt in_X2 (hlt _ inst_X2)
  obtain ⟨c3, i3, hK3⟩ := u_known (C := RX3) (T := TX3) (N := 7) (n := 7) hlt in_X3 (hlt _ inst_X3)
  obtain ⟨c4, i4, hK4⟩ := u_known (C := RX4) (T := TX4) (N := 3) (n := 3) hlt in_X4 (hlt _ inst_X4)
  obtain ⟨c5, i5, hK5⟩ := u_known (C := RX5) (T := TX5) (N := 2) (n := 2) hlt in_X5 (hlt _ inst_X5)
  obtain ⟨c6, i6, hK6⟩ := u_known (C := RX6) (T := TX6) (N := 8) (n := 8) hlt in_X6 (hlt _ inst_X6)
  obtain ⟨c7, i7, hK7⟩ := u_known (C := RX7) (T := TX7) (N := 3) (n := 3) hlt in_X7 (hlt _ inst_X7)
  obtain ⟨c8, i8, hK8⟩ := u_known (C := RX8) (T := TX8) (N := 9) (n := 9) hlt in_X8 (hlt _ inst_X8)
  obtain ⟨c9, i9, hK9⟩ := u_known (C := RX9) (T := TX9) (N := 8) (n := 8) hlt in_X9 (hlt _ inst_X9)
  obtain ⟨c10, i10, hK10⟩ := u_known (C := RX10) (T := TX10) (N := 12) (n := 12) hlt in_X10 (hlt _ inst_X10)
  obtain ⟨c11, i11, hK11⟩ := u_known (C := RX11) (T := TX11) (N := 16) (n := 16) hlt in_X11 (hlt _ inst_X11)
  obtain ⟨cA0, hA0, hB0⟩ := arr_of (hlt _ arr_int)
  obtain ⟨cA1, hA1, hB1⟩ := arr_of (hlt _ arr_boolean)
  have ho6 : (Cond.arrayOver (.object RX6)).before args s = true := hts _ (tw 108 (by decide +kernel))
  have ho0 : (Cond.arrayOver (.object RX0)).before args s = true := hts _ (tw 180 (by decide +kernel))
  obtain ⟨cA2, hA2, hB2⟩ := arr_ofR ho6
  obtain ⟨cA3, hA3, hB3⟩ := arr_ofR ho0
  have g0 : ∀ i : Nat, i < 1 → i = 0 := fun i hi => by omega
  obtain ⟨adK, adV, hSS, hev⟩ := vk_Sof (args := args) (s := s) (N := 1) (tm := fun _ => .string "SaltToLiars" 79) (len := [60]) (byt := [tb0]) (A := fun q : Nat => s.heap.size - 1 < q)
    (fun i hi => by rw [g0 i hi]; decide)
    (fun i hi => hs _ (by decide +kernel))
    (fun i hi => hs _ (by decide +kernel))
    (fun i hi => hs _ (by decide +kernel))
    (fun i hi => by rw [g0 i hi]; exact hs _ (by decide +kernel))
    (fun i hi => by rw [g0 i hi]; exact fun j hj => hs _ (el_mem j hj))
    (fun i j hi hj hij => absurd ((g0 i hi).trans (g0 j hj).symm) hij) hA
  have hZ := va_Zof (C := "java/lang/String") (n := "COMPACT_STRINGS") (d := "Z") (v := .int 1) (A := fun q : Nat => s.heap.size - 1 < q) (hts _ (tw 378 (by decide +kernel))) (hlt _ ini_J0) (va_eqt (hs (Cond.eq (.static "java/lang/String" "COMPACT_STRINGS" "Z") (.int 1)) (by decide +kernel))) hA
  have hZq := va_Zqof (C := "jdk/internal/util/Preconditions") (n := "SIOOBE_FORMATTER") (d := "Ljava/util/function/BiFunction;") (A := fun q : Nat => s.heap.size - 1 < q) (hts _ (tw 394 (by decide +kernel))) (hlt _ ini_J3) (hs _ (by decide +kernel)) hA
  refine ⟨((fun k => match k with | 0 => c0 | 1 => c1 | 2 => c2 | 3 => c3 | 4 => c4 | 5 => c5 | 6 => c6 | 7 => c7 | 8 => c8 | 9 => c9 | 10 => c10 | _ => c11, fun k => match k with | 0 => i0 | 1 => i1 | 2 => i2 | 3 => i3 | 4 => i4 | 5 => i5 | 6 => i6 | 7 => i7 | 8 => i8 | 9 => i9 | 10 => i10 | _ => i11), (fun k => match k with | 0 => cA0 | 1 => cA1 | 2 => cA2 | _ => cA3), b, s.heap.size - 1, adK 0, adV 0), rfl, rfl, ⟨?_, ?_⟩, ⟨⟨?_, ?_⟩, ?_, hZ, hZq⟩, va_AO.of ho6, va_AO.of ho0, ?_⟩
  · intro k q hq
    match k, hq with
    | 0, hq => cases hq; exact hK0
    | 1, hq => cases hq; exact hK1
    | 2, hq => cases hq; exact hK2
    | 3, hq => cases hq; exact hK3
    | 4, hq => cases hq; exact hK4
    | 5, hq => cases hq; exact hK5
    | 6, hq => cases hq; exact hK6
    | 7, hq => cases hq; exact hK7
    | 8, hq => cases hq; exact hK8
    | 9, hq => cases hq; exact hK9
    | 10, hq => cases hq; exact hK10
    | 11, hq => cases hq; exact hK11
    | k + 12, hq => simp [vwCl] at hq
  · intro k q hq
    match k, hq with
    | 0, hq => cases hq; exact ⟨hA0, hB0⟩
    | 1, hq => cases hq; exact ⟨hA1, hB1⟩
    | 2, hq => cases hq; exact ⟨hA2, hB2⟩
    | 3, hq => cases hq; exact ⟨hA3, hB3⟩
    | k + 4, hq => simp [tysE] at hq
  · intro i hi
    rw [g0 i hi]
    exact hSS.1 0 (by decide)
  · intro i j hi hj _
    rw [g0 i hi, g0 j hj]
  · exact vk_R.of (hts _ (tw 368 (by decide +kernel))) (hev 0 (by decide))
  · intro w hw
    obtain ⟨a, i, x, hh, rfl⟩ := NL_is hw
    exact va_Nw.of rfl (hts _ (List.mem_filter.mp hw).1)
