/-! ===== THE TEXT CONSTANT of the class's constructor: String.length, String.charAt ===== -/
theorem cvK (E : En) : cv E (.float 0) = .ref E.sk := rfl
theorem cvV (E : En) : cv E (.float 1) = .ref E.sv := rfl
theorem Cx.SK {M : MI} {E : En} {p : Program} {s : State} {m : MethodId} {args : Array Value} {meth : Method} {c : Code} (C : Cx M E p s m args meth c) : SK E s := C.2.2.2.2.2.2.2.2.2.1
theorem R_gsC {M : MI} {pc nx : Nat} {ls : List (Option Value)} {st : List Value} {σ : AHp} {kc ks : Nat} {Q : Option Value → AHp → Prop} (h : At M pc (.getstatic 38) 3 nx) (hM : M.y.cls = RJ0) (kk : Run M nx ls (.int 1 :: st) σ kc ks Q) : Run M pc ls st σ kc ks Q := by
  obtain ⟨hd, rfl⟩ := h
  intro p l e s m args below meth c E H locs cells slots lsA C hW hS hL hc hs
  exact va_gets C.1 C.2.1 C.SK.2.2.1 hS (by rw [← hM]; exact C.own) (C.lt fl_J0_38) (fun x h => h) hd (kk p l e s m args below meth c E H locs cells slots lsA C hW hS hL hc hs)
theorem R_gsF {M : MI} {pc nx : Nat} {ls : List (Option Value)} {st : List Value} {σ : AHp} {kc ks : Nat} {Q : Option Value → AHp → Prop} (h : At M pc (.getstatic 1053) 3 nx) (hM : M.y.cls = RJ0) (k0 : Run M nx ls (.null :: st) σ kc ks Q) (k1 : ∀ t, Run M nx ls (.retAddr t :: st) σ kc ks Q) : Run M pc ls st σ kc ks Q := by
  obtain ⟨hd, rfl⟩ := h
  intro p l e s m args below meth c E H locs cells slots lsA C hW hS hL hc hs
  rcases C.SK.2.2.2 with hZ | ⟨t, hZ⟩
  · exact va_gets C.1 C.2.1 hZ hS (by rw [← hM]; exact C.own) (C.lt fl_J0_1053) (fun x h => h) hd (k0 p l e s m args below meth c E H locs cells slots lsA C hW hS hL hc hs)
  · exact va_gets C.1 C.2.1 hZ hS (by rw [← hM]; exact C.own) (C.lt fl_J0_1053) (fun x h => h) hd (k1 t p l e s m args below meth c E H locs cells slots lsA C hW hS hL hc hs)
theorem R_aload_t {M : MI} {pc nx : Nat} {ls : List (Option Value)} {st : List Value} {σ : AHp} {kc ks : Nat} {Q : Option Value → AHp → Prop} {i : Fin 4} {b : UInt32} (h : At M pc (.aload_n i) 1 nx) (hl : ls[(i : Nat)]? = some (some (.float b))) (k : Run M nx ls (.float b :: st) σ kc ks Q) : Run M pc ls st σ kc ks Q := by
  obtain ⟨hd, rfl⟩ := h
  intro p l e s m args below meth c E H locs cells slots lsA C hW hS hL hc hs
  exact lv_aload_n C.1 C.2.1 hd rfl (LsR.get hL hl) (k p l e s m args below meth c E H locs cells slots lsA C hW hS hL hc hs)
theorem R_gfV {M : MI} {pc nx : Nat} {ls : List (Option Value)} {st : List Value} {σ : AHp} {kc ks : Nat} {Q : Option Value → AHp → Prop} (h : At M pc (.getfield 9) 3 nx) (hM : M.y.cls = RJ0) (kk : Run M nx ls (.float 1 :: st) σ kc ks Q) : Run M pc ls (.float 0 :: st) σ kc ks Q := by
  obtain ⟨hd, rfl⟩ := h
  intro p l e s m args below meth c E H locs cells slots lsA C hW hS hL hc hs
  exact vk_getf C.1 C.2.1 (C.SK.1.1 0 (by decide)).2.2.1 hS (by rw [← hM]; exact C.own) (C.lt fl_J0_9) (fun x h => h) hd (kk p l e s m args below meth c E H locs cells slots lsA C hW hS hL hc hs)
theorem R_gfC {M : MI} {pc nx : Nat} {ls : List (Option Value)} {st : List Value} {σ : AHp} {kc ks : Nat} {Q : Option Value → AHp → Prop} (h : At M pc (.getfield 15) 3 nx) (hM : M.y.cls = RJ0) (kk : Run M nx ls (.int 0 :: st) σ kc ks Q) : Run M pc ls (.float 0 :: st) σ kc ks Q := by
  obtain ⟨hd, rfl⟩ := h
  intro p l e s m args below meth c E H locs cells slots lsA C hW hS hL hc hs
  exact vk_getf C.1 C.2.1 (C.SK.1.1 0 (by decide)).2.1 hS (by rw [← hM]; exact C.own) (C.lt fl_J0_15) (fun x h => h) hd (kk p l e s m args below meth c E H locs cells slots lsA C hW hS hL hc hs)
theorem R_alenT {M : MI} {pc nx : Nat} {ls : List (Option Value)} {st : List Value} {σ : AHp} {kc ks : Nat} {Q : Option Value → AHp → Prop} (h : At M pc .arraylength 1 nx) (kk : Run M nx ls (.int (nI 60) :: st) σ kc ks Q) : Run M pc ls (.float 1 :: st) σ kc ks Q := by
  obtain ⟨hd, rfl⟩ := h
  intro p l e s m args below meth c E H locs cells slots lsA C hW hS hL hc hs
  exact va_tlen C.1 C.2.1 (C.SK.1.1 0 (by decide)).2.2.2 hS rfl hd (kk p l e s m args below meth c E H locs cells slots lsA C hW hS hL hc hs)
theorem R_baldT {M : MI} {pc nx : Nat} {ls : List (Option Value)} {st : List Value} {σ : AHp} {kc ks : Nat} {Q : Option Value → AHp → Prop} {k : Nat} (h : At M pc .baload 1 nx) (hk : k < 60) (kk : Run M nx ls (.int (tb0.getD k 0) :: st) σ kc ks Q) : Run M pc ls (.int (nI k) :: .float 1 :: st) σ kc ks Q := by
  obtain ⟨hd, rfl⟩ := h
  intro p l e s m args below meth c E H locs cells slots lsA C hW hS hL hc hs
  exact va_tb (i := nI k) (v := .int (tb0.getD k 0)) C.1 C.2.1 (C.SK.1.1 0 (by decide)).2.2.2 hS (vp_in_nI hk (by decide)) (by rw [nI_clamp (by omega)]; rfl) hd (kk p l e s m args below meth c E H locs cells slots lsA C hW hS hL hc hs)
theorem R_i2c {M : MI} {pc nx : Nat} {ls : List (Option Value)} {st : List Value} {σ : AHp} {kc ks : Nat} {Q : Option Value → AHp → Prop} {x v : Int32} (h : At M pc .i2c 1 nx) (hv : (x.toUInt32 % 65536).toInt32 = v) (kk : Run M nx ls (.int v :: st) σ kc ks Q) : Run M pc ls (.int x :: st) σ kc ks Q := by
  obtain ⟨hd, rfl⟩ := h
  intro p l e s m args below meth c E H locs cells slots lsA C hW hS hL hc hs
  exact lv_i2c C.1 C.2.1 hd hv (kk p l e s m args below meth c E H locs cells slots lsA C hW hS hL hc hs)
def CT2 (M : MI) (pc : Nat) (M' : MI) (n nx : Nat) : Prop := ∃ idx, decode M.code pc = .ok (.invokevirtual idx, 3) ∧ pc + 3 = nx ∧ CB M M' n ∧ Cond.methodLink M.y.cls idx M'.y ∈ LT ∧ Cond.instanceMethod M'.y ∈ LT ∧ Cond.selects M'.y.cls M'.y M'.y ∈ LT ∧ M'.y.cls = "java/lang/String"
theorem R_callT {M : MI} {pc nx : Nat} {ls : List (Option Value)} {st : List Value} {σ : AHp} {kc ks : Nat} {Q : Option Value → AHp → Prop} {M' : MI} {n : Nat} {As st0 : List Value} {x : Value} (h : CT2 M pc M' n nx) (hev : EvP M' (.float 0 :: As) σ x) (hz1 : M'.rm.cells = 0) (hz2 : M'.rm.slots = 0) (hn : As.length = n) (hst : As.reverse ++ .float 0 :: st = st0) (hW8 : Nat.ble (st.map fun v => v.category).sum 8 = true) (kk : Run M nx ls (x :: st) σ kc ks Q) : Run M pc ls st0 σ kc ks Q := by
  obtain ⟨idx, hd, rfl, hB, hl, hin, hse, hci⟩ := h
  subst hst
  intro p l e s m args below meth c E H locs cells slots lsA C hW hS hL hc hs
  have hrecv : ∃ cellB : Cell, H[E.sk]? = some cellB ∧ cellB.vm.isStatics = false ∧ s.vm.findClass M'.y.cls = some cellB.cls := by
    rw [hci]
    exact vk_recv C.SK.1 (i := 0) (by decide) hS
  refine Run.back (st := st) (mc := M'.rm.cells) (ms := M'.rm.slots) (kc := kc) (ks := ks) C hS hL (by omega) (by omega) (va_runV (As := As.map (cv E)) (b := E.sk) ⟨C.1, C.2.1, C.2.2.2.1, C.own, C.ts⟩ (hev l E) ⟨hB.of C hl, C.lt hin, C.lt hse⟩ ⟨Ev.blind, hrecv, Ev.pre (av := .float 0 :: As) C hW hS⟩ rfl (by simpa using hn) hL.1 (by rw [List.map_append, List.map_reverse, List.map_cons, cvK]) (lv_room (by rw [cat_sum]; exact Nat.le_of_ble_eq_true hW8)) hd ⟨by omega, by omega⟩) (fun r σ' q => by obtain ⟨rfl, rfl⟩ := q; exact kk)
theorem a_J3_checkIndex_8e157_0 : At M_J3_checkIndex_8e157 0 (.iload_n 0) 1 1 := ⟨by decide +kernel, rfl⟩
theorem a_J3_checkIndex_8e157_1 : AtB M_J3_checkIndex_8e157 1 (.ifCond .lt) 4 9 := ⟨8, by decide +kernel, rfl, rfl⟩
theorem a_J3_checkIndex_8e157_4 : At M_J3_checkIndex_8e157 4 (.iload_n 0) 1 5 := ⟨by decide +kernel, rfl⟩
theorem a_J3_checkIndex_8e157_5 : At M_J3_checkIndex_8e157 5 (.iload_n 1) 1 6 := ⟨by decide +kernel, rfl⟩
theorem a_J3_checkIndex_8e157_6 : AtB M_J3_checkIndex_8e157 6 (.if_icmp .lt) 9 16 := ⟨10, by decide +kernel, rfl, rfl⟩
theorem a_J3_checkIndex_8e157_16 : At M_J3_checkIndex_8e157 16 (.iload_n 0) 1 17 := ⟨by decide +kernel, rfl⟩
theorem a_J3_checkIndex_8e157_17 : At M_J3_checkIndex_8e157 17 (.ireturn) 1 18 := ⟨by decide +kernel, rfl⟩
theorem a_J0_checkIndex_df160_0 : At M_J0_checkIndex_df160 0 (.iload_n 0) 1 1 := ⟨by decide +kernel, rfl⟩
theorem a_J0_checkIndex_df160_1 : At M_J0_checkIndex_df160 1 (.iload_n 1) 1 2 := ⟨by decide +kernel, rfl⟩
theorem a_J0_checkIndex_df160_2 : At M_J0_checkIndex_df160 2 (.getstatic 1053) 3 5 := ⟨by decide +kernel, rfl⟩
theorem cb_J0_checkIndex_df160__J3_checkIndex_8e157 : CB M_J0_checkIndex_df160 M_J3_checkIndex_8e157 3 := ⟨cw_J3_checkIndex_8e157, ini_J3, pd_J3_checkIndex_8e157, ⟨Nat.le_of_ble_eq_true rfl, Nat.le_of_ble_eq_true rfl⟩⟩
theorem a_J0_checkIndex_df160_5 : CS M_J0_checkIndex_df160 5 M_J3_checkIndex_8e157 3 8 := ⟨1059, by decide +kernel, rfl, cb_J0_checkIndex_df160__J3_checkIndex_8e157, ml_J0_1059, st_J3_checkIndex_8e157⟩
theorem a_J0_checkIndex_df160_8 : At M_J0_checkIndex_df160 8 (.pop) 1 9 := ⟨by decide +kernel, rfl⟩
theorem a_J0_checkIndex_df160_9 : At M_J0_checkIndex_df160 9 (.return_) 1 10 := ⟨by decide +kernel, rfl⟩
theorem a_J1_charAt_3b067_0 : At M_J1_charAt_3b067 0 (.iload_n 1) 1 1 := ⟨by decide +kernel, rfl⟩
theorem a_J1_charAt_3b067_1 : At M_J1_charAt_3b067 1 (.aload_n 0) 1 2 := ⟨by decide +kernel, rfl⟩
theorem a_J1_charAt_3b067_2 : At M_J1_charAt_3b067 2 (.arraylength) 1 3 := ⟨by decide +kernel, rfl⟩
theorem cb_J1_charAt_3b067__J0_checkIndex_df160 : CB M_J1_charAt_3b067 M_J0_checkIndex_df160 2 := ⟨cw_J0_checkIndex_df160, ini_J0, pd_J0_checkIndex_df160, ⟨Nat.le_of_ble_eq_true rfl, Nat.le_of_ble_eq_true rfl⟩⟩
theorem a_J1_charAt_3b067_3 : CS M_J1_charAt_3b067 3 M_J0_checkIndex_df160 2 6 := ⟨9, by decide +kernel, rfl, cb_J1_charAt_3b067__J0_checkIndex_df160, ml_J1_9, st_J0_checkIndex_df160⟩
theorem a_J1_charAt_3b067_6 : At M_J1_charAt_3b067 6 (.aload_n 0) 1 7 := ⟨by decide +kernel, rfl⟩
theorem a_J1_charAt_3b067_7 : At M_J1_charAt_3b067 7 (.iload_n 1) 1 8 := ⟨by decide +kernel, rfl⟩
theorem a_J1_charAt_3b067_8 : At M_J1_charAt_3b067 8 (.baload) 1 9 := ⟨by decide +kernel, rfl⟩
theorem a_J1_charAt_3b067_9 : At M_J1_charAt_3b067 9 (.sipush 255) 3 12 := ⟨by decide +kernel, rfl⟩
theorem a_J1_charAt_3b067_12 : At M_J1_charAt_3b067 12 (.iand) 1 13 := ⟨by decide +kernel, rfl⟩
theorem a_J1_charAt_3b067_13 : At M_J1_charAt_3b067 13 (.i2c) 1 14 := ⟨by decide +kernel, rfl⟩
theorem a_J1_charAt_3b067_14 : At M_J1_charAt_3b067 14 (.ireturn) 1 15 := ⟨by decide +kernel, rfl⟩
theorem a_J0_isLatin1_aae02_0 : At M_J0_isLatin1_aae02 0 (.getstatic 38) 3 3 := ⟨by decide +kernel, rfl⟩
theorem a_J0_isLatin1_aae02_3 : AtB M_J0_isLatin1_aae02 3 (.ifCond .eq) 6 17 := ⟨14, by decide +kernel, rfl, rfl⟩
theorem a_J0_isLatin1_aae02_6 : At M_J0_isLatin1_aae02 6 (.aload_n 0) 1 7 := ⟨by decide +kernel, rfl⟩
theorem a_J0_isLatin1_aae02_7 : At M_J0_isLatin1_aae02 7 (.getfield 15) 3 10 := ⟨by decide +kernel, rfl⟩
theorem a_J0_isLatin1_aae02_10 : AtB M_J0_isLatin1_aae02 10 (.ifCond .ne) 13 17 := ⟨7, by decide +kernel, rfl, rfl⟩
theorem a_J0_isLatin1_aae02_13 : At M_J0_isLatin1_aae02 13 (.iconst 1) 1 14 := ⟨by decide +kernel, rfl⟩
theorem a_J0_isLatin1_aae02_14 : AtB M_J0_isLatin1_aae02 14 (.goto) 17 18 := ⟨4, by decide +kernel, rfl, rfl⟩
theorem a_J0_isLatin1_aae02_17 : At M_J0_isLatin1_aae02 17 (.iconst 0) 1 18 := ⟨by decide +kernel, rfl⟩
theorem a_J0_isLatin1_aae02_18 : At M_J0_isLatin1_aae02 18 (.ireturn) 1 19 := ⟨by decide +kernel, rfl⟩
theorem a_J0_coder_7d493_0 : At M_J0_coder_7d493 0 (.getstatic 38) 3 3 := ⟨by decide +kernel, rfl⟩
theorem a_J0_coder_7d493_3 : AtB M_J0_coder_7d493 3 (.ifCond .eq) 6 13 := ⟨10, by decide +kernel, rfl, rfl⟩
theorem a_J0_coder_7d493_6 : At M_J0_coder_7d493 6 (.aload_n 0) 1 7 := ⟨by decide +kernel, rfl⟩
theorem a_J0_coder_7d493_7 : At M_J0_coder_7d493 7 (.getfield 15) 3 10 := ⟨by decide +kernel, rfl⟩
theorem a_J0_coder_7d493_10 : AtB M_J0_coder_7d493 10 (.goto) 13 14 := ⟨4, by decide +kernel, rfl, rfl⟩
theorem a_J0_coder_7d493_13 : At M_J0_coder_7d493 13 (.iconst 1) 1 14 := ⟨by decide +kernel, rfl⟩
theorem a_J0_coder_7d493_14 : At M_J0_coder_7d493 14 (.ireturn) 1 15 := ⟨by decide +kernel, rfl⟩
theorem a_J0_length_8abf5_0 : At M_J0_length_8abf5 0 (.aload_n 0) 1 1 := ⟨by decide +kernel, rfl⟩
theorem a_J0_length_8abf5_1 : At M_J0_length_8abf5 1 (.getfield 9) 3 4 := ⟨by decide +kernel, rfl⟩
theorem a_J0_length_8abf5_4 : At M_J0_length_8abf5 4 (.arraylength) 1 5 := ⟨by decide +kernel, rfl⟩
theorem a_J0_length_8abf5_5 : At M_J0_length_8abf5 5 (.aload_n 0) 1 6 := ⟨by decide +kernel, rfl⟩
theorem cb_J0_length_8abf5__J0_coder_7d493 : CB M_J0_length_8abf5 M_J0_coder_7d493 0 := ⟨cw_J0_coder_7d493, ini_J0, pd_J0_coder_7d493, ⟨Nat.le_of_ble_eq_true rfl, Nat.le_of_ble_eq_true rfl⟩⟩
theorem a_J0_length_8abf5_6 : CT2 M_J0_length_8abf5 6 M_J0_coder_7d493 0 9 := ⟨335, by decide +kernel, rfl, cb_J0_length_8abf5__J0_coder_7d493, ml_J0_335, im_J0_coder_7d493, se_J0_coder_7d493, rfl⟩
theorem a_J0_length_8abf5_9 : At M_J0_length_8abf5 9 (.ishr) 1 10 := ⟨by decide +kernel, rfl⟩
theorem a_J0_length_8abf5_10 : At M_J0_length_8abf5 10 (.ireturn) 1 11 := ⟨by decide +kernel, rfl⟩
theorem a_J0_charAt_5068e_0 : At M_J0_charAt_5068e 0 (.aload_n 0) 1 1 := ⟨by decide +kernel, rfl⟩
theorem cb_J0_charAt_5068e__J0_isLatin1_aae02 : CB M_J0_charAt_5068e M_J0_isLatin1_aae02 0 := ⟨cw_J0_isLatin1_aae02, ini_J0, pd_J0_isLatin1_aae02, ⟨Nat.le_of_ble_eq_true rfl, Nat.le_of_ble_eq_true rfl⟩⟩
theorem a_J0_charAt_5068e_1 : CT2 M_J0_charAt_5068e 1 M_J0_isLatin1_aae02 0 4 := ⟨492, by decide +kernel, rfl, cb_J0_charAt_5068e__J0_isLatin1_aae02, ml_J0_492, im_J0_isLatin1_aae02, se_J0_isLatin1_aae02, rfl⟩
theorem a_J0_charAt_5068e_4 : AtB M_J0_charAt_5068e 4 (.ifCond .eq) 7 16 := ⟨12, by decide +kernel, rfl, rfl⟩
theorem a_J0_charAt_5068e_7 : At M_J0_charAt_5068e 7 (.aload_n 0) 1 8 := ⟨by decide +kernel, rfl⟩
theorem a_J0_charAt_5068e_8 : At M_J0_charAt_5068e 8 (.getfield 9) 3 11 := ⟨by decide +kernel, rfl⟩
theorem a_J0_charAt_5068e_11 : At M_J0_charAt_5068e 11 (.iload_n 1) 1 12 := ⟨by decide +kernel, rfl⟩
theorem cb_J0_charAt_5068e__J1_charAt_3b067 : CB M_J0_charAt_5068e M_J1_charAt_3b067 2 := ⟨cw_J1_charAt_3b067, ini_J1, pd_J1_charAt_3b067, ⟨Nat.le_of_ble_eq_true rfl, Nat.le_of_ble_eq_true rfl⟩⟩
theorem a_J0_charAt_5068e_12 : CS M_J0_charAt_5068e 12 M_J1_charAt_3b067 2 15 := ⟨495, by decide +kernel, rfl, cb_J0_charAt_5068e__J1_charAt_3b067, ml_J0_495, st_J1_charAt_3b067⟩
theorem a_J0_charAt_5068e_15 : At M_J0_charAt_5068e 15 (.ireturn) 1 16 := ⟨by decide +kernel, rfl⟩
theorem ev_ck3n {σ : AHp} {k n : Nat} (hk : k < n) (hn : n < 2 ^ 31) : EvP M_J3_checkIndex_8e157 [.int (nI k), .int (nI n), .null] σ (.int (nI k)) := by
  refine Ev.of (ls := [some (.int (nI k)), some (.int (nI n)), some .null]) 0 (by decide) rfl rfl ?_
  refine R_iload_n a_J3_checkIndex_8e157_0 rfl ?_
  refine R_if_lt_n a_J3_checkIndex_8e157_1 (by omega) ?_
  refine R_iload_n a_J3_checkIndex_8e157_4 rfl ?_
  refine R_iload_n a_J3_checkIndex_8e157_5 rfl ?_
  refine R_icmp_lt_n a_J3_checkIndex_8e157_6 (by omega) (by omega) (fun _ => ?_) (fun h => absurd h (by omega))
  refine R_iload_n a_J3_checkIndex_8e157_16 rfl ?_
  refine R_iret a_J3_checkIndex_8e157_17 rfl ?_
  exact ⟨rfl, rfl⟩
theorem ev_ck3r {σ : AHp} {k n : Nat} {t : Nat} (hk : k < n) (hn : n < 2 ^ 31) : EvP M_J3_checkIndex_8e157 [.int (nI k), .int (nI n), (.retAddr t)] σ (.int (nI k)) := by
  refine Ev.of (ls := [some (.int (nI k)), some (.int (nI n)), some (.retAddr t)]) 0 (by decide) rfl rfl ?_
  refine R_iload_n a_J3_checkIndex_8e157_0 rfl ?_
  refine R_if_lt_n a_J3_checkIndex_8e157_1 (by omega) ?_
  refine R_iload_n a_J3_checkIndex_8e157_4 rfl ?_
  refine R_iload_n a_J3_checkIndex_8e157_5 rfl ?_
  refine R_icmp_lt_n a_J3_checkIndex_8e157_6 (by omega) (by omega) (fun _ => ?_) (fun h => absurd h (by omega))
  refine R_iload_n a_J3_checkIndex_8e157_16 rfl ?_
  refine R_iret a_J3_checkIndex_8e157_17 rfl ?_
  exact ⟨rfl, rfl⟩
theorem ev_ck0 {σ : AHp} {k n : Nat} (hk : k < n) (hn : n < 2 ^ 31) : EvW M_J0_checkIndex_df160 [.int (nI k), .int (nI n)] σ none (fun σ2 => σ2 = σ) := by
  refine Ev.of (ls := [some (.int (nI k)), some (.int (nI n))]) 0 (by decide) rfl rfl ?_
  refine R_iload_n a_J0_checkIndex_df160_0 rfl ?_
  refine R_iload_n a_J0_checkIndex_df160_1 rfl ?_
  refine R_gsF a_J0_checkIndex_df160_2 rfl ?_ (fun t => ?_)
  · refine R_callSp a_J0_checkIndex_df160_5 (ev_ck3n hk hn) rfl rfl rfl rfl rfl ?_
    refine R_pop a_J0_checkIndex_df160_8 rfl ?_
    refine R_vret a_J0_checkIndex_df160_9 rfl ?_
    exact ⟨rfl, rfl⟩
  · refine R_callSp a_J0_checkIndex_df160_5 (ev_ck3r (t := t) hk hn) rfl rfl rfl rfl rfl ?_
    refine R_pop a_J0_checkIndex_df160_8 rfl ?_
    refine R_vret a_J0_checkIndex_df160_9 rfl ?_
    exact ⟨rfl, rfl⟩
theorem tb_c : ∀ k, k < 60 → (((tb0.getD k 0) &&& 255).toUInt32 % 65536).toInt32 = tb0.getD k 0 := by decide +kernel
theorem tb_n : ∀ k, k < 60 → narrow .char (.int (tb0.getD k 0)) = .int (tb0.getD k 0) := by decide +kernel
theorem ev_chL {σ : AHp} {k : Nat} (hk : k < 60) : EvP M_J1_charAt_3b067 [.float 1, .int (nI k)] σ (.int (tb0.getD k 0)) := by
  refine Ev.of (ls := [some (.float 1), some (.int (nI k))]) 0 (by decide) rfl rfl ?_
  refine R_iload_n a_J1_charAt_3b067_0 rfl ?_
  refine R_aload_t a_J1_charAt_3b067_1 rfl ?_
  refine R_alenT a_J1_charAt_3b067_2 ?_
  refine R_callSv a_J1_charAt_3b067_3 (ev_ck0 hk (by decide)) rfl rfl rfl rfl rfl (fun σ2 hP => ?_)
  subst hP
  refine R_aload_t a_J1_charAt_3b067_6 rfl ?_
  refine R_iload_n a_J1_charAt_3b067_7 rfl ?_
  refine R_baldT a_J1_charAt_3b067_8 hk ?_
  refine R_sipush (v := 255) a_J1_charAt_3b067_9 rfl ?_
  refine R_iand a_J1_charAt_3b067_12 ?_
  refine R_i2c a_J1_charAt_3b067_13 (tb_c k hk) ?_
  refine R_zret a_J1_charAt_3b067_14 rfl (tb_n k hk) ?_
  exact ⟨rfl, rfl⟩
theorem ev_isL {σ : AHp} : EvP M_J0_isLatin1_aae02 [.float 0] σ (.int 1) := by
  refine Ev.of (ls := [some (.float 0)]) 0 (by decide) rfl rfl ?_
  refine R_gsC a_J0_isLatin1_aae02_0 rfl ?_
  refine R_if_eq a_J0_isLatin1_aae02_3 (fun h => absurd h (by decide)) (fun _ => ?_)
  refine R_aload_t a_J0_isLatin1_aae02_6 rfl ?_
  refine R_gfC a_J0_isLatin1_aae02_7 rfl ?_
  refine R_if_ne a_J0_isLatin1_aae02_10 (fun h => absurd rfl h) (fun _ => ?_)
  refine R_iconst (v := 1) a_J0_isLatin1_aae02_13 rfl ?_
  refine R_goto a_J0_isLatin1_aae02_14 ?_
  refine R_zret a_J0_isLatin1_aae02_18 rfl (by decide) ?_
  exact ⟨rfl, rfl⟩
theorem ev_cod {σ : AHp} : EvP M_J0_coder_7d493 [.float 0] σ (.int 0) := by
  refine Ev.of (ls := [some (.float 0)]) 0 (by decide) rfl rfl ?_
  refine R_gsC a_J0_coder_7d493_0 rfl ?_
  refine R_if_eq a_J0_coder_7d493_3 (fun h => absurd h (by decide)) (fun _ => ?_)
  refine R_aload_t a_J0_coder_7d493_6 rfl ?_
  refine R_gfC a_J0_coder_7d493_7 rfl ?_
  refine R_goto a_J0_coder_7d493_10 ?_
  refine R_zret a_J0_coder_7d493_14 rfl (by decide) ?_
  exact ⟨rfl, rfl⟩
theorem ev_slen {σ : AHp} : EvP M_J0_length_8abf5 [.float 0] σ (.int (nI 60)) := by
  refine Ev.of (ls := [some (.float 0)]) 0 (by decide) rfl rfl ?_
  refine R_aload_t a_J0_length_8abf5_0 rfl ?_
  refine R_gfV a_J0_length_8abf5_1 rfl ?_
  refine R_alenT a_J0_length_8abf5_4 ?_
  refine R_aload_t a_J0_length_8abf5_5 rfl ?_
  refine R_callT a_J0_length_8abf5_6 ev_cod rfl rfl rfl rfl rfl ?_
  refine R_ishr a_J0_length_8abf5_9 ?_
  refine R_iret a_J0_length_8abf5_10 rfl ?_
  exact ⟨rfl, rfl⟩
theorem ev_sch {σ : AHp} {k : Nat} (hk : k < 60) : EvP M_J0_charAt_5068e [.float 0, .int (nI k)] σ (.int (tb0.getD k 0)) := by
  refine Ev.of (ls := [some (.float 0), some (.int (nI k))]) 0 (by decide) rfl rfl ?_
  refine R_aload_t a_J0_charAt_5068e_0 rfl ?_
  refine R_callT a_J0_charAt_5068e_1 ev_isL rfl rfl rfl rfl rfl ?_
  refine R_if_eq a_J0_charAt_5068e_4 (fun h => absurd h (by decide)) (fun _ => ?_)
  refine R_aload_t a_J0_charAt_5068e_7 rfl ?_
  refine R_gfV a_J0_charAt_5068e_8 rfl ?_
  refine R_iload_n a_J0_charAt_5068e_11 rfl ?_
  refine R_callSp a_J0_charAt_5068e_12 (ev_chL hk) rfl rfl rfl rfl rfl ?_
  refine R_zret a_J0_charAt_5068e_15 rfl (tb_n k hk) ?_
  exact ⟨rfl, rfl⟩
theorem cb_X10_init__len : CB M_X10_init M_J0_length_8abf5 0 := ⟨cw_J0_length_8abf5, ini_J0, pd_J0_length_8abf5, ⟨Nat.le_of_ble_eq_true rfl, Nat.le_of_ble_eq_true rfl⟩⟩
theorem t_X10_init_147 : CT2 M_X10_init 147 M_J0_length_8abf5 0 150 := ⟨81, a_X10_init_147, rfl, cb_X10_init__len, ml_X10_81, im_J0_length_8abf5, se_J0_length_8abf5, rfl⟩
theorem cb_X10_init__ch : CB M_X10_init M_J0_charAt_5068e 1 := ⟨cw_J0_charAt_5068e, ini_J0, pd_J0_charAt_5068e, ⟨Nat.le_of_ble_eq_true rfl, Nat.le_of_ble_eq_true rfl⟩⟩
theorem t_X10_init_160 : CT2 M_X10_init 160 M_J0_charAt_5068e 1 163 := ⟨87, a_X10_init_160, rfl, cb_X10_init__ch, ml_X10_87, im_J0_charAt_5068e, se_J0_charAt_5068e, rfl⟩
