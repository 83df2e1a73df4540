/-! ===== SaltToLiarsModel's constructor ===== -/
theorem T0_in : TbIn T0 := ⟨by decide, by decide, by decide, by decide, by decide +kernel, by decide +kernel, by decide +kernel, by decide +kernel, by decide +kernel⟩
set_option maxRecDepth 20000 in
theorem ct_X11 {σ0 : AHp} (hO : σ0 272 = some (oB 11 [.null, .int 0, .null, .null, .null, .null, .int 0, .null, .int 0, .null, .int 0, .int 0, .null, .null, .null, .null])) (hn : ∀ j, 272 < j → σ0 j = none) : EvW M_X11_init [.ref 272] σ0 none (fun σ => (∀ f, MP σ (U0 f)) ∧ (∀ j, j < 272 → σ j = σ0 j) ∧ ∀ j, 283 < j → σ j = none) := by
  refine Ev.of (ls := [_]) 0 (by decide) rfl rfl ?_
  have hlo : ∀ j, j < 272 → σ0 j = σ0 j := fun _ _ => rfl
  refine R_aload_n a_X11_init_0 rfl ?_
  refine R_objInit a_X11_init_1 ml_X11_1 im_obj cw_obj rfl rfl ?_
  refine R_aload_n a_X11_init_4 rfl ?_
  refine R_sipush (v := nI 200) a_X11_init_5 rfl ?_
  refine R_newiK (N := 200) (kc := 10) (ks := 618) (p := 272) 273 a_X11_init_8 rfl rfl rfl (by decide) rfl (hn _ (by omega)) hO (fun σ hc1 ho => ?_)
  have hO := (ho _ (by omega)).trans hO
  have hlo : ∀ j, j < 272 → σ j = σ0 j := fun j hj => (ho j (by omega)).trans (hlo j hj)
  have hn : ∀ j, 273 < j → σ j = none := fun j hj => (ho j (by omega)).trans (hn j (by omega))
  refine R_putaK (fs' := [_, _, _, _, _, _, _, _, _, _, _, _, _, _, _, _]) a_X11_init_10 hO (fun _ => ⟨rfl, rfl⟩) rfl rfl (fun σ hO ho => ?_)
  have hc1 := (ho _ (by omega)).trans hc1
  have hlo : ∀ j, j < 272 → σ j = σ0 j := fun j hj => (ho j (by omega)).trans (hlo j hj)
  have hn : ∀ j, 273 < j → σ j = none := fun j hj => (ho j (by omega)).trans (hn j (by omega))
  refine R_aload_n a_X11_init_13 rfl ?_
  refine R_bipush (v := nI 35) a_X11_init_14 rfl ?_
  refine R_newiK (N := 35) (kc := 9) (ks := 583) (p := 273) 274 a_X11_init_16 rfl rfl rfl (by decide) rfl (hn _ (by omega)) hc1 (fun σ hc2 ho => ?_)
  have hO := (ho _ (by omega)).trans hO
  have hc1 := (ho _ (by omega)).trans hc1
  have hlo : ∀ j, j < 272 → σ j = σ0 j := fun j hj => (ho j (by omega)).trans (hlo j hj)
  have hn : ∀ j, 274 < j → σ j = none := fun j hj => (ho j (by omega)).trans (hn j (by omega))
  refine R_putaK (fs' := [_, _, _, _, _, _, _, _, _, _, _, _, _, _, _, _]) a_X11_init_18 hO (fun _ => ⟨rfl, rfl⟩) rfl rfl (fun σ hO ho => ?_)
  have hc1 := (ho _ (by omega)).trans hc1
  have hc2 := (ho _ (by omega)).trans hc2
  have hlo : ∀ j, j < 272 → σ j = σ0 j := fun j hj => (ho j (by omega)).trans (hlo j hj)
  have hn : ∀ j, 274 < j → σ j = none := fun j hj => (ho j (by omega)).trans (hn j (by omega))
  refine R_aload_n a_X11_init_21 rfl ?_
  refine R_bipush (v := nI 35) a_X11_init_22 rfl ?_
  refine R_newiK (N := 35) (kc := 8) (ks := 548) (p := 274) 275 a_X11_init_24 rfl rfl rfl (by decide) rfl (hn _ (by omega)) hc2 (fun σ hc3 ho => ?_)
  have hO := (ho _ (by omega)).trans hO
  have hc1 := (ho _ (by omega)).trans hc1
  have hc2 := (ho _ (by omega)).trans hc2
  have hlo : ∀ j, j < 272 → σ j = σ0 j := fun j hj => (ho j (by omega)).trans (hlo j hj)
  have hn : ∀ j, 275 < j → σ j = none := fun j hj => (ho j (by omega)).trans (hn j (by omega))
  refine R_putaK (fs' := [_, _, _, _, _, _, _, _, _, _, _, _, _, _, _, _]) a_X11_init_26 hO (fun _ => ⟨rfl, rfl⟩) rfl rfl (fun σ hO ho => ?_)
  have hc1 := (ho _ (by omega)).trans hc1
  have hc2 := (ho _ (by omega)).trans hc2
  have hc3 := (ho _ (by omega)).trans hc3
  have hlo : ∀ j, j < 272 → σ j = σ0 j := fun j hj => (ho j (by omega)).trans (hlo j hj)
  have hn : ∀ j, 275 < j → σ j = none := fun j hj => (ho j (by omega)).trans (hn j (by omega))
  refine R_aload_n a_X11_init_29 rfl ?_
  refine R_bipush (v := nI 43) a_X11_init_30 rfl ?_
  refine R_newiK (N := 43) (kc := 7) (ks := 505) (p := 275) 276 a_X11_init_32 rfl rfl rfl (by decide) rfl (hn _ (by omega)) hc3 (fun σ hc4 ho => ?_)
  have hO := (ho _ (by omega)).trans hO
  have hc1 := (ho _ (by omega)).trans hc1
  have hc2 := (ho _ (by omega)).trans hc2
  have hc3 := (ho _ (by omega)).trans hc3
  have hlo : ∀ j, j < 272 → σ j = σ0 j := fun j hj => (ho j (by omega)).trans (hlo j hj)
  have hn : ∀ j, 276 < j → σ j = none := fun j hj => (ho j (by omega)).trans (hn j (by omega))
  refine R_putaK (fs' := [_, _, _, _, _, _, _, _, _, _, _, _, _, _, _, _]) a_X11_init_34 hO (fun _ => ⟨rfl, rfl⟩) rfl rfl (fun σ hO ho => ?_)
  have hc1 := (ho _ (by omega)).trans hc1
  have hc2 := (ho _ (by omega)).trans hc2
  have hc3 := (ho _ (by omega)).trans hc3
  have hc4 := (ho _ (by omega)).trans hc4
  have hlo : ∀ j, j < 272 → σ j = σ0 j := fun j hj => (ho j (by omega)).trans (hlo j hj)
  have hn : ∀ j, 276 < j → σ j = none := fun j hj => (ho j (by omega)).trans (hn j (by omega))
  refine R_aload_n a_X11_init_37 rfl ?_
  refine R_sipush (v := nI 344) a_X11_init_38 rfl ?_
  refine R_newiK (N := 344) (kc := 6) (ks := 161) (p := 276) 277 a_X11_init_41 rfl rfl rfl (by decide) rfl (hn _ (by omega)) hc4 (fun σ hc5 ho => ?_)
  have hO := (ho _ (by omega)).trans hO
  have hc1 := (ho _ (by omega)).trans hc1
  have hc2 := (ho _ (by omega)).trans hc2
  have hc3 := (ho _ (by omega)).trans hc3
  have hc4 := (ho _ (by omega)).trans hc4
  have hlo : ∀ j, j < 272 → σ j = σ0 j := fun j hj => (ho j (by omega)).trans (hlo j hj)
  have hn : ∀ j, 277 < j → σ j = none := fun j hj => (ho j (by omega)).trans (hn j (by omega))
  refine R_putaK (fs' := [_, _, _, _, _, _, _, _, _, _, _, _, _, _, _, _]) a_X11_init_43 hO (fun _ => ⟨rfl, rfl⟩) rfl rfl (fun σ hO ho => ?_)
  have hc1 := (ho _ (by omega)).trans hc1
  have hc2 := (ho _ (by omega)).trans hc2
  have hc3 := (ho _ (by omega)).trans hc3
  have hc4 := (ho _ (by omega)).trans hc4
  have hc5 := (ho _ (by omega)).trans hc5
  have hlo : ∀ j, j < 272 → σ j = σ0 j := fun j hj => (ho j (by omega)).trans (hlo j hj)
  have hn : ∀ j, 277 < j → σ j = none := fun j hj => (ho j (by omega)).trans (hn j (by omega))
  refine R_aload_n a_X11_init_46 rfl ?_
  refine R_bipush (v := nI 86) a_X11_init_47 rfl ?_
  refine R_newiK (N := 86) (kc := 5) (ks := 75) (p := 277) 278 a_X11_init_49 rfl rfl rfl (by decide) rfl (hn _ (by omega)) hc5 (fun σ hc6 ho => ?_)
  have hO := (ho _ (by omega)).trans hO
  have hc1 := (ho _ (by omega)).trans hc1
  have hc2 := (ho _ (by omega)).trans hc2
  have hc3 := (ho _ (by omega)).trans hc3
  have hc4 := (ho _ (by omega)).trans hc4
  have hc5 := (ho _ (by omega)).trans hc5
  have hlo : ∀ j, j < 272 → σ j = σ0 j := fun j hj => (ho j (by omega)).trans (hlo j hj)
  have hn : ∀ j, 278 < j → σ j = none := fun j hj => (ho j (by omega)).trans (hn j (by omega))
  refine R_putaK (fs' := [_, _, _, _, _, _, _, _, _, _, _, _, _, _, _, _]) a_X11_init_51 hO (fun _ => ⟨rfl, rfl⟩) rfl rfl (fun σ hO ho => ?_)
  have hc1 := (ho _ (by omega)).trans hc1
  have hc2 := (ho _ (by omega)).trans hc2
  have hc3 := (ho _ (by omega)).trans hc3
  have hc4 := (ho _ (by omega)).trans hc4
  have hc5 := (ho _ (by omega)).trans hc5
  have hc6 := (ho _ (by omega)).trans hc6
  have hlo : ∀ j, j < 272 → σ j = σ0 j := fun j hj => (ho j (by omega)).trans (hlo j hj)
  have hn : ∀ j, 278 < j → σ j = none := fun j hj => (ho j (by omega)).trans (hn j (by omega))
  refine R_aload_n a_X11_init_54 rfl ?_
  refine R_bipush (v := nI 8) a_X11_init_55 rfl ?_
  refine R_newiK (N := 8) (kc := 4) (ks := 67) (p := 278) 279 a_X11_init_57 rfl rfl rfl (by decide) rfl (hn _ (by omega)) hc6 (fun σ hc7 ho => ?_)
  have hO := (ho _ (by omega)).trans hO
  have hc1 := (ho _ (by omega)).trans hc1
  have hc2 := (ho _ (by omega)).trans hc2
  have hc3 := (ho _ (by omega)).trans hc3
  have hc4 := (ho _ (by omega)).trans hc4
  have hc5 := (ho _ (by omega)).trans hc5
  have hc6 := (ho _ (by omega)).trans hc6
  have hlo : ∀ j, j < 272 → σ j = σ0 j := fun j hj => (ho j (by omega)).trans (hlo j hj)
  have hn : ∀ j, 279 < j → σ j = none := fun j hj => (ho j (by omega)).trans (hn j (by omega))
  refine R_putaK (fs' := [_, _, _, _, _, _, _, _, _, _, _, _, _, _, _, _]) a_X11_init_59 hO (fun _ => ⟨rfl, rfl⟩) rfl rfl (fun σ hO ho => ?_)
  have hc1 := (ho _ (by omega)).trans hc1
  have hc2 := (ho _ (by omega)).trans hc2
  have hc3 := (ho _ (by omega)).trans hc3
  have hc4 := (ho _ (by omega)).trans hc4
  have hc5 := (ho _ (by omega)).trans hc5
  have hc6 := (ho _ (by omega)).trans hc6
  have hc7 := (ho _ (by omega)).trans hc7
  have hlo : ∀ j, j < 272 → σ j = σ0 j := fun j hj => (ho j (by omega)).trans (hlo j hj)
  have hn : ∀ j, 279 < j → σ j = none := fun j hj => (ho j (by omega)).trans (hn j (by omega))
  refine R_aload_n a_X11_init_62 rfl ?_
  refine R_bipush (v := nI 8) a_X11_init_63 rfl ?_
  refine R_newiK (N := 8) (kc := 3) (ks := 59) (p := 279) 280 a_X11_init_65 rfl rfl rfl (by decide) rfl (hn _ (by omega)) hc7 (fun σ hc8 ho => ?_)
  have hO := (ho _ (by omega)).trans hO
  have hc1 := (ho _ (by omega)).trans hc1
  have hc2 := (ho _ (by omega)).trans hc2
  have hc3 := (ho _ (by omega)).trans hc3
  have hc4 := (ho _ (by omega)).trans hc4
  have hc5 := (ho _ (by omega)).trans hc5
  have hc6 := (ho _ (by omega)).trans hc6
  have hc7 := (ho _ (by omega)).trans hc7
  have hlo : ∀ j, j < 272 → σ j = σ0 j := fun j hj => (ho j (by omega)).trans (hlo j hj)
  have hn : ∀ j, 280 < j → σ j = none := fun j hj => (ho j (by omega)).trans (hn j (by omega))
  refine R_putaK (fs' := [_, _, _, _, _, _, _, _, _, _, _, _, _, _, _, _]) a_X11_init_67 hO (fun _ => ⟨rfl, rfl⟩) rfl rfl (fun σ hO ho => ?_)
  have hc1 := (ho _ (by omega)).trans hc1
  have hc2 := (ho _ (by omega)).trans hc2
  have hc3 := (ho _ (by omega)).trans hc3
  have hc4 := (ho _ (by omega)).trans hc4
  have hc5 := (ho _ (by omega)).trans hc5
  have hc6 := (ho _ (by omega)).trans hc6
  have hc7 := (ho _ (by omega)).trans hc7
  have hc8 := (ho _ (by omega)).trans hc8
  have hlo : ∀ j, j < 272 → σ j = σ0 j := fun j hj => (ho j (by omega)).trans (hlo j hj)
  have hn : ∀ j, 280 < j → σ j = none := fun j hj => (ho j (by omega)).trans (hn j (by omega))
  refine R_aload_n a_X11_init_70 rfl ?_
  refine R_bipush (v := nI 8) a_X11_init_71 rfl ?_
  refine R_newiK (N := 8) (kc := 2) (ks := 51) (p := 280) 281 a_X11_init_73 rfl rfl rfl (by decide) rfl (hn _ (by omega)) hc8 (fun σ hc9 ho => ?_)
  have hO := (ho _ (by omega)).trans hO
  have hc1 := (ho _ (by omega)).trans hc1
  have hc2 := (ho _ (by omega)).trans hc2
  have hc3 := (ho _ (by omega)).trans hc3
  have hc4 := (ho _ (by omega)).trans hc4
  have hc5 := (ho _ (by omega)).trans hc5
  have hc6 := (ho _ (by omega)).trans hc6
  have hc7 := (ho _ (by omega)).trans hc7
  have hc8 := (ho _ (by omega)).trans hc8
  have hlo : ∀ j, j < 272 → σ j = σ0 j := fun j hj => (ho j (by omega)).trans (hlo j hj)
  have hn : ∀ j, 281 < j → σ j = none := fun j hj => (ho j (by omega)).trans (hn j (by omega))
  refine R_putaK (fs' := [_, _, _, _, _, _, _, _, _, _, _, _, _, _, _, _]) a_X11_init_75 hO (fun _ => ⟨rfl, rfl⟩) rfl rfl (fun σ hO ho => ?_)
  have hc1 := (ho _ (by omega)).trans hc1
  have hc2 := (ho _ (by omega)).trans hc2
  have hc3 := (ho _ (by omega)).trans hc3
  have hc4 := (ho _ (by omega)).trans hc4
  have hc5 := (ho _ (by omega)).trans hc5
  have hc6 := (ho _ (by omega)).trans hc6
  have hc7 := (ho _ (by omega)).trans hc7
  have hc8 := (ho _ (by omega)).trans hc8
  have hc9 := (ho _ (by omega)).trans hc9
  have hlo : ∀ j, j < 272 → σ j = σ0 j := fun j hj => (ho j (by omega)).trans (hlo j hj)
  have hn : ∀ j, 281 < j → σ j = none := fun j hj => (ho j (by omega)).trans (hn j (by omega))
  refine R_aload_n a_X11_init_78 rfl ?_
  refine R_bipush (v := nI 8) a_X11_init_79 rfl ?_
  refine R_newiK (N := 8) (kc := 1) (ks := 43) (p := 281) 282 a_X11_init_81 rfl rfl rfl (by decide) rfl (hn _ (by omega)) hc9 (fun σ hc10 ho => ?_)
  have hO := (ho _ (by omega)).trans hO
  have hc1 := (ho _ (by omega)).trans hc1
  have hc2 := (ho _ (by omega)).trans hc2
  have hc3 := (ho _ (by omega)).trans hc3
  have hc4 := (ho _ (by omega)).trans hc4
  have hc5 := (ho _ (by omega)).trans hc5
  have hc6 := (ho _ (by omega)).trans hc6
  have hc7 := (ho _ (by omega)).trans hc7
  have hc8 := (ho _ (by omega)).trans hc8
  have hc9 := (ho _ (by omega)).trans hc9
  have hlo : ∀ j, j < 272 → σ j = σ0 j := fun j hj => (ho j (by omega)).trans (hlo j hj)
  have hn : ∀ j, 282 < j → σ j = none := fun j hj => (ho j (by omega)).trans (hn j (by omega))
  refine R_putaK (fs' := [_, _, _, _, _, _, _, _, _, _, _, _, _, _, _, _]) a_X11_init_83 hO (fun _ => ⟨rfl, rfl⟩) rfl rfl (fun σ hO ho => ?_)
  have hc1 := (ho _ (by omega)).trans hc1
  have hc2 := (ho _ (by omega)).trans hc2
  have hc3 := (ho _ (by omega)).trans hc3
  have hc4 := (ho _ (by omega)).trans hc4
  have hc5 := (ho _ (by omega)).trans hc5
  have hc6 := (ho _ (by omega)).trans hc6
  have hc7 := (ho _ (by omega)).trans hc7
  have hc8 := (ho _ (by omega)).trans hc8
  have hc9 := (ho _ (by omega)).trans hc9
  have hc10 := (ho _ (by omega)).trans hc10
  have hlo : ∀ j, j < 272 → σ j = σ0 j := fun j hj => (ho j (by omega)).trans (hlo j hj)
  have hn : ∀ j, 282 < j → σ j = none := fun j hj => (ho j (by omega)).trans (hn j (by omega))
  refine R_aload_n a_X11_init_86 rfl ?_
  refine R_bipush (v := nI 43) a_X11_init_87 rfl ?_
  refine R_newiK (N := 43) (kc := 0) (ks := 0) (p := 282) 283 a_X11_init_89 rfl rfl rfl (by decide) rfl (hn _ (by omega)) hc10 (fun σ hc11 ho => ?_)
  have hO := (ho _ (by omega)).trans hO
  have hc1 := (ho _ (by omega)).trans hc1
  have hc2 := (ho _ (by omega)).trans hc2
  have hc3 := (ho _ (by omega)).trans hc3
  have hc4 := (ho _ (by omega)).trans hc4
  have hc5 := (ho _ (by omega)).trans hc5
  have hc6 := (ho _ (by omega)).trans hc6
  have hc7 := (ho _ (by omega)).trans hc7
  have hc8 := (ho _ (by omega)).trans hc8
  have hc9 := (ho _ (by omega)).trans hc9
  have hc10 := (ho _ (by omega)).trans hc10
  have hlo : ∀ j, j < 272 → σ j = σ0 j := fun j hj => (ho j (by omega)).trans (hlo j hj)
  have hn : ∀ j, 283 < j → σ j = none := fun j hj => (ho j (by omega)).trans (hn j (by omega))
  refine R_putaK (fs' := [_, _, _, _, _, _, _, _, _, _, _, _, _, _, _, _]) a_X11_init_91 hO (fun _ => ⟨rfl, rfl⟩) rfl rfl (fun σ hO ho => ?_)
  have hc1 := (ho _ (by omega)).trans hc1
  have hc2 := (ho _ (by omega)).trans hc2
  have hc3 := (ho _ (by omega)).trans hc3
  have hc4 := (ho _ (by omega)).trans hc4
  have hc5 := (ho _ (by omega)).trans hc5
  have hc6 := (ho _ (by omega)).trans hc6
  have hc7 := (ho _ (by omega)).trans hc7
  have hc8 := (ho _ (by omega)).trans hc8
  have hc9 := (ho _ (by omega)).trans hc9
  have hc10 := (ho _ (by omega)).trans hc10
  have hc11 := (ho _ (by omega)).trans hc11
  have hlo : ∀ j, j < 272 → σ j = σ0 j := fun j hj => (ho j (by omega)).trans (hlo j hj)
  have hn : ∀ j, 283 < j → σ j = none := fun j hj => (ho j (by omega)).trans (hn j (by omega))
  have hM : σ 272 = some (mdO 0 0 0 0 (nI 0)) := hO
  have hDT : ToP (nF (fun _ => 0)) Z0 := ⟨rfl, rfl, rfl, rfl, rfl, fun i hi => absurd hi (Nat.not_lt_zero i), fun i hi => absurd hi (Nat.not_lt_zero i), fun i hi => absurd hi (Nat.not_lt_zero i), fun i hi => absurd hi (Nat.not_lt_zero i)⟩
  refine R_aload_n a_X11_init_94 rfl ?_
  refine R_callVv a_X11_init_95 hM (md_begins hM hc3) rfl rfl rfl rfl rfl (fun σa hP => ?_)
  obtain ⟨hDr, hfa⟩ := hP
  have hM := (hfa 272 (by omega)).trans hM
  refine R_aload_n a_X11_init_98 rfl ?_
  refine R_iconst (v := nI 0) a_X11_init_99 rfl ?_
  refine R_bipush (v := nI 7) a_X11_init_100 rfl ?_
  refine R_iconst (v := nI 3) a_X11_init_102 rfl ?_
  refine R_callVv a_X11_init_103 hM (md_guestOf (T := Z0) (a := 0) (b := 7) (c := 3) hM hDr hDT (by decide)) rfl rfl rfl rfl rfl (fun σ0x hP => ?_)
  obtain ⟨⟨fd0, hDr, hDT⟩, hf⟩ := hP
  have hM := (hf 272 (by omega)).trans hM
  have hfa : ∀ j, j ≠ 275 → σ0x j = σ j := fun j hj => (hf j hj).trans (hfa j hj)
  refine R_aload_n a_X11_init_106 rfl ?_
  refine R_iconst (v := nI 1) a_X11_init_107 rfl ?_
  refine R_bipush (v := nI 9) a_X11_init_108 rfl ?_
  refine R_iconst (v := nI 0) a_X11_init_110 rfl ?_
  refine R_callVv a_X11_init_111 hM (md_guestOf (T := (tG Z0 0 7 3)) (a := 1) (b := 9) (c := 0) hM hDr hDT (by decide)) rfl rfl rfl rfl rfl (fun σ1x hP => ?_)
  obtain ⟨⟨fd1, hDr, hDT⟩, hf⟩ := hP
  have hM := (hf 272 (by omega)).trans hM
  have hfa : ∀ j, j ≠ 275 → σ1x j = σ j := fun j hj => (hf j hj).trans (hfa j hj)
  refine R_aload_n a_X11_init_114 rfl ?_
  refine R_iconst (v := nI 2) a_X11_init_115 rfl ?_
  refine R_bipush (v := nI 10) a_X11_init_116 rfl ?_
  refine R_iconst (v := nI 5) a_X11_init_118 rfl ?_
  refine R_callVv a_X11_init_119 hM (md_guestOf (T := (tG (tG Z0 0 7 3) 1 9 0)) (a := 2) (b := 10) (c := 5) hM hDr hDT (by decide)) rfl rfl rfl rfl rfl (fun σ2x hP => ?_)
  obtain ⟨⟨fd2, hDr, hDT⟩, hf⟩ := hP
  have hM := (hf 272 (by omega)).trans hM
  have hfa : ∀ j, j ≠ 275 → σ2x j = σ j := fun j hj => (hf j hj).trans (hfa j hj)
  refine R_aload_n a_X11_init_122 rfl ?_
  refine R_iconst (v := nI 3) a_X11_init_123 rfl ?_
  refine R_iconst (v := nI 5) a_X11_init_124 rfl ?_
  refine R_bipush (v := nI 15) a_X11_init_125 rfl ?_
  refine R_callVv a_X11_init_127 hM (md_guestOf (T := (tG (tG (tG Z0 0 7 3) 1 9 0) 2 10 5)) (a := 3) (b := 5) (c := 15) hM hDr hDT (by decide)) rfl rfl rfl rfl rfl (fun σ3x hP => ?_)
  obtain ⟨⟨fd3, hDr, hDT⟩, hf⟩ := hP
  have hM := (hf 272 (by omega)).trans hM
  have hfa : ∀ j, j ≠ 275 → σ3x j = σ j := fun j hj => (hf j hj).trans (hfa j hj)
  refine R_aload_n a_X11_init_130 rfl ?_
  refine R_iconst (v := nI 4) a_X11_init_131 rfl ?_
  refine R_bipush (v := nI 8) a_X11_init_132 rfl ?_
  refine R_bipush (v := nI 9) a_X11_init_134 rfl ?_
  refine R_callVv a_X11_init_136 hM (md_guestOf (T := (tG (tG (tG (tG Z0 0 7 3) 1 9 0) 2 10 5) 3 5 15)) (a := 4) (b := 8) (c := 9) hM hDr hDT (by decide)) rfl rfl rfl rfl rfl (fun σ4x hP => ?_)
  obtain ⟨⟨fd4, hDr, hDT⟩, hf⟩ := hP
  have hM := (hf 272 (by omega)).trans hM
  have hfa : ∀ j, j ≠ 275 → σ4x j = σ j := fun j hj => (hf j hj).trans (hfa j hj)
  refine R_aload_n a_X11_init_139 rfl ?_
  refine R_iconst (v := nI 1) a_X11_init_140 rfl ?_
  refine R_iconst (v := nI 2) a_X11_init_141 rfl ?_
  refine R_callVv a_X11_init_142 hM (md_thingOf (T := (tG (tG (tG (tG (tG Z0 0 7 3) 1 9 0) 2 10 5) 3 5 15) 4 8 9)) (a := 1) (b := 2) hM hDr hDT (by decide) (by decide) (by decide)) rfl rfl rfl rfl rfl (fun σ5x hP => ?_)
  obtain ⟨⟨fd5, hDr, hDT⟩, hf⟩ := hP
  have hM := (hf 272 (by omega)).trans hM
  have hfa : ∀ j, j ≠ 275 → σ5x j = σ j := fun j hj => (hf j hj).trans (hfa j hj)
  refine R_aload_n a_X11_init_145 rfl ?_
  refine R_iconst (v := nI 0) a_X11_init_146 rfl ?_
  refine R_iconst (v := nI 1) a_X11_init_147 rfl ?_
  refine R_callVv a_X11_init_148 hM (md_thingOf (T := (tT (tG (tG (tG (tG (tG Z0 0 7 3) 1 9 0) 2 10 5) 3 5 15) 4 8 9) 1 2)) (a := 0) (b := 1) hM hDr hDT (by decide) (by decide) (by decide)) rfl rfl rfl rfl rfl (fun σ6x hP => ?_)
  obtain ⟨⟨fd6, hDr, hDT⟩, hf⟩ := hP
  have hM := (hf 272 (by omega)).trans hM
  have hfa : ∀ j, j ≠ 275 → σ6x j = σ j := fun j hj => (hf j hj).trans (hfa j hj)
  refine R_aload_n a_X11_init_151 rfl ?_
  refine R_iconst (v := nI 1) a_X11_init_152 rfl ?_
  refine R_iconst (v := nI 3) a_X11_init_153 rfl ?_
  refine R_callVv a_X11_init_154 hM (md_thingOf (T := (tT (tT (tG (tG (tG (tG (tG Z0 0 7 3) 1 9 0) 2 10 5) 3 5 15) 4 8 9) 1 2) 0 1)) (a := 1) (b := 3) hM hDr hDT (by decide) (by decide) (by decide)) rfl rfl rfl rfl rfl (fun σ7x hP => ?_)
  obtain ⟨⟨fd7, hDr, hDT⟩, hf⟩ := hP
  have hM := (hf 272 (by omega)).trans hM
  have hfa : ∀ j, j ≠ 275 → σ7x j = σ j := fun j hj => (hf j hj).trans (hfa j hj)
  refine R_aload_n a_X11_init_157 rfl ?_
  refine R_iconst (v := nI 0) a_X11_init_158 rfl ?_
  refine R_iconst (v := nI 4) a_X11_init_159 rfl ?_
  refine R_callVv a_X11_init_160 hM (md_thingOf (T := (tT (tT (tT (tG (tG (tG (tG (tG Z0 0 7 3) 1 9 0) 2 10 5) 3 5 15) 4 8 9) 1 2) 0 1) 1 3)) (a := 0) (b := 4) hM hDr hDT (by decide) (by decide) (by decide)) rfl rfl rfl rfl rfl (fun σ8x hP => ?_)
  obtain ⟨⟨fd8, hDr, hDT⟩, hf⟩ := hP
  have hM := (hf 272 (by omega)).trans hM
  have hfa : ∀ j, j ≠ 275 → σ8x j = σ j := fun j hj => (hf j hj).trans (hfa j hj)
  refine R_aload_n a_X11_init_163 rfl ?_
  refine R_get a_X11_init_164 hM rfl ?_
  refine R_iconst (v := nI 3) a_X11_init_167 rfl ?_
  refine R_iconst (v := nI 2) a_X11_init_168 rfl ?_
  refine R_iastK (j := 3) a_X11_init_169 (by decide) hDr (by decide) (by decide) (fun σb hDr ho => ?_)
  have hDT : ToP _ T0 := start_row (a := 2) hDT
  have hM := (ho 272 (by omega)).trans hM
  have hfa : ∀ j, j ≠ 275 → σb j = σ j := fun j hj => (ho j hj).trans (hfa j hj)
  have hTo := (hfa 274 (by omega)).trans hc2
  have hSq := (hfa 276 (by omega)).trans hc4
  refine R_aload_n a_X11_init_170 rfl ?_
  refine R_callVv a_X11_init_171 hM (md_lays (T := T0) hM hDr hDT T0_in hTo hSq) rfl rfl rfl rfl rfl (fun σc hP => ?_)
  obtain ⟨hM, ⟨ft2, hTo, hDT2⟩, hSr, hf⟩ := hP
  have hDr := (hf 275 (by omega)).trans hDr
  have hfb : ∀ j, j ≠ 272 ∧ j ≠ 274 ∧ j ≠ 275 ∧ j ≠ 276 → σc j = σ j := fun j hj => (hf j (by omega)).trans (hfa j (by omega))
  refine R_vret a_X11_init_174 rfl ?_
  refine ⟨rfl, fun f => ⟨_, _, _, _, _, _, _, _, _, _, _, hM, ⟨(hfb 273 (by omega)).trans hc1, fun j hj => absurd hj (Nat.not_lt_zero j)⟩, ⟨hTo, hDT2⟩, hDr, hSr, ⟨(hfb 277 (by omega)).trans hc5, fun k hk => absurd hk (Nat.not_lt_zero k)⟩, ⟨(hfb 278 (by omega)).trans hc6, fun k hk => absurd hk (Nat.not_lt_zero k)⟩, ⟨(hfb 279 (by omega)).trans hc7, fun k hk => absurd hk (Nat.not_lt_zero k)⟩, (hfb 280 (by omega)).trans hc8, (hfb 281 (by omega)).trans hc9, (hfb 282 (by omega)).trans hc10, (hfb 283 (by omega)).trans hc11⟩, fun j hj => (hfb j (by omega)).trans (hlo j hj), fun j hj => (hfb j (by omega)).trans (hn j (by omega))⟩
