/-! ===== the text: Letters, Reader, Table's takes ===== -/
def tg (f : Nat → Nat) (len k : Nat) : Nat := if k < len then f k else 0
def fig (c : Nat) : Bool := decide (48 ≤ c ∧ c ≤ 57)
def LtP (σ : AHp) (f : Nat → Nat) (len : Nat) : Prop := σ 2 = some (oB 2 [.ref 3, .int (nI len)]) ∧ σ 3 = some (iA 0 200 (nF f)) ∧ len ≤ 200
/-- a number of one or two figures at a place: the number, the place behind it -/
def numF (t : Nat → Nat) (p : Nat) : Option (Nat × Nat) := if fig (t p) = true then (if fig (t (p + 1)) = true then some (10 * (t p - 48) + (t (p + 1) - 48), p + 2) else some (t p - 48, p + 1)) else none
def endC (r : Nat) : Nat := if r = 0 then 59 else 44
/-- r numbers more, from place p on; the k-th comes next -/
def rdF (t : Nat → Nat) : Nat → Nat → Nat → (Nat → Nat) → Option ((Nat → Nat) × Nat)
  | 0, _, p, f => some (f, p)
  | r + 1, k, p, f => match numF t p with
    | none => none
    | some (v, q) => if t q = endC r then rdF t r (k + 1) (q + 1) (uN f k v) else none
def manyF (c : Nat) : Nat := if c = 103 then 3 else if c = 116 then 2 else if c = 108 then 1 else if c = 97 then 1 else 0
def tkG (T : Tb) (a b c : Nat) : Nat × Tb := if T.g < 8 ∧ a ≤ 4 ∧ b ≤ 10 ∧ c ≤ 63 then (1, (T.g + 1, T.n, T.law, T.st, T.so, uN T.kd T.g a, uN T.hn T.g b, uN T.kn T.g c, T.hf)) else (0, T)
def tkT (T : Tb) (a b : Nat) : Nat × Tb := if T.n < 6 ∧ a ≤ 1 ∧ 1 ≤ b ∧ b ≤ 4 then (1, (T.g, T.n + 1, T.law, T.st, T.so ||| a * 2 ^ T.n, T.kd, T.hn, T.kn, uN T.hf T.n b)) else (0, T)
def tkL (T : Tb) (a : Nat) : Nat × Tb := if a < 4 then (1, (T.g, T.n, a, T.st, T.so, T.kd, T.hn, T.kn, T.hf)) else (0, T)
def tkA (T : Tb) (a : Nat) : Nat × Tb := if a < 8 then (1, (T.g, T.n, T.law, a, T.so, T.kd, T.hn, T.kn, T.hf)) else (0, T)
def tkF (T : Tb) (c : Nat) (f : Nat → Nat) : Nat × Tb := if c = 103 then tkG T (f 0) (f 1) (f 2) else if c = 116 then tkT T (f 0) (f 1) else if c = 108 then tkL T (f 0) else if c = 97 then tkA T (f 0) else (0, T)
/-- the text read from place p on: the fault's place; the table as far as it was read -/
def rdA (t : Nat → Nat) (len : Nat) : Nat → Nat → Tb → Option Nat × Tb
  | 0, _, T => (none, T)
  | n + 1, p, T => if p < len then (match rdF t (manyF (t p)) 0 (p + 1) (fun _ => 0) with
      | none => (some p, T)
      | some (f, q) => if manyF (t p) = 0 then (some p, T) else if (tkF T (t p) f).1 = 1 then rdA t len n q (tkF T (t p) f).2 else (some p, T))
    else (none, T)
set_option maxRecDepth 20000 in
theorem ev_at {σ : AHp} {f : Nat → Nat} {len : Nat} (h : LtP σ f len) {k : Nat} (hk : k < 2 ^ 30) : EvP M_X2_at [.ref 2, .int (nI k)] σ (.int (nI (tg f len k))) := by
  obtain ⟨hL, hr, hlen⟩ := h
  refine Ev.of (ls := [_, _]) 0 (by decide) rfl rfl ?_
  refine R_iload_n a_X2_at_0 rfl ?_
  refine R_if_lt_n a_X2_at_1 (by omega) ?_
  refine R_iload_n a_X2_at_4 rfl ?_
  refine R_aload_n a_X2_at_5 rfl ?_
  refine R_get a_X2_at_6 hL rfl ?_
  first | with_reducible refine R_icmp_ge_n a_X2_at_9 (by omega) (by omega) (fun h9 => ?_) (fun h9 => ?_) | refine R_icmp_ge a_X2_at_9 (fun h9 => ?_) (fun h9 => ?_)
  · skip
    refine R_iconst (v := nI 0) a_X2_at_21 rfl ?_
    refine R_iret a_X2_at_22 rfl ?_
    exact ⟨by unfold tg; first | rw [if_neg (by omega)] | rw [if_pos (by omega)], rfl⟩
  · skip
    refine R_aload_n a_X2_at_12 rfl ?_
    refine R_get a_X2_at_13 hL rfl ?_
    refine R_iload_n a_X2_at_16 rfl ?_
    refine R_iald_n a_X2_at_17 hr (by omega) (by decide) ?_
    refine R_goto a_X2_at_18 ?_
    refine R_iret a_X2_at_22 rfl ?_
    exact ⟨by unfold tg; first | rw [if_neg (by omega)] | rw [if_pos (by omega)], rfl⟩

set_option maxRecDepth 20000 in
theorem ev_Lclear {σ0 : AHp} {f : Nat → Nat} {len : Nat} (h : LtP σ0 f len) : EvW M_X2_clear [.ref 2] σ0 none (fun σ => LtP σ f 0 ∧ Fr σ0 σ 2 2) := by
  obtain ⟨hL, hr, hlen⟩ := h
  have hfr : ∀ j, j < 2 ∨ 4 ≤ j → σ0 j = σ0 j := fun _ _ => rfl
  refine Ev.of (ls := [_]) 0 (by decide) rfl rfl ?_
  refine R_aload_n a_X2_clear_0 rfl ?_
  refine R_iconst (v := nI 0) a_X2_clear_1 rfl ?_
  refine R_putiK (fs' := [_, _]) a_X2_clear_2 hL rfl rfl (fun σ hL ho => ?_)
  have hr := (ho _ (by omega)).trans hr
  have hfr : ∀ j, j < 2 ∨ 4 ≤ j → σ j = σ0 j := fun j hj => (ho j (by omega)).trans (hfr j hj)
  refine R_vret a_X2_clear_5 rfl ?_
  exact ⟨rfl, ⟨hL, hr, by omega⟩, hfr⟩

set_option maxRecDepth 20000 in
theorem ev_Ladd {σ0 : AHp} {f : Nat → Nat} {len : Nat} (h : LtP σ0 f len) {c : Nat} : EvW M_X2_add [.ref 2, .int (nI c)] σ0 (some (.int (nI (if len < 200 then 1 else 0)))) (fun σ => (if len < 200 then LtP σ (uN f len c) (len + 1) else LtP σ f len) ∧ Fr σ0 σ 2 2) := by
  obtain ⟨hL, hr, hlen⟩ := h
  have hfr : ∀ j, j < 2 ∨ 4 ≤ j → σ0 j = σ0 j := fun _ _ => rfl
  refine Ev.of (ls := [_, _]) 0 (by decide) rfl rfl ?_
  refine R_aload_n a_X2_add_0 rfl ?_
  refine R_get a_X2_add_1 hL rfl ?_
  refine R_sipush (v := nI 200) a_X2_add_4 rfl ?_
  first | with_reducible refine R_icmp_lt_n a_X2_add_7 (by omega) (by omega) (fun h7 => ?_) (fun h7 => ?_) | refine R_icmp_lt a_X2_add_7 (fun h7 => ?_) (fun h7 => ?_)
  · skip
    refine R_aload_n a_X2_add_12 rfl ?_
    refine R_get a_X2_add_13 hL rfl ?_
    refine R_aload_n a_X2_add_16 rfl ?_
    refine R_get a_X2_add_17 hL rfl ?_
    refine R_iload_n a_X2_add_20 rfl ?_
    refine R_iastK a_X2_add_21 (by omega) hr (by omega) (by decide) (fun σ hr ho => ?_)
    have hL := (ho _ (by omega)).trans hL
    have hfr : ∀ j, j < 2 ∨ 4 ≤ j → σ j = σ0 j := fun j hj => (ho j (by omega)).trans (hfr j hj)
    rw [nF_upd] at hr
    refine R_aload_n a_X2_add_22 rfl ?_
    refine R_dup a_X2_add_23 rfl ?_
    refine R_get a_X2_add_24 hL rfl ?_
    refine R_iconst (v := nI 1) a_X2_add_27 rfl ?_
    first | with_reducible refine R_iadd_n a_X2_add_28 ?_ | refine R_iadd a_X2_add_28 ?_
    refine R_putiK (fs' := [_, _]) a_X2_add_29 hL rfl rfl (fun σ hL ho => ?_)
    have hr := (ho _ (by omega)).trans hr
    have hfr : ∀ j, j < 2 ∨ 4 ≤ j → σ j = σ0 j := fun j hj => (ho j (by omega)).trans (hfr j hj)
    refine R_iconst (v := nI 1) a_X2_add_32 rfl ?_
    refine R_zret_n a_X2_add_33 rfl (by omega) ?_
    exact ⟨by rw [if_pos (by omega)], by rw [if_pos (by omega)]; exact ⟨hL, hr, by omega⟩, hfr⟩
  · skip
    refine R_iconst (v := nI 0) a_X2_add_10 rfl ?_
    refine R_zret_n a_X2_add_11 rfl (by omega) ?_
    exact ⟨by rw [if_neg (by omega)], by rw [if_neg (by omega)]; exact ⟨hL, hr, by omega⟩, hfr⟩

set_option maxRecDepth 20000 in
theorem ev_isFigure {σ : AHp} {c : Nat} (hc : c < 2 ^ 30) : EvP M_X5_isFigure [.int (nI c)] σ (.int (nI (b2n (fig c)))) := by
  refine Ev.of (ls := [_]) 0 (by decide) rfl rfl ?_
  refine R_iload_n a_X5_isFigure_0 rfl ?_
  refine R_bipush (v := nI 48) a_X5_isFigure_1 rfl ?_
  first | with_reducible refine R_icmp_lt_n a_X5_isFigure_3 (by omega) (by omega) (fun h3 => ?_) (fun h3 => ?_) | refine R_icmp_lt a_X5_isFigure_3 (fun h3 => ?_) (fun h3 => ?_)
  · skip
    refine R_iconst (v := nI 0) a_X5_isFigure_16 rfl ?_
    refine R_zret_n a_X5_isFigure_17 rfl (by omega) ?_
    exact ⟨by unfold fig; first | rw [decide_eq_false (by omega)]; rfl | rw [decide_eq_true (by omega)]; rfl, rfl⟩
  · skip
    refine R_iload_n a_X5_isFigure_6 rfl ?_
    refine R_bipush (v := nI 57) a_X5_isFigure_7 rfl ?_
    first | with_reducible refine R_icmp_gt_n a_X5_isFigure_9 (by omega) (by omega) (fun h9 => ?_) (fun h9 => ?_) | refine R_icmp_gt a_X5_isFigure_9 (fun h9 => ?_) (fun h9 => ?_)
    · skip
      refine R_iconst (v := nI 0) a_X5_isFigure_16 rfl ?_
      refine R_zret_n a_X5_isFigure_17 rfl (by omega) ?_
      exact ⟨by unfold fig; first | rw [decide_eq_false (by omega)]; rfl | rw [decide_eq_true (by omega)]; rfl, rfl⟩
    · skip
      refine R_iconst (v := nI 1) a_X5_isFigure_12 rfl ?_
      refine R_goto a_X5_isFigure_13 ?_
      refine R_zret_n a_X5_isFigure_17 rfl (by omega) ?_
      exact ⟨by unfold fig; first | rw [decide_eq_false (by omega)]; rfl | rw [decide_eq_true (by omega)]; rfl, rfl⟩

set_option maxRecDepth 20000 in
theorem ev_howMany {σ : AHp} {c : Nat} (hc : c < 2 ^ 30) : EvP M_X5_howMany [.int (nI c)] σ (.int (nI (manyF c))) := by
  refine Ev.of (ls := [_]) 0 (by decide) rfl rfl ?_
  refine R_iload_n a_X5_howMany_0 rfl ?_
  by_cases hs97 : c = 97
  · refine R_lsw (off := 49) (tgt := 50) a_X5_howMany_1 (by decide) (by rw [hs97]; rfl) rfl ?_
    refine R_iconst (v := nI 1) a_X5_howMany_50 rfl ?_
    refine R_iret a_X5_howMany_51 rfl ?_
    exact ⟨by unfold manyF; first | rw [if_pos hs103] | rw [if_neg (by omega), if_pos hs116] | rw [if_neg (by omega), if_neg (by omega), if_pos hs108] | rw [if_neg (by omega), if_neg (by omega), if_neg (by omega), if_pos hs97] | rw [if_neg (by omega), if_neg (by omega), if_neg (by omega), if_neg (by omega)], rfl⟩
  by_cases hs103 : c = 103
  · refine R_lsw (off := 43) (tgt := 44) a_X5_howMany_1 (by decide) (by rw [hs103]; rfl) rfl ?_
    refine R_iconst (v := nI 3) a_X5_howMany_44 rfl ?_
    refine R_iret a_X5_howMany_45 rfl ?_
    exact ⟨by unfold manyF; first | rw [if_pos hs103] | rw [if_neg (by omega), if_pos hs116] | rw [if_neg (by omega), if_neg (by omega), if_pos hs108] | rw [if_neg (by omega), if_neg (by omega), if_neg (by omega), if_pos hs97] | rw [if_neg (by omega), if_neg (by omega), if_neg (by omega), if_neg (by omega)], rfl⟩
  by_cases hs108 : c = 108
  · refine R_lsw (off := 47) (tgt := 48) a_X5_howMany_1 (by decide) (by rw [hs108]; rfl) rfl ?_
    refine R_iconst (v := nI 1) a_X5_howMany_48 rfl ?_
    refine R_iret a_X5_howMany_49 rfl ?_
    exact ⟨by unfold manyF; first | rw [if_pos hs103] | rw [if_neg (by omega), if_pos hs116] | rw [if_neg (by omega), if_neg (by omega), if_pos hs108] | rw [if_neg (by omega), if_neg (by omega), if_neg (by omega), if_pos hs97] | rw [if_neg (by omega), if_neg (by omega), if_neg (by omega), if_neg (by omega)], rfl⟩
  by_cases hs116 : c = 116
  · refine R_lsw (off := 45) (tgt := 46) a_X5_howMany_1 (by decide) (by rw [hs116]; rfl) rfl ?_
    refine R_iconst (v := nI 2) a_X5_howMany_46 rfl ?_
    refine R_iret a_X5_howMany_47 rfl ?_
    exact ⟨by unfold manyF; first | rw [if_pos hs103] | rw [if_neg (by omega), if_pos hs116] | rw [if_neg (by omega), if_neg (by omega), if_pos hs108] | rw [if_neg (by omega), if_neg (by omega), if_neg (by omega), if_pos hs97] | rw [if_neg (by omega), if_neg (by omega), if_neg (by omega), if_neg (by omega)], rfl⟩
  refine R_lsw (off := 51) (tgt := 52) a_X5_howMany_1 (by decide) (by simp [Op.lookupswitch.offset, nI_toInt (show c < 2 ^ 31 by omega)]; omega) rfl ?_
  refine R_iconst (v := nI 0) a_X5_howMany_52 rfl ?_
  refine R_iret a_X5_howMany_53 rfl ?_
  exact ⟨by unfold manyF; first | rw [if_pos hs103] | rw [if_neg (by omega), if_pos hs116] | rw [if_neg (by omega), if_neg (by omega), if_pos hs108] | rw [if_neg (by omega), if_neg (by omega), if_neg (by omega), if_pos hs97] | rw [if_neg (by omega), if_neg (by omega), if_neg (by omega), if_neg (by omega)], rfl⟩

