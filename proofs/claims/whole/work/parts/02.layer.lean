/-! ===== THE LAYER: methods over an abstract heap. An address is a small number (0: the script; k ≥ 1: the k-th cell made), a cell is an array of ints, an array of references or an object. ===== -/
abbrev ACell : Type := (Nat × Nat × (Nat → Int32)) ⊕ ((Nat × Nat × (Nat → Option Nat)) ⊕ (Nat × List Value))
abbrev AHp : Type := Nat → Option ACell
/-- an array of ints (t = 0) or booleans (t = 1) of length n -/
abbrev iA (t n : Nat) (f : Nat → Int32) : ACell := .inl (t, n, f)
/-- an array of references (t = 2: rounds, t = 3: evenings) -/
abbrev rA (t n : Nat) (f : Nat → Option Nat) : ACell := .inr (.inl (t, n, f))
/-- an object of the class of that number, with its fields -/
abbrev oB (ci : Nat) (fs : List Value) : ACell := .inr (.inr (ci, fs))
def up (σ : AHp) (k : Nat) (c : ACell) : AHp := fun j => if j = k then some c else σ j
theorem up_self (σ : AHp) (k : Nat) (c : ACell) : up σ k c k = some c := by simp [up]
theorem up_ne (σ : AHp) {k j : Nat} (c : ACell) (h : j ≠ k) : up σ k c j = σ j := by simp [up, h]
/-- the environment: classes, array classes, the script's cell, the last cell that was there before, the text constant's cells -/
abbrev En : Type := va_G × (Nat → ClassId) × Nat × Nat × Nat × Nat
abbrev En.D (E : En) : va_G := E.1
abbrev En.dA (E : En) : Nat → ClassId := E.2.1
abbrev En.b (E : En) : Nat := E.2.2.1
abbrev En.bs (E : En) : Nat := E.2.2.2.1
abbrev En.sk (E : En) : Nat := E.2.2.2.2.1
abbrev En.sv (E : En) : Nat := E.2.2.2.2.2
def ad (E : En) (k : Nat) : Nat := if k = 0 then E.b else E.bs + k
def cv (E : En) : Value → Value
  | .ref k => .ref (ad E k)
  | .float b => .ref (if b = 0 then E.sk else E.sv)
  | .retAddr t => .ref t
  | v => v
theorem cv_cat (E : En) (v : Value) : (cv E v).category = v.category := by cases v <;> rfl
def AE (E : En) : Nat → Prop := fun q => E.bs < q
def tysE (E : En) : List (ClassId × FieldType) := [(E.dA 0, .int), (E.dA 1, .boolean), (E.dA 2, .object RX6), (E.dA 3, .object RX0)]
/-- what the cell k (not the script) is in the machine's heap -/
def cAt (E : En) (k : Nat) (c : ACell) (H : Heap) : Prop := match c with
  | .inl a => H[ad E k]? = some (vp_cell (E.dA a.1) (a.2.1, .inl a.2.2)) ∧ a.1 < 2
  | .inr (.inl a) => H[ad E k]? = some (vp_cell (E.dA a.1) (a.2.1, .inr (.inr (.inr (.inr (fun j => (a.2.2 j).map (ad E))))))) ∧ (a.1 = 2 ∨ a.1 = 3)
  | .inr (.inr o) => va_at E.D vwCl (ad E k, .inr (o.1, o.2.map (cv E))) H
def Wd (E : En) (U : State) (σ : AHp) (H : Heap) : Prop :=
  (∀ k c, k ≠ 0 → σ k = some c → cAt E k c H) ∧ (∀ c, σ 0 = some c → ∃ L xs, c = iA 0 L xs ∧ va_X E.b L xs U H) ∧ (∀ k, k ≠ 0 → σ k = none → H.size ≤ E.bs + k) ∧ E.b ≤ E.bs ∧ E.bs < H.size
/-- the text constant of the class's constructor -/
def tx0 : String := "g0,7,3;g1,9,0;g2,10,5;g3,5,15;g4,8,9;t1,2;t0,1;t1,3;t0,4;a2;"
def tb0 : List Int32 := [103, 48, 44, 55, 44, 51, 59, 103, 49, 44, 57, 44, 48, 59, 103, 50, 44, 49, 48, 44, 53, 59, 103, 51, 44, 53, 44, 49, 53, 59, 103, 52, 44, 56, 44, 57, 59, 116, 49, 44, 50, 59, 116, 48, 44, 49, 59, 116, 49, 44, 51, 59, 116, 48, 44, 52, 59, 97, 50, 59]
def SK (E : En) (U : State) : Prop :=
  vk_S 1 [60] [tb0] (fun _ => E.sk) (fun _ => E.sv) (AE E) U U.heap ∧ vk_R RX10 79 tx0 E.sk U ∧ va_Z "java/lang/String" "COMPACT_STRINGS" "Z" (.int 1) (AE E) U U.heap ∧ va_Zq "jdk/internal/util/Preconditions" "SIOOBE_FORMATTER" "Ljava/util/function/BiFunction;" (AE E) U U.heap
def isNest : Cond → Bool
  | .methodLinkNest _ _ _ _ => true
  | _ => false
/-- the links to nest mates' private constructors -/
def NL : List Cond := lw_tbl.filter isNest
theorem NL_in (i : Nat) {w : Cond} (h : lw_tbl[i]? = some w) (hg : isNest w = true) : w ∈ NL := List.mem_filter.mpr ⟨List.mem_of_getElem? h, hg⟩
def NK (U : State) : Prop := ∀ w ∈ NL, va_Nw w U
theorem NL_is {w : Cond} (h : w ∈ NL) : ∃ a i x hh, w = .methodLinkNest a i x hh := by
  have h1 := (List.mem_filter.mp h).2
  cases w <;> simp [isNest] at h1
  exact ⟨_, _, _, _, rfl⟩
theorem NK.warm {s U : State} (hW : s.WarmedH U.vm) (h : NK s) : NK U := by
  intro w hw
  obtain ⟨a, i, x, hh, rfl⟩ := NL_is hw
  exact va_Nw.warmM hW (h _ hw)
theorem NK.same {s U : State} (hv : s.vm = U.vm) (h : NK s) : NK U := by
  intro w hw
  obtain ⟨a, i, x, hh, rfl⟩ := NL_is hw
  exact va_Nw.same rfl hv (h _ hw)
def Kc (E : En) (U : State) : Prop := va_K E.D vwCl (tysE E) U ∧ SK E U ∧ va_AO RX6 U ∧ va_AO RX0 U ∧ NK U
def wsM (M : MI) : List Cond := Cond.code M.y M.code M.mL M.ret :: LT
theorem wsM_LT {M : MI} {w : Cond} (h : w ∈ LT) : w ∈ wsM M := List.mem_cons_of_mem _ h
theorem wsM_in {M M' : MI} (h : Cond.code M'.y M'.code M'.mL M'.ret ∈ LT) : GoodIn (wsM M) (wsM M') := by
  intro w hw
  rcases List.mem_cons.mp hw with rfl | hw
  · exact ⟨wsM_LT h, good_of_word (LT_good _ h)⟩
  · exact ⟨wsM_LT hw, good_of_word (LT_good _ hw)⟩
theorem wsM_inL {M : MI} {ws : List Cond} (h : ∀ w ∈ ws, w ∈ LT) : GoodIn (wsM M) ws := fun w hw => ⟨wsM_LT (h w hw), good_of_word (LT_good _ (h w hw))⟩
/-- locals -/
def lvF (E : En) : Nat → List (Option Value) → List (Nat × Value)
  | _, [] => []
  | i, none :: l => lvF E (i + 1) l
  | i, some v :: l => (i, cv E v) :: lvF E (i + 1) l
theorem mem_lvF {E : En} {q : Nat × Value} : ∀ {ls : List (Option Value)} {i : Nat}, q ∈ lvF E i ls ↔ ∃ j v, ls[j]? = some (some v) ∧ q = (i + j, cv E v) := by
  intro ls
  induction ls with
  | nil => intro i; simp [lvF]
  | cons a l ih =>
    intro i
    cases a with
    | none =>
      simp only [lvF, ih]
      constructor
      · rintro ⟨j, v, h, rfl⟩
        exact ⟨j + 1, v, by simpa using h, by simp; omega⟩
      · rintro ⟨j, v, h, rfl⟩
        cases j with
        | zero => simp at h
        | succ j => exact ⟨j, v, by simpa using h, by simp; omega⟩
    | some w =>
      simp only [lvF, List.mem_cons, ih]
      constructor
      · rintro (rfl | ⟨j, v, h, rfl⟩)
        · exact ⟨0, w, by simp, by simp⟩
        · exact ⟨j + 1, v, by simpa using h, by simp; omega⟩
      · rintro ⟨j, v, h, rfl⟩
        cases j with
        | zero => simp at h; left; simp [h]
        | succ j => right; exact ⟨j, v, by simpa using h, by simp; omega⟩
def LsR (E : En) (ls : List (Option Value)) (lsA : Array Slot) (n : Nat) : Prop := lv_has lsA n (lvF E 0 ls)
theorem LsR.get {E : En} {ls : List (Option Value)} {lsA : Array Slot} {n i : Nat} {v : Value} (h : LsR E ls lsA n) (hi : ls[i]? = some (some v)) : lsA[i]? = some (.val (cv E v)) := h.2.2 (i, cv E v) (mem_lvF.mpr ⟨i, v, hi, by simp⟩)
/-- no long ends at i -/
def okS (ls : List (Option Value)) (i : Nat) : Bool := match i with
  | 0 => true
  | j + 1 => match ls[j]? with
    | some (some (.long _)) => false
    | some (some (.double _)) => false
    | _ => true
theorem okS_cat {ls : List (Option Value)} {i j : Nat} {v : Value} (h : okS ls i = true) (hj : j + 1 = i) (hv : ls[j]? = some (some v)) : ¬ v.category = 2 := by
  subst hj
  simp only [okS, hv] at h
  cases v <;> simp_all [Value.category]
theorem LsR.set1 {E : En} {ls : List (Option Value)} {lsA : Array Slot} {n i : Nat} {v : Value} (hok : okS ls i = true) (h : lv_has lsA n ((i, cv E v) :: (lvF E 0 ls).filter (fun q => !(q.1 == i) && !(q.1 + 1 == i && q.2.category == 2)))) : LsR E (ls.set i (some v)) lsA n := by
  refine ⟨h.1, h.2.1, fun q hq => ?_⟩
  obtain ⟨j, w, hj, rfl⟩ := mem_lvF.mp hq
  simp only [Nat.zero_add]
  by_cases hji : j = i
  · subst hji
    have hw : w = v := by
      rw [List.getElem?_set] at hj
      simp at hj
      obtain ⟨-, h2⟩ := hj
      simpa using h2.symm
    subst hw
    exact h.2.2 _ List.mem_cons_self
  · rw [List.getElem?_set_ne (Ne.symm hji)] at hj
    refine h.2.2 (j, cv E w) (List.mem_cons_of_mem _ (List.mem_filter.mpr ⟨mem_lvF.mpr ⟨j, w, hj, by simp⟩, ?_⟩))
    have hc : ¬ (j + 1 = i ∧ (cv E w).category = 2) := fun hh => okS_cat hok hh.1 hj (by rw [← cv_cat E]; exact hh.2)
    by_cases h1 : j + 1 = i
    · have h2 : ¬ (cv E w).category = 2 := fun q => hc ⟨h1, q⟩
      simp [hji, h2]
    · simp [hji, h1]
theorem LsR.set2 {E : En} {ls : List (Option Value)} {lsA : Array Slot} {n i : Nat} {v : Value} (hok : okS ls i = true) (h : lv_has lsA n ((i, cv E v) :: (lvF E 0 ls).filter (fun q => !(q.1 == i) && (!(q.1 == i + 1) && !(q.1 + 1 == i && q.2.category == 2))))) : LsR E ((ls.set i (some v)).set (i + 1) none) lsA n := by
  refine ⟨h.1, h.2.1, fun q hq => ?_⟩
  obtain ⟨j, w, hj, rfl⟩ := mem_lvF.mp hq
  simp only [Nat.zero_add]
  by_cases hj1 : j = i + 1
  · subst hj1
    rw [List.getElem?_set] at hj
    simp at hj
  rw [List.getElem?_set_ne (Ne.symm hj1)] at hj
  by_cases hji : j = i
  · subst hji
    have hw : w = v := by
      rw [List.getElem?_set] at hj
      simp at hj
      obtain ⟨-, h2⟩ := hj
      simpa using h2.symm
    subst hw
    exact h.2.2 _ List.mem_cons_self
  · rw [List.getElem?_set_ne (Ne.symm hji)] at hj
    refine h.2.2 (j, cv E w) (List.mem_cons_of_mem _ (List.mem_filter.mpr ⟨mem_lvF.mpr ⟨j, w, hj, by simp⟩, ?_⟩))
    have hc : ¬ (j + 1 = i ∧ (cv E w).category = 2) := fun hh => okS_cat hok hh.1 hj (by rw [← cv_cat E]; exact hh.2)
    by_cases h1 : j + 1 = i
    · have h2 : ¬ (cv E w).category = 2 := fun q => hc ⟨h1, q⟩
      simp [hji, hj1, h2]
    · simp [hji, hj1, h1]
/-- what holds of a method's frame -/
def Cx (M : MI) (E : En) (p : Program) (s : State) (m : MethodId) (args : Array Value) (meth : Method) (c : Code) : Prop :=
  p.tables.exec = Jvm.exec ∧ c.code = M.code ∧ meth.sig.returnType = M.ret ∧ c.maxLocals = M.mL ∧ s.vm.findClass M.y.cls = some m.cls ∧ (∀ w ∈ wsM M, w.before args s = true) ∧ meth.locks = false ∧ meth.name = M.y.name ∧ Kc E s
def Qa (E : En) (Q : Option Value → AHp → Prop) : Array Value → State → Outcome → State → Prop := fun _ st o t => ∃ (r : Option Value) (σ : AHp), o = .returned (r.map (cv E)) ∧ Q r σ ∧ Wd E t σ t.heap ∧ va_F (AE E) st t
/-- the judgement: from pc, with these locals, operands and cells, the method returns r and leaves σ', with Q r σ' -/
def Run (M : MI) (pc : Nat) (ls : List (Option Value)) (st : List Value) (σ : AHp) (kc ks : Nat) (Q : Option Value → AHp → Prop) : Prop :=
  ∀ (p : Program) (l : Launch) (e : Env) (s : State) (m : MethodId) (args : Array Value) (below : List Frame) (meth : Method) (c : Code) (E : En) (H : Heap) (locs : List Loc) (cells slots : Nat) (lsA : Array Slot),
    Cx M E p s m args meth c → Wd E s σ H → va_S (AE E) s.heap H locs → LsR E ls lsA M.mL → cells + kc ≤ M.rm.cells → slots + ks ≤ M.rm.slots →
    W p l e M.rm s m args below meth c H locs cells slots (MQ below (Qa E Q) args s M.rm.cells M.rm.slots (AE E)) (F0 m pc lsA (st.map (cv E)))
/-- a method's contract -/
def Ev (M : MI) (av : List Value) (σ : AHp) (Q : Option Value → AHp → Prop) : Prop :=
  ∀ (l : Launch) (E : En), Met l M.y (wsM M) M.rm (va_Pc (av.map (cv E)) (fun U => Wd E U σ U.heap ∧ Kc E U)) (Qa E Q) M.rm.cells M.rm.slots (AE E)
theorem cAt.kept {E : En} {k : Nat} {c : ACell} {H H1 : Heap} (h : cAt E k c H) (hq : H1[ad E k]? = H[ad E k]?) : cAt E k c H1 := by
  rcases c with a | a | o
  · exact ⟨by rw [hq]; exact h.1, h.2⟩
  · exact ⟨by rw [hq]; exact h.1, h.2⟩
  · exact va_at.kept (q := (ad E k, .inr (o.1, o.2.map (cv E)))) h hq
theorem cAt.lt {E : En} {k : Nat} {c : ACell} {H : Heap} (h : cAt E k c H) : ad E k < H.size := by
  rcases c with a | a | o
  · exact (Array.getElem?_eq_some_iff.mp h.1).1
  · exact (Array.getElem?_eq_some_iff.mp h.1).1
  · exact va_at.lt (q := (ad E k, .inr (o.1, o.2.map (cv E)))) h
theorem ad_pos {E : En} {k : Nat} (h : k ≠ 0) : ad E k = E.bs + k := by simp [ad, h]
theorem ad_0 (E : En) : ad E 0 = E.b := by simp [ad]
theorem AE_ad {E : En} {k : Nat} (h : k ≠ 0) : AE E (ad E k) := by
  rw [ad_pos h]
  show E.bs < E.bs + k
  omega
theorem Wd.ne {E : En} {U : State} {σ : AHp} {H : Heap} (h : Wd E U σ H) {i j : Nat} (hj : j ≠ 0) (hij : i ≠ j) : ad E i ≠ ad E j := by
  have hb := h.2.2.2.1
  by_cases hi : i = 0
  · subst hi
    rw [ad_0, ad_pos hj]
    omega
  · rw [ad_pos hi, ad_pos hj]
    omega
/-- a cell is written -/
theorem Wd.put {E : En} {U : State} {σ : AHp} {H H1 : Heap} {k : Nat} {c0 c : ACell} (h : Wd E U σ H) (hk : k ≠ 0) (h0 : σ k = some c0) (hc : cAt E k c H1) (hz : H1.size = H.size) (oq : ∀ q : Nat, q ≠ ad E k → H1[q]? = H[q]?) : Wd E U (up σ k c) H1 := by
  refine ⟨fun i d hi hd => ?_, fun d hd => ?_, fun i hi hn => ?_, h.2.2.2.1, by rw [hz]; exact h.2.2.2.2⟩
  · by_cases hik : i = k
    · subst hik
      rw [up_self] at hd
      cases hd
      exact hc
    · rw [up_ne σ c hik] at hd
      exact (h.1 i d hi hd).kept (oq _ (h.ne hk hik))
  · rw [up_ne σ c (Ne.symm hk)] at hd
    obtain ⟨L, xs, h1, h2⟩ := h.2.1 d hd
    exact ⟨L, xs, h1, h2.kept (oq _ (by rw [← ad_0 E]; exact h.ne hk (Ne.symm hk)))⟩
  · have hik : i ≠ k := by
      rintro rfl
      rw [up_self] at hn
      cases hn
    rw [up_ne σ c hik] at hn
    rw [hz]
    exact h.2.2.1 i hi hn
/-- a cell is made: the next one -/
theorem Wd.new {E : En} {U : State} {σ : AHp} {H H1 : Heap} {k : Nat} {c : ACell} (h : Wd E U σ H) (hk : k ≠ 0) (he : ad E k = H.size) (hc : cAt E k c H1) (hz : H1.size = H.size + 1) (oq : ∀ q : Nat, q < H.size → H1[q]? = H[q]?) : Wd E U (up σ k c) H1 := by
  have hb := h.2.2.2
  rw [ad_pos hk] at he
  refine ⟨fun i d hi hd => ?_, fun d hd => ?_, fun i hi hn => ?_, hb.1, by omega⟩
  · by_cases hik : i = k
    · subst hik
      rw [up_self] at hd
      cases hd
      exact hc
    · rw [up_ne σ c hik] at hd
      exact (h.1 i d hi hd).kept (oq _ (h.1 i d hi hd).lt)
  · rw [up_ne σ c (Ne.symm hk)] at hd
    obtain ⟨L, xs, h1, h2⟩ := h.2.1 d hd
    exact ⟨L, xs, h1, h2.kept (oq _ (by omega))⟩
  · have hik : i ≠ k := by
      rintro rfl
      rw [up_self] at hn
      cases hn
    rw [up_ne σ c hik] at hn
    have := h.2.2.1 i hi hn
    omega
theorem Wd.next {E : En} {U : State} {σ : AHp} {H : Heap} {k : Nat} (h : Wd E U σ H) (hk : k ≠ 0) (hn : σ k = none) (hp : k = 1 ∨ ∃ c, σ (k - 1) = some c) : ad E k = H.size := by
  have h1 := h.2.2.1 k hk hn
  rw [ad_pos hk]
  rcases hp with rfl | ⟨c, hp⟩
  · have := h.2.2.2.2
    omega
  · by_cases h0 : k - 1 = 0
    · have := h.2.2.2.2
      omega
    · have := (h.1 (k - 1) c h0 hp).lt
      rw [ad_pos h0] at this
      omega
theorem Wd.moved {E : En} {u U : State} {σ : AHp} {H : Heap} (hvm : u.vm.Alike U.vm) (h : Wd E u σ H) : Wd E U σ H := by
  refine ⟨h.1, fun c hc => ?_, h.2.2⟩
  obtain ⟨L, xs, h1, h2⟩ := h.2.1 c hc
  exact ⟨L, xs, h1, h2.moved hvm⟩
theorem SK.warm {E : En} {s U : State} {H : Heap} {locs : List Loc} (hS : va_S (AE E) s.heap H locs) (hU : U.heap = H) (hW : s.WarmedH U.vm) (h : SK E s) : SK E U := by
  obtain ⟨h1, h2, h3, h4⟩ := h
  have hq : ∀ a : Nat, a < s.heap.size → ¬ AE E a → U.heap[a]? = s.heap[a]? := fun a ha hn => by rw [hU]; exact hS.2.1 a ha hn
  refine ⟨(h1.moved hW.alike).kept hq, h2.warm hW, ?_, ?_⟩
  · exact (h3.moved hW.alike).kept hq
  · exact (h4.moved hW.alike).kept hq
theorem SK.same {E : En} {s U : State} (hh : U.heap = s.heap) (hv : U.vm = s.vm) (h : SK E s) : SK E U := by
  obtain ⟨h1, h2, h3, h4⟩ := h
  have hal : s.vm.Alike U.vm := by rw [hv]; exact Vm.Alike.refl _
  have hq : ∀ a : Nat, a < s.heap.size → ¬ AE E a → U.heap[a]? = s.heap[a]? := fun a ha hn => by rw [hh]
  exact ⟨(h1.moved hal).kept hq, h2.same hv, (h3.moved hal).kept hq, (h4.moved hal).kept hq⟩
