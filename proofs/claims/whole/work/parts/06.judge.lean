/-! Locals by their places; what the machine gives of the start; contracts; one step of the code as a law on what must hold behind it. -/
def sw_nth : List (Option Value) → Nat → Option Value
  | [], _ => none
  | a :: _, 0 => a
  | _ :: l, j + 1 => sw_nth l j
def sw_put : List (Option Value) → Nat → Option Value → List (Option Value)
  | [], 0, v => [v]
  | [], j + 1, v => none :: sw_put [] j v
  | _ :: l, 0, v => v :: l
  | a :: l, j + 1, v => a :: sw_put l j v
theorem sw_nth_put : ∀ (ls : List (Option Value)) (i j : Nat) (v : Option Value), sw_nth (sw_put ls i v) j = if j = i then v else sw_nth ls j
  | [], 0, 0, v => by simp [sw_nth, sw_put]
  | [], 0, j + 1, v => by simp [sw_nth, sw_put]
  | [], i + 1, 0, v => by simp [sw_nth, sw_put]
  | [], i + 1, j + 1, v => by
    have := sw_nth_put [] i j v
    simp only [sw_nth, sw_put, Nat.add_right_cancel_iff, this]
  | a :: l, 0, 0, v => by simp [sw_nth, sw_put]
  | a :: l, 0, j + 1, v => by simp [sw_nth, sw_put]
  | a :: l, i + 1, 0, v => by simp [sw_nth, sw_put]
  | a :: l, i + 1, j + 1, v => by
    have := sw_nth_put l i j v
    simp only [sw_nth, sw_put, Nat.add_right_cancel_iff, this]
def sw_n1 : Option Value → Prop
  | some v => v.category = 1
  | none => True
def sw_nl (ls : List (Option Value)) : Nat → Prop
  | 0 => True
  | j + 1 => sw_n1 (sw_nth ls j)
def sw_lh (E : sw_E) (la : Array Slot) (nL : Nat) (ls : List (Option Value)) : Prop := la.size = nL ∧ lv_wf la ∧ ∀ j v, sw_nth ls j = some v → la[j]? = some (.val (sw_c E v))
def sw_lvl (E : sw_E) (nL : Nat) (ls : List (Option Value)) : List (Nat × Value) := (List.range nL).filterMap (fun j => (sw_nth ls j).map (fun v => (j, sw_c E v)))
theorem sw_lh_lv {E : sw_E} {la : Array Slot} {nL : Nat} {ls : List (Option Value)} (h : sw_lh E la nL ls) : lv_has la nL (sw_lvl E nL ls) := by
  refine ⟨h.1, h.2.1, fun q hq => ?_⟩
  obtain ⟨j, -, hj⟩ := List.mem_filterMap.mp hq
  cases hv : sw_nth ls j with
  | none => rw [hv] at hj; cases hj
  | some v =>
    rw [hv] at hj
    cases hj
    exact h.2.2 j v hv
theorem sw_lh_lt {E : sw_E} {la : Array Slot} {nL : Nat} {ls : List (Option Value)} (h : sw_lh E la nL ls) {j : Nat} {v : Value} (hv : sw_nth ls j = some v) : j < nL := by
  have h1 := h.2.2 j v hv
  have := (Array.getElem?_eq_some_iff.mp h1).1
  rw [h.1] at this
  exact this
theorem sw_lh_mem {E : sw_E} {la : Array Slot} {nL : Nat} {ls : List (Option Value)} (h : sw_lh E la nL ls) {j : Nat} {v : Value} (hv : sw_nth ls j = some v) : (j, sw_c E v) ∈ sw_lvl E nL ls :=
  List.mem_filterMap.mpr ⟨j, List.mem_range.mpr (sw_lh_lt h hv), by rw [hv]; rfl⟩
theorem sw_nl_use {ls : List (Option Value)} {i j : Nat} {v : Value} (h : sw_nl ls i) (e : j + 1 = i) (hv : sw_nth ls j = some v) : v.category = 1 := by
  subst e
  simp only [sw_nl, hv, sw_n1] at h
  exact h
theorem sw_lh_put1 {E : sw_E} {la la' : Array Slot} {nL : Nat} {ls : List (Option Value)} {i : Nat} {x : Value} (h : sw_lh E la nL ls) (hn : sw_nl ls i) (h' : lv_has la' nL ((i, sw_c E x) :: (sw_lvl E nL ls).filter (fun q => !(q.1 == i) && !(q.1 + 1 == i && q.2.category == 2)))) : sw_lh E la' nL (sw_put ls i (some x)) := by
  refine ⟨h'.1, h'.2.1, fun j v hv => ?_⟩
  rw [sw_nth_put] at hv
  by_cases e : j = i
  · rw [if_pos e] at hv
    cases hv
    subst e
    exact h'.2.2 (j, sw_c E x) List.mem_cons_self
  · rw [if_neg e] at hv
    refine h'.2.2 (j, sw_c E v) (List.mem_cons_of_mem _ (List.mem_filter.mpr ⟨sw_lh_mem h hv, ?_⟩))
    by_cases e2 : j + 1 = i
    · have := sw_nl_use hn e2 hv
      simp [e, sw_c_cat, this]
    · simp [e, e2]
theorem sw_lh_put2 {E : sw_E} {la la' : Array Slot} {nL : Nat} {ls : List (Option Value)} {i : Nat} {x : Value} (h : sw_lh E la nL ls) (hn : sw_nl ls i) (h' : lv_has la' nL ((i, sw_c E x) :: (sw_lvl E nL ls).filter (fun q => !(q.1 == i) && (!(q.1 == i + 1) && !(q.1 + 1 == i && q.2.category == 2))))) : sw_lh E la' nL (sw_put (sw_put ls i (some x)) (i + 1) none) := by
  refine ⟨h'.1, h'.2.1, fun j v hv => ?_⟩
  rw [sw_nth_put] at hv
  by_cases e1 : j = i + 1
  · rw [if_pos e1] at hv
    cases hv
  · rw [if_neg e1, sw_nth_put] at hv
    by_cases e : j = i
    · rw [if_pos e] at hv
      cases hv
      subst e
      exact h'.2.2 (j, sw_c E x) List.mem_cons_self
    · rw [if_neg e] at hv
      refine h'.2.2 (j, sw_c E v) (List.mem_cons_of_mem _ (List.mem_filter.mpr ⟨sw_lh_mem h hv, ?_⟩))
      by_cases e2 : j + 1 = i
      · have := sw_nl_use hn e2 hv
        simp [e, e1, sw_c_cat, this]
      · simp [e, e1, e2]
/-- what the Statement gives of a start, for cells that nobody writes -/
def sw_N (E : sw_E) (A : Nat → Prop) (U : State) : Prop :=
  va_Nw (.fieldLinkNest RX2 77 RX5 "cells" "[I" RX10) U ∧ va_Nw (.fieldLinkNest RX7 35 RX6 "unneeded" "I" RX10) U ∧
  (∀ i, i < 34 → vk_R (sw_strs.getD i ("", 0, "")).1 (sw_strs.getD i ("", 0, "")).2.1 (sw_strs.getD i ("", 0, "")).2.2 (E.2.1 (1000 + i)) U) ∧
  vk_S 16 sw_slen sw_sbyt (fun i => E.2.1 (1000 + i)) (fun i => E.2.1 (2000 + i)) A U U.heap ∧
  vx_Zq Bundle.tN "UNASSIGNED_STACK" Bundle.steD A U U.heap ∧ vx_Zq Bundle.tN "SUPPRESSED_SENTINEL" Bundle.listD A U U.heap ∧
  va_Nw (.castable "java/lang/IllegalArgumentException" "java/lang/IllegalArgumentException") U ∧ va_Nw (.castable "java/util/NoSuchElementException" "java/util/NoSuchElementException") U ∧
  va_Z "java/lang/String" "COMPACT_STRINGS" "Z" (.int 1) A U U.heap ∧ (va_Z "jdk/internal/util/Preconditions" "SIOOBE_FORMATTER" "Ljava/util/function/BiFunction;" .null A U U.heap ∨ va_Z "jdk/internal/util/Preconditions" "SIOOBE_FORMATTER" "Ljava/util/function/BiFunction;" (.ref (E.2.1 3000)) A U U.heap)
theorem sw_N_call {E : sw_E} {A B : Nat → Prop} {s U : State} (h : sw_N E A s) (hk : ∀ q : Nat, q < s.heap.size → ¬ A q → U.heap[q]? = s.heap[q]?) (hW : s.WarmedH U.vm) (hB : ∀ q, B q → A q) : sw_N E B U := by
  obtain ⟨h1, h2, h3, h4, h5, h6, h7, h8, h9, h10⟩ := h
  refine ⟨va_Nw.warmF hW h1, va_Nw.warmF hW h2, fun i hi => vk_R.warm hW (h3 i hi), ?_, ?_, ?_, va_Nw.warmC hW h7, va_Nw.warmC hW h8, ?_, ?_⟩
  · exact ((h4.kept hk).moved hW.alike).narrow hB
  · exact ((h5.kept hk).moved hW.alike).narrow hB
  · exact ((h6.kept hk).moved hW.alike).narrow hB
  · exact ((h9.kept hk).moved hW.alike).narrow hB
  · exact h10.imp (fun h => ((h.kept hk).moved hW.alike).narrow hB) (fun h => ((h.kept hk).moved hW.alike).narrow hB)
theorem sw_N_same {E : sw_E} {A : Nat → Prop} {u U : State} (hv : U.vm = u.vm) (hh : U.heap = u.heap) (h : sw_N E A u) : sw_N E A U := by
  obtain ⟨h1, h2, h3, h4, h5, h6, h7, h8, h9, h10⟩ := h
  have ha : u.vm.Alike U.vm := by rw [hv]; exact Vm.Alike.refl u.vm
  refine ⟨va_tabs rfl hv.symm h1, va_tabs rfl hv.symm h2, fun i hi => vk_R.same hv (h3 i hi), ?_, ?_, ?_, va_tabs rfl hv.symm h7, va_tabs rfl hv.symm h8, ?_, ?_⟩
  · rw [hh]; exact h4.moved ha
  · rw [hh]; exact h5.moved ha
  · rw [hh]; exact h6.moved ha
  · rw [hh]; exact h9.moved ha
  · rw [hh]; exact h10.imp (fun h => h.moved ha) (fun h => h.moved ha)
/-- the cells that a method may write: the world's, and new ones -/
def sw_A (E : sw_E) (sz : Nat) : Nat → Prop := fun q => (∃ k, k < 112 ∧ q = E.2.1 k) ∨ sz ≤ q
def sw_H (E : sw_E) (σ : sw_M) (sz : Nat) (U : State) : Prop := U.heap.size = sz ∧ va_P E.1 vwCl (sw_W E σ) U.heap ∧ va_K E.1 vwCl (sw_ty E) U ∧ va_D (fun _ => True) (sw_W E σ) ∧ sw_N E (sw_A E sz) U
def sw_Q (E : sw_E) (A : Nat → Prop) (Q : Option Value → sw_M → Prop) : Array Value → State → Outcome → State → Prop := fun _ st oc t =>
  (∃ (r : Option Value) (σ : sw_M), oc = .returned (r.map (sw_c E)) ∧ Q r σ ∧ va_P E.1 vwCl (sw_W E σ) t.heap ∧ va_D A (sw_W E σ)) ∧ va_F A st t
def sw_rm (d B : Nat) : Room := { frames := d, cells := B, slots := 6 * B, locals := 64 * d }
def sw_ws (n : Nat) : List Cond := Cond.code (sw_mt n).1 (sw_mt n).2.1 (sw_mt n).2.2.1 (sw_mt n).2.2.2 :: sw_T
/-- THE CONTRACT of method n, called with av where the memory is σ, d frames left: it returns, and its answer and the memory behind it are as Q says -/
def sw_Con (l : Launch) (E : sw_E) (d n : Nat) (av : List Value) (σ : sw_M) (Q : Option Value → sw_M → Prop) : Prop :=
  Cond.code (sw_mt n).1 (sw_mt n).2.1 (sw_mt n).2.2.1 (sw_mt n).2.2.2 ∈ sw_T ∧ ∃ Q0 : Option Value → sw_M → Prop, (∀ r σ', Q0 r σ' → Q r σ') ∧ ∀ sz, Met l (sw_mt n).1 (sw_ws n) (sw_rm d 0) (va_Pc (av.map (sw_c E)) (sw_H E σ sz)) (sw_Q E (sw_A E sz) Q0) 0 0 (sw_A E sz)
theorem sw_Con_mono {l : Launch} {E : sw_E} {d n : Nat} {av : List Value} {σ : sw_M} {Q Q' : Option Value → sw_M → Prop} (h : sw_Con l E d n av σ Q) (hQ : ∀ r σ', Q r σ' → Q' r σ') : sw_Con l E d n av σ Q' :=
  ⟨h.1, h.2.choose, fun r σ' q => hQ r σ' (h.2.choose_spec.1 r σ' q), h.2.choose_spec.2⟩
def sw_xn (x : Nat) : String := if x = 0 then "java/util/NoSuchElementException" else "java/lang/IllegalArgumentException"
def sw_XC (E : sw_E) (A : Nat → Prop) (QX : Nat → sw_M → Prop) : String → State → State → Prop := fun X st t => ∃ (x : Nat) (σ : sw_M), X = sw_xn x ∧ QX x σ ∧ va_P E.1 vwCl (sw_W E σ) t.heap ∧ va_D A (sw_W E σ) ∧ va_F A st t
/-- the contract of a method that returns or throws, with room for B exceptions -/
def sw_ConX (l : Launch) (E : sw_E) (d B n : Nat) (av : List Value) (σ : sw_M) (Q : Option Value → sw_M → Prop) (QX : Nat → sw_M → Prop) : Prop :=
  Cond.code (sw_mt n).1 (sw_mt n).2.1 (sw_mt n).2.2.1 (sw_mt n).2.2.2 ∈ sw_T ∧ ∃ (Q0 : Option Value → sw_M → Prop) (QX0 : Nat → sw_M → Prop), (∀ r σ', Q0 r σ' → Q r σ') ∧ (∀ x σ', QX0 x σ' → QX x σ') ∧ ∀ sz, vx_Met l (sw_mt n).1 (sw_ws n) (sw_rm d B) (va_Pc (av.map (sw_c E)) (sw_H E σ sz)) (sw_Q E (sw_A E sz) Q0) (sw_XC E (sw_A E sz) QX0) B (6 * B) (sw_A E sz)
theorem sw_ConX_mono {l : Launch} {E : sw_E} {d B n : Nat} {av : List Value} {σ : sw_M} {Q Q' : Option Value → sw_M → Prop} {QX QX' : Nat → sw_M → Prop} (h : sw_ConX l E d B n av σ Q QX) (hQ : ∀ r σ', Q r σ' → Q' r σ') (hX : ∀ x σ', QX x σ' → QX' x σ') : sw_ConX l E d B n av σ Q' QX' := by
  obtain ⟨h1, Q0, X0, a, b, c⟩ := h
  exact ⟨h1, Q0, X0, fun r σ' q => hQ r σ' (a r σ' q), fun x σ' q => hX x σ' (b x σ' q), c⟩
-- what stands on the stack, in a local
def tI (st : List Value) (f : Int32 → List Value → Prop) : Prop := match st with
  | .int x :: r => f x r
  | _ => False
def tL (st : List Value) (f : Int64 → List Value → Prop) : Prop := match st with
  | .long x :: r => f x r
  | _ => False
def tR (st : List Value) (f : Nat → List Value → Prop) : Prop := match st with
  | .ref x :: r => f x r
  | _ => False
def t1 (st : List Value) (f : Value → List Value → Prop) : Prop := match st with
  | .int x :: r => f (.int x) r
  | .ref x :: r => f (.ref x) r
  | _ => False
def oI (o : Option Value) (f : Int32 → Prop) : Prop := match o with
  | some (.int x) => f x
  | _ => False
def oL (o : Option Value) (f : Int64 → Prop) : Prop := match o with
  | some (.long x) => f x
  | _ => False
def oR (o : Option Value) (f : Nat → Prop) : Prop := match o with
  | some (.ref x) => f x
  | _ => False
def tA : Nat → List Value → List Value → (List Value → List Value → Prop) → Prop
  | 0, acc, st, f => f acc st
  | k + 1, acc, v :: st, f => tA k (v :: acc) st f
  | _ + 1, _, [], _ => False
theorem tI_el {st : List Value} {f : Int32 → List Value → Prop} (h : tI st f) : ∃ x r, st = .int x :: r ∧ f x r := by
  unfold tI at h
  split at h
  · exact ⟨_, _, rfl, h⟩
  · exact h.elim
theorem tL_el {st : List Value} {f : Int64 → List Value → Prop} (h : tL st f) : ∃ x r, st = .long x :: r ∧ f x r := by
  unfold tL at h
  split at h
  · exact ⟨_, _, rfl, h⟩
  · exact h.elim
theorem tR_el {st : List Value} {f : Nat → List Value → Prop} (h : tR st f) : ∃ x r, st = .ref x :: r ∧ f x r := by
  unfold tR at h
  split at h
  · exact ⟨_, _, rfl, h⟩
  · exact h.elim
theorem t1_el {st : List Value} {f : Value → List Value → Prop} (h : t1 st f) : ∃ x r, st = x :: r ∧ x.category = 1 ∧ f x r ∧ ∀ g : Value → List Value → Prop, t1 (x :: r) g = g x r := by
  unfold t1 at h
  split at h
  · exact ⟨_, _, rfl, rfl, h, fun _ => rfl⟩
  · exact ⟨_, _, rfl, rfl, h, fun _ => rfl⟩
  · exact h.elim
theorem oI_el {o : Option Value} {f : Int32 → Prop} (h : oI o f) : ∃ x, o = some (.int x) ∧ f x := by
  unfold oI at h
  split at h
  · exact ⟨_, rfl, h⟩
  · exact h.elim
theorem oL_el {o : Option Value} {f : Int64 → Prop} (h : oL o f) : ∃ x, o = some (.long x) ∧ f x := by
  unfold oL at h
  split at h
  · exact ⟨_, rfl, h⟩
  · exact h.elim
theorem oR_el {o : Option Value} {f : Nat → Prop} (h : oR o f) : ∃ x, o = some (.ref x) ∧ f x := by
  unfold oR at h
  split at h
  · exact ⟨_, rfl, h⟩
  · exact h.elim
theorem tA_el : ∀ {k : Nat} {acc st : List Value} {f : List Value → List Value → Prop}, tA k acc st f → ∃ av r, av.length = k ∧ st = av.reverse ++ r ∧ f (av ++ acc) r ∧ ∀ g : List Value → List Value → Prop, tA k acc st g = g (av ++ acc) r := by
  intro k
  induction k with
  | zero => intro acc st f h; exact ⟨[], st, rfl, rfl, h, fun _ => rfl⟩
  | succ k ih =>
    intro acc st f h
    match st, h with
    | v :: st, h =>
      obtain ⟨av, r, h1, h2, h3, h4⟩ := ih h
      refine ⟨av ++ [v], r, by simp [h1], by simp [h2], by simpa using h3, fun g => ?_⟩
      rw [show (av ++ [v]) ++ acc = av ++ (v :: acc) by simp]
      exact h4 g
def sw_j (pc : Nat) (off : Int) (k : Nat → Prop) : Prop := match (pc : Int) + off with
  | .ofNat t => k t
  | .negSucc _ => False
theorem sw_j_el {pc : Nat} {off : Int} {k : Nat → Prop} (h : sw_j pc off k) : ∃ t : Nat, (pc : Int) + off = (t : Int) ∧ k t ∧ ∀ g : Nat → Prop, sw_j pc off g = g t := by
  unfold sw_j at h
  split at h
  · rename_i t e
    exact ⟨t, e, h, fun g => by unfold sw_j; rw [e]⟩
  · exact h.elim
def sw_xl (o ik : Nat) : Option Nat := if o = 10 then (if ik = 168 then some 0 else if ik = 95 then some 1 else none) else none
def sw_xi (x : Nat) : Nat := if x = 0 then 172 else 99
def sw_z (x : Int32) : Prop := x = 0 ∨ x = 1
