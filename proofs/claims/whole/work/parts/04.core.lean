/-! The words, the tables' rows checked once, and what a state of both systems is: a memory of ints and longs by cell and place. -/
def sw_T : List Cond := lw_tbl.filter goodWord
theorem sw_in {i : Nat} {w : Cond} (h : lw_tbl[i]? = some w) (g : goodWord w = true) : w ∈ sw_T := List.mem_filter.mpr ⟨List.mem_of_getElem? h, g⟩
theorem sw_T_good {w : Cond} (h : w ∈ sw_T) : goodWord w = true := (List.mem_filter.mp h).2
theorem sw_lookup {β : Type} : ∀ {l : List (Nat × β)} {a : Nat} {b : β}, l.lookup a = some b → (a, b) ∈ l := by
  intro l
  induction l with
  | nil => intro a b h; simp at h
  | cons q l ih =>
    intro a b h
    obtain ⟨k, v⟩ := q
    rw [List.lookup_cons] at h
    by_cases e : a = k
    · subst e
      simp at h
      subst h
      exact List.mem_cons_self
    · have : (a == k) = false := by simpa using e
      rw [this] at h
      exact List.mem_cons_of_mem _ (ih h)
/-- a field's link, by its owner: the class' place, the field's place -/
def sw_nest (o i : Nat) : Bool := (o == 2 && i == 77) || (o == 7 && i == 35)
def sw_fchk (o : Nat) (e : Nat × Nat × Nat × Nat) : Bool := match vwCl[e.2.1]? with
  | some q => decide (e.2.2.1 < q.2.2) && decide (e.2.2.1 < (sw_fkL.getD e.2.1 []).length) && (sw_nest o e.1 || decide (lw_tbl[e.2.2.2]? = some (.fieldLink (sw_R o) e.1 (q.2.1 e.2.2.1).1 (q.2.1 e.2.2.1).2.1 (q.2.1 e.2.2.1).2.2.1)))
  | none => false
theorem sw_fchk_all : (List.range 18).all (fun o => (sw_flw.getD o []).all (sw_fchk o)) = true := by decide +kernel
theorem sw_getD_big {α : Type} {l : List (List α)} {o : Nat} (h : l.length ≤ o) : l.getD o [] = [] := by
  simp [List.getD, h]
theorem sw_flw_len : sw_flw.length = 18 := by decide +kernel
theorem sw_mlw_len : sw_mlw.length = 18 := by decide +kernel
theorem sw_fl_ok {o i ci j : Nat} (h : sw_fl o i = some (ci, j)) : ∃ q : vw_C, vwCl[ci]? = some q ∧ j < q.2.2 ∧ j < (sw_fkL.getD ci []).length ∧ (sw_nest o i = true ∨ Cond.fieldLink (sw_R o) i (q.2.1 j).1 (q.2.1 j).2.1 (q.2.1 j).2.2.1 ∈ sw_T) := by
  unfold sw_fl at h
  split at h
  · rename_i q hq
    have hm := sw_lookup hq
    have ho : o < 18 := by
      rcases Nat.lt_or_ge o 18 with g | g
      · exact g
      · rw [sw_getD_big (by rw [sw_flw_len]; exact g)] at hm; simp at hm
    have h1 := List.all_eq_true.mp (List.all_eq_true.mp sw_fchk_all o (List.mem_range.mpr ho)) _ hm
    obtain ⟨a, b, g⟩ := q
    simp only [Option.some.injEq, Prod.mk.injEq] at h
    obtain ⟨rfl, rfl⟩ := h
    unfold sw_fchk at h1
    split at h1
    · rename_i q' hq'
      simp only [Bool.and_eq_true, decide_eq_true_eq, Bool.or_eq_true] at h1
      refine ⟨q', hq', h1.1.1, h1.1.2, h1.2.elim Or.inl (fun e => Or.inr (sw_in e rfl))⟩
    · cases h1
  · cases h
/-- a method: its words in the tables (its code's word stands in its contract) -/
def sw_mchk (n : Nat) : Bool := match sw_mwL[n]? with
  | some w => decide (lw_tbl[w.2.1]? = some (if (sw_mo n).2.1 then .static (sw_mt n).1 else .instanceMethod (sw_mt n).1)) && ((sw_mo n).2.1 || sw_isc n || decide (lw_tbl[w.2.2.1]? = some (.selects (sw_mt n).1.cls (sw_mt n).1 (sw_mt n).1))) && decide (lw_tbl[w.2.2.2]? = some (.initialized (sw_mt n).1.cls)) && decide (sw_R (sw_mo n).1 = (sw_mt n).1.cls) && decide ((parseMethodDescriptor (sw_mt n).1.desc).map (fun d => d.parameters.length) = some (sw_mo n).2.2) && plainFor (sw_mt n).1 && decide ((sw_mt n).1.cls ≠ "java/lang/invoke/MethodHandle") && decide ((sw_mt n).1.cls ≠ "java/lang/invoke/VarHandle") && decide ((sw_mt n).2.2.1 ≤ 30)
  | none => false
theorem cm_0 : (List.range 20).all (fun i => decide (304 ≤ 20 * 0 + i) || sw_mchk (20 * 0 + i)) = true := by decide +kernel
theorem cm_1 : (List.range 20).all (fun i => decide (304 ≤ 20 * 1 + i) || sw_mchk (20 * 1 + i)) = true := by decide +kernel
theorem cm_2 : (List.range 20).all (fun i => decide (304 ≤ 20 * 2 + i) || sw_mchk (20 * 2 + i)) = true := by decide +kernel
theorem cm_3 : (List.range 20).all (fun i => decide (304 ≤ 20 * 3 + i) || sw_mchk (20 * 3 + i)) = true := by decide +kernel
theorem cm_4 : (List.range 20).all (fun i => decide (304 ≤ 20 * 4 + i) || sw_mchk (20 * 4 + i)) = true := by decide +kernel
theorem cm_5 : (List.range 20).all (fun i => decide (304 ≤ 20 * 5 + i) || sw_mchk (20 * 5 + i)) = true := by decide +kernel
theorem cm_6 : (List.range 20).all (fun i => decide (304 ≤ 20 * 6 + i) || sw_mchk (20 * 6 + i)) = true := by decide +kernel
theorem cm_7 : (List.range 20).all (fun i => decide (304 ≤ 20 * 7 + i) || sw_mchk (20 * 7 + i)) = true := by decide +kernel
theorem cm_8 : (List.range 20).all (fun i => decide (304 ≤ 20 * 8 + i) || sw_mchk (20 * 8 + i)) = true := by decide +kernel
theorem cm_9 : (List.range 20).all (fun i => decide (304 ≤ 20 * 9 + i) || sw_mchk (20 * 9 + i)) = true := by decide +kernel
theorem cm_10 : (List.range 20).all (fun i => decide (304 ≤ 20 * 10 + i) || sw_mchk (20 * 10 + i)) = true := by decide +kernel
theorem cm_11 : (List.range 20).all (fun i => decide (304 ≤ 20 * 11 + i) || sw_mchk (20 * 11 + i)) = true := by decide +kernel
theorem cm_12 : (List.range 20).all (fun i => decide (304 ≤ 20 * 12 + i) || sw_mchk (20 * 12 + i)) = true := by decide +kernel
theorem cm_13 : (List.range 20).all (fun i => decide (304 ≤ 20 * 13 + i) || sw_mchk (20 * 13 + i)) = true := by decide +kernel
theorem cm_14 : (List.range 20).all (fun i => decide (304 ≤ 20 * 14 + i) || sw_mchk (20 * 14 + i)) = true := by decide +kernel
theorem cm_15 : (List.range 20).all (fun i => decide (304 ≤ 20 * 15 + i) || sw_mchk (20 * 15 + i)) = true := by decide +kernel
theorem sw_mchk_at {n : Nat} (h : n < 304) : sw_mchk n = true := by
  have hk : ∀ k, k < 16 → (List.range 20).all (fun i => decide (304 ≤ 20 * k + i) || sw_mchk (20 * k + i)) = true := by
    intro k hk
    match k, hk with
    | 0, _ => exact cm_0
    | 1, _ => exact cm_1
    | 2, _ => exact cm_2
    | 3, _ => exact cm_3
    | 4, _ => exact cm_4
    | 5, _ => exact cm_5
    | 6, _ => exact cm_6
    | 7, _ => exact cm_7
    | 8, _ => exact cm_8
    | 9, _ => exact cm_9
    | 10, _ => exact cm_10
    | 11, _ => exact cm_11
    | 12, _ => exact cm_12
    | 13, _ => exact cm_13
    | 14, _ => exact cm_14
    | 15, _ => exact cm_15
    | k + 16, h => omega
  have h1 := List.all_eq_true.mp (hk (n / 20) (by omega)) (n % 20) (List.mem_range.mpr (by omega))
  simp only [Nat.div_add_mod, Bool.or_eq_true, decide_eq_true_eq] at h1
  exact h1.elim (fun e => absurd h (by omega)) id
theorem sw_mok {n : Nat} (h : n < 304) : (if (sw_mo n).2.1 then Cond.static (sw_mt n).1 else .instanceMethod (sw_mt n).1) ∈ sw_T ∧ ((sw_mo n).2.1 = true ∨ sw_isc n = true ∨ Cond.selects (sw_mt n).1.cls (sw_mt n).1 (sw_mt n).1 ∈ sw_T) ∧ Cond.initialized (sw_mt n).1.cls ∈ sw_T ∧ sw_R (sw_mo n).1 = (sw_mt n).1.cls ∧ (parseMethodDescriptor (sw_mt n).1.desc).map (fun d => d.parameters.length) = some (sw_mo n).2.2 ∧ plainFor (sw_mt n).1 = true ∧ (sw_mt n).1.cls ≠ "java/lang/invoke/MethodHandle" ∧ (sw_mt n).1.cls ≠ "java/lang/invoke/VarHandle" ∧ (sw_mt n).2.2.1 ≤ 30 := by
  have h1 := sw_mchk_at h
  unfold sw_mchk at h1
  split at h1
  · simp only [Bool.and_eq_true, decide_eq_true_eq, Bool.or_eq_true] at h1
    obtain ⟨⟨⟨⟨⟨⟨⟨⟨a1, a2⟩, a3⟩, a4⟩, a5⟩, a6⟩, a7⟩, a8⟩, a9⟩ := h1
    refine ⟨sw_in a1 (by split <;> rfl), ?_, sw_in a3 rfl, a4, a5, a6, a7, a8, a9⟩
    rcases a2 with (a2 | a2) | a2
    · exact Or.inl a2
    · exact Or.inr (Or.inl a2)
    · exact Or.inr (Or.inr (sw_in a2 rfl))
  · cases h1
def sw_lchk (o : Nat) (e : Nat × Nat × Nat) : Bool := if e.2.1 < 304 then decide (lw_tbl[e.2.2]? = some (.methodLink (sw_R o) e.1 (sw_mt e.2.1).1)) else decide (e.2.1 = 900) && decide (lw_tbl[e.2.2]? = some (.methodLink (sw_R o) e.1 arraycopyName))
theorem sw_lchk_all : (List.range 18).all (fun o => (sw_mlw.getD o []).all (sw_lchk o)) = true := by decide +kernel
theorem sw_ml_ok {o i n : Nat} (h : sw_ml o i = some n) : (n < 304 ∧ Cond.methodLink (sw_R o) i (sw_mt n).1 ∈ sw_T) ∨ (n = 900 ∧ Cond.methodLink (sw_R o) i arraycopyName ∈ sw_T) := by
  unfold sw_ml at h
  split at h
  · rename_i q hq
    have hm := sw_lookup hq
    have ho : o < 18 := by
      rcases Nat.lt_or_ge o 18 with g | g
      · exact g
      · rw [sw_getD_big (by rw [sw_mlw_len]; exact g)] at hm; simp at hm
    have h1 := List.all_eq_true.mp (List.all_eq_true.mp sw_lchk_all o (List.mem_range.mpr ho)) _ hm
    obtain ⟨a, g⟩ := q
    simp only [Option.some.injEq] at h
    subst h
    unfold sw_lchk at h1
    simp only at h1
    split at h1
    · rename_i c; exact Or.inl ⟨c, sw_in (of_decide_eq_true h1) rfl⟩
    · simp only [Bool.and_eq_true, decide_eq_true_eq] at h1
      exact Or.inr ⟨h1.1, sw_in h1.2 rfl⟩
  · cases h
def sw_cIchk (o : Nat) (e : Nat × Int32 × Nat) : Bool := decide (lw_tbl[e.2.2]? = some (.constant (sw_R o) e.1 e.2.1))
theorem sw_cIchk_all : (List.range 18).all (fun o => (sw_cIL.getD o []).all (sw_cIchk o)) = true := by decide +kernel
theorem sw_cI_ok {o i : Nat} {v : Int32} (h : sw_cI o i = some v) : Cond.constant (sw_R o) i v ∈ sw_T := by
  unfold sw_cI at h
  split at h
  · rename_i q hq
    have hm := sw_lookup hq
    have ho : o < 18 := by
      rcases Nat.lt_or_ge o 18 with g | g
      · exact g
      · rw [sw_getD_big (by rw [show sw_cIL.length = 18 from rfl]; exact g)] at hm; simp at hm
    have h1 := List.all_eq_true.mp (List.all_eq_true.mp sw_cIchk_all o (List.mem_range.mpr ho)) _ hm
    simp only [Option.some.injEq] at h
    subst h
    exact sw_in (of_decide_eq_true h1) rfl
  · cases h
def sw_cLchk (o : Nat) (e : Nat × Int64 × Nat) : Bool := decide (lw_tbl[e.2.2]? = some (.constantLong (sw_R o) e.1 e.2.1))
theorem sw_cLchk_all : (List.range 18).all (fun o => (sw_cLL.getD o []).all (sw_cLchk o)) = true := by decide +kernel
theorem sw_cL_ok {o i : Nat} {v : Int64} (h : sw_cL o i = some v) : Cond.constantLong (sw_R o) i v ∈ sw_T := by
  unfold sw_cL at h
  split at h
  · rename_i q hq
    have hm := sw_lookup hq
    have ho : o < 18 := by
      rcases Nat.lt_or_ge o 18 with g | g
      · exact g
      · rw [sw_getD_big (by rw [show sw_cLL.length = 18 from rfl]; exact g)] at hm; simp at hm
    have h1 := List.all_eq_true.mp (List.all_eq_true.mp sw_cLchk_all o (List.mem_range.mpr ho)) _ hm
    simp only [Option.some.injEq] at h
    subst h
    exact sw_in (of_decide_eq_true h1) rfl
  · cases h
