/-! The words, the tables' rows checked once, and what a state of both systems is: a memory of ints and longs by cell and place. -/
def sw_T : List Cond := lw_tbl.filter goodWord
theorem sw_in {i : Nat} {w : Cond} (h : lw_tbl[i]? = some w) (g : goodWord w = true) : w ∈ sw_T := List.mem_filter.mpr ⟨List.mem_of_getElem? h, g⟩
theorem sw_T_good {w : Cond} (h : w ∈ sw_T) : goodWord w = true := (List.mem_filter.mp h).2
theorem sw_lookup {β : Type} : ∀ {l : List (Nat × β)} {a : Nat} {b : β}, l.lookup a = some b → (a, b) ∈ l := by
  intro l
  induction l with
  | nil => intro a b h; simp at h
  | cons q l ih =>
    intro a b h
    obtain ⟨k, v⟩ := q
    rw [List.lookup_cons] at h
    by_cases e : a = k
    · subst e
      simp at h
      subst h
      exact List.mem_cons_self
    · have : (a == k) = false := by simpa using e
      rw [this] at h
      exact List.mem_cons_of_mem _ (ih h)
/-- a field's link, by its owner: the class' place, the field's place -/
def sw_nest (o i : Nat) : Bool := (o == 2 && i == 77) || (o == 7 && i == 35)
def sw_fchk (o : Nat) (e : Nat × Nat × Nat × Nat) : Bool := match vwCl[e.2.1]? with
  | some q => decide (e.2.2.1 < q.2.2) && decide (e.2.2.1 < (sw_fkL.getD e.2.1 []).length) && (sw_nest o e.1 || decide (lw_tbl[e.2.2.2]? = some (.fieldLink (sw_R o) e.1 (q.2.1 e.2.2.1).1 (q.2.1 e.2.2.1).2.1 (q.2.1 e.2.2.1).2.2.1)))
  | none => false
theorem sw_fchk_all : (List.range 15).all (fun o => (sw_flw.getD o []).all (sw_fchk o)) = true := by decide +kernel
theorem sw_getD_big {α : Type} {l : List (List α)} {o : Nat} (h : l.length ≤ o) : l.getD o [] = [] := by
  simp [List.getD, h]
theorem sw_flw_len : sw_flw.length = 15 := by decide +kernel
theorem sw_mlw_len : sw_mlw.length = 15 := by decide +kernel
theorem sw_fl_ok {o i ci j : Nat} (h : sw_fl o i = some (ci, j)) : ∃ q : vw_C, vwCl[ci]? = some q ∧ j < q.2.2 ∧ j < (sw_fkL.getD ci []).length ∧ (sw_nest o i = true ∨ Cond.fieldLink (sw_R o) i (q.2.1 j).1 (q.2.1 j).2.1 (q.2.1 j).2.2.1 ∈ sw_T) := by
  unfold sw_fl at h
  split at h
  · rename_i q hq
    have hm := sw_lookup hq
    have ho : o < 15 := by
      rcases Nat.lt_or_ge o 15 with g | g
      · exact g
      · rw [sw_getD_big (by rw [sw_flw_len]; exact g)] at hm; simp at hm
    have h1 := List.all_eq_true.mp (List.all_eq_true.mp sw_fchk_all o (List.mem_range.mpr ho)) _ hm
    obtain ⟨a, b, g⟩ := q
    simp only [Option.some.injEq, Prod.mk.injEq] at h
    obtain ⟨rfl, rfl⟩ := h
    unfold sw_fchk at h1
    split at h1
    · rename_i q' hq'
      simp only [Bool.and_eq_true, decide_eq_true_eq, Bool.or_eq_true] at h1
      refine ⟨q', hq', h1.1.1, h1.1.2, h1.2.elim Or.inl (fun e => Or.inr (sw_in e rfl))⟩
    · cases h1
  · cases h
/-- a method: its code's word and the others, in the tables -/
def sw_mchk (n : Nat) : Bool := match sw_mwL[n]? with
  | some w => decide (lw_tbl[w.1]? = some (.code (sw_mt n).1 (sw_mt n).2.1 (sw_mt n).2.2.1 (sw_mt n).2.2.2)) && decide (lw_tbl[w.2.1]? = some (if (sw_mo n).2.1 then .static (sw_mt n).1 else .instanceMethod (sw_mt n).1)) && ((sw_mo n).2.1 || decide ((sw_mt n).1.name = "<init>") || decide (lw_tbl[w.2.2.1]? = some (.selects (sw_mt n).1.cls (sw_mt n).1 (sw_mt n).1))) && decide (lw_tbl[w.2.2.2]? = some (.initialized (sw_mt n).1.cls)) && decide (sw_R (sw_mo n).1 = (sw_mt n).1.cls) && decide ((parseMethodDescriptor (sw_mt n).1.desc).map (fun d => d.parameters.length) = some (sw_mo n).2.2) && plainName (sw_mt n).1.cls && decide ((sw_mt n).1.cls ≠ "java/lang/invoke/MethodHandle") && decide ((sw_mt n).1.cls ≠ "java/lang/invoke/VarHandle") && decide ((sw_mt n).2.2.1 ≤ 30)
  | none => false
theorem sw_mchk_all : (List.range 292).all sw_mchk = true := by decide +kernel
