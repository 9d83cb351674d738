/-! The classes' tables, and the world: a memory (ints, longs) by cell and place. -/
def sw_tyf (ci : Nat) : Nat → FieldType := match ci with
  | 0 => tyX0 | 1 => tyX1 | 2 => tyX2 | 3 => tyX3 | 4 => tyX4 | 5 => tyX5 | 6 => tyX6 | 7 => tyX7 | 8 => tyX8 | 9 => tyX9 | 10 => tyX10 | _ => tyX11
def sw_tchk (ci : Nat) : Bool := match vwCl[ci]? with
  | some q => decide ((sw_fkL.getD ci []).length = q.2.2) && (List.range q.2.2).all (fun j => decide (parseFieldDescriptor (q.2.1 j).2.2.1 = some (sw_tyf ci j)) && (decide (3 ≤ sw_fk ci j) || !(q.2.1 j).2.2.2) && (if sw_fk ci j = 0 then (if sw_fz ci j then decide (sw_tyf ci j = .boolean) else decide (sw_tyf ci j = .int)) else if sw_fk ci j = 1 then decide (sw_tyf ci j = .long) else if sw_fk ci j = 2 then decide (sw_tyf ci j = .object "SpareWell$Land") else true))
  | none => false
theorem sw_tchk_all : (List.range 12).all sw_tchk = true := by decide +kernel
def sw_wchk (ci : Nat) : Bool := match vwCl[ci]? with
  | some q => (u_ws q.1 q.2.1 q.2.2).all (fun w => decide (w ∈ lw_tbl) && goodWord w)
  | none => false
theorem sw_wchk_all : (List.range 12).all sw_wchk = true := by decide +kernel
theorem sw_cl_lt {ci : Nat} {q : vw_C} (h : vwCl[ci]? = some q) : ci < 12 := (List.getElem?_eq_some_iff.mp h).1
theorem sw_cl_in {ci : Nat} {q : vw_C} (h : vwCl[ci]? = some q) : ∀ w ∈ u_ws q.1 q.2.1 q.2.2, w ∈ sw_T := by
  have h1 := List.all_eq_true.mp sw_wchk_all ci (List.mem_range.mpr (sw_cl_lt h))
  unfold sw_wchk at h1
  rw [h] at h1
  intro w hw
  have h2 := List.all_eq_true.mp h1 w hw
  simp only [Bool.and_eq_true, decide_eq_true_eq] at h2
  exact List.mem_filter.mpr ⟨h2.1, h2.2⟩
theorem sw_cl_ty {ci : Nat} {q : vw_C} (h : vwCl[ci]? = some q) : (sw_fkL.getD ci []).length = q.2.2 ∧ ∀ j, j < q.2.2 → parseFieldDescriptor (q.2.1 j).2.2.1 = some (sw_tyf ci j) ∧ (3 ≤ sw_fk ci j ∨ (q.2.1 j).2.2.2 = false) ∧ (sw_fk ci j = 0 → if sw_fz ci j then sw_tyf ci j = .boolean else sw_tyf ci j = .int) ∧ (sw_fk ci j = 1 → sw_tyf ci j = .long) ∧ (sw_fk ci j = 2 → sw_tyf ci j = .object "SpareWell$Land") := by
  have h1 := List.all_eq_true.mp sw_tchk_all ci (List.mem_range.mpr (sw_cl_lt h))
  unfold sw_tchk at h1
  rw [h] at h1
  simp only [Bool.and_eq_true, decide_eq_true_eq] at h1
  refine ⟨h1.1, fun j hj => ?_⟩
  have h2 := List.all_eq_true.mp h1.2 j (List.mem_range.mpr hj)
  simp only [Bool.and_eq_true, decide_eq_true_eq, Bool.or_eq_true, Bool.not_eq_true'] at h2
  refine ⟨h2.1.1, h2.1.2, fun e => ?_, fun e => ?_, fun e => ?_⟩
  · have h3 := h2.2
    rw [if_pos e] at h3
    split at h3
    · rename_i z; rw [if_pos z]; exact of_decide_eq_true h3
    · rename_i z; rw [if_neg z]; exact of_decide_eq_true h3
  · have h3 := h2.2
    rw [if_neg (by omega), if_pos e] at h3
    exact of_decide_eq_true h3
  · have h3 := h2.2
    rw [if_neg (by omega), if_neg (by omega), if_pos e] at h3
    exact of_decide_eq_true h3
theorem sw_cl_nm {ci : Nat} {q : vw_C} (h : vwCl[ci]? = some q) : ∀ a, a < q.2.2 → ∀ b, b < q.2.2 → a ≠ b → (q.2.1 a).2.1 ≠ (q.2.1 b).2.1 := by
  match ci, h with
  | 0, h => cases h; exact nmX0
  | 1, h => cases h; exact nmX1
  | 2, h => cases h; exact nmX2
  | 3, h => cases h; exact nmX3
  | 4, h => cases h; exact nmX4
  | 5, h => cases h; exact nmX5
  | 6, h => cases h; exact nmX6
  | 7, h => cases h; exact nmX7
  | 8, h => cases h; exact nmX8
  | 9, h => cases h; exact nmX9
  | 10, h => cases h; exact nmX10
  | 11, h => cases h; exact nmX11
  | n + 12, h => exact absurd (sw_cl_lt h) (by omega)
/-- the memory -/
abbrev sw_M : Type := (Nat → Nat → Int32) × (Nat → Nat → Int64)
/-- where things lie: the classes' numbers, the addresses of cells (and of texts, from 1000 on), the classes of int[], long[], boolean[] -/
abbrev sw_E : Type := va_G × (Nat → Nat) × (ClassId × ClassId × ClassId)
def sw_c (E : sw_E) (v : Value) : Value := match v with
  | .ref a => .ref (E.2.1 a)
  | w => w
theorem sw_c_int {E : sw_E} {x : Int32} : sw_c E (.int x) = .int x := rfl
theorem sw_c_long {E : sw_E} {x : Int64} : sw_c E (.long x) = .long x := rfl
theorem sw_c_ref {E : sw_E} {x : Nat} : sw_c E (.ref x) = .ref (E.2.1 x) := rfl
theorem sw_c_cat (E : sw_E) (v : Value) : (sw_c E v).category = v.category := by cases v <;> rfl
def sw_fv (σ : sw_M) (a c j : Nat) : Value := if sw_fk c j = 0 then .int (σ.1 a j) else if sw_fk c j = 1 then .long (σ.2 a j) else if sw_fk c j = 2 then .ref (σ.1 a j).toNatClampNeg else .ref (a + (sw_fk c j - 2))
def sw_fs (E : sw_E) (σ : sw_M) (a c : Nat) : List Value := (List.range (sw_fkL.getD c []).length).map (fun j => sw_c E (sw_fv σ a c j))
def sw_ce (E : sw_E) (σ : sw_M) (k : Nat) : va_E := if (sw_kd k).1 = 0 then .inr ((sw_kd k).2, sw_fs E σ k (sw_kd k).2) else if (sw_kd k).1 = 1 then .inl (E.2.2.1, (sw_kd k).2, .inl (σ.1 k)) else if (sw_kd k).1 = 2 then .inl (E.2.2.2.1, (sw_kd k).2, .inr (.inl (σ.2 k))) else .inl (E.2.2.2.2, (sw_kd k).2, .inl (σ.1 k))
def sw_W (E : sw_E) (σ : sw_M) : va_W := (List.range 112).map (fun k => (E.2.1 k, sw_ce E σ k))
def sw_ty (E : sw_E) : List (ClassId × FieldType) := [(E.2.2.1, .int), (E.2.2.2.1, .long), (E.2.2.2.2, .boolean)]
def sw_sI (σ : sw_M) (k : Nat) (f : Nat → Int32) : sw_M := (fun i => if i = k then f else σ.1 i, σ.2)
def sw_sL (σ : sw_M) (k : Nat) (f : Nat → Int64) : sw_M := (σ.1, fun i => if i = k then f else σ.2 i)
theorem sw_W_at (E : sw_E) (σ : sw_M) {k : Nat} (hk : k < 112) : (sw_W E σ)[k]? = some (E.2.1 k, sw_ce E σ k) := by
  simp [sw_W, hk]
theorem sw_W_set (E : sw_E) (σ σ' : sw_M) {k : Nat} {e : va_E} (he : sw_ce E σ' k = e) (h : ∀ i, i ≠ k → sw_ce E σ' i = sw_ce E σ i) : (sw_W E σ).set k (E.2.1 k, e) = sw_W E σ' := by
  subst he
  apply List.ext_getElem?
  intro i
  rw [List.getElem?_set]
  by_cases e : k = i
  · subst e
    by_cases hk : k < 112
    · simp [sw_W, hk]
    · simp [sw_W, hk]
  · simp only [e, if_false]
    by_cases hi : i < 112
    · rw [sw_W_at E σ hi, sw_W_at E σ' hi, h i (fun q => e q.symm)]
    · simp [sw_W, hi]
theorem sw_ce_I (E : sw_E) (σ : sw_M) (k : Nat) (f : Nat → Int32) {i : Nat} (h : i ≠ k) : sw_ce E (sw_sI σ k f) i = sw_ce E σ i := by
  simp [sw_ce, sw_sI, h, sw_fs, sw_fv]
theorem sw_ce_L (E : sw_E) (σ : sw_M) (k : Nat) (f : Nat → Int64) {i : Nat} (h : i ≠ k) : sw_ce E (sw_sL σ k f) i = sw_ce E σ i := by
  simp [sw_ce, sw_sL, h, sw_fs, sw_fv]
theorem sw_kd_lt {k : Nat} {a b : Nat} (h : sw_kd k = (a, b)) (ha : a ≠ 9) : k < 112 := by
  rcases Nat.lt_or_ge k 112 with g | g
  · exact g
  · exfalso
    have : sw_kd k = (9, 0) := by
      unfold sw_kd
      rw [List.getD_eq_getElem?_getD, List.getElem?_eq_none (by rw [show sw_kdL.length = 112 from rfl]; exact g)]
      rfl
    rw [h] at this
    cases this
    exact ha rfl
theorem sw_fs_len (E : sw_E) (σ : sw_M) (a c : Nat) : (sw_fs E σ a c).length = (sw_fkL.getD c []).length := by simp [sw_fs]
theorem sw_fs_at (E : sw_E) (σ : sw_M) (a c : Nat) {j : Nat} (h : j < (sw_fkL.getD c []).length) : (sw_fs E σ a c)[j]? = some (sw_c E (sw_fv σ a c j)) := by
  simp only [sw_fs, List.getElem?_map, List.getElem?_range h, Option.map_some]
theorem sw_fs_set (E : sw_E) (σ σ' : sw_M) (a c : Nat) {j : Nat} {v : Value} (hv : sw_c E (sw_fv σ' a c j) = v) (h : ∀ i, i ≠ j → sw_fv σ' a c i = sw_fv σ a c i) : (sw_fs E σ a c).set j v = sw_fs E σ' a c := by
  subst hv
  apply List.ext_getElem?
  intro i
  rw [List.getElem?_set]
  by_cases e : j = i
  · subst e
    by_cases hj : j < (sw_fkL.getD c []).length
    · rw [sw_fs_at E σ' a c hj, if_pos rfl, if_pos (by rw [sw_fs_len]; exact hj)]
    · rw [if_pos rfl, if_neg (by rw [sw_fs_len]; exact hj), List.getElem?_eq_none (by rw [sw_fs_len]; omega)]
  · rw [if_neg e]
    by_cases hi : i < (sw_fkL.getD c []).length
    · rw [sw_fs_at E σ a c hi, sw_fs_at E σ' a c hi, h i (fun q => e q.symm)]
    · rw [List.getElem?_eq_none (by rw [sw_fs_len]; omega), List.getElem?_eq_none (by rw [sw_fs_len]; omega)]
/-- what is written of an object's field -/
theorem sw_W_putI (E : sw_E) (σ : sw_M) {a c j : Nat} (ha : sw_kd a = (0, c)) {x : Int32} {v : Value} (hv : sw_c E (sw_fv (sw_sI σ a (upd (σ.1 a) j x)) a c j) = v) : (sw_W E σ).set a (E.2.1 a, .inr (c, (sw_fs E σ a c).set j v)) = sw_W E (sw_sI σ a (upd (σ.1 a) j x)) := by
  refine sw_W_set E σ _ ?_ (fun i hi => sw_ce_I E σ a _ hi)
  rw [sw_fs_set E σ (sw_sI σ a (upd (σ.1 a) j x)) a c hv (fun i hi => by simp [sw_fv, sw_sI, upd, hi])]
  simp [sw_ce, ha]
theorem sw_W_putL (E : sw_E) (σ : sw_M) {a c j : Nat} (ha : sw_kd a = (0, c)) {x : Int64} {v : Value} (hv : sw_c E (sw_fv (sw_sL σ a (vp_updL (σ.2 a) j x)) a c j) = v) : (sw_W E σ).set a (E.2.1 a, .inr (c, (sw_fs E σ a c).set j v)) = sw_W E (sw_sL σ a (vp_updL (σ.2 a) j x)) := by
  refine sw_W_set E σ _ ?_ (fun i hi => sw_ce_L E σ a _ hi)
  rw [sw_fs_set E σ (sw_sL σ a (vp_updL (σ.2 a) j x)) a c hv (fun i hi => by simp [sw_fv, sw_sL, vp_updL, hi])]
  simp [sw_ce, ha]
theorem sw_W_arrI (E : sw_E) (σ : sw_M) {a n : Nat} (ha : sw_kd a = (1, n)) (f : Nat → Int32) : (sw_W E σ).set a (E.2.1 a, .inl (E.2.2.1, n, .inl f)) = sw_W E (sw_sI σ a f) :=
  sw_W_set E σ _ (by simp [sw_ce, ha, sw_sI]) (fun i hi => sw_ce_I E σ a _ hi)
theorem sw_W_arrZ (E : sw_E) (σ : sw_M) {a n : Nat} (ha : sw_kd a = (3, n)) (f : Nat → Int32) : (sw_W E σ).set a (E.2.1 a, .inl (E.2.2.2.2, n, .inl f)) = sw_W E (sw_sI σ a f) :=
  sw_W_set E σ _ (by simp [sw_ce, ha, sw_sI]) (fun i hi => sw_ce_I E σ a _ hi)
theorem sw_W_arrL (E : sw_E) (σ : sw_M) {a n : Nat} (ha : sw_kd a = (2, n)) (f : Nat → Int64) : (sw_W E σ).set a (E.2.1 a, .inl (E.2.2.2.1, n, .inr (.inl f))) = sw_W E (sw_sL σ a f) :=
  sw_W_set E σ _ (by simp [sw_ce, ha, sw_sL]) (fun i hi => sw_ce_L E σ a _ hi)
