/-! Tokens of a text, and the machine that reads a law, without any memory. -/
noncomputable def tSk (f : Nat → Nat) (n : Nat) : Nat → Nat → Nat
  | 0, e => e
  | k + 1, e => if e < n ∧ (f e = 32 ∨ f e = 10) then tSk f n k (e + 1) else e
noncomputable def tS (f : Nat → Nat) (n e : Nat) : Nat := tSk f n (n - e) e
noncomputable def tRw (f : Nat → Nat) (n lo hi : Nat) : Nat → Nat → Nat
  | 0, e => e
  | k + 1, e => if e < n ∧ lo ≤ f e ∧ f e ≤ hi then tRw f n lo hi k (e + 1) else e
noncomputable def tRo (f : Nat → Nat) (n lo hi e : Nat) : Nat := tRw f n lo hi (n - e) e
abbrev isLe (c : Nat) : Prop := 97 ≤ c ∧ c ≤ 122
abbrev isDi (c : Nat) : Prop := 48 ≤ c ∧ c ≤ 57
noncomputable def tK (f : Nat → Nat) (n e : Nat) : Nat := if n ≤ tS f n e then 0 else if isLe (f (tS f n e)) then 1 else if isDi (f (tS f n e)) then 2 else if isSg (f (tS f n e)) then 3 else 4
noncomputable def tE (f : Nat → Nat) (n e : Nat) : Nat := if n ≤ tS f n e then tS f n e else if isLe (f (tS f n e)) then tRo f n 97 122 (tS f n e) else if isDi (f (tS f n e)) then tRo f n 48 57 (tS f n e) else tS f n e + 1
noncomputable def nvv (f : Nat → Nat) (s : Nat) : Nat → Nat
  | 0 => 0
  | k + 1 => 10 * nvv f s k + (f (s + k) - 48)
noncomputable def tV (f : Nat → Nat) (n e : Nat) : Nat := nvv f (tS f n e) (min 4 (tE f n e - tS f n e))
noncomputable def wl (f : Nat → Nat) (s k : Nat) : List Nat := (List.range k).map (fun j => f (s + j))
noncomputable def kWs : List (List Nat) := [[115, 116, 114, 101, 110, 103, 116, 104], [115, 107, 105, 108, 108, 115], [103, 111, 110, 101], [104, 111, 109, 101], [109, 111, 110, 116, 104], [104, 101, 114, 111], [116, 111, 119, 110], [111, 110, 101], [119, 111, 114, 107], [98, 111, 110, 100], [108, 97, 119], [97, 110, 100], [111, 114], [110, 111, 116]]
noncomputable def tW (f : Nat → Nat) (n e : Nat) : Nat := kWs.findIdx (fun w => w == wl f (tS f n e) (tE f n e - tS f n e))
section
variable {f : Nat → Nat} {n e k lo hi : Nat}
theorem tS_st (h1 : e < n) (h2 : f e = 32 ∨ f e = 10) : tS f n e = tS f n (e + 1) := by
  unfold tS
  rw [show n - e = (n - (e + 1)) + 1 by omega, tSk, if_pos ⟨h1, h2⟩]
theorem tS_no (h : ¬ (e < n ∧ (f e = 32 ∨ f e = 10))) : tS f n e = e := by
  unfold tS
  cases n - e with
  | zero => rfl
  | succ k => rw [tSk, if_neg h]
theorem tSk_le : ∀ k e, e ≤ tSk f n k e ∧ (e ≤ n → tSk f n k e ≤ n)
  | 0, e => ⟨Nat.le_refl _, id⟩
  | k + 1, e => by
    rw [tSk]
    split
    · have := tSk_le k (e + 1)
      exact ⟨by omega, fun _ => this.2 (by omega)⟩
    · exact ⟨Nat.le_refl _, id⟩
theorem tS_le : e ≤ tS f n e := (tSk_le _ _).1
theorem tS_n (h : e ≤ n) : tS f n e ≤ n := (tSk_le _ _).2 h
theorem tRo_st (h1 : e < n) (h2 : lo ≤ f e ∧ f e ≤ hi) : tRo f n lo hi e = tRo f n lo hi (e + 1) := by
  unfold tRo
  rw [show n - e = (n - (e + 1)) + 1 by omega, tRw, if_pos ⟨h1, h2⟩]
theorem tRo_no (h : ¬ (e < n ∧ lo ≤ f e ∧ f e ≤ hi)) : tRo f n lo hi e = e := by
  unfold tRo
  cases n - e with
  | zero => rfl
  | succ k => rw [tRw, if_neg h]
theorem tRw_le : ∀ k e, e ≤ tRw f n lo hi k e ∧ (e ≤ n → tRw f n lo hi k e ≤ n) ∧ ∀ j, e ≤ j → j < tRw f n lo hi k e → lo ≤ f j ∧ f j ≤ hi
  | 0, e => ⟨Nat.le_refl _, id, fun j h1 h2 => absurd h2 (by rw [tRw]; omega)⟩
  | k + 1, e => by
    rw [tRw]
    split
    · rename_i h
      have := tRw_le k (e + 1)
      refine ⟨by omega, fun _ => this.2.1 (by omega), fun j h1 h2 => ?_⟩
      rcases Nat.eq_or_lt_of_le h1 with e9 | e9
      · subst e9; exact h.2
      · exact this.2.2 j e9 h2
    · exact ⟨Nat.le_refl _, id, fun j h1 h2 => absurd h2 (by omega)⟩
theorem tRo_le : e ≤ tRo f n lo hi e := (tRw_le _ _).1
theorem tRo_n (h : e ≤ n) : tRo f n lo hi e ≤ n := (tRw_le _ _).2.1 h
theorem tRo_in {j : Nat} (h1 : e ≤ j) (h2 : j < tRo f n lo hi e) : lo ≤ f j ∧ f j ≤ hi := (tRw_le _ _).2.2 j h1 h2
theorem tE_le : tS f n e ≤ tE f n e := by
  unfold tE
  repeat' split
  all_goals first | exact tRo_le | omega
theorem tE_n (h : e ≤ n) : tE f n e ≤ n := by
  have h1 := tS_n (f := f) h
  unfold tE
  repeat' split
  all_goals first | exact tRo_n h1 | omega
theorem tE_lt (h : tK f n e ≠ 0) : e < tE f n e := by
  have h0 := tS_le (f := f) (n := n) (e := e)
  unfold tK at h
  unfold tE
  by_cases c1 : n ≤ tS f n e
  · rw [if_pos c1] at h; omega
  · rw [if_neg c1]
    split
    · rename_i c
      rw [tRo_st (by omega) c]
      have := tRo_le (f := f) (n := n) (lo := 97) (hi := 122) (e := tS f n e + 1)
      omega
    · split
      · rename_i c
        rw [tRo_st (by omega) c]
        have := tRo_le (f := f) (n := n) (lo := 48) (hi := 57) (e := tS f n e + 1)
        omega
      · omega
theorem tK_pos (h : tK f n e ≠ 0) : tS f n e < n := by
  unfold tK at h
  by_cases c1 : n ≤ tS f n e
  · rw [if_pos c1] at h; omega
  · omega
theorem tK_le : tK f n e ≤ 4 := by
  unfold tK
  repeat' split
  all_goals omega
theorem nvv_lt {s : Nat} : ∀ k, (∀ j, j < k → f (s + j) ≤ 57) → nvv f s k < 10 ^ k
  | 0, _ => by rw [nvv]; decide
  | k + 1, h => by
    have h1 := nvv_lt k (fun j hj => h j (by omega))
    have h2 := h k (by omega)
    rw [nvv, Nat.pow_succ]
    omega
theorem tV_lt (h : tK f n e = 2) : tV f n e < 10000 := by
  have hd : ∀ j, j < tE f n e - tS f n e → f (tS f n e + j) ≤ 57 := by
    intro j hj
    unfold tK at h
    unfold tE at hj
    by_cases c1 : n ≤ tS f n e
    · rw [if_pos c1] at h; omega
    · rw [if_neg c1] at h hj
      by_cases c2 : isLe (f (tS f n e))
      · rw [if_pos c2] at h; omega
      · rw [if_neg c2] at h hj
        by_cases c3 : isDi (f (tS f n e))
        · rw [if_pos c3] at hj
          exact (tRo_in (f := f) (n := n) (lo := 48) (hi := 57) (e := tS f n e) (by omega) (by omega)).2
        · rw [if_neg c3] at h
          split at h <;> omega
  have := nvv_lt (f := f) (s := tS f n e) (min 4 (tE f n e - tS f n e)) (fun j hj => hd j (by omega))
  unfold tV
  refine Nat.lt_of_lt_of_le this ?_
  exact Nat.pow_le_pow_right (n := 10) (by decide) (show min 4 (tE f n e - tS f n e) ≤ 4 by omega)
end
theorem kWs_idx : ∀ k, k < 14 → kWs.findIdx (fun w => w == kWs.getD k []) = k := by decide +kernel
theorem tW_iff {f : Nat → Nat} {n e k : Nat} (hk : k < 14) : tW f n e = k ↔ wl f (tS f n e) (tE f n e - tS f n e) = kWs.getD k [] := by
  unfold tW
  constructor
  · intro h
    have hlt : kWs.findIdx (fun w => w == wl f (tS f n e) (tE f n e - tS f n e)) < kWs.length := by rw [h]; exact hk
    have := List.findIdx_getElem (w := hlt)
    simp only [beq_iff_eq] at this
    rw [← this, List.getD_eq_getElem?_getD, ← h, List.getElem?_eq_getElem hlt]
    rfl
  · intro h
    rw [h]
    exact kWs_idx k hk
abbrev KT : Type := Nat × Nat
abbrev KC : Type := KT × Nat × Nat × List Nat × List Nat × List Bool
noncomputable def kT (C : KC) : KT := C.1
noncomputable def kM (C : KC) : Nat := C.2.1
noncomputable def kN (C : KC) : Nat := C.2.2.1
noncomputable def kO (C : KC) : List Nat := C.2.2.2.1
noncomputable def kW (C : KC) : List Nat := C.2.2.2.2.1
noncomputable def kS (C : KC) : List Bool := C.2.2.2.2.2
noncomputable def strC (c : Nat) : Nat := if c = 15 then 1 else if c = 14 then 2 else if c = 13 then 3 else if c = 11 ∨ c = 12 then 4 else if c = 7 ∨ c = 8 then 5 else if c = 16 then 0 else 6
noncomputable def dp (s : Nat) : List Nat → List Nat → List Nat × List Nat
  | o, [] => (o, [])
  | o, c :: w => if s ≤ strC c then dp s (c :: o) w else (o, c :: w)
noncomputable def nxK (f : Nat → Nat) (n : Nat) (T : KT) : KT := if T.2 = 0 then (tE f n T.1, 0) else T
noncomputable def faK (c : Nat) (T : KT) : KT := if T.2 = 0 then (T.1, c) else T
noncomputable def lvl (f : Nat → Nat) (n : Nat) (C : KC) : Nat :=
  let e := (kT C).1
  let g := f (tS f n e)
  if tK f n e = 1 then (if tW f n e = 11 then 2 else if tW f n e = 12 then 1 else 0)
  else if tK f n e = 3 then (if g = 60 ∨ g = 61 then (if (kS C).head? = some false then 4 else 0) else if g = 43 ∨ g = 45 then 5 else if g = 42 ∨ g = 47 then 6 else 0) else 0
noncomputable def opK (f : Nat → Nat) (n : Nat) (C : KC) : Nat :=
  let e := (kT C).1
  let g := f (tS f n e)
  if tK f n e = 1 then (if tW f n e = 11 then 14 else 15) else if g = 60 then 11 else if g = 61 then 12 else if g = 43 then 7 else if g = 45 then 8 else if g = 42 then 9 else 10
noncomputable def tsO (s : Nat) (ts : List Bool) : List Bool := if s ≤ 2 then false :: ts.tail else if s = 4 then true :: ts.tail else ts
noncomputable def kFa (c : Nat) (C : KC) : KC := (faK c (kT C), kM C, kN C, kO C, kW C, kS C)
noncomputable def stpO (f : Nat → Nat) (n : Nat) (C : KC) : KC :=
  if 0 < lvl f n C then (nxK f n (kT C), if lvl f n C ≤ 2 then 0 else 1, 0, (dp (lvl f n C) (kO C) (kW C)).1, opK f n C :: (dp (lvl f n C) (kO C) (kW C)).2, tsO (lvl f n C) (kS C))
  else if tK f n (kT C).1 = 3 ∧ f (tS f n (kT C).1) = 41 ∧ 1 < (kS C).length then (nxK f n (kT C), 2, 0, (dp 1 (kO C) (kW C)).1, (dp 1 (kO C) (kW C)).2.tail, (kS C).tail)
  else if 1 < (kS C).length then kFa 1 C
  else (kT C, 3, 0, (dp 1 (kO C) (kW C)).1, [], kS C)
/-- could an expression begin here -/
abbrev couldK (f : Nat → Nat) (n : Nat) (T : KT) : Prop := tK f n T.1 = 2 ∨ tK f n T.1 = 1 ∨ (tK f n T.1 = 3 ∧ f (tS f n T.1) = 40)
noncomputable def stpP (f : Nat → Nat) (n : Nat) (C : KC) : KC :=
  let e := (kT C).1
  if kM C = 0 ∧ tK f n e = 1 ∧ tW f n e = 13 then (if kN C = 6 then kFa 2 C else (nxK f n (kT C), 0, kN C + 1, kO C, 13 :: kW C, kS C))
  else if tK f n e = 3 ∧ f (tS f n e) = 40 then (if (kS C).length < 6 then (nxK f n (kT C), 0, 0, kO C, 16 :: kW C, false :: kS C) else (faK (if couldK f n (nxK f n (kT C)) then 2 else 1) (nxK f n (kT C)), 0, 0, kO C, 16 :: kW C, kS C))
  else if tK f n e = 2 then (if 4 < tE f n e - tS f n e then kFa 2 C else (nxK f n (kT C), 2, 0, (16 + tV f n e) :: kO C, kW C, kS C))
  else if tK f n e = 1 then (if tW f n e < 7 then (nxK f n (kT C), 2, 0, tW f n e :: kO C, kW C, kS C) else kFa 3 C)
  else kFa 1 C
abbrev haltK (C : KC) : Prop := (kT C).2 ≠ 0 ∨ kM C = 3
noncomputable def stp (f : Nat → Nat) (n : Nat) (C : KC) : KC := if haltK C then C else if kM C = 2 then stpO f n C else stpP f n C
noncomputable def itr (f : Nat → Nat) (n : Nat) : Nat → KC → KC
  | 0, C => C
  | k + 1, C => itr f n k (stp f n C)
noncomputable def rch (f : Nat → Nat) (n : Nat) (C C' : KC) : Prop := ∃ k, itr f n k C = C'
section
variable {f : Nat → Nat} {n : Nat} {C C' C'' : KC}
theorem rch_rf : rch f n C C := ⟨0, rfl⟩
theorem itr_add : ∀ k j (C : KC), itr f n (k + j) C = itr f n j (itr f n k C)
  | 0, j, C => by rw [Nat.zero_add]; rfl
  | k + 1, j, C => by rw [show k + 1 + j = (k + j) + 1 by omega, itr, itr, itr_add k j]
theorem rch_tr (h : rch f n C C') (g : rch f n C' C'') : rch f n C C'' := by
  obtain ⟨k, rfl⟩ := h
  obtain ⟨j, rfl⟩ := g
  exact ⟨k + j, itr_add k j C⟩
theorem rch_st : rch f n C (stp f n C) := ⟨1, rfl⟩
theorem stp_halt (h : haltK C) : stp f n C = C := if_pos h
theorem itr_halt (h : haltK C) : ∀ k, itr f n k C = C
  | 0 => rfl
  | k + 1 => by rw [itr, stp_halt h, itr_halt h k]
theorem rch_uniq (h : rch f n C C') (h1 : haltK C') (g : rch f n C C'') (g1 : haltK C'') : C' = C'' := by
  obtain ⟨k, rfl⟩ := h
  obtain ⟨j, rfl⟩ := g
  rcases Nat.le_total k j with c | c
  · rw [show j = k + (j - k) by omega, itr_add, itr_halt h1]
  · rw [show k = j + (k - j) by omega, itr_add, itr_halt g1]
/-- where the machine ends -/
noncomputable def finK (f : Nat → Nat) (n : Nat) (C : KC) : KC := @Classical.epsilon KC ⟨C⟩ (fun R => rch f n C R ∧ haltK R)
theorem finK_eq (h : rch f n C C') (h1 : haltK C') : finK f n C = C' := by
  have := @Classical.epsilon_spec KC (fun R => rch f n C R ∧ haltK R) ⟨C', h, h1⟩
  exact rch_uniq this.1 this.2 h h1
noncomputable def hdS (s : Nat) (w : List Nat) : Prop := ∀ c, w.head? = some c → strC c < s
theorem dp_all {s : Nat} {w : List Nat} (hw : hdS s w) : ∀ q o, (∀ c ∈ q, s ≤ strC c) → dp s o (q ++ w) = (q.reverse ++ o, w)
  | [], o, _ => by
    match w, hw with
    | [], _ => rfl
    | c :: w, hw => 
      have := hw c rfl
      rw [List.nil_append, dp, if_neg (by omega)]; rfl
  | c :: q, o, h => by
    rw [List.cons_append, dp, if_pos (h c (by simp)), dp_all hw q (c :: o) (fun x hx => h x (by simp [hx]))]
    simp
theorem dp_len {s : Nat} : ∀ w o, (dp s o w).1.length + (dp s o w).2.length = o.length + w.length
  | [], o => rfl
  | c :: w, o => by
    rw [dp]
    split
    · rw [dp_len w (c :: o)]; simp only [List.length_cons]; omega
    · rfl
end
