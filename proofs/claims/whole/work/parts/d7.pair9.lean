/-! Both sides' calls, one after the other: count one work can most. -/
section
variable {l : Launch} {E : sw_E} {d c : Nat} {σ τ : sw_M} {x y z : Int32}
theorem p_count (hl : l.stackTraces = false) (h : INV σ c) (hc : c ≤ 512) (hd : 64 < d) : PAIRX l E d 113 214 (fun i => if i = 0 then 1 else 0) [.int x] σ c := by
  obtain ⟨a, b, L, H, g, m, h⟩ := h
  have hn := h.2.2.2.1.2.1.1
  have hp2 : 2 ^ dPpl L ≤ 2 ^ 12 := Nat.pow_le_pow_right (by decide) hn
  have same : ∀ {u : Int32} {p p' : Nat}, p < 4097 → p' < 4097 → u = nI p → u = nI p' → p' = p := fun hp hp' e e' => (nI_eq (by omega) (by omega)).mp (e'.symm.trans e)
  have hA := h.2.2.2.2.1.1.trans h.2.2.2.2.2.1.1.symm
  have hYe := h.2.2.2.2.2.2.1.1.trans h.2.2.2.2.2.2.2.1.1.symm
  obtain ⟨r1, r2, r3⟩ := h.2.2.2.2.2.2.2.2.2.1
  have hT := h.2.2.2.2.2.2.2.2.2.2.2.1.1.trans h.2.2.2.2.2.2.2.2.2.2.2.2.1.1.symm
  refine count_ok (ex := fun k => if k = 9 then σ.1 28 6 else if k = 10 then σ.1 28 10 else if k = 11 then σ.1 2 1 else if k = 12 then σ.1 0 14 else if k = 13 then σ.1 0 15 else σ.1 0 16) hl h.2.2.1 rfl rfl rfl rfl rfl rfl (by omega) (fun k hk hx τ t1 t2 => ?_) (fun q => ?_)
  · refine ⟨trivial, fun ff => ?_⟩
    replace h := INV_L h ff
    replace t1 := XF_L t1 ff
    replace t2 := XC_L t2 ff
    have e75 := (t1 75 (Or.inr (by decide))).1
    have e82 := (t1 82 (Or.inr (by decide))).1
    refine countM_ok (ex := fun k => if k = 9 then σ.1 28 6 else if k = 10 then σ.1 28 10 else if k = 11 then σ.1 2 1 else if k = 12 then σ.1 0 14 else if k = 13 then σ.1 0 15 else σ.1 0 16) (MC_XF h.2.2.2.1 t1) (by rw [e75]; exact hA.symm) (by rw [e75]; exact hYe.symm) (by rw [e75]; exact hT.symm) (by rw [e82]; exact r1.symm) (by rw [e82]; exact r2.symm) (by rw [e82]; exact r3.symm) (by omega) (fun k' hk' hx' υ u1 u2 u3 => ?_) (fun q => absurd ⟨k, Nat.zero_le _, hk, hx⟩ q)
    have e := same (by omega) (by omega) hx hx'
    subst e
    exact ⟨rfl, u3, L111 u1, _, _, _, _, _, _, INV_xm h t1 t2 (by omega) u1⟩
  · refine ⟨by decide, ?_⟩
    exact countM_ok (ex := fun k => if k = 9 then σ.1 28 6 else if k = 10 then σ.1 28 10 else if k = 11 then σ.1 2 1 else if k = 12 then σ.1 0 14 else if k = 13 then σ.1 0 15 else σ.1 0 16) h.2.2.2.1 hA.symm hYe.symm hT.symm r1.symm r2.symm r3.symm (by omega) (fun p' hp' hx' => absurd ⟨p', Nat.zero_le _, hp', hx'⟩ q) (fun _ υ r u1 u2 u3 => ⟨trivial, u3, _, _, _, _, _, _, INV_xm h (XF_rf σ) h.2.2.1 (by omega) u1⟩)
theorem p_one (hl : l.stackTraces = false) (h : INV σ c) (hc : c ≤ 512) (hd : 64 < d) : PAIRX l E d 118 226 (fun i => if i = 0 then 1 else 0) [.int x, .int y] σ c := by
  obtain ⟨a, b, L, H, g, m, h⟩ := h
  have hn := h.2.2.2.1.2.1.1
  have hp2 : 2 ^ dPpl L ≤ 2 ^ 12 := Nat.pow_le_pow_right (by decide) hn
  have same : ∀ {u : Int32} {p p' : Nat}, p < 4097 → p' < 4097 → u = nI p → u = nI p' → p' = p := fun hp hp' e e' => (nI_eq (by omega) (by omega)).mp (e'.symm.trans e)
  refine one_ok hl h.2.2.1 (by omega) (fun p j hp hj hx hy => ?_) (fun q => ?_)
  · refine ⟨trivial, fun ff => ?_⟩
    replace h := INV_L h ff
    refine oneM_ok h.2.2.2.1 (by omega) (fun p' j' hp' hj' hx' hy' υ u1 u2 u3 => ?_) (fun q => absurd ⟨⟨p, Nat.zero_le _, hp, hx⟩, ⟨j, Nat.zero_le _, hj, hy⟩⟩ q)
    have e1 := same (by omega) (by omega) hx hx'
    have e2 := same (by omega) (by omega) hy hy'
    subst e1 e2
    exact ⟨rfl, u3, L111 u1, _, _, _, _, _, _, INV_xm h (XF_rf _) h.2.2.1 (by omega) u1⟩
  · refine ⟨by decide, ?_⟩
    exact oneM_ok h.2.2.2.1 (by omega) (fun p' j' hp' hj' hx' hy' => absurd ⟨⟨p', Nat.zero_le _, hp', hx'⟩, ⟨j', Nat.zero_le _, hj', hy'⟩⟩ q) (fun _ υ r u1 u2 u3 => ⟨trivial, u3, _, _, _, _, _, _, INV_xm h (XF_rf σ) h.2.2.1 (by omega) u1⟩)
theorem p_work (hl : l.stackTraces = false) (h : INV σ c) (hc : c ≤ 512) (hd : 64 < d) : PAIRX l E d 121 229 (fun i => if i = 0 then 1 else 0) [.int x, .int y] σ c := by
  obtain ⟨a, b, L, H, g, m, h⟩ := h
  have hn := h.2.2.2.1.2.1.1
  have hp2 : 2 ^ dPpl L ≤ 2 ^ 12 := Nat.pow_le_pow_right (by decide) hn
  have same : ∀ {u : Int32} {p p' : Nat}, p < 4097 → p' < 4097 → u = nI p → u = nI p' → p' = p := fun hp hp' e e' => (nI_eq (by omega) (by omega)).mp (e'.symm.trans e)
  have hw : dWks L ≤ 14 := h.2.2.2.1.2.1.2.1
  refine work_ok hl h.2.2.1 (by omega) (fun p j hp hj hx hy => ?_) (fun q => ?_)
  · refine ⟨trivial, fun ff => ?_⟩
    replace h := INV_L h ff
    refine workM_ok h.2.2.2.1 (by omega) (fun p' j' hp' hj' hx' hy' υ u1 u2 u3 => ?_) (fun q => absurd ⟨⟨p, Nat.zero_le _, hp, hx⟩, ⟨j, Nat.zero_le _, hj, hy⟩⟩ q)
    have e1 := same (by omega) (by omega) hx hx'
    have e2 := same (by omega) (by omega) hy hy'
    subst e1 e2
    exact ⟨rfl, u3, L111 u1, _, _, _, _, _, _, INV_xm h (XF_rf _) h.2.2.1 (by omega) u1⟩
  · refine ⟨by decide, ?_⟩
    exact workM_ok h.2.2.2.1 (by omega) (fun p' j' hp' hj' hx' hy' => absurd ⟨⟨p', Nat.zero_le _, hp', hx'⟩, ⟨j', Nat.zero_le _, hj', hy'⟩⟩ q) (fun _ υ r u1 u2 u3 => ⟨trivial, u3, _, _, _, _, _, _, INV_xm h (XF_rf σ) h.2.2.1 (by omega) u1⟩)
theorem p_can (hl : l.stackTraces = false) (h : INV σ c) (hc : c ≤ 512) (hd : 64 < d) : PAIRX l E d 131 248 (fun i => if i = 0 then 0 else 1) [.int x, .int y] σ c := by
  obtain ⟨a, b, L, H, g, m, h⟩ := h
  have hn := h.2.2.2.1.2.1.1
  have hp2 : 2 ^ dPpl L ≤ 2 ^ 12 := Nat.pow_le_pow_right (by decide) hn
  have same : ∀ {u : Int32} {p p' : Nat}, p < 4097 → p' < 4097 → u = nI p → u = nI p' → p' = p := fun hp hp' e e' => (nI_eq (by omega) (by omega)).mp (e'.symm.trans e)
  refine can_ok hl h.2.2.1 (by omega) (fun p j hp hj hx hy τ t1 t2 => ?_) (fun q => ?_)
  · refine ⟨trivial, fun ff => ?_⟩
    replace h := INV_L h ff
    replace t1 := XF_L t1 ff
    replace t2 := XC_L t2 ff
    refine canM_ok (MC_XF h.2.2.2.1 t1) (by omega) (fun p' j' hp' hj' hx' hy' υ u1 u2 u3 => ?_) (fun q => absurd ⟨⟨p, Nat.zero_le _, hp, hx⟩, ⟨j, Nat.zero_le _, hj, hy⟩⟩ q)
    have e1 := same (by omega) (by omega) hx hx'
    have e2 := same (by omega) (by omega) hy hy'
    subst e1 e2
    exact ⟨rfl, u3, L111 u1, _, _, _, _, _, _, INV_xm h t1 t2 (by omega) u1⟩
  · refine ⟨by decide, ?_⟩
    exact canM_ok h.2.2.2.1 (by omega) (fun p' j' hp' hj' hx' hy' => absurd ⟨⟨p', Nat.zero_le _, hp', hx'⟩, ⟨j', Nat.zero_le _, hj', hy'⟩⟩ q) (fun _ υ r u1 u2 u3 => ⟨trivial, u3, _, _, _, _, _, _, INV_xm h (XF_rf σ) h.2.2.1 (by omega) u1⟩)
theorem p_most (hl : l.stackTraces = false) (h : INV σ c) (hc : c ≤ 512) (hd : 64 < d) : PAIRX l E d 135 249 (fun i => if i = 0 then 1 else 0) [.int x] σ c := by
  obtain ⟨a, b, L, H, g, m, h⟩ := h
  have hn := h.2.2.2.1.2.1.1
  have hp2 : 2 ^ dPpl L ≤ 2 ^ 12 := Nat.pow_le_pow_right (by decide) hn
  have same : ∀ {u : Int32} {p p' : Nat}, p < 4097 → p' < 4097 → u = nI p → u = nI p' → p' = p := fun hp hp' e e' => (nI_eq (by omega) (by omega)).mp (e'.symm.trans e)
  refine most_ok hl h.2.2.1 (by omega) (fun p hp hx τ t1 t2 => ?_) (fun q => ?_)
  · refine ⟨trivial, fun ff => ?_⟩
    replace h := INV_L h ff
    replace t1 := XF_L t1 ff
    replace t2 := XC_L t2 ff
    refine mostM3_ok (MC_XF h.2.2.2.1 t1) (by omega) (fun p' hp' hx' υ u1 u2 u3 => ?_) (fun q => absurd ⟨p, Nat.zero_le _, hp, hx⟩ q)
    have e := same (by omega) (by omega) hx hx'
    subst e
    exact ⟨rfl, u3, L111 u1, _, _, _, _, _, _, INV_xm h t1 t2 (by omega) u1⟩
  · refine ⟨by decide, ?_⟩
    exact mostM3_ok h.2.2.2.1 (by omega) (fun p' hp' hx' => absurd ⟨p', Nat.zero_le _, hp', hx'⟩ q) (fun _ υ r u1 u2 u3 => ⟨trivial, u3, _, _, _, _, _, _, INV_xm h (XF_rf σ) h.2.2.1 (by omega) u1⟩)
end
