/-! Both sides' calls, one after the other: strongest orders wells piece taught. -/
section
variable {l : Launch} {E : sw_E} {d c : Nat} {σ τ : sw_M} {x y z : Int32}
theorem p_strongest (hl : l.stackTraces = false) (h : INV σ c) (hc : c ≤ 512) (hd : 64 < d) : PAIRX l E d 139 253 (fun i => if i = 0 then 1 else 2) [.int x, .int y, .int z] σ c := by
  obtain ⟨a, b, L, H, g, m, h⟩ := h
  have hn := h.2.2.2.1.2.1.1
  have hp2 : 2 ^ dPpl L ≤ 2 ^ 12 := Nat.pow_le_pow_right (by decide) hn
  have same : ∀ {u : Int32} {p p' : Nat}, p < 4097 → p' < 4097 → u = nI p → u = nI p' → p' = p := fun hp hp' e e' => (nI_eq (by omega) (by omega)).mp (e'.symm.trans e)
  refine strongest_ok hl h.2.2.1 (by omega) (fun k m w k0 hk hm hw hx hy hz τ t1 t2 => ?_) (fun q => ?_) (fun q0 q => ?_)
  · refine ⟨trivial, fun ff => ?_⟩
    replace h := INV_L h ff
    replace t1 := XF_L t1 ff
    replace t2 := XC_L t2 ff
    refine strongestM_ok (MC_XF h.2.2.2.1 t1) (by omega) (fun k' m' w' k0' hk' hm' hw' hx' hy' hz' υ u1 u2 u3 => ?_) (fun q => absurd ⟨w, Nat.zero_le _, hw, hz⟩ q) (fun _ q => absurd ⟨⟨k, k0, hk, hx⟩, ⟨m, Nat.zero_le _, hm, hy⟩⟩ q)
    have e1 := same (by omega) (by omega) hx hx'
    have e2 := same (by omega) (by omega) hy hy'
    have e3 := same (by omega) (by omega) hz hz'
    subst e1 e2 e3
    exact ⟨rfl, u3, L111 u1, _, _, _, _, _, _, INV_xm h t1 t2 (by omega) u1⟩
  · refine ⟨by decide, ?_⟩
    exact strongestM_ok h.2.2.2.1 (by omega) (fun k' m' w' k0' hk' hm' hw' hx' hy' hz' => absurd ⟨w', Nat.zero_le _, hw', hz'⟩ q) (fun _ υ r u1 u2 u3 => ⟨trivial, u3, _, _, _, _, _, _, INV_xm h (XF_rf σ) h.2.2.1 (by omega) u1⟩) (fun w => absurd w q)
  · refine ⟨by decide, ?_⟩
    exact strongestM_ok h.2.2.2.1 (by omega) (fun k' m' w' k0' hk' hm' hw' hx' hy' hz' => absurd ⟨⟨k', k0', hk', hx'⟩, ⟨m', Nat.zero_le _, hm', hy'⟩⟩ q) (fun w => absurd q0 w) (fun _ _ υ r u1 u2 u3 => ⟨trivial, u3, _, _, _, _, _, _, INV_xm h (XF_rf σ) h.2.2.1 (by omega) u1⟩)
theorem p_orders (hl : l.stackTraces = false) (h : INV σ c) (hc : c ≤ 512) (hd : 64 < d) : PAIRX l E d 145 257 (fun i => if i = 0 then 0 else 1) [.int x] σ c := by
  obtain ⟨a, b, L, H, g, m, h⟩ := h
  have hn := h.2.2.2.1.2.1.1
  have hp2 : 2 ^ dPpl L ≤ 2 ^ 12 := Nat.pow_le_pow_right (by decide) hn
  have same : ∀ {u : Int32} {p p' : Nat}, p < 4097 → p' < 4097 → u = nI p → u = nI p' → p' = p := fun hp hp' e e' => (nI_eq (by omega) (by omega)).mp (e'.symm.trans e)
  refine orders_ok hl h.2.2.1 (by omega) (by omega) (fun s hs hg hx τ t1 t2 => ?_) (fun q => ?_)
  · refine ⟨trivial, fun ff => ?_⟩
    replace h := INV_L h ff
    replace t1 := XF_L t1 ff
    replace t2 := XC_L t2 ff
    refine ordersM_ok (MC_XF h.2.2.2.1 t1) (by omega) (fun s' hs' hg' hx' υ u1 u2 u3 => ?_) (fun q => absurd ⟨s, hs, hg, hx⟩ q)
    have e := same (by omega) (by omega) hx hx'
    subst e
    exact ⟨rfl, u3, L111 u1, _, _, _, _, _, _, INV_xm h t1 t2 (by omega) u1⟩
  · refine ⟨by decide, ?_⟩
    exact ordersM_ok h.2.2.2.1 (by omega) (fun s' hs' hg' hx' => absurd ⟨s', hs', hg', hx'⟩ q) (fun _ υ r u1 u2 u3 => ⟨trivial, u3, _, _, _, _, _, _, INV_xm h (XF_rf σ) h.2.2.1 (by omega) u1⟩)
theorem p_wells (hl : l.stackTraces = false) (h : INV σ c) (hc : c ≤ 512) (hd : 64 < d) : PAIRX l E d 147 258 (fun i => if i = 0 then 1 else 0) [.int x] σ c := by
  obtain ⟨a, b, L, H, g, m, h⟩ := h
  have hn := h.2.2.2.1.2.1.1
  have hp2 : 2 ^ dPpl L ≤ 2 ^ 12 := Nat.pow_le_pow_right (by decide) hn
  have same : ∀ {u : Int32} {p p' : Nat}, p < 4097 → p' < 4097 → u = nI p → u = nI p' → p' = p := fun hp hp' e e' => (nI_eq (by omega) (by omega)).mp (e'.symm.trans e)
  refine wells_ok hl h.2.2.1 (by omega) (fun w τ t1 t2 => ⟨fun e => ?_, fun p hp hx => ?_⟩) (fun q => ?_)
  · refine ⟨trivial, fun ff => ?_⟩
    replace h := INV_L h ff
    replace t1 := XF_L t1 ff
    replace t2 := XC_L t2 ff
    exact wellsM_ok (MC_XF h.2.2.2.1 t1) (by omega) (fun _ υ u1 u2 u3 => ⟨fun _ => ⟨rfl, u3, L111 u1, _, _, _, _, _, _, INV_xm h t1 t2 (by omega) u1⟩, fun p' hp' hx' => absurd (hx'.symm.trans e) (nI_nm1 (by omega))⟩) (fun q => absurd w q)
  · refine ⟨trivial, fun ff => ?_⟩
    replace h := INV_L h ff
    replace t1 := XF_L t1 ff
    replace t2 := XC_L t2 ff
    refine wellsM_ok (MC_XF h.2.2.2.1 t1) (by omega) (fun _ υ u1 u2 u3 => ⟨fun e => absurd (hx.symm.trans e) (nI_nm1 (by omega)), fun p' hp' hx' => ?_⟩) (fun q => absurd w q)
    have e := same (by omega) (by omega) hx hx'
    subst e
    exact ⟨rfl, u3, L111 u1, _, _, _, _, _, _, INV_xm h t1 t2 (by omega) u1⟩
  · refine ⟨by decide, ?_⟩
    exact wellsM_ok h.2.2.2.1 (by omega) (fun w => absurd w q) (fun _ υ r u1 u2 u3 => ⟨trivial, u3, _, _, _, _, _, _, INV_xm h (XF_rf σ) h.2.2.1 (by omega) u1⟩)
theorem p_piece (hl : l.stackTraces = false) (h : INV σ c) (hc : c ≤ 512) (hd : 64 < d) : PAIRX l E d 149 260 (fun i => if i = 0 then 1 else 0) [.int x, .int y] σ c := by
  obtain ⟨a, b, L, H, g, m, h⟩ := h
  have hn := h.2.2.2.1.2.1.1
  have hp2 : 2 ^ dPpl L ≤ 2 ^ 12 := Nat.pow_le_pow_right (by decide) hn
  have same : ∀ {u : Int32} {p p' : Nat}, p < 4097 → p' < 4097 → u = nI p → u = nI p' → p' = p := fun hp hp' e e' => (nI_eq (by omega) (by omega)).mp (e'.symm.trans e)
  refine piece_ok hl h.2.2.1 (by omega) (fun p j hp hj hx hy τ t1 t2 => ?_) (fun q => ?_)
  · refine ⟨trivial, fun ff => ?_⟩
    replace h := INV_L h ff
    replace t1 := XF_L t1 ff
    replace t2 := XC_L t2 ff
    refine pieceM_ok (MC_XF h.2.2.2.1 t1) (by omega) (fun p' j' hp' hj' hx' hy' υ u1 u2 u3 => ?_) (fun q => absurd ⟨⟨p, Nat.zero_le _, hp, hx⟩, ⟨j, Nat.zero_le _, hj, hy⟩⟩ q)
    have e1 := same (by omega) (by omega) hx hx'
    have e2 := same (by omega) (by omega) hy hy'
    subst e1 e2
    exact ⟨rfl, u3, L111 u1, _, _, _, _, _, _, INV_xm h t1 t2 (by omega) u1⟩
  · refine ⟨by decide, ?_⟩
    exact pieceM_ok h.2.2.2.1 (by omega) (fun p' j' hp' hj' hx' hy' => absurd ⟨⟨p', Nat.zero_le _, hp', hx'⟩, ⟨j', Nat.zero_le _, hj', hy'⟩⟩ q) (fun _ υ r u1 u2 u3 => ⟨trivial, u3, _, _, _, _, _, _, INV_xm h (XF_rf σ) h.2.2.1 (by omega) u1⟩)
theorem p_taught (hl : l.stackTraces = false) (h : INV σ c) (hc : c ≤ 512) (hd : 64 < d) : PAIRX l E d 151 261 (fun i => if i = 0 then 1 else 0) [.int x, .int y] σ c := by
  obtain ⟨a, b, L, H, g, m, h⟩ := h
  have hn := h.2.2.2.1.2.1.1
  have hp2 : 2 ^ dPpl L ≤ 2 ^ 12 := Nat.pow_le_pow_right (by decide) hn
  have same : ∀ {u : Int32} {p p' : Nat}, p < 4097 → p' < 4097 → u = nI p → u = nI p' → p' = p := fun hp hp' e e' => (nI_eq (by omega) (by omega)).mp (e'.symm.trans e)
  refine taught_ok hl h.2.2.1 (by omega) (fun p j hp hj hx hy τ t1 t2 => ?_) (fun q => ?_)
  · refine ⟨trivial, fun ff => ?_⟩
    replace h := INV_L h ff
    replace t1 := XF_L t1 ff
    replace t2 := XC_L t2 ff
    refine taughtM_ok (MC_XF h.2.2.2.1 t1) (by omega) (fun p' j' hp' hj' hx' hy' υ u1 u2 u3 => ?_) (fun q => absurd ⟨⟨p, Nat.zero_le _, hp, hx⟩, ⟨j, Nat.zero_le _, hj, hy⟩⟩ q)
    have e1 := same (by omega) (by omega) hx hx'
    have e2 := same (by omega) (by omega) hy hy'
    subst e1 e2
    exact ⟨rfl, u3, L111 u1, _, _, _, _, _, _, INV_xm h t1 t2 (by omega) u1⟩
  · refine ⟨by decide, ?_⟩
    exact taughtM_ok h.2.2.2.1 (by omega) (fun p' j' hp' hj' hx' hy' => absurd ⟨⟨p', Nat.zero_le _, hp', hx'⟩, ⟨j', Nat.zero_le _, hj', hy'⟩⟩ q) (fun _ υ r u1 u2 u3 => ⟨trivial, u3, _, _, _, _, _, _, INV_xm h (XF_rf σ) h.2.2.1 (by omega) u1⟩)
end
