/-! Both sides' calls, one after the other: queries without arguments. -/

/-- what kind of answer: 0 an int, 1 a long, 2 none -/
noncomputable def rsh (k : Nat) (r : Option Value) : Prop := match k, r with
  | 0, some (.int _) => True
  | 1, some (.long _) => True
  | 2, none => True
  | _, _ => False
abbrev PAIR (l : Launch) (E : sw_E) (k d xm mm : Nat) (av : List Value) (σ : sw_M) (c : Nat) : Prop := sw_Con l E d xm (.ref 0 :: av) σ (fun r τ => rsh k r ∧ sw_Con l E d mm (.ref 75 :: av) τ (fun r2 υ => r2 = r ∧ INV υ (c + 1)))
section
variable {l : Launch} {E : sw_E} {d c : Nat} {σ : sw_M}
theorem p_spared (h : INV σ c) (hc : c ≤ 512) (hd : 64 < d) : PAIR l E 0 d 14 230 [] σ c := by
  obtain ⟨a, b, L, H, g, m, h⟩ := h
  refine spared_ok h.2.2.1 (by omega) (by omega) (fun τ t1 t2 => ?_)
  refine ⟨trivial, ?_⟩
  exact sparedM_ok (MC_XF h.2.2.2.1 t1) (by omega) (fun υ u1 u2 => ⟨rfl, _, _, _, _, _, _, INV_xm h t1 t2 (by omega) u1⟩)
theorem p_needed (h : INV σ c) (hc : c ≤ 512) (hd : 64 < d) : PAIR l E 0 d 58 266 [] σ c := by
  obtain ⟨a, b, L, H, g, m, h⟩ := h
  refine needed_ok h.2.2.1 (by omega) (fun τ t1 t2 => ?_)
  refine ⟨trivial, ?_⟩
  exact neededM_ok (MC_XF h.2.2.2.1 t1) (by omega) (fun υ u1 u2 => ⟨rfl, _, _, _, _, _, _, INV_xm h t1 t2 (by omega) u1⟩)
theorem p_never (h : INV σ c) (hc : c ≤ 512) (hd : 64 < d) : PAIR l E 0 d 50 255 [] σ c := by
  obtain ⟨a, b, L, H, g, m, h⟩ := h
  refine never_ok h.2.2.1 (by omega) (fun τ t1 t2 => ?_)
  refine ⟨trivial, ?_⟩
  exact neverM_ok (MC_XF h.2.2.2.1 t1) (by omega) (fun υ u1 u2 => ⟨rfl, _, _, _, _, _, _, INV_xm h t1 t2 (by omega) u1⟩)
theorem p_free (h : INV σ c) (hc : c ≤ 512) (hd : 64 < d) : PAIR l E 0 d 62 267 [] σ c := by
  obtain ⟨a, b, L, H, g, m, h⟩ := h
  refine free_ok h.2.2.1 (by omega) (fun τ t1 t2 => ?_)
  refine ⟨trivial, ?_⟩
  exact freeM_ok (MC_XF h.2.2.2.1 t1) (by omega) (fun υ u1 u2 => ⟨rfl, _, _, _, _, _, _, INV_xm h t1 t2 (by omega) u1⟩)
theorem p_trade (h : INV σ c) (hc : c ≤ 512) (hd : 64 < d) : PAIR l E 0 d 52 263 [] σ c := by
  obtain ⟨a, b, L, H, g, m, h⟩ := h
  refine trade_ok h.2.2.1 (by omega) (fun τ t1 t2 => ?_)
  refine ⟨trivial, ?_⟩
  exact tradeM_ok (MC_XF h.2.2.2.1 t1) (by omega) (fun υ u1 u2 => ⟨rfl, _, _, _, _, _, _, INV_xm h t1 t2 (by omega) u1⟩)
theorem p_school (h : INV σ c) (hc : c ≤ 512) (hd : 64 < d) : PAIR l E 0 d 67 265 [] σ c := by
  obtain ⟨a, b, L, H, g, m, h⟩ := h
  refine school_ok h.2.2.1 (by omega) (fun τ t1 t2 => ?_)
  refine ⟨trivial, ?_⟩
  exact schoolM_ok (MC_XF h.2.2.2.1 t1) (by omega) (fun υ u1 u2 => ⟨rfl, _, _, _, _, _, _, INV_xm h t1 t2 (by omega) u1⟩)
theorem p_ways (h : INV σ c) (hc : c ≤ 512) (hd : 64 < d) : PAIR l E 1 d 63 268 [] σ c := by
  obtain ⟨a, b, L, H, g, m, h⟩ := h
  refine ways_ok h.2.2.1 (by omega) (fun τ t1 t2 => ?_)
  refine ⟨trivial, ?_⟩
  exact waysM_ok (MC_XF h.2.2.2.1 t1) (by omega) (fun υ u1 u2 => ⟨rfl, _, _, _, _, _, _, INV_xm h t1 t2 (by omega) u1⟩)
theorem p_undo (h : INV σ c) (hd : 64 < d) : PAIR l E 0 d 48 213 [] σ c := by
  obtain ⟨a, b, L, H, g, m, h⟩ := h
  have hn := h.2.2.2.1.2.1.1
  have i9 := h.2.2.2.2.2.2.2.2.1
  have x5 := h.2.2.1.2.2.2.2.1
  refine undo_ok hn i9.1 x5 h.2.2.2.2.1 h.2.2.1.2.2.2.2.2.1 (by omega) (fun k0 => ?_) (fun j hj τ t1 t2 t3 t4 => ?_)
  · refine ⟨trivial, ?_⟩
    refine undoM_ok hn i9.1 h.2.2.2.2.2.1 (by omega) (fun _ => ⟨rfl, _, _, _, _, _, _, INV_xm h (XF_rf σ) h.2.2.1 (by omega) (thr_MF σ 0)⟩) (fun j hj => absurd hj (by omega))
  · refine ⟨trivial, ?_⟩
    have i6 : MA τ 93 43 (hK H) (dPpl L) (hSs H) := MA_eq hn h.2.2.2.2.2.1 (by rw [t1.2 75 (by decide)]) (t1.2 93 (by decide))
    refine undoM_ok hn i9.1 i6 (by omega) (fun k0 => absurd hj (by omega)) (fun j' hj' υ u1 u2 u3 u4 u5 => ?_)
    have e : j' = j := by omega
    subst e
    exact ⟨rfl, _, _, _, _, _, _, INV_undo h hj t1 t2 t3 t4 u1 u2 u4 u5⟩
end
