/-! Both sides' calls, one after the other: last, recalled, allMonths. -/
section
variable {l : Launch} {E : sw_E} {d c : Nat} {σ τ : sw_M} {x y z : Int32}
theorem p_last (hl : l.stackTraces = false) (h : INV σ c) (hc : c ≤ 512) (hd : 64 < d) : PAIRX l E d 144 256 (fun i => if i = 0 then 0 else 1) [.int x] σ c := by
  obtain ⟨a, b, L, H, g, m, h⟩ := h
  have hn := h.2.2.2.1.2.1.1
  refine last_ok hl h.2.2.1 (by omega) (fun p hp hx τ t1 t2 => ?_) (fun q => ?_)
  · refine ⟨trivial, fun ff => ?_⟩
    replace h := INV_L h ff
    replace t1 := XF_L t1 ff
    replace t2 := XC_L t2 ff
    refine lastM_ok (MC_XF h.2.2.2.1 t1) (by omega) (fun p' hp' hx' υ u1 u2 u3 => ?_) (fun q => absurd ⟨p, Nat.zero_le _, hp, hx⟩ q)
    have e : p' = p := (nI_eq (by omega) (by omega)).mp (hx'.symm.trans hx)
    subst e
    exact ⟨rfl, u3, L111 u1, _, _, _, _, _, _, INV_xm h t1 t2 (by omega) u1⟩
  · refine ⟨by decide, ?_⟩
    exact lastM_ok h.2.2.2.1 (by omega) (fun p' hp' hx' => absurd ⟨p', Nat.zero_le _, hp', hx'⟩ q) (fun _ υ r u1 u2 u3 => ⟨trivial, u3, _, _, _, _, _, _, INV_xm h (XF_rf σ) h.2.2.1 (by omega) u1⟩)
theorem p_recalled (hl : l.stackTraces = false) (h : INV σ c) (hc : c ≤ 512) (hd : 64 < d) : PAIRX l E d 169 273 (fun i => if i = 0 then 0 else 1) [.int x] σ c := by
  obtain ⟨a, b, L, H, g, m, h⟩ := h
  have hn := h.2.2.2.1.2.1.1
  refine recalled_ok hl h.2.2.1 (by omega) (fun p hp hx τ t1 t2 => ?_) (fun q => ?_)
  · refine ⟨trivial, fun ff => ?_⟩
    replace h := INV_L h ff
    replace t1 := XF_L t1 ff
    replace t2 := XC_L t2 ff
    refine recalledM_ok (MC_XF h.2.2.2.1 t1) (by omega) (fun p' hp' hx' υ u1 u2 u3 => ?_) (fun q => absurd ⟨p, Nat.zero_le _, hp, hx⟩ q)
    have e : p' = p := (nI_eq (by omega) (by omega)).mp (hx'.symm.trans hx)
    subst e
    exact ⟨rfl, u3, L111 u1, _, _, _, _, _, _, INV_xm h t1 t2 (by omega) u1⟩
  · refine ⟨by decide, ?_⟩
    exact recalledM_ok h.2.2.2.1 (by omega) (fun p' hp' hx' => absurd ⟨p', Nat.zero_le _, hp', hx'⟩ q) (fun _ υ r u1 u2 u3 => ⟨trivial, u3, _, _, _, _, _, _, INV_xm h (XF_rf σ) h.2.2.1 (by omega) u1⟩)
theorem p_allMonths (hl : l.stackTraces = false) (h : INV σ c) (hc : c ≤ 512) (hd : 64 < d) : PAIRX l E d 170 274 (fun i => if i = 0 then 0 else 1) [.int x] σ c := by
  obtain ⟨a, b, L, H, g, m, h⟩ := h
  have hn := h.2.2.2.1.2.1.1
  refine allMonths_ok hl h.2.2.1 (by omega) (fun p hp hx τ t1 t2 => ?_) (fun q => ?_)
  · refine ⟨trivial, fun ff => ?_⟩
    replace h := INV_L h ff
    replace t1 := XF_L t1 ff
    replace t2 := XC_L t2 ff
    refine allMonthsM_ok (MC_XF h.2.2.2.1 t1) (by omega) (fun p' hp' hx' υ u1 u2 u3 => ?_) (fun q => absurd ⟨p, Nat.zero_le _, hp, hx⟩ q)
    have e : p' = p := (nI_eq (by omega) (by omega)).mp (hx'.symm.trans hx)
    subst e
    exact ⟨rfl, u3, L111 u1, _, _, _, _, _, _, INV_xm h t1 t2 (by omega) u1⟩
  · refine ⟨by decide, ?_⟩
    exact allMonthsM_ok h.2.2.2.1 (by omega) (fun p' hp' hx' => absurd ⟨p', Nat.zero_le _, hp', hx'⟩ q) (fun _ υ r u1 u2 u3 => ⟨trivial, u3, _, _, _, _, _, _, INV_xm h (XF_rf σ) h.2.2.1 (by omega) u1⟩)
end
