/-! Both sides' calls, one after the other: queries of one number. -/
section
variable {l : Launch} {E : sw_E} {d c : Nat} {σ τ : sw_M} {x y z : Int32}
theorem p_worth (hl : l.stackTraces = false) (h : INV σ c) (hc : c ≤ 512) (hd : 64 < d) : PAIRX l E d 174 278 (fun i => if i = 0 then 1 else 0) [.int x] σ c := by
  obtain ⟨a, b, L, H, g, m, h⟩ := h
  have hn := h.2.2.2.1.2.1.1
  refine worth_ok hl h.2.2.1 (by omega) (fun p hp hx τ t1 t2 => ?_) (fun q => ?_)
  · refine ⟨trivial, fun ff => ?_⟩
    replace h := INV_L h ff
    replace t1 := XF_L t1 ff
    replace t2 := XC_L t2 ff
    refine worthM_ok (MC_XF h.2.2.2.1 t1) (by omega) (fun p' hp' hx' υ u1 u2 u3 => ?_) (fun q => absurd ⟨p, Nat.zero_le _, hp, hx⟩ q)
    have e : p' = p := (nI_eq (by omega) (by omega)).mp (hx'.symm.trans hx)
    subst e
    exact ⟨rfl, u3, L111 u1, _, _, _, _, _, _, INV_xm h t1 t2 (by omega) u1⟩
  · refine ⟨by decide, ?_⟩
    exact worthM_ok h.2.2.2.1 (by omega) (fun p' hp' hx' => absurd ⟨p', Nat.zero_le _, hp', hx'⟩ q) (fun _ υ r u1 u2 u3 => ⟨trivial, u3, _, _, _, _, _, _, INV_xm h (XF_rf σ) h.2.2.1 (by omega) u1⟩)
theorem p_lacking (hl : l.stackTraces = false) (h : INV σ c) (hc : c ≤ 512) (hd : 64 < d) : PAIRX l E d 173 277 (fun i => if i = 0 then 0 else 1) [.int x] σ c := by
  obtain ⟨a, b, L, H, g, m, h⟩ := h
  have hn := h.2.2.2.1.2.1.1
  refine lacking_ok hl h.2.2.1 (by omega) (fun p hp hx τ t1 t2 => ?_) (fun q => ?_)
  · refine ⟨trivial, fun ff => ?_⟩
    replace h := INV_L h ff
    replace t1 := XF_L t1 ff
    replace t2 := XC_L t2 ff
    refine lackingM_ok (MC_XF h.2.2.2.1 t1) (by omega) (fun p' hp' hx' υ u1 u2 u3 => ?_) (fun q => absurd ⟨p, Nat.zero_le _, hp, hx⟩ q)
    have e : p' = p := (nI_eq (by omega) (by omega)).mp (hx'.symm.trans hx)
    subst e
    exact ⟨rfl, u3, L111 u1, _, _, _, _, _, _, INV_xm h t1 t2 (by omega) u1⟩
  · refine ⟨by decide, ?_⟩
    exact lackingM_ok h.2.2.2.1 (by omega) (fun p' hp' hx' => absurd ⟨p', Nat.zero_le _, hp', hx'⟩ q) (fun _ υ r u1 u2 u3 => ⟨trivial, u3, _, _, _, _, _, _, INV_xm h (XF_rf σ) h.2.2.1 (by omega) u1⟩)
theorem p_clash (hl : l.stackTraces = false) (h : INV σ c) (hc : c ≤ 512) (hd : 64 < d) : PAIRX l E d 171 275 (fun i => if i = 0 then 1 else 0) [.int x] σ c := by
  obtain ⟨a, b, L, H, g, m, h⟩ := h
  have hn := h.2.2.2.1.2.1.1
  refine clash_ok hl h.2.2.1 (by omega) (by omega) (fun p hp hx τ t1 t2 => ?_) (fun q => ?_)
  · refine ⟨trivial, fun ff => ?_⟩
    replace h := INV_L h ff
    replace t1 := XF_L t1 ff
    replace t2 := XC_L t2 ff
    refine clashM_ok (MC_XF h.2.2.2.1 t1) (by omega) (fun p' hp' hx' υ u1 u2 u3 => ?_) (fun q => absurd ⟨p, Nat.zero_le _, hp, hx⟩ q)
    have e : p' = p := (nI_eq (by omega) (by omega)).mp (hx'.symm.trans hx)
    subst e
    exact ⟨rfl, u3, L111 u1, _, _, _, _, _, _, INV_xm h t1 t2 (by omega) u1⟩
  · refine ⟨by decide, ?_⟩
    exact clashM_ok h.2.2.2.1 (by omega) (fun p' hp' hx' => absurd ⟨p', Nat.zero_le _, hp', hx'⟩ q) (fun _ υ r u1 u2 u3 => ⟨trivial, u3, _, _, _, _, _, _, INV_xm h (XF_rf σ) h.2.2.1 (by omega) u1⟩)
end
