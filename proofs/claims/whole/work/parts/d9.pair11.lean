/-! Both sides' calls, one after the other: secret game year doer lack. -/
section
variable {l : Launch} {E : sw_E} {d c : Nat} {σ τ : sw_M} {x y z : Int32}
theorem p_secret (hl : l.stackTraces = false) (h : INV σ c) (hc : c ≤ 512) (hd : 64 < d) : PAIRX l E d 154 282 (fun i => if i = 0 then 1 else 0) [.int x] σ c := by
  obtain ⟨a, b, L, H, g, m, h⟩ := h
  have hn := h.2.2.2.1.2.1.1
  have hp2 : 2 ^ dPpl L ≤ 2 ^ 12 := Nat.pow_le_pow_right (by decide) hn
  have same : ∀ {u : Int32} {p p' : Nat}, p < 4097 → p' < 4097 → u = nI p → u = nI p' → p' = p := fun hp hp' e e' => (nI_eq (by omega) (by omega)).mp (e'.symm.trans e)
  have i7 := h.2.2.2.2.2.2.1
  have i8 := h.2.2.2.2.2.2.2.1
  have hY' := h.2.2.2.2.2.2.2.2.1.2.2
  refine secret_ok hl h.2.2.1 i7 hY' (by omega) (fun p hp hx τ t1 t2 => ?_) (fun q => ?_)
  · refine ⟨trivial, fun ff => ?_⟩
    replace h := INV_L h ff
    replace t1 := XF_L t1 ff
    replace t2 := XC_L t2 ff
    replace i8 := MY_L i8 ff
    have hm : MY (sw_sL τ 111 ff) (hY H) := by
      unfold MY at *
      rw [(t1 75 (Or.inr (by decide))).1, (t1 105 (Or.inr (by decide))).1]
      exact i8
    refine secretM_ok (MC_XF h.2.2.2.1 t1) hm hY' (by omega) (fun p' hp' hx' υ u1 u2 u3 => ?_) (fun q => absurd ⟨p, Nat.zero_le _, hp, hx⟩ q)
    have e := same (by omega) (by omega) hx hx'
    subst e
    exact ⟨rfl, u3, L111 u1, _, _, _, _, _, _, INV_xm h t1 t2 (by omega) u1⟩
  · refine ⟨by decide, ?_⟩
    exact secretM_ok h.2.2.2.1 i8 hY' (by omega) (fun p' hp' hx' => absurd ⟨p', Nat.zero_le _, hp', hx'⟩ q) (fun _ υ r u1 u2 u3 => ⟨trivial, u3, _, _, _, _, _, _, INV_xm h (XF_rf σ) h.2.2.1 (by omega) u1⟩)
theorem p_game (hl : l.stackTraces = false) (h : INV σ c) (hc : c ≤ 512) (hd : 64 < d) : PAIRX l E d 158 285 (fun i => if i = 0 then 1 else 2) [.int x, .int y, .int z] σ c := by
  obtain ⟨a, b, L, H, g, m, h⟩ := h
  have hn := h.2.2.2.1.2.1.1
  have hp2 : 2 ^ dPpl L ≤ 2 ^ 12 := Nat.pow_le_pow_right (by decide) hn
  have same : ∀ {u : Int32} {p p' : Nat}, p < 4097 → p' < 4097 → u = nI p → u = nI p' → p' = p := fun hp hp' e e' => (nI_eq (by omega) (by omega)).mp (e'.symm.trans e)
  refine game_ok hl h.2.2.1 (by omega) (fun t u w ht hu hw ne hx hy hz τ t1 t2 => ?_) (fun q => ?_) (fun q1 q2 q3 q => ?_)
  · refine ⟨trivial, fun ff => ?_⟩
    replace h := INV_L h ff
    replace t1 := XF_L t1 ff
    replace t2 := XC_L t2 ff
    refine gameM_ok (MC_XF h.2.2.2.1 t1) (by omega) (fun t' u' w' ht' hu' hw' ne' hx' hy' hz' υ u1 u2 u3 => ?_) (fun q => absurd ⟨⟨t, Nat.zero_le _, ht, hx⟩, ⟨u, Nat.zero_le _, hu, hy⟩, ⟨w, Nat.zero_le _, hw, hz⟩⟩ q) (fun _ _ _ q => absurd ((nI_eq (by omega) (by omega)).mp (hx.symm.trans (q.trans hy))) ne)
    have e1 := same (by omega) (by omega) hx hx'
    have e2 := same (by omega) (by omega) hy hy'
    have e3 := same (by omega) (by omega) hz hz'
    subst e1 e2 e3
    exact ⟨rfl, u3, L111 u1, _, _, _, _, _, _, INV_xm h t1 t2 (by omega) u1⟩
  · refine ⟨by decide, ?_⟩
    exact gameM_ok h.2.2.2.1 (by omega) (fun t' u' w' ht' hu' hw' ne' hx' hy' hz' => absurd ⟨⟨t', Nat.zero_le _, ht', hx'⟩, ⟨u', Nat.zero_le _, hu', hy'⟩, ⟨w', Nat.zero_le _, hw', hz'⟩⟩ q) (fun _ υ r u1 u2 u3 => ⟨trivial, u3, _, _, _, _, _, _, INV_xm h (XF_rf σ) h.2.2.1 (by omega) u1⟩) (fun w1 w2 w3 => absurd ⟨w1, w2, w3⟩ q)
  · refine ⟨by decide, ?_⟩
    exact gameM_ok h.2.2.2.1 (by omega) (fun t' u' w' ht' hu' hw' ne' hx' hy' hz' => absurd ((nI_eq (by omega) (by omega)).mp (hx'.symm.trans (q.trans hy'))) ne') (fun w => absurd ⟨q1, q2, q3⟩ w) (fun _ _ _ _ υ r u1 u2 u3 => ⟨trivial, u3, _, _, _, _, _, _, INV_xm h (XF_rf σ) h.2.2.1 (by omega) u1⟩)
theorem p_year (hl : l.stackTraces = false) (h : INV σ c) (hc : c ≤ 512) (hd : 64 < d) : PAIRX l E d 164 288 (fun i => if i = 0 then 1 else 2) [.int x, .int y, .int z] σ c := by
  obtain ⟨a, b, L, H, g, m, h⟩ := h
  have same : ∀ {u : Int32} {p p' : Nat}, p < 4097 → p' < 4097 → u = nI p → u = nI p' → p' = p := fun hp hp' e e' => (nI_eq (by omega) (by omega)).mp (e'.symm.trans e)
  have i9 := h.2.2.2.2.2.2.2.2.1
  have hmo : sMon (hNow H) ≤ 24 * c := (i9.2.1 (hK H) (Nat.le_refl _)).2
  obtain ⟨gg, hg⟩ : ∃ gg : Int32 → Int32, ∀ t, t * 1103515245 + 12345 = gg t := ⟨_, fun _ => rfl⟩
  refine year_ok hg drN_u drN_lt hl h.2.2.1 ⟨hK H, i9.1, h.2.2.2.2.1.1⟩ (by omega) (by omega) (by omega) (fun n w hN hw hy hz τ t1 t2 => ?_) (fun q => ?_) (fun q0 q => ?_)
  · refine ⟨trivial, fun ff => ?_⟩
    replace h := INV_L h ff
    replace t1 := XF_L t1 ff
    replace t2 := XC_L t2 ff
    refine yearM_ok hg drN_s drN_lt (MC_XF h.2.2.2.1 t1) (by omega) (by omega) (fun n' w' hN' hw' hy' hz' υ u1 u2 u3 => ?_) (fun q => absurd ⟨w, Nat.zero_le _, hw, hz⟩ q) (fun _ q => absurd ⟨n, Nat.zero_le _, hN, hy⟩ q)
    have e2 := same (by omega) (by omega) hy hy'
    have e3 := same (by omega) (by omega) hz hz'
    subst e2 e3
    exact ⟨rfl, u3, L111 u1, _, _, _, _, _, _, INV_xm h t1 t2 (by omega) u1⟩
  · refine ⟨by decide, ?_⟩
    exact yearM_ok hg drN_s drN_lt h.2.2.2.1 (by omega) (by omega) (fun n' w' hN' hw' hy' hz' => absurd ⟨w', Nat.zero_le _, hw', hz'⟩ q) (fun _ υ r u1 u2 u3 => ⟨trivial, u3, _, _, _, _, _, _, INV_xm h (XF_rf σ) h.2.2.1 (by omega) u1⟩) (fun w => absurd w q)
  · refine ⟨by decide, ?_⟩
    exact yearM_ok hg drN_s drN_lt h.2.2.2.1 (by omega) (by omega) (fun n' w' hN' hw' hy' hz' => absurd ⟨n', Nat.zero_le _, hN', hy'⟩ q) (fun w => absurd q0 w) (fun _ _ υ r u1 u2 u3 => ⟨trivial, u3, _, _, _, _, _, _, INV_xm h (XF_rf σ) h.2.2.1 (by omega) u1⟩)
theorem p_doer (hl : l.stackTraces = false) (h : INV σ c) (hc : c ≤ 512) (hd : 64 < d) : PAIRX l E d 166 272 (fun i => if i = 0 then 1 else 0) [.int x] σ c := by
  obtain ⟨a, b, L, H, g, m, h⟩ := h
  have hn := h.2.2.2.1.2.1.1
  have hp2 : 2 ^ dPpl L ≤ 2 ^ 12 := Nat.pow_le_pow_right (by decide) hn
  have same : ∀ {u : Int32} {p p' : Nat}, p < 4097 → p' < 4097 → u = nI p → u = nI p' → p' = p := fun hp hp' e e' => (nI_eq (by omega) (by omega)).mp (e'.symm.trans e)
  refine doer_ok hl h.2.2.1 (by omega) (fun p hp hx τ t1 t2 => ?_) (fun q τ t1 t2 => ?_)
  · refine ⟨trivial, fun ff => ?_⟩
    replace h := INV_L h ff
    replace t1 := XF_L t1 ff
    replace t2 := XC_L t2 ff
    refine doerM_ok (MC_XF h.2.2.2.1 t1) (by omega) (fun p' hp' hx' υ u1 u2 u3 => ?_) (fun q => absurd ⟨p, Nat.zero_le _, hp, hx⟩ q)
    have hb : pcsA L (sMon (hNow H) % 12) < 4097 := by have := pcsA_le h.2.2.2.1.2.1 (sMon (hNow H) % 12); omega
    have e := same (by omega) (by omega) hx hx'
    subst e
    exact ⟨rfl, u3, L111 u1, _, _, _, _, _, _, INV_xm h t1 t2 (by omega) u1⟩
  · refine ⟨by decide, ?_⟩
    exact doerM_ok (MC_XF h.2.2.2.1 t1) (by omega) (fun p' hp' hx' => absurd ⟨p', Nat.zero_le _, hp', hx'⟩ q) (fun _ υ r u1 u2 u3 => ⟨trivial, u3, _, _, _, _, _, _, INV_xm h t1 t2 (by omega) u1⟩)
theorem p_lack (hl : l.stackTraces = false) (h : INV σ c) (hc : c ≤ 512) (hd : 64 < d) : PAIRX l E d 175 279 (fun i => if i = 0 then 1 else 2) [.int x, .int y, .int z] σ c := by
  obtain ⟨a, b, L, H, g, m, h⟩ := h
  have hn := h.2.2.2.1.2.1.1
  have hp2 : 2 ^ dPpl L ≤ 2 ^ 12 := Nat.pow_le_pow_right (by decide) hn
  have same : ∀ {u : Int32} {p p' : Nat}, p < 4097 → p' < 4097 → u = nI p → u = nI p' → p' = p := fun hp hp' e e' => (nI_eq (by omega) (by omega)).mp (e'.symm.trans e)
  refine lack_ok hl h.2.2.1 (by omega) (fun t u w ht hu hw hx hy hz τ t1 t2 => ?_) (fun q => ?_) (fun q1 q2 q => ?_)
  · refine ⟨trivial, fun ff => ?_⟩
    replace h := INV_L h ff
    replace t1 := XF_L t1 ff
    replace t2 := XC_L t2 ff
    refine lackM_ok (MC_XF h.2.2.2.1 t1) (by omega) (fun t' u' w' ht' hu' hw' hx' hy' hz' υ u1 u2 u3 => ?_) (fun q => absurd ⟨⟨t, Nat.zero_le _, ht, hx⟩, ⟨u, Nat.zero_le _, hu, hy⟩⟩ q) (fun _ _ q => absurd ⟨w, Nat.zero_le _, hw, hz⟩ q)
    have e1 := same (by omega) (by omega) hx hx'
    have e2 := same (by omega) (by omega) hy hy'
    have e3 := same (by omega) (by omega) hz hz'
    subst e1 e2 e3
    exact ⟨rfl, u3, L111 u1, _, _, _, _, _, _, INV_xm h t1 t2 (by omega) u1⟩
  · refine ⟨by decide, ?_⟩
    exact lackM_ok h.2.2.2.1 (by omega) (fun t' u' w' ht' hu' hw' hx' hy' hz' => absurd ⟨⟨t', Nat.zero_le _, ht', hx'⟩, ⟨u', Nat.zero_le _, hu', hy'⟩⟩ q) (fun _ υ r u1 u2 u3 => ⟨trivial, u3, _, _, _, _, _, _, INV_xm h (XF_rf σ) h.2.2.1 (by omega) u1⟩) (fun w1 w2 => absurd ⟨w1, w2⟩ q)
  · refine ⟨by decide, ?_⟩
    exact lackM_ok h.2.2.2.1 (by omega) (fun t' u' w' ht' hu' hw' hx' hy' hz' => absurd ⟨w', Nat.zero_le _, hw', hz'⟩ q) (fun w => absurd ⟨q1, q2⟩ w) (fun _ _ _ υ r u1 u2 u3 => ⟨trivial, u3, _, _, _, _, _, _, INV_xm h (XF_rf σ) h.2.2.1 (by omega) u1⟩)
end
