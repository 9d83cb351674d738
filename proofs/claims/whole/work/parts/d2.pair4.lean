/-! Both sides' calls, one after the other: back, learn, move. -/
section
variable {l : Launch} {E : sw_E} {d c : Nat} {σ τ : sw_M} {x y z : Int32}
theorem p_back (hl : l.stackTraces = false) (h : INV σ c) (hc : c ≤ 512) (hd : 64 < d) : PAIRX l E d 124 241 (fun i => if i = 0 then 1 else 0) [.int x] σ c := by
  obtain ⟨a, b, L, H, g, m, h⟩ := h
  have i9 := h.2.2.2.2.2.2.2.2.1
  have hS := i9.2.1 (hK H) (Nat.le_refl _)
  have hmo : sMon (hNow H) ≤ 24 * c := hS.2
  have hh := h.2.2.2.1.2.1.2.2.2.1
  have hn := h.2.2.2.1.2.1.1
  have same : ∀ {p p' : Nat}, p < dPpl L → p' < dPpl L → x = nI p → x = nI p' → p' = p := fun hp hp' e e' => (nI_eq (by omega) (by omega)).mp (e'.symm.trans e)
  refine back_ok hl h.2.2.1 h.2.2.2.2.1 i9.1 (by omega) (by omega) (fun p hp hx hb τ t1 => ?_) (fun p hp hx hb => ?_) (fun q => ?_)
  · refine ⟨trivial, fun ff => ?_⟩
    replace h := INV_L h ff
    replace t1 := AC_L t1 ff
    obtain ⟨hM, hA⟩ := MC_75 h (fun k hk => (t1.1 k (by omega)).1)
    refine backM_ok hM hA i9.1 (by omega) (by omega) (fun p' hp' hx' _ υ u1 => ?_) (fun p' hp' hx' q => ?_) (fun q => absurd ⟨p, Nat.zero_le _, hp, hx⟩ q)
    · have e := same hp hp' hx hx'
      subst e
      exact ⟨rfl, u1.2.1, L111a u1.1, _, _, _, _, _, _, INV_act h t1 (by omega) u1 (HOK_act i9 (SOK_bk hS.1 (by omega)) (by show sMon (hNow H) ≤ 24 * (c + 1); omega)) rfl⟩
    · have e := same hp hp' hx hx'
      subst e
      rw [hb] at q; cases q
  · refine ⟨trivial, fun ff => ?_⟩
    replace h := INV_L h ff
    obtain ⟨hM, hA⟩ := MC_75 (τ := sw_sI (sw_sL σ 111 ff) 0 (upd (σ.1 0) 15 (σ.1 0 15 + 1))) h (fun k hk => by rw [sI_ne (by omega)])
    refine backM_ok hM hA i9.1 (by omega) (by omega) (fun p' hp' hx' q => ?_) (fun p' hp' hx' q υ u1 u2 u3 => ?_) (fun q => absurd ⟨p, Nat.zero_le _, hp, hx⟩ q)
    · have e := same hp hp' hx hx'
      subst e
      rw [hb] at q; cases q
    · exact ⟨rfl, by rw [sI_ne (by decide)]; exact u3, (u1.1 111 (by decide)).trans sL_at, _, _, _, _, _, _, INV_ref (k := 1) (Or.inl rfl) h (XF_rf _) h.2.2.1 (by omega) u1⟩
  · refine ⟨by decide, ?_⟩
    exact backM_ok h.2.2.2.1 h.2.2.2.2.2.1 i9.1 (by omega) (by omega) (fun p' hp' hx' => absurd ⟨p', Nat.zero_le _, hp', hx'⟩ q) (fun p' hp' hx' => absurd ⟨p', Nat.zero_le _, hp', hx'⟩ q) (fun _ υ r u1 u2 u3 => ⟨trivial, u3, _, _, _, _, _, _, INV_xm h (XF_rf σ) h.2.2.1 (by omega) u1⟩)
theorem p_move (hl : l.stackTraces = false) (h : INV σ c) (hc : c ≤ 512) (hd : 64 < d) : PAIRX l E d 129 246 (fun i => if i = 0 then 1 else 0) [.int x, .int y] σ c := by
  obtain ⟨a, b, L, H, g, m, h⟩ := h
  have i9 := h.2.2.2.2.2.2.2.2.1
  have hS := i9.2.1 (hK H) (Nat.le_refl _)
  have hmo : sMon (hNow H) ≤ 24 * c := hS.2
  have hn := h.2.2.2.1.2.1.1
  have same : ∀ {p p' : Nat}, p < dPpl L → p' < dPpl L → x = nI p → x = nI p' → p' = p := fun hp hp' e e' => (nI_eq (by omega) (by omega)).mp (e'.symm.trans e)
  refine move_ok hl h.2.2.1 h.2.2.2.2.1 i9.1 (by omega) (fun p t hp ht hx hy hb τ t1 => ?_) (fun p hp hx hb => ?_) (fun q => ?_)
  · refine ⟨trivial, fun ff => ?_⟩
    replace h := INV_L h ff
    replace t1 := AC_L t1 ff
    obtain ⟨hM, hA⟩ := MC_75 h (fun k hk => (t1.1 k (by omega)).1)
    refine moveM_ok hM hA i9.1 (by omega) (fun p' t' hp' ht' hx' hy' _ υ u1 => ?_) (fun p' hp' hx' q => ?_) (fun q => absurd ⟨p, Nat.zero_le _, hp, hx⟩ q)
    · have e := same hp hp' hx hx'
      have e2 : t' = t := (nI_eq (by omega) (by omega)).mp (hy'.symm.trans hy)
      subst e e2
      exact ⟨rfl, u1.2.1, L111a u1.1, _, _, _, _, _, _, INV_act h t1 (by omega) u1 (HOK_act i9 (SOK_mv hS.1 ht) (by show sMon (hNow H) ≤ 24 * (c + 1); omega)) rfl⟩
    · have e := same hp hp' hx hx'
      subst e
      rcases q with q | q
      · exact absurd ⟨t, Nat.zero_le _, ht, hy⟩ q
      · rw [hb] at q; cases q
  · refine ⟨trivial, fun ff => ?_⟩
    replace h := INV_L h ff
    obtain ⟨hM, hA⟩ := MC_75 (τ := sw_sI (sw_sL σ 111 ff) 0 (upd (σ.1 0) 15 (σ.1 0 15 + 1))) h (fun k hk => by rw [sI_ne (by omega)])
    refine moveM_ok hM hA i9.1 (by omega) (fun p' t' hp' ht' hx' hy' q => ?_) (fun p' hp' hx' q υ u1 u2 u3 => ?_) (fun q => absurd ⟨p, Nat.zero_le _, hp, hx⟩ q)
    · have e := same hp hp' hx hx'
      subst e
      rcases hb with w | w
      · exact absurd ⟨t', Nat.zero_le _, ht', hy'⟩ w
      · rw [w] at q; cases q
    · exact ⟨rfl, by rw [sI_ne (by decide)]; exact u3, (u1.1 111 (by decide)).trans sL_at, _, _, _, _, _, _, INV_ref (k := 1) (Or.inl rfl) h (XF_rf _) h.2.2.1 (by omega) u1⟩
  · refine ⟨by decide, ?_⟩
    exact moveM_ok h.2.2.2.1 h.2.2.2.2.2.1 i9.1 (by omega) (fun p' t' hp' _ hx' => absurd ⟨p', Nat.zero_le _, hp', hx'⟩ q) (fun p' hp' hx' => absurd ⟨p', Nat.zero_le _, hp', hx'⟩ q) (fun _ υ r u1 u2 u3 => ⟨trivial, u3, _, _, _, _, _, _, INV_xm h (XF_rf σ) h.2.2.1 (by omega) u1⟩)
theorem p_learn (hl : l.stackTraces = false) (h : INV σ c) (hc : c ≤ 512) (hd : 64 < d) : PAIRX l E d 126 243 (fun i => if i = 0 then 1 else 0) [.int x, .int y, .int z] σ c := by
  obtain ⟨a, b, L, H, g, m, h⟩ := h
  have i9 := h.2.2.2.2.2.2.2.2.1
  have hS := i9.2.1 (hK H) (Nat.le_refl _)
  have hmo : sMon (hNow H) ≤ 24 * c := hS.2
  have hn := h.2.2.2.1.2.1.1
  have same : ∀ {u : Int32} {p p' k : Nat}, p < k → p' < k → k ≤ 12 → u = nI p → u = nI p' → p' = p := fun hp hp' hk e e' => (nI_eq (by omega) (by omega)).mp (e'.symm.trans e)
  refine learn_ok hl h.2.2.1 h.2.2.2.2.1 i9.1 (by omega) (fun p q f hp hq hf hx hy hz hb τ t1 => ?_) (fun p q f hp hq hf hx hy hz hb => ?_) (fun w => ?_)
  · refine ⟨trivial, fun ff => ?_⟩
    replace h := INV_L h ff
    replace t1 := AC_L t1 ff
    obtain ⟨hM, hA⟩ := MC_75 h (fun k hk => (t1.1 k (by omega)).1)
    refine learnM_ok hM hA i9.1 (by omega) (fun p' q' f' hp' hq' hf' hx' hy' hz' _ υ u1 => ?_) (fun p' q' f' hp' hq' hf' hx' hy' hz' w => ?_) (fun w => absurd ⟨⟨p, Nat.zero_le _, hp, hx⟩, ⟨q, Nat.zero_le _, hq, hy⟩, ⟨f, Nat.zero_le _, hf, hz⟩⟩ w)
    · have e1 := same hp hp' hn hx hx'
      have e2 := same hq hq' (by decide) hy hy'
      subst e1 e2
      exact ⟨rfl, u1.2.1, L111a u1.1, _, _, _, _, _, _, INV_act h t1 (by omega) u1 (HOK_act i9 (SOK_ln hS.1 hq) (by show sMon (hNow H) ≤ 24 * (c + 1); omega)) rfl⟩
    · have e1 := same hp hp' hn hx hx'
      have e2 := same hq hq' (by decide) hy hy'
      have e3 := same hf hf' hn hz hz'
      subst e1 e2 e3
      rw [hb] at w; cases w
  · refine ⟨trivial, fun ff => ?_⟩
    replace h := INV_L h ff
    obtain ⟨hM, hA⟩ := MC_75 (τ := sw_sI (sw_sL σ 111 ff) 0 (upd (σ.1 0) 15 (σ.1 0 15 + 1))) h (fun k hk => by rw [sI_ne (by omega)])
    refine learnM_ok hM hA i9.1 (by omega) (fun p' q' f' hp' hq' hf' hx' hy' hz' w => ?_) (fun p' q' f' hp' hq' hf' hx' hy' hz' w υ u1 u2 u3 => ?_) (fun w => absurd ⟨⟨p, Nat.zero_le _, hp, hx⟩, ⟨q, Nat.zero_le _, hq, hy⟩, ⟨f, Nat.zero_le _, hf, hz⟩⟩ w)
    · have e1 := same hp hp' hn hx hx'
      have e2 := same hq hq' (by decide) hy hy'
      have e3 := same hf hf' hn hz hz'
      subst e1 e2 e3
      rw [hb] at w; cases w
    · exact ⟨rfl, by rw [sI_ne (by decide)]; exact u3, (u1.1 111 (by decide)).trans sL_at, _, _, _, _, _, _, INV_ref (k := 1) (Or.inl rfl) h (XF_rf _) h.2.2.1 (by omega) u1⟩
  · refine ⟨by decide, ?_⟩
    exact learnM_ok h.2.2.2.1 h.2.2.2.2.2.1 i9.1 (by omega) (fun p' q' f' hp' hq' hf' hx' hy' hz' => absurd ⟨⟨p', Nat.zero_le _, hp', hx'⟩, ⟨q', Nat.zero_le _, hq', hy'⟩, ⟨f', Nat.zero_le _, hf', hz'⟩⟩ w) (fun p' q' f' hp' hq' hf' hx' hy' hz' => absurd ⟨⟨p', Nat.zero_le _, hp', hx'⟩, ⟨q', Nat.zero_le _, hq', hy'⟩, ⟨f', Nat.zero_le _, hf', hz'⟩⟩ w) (fun _ υ r u1 u2 u3 => ⟨trivial, u3, _, _, _, _, _, _, INV_xm h (XF_rf σ) h.2.2.1 (by omega) u1⟩)
end
