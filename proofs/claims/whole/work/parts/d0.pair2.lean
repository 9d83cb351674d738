/-! Both sides' calls, one after the other: feed, forget, image, restore, months. -/
section
variable {l : Launch} {E : sw_E} {d c : Nat} {σ : sw_M} {x x1 x2 x3 x4 x5 : Int32}
theorem p_feed (h : INV σ c) (hd : 64 < d) : PAIR l E 0 d 11 178 [.int x1, .int x2, .int x3, .int x4, .int x5] σ c := by
  obtain ⟨a, b, L, H, g, m, h⟩ := h
  have j2 := h.2.2.2.2.2.2.2.2.2.2.2.1
  have j3 := h.2.2.2.2.2.2.2.2.2.2.2.2.1
  refine feed_ok j2 (by omega) (fun q => ?_) (fun q τ t1 t2 t3 => ?_)
  · refine ⟨trivial, ?_⟩
    exact feedM_ok j3 (by omega) (fun _ => ⟨rfl, _, _, _, _, _, _, INV_xm h (XF_rf σ) h.2.2.1 (by omega) (thr_MF σ 0)⟩) (fun w => absurd w (by omega))
  · refine ⟨trivial, ?_⟩
    have j3t : TPm τ g m := by
      unfold TPm at *
      rw [t1.2 75 (by decide), t1.2 81 (by decide)]
      exact j3
    exact feedM_ok j3t (by omega) (fun w => absurd w (by omega)) (fun _ υ u1 u2 u3 u4 => ⟨rfl, _, _, _, _, _, _, INV_feed h t1 u1 u2 t3 u4⟩)
theorem p_image (h : INV σ c) (hd : 64 < d) : PAIR l E 2 d 72 290 [] σ c := by
  obtain ⟨a, b, L, H, g, m, h⟩ := h
  refine image_ok (by omega) (fun τ0 t1 => ?_)
  refine ⟨trivial, ?_⟩
  exact imageM_ok (by omega) (fun υ u1 u2 u3 u4 u5 u6 u7 => ⟨rfl, _, _, _, _, _, _, INV_image h t1 rfl u1 u2 u4 u5 u6 u7⟩)
theorem p_restore (h : INV σ c) (hd : 64 < d) : PAIR l E 0 d 74 291 [] σ c := by
  obtain ⟨a, b, L, H, g, m, h⟩ := h
  have hI := h.2.2.2.2.2.2.2.2.2.2.2.2.2
  have hb : σ.1 0 6 = 0 ∨ σ.1 0 6 = 1 := hI.elim (fun w => Or.inl w.1) (fun w => Or.inr w.1)
  have hsame : σ.1 75 64 = σ.1 0 6 := hI.elim (fun w => w.2.trans w.1.symm) (fun w => w.2.1.trans w.1.symm)
  refine restore_ok (by omega) (fun q τ t1 => ?_) (fun q => ?_) hb
  · refine ⟨trivial, ?_⟩
    have t75 : τ.1 75 64 = 1 := by rw [t1.1.2 75 (by decide), hsame]; exact q
    refine restoreM_ok (by omega) (Or.inr t75) (fun _ υ u1 u2 u3 u4 u5 u6 => ?_) (fun w => absurd (t75.symm.trans w) (by decide))
    obtain ⟨H', hH⟩ := INV_restore h q t1 u1 u2 u4 u5 u6
    exact ⟨rfl, _, _, _, H', _, _, hH⟩
  · refine ⟨trivial, ?_⟩
    have s0 : σ.1 75 64 = 0 := hsame.trans q
    exact restoreM_ok (by omega) (Or.inl s0) (fun w => absurd (s0.symm.trans w) (by decide)) (fun _ => ⟨rfl, _, _, _, _, _, _, INV_xm h (XF_rf σ) h.2.2.1 (by omega) (thr_MF σ 0)⟩)
theorem p_forget (h : INV σ c) (hd : 64 < d) : PAIR l E 2 d 57 281 [] σ c := by
  obtain ⟨a, b, L, H, g, m, h⟩ := h
  refine forget_ok h.2.2.1 (by omega) (fun τ t1 t2 t3 t4 => ?_)
  refine ⟨trivial, ?_⟩
  have hM : MC τ L (hNow H) := MC_cells h.2.2.2.1 (fun j _ => by rw [t1.2 75 (by decide)]) (fun k hk => t1.2 k (by simp; omega))
  exact forgetM_ok hM (by omega) (fun υ u1 u2 u3 u4 u5 => ⟨rfl, _, _, _, _, _, _, INV_seen (Y := (0, (fun _ => 0), (fun _ => 0))) h (Fr_mono t1 (by simp)) t2 ⟨t4, fun i hi => absurd hi (Nat.not_lt_zero i)⟩ (Fr_mono u1 (by simp)) u2 ⟨u5, fun i hi => absurd hi (Nat.not_lt_zero i)⟩ ⟨Nat.zero_le _, fun i hi => absurd hi (Nat.not_lt_zero i)⟩⟩)
theorem p_months (h : INV σ c) (hc : c ≤ 512) (hd : 64 < d) : PAIR l E 0 d 44 247 [.int x] σ c := by
  obtain ⟨a, b, L, H, g, m, h⟩ := h
  have i9 := h.2.2.2.2.2.2.2.2.1
  have hS := i9.2.1 (hK H) (Nat.le_refl _)
  have hmo : sMon (hNow H) ≤ 24 * c := hS.2
  refine months_ok h.2.2.1 h.2.2.2.2.1 i9.1 (by omega) (by omega) (fun k k1 k2 hx τ t1 => ?_) (fun q => ?_)
  · refine ⟨trivial, ?_⟩
    have t75 : ∀ k, 75 ≤ k → τ.1 k = σ.1 k := fun k hk => (t1.1 k (by omega)).1
    have hM : MC τ L (hNow H) := MC_cells h.2.2.2.1 (fun j _ => by rw [t75 75 (by decide)]) (fun k hk => t75 k (by omega))
    have hA : MA τ 93 43 (hK H) (dPpl L) (hSs H) := MA_eq h.2.2.2.1.2.1.1 h.2.2.2.2.2.1 (by rw [t75 75 (by decide)]) (t75 93 (by decide))
    refine monthsM_ok hM hA i9.1 (by omega) (by omega) (fun k' q1 q2 hx' υ u1 => ?_) (fun w => absurd ⟨k, k1, k2, hx⟩ w)
    have e : k' = k := (nI_eq (by omega) (by omega)).mp (hx'.symm.trans hx)
    subst e
    exact ⟨rfl, _, _, _, _, _, _, INV_act h t1 (by omega) u1 (HOK_act i9 (SOK_mo hS.1 (by omega)) (by show sMon (hNow H) + k' ≤ 24 * (c + 1); omega)) rfl⟩
  · refine ⟨trivial, ?_⟩
    have hM : MC (sw_sI σ 0 (upd (σ.1 0) 15 (σ.1 0 15 + 1))) L (hNow H) := MC_cells h.2.2.2.1 (fun j _ => by rw [sI_ne (by decide)]) (fun k hk => sI_ne (by omega))
    have hA : MA (sw_sI σ 0 (upd (σ.1 0) 15 (σ.1 0 15 + 1))) 93 43 (hK H) (dPpl L) (hSs H) := MA_eq h.2.2.2.1.2.1.1 h.2.2.2.2.2.1 (by rw [sI_ne (by decide)]) (sI_ne (by decide))
    refine monthsM_ok hM hA i9.1 (by omega) (by omega) (fun k' q1 q2 hx' => absurd ⟨k', q1, q2, hx'⟩ q) (fun _ υ u1 u2 u3 => ⟨rfl, _, _, _, _, _, _, INV_ref (k := 1) (Or.inl rfl) h (XF_rf σ) h.2.2.1 (by omega) u1⟩)
end
