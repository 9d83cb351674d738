/-! Both sides' calls, one after the other: see. -/
section
variable {l : Launch} {E : sw_E} {d c : Nat} {σ τ : sw_M} {x y z : Int32}
theorem p_see (hl : l.stackTraces = false) (h : INV σ c) (hd : 64 < d) : PAIRX l E d 152 280 (fun i => if i = 0 then 1 else 0) [.int x, .int y] σ c := by
  obtain ⟨a, b, L, H, g, m, h⟩ := h
  have i9 := h.2.2.2.2.2.2.2.2.1
  have i7 := h.2.2.2.2.2.2.1
  have i8 := h.2.2.2.2.2.2.2.1
  have hn := h.2.2.2.1.2.1.1
  have hY' := i9.2.2
  refine see_ok hl h.2.2.1 i7 hY' (by omega) (fun p q hp hq hx hy h8 τ t1 t2 t3 t4 => ?_) (fun q1 q2 h8 => ?_) (fun q => ?_)
  · refine ⟨trivial, fun ff => ?_⟩
    replace h := INV_L h ff
    replace t1 := Fr_L t1 ff
    replace t4 := CY_L t4 ff
    replace i8 := MY_L i8 ff
    obtain ⟨hM, -⟩ := MC_75 h (fun k hk => t1.2 k (by simp; omega))
    have hm : MY (sw_sL τ 111 ff) (hY H) := by
      unfold MY at *
      rw [t1.2 75 (by decide), t1.2 105 (by decide)]
      exact i8
    refine seeM_ok hM hm hY' (by omega) (fun p' q' hp' hq' hx' hy' _ υ u1 u2 u3 u4 u5 => ?_) (fun _ _ w => absurd w (by omega)) (fun w => absurd ⟨⟨p, Nat.zero_le _, hp, hx⟩, ⟨q, Nat.zero_le _, hq, hy⟩⟩ w)
    have e1 : p' = p := (nI_eq (by omega) (by omega)).mp (hx'.symm.trans hx)
    have e2 : q' = q := (nI_eq (by omega) (by omega)).mp (hy'.symm.trans hy)
    subst e1 e2
    exact ⟨rfl, u5, L111c u1, _, _, _, _, _, _, INV_seen h t1 t2 t4 u1 u2 u4 (YOK_app hY' h8 hp hq)⟩
  · refine ⟨trivial, fun ff => ?_⟩
    replace h := INV_L h ff
    replace i8 := MY_L i8 ff
    obtain ⟨hM, -⟩ := MC_75 (τ := sw_sI (sw_sL σ 111 ff) 0 (upd (σ.1 0) 16 (σ.1 0 16 + 1))) h (fun k hk => by rw [sI_ne (by omega)])
    have hm : MY (sw_sI (sw_sL σ 111 ff) 0 (upd (σ.1 0) 16 (σ.1 0 16 + 1))) (hY H) := by
      unfold MY at *
      rw [sI_ne (by decide), sI_ne (by decide)]
      exact i8
    refine seeM_ok hM hm hY' (by omega) (fun p' q' hp' hq' hx' hy' w => absurd w (by omega)) (fun _ _ _ => ⟨rfl, ?_, (show (sw_sL (sw_sI σ 0 (upd (σ.1 0) 16 (σ.1 0 16 + 1))) 111 ff).2 111 = ff from sL_at), _, _, _, _, _, _, INV_ref (k := 2) (Or.inr rfl) h (XF_rf _) h.2.2.1 (by omega) (thr_MF _ 0)⟩) (fun w => absurd ⟨q1, q2⟩ w)
    rw [sI_ne (by decide)]
    exact thr_0 _ 0
  · refine ⟨by decide, ?_⟩
    exact seeM_ok h.2.2.2.1 i8 hY' (by omega) (fun p' q' hp' hq' hx' hy' => absurd ⟨⟨p', Nat.zero_le _, hp', hx'⟩, ⟨q', Nat.zero_le _, hq', hy'⟩⟩ q) (fun w1 w2 => absurd ⟨w1, w2⟩ q) (fun _ υ r u1 u2 u3 => ⟨trivial, u3, _, _, _, _, _, _, INV_xm h (XF_rf σ) h.2.2.1 (by omega) u1⟩)
end
