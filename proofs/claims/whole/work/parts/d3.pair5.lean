/-! Both sides' calls, one after the other: land. -/
section
variable {l : Launch} {E : sw_E} {d c : Nat} {σ τ : sw_M} {x y z : Int32}
theorem p_land (hl : l.stackTraces = false) (h : INV σ c) (hd : 64 < d) : PAIRX l E d 75 180 (fun i => if i = 0 then 0 else 1) [.int x] σ c := by
  obtain ⟨a, b, L, H, g, m, h⟩ := h
  have i1 := h.1
  have j2 := h.2.2.2.2.2.2.2.2.2.2.2.1
  have j3 := h.2.2.2.2.2.2.2.2.2.2.2.2.1
  have hm := j2.2.1
  have hb : b + 12 ≤ 28 := by rcases i1 with ⟨-, rfl⟩ | ⟨-, rfl⟩ <;> decide
  have same : ∀ {n n' : Nat}, n ≤ m → n' ≤ m → x = nI n → x = nI n' → n' = n := fun hn hn' e e' => (nI_eq (by omega) (by omega)).mp (e'.symm.trans e)
  refine land_ok hl i1 h.2.2.1.2.1 h.2.1 j2 (by omega) (fun n hn hx g0 hP hW τ t1 => ?_) (fun n hn hx g0 g6 τ t1 => ?_) (fun q => ?_)
  · refine ⟨trivial, fun ff => ?_⟩
    replace h := INV_L h ff
    replace t1 := LG_L t1 ff
    have j3t : TPm (sw_sL τ 111 ff) g m := by
      unfold TPm at *
      rw [t1.2.1 75 (by decide) (by decide) (Or.inr (by omega)) (by decide), t1.2.1 81 (by decide) (by decide) (Or.inr (by omega)) (by decide)]
      exact j3
    refine landM_ok j3t (fun n' hn' hx' _ => ?_) (by omega) (fun n' hn' hx' g0' hP' υ u1 => ?_) (fun n' hn' hx' g0' υ u1 => ?_) (fun q => absurd ⟨n, Nat.zero_le _, by omega, hx⟩ q)
    · have e := same hn hn' hx hx'
      subst e
      exact hW
    · have e := same hn hn' hx hx'
      subst e
      exact ⟨rfl, u1.2.2.2.1, L111b u1.1, _, _, _, _, _, _, INV_land h hP hW t1 u1⟩
    · have e := same hn hn' hx hx'
      subst e
      exact absurd g0 g0'
  · refine ⟨trivial, fun ff => ?_⟩
    replace h := INV_L h ff
    replace t1 := LB_L t1 ff
    have j3t : TPm (sw_sL τ 111 ff) g m := by
      unfold TPm at *
      rw [t1.2.1 75 (by decide) (by decide) (Or.inr (by omega)), t1.2.1 81 (by decide) (by decide) (Or.inr (by omega))]
      exact j3
    refine landM_ok j3t (fun n' hn' hx' g0' => ?_) (by omega) (fun n' hn' hx' g0' hP' υ u1 => ?_) (fun n' hn' hx' g0' υ u1 => ?_) (fun q => absurd ⟨n, Nat.zero_le _, by omega, hx⟩ q)
    · have e := same hn hn' hx hx'
      subst e
      exact absurd g0' g0
    · have e := same hn hn' hx hx'
      subst e
      exact absurd g0' g0
    · have e := same hn hn' hx hx'
      subst e
      exact ⟨rfl, u1.2.2.2.1, L111b u1.1, _, _, _, _, _, _, INV_bad h t1 u1⟩
  · refine ⟨by decide, ?_⟩
    exact landM_ok j3 (fun n' hn' hx' _ => absurd ⟨n', Nat.zero_le _, by omega, hx'⟩ q) (by omega) (fun n' hn' hx' => absurd ⟨n', Nat.zero_le _, by omega, hx'⟩ q) (fun n' hn' hx' => absurd ⟨n', Nat.zero_le _, by omega, hx'⟩ q) (fun _ => ⟨trivial, thr_0 _ 1, _, _, _, _, _, _, INV_xm h (XF_rf σ) h.2.2.1 (by omega) (MF_tr (thr_MF σ 0) (thr_MF _ 1))⟩)
end
