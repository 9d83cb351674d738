/-! Both sides' calls, one after the other: calls that may throw; go, back. -/
section
variable {σ τ : sw_M} {a b c k m n s : Nat} {L : LD} {S : SD} {H : HD} {g : Nat → Nat} {Y : YD} {P : PD} {ks : List Nat}
theorem sL_2 (h : ∀ k, τ.2 k = σ.2 k) (f : Nat → Int64) : (sw_sL τ 111 f).2 = (sw_sL σ 111 f).2 := by
  funext k
  show (if k = 111 then f else τ.2 k) = (if k = 111 then f else σ.2 k)
  rw [h]
theorem INV_L (h : INVa σ c a b L H g m) (f : Nat → Int64) : INVa (sw_sL σ 111 f) c a b L H g m := h
theorem XC_L (h : XC σ a L S c) (f : Nat → Int64) : XC (sw_sL σ 111 f) a L S c := h
theorem CY_L (h : CY σ s Y) (f : Nat → Int64) : CY (sw_sL σ 111 f) s Y := h
theorem MY_L (h : MY σ Y) (f : Nat → Int64) : MY (sw_sL σ 111 f) Y := h
theorem XF_L (h : XF σ τ) (f : Nat → Int64) : XF (sw_sL σ 111 f) (sw_sL τ 111 f) := fun k hk => ⟨(h k hk).1, by
  show (if k = 111 then f else τ.2 k) = (if k = 111 then f else σ.2 k)
  rw [(h k hk).2]⟩
theorem AC_L (h : AC σ τ a L c H) (f : Nat → Int64) : AC (sw_sL σ 111 f) (sw_sL τ 111 f) a L c H := ⟨fun k hk => ⟨(h.1 k hk).1, by
  show (if k = 111 then f else τ.2 k) = (if k = 111 then f else σ.2 k)
  rw [(h.1 k hk).2]⟩, h.2⟩
theorem LG_L (h : LG σ τ a b P) (f : Nat → Int64) : LG (sw_sL σ 111 f) (sw_sL τ 111 f) a b P := ⟨sL_2 (fun k => by rw [h.1]) f, h.2⟩
theorem LB_L (h : LB σ τ b n) (f : Nat → Int64) : LB (sw_sL σ 111 f) (sw_sL τ 111 f) b n := ⟨sL_2 (fun k => by rw [h.1]) f, h.2⟩
theorem Fr_L (h : Fr ks σ τ) (f : Nat → Int64) : Fr ks (sw_sL σ 111 f) (sw_sL τ 111 f) := ⟨sL_2 (fun k => by rw [h.1]) f, h.2⟩
theorem L111 {f : Nat → Int64} (h : MF (sw_sL σ 111 f) τ) : τ.2 111 = f := (h.1 111 (by decide)).trans (sL_at)
theorem L111a {f : Nat → Int64} (h : MFa (sw_sL σ 111 f) τ) : τ.2 111 = f := (h.1 111 (by decide)).trans (sL_at)
theorem L111b {f : Nat → Int64} (h : ∀ k, k ≠ 75 → τ.2 k = (sw_sL σ 111 f).2 k) : τ.2 111 = f := (h 111 (by decide)).trans (sL_at)
theorem L111c {f : Nat → Int64} (h : Fr ks (sw_sL σ 111 f) τ) : τ.2 111 = f := by
  rw [h.1]
  exact sL_at
end
/-- as PAIR, where the class may throw: ec is the code that the reference keeps for an exception (0: that one doesn't come) -/
abbrev PAIRX (l : Launch) (E : sw_E) (d xm mm : Nat) (ec : Nat → Int32) (av : List Value) (σ : sw_M) (c : Nat) : Prop := sw_ConX l E d 4 xm (.ref 0 :: av) σ (fun r τ => rsh 0 r ∧ ∀ f : Nat → Int64, sw_Con l E d mm (.ref 75 :: av) (sw_sL τ 111 f) (fun r2 υ => r2 = r ∧ υ.1 75 0 = 0 ∧ υ.2 111 = f ∧ INV υ (c + 1))) (fun i τ => ec i ≠ 0 ∧ sw_Con l E d mm (.ref 75 :: av) τ (fun r2 υ => rsh 0 r2 ∧ υ.1 75 0 = ec i ∧ INV υ (c + 1)))
section
variable {l : Launch} {E : sw_E} {d c : Nat} {σ τ : sw_M} {x y z : Int32} {a b m : Nat} {L : LD} {H : HD} {g : Nat → Nat}
theorem p_fault (h : INV σ c) (hd : 64 < d) : PAIR l E 0 d 13 212 [] σ c := by
  obtain ⟨a, b, L, H, g, m, h⟩ := h
  have j1 := h.2.2.2.2.2.2.2.2.2.2.1
  exact fault_ok (by omega) ⟨trivial, faultM_ok (by omega) ⟨by rw [j1], _, _, _, _, _, _, INV_xm h (XF_rf σ) h.2.2.1 (by omega) (thr_MF σ 0)⟩⟩
/-- the reference's context where its own cells are kept -/
theorem MC_75 (h : INVa σ c a b L H g m) (t : ∀ k, 75 ≤ k → τ.1 k = σ.1 k) : MC τ L (hNow H) ∧ MA τ 93 43 (hK H) (dPpl L) (hSs H) := ⟨MC_cells h.2.2.2.1 (fun j _ => by rw [t 75 (by decide)]) (fun k hk => t k (by omega)), MA_eq h.2.2.2.1.2.1.1 h.2.2.2.2.2.1 (by rw [t 75 (by decide)]) (t 93 (by decide))⟩
theorem p_go (hl : l.stackTraces = false) (h : INV σ c) (hc : c ≤ 512) (hd : 64 < d) : PAIRX l E d 122 238 (fun i => if i = 0 then 1 else 0) [.int x] σ c := by
  obtain ⟨a, b, L, H, g, m, h⟩ := h
  have i9 := h.2.2.2.2.2.2.2.2.1
  have hS := i9.2.1 (hK H) (Nat.le_refl _)
  refine go_ok hl h.2.2.1 h.2.2.2.2.1 i9.1 (by omega) (by omega) (fun p hp hx hcan τ t1 => ?_) (fun p hp hx hcan τ t1 t2 => ?_) (fun q => ?_)
  · refine ⟨trivial, fun ff => ?_⟩
    replace h := INV_L h ff
    replace t1 := AC_L t1 ff
    obtain ⟨hM, hA⟩ := MC_75 h (fun k hk => (t1.1 k (by omega)).1)
    refine goM_ok hM hA i9.1 (by omega) (fun p' hp' hx' _ υ u1 => ?_) (fun p' hp' hx' q => ?_) (fun q => absurd ⟨p, Nat.zero_le _, hp, hx⟩ q)
    · have hn := hM.2.1.1
      have e : p' = p := (nI_eq (by omega) (by omega)).mp (hx'.symm.trans hx)
      subst e
      exact ⟨rfl, u1.2.1, L111a u1.1, _, _, _, _, _, _, INV_act h t1 (by omega) u1 (HOK_act i9 (SOK_go hS.1 hp) (by show sMon (hNow H) ≤ 24 * (c + 1); have : sMon (hNow H) ≤ 24 * c := hS.2; omega)) rfl⟩
    · have hn := hM.2.1.1
      have e : p' = p := (nI_eq (by omega) (by omega)).mp (hx'.symm.trans hx)
      subst e
      rw [hcan] at q; cases q
  · refine ⟨trivial, fun ff => ?_⟩
    replace h := INV_L h ff
    replace t1 := XF_L t1 ff
    replace t2 := XC_L t2 ff
    obtain ⟨hM, hA⟩ := MC_75 (τ := sw_sI τ 0 (upd (τ.1 0) 15 (τ.1 0 15 + 1))) h (fun k hk => by rw [sI_ne (by omega)]; exact (t1 k (Or.inr hk)).1)
    refine goM_ok hM hA i9.1 (by omega) (fun p' hp' hx' q => ?_) (fun p' hp' hx' q υ u1 u2 u3 => ?_) (fun q => absurd ⟨p, Nat.zero_le _, hp, hx⟩ q)
    · have hn := hM.2.1.1
      have e : p' = p := (nI_eq (by omega) (by omega)).mp (hx'.symm.trans hx)
      subst e
      rw [hcan] at q; cases q
    · exact ⟨rfl, by rw [sI_ne (by decide)]; exact u3, (u1.1 111 (by decide)).trans sL_at, _, _, _, _, _, _, INV_ref (k := 1) (Or.inl rfl) h t1 t2 (by omega) u1⟩
  · refine ⟨by decide, ?_⟩
    exact goM_ok h.2.2.2.1 h.2.2.2.2.2.1 i9.1 (by omega) (fun p' hp' hx' => absurd ⟨p', Nat.zero_le _, hp', hx'⟩ q) (fun p' hp' hx' => absurd ⟨p', Nat.zero_le _, hp', hx'⟩ q) (fun _ υ r u1 u2 u3 => ⟨trivial, u3, _, _, _, _, _, _, INV_xm h (XF_rf σ) h.2.2.1 (by omega) u1⟩)
end
