/-! What holds between two calls; a query keeps it. -/
/-- the image, both sides -/
noncomputable def IMG (σ : sw_M) (n c : Nat) : Prop := (σ.1 0 6 = 0 ∧ σ.1 75 64 = 0) ∨ (σ.1 0 6 = 1 ∧ σ.1 75 64 = 1 ∧ ∃ H : HD, HOK n c H ∧ CS σ 37 n (hNow H) ∧ CA σ 37 (hK H) (hSs H) ∧ CY σ 37 (hY H) ∧ MS σ 108 n (hNow H) ∧ MA σ 109 65 (hK H) n (hSs H) ∧ σ.1 75 66 = nI (hY H).1 ∧ ∀ i, i < (hY H).1 → σ.1 110 (2 * i) = nI ((hY H).2.1 i) ∧ σ.1 110 (2 * i + 1) = nI ((hY H).2.2 i))
/-- between two calls: a told, b the draft, L the land, H the history, g the tape's m bytes -/
noncomputable def INVa (σ : sw_M) (c a b : Nat) (L : LD) (H : HD) (g : Nat → Nat) (m : Nat) : Prop := abL a b ∧ σ.1 0 2 = nI b ∧ XC σ a L (hNow H) (61 * c) ∧ MC σ L (hNow H) ∧ CA σ 28 (hK H) (hSs H) ∧ MA σ 93 43 (hK H) (dPpl L) (hSs H) ∧ CY σ 28 (hY H) ∧ MY σ (hY H) ∧ HOK (dPpl L) c H ∧ (σ.1 0 14 = σ.1 82 0 ∧ σ.1 0 15 = σ.1 82 1 ∧ σ.1 0 16 = σ.1 82 2) ∧ σ.1 0 13 = σ.1 75 14 ∧ TPc σ g m ∧ TPm σ g m ∧ IMG σ (dPpl L) c
noncomputable def INV (σ : sw_M) (c : Nat) : Prop := ∃ a b L H g m, INVa σ c a b L H g m
section
variable {σ τ υ : sw_M} {a b c c' k m n s : Nat} {L : LD} {S : SD} {H : HD} {g : Nat → Nat} {Ss : Nat → SD} {Y : YD}
theorem JB_up (h : JB σ c) (hc : c ≤ c') : JB σ c' := by
  obtain ⟨s, h1, h2, h3⟩ := h
  exact ⟨s, h1, by omega, h3⟩
theorem XC_up (h : XC σ a L S c) (hc : c ≤ c') : XC σ a L S c' := by
  obtain ⟨h1, h2, h3, h4, h5, h6, h7⟩ := h
  exact ⟨h1, h2, h3, h4, h5, h6, JB_up h7 hc⟩
theorem CA_eq (h : CA σ s k Ss) (h0 : τ.1 s 6 = σ.1 s 6) (h4 : τ.1 (s + 4) = σ.1 (s + 4)) (h5 : τ.1 (s + 5) = σ.1 (s + 5)) (h6 : τ.1 (s + 6) = σ.1 (s + 6)) : CA τ s k Ss := by
  unfold CA at *
  rw [h0, h4, h5, h6]
  exact h
theorem CY_eq (h : CY σ s Y) (h0 : τ.1 s 10 = σ.1 s 10) (h7 : τ.1 (s + 7) = σ.1 (s + 7)) (h8 : τ.1 (s + 8) = σ.1 (s + 8)) : CY τ s Y := by
  unfold CY at *
  rw [h0, h7, h8]
  exact h
theorem MA_eq {r i : Nat} (hn : n ≤ 12) (h : MA σ r i k n Ss) (h0 : τ.1 75 i = σ.1 75 i) (h1 : τ.1 r = σ.1 r) : MA τ r i k n Ss := ⟨h0.trans h.1, fun j hj => MSo_of hn (h.2 j hj) (fun i _ => by rw [h1])⟩
theorem IMG_eq (hn : n ≤ 12) (h : IMG σ n c) (hc : c ≤ c') (h06 : τ.1 0 6 = σ.1 0 6) (hk : ∀ k, 37 ≤ k → k < 46 → τ.1 k = σ.1 k) (h5 : ∀ j, j = 64 ∨ j = 65 ∨ j = 66 → τ.1 75 j = σ.1 75 j) (hr : ∀ k, k = 108 ∨ k = 109 ∨ k = 110 → τ.1 k = σ.1 k) : IMG τ n c' := by
  rcases h with ⟨h1, h2⟩ | ⟨h1, h2, H, q1, q2, q3, q4, q5, q6, q7, q8⟩
  · exact Or.inl ⟨h06.trans h1, (h5 64 (by simp)).trans h2⟩
  · refine Or.inr ⟨h06.trans h1, (h5 64 (by simp)).trans h2, H, ⟨q1.1, fun j hj => ⟨(q1.2.1 j hj).1, by have := (q1.2.1 j hj).2; omega⟩, q1.2.2⟩, CS_eq q2 (hk 37 (by decide) (by decide)) (hk 38 (by decide) (by decide)) (hk 39 (by decide) (by decide)) (hk 40 (by decide) (by decide)), CA_eq q3 (by rw [hk 37 (by decide) (by decide)]) (hk 41 (by decide) (by decide)) (hk 42 (by decide) (by decide)) (hk 43 (by decide) (by decide)), CY_eq q4 (by rw [hk 37 (by decide) (by decide)]) (hk 44 (by decide) (by decide)) (hk 45 (by decide) (by decide)), MS_eq q5 (hr 108 (by simp)), MA_eq hn q6 (h5 65 (by simp)) (hr 109 (by simp)), (h5 66 (by simp)).trans q7, ?_⟩
    rw [hr 110 (by simp)]
    exact q8
/-- a query keeps it -/
theorem INV_q (h : INVa σ c a b L H g m) (f1 : ∀ k, k < 46 → υ.1 k = σ.1 k) (f2 : ∀ k, 75 < k → k ∉ msI → υ.1 k = σ.1 k) (f3 : ∀ j, j ∉ msF → υ.1 75 j = σ.1 75 j) (hJ : JB υ (61 * (c + 1))) : INVa υ (c + 1) a b L H g m := by
  obtain ⟨i1, i2, i3, i4, i5, i6, i7, i8, i9, ⟨r1, r2, r3⟩, j1, j2, j3, j4⟩ := h
  have hn := i4.2.1.1
  obtain ⟨x1, x2, x3, x4, x5, x6, x7⟩ := i3
  refine ⟨i1, by rw [f1 0 (by decide)]; exact i2, ⟨x1, by rw [f1 0 (by decide)]; exact x2, CL_eq x3 (fun k q1 q2 => f1 k (by rcases x1 with rfl | rfl <;> omega)), x4, CS_eq x5 (f1 28 (by decide)) (f1 29 (by decide)) (f1 30 (by decide)) (f1 31 (by decide)), x6, hJ⟩, MC_cells i4 (fun j hj => f3 j (by rcases hj with hj | rfl <;> simp [msF] <;> omega)) (fun k hk => f2 k (by omega) (by rcases hk with rfl | rfl | rfl | rfl | rfl | rfl <;> decide)), CA_eq i5 (by rw [f1 28 (by decide)]) (f1 32 (by decide)) (f1 33 (by decide)) (f1 34 (by decide)), MA_eq hn i6 (f3 43 (by decide)) (f2 93 (by decide) (by decide)), CY_eq i7 (by rw [f1 28 (by decide)]) (f1 35 (by decide)) (f1 36 (by decide)), ?_, HOK_up i9, ?_, ?_, ?_, ?_, IMG_eq hn j4 (by omega) (by rw [f1 0 (by decide)]) (fun k q1 q2 => f1 k q2) (fun j hj => f3 j (by rcases hj with rfl | rfl | rfl <;> decide)) (fun k hk => f2 k (by omega) (by rcases hk with rfl | rfl | rfl <;> decide))⟩
  · unfold MY at *
    rw [f3 59 (by decide), f2 105 (by decide) (by decide)]
    exact i8
  · rw [f1 0 (by decide), f2 82 (by decide) (by decide)]
    exact ⟨r1, r2, r3⟩
  · rw [f1 0 (by decide), f3 14 (by decide)]; exact j1
  · unfold TPc at *
    rw [f1 2 (by decide), f1 3 (by decide)]
    exact j2
  · unfold TPm at *
    rw [f3 12 (by decide), f2 81 (by decide) (by decide)]
    exact j3
/-- a query of the class, then one of the reference -/
theorem INV_xm (h : INVa σ c a b L H g m) (hX : XF σ τ) (hC : XC τ a L S c') (hc : c' ≤ 61 * (c + 1)) (hM : MF τ υ) : INVa υ (c + 1) a b L H g m := by
  have m75 : ∀ k, k < 75 → υ.1 k = τ.1 k := fun k hk => hM.2.1 k (fun q => by
    have : ∀ k ∈ msI, 75 ≤ k := by decide
    have := this k q
    omega)
  refine INV_q h (fun k hk => (m75 k (by omega)).trans (hX k (Or.inl hk)).1) (fun k hk q => (hM.2.1 k q).trans (hX k (Or.inr (by omega))).1) (fun j hj => (hM.2.2 j hj).trans (by rw [(hX 75 (Or.inr (by decide))).1])) ?_
  obtain ⟨-, -, -, -, -, -, hJ⟩ := hC
  exact JB_up (JB_eq hJ (m75 61 (by decide)) (m75 63 (by decide))) hc
end
