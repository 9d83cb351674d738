section SWM
variable {own nL : Nat} {cc : ByteArray} {rt : Option FieldType} {kr : Option Value → sw_M → Prop} {kx : Nat → sw_M → Prop} {kc : Nat → List Value → sw_M → (Option Value → sw_M → Prop) → Prop} {kcx : Nat → List Value → sw_M → (Option Value → sw_M → Prop) → (Nat → sw_M → Prop) → Prop} {X Y : sw_P}
set_option maxHeartbeats 4000000 in
theorem sw_step_mo (hc : ∀ n av σ Q Q', kc n av σ Q → (∀ v σ', Q v σ' → Q' v σ') → kc n av σ Q') (hcx : ∀ n av σ Q Q' K, kcx n av σ Q K → (∀ v σ', Q v σ' → Q' v σ') → kcx n av σ Q' K) (hX : ∀ b pc ls st σ, X b pc ls st σ → Y b pc ls st σ) {i : Instr} {b pc : Nat} {ls : List (Option Value)} {st : List Value} {σ : sw_M} (h : sw_step own cc nL rt kr kx kc kcx X i b pc ls st σ) : sw_step own cc nL rt kr kx kc kcx Y i b pc ls st σ := by
  unfold sw_step at h ⊢
  split at h
  all_goals first
    | exact h
    | exact hX _ _ _ _ _ h
    | exact oI_mo h (fun _ h => hX _ _ _ _ _ h)
    | exact oL_mo h (fun _ h => hX _ _ _ _ _ h)
    | exact oR_mo h (fun _ h => hX _ _ _ _ _ h)
    | exact oI_mo h (fun _ h => ⟨h.1, hX _ _ _ _ _ h.2⟩)
    | exact tI_mo h (fun _ _ h => hX _ _ _ _ _ h)
    | exact tL_mo h (fun _ _ h => hX _ _ _ _ _ h)
    | exact t1_mo h (fun _ _ h => hX _ _ _ _ _ h)
    | exact tI_mo h (fun _ _ h => ⟨h.1, cond_mo h.2 (hX _ _ _ _ _) id⟩)
    | exact tR_mo h (fun _ _ h => ⟨h.1, cond_mo h.2 (hX _ _ _ _ _) id⟩)
    | exact tL_mo h (fun _ _ h => ⟨h.1, cond_mo h.2 (hX _ _ _ _ _) id⟩)
    | exact tI_mo h (fun _ _ h => tI_mo h (fun _ _ h => hX _ _ _ _ _ h))
    | exact tI_mo h (fun _ _ h => tI_mo h (fun _ _ h => ⟨h.1, hX _ _ _ _ _ h.2⟩))
    | exact tL_mo h (fun _ _ h => tL_mo h (fun _ _ h => hX _ _ _ _ _ h))
    | exact tI_mo h (fun _ _ h => tL_mo h (fun _ _ h => hX _ _ _ _ _ h))
    | exact t1_mo h (fun _ _ h => t1_mo h (fun _ _ h => hX _ _ _ _ _ h))
    | exact sw_j_mo h (fun _ h => hX _ _ _ _ _ h)
    | exact tI_mo h (fun _ _ h => tR_mo h (fun _ _ h => ⟨h.1, h.2.1, hX _ _ _ _ _ h.2.2⟩))
    | exact tI_mo h (fun _ _ h => tI_mo h (fun _ _ h => tR_mo h (fun _ _ h => ⟨h.1, h.2.1, hX _ _ _ _ _ h.2.2⟩)))
    | exact tI_mo h (fun _ _ h => tI_mo h (fun _ _ h => tR_mo h (fun _ _ h => ⟨h.1, h.2.1, h.2.2.1, hX _ _ _ _ _ h.2.2.2⟩)))
    | exact tL_mo h (fun _ _ h => tI_mo h (fun _ _ h => tR_mo h (fun _ _ h => ⟨h.1, h.2.1, hX _ _ _ _ _ h.2.2⟩)))
    | exact tR_mo h (fun _ _ h => ⟨h.1, hX _ _ _ _ _ h.2⟩)
    | (refine tI_mo h (fun _ _ h => tI_mo h (fun _ _ h => ?_)); split at h <;> exact sw_j_mo h (fun _ h => ⟨fun e => hX _ _ _ _ _ (h.1 e), fun e => hX _ _ _ _ _ (h.2 e)⟩))
    | (refine tI_mo h (fun _ _ h => ?_); split at h <;> exact sw_j_mo h (fun _ h => ⟨fun e => hX _ _ _ _ _ (h.1 e), fun e => hX _ _ _ _ _ (h.2 e)⟩))
    | exact tI_mo h (fun _ _ h => ⟨fun e => sw_j_mo (h.1 e) (fun _ h => hX _ _ _ _ _ h), fun e1 e2 => by obtain ⟨o, q, z⟩ := h.2 e1 e2; exact ⟨o, q, sw_j_mo z (fun _ h => hX _ _ _ _ _ h)⟩⟩)
    | (refine tR_mo h (fun _ _ h => ?_)
       split at h
       · exact ⟨h.1, hX _ _ _ _ _ h.2⟩
       · exact cond_mo h (fun h => ⟨h.1, cond_mo h.2 (hX _ _ _ _ _) (fun h => cond_mo h (hX _ _ _ _ _) id)⟩) id)
    | exact cond_mo h (fun h => cond_mo h (hX _ _ _ _ _) (fun h => cond_mo h (fun h => ⟨hX _ _ _ _ _ h.1, hX _ _ _ _ _ h.2⟩) id)) id
    | exact cond_mo h (fun h => tI_mo h (fun _ _ h => tR_mo h (fun _ _ h => ⟨h.1, h.2.1, hX _ _ _ _ _ h.2.2⟩))) (fun h => tI_mo h (fun _ _ h => tR_mo h (fun _ _ h => ⟨h.1, h.2.1, hX _ _ _ _ _ h.2.2⟩)))
    | exact cond_mo h (fun h => tR_mo h (fun _ _ h => ⟨h.1, hX _ _ _ _ _ h.2⟩)) (fun h => tR_mo h (fun _ _ h => ⟨h.1, hX _ _ _ _ _ h.2⟩))
    | (split at h
       · exact cond_mo h id (fun h => cond_mo h (fun h => tI_mo h (fun _ _ h => tR_mo h (fun _ _ h => ⟨h.1, h.2.1, hX _ _ _ _ _ h.2.2⟩))) (fun h => cond_mo h (fun h => tL_mo h (fun _ _ h => tR_mo h (fun _ _ h => ⟨h.1, hX _ _ _ _ _ h.2⟩))) (fun h => cond_mo h (fun h => tR_mo h (fun _ _ h => tR_mo h (fun _ _ h => ⟨h.1, h.2.1, hX _ _ _ _ _ h.2.2⟩))) id)))
       · exact h)
    | (split at h
       · refine cond_mo h (fun h => cond_mo h id (fun h => cond_mo h id (fun h => tA_mo h (fun av r h => ⟨h.1, h.2.1, cond_mo h.2.2 (fun h => ?_) (fun h => hc _ _ _ _ _ h (fun v σ' q => hX _ _ _ _ _ q))⟩)))) id
         match b, h with
         | b' + 1, h => exact hcx _ _ _ _ _ _ h (fun v σ' q => hX _ _ _ _ _ q)
       · exact h)
    | (split at h
       · exact cond_mo h (fun h => cond_mo h (fun h => tA_mo h (fun av r h => ⟨h.1, hc _ _ _ _ _ h.2 (fun v σ' q => hX _ _ _ _ _ q)⟩)) id) (fun h => tI_mo h (fun _ _ h => tI_mo h (fun _ _ h => tR_mo h (fun _ _ h => tI_mo h (fun _ _ h => tR_mo h (fun _ _ h => ⟨h.1, h.2.1, h.2.2.1, h.2.2.2.1, h.2.2.2.2.1, h.2.2.2.2.2.1, h.2.2.2.2.2.2.1, h.2.2.2.2.2.2.2.1, hX _ _ _ _ _ h.2.2.2.2.2.2.2.2⟩))))))
       · exact h)
    | (split at h; exact hX _ _ _ _ _ h; split at h; exact hX _ _ _ _ _ h; exact h)
    | (split at h; exact hX _ _ _ _ _ h; exact h)
theorem sw_F_mo (hc : ∀ n av σ Q Q', kc n av σ Q → (∀ v σ', Q v σ' → Q' v σ') → kc n av σ Q') (hcx : ∀ n av σ Q Q' K, kcx n av σ Q K → (∀ v σ', Q v σ' → Q' v σ') → kcx n av σ Q' K) (hX : ∀ b pc ls st σ, X b pc ls st σ → Y b pc ls st σ) {b pc : Nat} {ls : List (Option Value)} {st : List Value} {σ : sw_M} (h : sw_F own cc nL rt kr kx kc kcx X b pc ls st σ) : sw_F own cc nL rt kr kx kc kcx Y b pc ls st σ := by
  unfold sw_F at h ⊢
  split at h
  · exact cond_mo h (fun h => sw_step_mo hc hcx hX h) id
  · exact h
end SWM
section SWV
variable {l : Launch} {E : sw_E} {d own nL : Nat} {cc : ByteArray} {rt : Option FieldType} {kr : Option Value → sw_M → Prop} {kx : Nat → sw_M → Prop} {b pc : Nat} {ls : List (Option Value)} {st : List Value} {σ : sw_M}
theorem sw_kc_mo : ∀ n av σ Q Q', sw_Con l E d n av σ Q → (∀ v σ', Q v σ' → Q' v σ') → sw_Con l E d n av σ Q' := fun _ _ _ _ _ h k => sw_Con_mono h k
theorem sw_kcx_mo : ∀ n av σ Q Q' K, sw_ConX l E d 1 n av σ Q K → (∀ v σ', Q v σ' → Q' v σ') → sw_ConX l E d 1 n av σ Q' K := fun _ _ _ _ _ _ h k => sw_ConX_mono h k (fun _ _ q => q)
theorem sw_V_in (h : sw_F own cc nL rt kr kx (sw_Con l E d) (sw_ConX l E d 1) (sw_V l E d own cc nL rt kr kx) b pc ls st σ) : sw_V l E d own cc nL rt kr kx b pc ls st σ :=
  fun X hX => hX _ _ _ _ _ (sw_F_mo sw_kc_mo sw_kcx_mo (fun _ _ _ _ _ v => v X hX) h)
theorem sw_V_out (h : sw_V l E d own cc nL rt kr kx b pc ls st σ) : sw_F own cc nL rt kr kx (sw_Con l E d) (sw_ConX l E d 1) (sw_V l E d own cc nL rt kr kx) b pc ls st σ :=
  h (fun b pc ls st σ => sw_F own cc nL rt kr kx (sw_Con l E d) (sw_ConX l E d 1) (sw_V l E d own cc nL rt kr kx) b pc ls st σ) (fun _ _ _ _ _ g => sw_F_mo sw_kc_mo sw_kcx_mo (fun _ _ _ _ _ q => sw_V_in q) g)
theorem sw_V_iff {i : Instr} {len : Nat} (hd : decode cc pc = .ok (i, len)) (hl : (Nat.beq (sw_len i) 0 || Nat.beq len (sw_len i)) = true := by rfl) : sw_V l E d own cc nL rt kr kx b pc ls st σ ↔ sw_step own cc nL rt kr kx (sw_Con l E d) (sw_ConX l E d 1) (sw_V l E d own cc nL rt kr kx) i b pc ls st σ := by
  have e : sw_F own cc nL rt kr kx (sw_Con l E d) (sw_ConX l E d 1) (sw_V l E d own cc nL rt kr kx) b pc ls st σ ↔ sw_step own cc nL rt kr kx (sw_Con l E d) (sw_ConX l E d 1) (sw_V l E d own cc nL rt kr kx) i b pc ls st σ := by
    unfold sw_F
    simp only [hd, hl, cond_true]
  exact ⟨fun h => e.mp (sw_V_out h), fun h => sw_V_in (e.mpr h)⟩
end SWV
