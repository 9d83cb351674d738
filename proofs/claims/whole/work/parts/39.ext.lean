/-! The code sees a local by its place alone. -/
section SWX
variable {own nL : Nat} {cc : ByteArray} {rt : Option FieldType} {kr : Option Value → sw_M → Prop} {kx : Nat → sw_M → Prop} {kc : Nat → List Value → sw_M → (Option Value → sw_M → Prop) → Prop} {kcx : Nat → List Value → sw_M → (Option Value → sw_M → Prop) → (Nat → sw_M → Prop) → Prop} {X Y : sw_P}
set_option maxHeartbeats 4000000 in
theorem sw_step_ext (hc : ∀ n av σ Q Q', kc n av σ Q → (∀ v σ', Q v σ' → Q' v σ') → kc n av σ Q') (hcx : ∀ n av σ Q Q' K, kcx n av σ Q K → (∀ v σ', Q v σ' → Q' v σ') → kcx n av σ Q' K) {ls ls' : List (Option Value)} (hn : ∀ j, sw_nth ls j = sw_nth ls' j) (hl : ∀ j, sw_nl ls j → sw_nl ls' j) (hX : ∀ b pc st σ, X b pc ls st σ → Y b pc ls' st σ) (hP : ∀ k v b pc st σ, X b pc (sw_put ls k v) st σ → Y b pc (sw_put ls' k v) st σ) (hP2 : ∀ k v k2 v2 b pc st σ, X b pc (sw_put (sw_put ls k v) k2 v2) st σ → Y b pc (sw_put (sw_put ls' k v) k2 v2) st σ) {i : Instr} {b pc : Nat} {st : List Value} {σ : sw_M} (h : sw_step own cc nL rt kr kx kc kcx X i b pc ls st σ) : sw_step own cc nL rt kr kx kc kcx Y i b pc ls' st σ := by
  unfold sw_step at h ⊢
  split at h
  all_goals first
    | exact h
    | exact hX _ _ _ _ h
    | (rw [hn] at h; exact oI_mo h (fun _ h => hX _ _ _ _ h))
    | (rw [hn] at h; exact oL_mo h (fun _ h => hX _ _ _ _ h))
    | (rw [hn] at h; exact oR_mo h (fun _ h => hX _ _ _ _ h))
    | (rw [hn] at h; exact oI_mo h (fun _ h => ⟨hl _ h.1, hP _ _ _ _ _ _ h.2⟩))
    | exact tI_mo h (fun _ _ h => hX _ _ _ _ h)
    | exact tL_mo h (fun _ _ h => hX _ _ _ _ h)
    | exact t1_mo h (fun _ _ h => hX _ _ _ _ h)
    | exact tI_mo h (fun _ _ h => ⟨hl _ h.1, cond_mo h.2 (hP _ _ _ _ _ _) id⟩)
    | exact tR_mo h (fun _ _ h => ⟨hl _ h.1, cond_mo h.2 (hP _ _ _ _ _ _) id⟩)
    | exact tL_mo h (fun _ _ h => ⟨hl _ h.1, cond_mo h.2 (hP2 _ _ _ _ _ _ _ _) id⟩)
    | exact tI_mo h (fun _ _ h => tI_mo h (fun _ _ h => hX _ _ _ _ h))
    | exact tI_mo h (fun _ _ h => tI_mo h (fun _ _ h => ⟨h.1, hX _ _ _ _ h.2⟩))
    | exact tL_mo h (fun _ _ h => tL_mo h (fun _ _ h => hX _ _ _ _ h))
    | exact tI_mo h (fun _ _ h => tL_mo h (fun _ _ h => hX _ _ _ _ h))
    | exact t1_mo h (fun _ _ h => t1_mo h (fun _ _ h => hX _ _ _ _ h))
    | exact sw_j_mo h (fun _ h => hX _ _ _ _ h)
    | exact tI_mo h (fun _ _ h => tR_mo h (fun _ _ h => ⟨h.1, h.2.1, hX _ _ _ _ h.2.2⟩))
    | exact tI_mo h (fun _ _ h => tI_mo h (fun _ _ h => tR_mo h (fun _ _ h => ⟨h.1, h.2.1, hX _ _ _ _ h.2.2⟩)))
    | exact tI_mo h (fun _ _ h => tI_mo h (fun _ _ h => tR_mo h (fun _ _ h => ⟨h.1, h.2.1, h.2.2.1, hX _ _ _ _ h.2.2.2⟩)))
    | exact tL_mo h (fun _ _ h => tI_mo h (fun _ _ h => tR_mo h (fun _ _ h => ⟨h.1, h.2.1, hX _ _ _ _ h.2.2⟩)))
    | exact tR_mo h (fun _ _ h => ⟨h.1, hX _ _ _ _ h.2⟩)
    | (refine tI_mo h (fun _ _ h => tI_mo h (fun _ _ h => ?_)); split at h <;> exact sw_j_mo h (fun _ h => ⟨fun e => hX _ _ _ _ (h.1 e), fun e => hX _ _ _ _ (h.2 e)⟩))
    | (refine tI_mo h (fun _ _ h => ?_); split at h <;> exact sw_j_mo h (fun _ h => ⟨fun e => hX _ _ _ _ (h.1 e), fun e => hX _ _ _ _ (h.2 e)⟩))
    | exact tI_mo h (fun _ _ h => ⟨fun e => sw_j_mo (h.1 e) (fun _ h => hX _ _ _ _ h), fun e1 e2 => by obtain ⟨o, q, z⟩ := h.2 e1 e2; exact ⟨o, q, sw_j_mo z (fun _ h => hX _ _ _ _ h)⟩⟩)
    | (refine tR_mo h (fun _ _ h => ?_)
       split at h
       · exact ⟨h.1, hX _ _ _ _ h.2⟩
       · exact cond_mo h (fun h => ⟨h.1, cond_mo h.2 (hX _ _ _ _) (fun h => cond_mo h (hX _ _ _ _) id)⟩) id)
    | exact cond_mo h (fun h => cond_mo h (hX _ _ _ _) (fun h => cond_mo h (fun h => ⟨hX _ _ _ _ h.1, hX _ _ _ _ h.2⟩) id)) id
    | exact cond_mo h (fun h => tI_mo h (fun _ _ h => tR_mo h (fun _ _ h => ⟨h.1, h.2.1, hX _ _ _ _ h.2.2⟩))) (fun h => tI_mo h (fun _ _ h => tR_mo h (fun _ _ h => ⟨h.1, h.2.1, hX _ _ _ _ h.2.2⟩)))
    | exact cond_mo h (fun h => tR_mo h (fun _ _ h => ⟨h.1, hX _ _ _ _ h.2⟩)) (fun h => tR_mo h (fun _ _ h => ⟨h.1, hX _ _ _ _ h.2⟩))
    | (split at h
       · exact cond_mo h id (fun h => cond_mo h (fun h => tI_mo h (fun _ _ h => tR_mo h (fun _ _ h => ⟨h.1, h.2.1, hX _ _ _ _ h.2.2⟩))) (fun h => cond_mo h (fun h => tL_mo h (fun _ _ h => tR_mo h (fun _ _ h => ⟨h.1, hX _ _ _ _ h.2⟩))) (fun h => cond_mo h (fun h => tR_mo h (fun _ _ h => tR_mo h (fun _ _ h => ⟨h.1, h.2.1, hX _ _ _ _ h.2.2⟩))) id)))
       · exact h)
    | (split at h
       · refine cond_mo h (fun h => cond_mo h id (fun h => cond_mo h id (fun h => tA_mo h (fun av r h => ⟨h.1, h.2.1, cond_mo h.2.2 (fun h => ?_) (fun h => hc _ _ _ _ _ h (fun v σ' q => hX _ _ _ _ q))⟩)))) id
         match b, h with
         | b' + 1, h => exact hcx _ _ _ _ _ _ h (fun v σ' q => hX _ _ _ _ q)
       · exact h)
    | (split at h
       · exact cond_mo h (fun h => cond_mo h (fun h => tA_mo h (fun av r h => ⟨h.1, hc _ _ _ _ _ h.2 (fun v σ' q => hX _ _ _ _ q)⟩)) id) (fun h => tI_mo h (fun _ _ h => tI_mo h (fun _ _ h => tR_mo h (fun _ _ h => tI_mo h (fun _ _ h => tR_mo h (fun _ _ h => ⟨h.1, h.2.1, h.2.2.1, h.2.2.2.1, h.2.2.2.2.1, h.2.2.2.2.2.1, h.2.2.2.2.2.2.1, h.2.2.2.2.2.2.2.1, hX _ _ _ _ h.2.2.2.2.2.2.2.2⟩))))))
       · exact h)
    | (split at h; exact hX _ _ _ _ h; split at h; exact hX _ _ _ _ h; exact h)
    | (split at h; exact hX _ _ _ _ h; exact h)
end SWX
theorem sw_V_ext {l : Launch} {E : sw_E} {d own nL : Nat} {cc : ByteArray} {rt : Option FieldType} {kr : Option Value → sw_M → Prop} {kx : Nat → sw_M → Prop} {b pc : Nat} {ls ls' : List (Option Value)} {st : List Value} {σ : sw_M} (hV : sw_V l E d own cc nL rt kr kx b pc ls st σ) (hn : ∀ j, sw_nth ls j = sw_nth ls' j) : sw_V l E d own cc nL rt kr kx b pc ls' st σ := by
  refine hV (fun b pc ls st σ => ∀ ls', (∀ j, sw_nth ls j = sw_nth ls' j) → sw_V l E d own cc nL rt kr kx b pc ls' st σ) ?_ ls' hn
  intro b pc ls st σ hF ls' hn
  have hput : ∀ (a b : List (Option Value)), (∀ j, sw_nth a j = sw_nth b j) → ∀ k v j, sw_nth (sw_put a k v) j = sw_nth (sw_put b k v) j := by
    intro a b h k v j
    rw [sw_nth_put, sw_nth_put, h]
  refine sw_V_in ?_
  unfold sw_F at hF ⊢
  split at hF
  · refine cond_mo hF (fun h => ?_) id
    refine sw_step_ext sw_kc_mo sw_kcx_mo hn ?_ ?_ ?_ ?_ h
    · intro j hj
      match j, hj with
      | 0, _ => trivial
      | j + 1, hj => rw [wlS, ← hn]; exact hj
    · intro b pc st σ q; exact q ls' hn
    · intro k v b pc st σ q; exact q _ (hput _ _ hn k v)
    · intro k v k2 v2 b pc st σ q; exact q _ (hput _ _ (hput _ _ hn k v) k2 v2)
  · exact hF
theorem nth_ext1 (ls : List (Option Value)) : ∀ j, sw_nth (ls ++ [none]) j = sw_nth ls j := by
  induction ls with
  | nil => intro j; match j with
    | 0 => rfl
    | j + 1 => rfl
  | cons a l ih => intro j; match j with
    | 0 => rfl
    | j + 1 => exact ih j
