/-! The reference: needs laid, in the data's words; who can go. -/
noncomputable def msI : List Nat := [75, 92, 94, 95, 96, 97, 98, 99, 100, 101, 102, 103, 106, 107]
noncomputable def msF : List Nat := [0, 46, 52, 58, 63]
/-- the reference's scratch alone is changed -/
noncomputable def MF (σ τ : sw_M) : Prop := (∀ k, k ≠ 104 → τ.2 k = σ.2 k) ∧ (∀ k, k ∉ msI → τ.1 k = σ.1 k) ∧ ∀ j, j ∉ msF → τ.1 75 j = σ.1 75 j
theorem MF_rf (σ : sw_M) : MF σ σ := ⟨fun _ _ => rfl, fun _ _ => rfl, fun _ _ => rfl⟩
theorem MF_tr {σ τ υ : sw_M} (h : MF σ τ) (g : MF τ υ) : MF σ υ := ⟨fun k hk => (g.1 k hk).trans (h.1 k hk), fun k hk => (g.2.1 k hk).trans (h.2.1 k hk), fun j hj => (g.2.2 j hj).trans (h.2.2 j hj)⟩
theorem MF_Fr {ks : List Nat} {σ τ : sw_M} (h : Fr ks σ τ) (hk : ∀ k ∈ ks, k ∈ msI ∧ k ≠ 75) : MF σ τ := ⟨fun k _ => by rw [h.1], fun k q => h.2 k (fun e => q (hk k e).1), fun j _ => by rw [h.2 75 (fun e => (hk 75 e).2 rfl)]⟩
theorem MF_set {σ τ : sw_M} {k : Nat} {f : Nat → Int32} (h : MF σ τ) (hk : k ∈ msI) (h75 : k ≠ 75) : MF σ (sw_sI τ k f) := by
  refine ⟨h.1, fun i hi => ?_, fun j hj => ?_⟩
  · have : i ≠ k := fun e => hi (e ▸ hk)
    rw [wmI, if_neg this]; exact h.2.1 i hi
  · rw [wmI, if_neg (Ne.symm h75)]; exact h.2.2 j hj
theorem MF_fld {σ τ : sw_M} {j : Nat} {x : Int32} (h : MF σ τ) (hj : j ∈ msF) : MF σ (sw_sI τ 75 (upd (τ.1 75) j x)) := by
  refine ⟨h.1, fun i hi => ?_, fun i hi => ?_⟩
  · have : i ≠ 75 := fun e => hi (by rw [e]; decide)
    rw [wmI, if_neg this]; exact h.2.1 i hi
  · have : i ≠ j := fun e => hi (e ▸ hj)
    rw [sI_at, updN this]; exact h.2.2 i hi
theorem MF_setL {σ τ : sw_M} {f : Nat → Int64} (h : MF σ τ) : MF σ (sw_sL τ 104 f) := by
  refine ⟨fun k hk => ?_, h.2.1, h.2.2⟩
  rw [wmL, if_neg hk]; exact h.1 k hk
theorem MF_Mq {σ τ : sw_M} (h : Mq σ τ) : MF σ τ := ⟨fun k _ => by rw [h.1.1], fun k q => h.1.2 k (fun e => q (by revert e; simp only [List.mem_cons, List.not_mem_nil, or_false]; intro e; rcases e with rfl | rfl | rfl | rfl | rfl <;> decide)), fun j hj => h.2 j (fun e => hj (by rw [e]; decide))⟩
noncomputable def NL (τ : sw_M) (n : Nat) (D : Nat → Nat → Nat) (T K : Nat → Nat) : Prop := ∃ fn : Nat → Nat, fn 0 = 0 ∧ fn 4 ≤ 1020 ∧ τ.1 75 46 = nI (fn 4) ∧ (∀ t q, t < 4 → q < 8 → τ.1 96 (8 * t + q) = nI (D t q)) ∧ (∀ u, u < 5 → τ.1 99 u = nI (fn u)) ∧ ∀ u, u < 4 → fn u ≤ fn (u + 1) ∧ (∀ k, fn u ≤ k → k < fn (u + 1) → ∃ S, 0 < S ∧ inA D u S ∧ τ.1 97 k = nI (needF (D u) S) ∧ τ.1 98 k = nI (whoA n T K u S)) ∧ ∀ S, 0 < S → inA D u S → ∃ k, fn u ≤ k ∧ k < fn (u + 1) ∧ τ.1 97 k = nI (needF (D u) S) ∧ τ.1 98 k = nI (whoA n T K u S)
theorem NL_eq {σ τ : sw_M} {n : Nat} {D : Nat → Nat → Nat} {T K : Nat → Nat} (h : NL σ n D T K) (h0 : τ.1 75 46 = σ.1 75 46) (h6 : τ.1 96 = σ.1 96) (h7 : τ.1 97 = σ.1 97) (h8 : τ.1 98 = σ.1 98) (h9 : τ.1 99 = σ.1 99) : NL τ n D T K := by
  unfold NL at *
  rw [h0, h6, h7, h8, h9]
  exact h
theorem whoA_lt {n : Nat} (hn : n ≤ 12) (T K : Nat → Nat) (t S : Nat) : whoA n T K t S < 4096 := Nat.lt_of_lt_of_le (bs_lt _ n) (pw12 hn)
theorem fn_cut {fn : Nat → Nat} {k : Nat} (h0 : fn 0 = 0) (h : k < fn 4) : ∃ t, t < 4 ∧ fn t ≤ k ∧ k < fn (t + 1) := by
  rcases Nat.lt_or_ge k (fn 1) with c1 | c1
  · exact ⟨0, by decide, by omega, c1⟩
  · rcases Nat.lt_or_ge k (fn 2) with c2 | c2
    · exact ⟨1, by decide, c1, c2⟩
    · rcases Nat.lt_or_ge k (fn 3) with c3 | c3
      · exact ⟨2, by decide, c2, c3⟩
      · exact ⟨3, by decide, c3, h⟩
section
variable {σ : sw_M} {n : Nat} {D : Nat → Nat → Nat} {T K : Nat → Nat}
theorem NL_up {fn : Nat → Nat} (h : ∀ u, u < 4 → fn u ≤ fn (u + 1)) {u : Nat} (hu : u < 4) : fn (u + 1) ≤ fn 4 := by
  have h1 : fn 1 ≤ fn 2 := h 1 (by decide)
  have h2 : fn 2 ≤ fn 3 := h 2 (by decide)
  have h3 : fn 3 ≤ fn 4 := h 3 (by decide)
  rcases (show u = 0 ∨ u = 1 ∨ u = 2 ∨ u = 3 by omega) with rfl | rfl | rfl | rfl
  · show fn 1 ≤ fn 4; omega
  · show fn 2 ≤ fn 4; omega
  · show fn 3 ≤ fn 4; omega
  · exact Nat.le_refl _
theorem NL_Nk (h : NL σ n D T K) (hn : n ≤ 12) (hD : ∀ t q, t < 4 → q < 8 → D t q < 100) : ∃ N, Nk σ N ∧ ∀ b, doneM σ N b = doneA D n T K b := by
  obtain ⟨fn, f0, f4, e46, e96, e99, hE⟩ := h
  have hb : ∀ t S, t < 4 → needF (D t) S < 1000 := by
    intro t S ht
    have := needF_le (S := S) (b := 99) (fun q hq => Nat.le_of_lt_succ (hD t q ht hq))
    omega
  refine ⟨fn 4, ⟨e46, by omega, fun k hk => ?_⟩, fun b => ?_⟩
  · obtain ⟨t, t1, t2, t3⟩ := fn_cut f0 hk
    obtain ⟨S, s1, s2, s3, s4⟩ := (hE t t1).2.1 k t2 t3
    exact ⟨sm_of s3 (hb t S t1) (by decide), sm_of s4 (whoA_lt hn T K t S) (by decide)⟩
  · apply bool_ext
    unfold doneM doneA
    rw [allF_iff, bP_iff]
    constructor
    · intro h t ht S hS
      rcases Nat.eq_zero_or_pos S with e | e
      · subst e; rw [needF_0]; exact Nat.zero_le _
      · obtain ⟨k, k1, k2, k3, k4⟩ := (hE t ht).2.2 S e hS
        have h4 := h k (Nat.zero_le k) (by have := NL_up (fun u hu => (hE u hu).1) ht; omega)
        rw [decide_eq_true_iff, vN_of k3 (by have := hb t S ht; omega), vN_of k4 (by have := whoA_lt hn T K t S; omega)] at h4
        exact h4
    · intro h k _ hk
      rw [decide_eq_true_iff]
      obtain ⟨t, t1, t2, t3⟩ := fn_cut f0 (by omega : k < fn 4)
      obtain ⟨S, s1, s2, s3, s4⟩ := (hE t t1).2.1 k t2 t3
      rw [vN_of s3 (by have := hb t S t1; omega), vN_of s4 (by have := whoA_lt hn T K t S; omega)]
      exact h t t1 S s2
end
section
variable {l : Launch} {E : sw_E} {d : Nat} {σ : sw_M} {Q : Option Value → sw_M → Prop} {r : Nat} {L : LD} {S : SD}
theorem isDoneA_ok {D : Nat → Nat → Nat} {T K : Nat → Nat} {n b : Nat} (hMT : MT σ) (hN : NL σ n D T K) (hn : n ≤ 12) (hD : ∀ t q, t < 4 → q < 8 → D t q < 100) (hb : b < 4096) (hd : 0 < d) (h : Q (some (.int (b01 (doneA D n T K b)))) σ) : sw_Con l E d 225 [.ref 75, .int (nI b)] σ Q := by
  obtain ⟨N, n1, n2⟩ := NL_Nk hN hn hD
  refine isDoneM_ok hMT n1 hb hd ?_
  rw [n2 b]
  exact h
theorem ML_bound (hM : ML σ L) (hD : DOK L) : ∀ p, p < dPpl L → sm 4096 (σ.1 77 p) ∧ vN σ 77 p = dBnd L p := by
  intro p hp
  have h1 := (hM.2.2.2.2.1 p hp).2
  have h2 := (hD.2.2.2.2.1 p hp).2.1
  have := pw12 hD.1
  exact ⟨sm_of h1 (by omega) (by decide), vN_of h1 (by omega)⟩
theorem boundM_A (hM : ML σ L) (hD : DOK L) (X : Nat) : boundM σ (dPpl L) X = bndA L X := by
  unfold boundM bndA
  congr 1
  apply bool_ext
  rw [allF_iff, allF_iff]
  constructor
  · intro h j j1 j2
    have := h j j1 j2
    rw [(ML_bound hM hD j (by omega)).2] at this
    exact this
  · intro h j j1 j2
    rw [(ML_bound hM hD j (by omega)).2]
    exact h j j1 j2
theorem isFitA_ok {D : Nat → Nat → Nat} {T K : Nat → Nat} {X : Nat} (hMT : MT σ) (hN : NL σ (dPpl L) D T K) (hM : ML σ L) (hL : DOK L) (hD : ∀ t q, t < 4 → q < 8 → D t q < 100) (hX : X < 4096) (hd : 1 < d) (h : Q (some (.int (b01 (fitA L D T K X)))) σ) : sw_Con l E d 232 [.ref 75, .int (nI X)] σ Q := by
  obtain ⟨N, n1, n2⟩ := NL_Nk hN hL.1 hD
  refine isFitM_ok hMT n1 hL.1 hM.1 (fun p hp => (ML_bound hM hL p hp).1) hX hd ?_
  unfold fitM
  rw [n2, boundM_A hM hL]
  exact h
theorem isBoundA_ok {X : Nat} (hM : ML σ L) (hL : DOK L) (hX : X < 4096) (hd : 0 < d) (h : Q (some (.int (b01 (bndA L X)))) σ) : sw_Con l E d 233 [.ref 75, .int (nI X)] σ Q := by
  refine isBoundM_ok hL.1 hM.1 (fun p hp => (ML_bound hM hL p hp).1) hX hd ?_
  rw [boundM_A hM hL]
  exact h
theorem mostOfA_ok {D : Nat → Nat → Nat} {T K : Nat → Nat} (hMT : MT σ) (hN : NL σ (dPpl L) D T K) (hM : ML σ L) (hL : DOK L) (hD : ∀ t q, t < 4 → q < 8 → D t q < 100) (hd : 2 < d) (h : Q (some (.int (nI (mxM (fitA L D T K) (2 ^ dPpl L)) - 1))) σ) : sw_Con l E d 251 [.ref 75] σ Q := by
  obtain ⟨N, n1, n2⟩ := NL_Nk hN hL.1 hD
  refine mostOfM_ok hMT n1 hL.1 hM.1 (fun p hp => (ML_bound hM hL p hp).1) hd ?_
  have e : fitM σ N (dPpl L) = fitA L D T K := by
    funext X
    unfold fitM fitA
    rw [n2, boundM_A hM hL]
  rw [e]
  exact h
theorem demM_A (hM : ML σ L) (hD : DOK L) (m t q : Nat) : demM σ m (dWks L) t q = demA L m t q := by
  obtain ⟨-, -, -, -, -, m6, -⟩ := hM
  obtain ⟨-, -, -, -, -, d6, -⟩ := hD
  unfold demM demA
  refine sumU_congr _ (fun i hi => ?_)
  obtain ⟨b1, b2, b3, b4, b5⟩ := d6 i hi
  have v0 : vN σ 78 (5 * i) = dWk L i 0 := vN_of (m6 i 0 hi (by decide)) (by omega)
  have v1 : vN σ 78 (5 * i + 1) = dWk L i 1 := vN_of (m6 i 1 hi (by decide)) (by omega)
  have v2 : vN σ 78 (5 * i + 2) = dWk L i 2 := vN_of (m6 i 2 hi (by decide)) (by omega)
  have v3 : vN σ 78 (5 * i + 3) = dWk L i 3 := vN_of (m6 i 3 hi (by decide)) (by omega)
  have v4 : vN σ 78 (5 * i + 4) = dWk L i 4 := vN_of (m6 i 4 hi (by decide)) (by omega)
  unfold mIn pieA
  rw [v0, v1, v2, v3, v4]
theorem ML_Wk (hM : ML σ L) (hD : DOK L) : Wk σ (dWks L) := by
  obtain ⟨-, m2, -, -, -, m6, -⟩ := hM
  obtain ⟨-, d2, -, -, -, d6, -⟩ := hD
  refine ⟨m2, d2, fun i hi => ?_⟩
  obtain ⟨b1, b2, b3, b4, b5⟩ := d6 i hi
  exact ⟨sm_of (m6 i 0 hi (by decide)) b1 (by decide), sm_of (m6 i 1 hi (by decide)) b2 (by decide), sm_of (m6 i 2 hi (by decide)) b3 (by decide), sm_of (m6 i 3 hi (by decide)) b4 (by decide), sm_of (m6 i 4 hi (by decide)) b5 (by decide)⟩
theorem LyP_NL {τ : sw_M} {n : Nat} {D : Nat → Nat → Nat} {fn : Nat → Nat} (h : LyP σ r n D fn τ) (hM : MS σ r n S) (hS : SOK n S) : NL τ n D (sTwn S) (sSkl S) := by
  obtain ⟨⟨-, t2, t3, t4, t5, t6, t7⟩, t8⟩ := h
  have ew : ∀ t X, whoM σ r n t X = whoA n (sTwn S) (sSkl S) t X := by
    intro t X
    unfold whoM whoA
    refine bs_congr (fun p hp => ?_)
    obtain ⟨v1, v2, -⟩ := hM.2.2 p hp
    obtain ⟨b1, b2, -⟩ := hS.1 p hp
    rw [vN_of v1 (by omega), vN_of v2 (by omega)]
  refine ⟨fn, t4, by omega, t3, t2, fun u hu => ?_, fun u hu => ⟨(t7 u hu).1.1, fun k k1 k2 => ?_, fun X x1 x2 => ?_⟩⟩
  · rcases Nat.eq_or_lt_of_le (Nat.le_of_lt_succ hu) with e | e
    · rw [e]; exact t8
    · exact t6 u e
  · obtain ⟨X, x1, x2, x3, x4⟩ := (t7 u hu).1.2.1 k k1 k2
    exact ⟨X, x1, x3, x4.1, by rw [← ew]; exact x4.2⟩
  · have hlt : X < 256 := Nat.lt_of_le_of_lt (inA_le x2) (bs_lt _ 8)
    obtain ⟨k, k1, k2, k3⟩ := (t7 u hu).1.2.2 X x1 hlt x2
    exact ⟨k, k1, k2, k3.1, by rw [← ew]; exact k3.2⟩
/-- one more piece in a town, of a skill -/
noncomputable def moreX (o : Option (Nat × Nat)) (t q : Nat) : Nat := match o with
  | none => 0
  | some x => if t = x.1 ∧ q = x.2 then 1 else 0
noncomputable def moreD (D : Nat → Nat → Nat) (o : Option (Nat × Nat)) (t q : Nat) : Nat := D t q + moreX o t q
noncomputable def moreO (σ : sw_M) (o : Option (Nat × Nat)) : Prop := match o with
  | none => σ.1 75 51 = -1
  | some x => x.1 < 4 ∧ x.2 < 8 ∧ σ.1 75 51 = nI x.1 ∧ σ.1 75 52 = nI x.2
theorem moreD_none (D : Nat → Nat → Nat) : moreD D none = D := by funext t q; rfl
theorem laysA_ok {mo : Nat} {o : Option (Nat × Nat)} (hr : isRw r) (hM : ML σ L) (hD : DOK L) (hR : MS σ r (dPpl L) S) (hS : SOK (dPpl L) S) (ho : moreO σ o) (hmo : mo < 2 ^ 31) (hd : 1 < d) (h : ∀ τ, Mq σ τ → NL τ (dPpl L) (moreD (demA L (mo % 12)) o) (sTwn S) (sSkl S) → Q none τ) : sw_Con l E d 217 [.ref 75, .ref r, .int (nI mo)] σ Q := by
  have hRk : Rk σ r (dPpl L) := fun p hp => by
    obtain ⟨v1, v2, -⟩ := hR.2.2 p hp
    obtain ⟨b1, b2, -⟩ := hS.1 p hp
    exact ⟨sm_of v1 b1 (by decide), sm_of v2 b2 (by decide)⟩
  have hx : moreM σ (moreX o) := by
    unfold moreO at ho
    split at ho
    · exact Or.inl ⟨ho, fun _ _ => rfl⟩
    · rename_i x
      exact Or.inr ⟨x.1, x.2, ho.1, ho.2.1, ho.2.2.1, ho.2.2.2, fun _ _ => rfl⟩
  refine lays0_ok hr hD.1 hRk hM.1 (ML_Wk hM hD) hx hmo hd (fun fn τ hτ => ?_)
  have e : (fun t q => demM σ (mo % 12) (dWks L) t q + moreX o t q) = moreD (demA L (mo % 12)) o := by
    funext t q
    unfold moreD
    rw [demM_A hM hD]
  rw [e] at hτ
  exact h τ hτ.1.1 (LyP_NL hτ hR hS)
theorem sumU_pcn {s : Nat} : ∀ m, pcn m s = sumU m (fun i => if s.testBit i then 1 else 0)
  | 0 => rfl
  | m + 1 => by rw [pcn, sumU, sumU_pcn m]
theorem pc_bs {n : Nat} {P : Nat → Bool} (hn : n ≤ 12) : pc (bs n P) = sumU n (fun i => if P i then 1 else 0) := by
  unfold pc
  rw [sumU_pcn]
  have key : ∀ e, n + e ≤ 12 → sumU (n + e) (fun i => if (bs n P).testBit i then 1 else 0) = sumU n (fun i => if P i then 1 else 0) := by
    intro e
    induction e with
    | zero =>
      intro _
      refine sumU_congr _ (fun i hi => ?_)
      rw [bs_bit, decide_eq_true (show i < n by omega), Bool.true_and]
    | succ e ih =>
      intro h
      rw [show n + (e + 1) = (n + e) + 1 by omega, sumU, ih (by omega), bs_bit, decide_eq_false (by omega), Bool.false_and]
      rfl
  have := key (12 - n) (by omega)
  rw [show n + (12 - n) = 12 by omega] at this
  exact this
end
