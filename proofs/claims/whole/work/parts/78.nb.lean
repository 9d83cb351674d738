/-! The needs, bound: what fits, what is done. -/
noncomputable def NB (τ : sw_M) (n : Nat) (F G : Nat → Bool) : Prop := ∃ R f U, τ.1 55 5 = nI R ∧ R ≤ 280 ∧ τ.1 55 6 = nI f ∧ f ≤ R ∧ (∀ j, j < R → sm 4096 (τ.1 59 j)) ∧ (∀ S, S < 2 ^ n → allF 0 R (okR τ S) = F S) ∧ (∀ P, P < 2 ^ n → allF f (R - f) (okR τ (dif 4095 P)) = G P) ∧ (F 0 = true → τ.1 55 1 = nI U ∧ U ≤ 12 ∧ ∀ T, T < 2 ^ n → F T = true → pc T ≤ U)
theorem NB_eq {σ τ : sw_M} {n : Nat} {F G : Nat → Bool} (h : NB σ n F G) (h5 : τ.1 55 = σ.1 55) (h9 : τ.1 59 = σ.1 59) (h0 : τ.1 60 = σ.1 60) : NB τ n F G := by
  have e : ∀ S, okR τ S = okR σ S := by
    intro S
    funext j
    unfold okR vN
    rw [h9, h0]
  unfold NB at *
  rw [h5, h9]
  simp only [e]
  exact h
theorem NB_congr {σ : sw_M} {n : Nat} {F G F' G' : Nat → Bool} (h : NB σ n F G) (hF : ∀ S, S < 2 ^ n → F S = F' S) (hG : ∀ S, S < 2 ^ n → G S = G' S) : NB σ n F' G' := by
  obtain ⟨R, f, U, h1, h2, h3, h4, h5, h6, h7, h8⟩ := h
  refine ⟨R, f, U, h1, h2, h3, h4, h5, fun S hS => (h6 S hS).trans (hF S hS), fun P hP => (h7 P hP).trans (hG P hP), fun c => ?_⟩
  rw [← hF 0 (Nat.two_pow_pos n)] at c
  obtain ⟨a, b, e⟩ := h8 c
  exact ⟨a, b, fun T hT q => e T hT (by rw [hF T hT]; exact q)⟩
theorem allF_okA {τ : sw_M} {S f k : Nat} : allF f k (okR τ S) = true ↔ okA τ S f (f + k) := allF_iff _ k f
theorem okR_mono {τ : sw_M} {S T j : Nat} (h : ∀ i, S.testBit i = true → T.testBit i = true) (hT : okR τ T j = true) : okR τ S j = true := by
  unfold okR at *
  rw [decide_eq_true_iff] at *
  have h1 : pc (vN τ 59 j &&& S) ≤ pc (vN τ 59 j &&& T) := pc_mono (fun q hq => by
    rw [Nat.testBit_and, Bool.and_eq_true] at hq ⊢
    exact ⟨hq.1, h q hq.2⟩)
  have := pc_le (vN τ 59 j &&& T)
  exact Int32.le_trans (nI_le h1 (by omega)) hT
theorem dif_dif {P b : Nat} (hP : P < 4096) : dif P (dif 4095 b) = P &&& b := by
  apply bit_ext
  intro i
  rw [dif_bit, dif_bit, Nat.testBit_and]
  cases hb : P.testBit i with
  | false => simp
  | true =>
    have hi : i < 12 := bit_lt (n := 12) hP hb
    rw [(by decide +kernel : ∀ i, i < 12 → (4095 : Nat).testBit i = true) i hi]
    cases b.testBit i <;> simp
section
variable {l : Launch} {E : sw_E} {d : Nat} {σ : sw_M} {Q : Option Value → sw_M → Prop} {a s n : Nat} {L : LD} {S : SD}
theorem fitsB_ok {F G : Nat → Bool} {X : Nat} (h : NB σ n F G) (hX : X < 2 ^ n) (hd : 2 < d) (hq : Q (some (.int (b01 (F X)))) σ) : sw_Con l E d 34 [.ref 55, .int (nI X)] σ Q := by
  obtain ⟨R, f, U, h1, h2, h3, h4, h5, h6, h7, h8⟩ := h
  refine fits_ok h2 h1 h5 hd ?_
  rw [h6 X hX]
  exact hq
theorem doneB_ok {F G : Nat → Bool} {X : Nat} (h : NB σ n F G) (hX : X < 2 ^ n) (hd : 2 < d) (hq : Q (some (.int (b01 (G X)))) σ) : sw_Con l E d 61 [.ref 55, .int (nI X)] σ Q := by
  obtain ⟨R, f, U, h1, h2, h3, h4, h5, h6, h7, h8⟩ := h
  refine isDoneBy_ok h2 h1 h3 h4 h5 hd ?_
  rw [h7 X hX]
  exact hq
theorem mostB_ok {F G : Nat → Bool} (h : NB σ n F G) (hn : n ≤ 12) (hd : n + 5 ≤ d) (hq : Q (some (.int (nI (mxM F (2 ^ n)) - 1))) σ) : sw_Con l E d 54 [.ref 66, .ref 55, .int (nI n)] σ Q := by
  obtain ⟨R, f, U, h1, h2, h3, h4, h5, h6, h7, h8⟩ := h
  have h0 := h6 0 (Nat.two_pow_pos n)
  have hm : ∀ S T, (∀ i, S.testBit i = true → T.testBit i = true) → allF 0 R (okR σ T) = true → allF 0 R (okR σ S) = true := by
    intro S T hST hT
    rw [allF_iff] at *
    exact fun j j1 j2 => okR_mono hST (hT j j1 j2)
  by_cases c : F 0 = true
  · obtain ⟨u1, u2, u3⟩ := h8 c
    refine mostOf_ok h2 h1 (U := U) (fun _ => ⟨u1, u2⟩) h5 hn hd ?_
    rw [most_same (fitR := F) hn hm (fun T hT q => u3 T hT (by rw [← h6 T hT]; exact q)) (fun T hT => h6 T hT)]
    exact hq
  · refine mostOf_ok h2 h1 (U := 0) (fun q => absurd (by rw [← h0]; exact q) c) h5 hn hd ?_
    have e1 : mostG (fun T => allF 0 R (okR σ T)) 0 n = 0 := by
      unfold mostG
      rw [if_neg (by show ¬ allF 0 R (okR σ 0) = true; rw [h0]; exact c)]
    have e2 : mxM F (2 ^ n) = 0 := by
      rcases (mxM_ok F (2 ^ n)).2 with q | ⟨T, t1, t2, -⟩
      · exact q
      · exact absurd (by rw [← h0]; exact hm 0 T (fun i hi => by rw [Nat.zero_testBit] at hi; cases hi) (by rw [h6 T t1]; exact t2)) c
    rw [e1, ← e2]
    exact hq
/-- bound to a land, a state, those who are there -/
theorem bindB_ok {D : Nat → Nat → Nat} {P Pt : Nat} (ha : isL a) (hL : CL σ a L) (hD : DOK L) (hs : isS s) (hC : CS σ s (dPpl L) S) (hS : SOK (dPpl L) S) (hP : P < 2 ^ dPpl L) (hPt : σ.1 55 0 = nI Pt) (hPb : Pt < 1000) (hDb : ∀ t q, t < 4 → q < 8 → D t q < 1000) (hDd : ∀ t q, t < 4 → q < 8 → σ.1 56 (8 * t + q) = nI (D t q)) (hsum : Pt = sumU 8 (D 0) + sumU 8 (D 1) + sumU 8 (D 2) + sumU 8 (D 3)) (hd : 2 < d)
    (h : ∀ τ, Fr [55, 57, 58, 59, 60] σ τ → τ.1 55 0 = σ.1 55 0 → NB τ (dPpl L) (fitP L D (sTwn S) (sSkl S) P) (fun b => doneA D (dPpl L) (sTwn S) (sSkl S) (P &&& b)) → Q none τ) : sw_Con l E d 23 [.ref 55, .ref a, .ref s, .int (nI P)] σ Q := by
  obtain ⟨n1, n2, n3⟩ := CL_n hL hD
  have hn := hD.1
  have h12 := pw12 hn
  have hdo : ∀ t q, doers σ s (dPpl L) t q = bs (dPpl L) (fun p => sTwn S p == t && (sSkl S p).testBit q) := by
    intro t q
    unfold doers
    refine bs_congr (fun p hp => ?_)
    obtain ⟨v1, v2, -⟩ := CS_v hC hS hp
    show (tw σ s p == t && (sk σ s p).testBit q) = _
    rw [v1, v2]
  have hK : ∀ p, p < dPpl L → sSkl S p < 256 := fun p hp => (hS.1 p hp).2.1
  have c0 := cntD_sum (D 0) 8
  have c1 := cntD_sum (D 1) 8
  have c2 := cntD_sum (D 2) 8
  have c3 := cntD_sum (D 3) 8
  refine bind_ok (n := dPpl L) (D := D) (W := fun t q => doers σ s (dPpl L) t q &&& P) (P := P) (Pt := Pt) ha (CL_Lk hL hD) hs (CS_Sok hC hn hS) (by omega) hPt hPb hDb hDd (fun _ _ _ _ => rfl) (by omega) hd (fun τ R hB => ?_)
  rw [n1, n3] at hB
  obtain ⟨b1, b2, b3, b4, b5, b6, b7, b8, b9, b10⟩ := hB
  have hWW : ∀ t q, t < 4 → q < 8 → doers σ s (dPpl L) t q &&& P = bs (dPpl L) (fun p => sTwn S p == t && (sSkl S p).testBit q) &&& P := fun t q _ _ => by rw [hdo]
  have htd : ∀ X, (∀ t, t < 4 → tOk (D t) (fun q => doers σ s (dPpl L) t q &&& P) X) ↔ doneA D (dPpl L) (sTwn S) (sSkl S) (dif P X) = true := fun X => towns_done hK hWW
  have hts : ∀ X, (∀ t, t < 4 → tOk (D t) (fun q => doers σ s (dPpl L) t q &&& P) X) → Pt ≤ pc (dif P X) := by
    intro X hX
    refine towns_sum (W := fun t q => doers σ s (dPpl L) t q &&& P) (fun t q i _ _ hi => ?_) (fun t u q v i _ _ _ _ htu hi => ?_) hsum hX
    · rw [Nat.testBit_and, Bool.and_eq_true] at hi; exact hi.2
    · show (doers σ s (dPpl L) u v &&& P).testBit i = false
      rw [Nat.testBit_and, Bool.and_eq_true, hdo, bs_bit] at hi
      rw [Nat.testBit_and, hdo, bs_bit]
      simp only [Bool.and_eq_true, decide_eq_true_eq, beq_iff_eq] at hi
      have : ¬ sTwn S i = u := by rw [hi.1.2.1]; exact htu
      simp [this]
  have hpd : ∀ X, pc (dif P X) ≤ pc P := fun X => by have := pc_dif P X; omega
  have hbd : ∀ X, X < 2 ^ dPpl L → ((∀ j, j < dBds L → pc (vN σ (a + 9) j &&& X) ≤ 1) ↔ bndA L X = false) := by
    intro X hX
    rw [← hD.2.2.2.2.2.2.2.1 X hX]
    have e : ∀ j, j < dBds L → vN σ (a + 9) j = dPrs L j := fun j hj => vN_of (hL.2.2.2.2.2.2.1 j hj) (by have := hD.2.2.2.2.2.2.1 j hj; omega)
    constructor
    · intro q j hj; rw [← e j hj]; exact q j hj
    · intro q j hj; rw [e j hj]; exact q j hj
  have hev : 2 ^ dPpl L - 1 < 4096 := ev_lt hn
  have hF : ∀ X, X < 2 ^ dPpl L → (okA τ X 0 R ↔ fitP L D (sTwn S) (sSkl S) P X = true) := by
    intro X hX
    have hz : dif (2 ^ dPpl L - 1) P &&& X < 4096 := Nat.lt_of_le_of_lt Nat.and_le_right (by omega)
    rw [okA_split (Nat.zero_le _) b6, b9 X, b10 X, hbd X hX, htd X, pc_zero hz]
    unfold fitP
    simp only [Bool.and_eq_true, Bool.not_eq_true', decide_eq_true_eq]
    constructor
    · rintro ⟨⟨q1, q2⟩, q3, q4⟩
      exact ⟨⟨q4, q1⟩, q2⟩
    · rintro ⟨⟨q4, q1⟩, q2⟩
      exact ⟨⟨q1, q2⟩, Nat.le_trans (hts X ((htd X).mpr q4)) (hpd X), q4⟩
  refine h τ b1 b2 ⟨R, dBds L + 1, pc P - Pt, b4, b7, b5, b6, b8, fun X hX => ?_, fun X hX => ?_, fun c => ?_⟩
  · apply bool_ext
    rw [allF_okA, Nat.zero_add]
    exact hF X hX
  · apply bool_ext
    rw [allF_okA, Nat.add_sub_cancel' b6, b10, htd, dif_dif (by omega)]
    constructor
    · exact fun q => q.2
    · intro q
      refine ⟨Nat.le_trans (hts _ ((htd (dif 4095 X)).mpr ?_)) (hpd (dif 4095 X)), q⟩
      rw [dif_dif (by omega)]
      exact q
  · have hmost : ∀ X, X < 2 ^ dPpl L → fitP L D (sTwn S) (sSkl S) P X = true → Pt + pc X ≤ pc P := by
      intro X hX q
      unfold fitP at q
      simp only [Bool.and_eq_true, decide_eq_true_eq] at q
      have h1 := hts X ((htd X).mpr q.1.1)
      have h2 := pc_dif P X
      have h3 : P &&& X = X := by
        apply bit_ext
        intro i
        rw [Nat.testBit_and]
        constructor
        · intro z; rw [Bool.and_eq_true] at z; exact z.2
        · intro z
          rw [z, Bool.and_true]
          cases hb : P.testBit i with
          | true => rfl
          | false =>
            have hi := bit_lt hX z
            have : (dif (2 ^ dPpl L - 1) P &&& X).testBit i = true := by
              rw [Nat.testBit_and, dif_bit, ev_bit, hb, z]
              simp [hi]
            rw [q.2, Nat.zero_testBit] at this
            cases this
      rw [h3] at h2
      omega
    have hPtP := hmost 0 (Nat.two_pow_pos _) c
    have := pc_le P
    refine ⟨by rw [b3, pk_sub (by omega)], by omega, fun X hX q => ?_⟩
    have := hmost X hX q
    omega
theorem ev_andL {n x : Nat} (h : x < 2 ^ n) : (2 ^ n - 1) &&& x = x := by
  apply bit_ext
  intro i
  rw [Nat.testBit_and, ev_bit, Bool.and_eq_true, decide_eq_true_eq]
  exact ⟨fun q => q.2, fun q => ⟨bit_lt h q, q⟩⟩
theorem fitP_ev {D : Nat → Nat → Nat} {T K : Nat → Nat} (X : Nat) : fitP L D T K (2 ^ dPpl L - 1) X = fitA L D T K X := by
  have e : dif (2 ^ dPpl L - 1) (2 ^ dPpl L - 1) &&& X = 0 := by
    apply bit_ext
    intro i
    rw [Nat.testBit_and, dif_bit, Nat.zero_testBit]
    simp
  unfold fitP fitA
  rw [e]
  simp
/-- needs bound to a month m of the year, all being there -/
noncomputable def NM (τ : sw_M) (L : LD) (T K : Nat → Nat) (m : Nat) : Prop := NB τ (dPpl L) (fitA L (demA L m) T K) (doneA (demA L m) (dPpl L) T K)
theorem NM_eq {σ τ : sw_M} {T K : Nat → Nat} {m : Nat} (h : NM σ L T K m) (h5 : τ.1 55 = σ.1 55) (h9 : τ.1 59 = σ.1 59) (h0 : τ.1 60 = σ.1 60) : NM τ L T K m := NB_eq h h5 h9 h0
theorem bindMonth_ok {m : Nat} (ha : isL a) (e0 : σ.1 0 1 = nI a) (hL : CL σ a L) (hD : DOK L) (hs : isS s) (hC : CS σ s (dPpl L) S) (hS : SOK (dPpl L) S) (hm : m < 12) (hd : 4 < d)
    (h : ∀ τ, Fr [55, 56, 57, 58, 59, 60] σ τ → NM τ L (sTwn S) (sSkl S) m → τ.1 55 0 = nI (pcsA L m) → (∀ t q, t < 4 → q < 8 → τ.1 56 (8 * t + q) = nI (demA L m t q)) → Q none τ) : sw_Con l E d 18 [.ref 0, .ref s, .int (nI m)] σ Q := by
  obtain ⟨d, rfl⟩ := d_pos (by omega : 0 < d)
  refine con_X10_bindMonth ?_
  have ha' := ha
  have hn := hD.1
  have hk : ∀ τ, Fr [55, 56] σ τ → Leq a σ τ := fun τ hF => Leq_Fr ha' hF (by decide)
  have hs4 : ∀ (k : Nat) (τ : sw_M), Fr [55, 56] σ τ → k < 4 → τ.1 (s + k) = σ.1 (s + k) := by
    intro k τ hF hk
    refine hF.2 _ ?_
    rcases hs with rfl | rfl | rfl <;> simp <;> omega
  rcases ha with rfl | rfl
  all_goals
    simp (maxSteps := 4000000) (disch := omega) only [wI, wL, wR, w1i, w1r, woI, woL, woR, wn0, wnS, wp00, wp0S, wp0, wpS, wl0, wlS, w1I, w1R, w1N, wA0, wAS, wrv, true_and, and_true, List.length_cons, List.length_nil, Option.toList_some, Option.toList_none, List.cons_append, List.nil_append, wmI, wmI2, wmL, wmL1, Nat.reduceAdd, Nat.reduceSub, Nat.reduceMul, Nat.reduceLeDiff, Nat.reduceLT, Nat.reduceEqDiff, reduceIte, Nat.zero_le, nI_leI, nI_ltI, nI_eq, nI_clamp, vp_in_nI, nI_1, bz_and, bz_or, bz_andn, kd_0, kd_1, kd_2, kd_3, kd_4, kd_5, kd_6, kd_7, kd_8, kd_9, kd_10, kd_11, kd_12, kd_13, kd_14, kd_15, kd_16, kd_17, kd_18, kd_19, kd_20, kd_21, kd_22, kd_23, kd_24, kd_25, kd_26, kd_27, kd_28, kd_29, kd_30, kd_31, kd_32, kd_33, kd_34, kd_35, kd_36, kd_37, kd_38, kd_39, kd_40, kd_41, kd_42, kd_43, kd_44, kd_45, kd_46, kd_47, kd_48, kd_49, kd_50, kd_51, kd_52, kd_53, kd_54, kd_55, kd_56, kd_57, kd_58, kd_59, kd_60, kd_61, kd_62, kd_63, kd_64, kd_65, kd_66, kd_67, kd_68, kd_69, kd_70, kd_71, kd_72, kd_73, kd_74, kd_75, kd_76, kd_77, kd_78, kd_79, kd_80, kd_81, kd_82, kd_83, kd_84, kd_85, kd_86, kd_87, kd_88, kd_89, kd_90, kd_91, kd_92, kd_93, kd_94, kd_95, kd_96, kd_97, kd_98, kd_99, kd_100, kd_101, kd_102, kd_103, kd_104, kd_105, kd_106, kd_107, kd_108, kd_109, kd_110, kd_111, kdf_3, kdf_5, kdf_6, kdf_7, kdf_8, kdf_9, kdf_10, kdf_11, kdf_12, kdf_13, kdf_15, kdf_17, kdf_18, kdf_19, kdf_20, kdf_21, kdf_22, kdf_23, kdf_24, kdf_25, kdf_27, kdf_29, kdf_30, kdf_31, kdf_32, kdf_33, kdf_34, kdf_35, kdf_36, kdf_38, kdf_39, kdf_40, kdf_41, kdf_42, kdf_43, kdf_44, kdf_45, kdf_47, kdf_48, kdf_49, kdf_50, kdf_51, kdf_52, kdf_53, kdf_54, kdf_56, kdf_57, kdf_58, kdf_59, kdf_60, kdf_62, kdf_63, kdf_64, kdf_65, kdf_67, kdf_68, kdf_70, kdf_72, kdf_73, kdf_74, kdf_76, kdf_77, kdf_78, kdf_79, kdf_80, kdf_81, kdf_82, kdf_83, kdf_84, kdf_85, kdf_86, kdf_87, kdf_88, kdf_89, kdf_90, kdf_91, kdf_92, kdf_93, kdf_94, kdf_95, kdf_96, kdf_97, kdf_98, kdf_99, kdf_100, kdf_101, kdf_102, kdf_103, kdf_104, kdf_105, kdf_106, kdf_107, kdf_108, kdf_109, kdf_110, kdf_111, kds_3, kds_5, kds_6, kds_7, kds_8, kds_9, kds_10, kds_11, kds_12, kds_13, kds_15, kds_17, kds_18, kds_19, kds_20, kds_21, kds_22, kds_23, kds_24, kds_25, kds_27, kds_29, kds_30, kds_31, kds_32, kds_33, kds_34, kds_35, kds_36, kds_38, kds_39, kds_40, kds_41, kds_42, kds_43, kds_44, kds_45, kds_47, kds_48, kds_49, kds_50, kds_51, kds_52, kds_53, kds_54, kds_56, kds_57, kds_58, kds_59, kds_60, kds_62, kds_63, kds_64, kds_65, kds_67, kds_68, kds_70, kds_72, kds_73, kds_74, kds_76, kds_77, kds_78, kds_79, kds_80, kds_81, kds_82, kds_83, kds_84, kds_85, kds_86, kds_87, kds_88, kds_89, kds_90, kds_91, kds_92, kds_93, kds_94, kds_95, kds_96, kds_97, kds_98, kds_99, kds_100, kds_101, kds_102, kds_103, kds_104, kds_105, kds_106, kds_107, kds_108, kds_109, kds_110, kds_111, vX10_bindMonth_0, vX10_bindMonth_1, vX10_bindMonth_4, vX10_bindMonth_5, vX10_bindMonth_8, vX10_bindMonth_9, vX10_bindMonth_12, vX10_bindMonth_13, vX10_bindMonth_16, vX10_bindMonth_17, vX10_bindMonth_20, vX10_bindMonth_21, vX10_bindMonth_22, vX10_bindMonth_25, vX10_bindMonth_28, vX10_bindMonth_31, mo_19, mo_22, mo_23, e0]
    refine gather_ok ha' (CL_Lk hL hD) hm (by omega) (fun τ hG => ?_)
    obtain ⟨g1, g2, g3, g4⟩ := hG
    have hLτ := CL_eq hL (hk τ g1)
    have hCτ := CS_eq hC (hs4 0 τ g1 (by decide)) (hs4 1 τ g1 (by decide)) (hs4 2 τ g1 (by decide)) (hs4 3 τ g1 (by decide))
    have e0' : τ.1 0 1 = nI _ := (congrFun (g1.2 0 (by decide)) 1).trans e0
    simp (maxSteps := 4000000) (disch := omega) only [wI, wL, wR, w1i, w1r, woI, woL, woR, wn0, wnS, wp00, wp0S, wp0, wpS, wl0, wlS, w1I, w1R, w1N, wA0, wAS, wrv, true_and, and_true, List.length_cons, List.length_nil, Option.toList_some, Option.toList_none, List.cons_append, List.nil_append, wmI, wmI2, wmL, wmL1, Nat.reduceAdd, Nat.reduceSub, Nat.reduceMul, Nat.reduceLeDiff, Nat.reduceLT, Nat.reduceEqDiff, reduceIte, Nat.zero_le, nI_leI, nI_ltI, nI_eq, nI_clamp, vp_in_nI, nI_1, bz_and, bz_or, bz_andn, kd_0, kd_1, kd_2, kd_3, kd_4, kd_5, kd_6, kd_7, kd_8, kd_9, kd_10, kd_11, kd_12, kd_13, kd_14, kd_15, kd_16, kd_17, kd_18, kd_19, kd_20, kd_21, kd_22, kd_23, kd_24, kd_25, kd_26, kd_27, kd_28, kd_29, kd_30, kd_31, kd_32, kd_33, kd_34, kd_35, kd_36, kd_37, kd_38, kd_39, kd_40, kd_41, kd_42, kd_43, kd_44, kd_45, kd_46, kd_47, kd_48, kd_49, kd_50, kd_51, kd_52, kd_53, kd_54, kd_55, kd_56, kd_57, kd_58, kd_59, kd_60, kd_61, kd_62, kd_63, kd_64, kd_65, kd_66, kd_67, kd_68, kd_69, kd_70, kd_71, kd_72, kd_73, kd_74, kd_75, kd_76, kd_77, kd_78, kd_79, kd_80, kd_81, kd_82, kd_83, kd_84, kd_85, kd_86, kd_87, kd_88, kd_89, kd_90, kd_91, kd_92, kd_93, kd_94, kd_95, kd_96, kd_97, kd_98, kd_99, kd_100, kd_101, kd_102, kd_103, kd_104, kd_105, kd_106, kd_107, kd_108, kd_109, kd_110, kd_111, kdf_3, kdf_5, kdf_6, kdf_7, kdf_8, kdf_9, kdf_10, kdf_11, kdf_12, kdf_13, kdf_15, kdf_17, kdf_18, kdf_19, kdf_20, kdf_21, kdf_22, kdf_23, kdf_24, kdf_25, kdf_27, kdf_29, kdf_30, kdf_31, kdf_32, kdf_33, kdf_34, kdf_35, kdf_36, kdf_38, kdf_39, kdf_40, kdf_41, kdf_42, kdf_43, kdf_44, kdf_45, kdf_47, kdf_48, kdf_49, kdf_50, kdf_51, kdf_52, kdf_53, kdf_54, kdf_56, kdf_57, kdf_58, kdf_59, kdf_60, kdf_62, kdf_63, kdf_64, kdf_65, kdf_67, kdf_68, kdf_70, kdf_72, kdf_73, kdf_74, kdf_76, kdf_77, kdf_78, kdf_79, kdf_80, kdf_81, kdf_82, kdf_83, kdf_84, kdf_85, kdf_86, kdf_87, kdf_88, kdf_89, kdf_90, kdf_91, kdf_92, kdf_93, kdf_94, kdf_95, kdf_96, kdf_97, kdf_98, kdf_99, kdf_100, kdf_101, kdf_102, kdf_103, kdf_104, kdf_105, kdf_106, kdf_107, kdf_108, kdf_109, kdf_110, kdf_111, kds_3, kds_5, kds_6, kds_7, kds_8, kds_9, kds_10, kds_11, kds_12, kds_13, kds_15, kds_17, kds_18, kds_19, kds_20, kds_21, kds_22, kds_23, kds_24, kds_25, kds_27, kds_29, kds_30, kds_31, kds_32, kds_33, kds_34, kds_35, kds_36, kds_38, kds_39, kds_40, kds_41, kds_42, kds_43, kds_44, kds_45, kds_47, kds_48, kds_49, kds_50, kds_51, kds_52, kds_53, kds_54, kds_56, kds_57, kds_58, kds_59, kds_60, kds_62, kds_63, kds_64, kds_65, kds_67, kds_68, kds_70, kds_72, kds_73, kds_74, kds_76, kds_77, kds_78, kds_79, kds_80, kds_81, kds_82, kds_83, kds_84, kds_85, kds_86, kds_87, kds_88, kds_89, kds_90, kds_91, kds_92, kds_93, kds_94, kds_95, kds_96, kds_97, kds_98, kds_99, kds_100, kds_101, kds_102, kds_103, kds_104, kds_105, kds_106, kds_107, kds_108, kds_109, kds_110, kds_111, vX10_bindMonth_0, vX10_bindMonth_1, vX10_bindMonth_4, vX10_bindMonth_5, vX10_bindMonth_8, vX10_bindMonth_9, vX10_bindMonth_12, vX10_bindMonth_13, vX10_bindMonth_16, vX10_bindMonth_17, vX10_bindMonth_20, vX10_bindMonth_21, vX10_bindMonth_22, vX10_bindMonth_25, vX10_bindMonth_28, vX10_bindMonth_31, mo_19, mo_22, mo_23, e0']
    refine everybody_ok ha' (CL_Lk hLτ hD).1 (by omega) ?_
    rw [(CL_n hLτ hD).1]
    simp (maxSteps := 4000000) (disch := omega) only [wI, wL, wR, w1i, w1r, woI, woL, woR, wn0, wnS, wp00, wp0S, wp0, wpS, wl0, wlS, w1I, w1R, w1N, wA0, wAS, wrv, true_and, and_true, List.length_cons, List.length_nil, Option.toList_some, Option.toList_none, List.cons_append, List.nil_append, wmI, wmI2, wmL, wmL1, Nat.reduceAdd, Nat.reduceSub, Nat.reduceMul, Nat.reduceLeDiff, Nat.reduceLT, Nat.reduceEqDiff, reduceIte, Nat.zero_le, nI_leI, nI_ltI, nI_eq, nI_clamp, vp_in_nI, nI_1, bz_and, bz_or, bz_andn, kd_0, kd_1, kd_2, kd_3, kd_4, kd_5, kd_6, kd_7, kd_8, kd_9, kd_10, kd_11, kd_12, kd_13, kd_14, kd_15, kd_16, kd_17, kd_18, kd_19, kd_20, kd_21, kd_22, kd_23, kd_24, kd_25, kd_26, kd_27, kd_28, kd_29, kd_30, kd_31, kd_32, kd_33, kd_34, kd_35, kd_36, kd_37, kd_38, kd_39, kd_40, kd_41, kd_42, kd_43, kd_44, kd_45, kd_46, kd_47, kd_48, kd_49, kd_50, kd_51, kd_52, kd_53, kd_54, kd_55, kd_56, kd_57, kd_58, kd_59, kd_60, kd_61, kd_62, kd_63, kd_64, kd_65, kd_66, kd_67, kd_68, kd_69, kd_70, kd_71, kd_72, kd_73, kd_74, kd_75, kd_76, kd_77, kd_78, kd_79, kd_80, kd_81, kd_82, kd_83, kd_84, kd_85, kd_86, kd_87, kd_88, kd_89, kd_90, kd_91, kd_92, kd_93, kd_94, kd_95, kd_96, kd_97, kd_98, kd_99, kd_100, kd_101, kd_102, kd_103, kd_104, kd_105, kd_106, kd_107, kd_108, kd_109, kd_110, kd_111, kdf_3, kdf_5, kdf_6, kdf_7, kdf_8, kdf_9, kdf_10, kdf_11, kdf_12, kdf_13, kdf_15, kdf_17, kdf_18, kdf_19, kdf_20, kdf_21, kdf_22, kdf_23, kdf_24, kdf_25, kdf_27, kdf_29, kdf_30, kdf_31, kdf_32, kdf_33, kdf_34, kdf_35, kdf_36, kdf_38, kdf_39, kdf_40, kdf_41, kdf_42, kdf_43, kdf_44, kdf_45, kdf_47, kdf_48, kdf_49, kdf_50, kdf_51, kdf_52, kdf_53, kdf_54, kdf_56, kdf_57, kdf_58, kdf_59, kdf_60, kdf_62, kdf_63, kdf_64, kdf_65, kdf_67, kdf_68, kdf_70, kdf_72, kdf_73, kdf_74, kdf_76, kdf_77, kdf_78, kdf_79, kdf_80, kdf_81, kdf_82, kdf_83, kdf_84, kdf_85, kdf_86, kdf_87, kdf_88, kdf_89, kdf_90, kdf_91, kdf_92, kdf_93, kdf_94, kdf_95, kdf_96, kdf_97, kdf_98, kdf_99, kdf_100, kdf_101, kdf_102, kdf_103, kdf_104, kdf_105, kdf_106, kdf_107, kdf_108, kdf_109, kdf_110, kdf_111, kds_3, kds_5, kds_6, kds_7, kds_8, kds_9, kds_10, kds_11, kds_12, kds_13, kds_15, kds_17, kds_18, kds_19, kds_20, kds_21, kds_22, kds_23, kds_24, kds_25, kds_27, kds_29, kds_30, kds_31, kds_32, kds_33, kds_34, kds_35, kds_36, kds_38, kds_39, kds_40, kds_41, kds_42, kds_43, kds_44, kds_45, kds_47, kds_48, kds_49, kds_50, kds_51, kds_52, kds_53, kds_54, kds_56, kds_57, kds_58, kds_59, kds_60, kds_62, kds_63, kds_64, kds_65, kds_67, kds_68, kds_70, kds_72, kds_73, kds_74, kds_76, kds_77, kds_78, kds_79, kds_80, kds_81, kds_82, kds_83, kds_84, kds_85, kds_86, kds_87, kds_88, kds_89, kds_90, kds_91, kds_92, kds_93, kds_94, kds_95, kds_96, kds_97, kds_98, kds_99, kds_100, kds_101, kds_102, kds_103, kds_104, kds_105, kds_106, kds_107, kds_108, kds_109, kds_110, kds_111, vX10_bindMonth_0, vX10_bindMonth_1, vX10_bindMonth_4, vX10_bindMonth_5, vX10_bindMonth_8, vX10_bindMonth_9, vX10_bindMonth_12, vX10_bindMonth_13, vX10_bindMonth_16, vX10_bindMonth_17, vX10_bindMonth_20, vX10_bindMonth_21, vX10_bindMonth_22, vX10_bindMonth_25, vX10_bindMonth_28, vX10_bindMonth_31, mo_19, mo_22, mo_23, e0']
    rw [CL_pieces hL hD] at g3
    refine bindB_ok (D := demA L m) (Pt := pcsA L m) (S := S) ha' hLτ hD hs hCτ hS (by have := Nat.two_pow_pos (dPpl L); omega) g3 (by have := pcsA_le hD m; omega) (fun t q _ _ => by have := demA_le hD m t q; omega) (fun t q ht hq => by rw [g4 t q ht hq, CL_dem hL hD]) (pcs_sum hD m) (by omega) (fun υ u1 u2 u3 => ?_)
    simp (maxSteps := 4000000) (disch := omega) only [wI, wL, wR, w1i, w1r, woI, woL, woR, wn0, wnS, wp00, wp0S, wp0, wpS, wl0, wlS, w1I, w1R, w1N, wA0, wAS, wrv, true_and, and_true, List.length_cons, List.length_nil, Option.toList_some, Option.toList_none, List.cons_append, List.nil_append, wmI, wmI2, wmL, wmL1, Nat.reduceAdd, Nat.reduceSub, Nat.reduceMul, Nat.reduceLeDiff, Nat.reduceLT, Nat.reduceEqDiff, reduceIte, Nat.zero_le, nI_leI, nI_ltI, nI_eq, nI_clamp, vp_in_nI, nI_1, bz_and, bz_or, bz_andn, kd_0, kd_1, kd_2, kd_3, kd_4, kd_5, kd_6, kd_7, kd_8, kd_9, kd_10, kd_11, kd_12, kd_13, kd_14, kd_15, kd_16, kd_17, kd_18, kd_19, kd_20, kd_21, kd_22, kd_23, kd_24, kd_25, kd_26, kd_27, kd_28, kd_29, kd_30, kd_31, kd_32, kd_33, kd_34, kd_35, kd_36, kd_37, kd_38, kd_39, kd_40, kd_41, kd_42, kd_43, kd_44, kd_45, kd_46, kd_47, kd_48, kd_49, kd_50, kd_51, kd_52, kd_53, kd_54, kd_55, kd_56, kd_57, kd_58, kd_59, kd_60, kd_61, kd_62, kd_63, kd_64, kd_65, kd_66, kd_67, kd_68, kd_69, kd_70, kd_71, kd_72, kd_73, kd_74, kd_75, kd_76, kd_77, kd_78, kd_79, kd_80, kd_81, kd_82, kd_83, kd_84, kd_85, kd_86, kd_87, kd_88, kd_89, kd_90, kd_91, kd_92, kd_93, kd_94, kd_95, kd_96, kd_97, kd_98, kd_99, kd_100, kd_101, kd_102, kd_103, kd_104, kd_105, kd_106, kd_107, kd_108, kd_109, kd_110, kd_111, kdf_3, kdf_5, kdf_6, kdf_7, kdf_8, kdf_9, kdf_10, kdf_11, kdf_12, kdf_13, kdf_15, kdf_17, kdf_18, kdf_19, kdf_20, kdf_21, kdf_22, kdf_23, kdf_24, kdf_25, kdf_27, kdf_29, kdf_30, kdf_31, kdf_32, kdf_33, kdf_34, kdf_35, kdf_36, kdf_38, kdf_39, kdf_40, kdf_41, kdf_42, kdf_43, kdf_44, kdf_45, kdf_47, kdf_48, kdf_49, kdf_50, kdf_51, kdf_52, kdf_53, kdf_54, kdf_56, kdf_57, kdf_58, kdf_59, kdf_60, kdf_62, kdf_63, kdf_64, kdf_65, kdf_67, kdf_68, kdf_70, kdf_72, kdf_73, kdf_74, kdf_76, kdf_77, kdf_78, kdf_79, kdf_80, kdf_81, kdf_82, kdf_83, kdf_84, kdf_85, kdf_86, kdf_87, kdf_88, kdf_89, kdf_90, kdf_91, kdf_92, kdf_93, kdf_94, kdf_95, kdf_96, kdf_97, kdf_98, kdf_99, kdf_100, kdf_101, kdf_102, kdf_103, kdf_104, kdf_105, kdf_106, kdf_107, kdf_108, kdf_109, kdf_110, kdf_111, kds_3, kds_5, kds_6, kds_7, kds_8, kds_9, kds_10, kds_11, kds_12, kds_13, kds_15, kds_17, kds_18, kds_19, kds_20, kds_21, kds_22, kds_23, kds_24, kds_25, kds_27, kds_29, kds_30, kds_31, kds_32, kds_33, kds_34, kds_35, kds_36, kds_38, kds_39, kds_40, kds_41, kds_42, kds_43, kds_44, kds_45, kds_47, kds_48, kds_49, kds_50, kds_51, kds_52, kds_53, kds_54, kds_56, kds_57, kds_58, kds_59, kds_60, kds_62, kds_63, kds_64, kds_65, kds_67, kds_68, kds_70, kds_72, kds_73, kds_74, kds_76, kds_77, kds_78, kds_79, kds_80, kds_81, kds_82, kds_83, kds_84, kds_85, kds_86, kds_87, kds_88, kds_89, kds_90, kds_91, kds_92, kds_93, kds_94, kds_95, kds_96, kds_97, kds_98, kds_99, kds_100, kds_101, kds_102, kds_103, kds_104, kds_105, kds_106, kds_107, kds_108, kds_109, kds_110, kds_111, vX10_bindMonth_0, vX10_bindMonth_1, vX10_bindMonth_4, vX10_bindMonth_5, vX10_bindMonth_8, vX10_bindMonth_9, vX10_bindMonth_12, vX10_bindMonth_13, vX10_bindMonth_16, vX10_bindMonth_17, vX10_bindMonth_20, vX10_bindMonth_21, vX10_bindMonth_22, vX10_bindMonth_25, vX10_bindMonth_28, vX10_bindMonth_31, mo_19, mo_22, mo_23]
    refine h υ (Fr_tr (Fr_mono g1 (by decide)) (Fr_mono u1 (by decide))) (NB_congr u3 (fun X _ => fitP_ev X) (fun X hX => by rw [ev_andL hX])) (u2.trans g3) (fun t q ht hq => ?_)
    rw [u1.2 56 (by decide), g4 t q ht hq, CL_dem hL hD]
end
