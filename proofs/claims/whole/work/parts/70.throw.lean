/-! Contracts of methods that may throw. -/
/-- WHAT IS STILL WANTING: 'throw new X(text)' from pc on, in a method without a table -/
def sw_TL (l : Launch) : Prop := ∀ (E : sw_E) (own nL : Nat) (cc : ByteArray) (p : Program) (e : Env) (R : Room) (s : State) (m : MethodId) (args : Array Value) (below : List Frame) (meth : Method) (c : Code) (A : Nat → Prop) (H : Heap) (locs : List Loc) (la : Array Slot) (rest : List Value) (k n mc ms pc ik x : Nat) (Qc : Array Value → State → Outcome → State → Prop) (XC : String → State → State → Prop),
  sw_C E own cc nL p s m args c A → (∀ z ∈ c.exceptionTable.toList, False) → meth.locks = false → va_S A s.heap H locs → la.size = nL → decode cc pc = .ok (.new ik, 3) → sw_xl own ik = some x → sw_thr own cc x pc →
  6 ≤ R.frames → 300 ≤ R.locals → (rest.map fun v => v.category).sum ≤ 8 → k + 1 ≤ R.cells → n + 6 ≤ R.slots → k + 1 ≤ mc → n + 6 ≤ ms →
  (∀ t : State, s.vm.Alike t.vm → H.size ≤ t.heap.size → (∀ q : Nat, q < H.size → t.heap[q]? = H[q]?) → XC (sw_xn x) s t) →
  W p l e R s m args below meth c H locs k n (vx_MQ below Qc XC args s mc ms A) (F0 m pc la rest)
theorem sw_P_up {E : sw_E} {σ : sw_M} {H H1 : Heap} (h : va_P E.1 vwCl (sw_W E σ) H) (hk : ∀ q : Nat, q < H.size → H1[q]? = H[q]?) : va_P E.1 vwCl (sw_W E σ) H1 := h.kept (fun k q hq => hk q.1 (h k q hq).lt)
theorem sw_F_up {A : Nat → Prop} {s t : State} {H : Heap} {locs : List Loc} (hS : va_S A s.heap H locs) (h1 : H.size ≤ t.heap.size) (h2 : ∀ q : Nat, q < H.size → t.heap[q]? = H[q]?) : va_F A s t := by
  refine ⟨Nat.le_trans hS.1 h1, fun q hq hA => ?_⟩
  rw [h2 q (Nat.lt_of_lt_of_le hq hS.1)]
  exact hS.2.1 q hq hA
section SWX
variable {l : Launch} {E : sw_E} {d B own nL : Nat} {cc : ByteArray} {rt : Option FieldType} {kr : Option Value → sw_M → Prop} {kx : Nat → sw_M → Prop} {p : Program} {e : Env} {R : Room} {s : State} {m : MethodId} {args : Array Value} {below : List Frame} {meth : Method} {c : Code} {A : Nat → Prop} {F : State → Prop} {k n : Nat} {pc : Nat} {ls : List (Option Value)} {st : List Value} {σ : sw_M}
theorem sw_callX (C : sw_C E own cc nL p s m args c A) (hno : ∀ z ∈ c.exceptionTable.toList, False) (hlocks : meth.locks = false) {H : Heap} {locs : List Loc} {la : Array Slot} {st0 rest : List Value} {a : Array Value} {Q : Option Value → sw_M → Prop} {QX : Nat → sw_M → Prop} {mc ms : Nat} (hr : vx_Run p l e R s m args below meth c H locs k n 1 6 (F0 m pc la st0) rest (sw_Q E (sw_A E H.size) Q a) (sw_XC E (sw_A E H.size) QX) (sw_A E H.size)) (hS : va_S A s.heap H locs) (hQX : ∀ x σ', QX x σ' → kx x σ') (hk : k + 1 ≤ mc) (hn : n + 6 ≤ ms)
    (kk : ∀ (v : Option Value) (σ' : sw_M) (H1 : Heap) (locs1 : List Loc), Q v σ' → va_P E.1 vwCl (sw_W E σ') H1 → va_D A (sw_W E σ') → va_S A s.heap H1 locs1 → W p l e R s m args below meth c H1 locs1 (k + 1) (n + 6) (vx_MQ below (sw_Q E A kr) (sw_XC E A kx) args s mc ms A) (F0 m (pc + 3) la ((v.map (sw_c E)).toList ++ rest))) : W p l e R s m args below meth c H locs k n (vx_MQ below (sw_Q E A kr) (sw_XC E A kx) args s mc ms A) (F0 m pc la st0) := by
  have hAle := sw_A_le C hS
  intro T hT X
  have up : ∀ {st₀ t T' : State} {L : List Loc}, st₀.heap = H → T'.heap = t.heap → (∀ z ∈ L, sw_A E H.size z.base) → va_F (sw_A E H.size) st₀ t → va_S A s.heap T'.heap (locs ++ L) := by
    intro st₀ t T' L h0 e1 hL hF
    obtain ⟨hz, hk⟩ := hF
    rw [h0] at hz hk
    refine ⟨by rw [e1]; exact Nat.le_trans hS.1 hz, fun q h1 h2 => ?_, fun z hz => ?_⟩
    · rw [e1, hk q (Nat.lt_of_lt_of_le h1 hS.1) (fun h => h2 (hAle q h))]
      exact hS.2.1 q h1 h2
    · rcases List.mem_append.mp hz with h | h
      · exact hS.2.2 z h
      · exact hAle _ (hL z h)
  rcases hr T hT X with ⟨v, st₀, t, T', L, h0, X', hL, e1, e2, ⟨⟨r, σ', hv, hq, hP1, hD1⟩, hF⟩, st⟩ | ⟨q, st₀, t, T', L, X9, ce, h0, X', hL, e1, e2, ⟨x, σ', rfl, hq, hP1, hD1, hF⟩, hce, hcv, hcl, st⟩
  · cases hv
    obtain ⟨t2, a1, b1⟩ := kk r σ' T'.heap (locs ++ L) hq (by rw [e1]; exact hP1) (sw_D_A hD1 (fun k hk => Or.inl ⟨k, hk, rfl⟩) _ C.2.2.2.2.2.2.2.2) (up h0 e1 hL hF) T' rfl X'
    exact ⟨t2, st t2 a1, b1⟩
  · have hS1 := up h0 e1 hL hF
    have hout := vx_out (p := p) (l := l) (e := e) (R := R) (s := s) (m := m) (args := args) (below := below) (meth := meth) (c := c) (H := T'.heap) (locs := locs ++ L) (cells := k + 1) (slots := n + 6) (free := A) (ls := la) (rest := rest) (Qc := sw_Q E A kr) (XC := sw_XC E A kx) (pc := pc) (E := sw_xn x) (ce := ce) (q := q) (mc := mc) (ms := ms) (fun z hz => (hno z hz).elim) hlocks (by rw [e1]; exact hce) hcv hcl
      (fun t9 h9 _ => ⟨x, σ', rfl, hQX x σ' hq, by rw [h9, e1]; exact hP1, sw_D_A hD1 (fun k hk => Or.inl ⟨k, hk, rfl⟩) _ C.2.2.2.2.2.2.2.2, hS1.F h9⟩) hS1.2.2 hk hn
    obtain ⟨t2, a1, b1⟩ := hout T' rfl X'
    exact ⟨t2, st.trans a1, b1⟩
theorem sw_g_callVX (C : sw_C E own cc nL p s m args c A) (hno : ∀ z ∈ c.exceptionTable.toList, False) (hlocks : meth.locks = false) (hRf : d + 1 ≤ R.frames) (hRl : 64 * (d + 1) ≤ R.locals) {mc ms : Nat} (hkc : k + 1 ≤ R.cells) (hkn : n + 6 ≤ R.slots) (hk : k + 1 ≤ mc) (hn : n + 6 ≤ ms) {idx mn : Nat} {av r : List Value} {Q : Option Value → sw_M → Prop} (hml : sw_ml own idx = some mn) (hmn : mn < 304) (hst : (sw_mo mn).2.1 = false) (hic : sw_isc mn = false) (hlen : av.length = (sw_mo mn).2.2 + 1) (hrec : sw_recv mn av) (hr : r.length ≤ 4) (hc : sw_ConX l E d 1 mn av σ Q kx) (hd : decode cc pc = .ok (.invokevirtual idx, 3)) (g : ∀ v σ', Q v σ' → sw_G l E nL p e R s m args below meth c A (k + 1) (n + 6) (vx_MQ below (sw_Q E A kr) (sw_XC E A kx) args s mc ms A) (pc + 3) ls (v.toList ++ r) σ') : sw_G l E nL p e R s m args below meth c A k n (vx_MQ below (sw_Q E A kr) (sw_XC E A kx) args s mc ms A) pc ls (av.reverse ++ r) σ := by
  intro H locs la hP hD hS hl
  obtain ⟨hcode, Q0, X0, hQ, hX, hM⟩ := hc
  obtain ⟨w1, w2, w3, w4, w5, w6, w7, w8, w9⟩ := sw_mok hmn
  have hlk : Cond.methodLink (sw_R own) idx (sw_mt mn).1 ∈ sw_T := (sw_ml_ok hml).elim (fun h => h.2) (fun h => absurd h.1 (by omega))
  rw [hst] at w1
  have w2 : Cond.selects (sw_mt mn).1.cls (sw_mt mn).1 (sw_mt mn).1 ∈ sw_T := w2.elim (fun h => by rw [hst] at h; cases h) (fun h => h.elim (fun h => by rw [hic] at h; cases h) id)
  match av, hrec, hlen with
  | .ref a :: as, hrec, hlen =>
    have hrv := sw_rv C hP hS hmn hst hrec
    have hG : GoodIn sw_T (wsV (sw_R own) idx (sw_mt mn).1.cls (sw_mt mn).1 (sw_ws mn)) := by
      intro w hw
      unfold wsV sw_ws at hw
      simp only [List.cons_append, List.nil_append, List.mem_cons] at hw
      have : w ∈ sw_T := by rcases hw with rfl | rfl | rfl | rfl | rfl | h <;> assumption
      exact ⟨this, good_of_word (sw_T_good this)⟩
    have hcw : CallW R s args (sw_R own) (sw_mt mn).1.cls idx (sw_mt mn).1 (sw_mt mn).2.1 (sw_mt mn).2.2.1 (sw_mt mn).2.2.2 (sw_ws mn) (sw_rm d 1) 1 6 (sw_mo mn).2.2 :=
      cwV (sw_mo mn).2.2 C.2.2.2.2.1 hG rfl rfl rfl ⟨rfl, w7, w8, w5⟩ ⟨hRf, by show 8 + ((sw_mt mn).2.2.1 + 11) + 64 * d ≤ R.locals; omega⟩
    have hrun := vx_runV (e := e) (below := below) (meth := meth) (cells := k) (slots := n) (locs := locs) (g := F0 m pc la (((Value.ref a :: as).reverse ++ r).map (sw_c E))) (As := as.map (sw_c E)) (rest := r.map (sw_c E)) (b := E.2.1 a) ⟨C.1, C.2.1, C.2.2.1, C.2.2.2.1, C.2.2.2.2.1⟩ (hM H.size) hcw ⟨sw_blind _ σ H.size, hrv, fun U hU hW => ⟨by simp [sw_c], sw_pre C hP hD hS hU hW⟩⟩ rfl (by simpa using hlen) hl.1 (by simp [sw_c]) (lv_room (sw_sum hr)) hd ⟨hkc, hkn⟩
    refine sw_callX C hno hlocks hrun hS hX hk hn (fun v σ' H1 locs1 hq1 hP1 hD1 hS1 => ?_)
    have := g v σ' (hQ v σ' hq1) H1 locs1 la hP1 hD1 hS1 hl
    have e9 : (v.map (sw_c E)).toList ++ r.map (sw_c E) = (v.toList ++ r).map (sw_c E) := by cases v <;> simp
    rw [e9]
    exact this
end SWX
theorem sw_conX_open {l : Launch} (hTL : sw_TL l) {E : sw_E} {d n i B : Nat} {av : List Value} {σ : sw_M} {Q : Option Value → sw_M → Prop} {QX : Nat → sw_M → Prop} {y : MethodName} {cc : ByteArray} {nL own : Nat} {rt : Option FieldType} (hn : n < 304) (hpl : plainName (sw_mt n).1.cls = true) (hm : sw_mt n = (y, cc, nL, rt)) (ho : (sw_mo n).1 = own) (hw : lw_tbl[i]? = some (.code (sw_mt n).1 (sw_mt n).2.1 (sw_mt n).2.2.1 (sw_mt n).2.2.2)) (hc : ∀ w ∈ av, w.category = 1) (hl : av.length ≤ nL) (hd : 5 ≤ d)
    (h : sw_V l E d own cc nL rt Q QX B 0 (av.map some) [] σ) : sw_ConX l E (d + 1) B n av σ Q QX := by
  obtain ⟨w1, w2, w3, w4, w5, w6, w7, w8, w9⟩ := sw_mok hn
  refine ⟨sw_in hw rfl, Q, QX, fun _ _ h => h, fun _ _ h => h, fun sz => ?_⟩
  refine vx_ofW (cc := (sw_mt n).2.1) (maxL := (sw_mt n).2.2.1) (ret := (sw_mt n).2.2.2) (ws' := sw_T) hpl rfl ?_
  intro p e s m args below meth c s₁ B0 hml hno hv
  obtain ⟨rfl, hsz, hP, hK, hD0, hN⟩ := hv
  subst hsz
  have hts : ∀ w ∈ sw_ws n, w.before (av.map (sw_c E)).toArray s = true := atoms_spec (ws := sw_ws n) B0.pre
  have hown : s.vm.findClass (sw_mt n).1.cls = some m.cls := findClass_of_methodNamed B0.named
  rw [← w4, ho] at hown
  rw [hm] at hml B0 ⊢
  have C : sw_C E own cc nL p s m (av.map (sw_c E)).toArray c (sw_A E s.heap.size) := ⟨B0.exec, B0.bytes, hml, hown, fun w hw => hts w (List.mem_cons_of_mem _ hw), hK, hN, fun q hq => Or.inr hq, fun k hk => Or.inl ⟨k, hk, rfl⟩⟩
  have hlocks : meth.locks = false := B0.notSynchronized
  have hg := sw_sound (l := l) (d := d) (B := B) (e := e) (R := (headSpec (sw_ws n) (sw_rm (d + 1) B)).room) (below := below) (meth := meth) (F := vx_MQ below (sw_Q E (sw_A E s.heap.size) Q) (sw_XC E (sw_A E s.heap.size) QX) (av.map (sw_c E)).toArray s B (6 * B) (sw_A E s.heap.size)) C (Nat.le_refl _) (Nat.le_refl _) (Nat.le_refl _) (Nat.le_refl _) B0.returns hlocks (fun _ _ _ k => vx_ret k) ?_ ?_ h (Nat.le_refl B)
  · have hl2 := sw_lh_entry (E := E) hc hl
    rw [lg_entry_eq]
    have hg := hg s.heap [] _ hP (sw_D_A hD0 (fun _ _ => trivial) _ (fun k hk => Or.inl ⟨k, hk, rfl⟩)) va_S.rf hl2
    rw [Nat.sub_self] at hg
    exact hg
  · intro b pc k x ls st σ' hb hdc hxl hst hthr hkx H locs la hP1 hD1 hS1 hl1
    subst hst
    refine hTL E own nL cc p e _ s m _ below meth c (sw_A E s.heap.size) H locs la [] _ _ _ _ pc k x _ _ C hno hlocks hS1 hl1.1 hdc hxl hthr (by show 6 ≤ d + 1; omega) (by show 300 ≤ 64 * (d + 1); omega) (by simp) (by show B - (b + 1) + 1 ≤ B; omega) (by show 6 * (B - (b + 1)) + 6 ≤ 6 * B; omega) (by omega) (by omega) (fun t hal hsz hq => ?_)
    exact ⟨x, σ', rfl, hkx, sw_P_up hP1 hq, hD1, sw_F_up hS1 hsz hq⟩
  · intro b pc idx mn av' r ls σ' Q' hb hml' hmn hst hic hlen hrec hr4 hcx hdc g
    have hg9 := sw_g_callVX (k := B - (b + 1)) (n := 6 * (B - (b + 1))) (mc := B) (ms := 6 * B) (R := (headSpec (sw_ws n) (sw_rm (d + 1) B)).room) (l := l) (e := e) (below := below) (kr := Q) (ls := ls) C hno hlocks (Nat.le_refl _) (Nat.le_refl _) (by show B - (b + 1) + 1 ≤ B; omega) (by show 6 * (B - (b + 1)) + 6 ≤ 6 * B; omega) (by omega) (by omega) hml' hmn hst hic hlen hrec hr4 hcx hdc
    refine hg9 (fun v σ1 hq => ?_)
    have g9 := g v σ1 hq
    rw [show B - (b + 1) + 1 = B - b by omega, show 6 * (B - (b + 1)) + 6 = 6 * (B - b) by omega]
    exact g9
