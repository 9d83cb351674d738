theorem sw_e9 {a : Nat} (h : 2000 ≤ a) : 2000 + (a - 2000) = a := by omega
theorem sw_e8 {a : Nat} (h : 2000 ≤ a) (h2 : a < 2016) : a - 2000 < 16 := by omega
theorem sw_l1 {a len k : Nat} (h : Nat.beq a 0 = true ∨ Nat.beq len a = true) (ha : a = k) (hk : k ≠ 0) : len = k := by
  subst ha
  exact h.elim (fun h => absurd (Nat.eq_of_beq_eq_true h) hk) (fun h => Nat.eq_of_beq_eq_true h)
theorem sw_z_nar {x : Int32} (h : sw_z x) : narrow .boolean (.int x) = .int x ∧ fits .boolean (.int x) = true ∧ vp_nar .boolean x = x := by
  rcases h with rfl | rfl <;> exact ⟨rfl, rfl, rfl⟩
theorem sw_clamp {x : Nat} (h : x < 112) : (Int32.ofNat x).toNatClampNeg = x := nI_clamp (by omega)
theorem sw_F_el {own nL : Nat} {cc : ByteArray} {rt : Option FieldType} {kr : Option Value → sw_M → Prop} {kx : Nat → sw_M → Prop} {kc : Nat → List Value → sw_M → (Option Value → sw_M → Prop) → Prop} {kcx : Nat → List Value → sw_M → (Option Value → sw_M → Prop) → (Nat → sw_M → Prop) → Prop} {X : sw_P} {b pc : Nat} {ls : List (Option Value)} {st : List Value} {σ : sw_M} (h : sw_F own cc nL rt kr kx kc kcx X b pc ls st σ) : ∃ i len, decode cc pc = .ok (i, len) ∧ (Nat.beq (sw_len i) 0 = true ∨ Nat.beq len (sw_len i) = true) ∧ sw_step own cc nL rt kr kx kc kcx X i b pc ls st σ := by
  unfold sw_F at h
  split at h
  · rename_i i len hd
    obtain ⟨h1, h2⟩ := cond_yes h
    exact ⟨i, len, hd, (Bool.or_eq_true _ _).mp h1, h2⟩
  · exact h.elim
set_option maxRecDepth 100000 in
theorem sw_acn : Cond.native arraycopyName ∈ sw_T := sw_in (i := 697) (by decide +kernel) rfl
set_option maxRecDepth 100000 in
theorem sw_acs : Cond.static arraycopyName ∈ sw_T := sw_in (i := 696) (by decide +kernel) rfl
set_option maxRecDepth 100000 in
theorem sw_aci : Cond.initialized "java/lang/System" ∈ sw_T := sw_in (i := 147) (by decide +kernel) rfl
section SWS
variable {l : Launch} {E : sw_E} {d B own nL : Nat} {cc : ByteArray} {rt : Option FieldType} {kr : Option Value → sw_M → Prop} {kx : Nat → sw_M → Prop} {p : Program} {e : Env} {R : Room} {s : State} {m : MethodId} {args : Array Value} {below : List Frame} {meth : Method} {c : Code} {A : Nat → Prop} {F : State → Prop}
set_option maxHeartbeats 4000000 in
theorem sw_sound (C : sw_C E own cc nL p s m args c A) (hRf : d + 1 ≤ R.frames) (hRl : 64 * (d + 1) ≤ R.locals) (hRc : B ≤ R.cells) (hRs : 6 * B ≤ R.slots) (hrt : meth.sig.returnType = rt) (hlocks : meth.locks = false)
    (hret : ∀ (H : Heap) (locs : List Loc) (g : JFrame), W p l e R s m args below meth c H locs B (6 * B) (MQ below (sw_Q E A kr) args s B (6 * B) A) g → W p l e R s m args below meth c H locs B (6 * B) F g)
    (hnew : ∀ (b pc k x : Nat) (ls : List (Option Value)) (st : List Value) (σ : sw_M), b + 1 ≤ B → decode cc pc = .ok (.new k, 3) → sw_xl own k = some x → st = [] → sw_thr own cc x pc → kx x σ → sw_G l E nL p e R s m args below meth c A (B - (b + 1)) (6 * (B - (b + 1))) F pc ls st σ)
    (hcx : ∀ (b pc idx mn : Nat) (av r : List Value) (ls : List (Option Value)) (σ : sw_M) (Q : Option Value → sw_M → Prop), b + 1 ≤ B → sw_ml own idx = some mn → mn < 304 → (sw_mo mn).2.1 = false → sw_isc mn = false → av.length = (sw_mo mn).2.2 + 1 → sw_recv mn av → r.length ≤ 4 → sw_ConX l E d 1 mn av σ Q kx → decode cc pc = .ok (.invokevirtual idx, 3) → (∀ v σ', Q v σ' → sw_G l E nL p e R s m args below meth c A (B - b) (6 * (B - b)) F (pc + 3) ls (v.toList ++ r) σ') → sw_G l E nL p e R s m args below meth c A (B - (b + 1)) (6 * (B - (b + 1))) F pc ls (av.reverse ++ r) σ)
    {b pc : Nat} {ls : List (Option Value)} {st : List Value} {σ : sw_M} (h : sw_V l E d own cc nL rt kr kx b pc ls st σ) : b ≤ B → sw_G l E nL p e R s m args below meth c A (B - b) (6 * (B - b)) F pc ls st σ := by
  refine h (fun b pc ls st σ => b ≤ B → sw_G l E nL p e R s m args below meth c A (B - b) (6 * (B - b)) F pc ls st σ) ?_
  intro b pc ls st σ hF hb
  have hx := C.1
  have hcb := C.2.1
  have hown := C.2.2.2.1
  have hts := C.2.2.2.2.1
  have hK := C.2.2.2.2.2.1
  have hkc : B - b ≤ R.cells := by omega
  have hkn : 6 * (B - b) ≤ R.slots := by omega
  obtain ⟨i, len, hd, hlen, hF⟩ := sw_F_el hF
  unfold sw_step at hF
  split at hF
  · obtain rfl : len = 1 := sw_l1 hlen rfl (by decide)
    obtain ⟨x, hx1, hF1⟩ := oI_el hF
    exact fun H locs la hP hD hS hl => lv_iload_n hx hcb hd rfl (hl.2.2 _ _ hx1) (hF1 hb H locs la hP hD hS hl)
  · obtain rfl : len = 2 := sw_l1 hlen rfl (by decide)
    obtain ⟨x, hx1, hF2⟩ := oI_el hF
    exact fun H locs la hP hD hS hl => lv_iload hx hcb hd (hl.2.2 _ _ hx1) (hF2 hb H locs la hP hD hS hl)
  · obtain rfl : len = 1 := sw_l1 hlen rfl (by decide)
    obtain ⟨x, hx1, hF3⟩ := oL_el hF
    exact fun H locs la hP hD hS hl => lv_lload_n hx hcb hd rfl (hl.2.2 _ _ hx1) (hF3 hb H locs la hP hD hS hl)
  · obtain rfl : len = 2 := sw_l1 hlen rfl (by decide)
    obtain ⟨x, hx1, hF4⟩ := oL_el hF
    exact fun H locs la hP hD hS hl => lv_lload hx hcb hd (hl.2.2 _ _ hx1) (hF4 hb H locs la hP hD hS hl)
  · obtain rfl : len = 1 := sw_l1 hlen rfl (by decide)
    obtain ⟨x, hx1, hF5⟩ := oR_el hF
    exact fun H locs la hP hD hS hl => lv_aload_n hx hcb hd rfl (hl.2.2 _ _ hx1) (hF5 hb H locs la hP hD hS hl)
  · obtain rfl : len = 2 := sw_l1 hlen rfl (by decide)
    obtain ⟨x, hx1, hF6⟩ := oR_el hF
    exact fun H locs la hP hD hS hl => lv_aload hx hcb hd (hl.2.2 _ _ hx1) (hF6 hb H locs la hP hD hS hl)
  · obtain rfl : len = 1 := sw_l1 hlen rfl (by decide)
    obtain ⟨x, r, rfl, hn, hF7⟩ := tI_el hF
    obtain ⟨hlt, hF8⟩ := cond_yes hF7
    exact fun H locs la hP hD hS hl => lv_istore_n hx hcb hd rfl (sw_lh_lv hl) (Nat.le_of_ble_eq_true hlt) rfl (fun la1 hl1 => hF8 hb H locs la1 hP hD hS (sw_lh_put1 hl hn hl1))
  · obtain rfl : len = 2 := sw_l1 hlen rfl (by decide)
    obtain ⟨x, r, rfl, hn, hF9⟩ := tI_el hF
    obtain ⟨hlt, hF10⟩ := cond_yes hF9
    exact fun H locs la hP hD hS hl => lv_istore hx hcb hd (sw_lh_lv hl) (Nat.le_of_ble_eq_true hlt) rfl (fun la1 hl1 => hF10 hb H locs la1 hP hD hS (sw_lh_put1 hl hn hl1))
  · obtain rfl : len = 1 := sw_l1 hlen rfl (by decide)
    obtain ⟨x, r, rfl, hn, hF11⟩ := tR_el hF
    obtain ⟨hlt, hF12⟩ := cond_yes hF11
    exact fun H locs la hP hD hS hl => lv_astore_n hx hcb hd rfl (sw_lh_lv hl) (Nat.le_of_ble_eq_true hlt) rfl (fun la1 hl1 => hF12 hb H locs la1 hP hD hS (sw_lh_put1 hl hn hl1))
  · obtain rfl : len = 2 := sw_l1 hlen rfl (by decide)
    obtain ⟨x, r, rfl, hn, hF13⟩ := tR_el hF
    obtain ⟨hlt, hF14⟩ := cond_yes hF13
    exact fun H locs la hP hD hS hl => lv_astore hx hcb hd (sw_lh_lv hl) (Nat.le_of_ble_eq_true hlt) rfl (fun la1 hl1 => hF14 hb H locs la1 hP hD hS (sw_lh_put1 hl hn hl1))
  · obtain rfl : len = 1 := sw_l1 hlen rfl (by decide)
    obtain ⟨x, r, rfl, hn, hF15⟩ := tL_el hF
    obtain ⟨hlt, hF16⟩ := cond_yes hF15
    exact fun H locs la hP hD hS hl => lv_lstore_n hx hcb hd rfl (sw_lh_lv hl) (Nat.le_of_ble_eq_true hlt) rfl (fun la1 hl1 => hF16 hb H locs la1 hP hD hS (sw_lh_put2 hl hn hl1))
  · obtain rfl : len = 2 := sw_l1 hlen rfl (by decide)
    obtain ⟨x, r, rfl, hn, hF17⟩ := tL_el hF
    obtain ⟨hlt, hF18⟩ := cond_yes hF17
    exact fun H locs la hP hD hS hl => lv_lstore hx hcb hd (sw_lh_lv hl) (Nat.le_of_ble_eq_true hlt) rfl (fun la1 hl1 => hF18 hb H locs la1 hP hD hS (sw_lh_put2 hl hn hl1))
  · obtain rfl : len = 3 := sw_l1 hlen rfl (by decide)
    obtain ⟨x, hx1, hn, hF19⟩ := oI_el hF
    intro H locs la hP hD hS hl
    obtain ⟨j, hj⟩ := List.getElem?_of_mem (sw_lh_mem hl hx1)
    exact lv_iinc hx hcb hd (sw_lh_lv hl) hj rfl (sw_lh_lt hl hx1) rfl (fun la1 hl1 => hF19 hb H locs la1 hP hD hS (sw_lh_put1 hl hn hl1))
  · obtain rfl : len = 1 := sw_l1 hlen rfl (by decide)
    exact fun H locs la hP hD hS hl => lv_iconst hx hcb hd rfl (hF hb H locs la hP hD hS hl)
  · obtain rfl : len = 2 := sw_l1 hlen rfl (by decide)
    exact fun H locs la hP hD hS hl => lv_bipush hx hcb hd rfl (hF hb H locs la hP hD hS hl)
  · obtain rfl : len = 3 := sw_l1 hlen rfl (by decide)
    exact fun H locs la hP hD hS hl => lv_sipush hx hcb hd rfl (hF hb H locs la hP hD hS hl)
  · obtain rfl : len = 1 := sw_l1 hlen rfl (by decide)
    exact fun H locs la hP hD hS hl => lv_lconst hx hcb hd rfl (hF hb H locs la hP hD hS hl)
  · obtain rfl : len = 2 := sw_l1 hlen rfl (by decide)
    split at hF
    · rename_i v hv; exact fun H locs la hP hD hS hl => lv_ldc hx hcb hown (hts _ (sw_cI_ok hv)) hd (hF hb H locs la hP hD hS hl)
    · split at hF
      · rename_i j hj
        intro H locs la hP hD hS hl
        obtain ⟨h1, h2, h3⟩ := sw_str_ok hj
        have hR := C.2.2.2.2.2.2.1.2.2.1 j h1
        rw [h2, h3] at hR
        exact va_ldcS hx hcb hown hR hd (hF hb H locs la hP hD hS hl)
      · exact hF.elim
  · obtain rfl : len = 3 := sw_l1 hlen rfl (by decide)
    split at hF
    · rename_i v hv; exact fun H locs la hP hD hS hl => lv_ldcw hx hcb hown (hts _ (sw_cI_ok hv)) hd (hF hb H locs la hP hD hS hl)
    · exact hF.elim
  · obtain rfl : len = 3 := sw_l1 hlen rfl (by decide)
    split at hF
    · rename_i v hv; exact fun H locs la hP hD hS hl => lv_ldc2 hx hcb hown (hts _ (sw_cL_ok hv)) hd (hF hb H locs la hP hD hS hl)
    · exact hF.elim
  · obtain rfl : len = 1 := sw_l1 hlen rfl (by decide)
    obtain ⟨y, r, rfl, hF20⟩ := tI_el hF
    obtain ⟨x, r, rfl, hF21⟩ := tI_el hF20
    exact fun H locs la hP hD hS hl => lv_iadd hx hcb hd (hF21 hb H locs la hP hD hS hl)
  · obtain rfl : len = 1 := sw_l1 hlen rfl (by decide)
    obtain ⟨y, r, rfl, hF22⟩ := tI_el hF
    obtain ⟨x, r, rfl, hF23⟩ := tI_el hF22
    exact fun H locs la hP hD hS hl => lv_isub hx hcb hd (hF23 hb H locs la hP hD hS hl)
  · obtain rfl : len = 1 := sw_l1 hlen rfl (by decide)
    obtain ⟨y, r, rfl, hF24⟩ := tI_el hF
    obtain ⟨x, r, rfl, hF25⟩ := tI_el hF24
    exact fun H locs la hP hD hS hl => lv_imul hx hcb hd (hF25 hb H locs la hP hD hS hl)
  · obtain rfl : len = 1 := sw_l1 hlen rfl (by decide)
    obtain ⟨y, r, rfl, hF26⟩ := tI_el hF
    obtain ⟨x, r, rfl, hne, hF27⟩ := tI_el hF26
    exact fun H locs la hP hD hS hl => lv_idiv hx hcb hd hne (hF27 hb H locs la hP hD hS hl)
  · obtain rfl : len = 1 := sw_l1 hlen rfl (by decide)
    obtain ⟨y, r, rfl, hF28⟩ := tI_el hF
    obtain ⟨x, r, rfl, hne, hF29⟩ := tI_el hF28
    exact fun H locs la hP hD hS hl => lv_irem hx hcb hd hne (hF29 hb H locs la hP hD hS hl)
  · obtain rfl : len = 1 := sw_l1 hlen rfl (by decide)
    obtain ⟨y, r, rfl, hF30⟩ := tI_el hF
    obtain ⟨x, r, rfl, hF31⟩ := tI_el hF30
    exact fun H locs la hP hD hS hl => lv_ishl hx hcb hd (hF31 hb H locs la hP hD hS hl)
  · obtain rfl : len = 1 := sw_l1 hlen rfl (by decide)
    obtain ⟨y, r, rfl, hF32⟩ := tI_el hF
    obtain ⟨x, r, rfl, hF33⟩ := tI_el hF32
    exact fun H locs la hP hD hS hl => lv_ishr hx hcb hd (hF33 hb H locs la hP hD hS hl)
  · obtain rfl : len = 1 := sw_l1 hlen rfl (by decide)
    obtain ⟨y, r, rfl, hF34⟩ := tI_el hF
    obtain ⟨x, r, rfl, hF35⟩ := tI_el hF34
    exact fun H locs la hP hD hS hl => lv_iushr hx hcb hd rfl (hF35 hb H locs la hP hD hS hl)
  · obtain rfl : len = 1 := sw_l1 hlen rfl (by decide)
    obtain ⟨y, r, rfl, hF36⟩ := tI_el hF
    obtain ⟨x, r, rfl, hF37⟩ := tI_el hF36
    exact fun H locs la hP hD hS hl => lv_iand hx hcb hd (hF37 hb H locs la hP hD hS hl)
  · obtain rfl : len = 1 := sw_l1 hlen rfl (by decide)
    obtain ⟨y, r, rfl, hF38⟩ := tI_el hF
    obtain ⟨x, r, rfl, hF39⟩ := tI_el hF38
    exact fun H locs la hP hD hS hl => lv_ior hx hcb hd (hF39 hb H locs la hP hD hS hl)
  · obtain rfl : len = 1 := sw_l1 hlen rfl (by decide)
    obtain ⟨y, r, rfl, hF40⟩ := tI_el hF
    obtain ⟨x, r, rfl, hF41⟩ := tI_el hF40
    exact fun H locs la hP hD hS hl => lv_ixor hx hcb hd (hF41 hb H locs la hP hD hS hl)
  · obtain rfl : len = 1 := sw_l1 hlen rfl (by decide)
    obtain ⟨y, r, rfl, hF42⟩ := tL_el hF
    obtain ⟨x, r, rfl, hF43⟩ := tL_el hF42
    exact fun H locs la hP hD hS hl => lv_ladd hx hcb hd (hF43 hb H locs la hP hD hS hl)
  · obtain rfl : len = 1 := sw_l1 hlen rfl (by decide)
    obtain ⟨y, r, rfl, hF44⟩ := tL_el hF
    obtain ⟨x, r, rfl, hF45⟩ := tL_el hF44
    exact fun H locs la hP hD hS hl => lv_lsub hx hcb hd (hF45 hb H locs la hP hD hS hl)
  · obtain rfl : len = 1 := sw_l1 hlen rfl (by decide)
    obtain ⟨y, r, rfl, hF46⟩ := tL_el hF
    obtain ⟨x, r, rfl, hF47⟩ := tL_el hF46
    exact fun H locs la hP hD hS hl => lv_lmul hx hcb hd (hF47 hb H locs la hP hD hS hl)
  · obtain rfl : len = 1 := sw_l1 hlen rfl (by decide)
    obtain ⟨y, r, rfl, hF48⟩ := tL_el hF
    obtain ⟨x, r, rfl, hF49⟩ := tL_el hF48
    exact fun H locs la hP hD hS hl => lv_lor hx hcb hd (hF49 hb H locs la hP hD hS hl)
  · obtain rfl : len = 1 := sw_l1 hlen rfl (by decide)
    obtain ⟨y, r, rfl, hF50⟩ := tI_el hF
    obtain ⟨x, r, rfl, hF51⟩ := tL_el hF50
    exact fun H locs la hP hD hS hl => lv_lshl hx hcb hd rfl (hF51 hb H locs la hP hD hS hl)
  · obtain rfl : len = 1 := sw_l1 hlen rfl (by decide)
    obtain ⟨y, r, rfl, hF52⟩ := tL_el hF
    obtain ⟨x, r, rfl, hF53⟩ := tL_el hF52
    exact fun H locs la hP hD hS hl => W.lcmp hx hcb hd (hF53 hb H locs la hP hD hS hl)
  · obtain rfl : len = 1 := sw_l1 hlen rfl (by decide)
    obtain ⟨x, r, rfl, hF54⟩ := tI_el hF
    exact fun H locs la hP hD hS hl => lv_i2l hx hcb hd rfl (hF54 hb H locs la hP hD hS hl)
  · obtain rfl : len = 1 := sw_l1 hlen rfl (by decide)
    obtain ⟨x, r, rfl, hF55⟩ := tL_el hF
    exact fun H locs la hP hD hS hl => lv_l2i hx hcb hd rfl (hF55 hb H locs la hP hD hS hl)
  · obtain rfl : len = 1 := sw_l1 hlen rfl (by decide)
    obtain ⟨x, r, rfl, hF56⟩ := tI_el hF
    exact fun H locs la hP hD hS hl => lv_i2c hx hcb hd rfl (hF56 hb H locs la hP hD hS hl)
  · obtain rfl : len = 3 := sw_l1 hlen rfl (by decide)
    obtain ⟨y, r, rfl, hF57⟩ := tI_el hF
    obtain ⟨x, r, rfl, hF58⟩ := tI_el hF57
    split at hF58
    · obtain ⟨t, ht, ⟨h1, h2⟩, -⟩ := sw_j_el hF58
      exact fun H locs la hP hD hS hl => lv_icmp_eq hx hcb hd ht (fun q => h1 q hb H locs la hP hD hS hl) (fun q => h2 q hb H locs la hP hD hS hl)
    · obtain ⟨t, ht, ⟨h1, h2⟩, -⟩ := sw_j_el hF58
      exact fun H locs la hP hD hS hl => lv_icmp_ne hx hcb hd ht (fun q => h1 q hb H locs la hP hD hS hl) (fun q => h2 q hb H locs la hP hD hS hl)
    · obtain ⟨t, ht, ⟨h1, h2⟩, -⟩ := sw_j_el hF58
      exact fun H locs la hP hD hS hl => lv_icmp_lt hx hcb hd ht (fun q => h1 q hb H locs la hP hD hS hl) (fun q => h2 q hb H locs la hP hD hS hl)
    · obtain ⟨t, ht, ⟨h1, h2⟩, -⟩ := sw_j_el hF58
      exact fun H locs la hP hD hS hl => lv_icmp_ge hx hcb hd ht (fun q => h1 q hb H locs la hP hD hS hl) (fun q => h2 q hb H locs la hP hD hS hl)
    · obtain ⟨t, ht, ⟨h1, h2⟩, -⟩ := sw_j_el hF58
      exact fun H locs la hP hD hS hl => lv_icmp_gt hx hcb hd ht (fun q => h1 q hb H locs la hP hD hS hl) (fun q => h2 q hb H locs la hP hD hS hl)
    · obtain ⟨t, ht, ⟨h1, h2⟩, -⟩ := sw_j_el hF58
      exact fun H locs la hP hD hS hl => lv_icmp_le hx hcb hd ht (fun q => h1 q hb H locs la hP hD hS hl) (fun q => h2 q hb H locs la hP hD hS hl)
  · obtain rfl : len = 3 := sw_l1 hlen rfl (by decide)
    obtain ⟨x, r, rfl, hF59⟩ := tI_el hF
    split at hF59
    · obtain ⟨t, ht, ⟨h1, h2⟩, -⟩ := sw_j_el hF59
      exact fun H locs la hP hD hS hl => lv_if_eq hx hcb hd ht (fun q => h1 q hb H locs la hP hD hS hl) (fun q => h2 q hb H locs la hP hD hS hl)
    · obtain ⟨t, ht, ⟨h1, h2⟩, -⟩ := sw_j_el hF59
      exact fun H locs la hP hD hS hl => lv_if_ne hx hcb hd ht (fun q => h1 q hb H locs la hP hD hS hl) (fun q => h2 q hb H locs la hP hD hS hl)
    · obtain ⟨t, ht, ⟨h1, h2⟩, -⟩ := sw_j_el hF59
      exact fun H locs la hP hD hS hl => lv_if_lt hx hcb hd ht (fun q => h1 q hb H locs la hP hD hS hl) (fun q => h2 q hb H locs la hP hD hS hl)
    · obtain ⟨t, ht, ⟨h1, h2⟩, -⟩ := sw_j_el hF59
      exact fun H locs la hP hD hS hl => lv_if_ge hx hcb hd ht (fun q => h1 q hb H locs la hP hD hS hl) (fun q => h2 q hb H locs la hP hD hS hl)
    · obtain ⟨t, ht, ⟨h1, h2⟩, -⟩ := sw_j_el hF59
      exact fun H locs la hP hD hS hl => lv_if_gt hx hcb hd ht (fun q => h1 q hb H locs la hP hD hS hl) (fun q => h2 q hb H locs la hP hD hS hl)
    · obtain ⟨t, ht, ⟨h1, h2⟩, -⟩ := sw_j_el hF59
      exact fun H locs la hP hD hS hl => lv_if_le hx hcb hd ht (fun q => h1 q hb H locs la hP hD hS hl) (fun q => h2 q hb H locs la hP hD hS hl)
  · obtain rfl : len = 3 := sw_l1 hlen rfl (by decide)
    obtain ⟨t, ht, hF60, -⟩ := sw_j_el hF
    exact fun H locs la hP hD hS hl => lv_goto hx hcb hd ht (hF60 hb H locs la hP hD hS hl)
  · rename_i dflt lo hi offs
    obtain ⟨x, r, rfl, h1, h2⟩ := tI_el hF
    intro H locs la hP hD hS hl
    by_cases hlo : x.toInt < lo
    · obtain ⟨t, ht, hF61, -⟩ := sw_j_el (h1 (Or.inl hlo))
      exact lv_tableOut hx hcb hd (Or.inl hlo) ht (hF61 hb H locs la hP hD hS hl)
    · by_cases hhi : hi < x.toInt
      · obtain ⟨t, ht, hF62, -⟩ := sw_j_el (h1 (Or.inr hhi))
        exact lv_tableOut hx hcb hd (Or.inr hhi) ht (hF62 hb H locs la hP hD hS hl)
      · obtain ⟨o, ho, hF63⟩ := h2 hlo hhi
        obtain ⟨t, ht, hF64, -⟩ := sw_j_el hF63
        exact lv_tableIn hx hcb hd hlo hhi ho ht (hF64 hb H locs la hP hD hS hl)
  · obtain rfl : len = 1 := sw_l1 hlen rfl (by decide)
    obtain ⟨v, r, rfl, hv, hF65, -⟩ := t1_el hF
    exact fun H locs la hP hD hS hl => lv_dup hx hcb hd (by rw [sw_c_cat]; exact hv) (hF65 hb H locs la hP hD hS hl)
  · obtain rfl : len = 1 := sw_l1 hlen rfl (by decide)
    obtain ⟨v, r, rfl, hv, hF66, -⟩ := t1_el hF
    obtain ⟨v2, r, rfl, hv2, hF67, -⟩ := t1_el hF66
    exact fun H locs la hP hD hS hl => lv_dup2_11 hx hcb hd (by rw [sw_c_cat]; exact hv) (by rw [sw_c_cat]; exact hv2) (hF67 hb H locs la hP hD hS hl)
  · obtain rfl : len = 1 := sw_l1 hlen rfl (by decide)
    obtain ⟨v, r, rfl, hv, hF68, -⟩ := t1_el hF
    exact fun H locs la hP hD hS hl => lv_pop hx hcb hd (by rw [sw_c_cat]; exact hv) (hF68 hb H locs la hP hD hS hl)
  · obtain rfl : len = 3 := sw_l1 hlen rfl (by decide)
    obtain ⟨a, r, rfl, hF69⟩ := tR_el hF
    split at hF69
    · rename_i q hq; exact sw_g_get C hq hF69.1 hd (hF69.2 hb)
    · exact sw_g_sget C (cond_mo hF69 (fun h => ⟨h.1, cond_mo h.2 (fun q => q hb) (fun h => cond_mo h (fun q => q hb) id)⟩) id) hd
  · obtain rfl : len = 3 := sw_l1 hlen rfl (by decide)
    exact sw_g_gets C (cond_mo hF (fun h => cond_mo h (fun q => q hb) (fun h => cond_mo h (fun q => ⟨q.1 hb, q.2 hb⟩) id)) id) hd
  · obtain rfl : len = 1 := sw_l1 hlen rfl (by decide)
    obtain ⟨x, r, rfl, hF70⟩ := tI_el hF
    exact fun H locs la hP hD hS hl => lv_i2b hx hcb hd rfl (hF70 hb H locs la hP hD hS hl)
  · obtain rfl : len = 3 := sw_l1 hlen rfl (by decide)
    split at hF
    · rename_i q hq
      obtain ⟨hnest, hF71⟩ := cond_no hF
      obtain ⟨cq, hcq, hj, hj2, -⟩ := sw_fl_ok hq
      have hty := (sw_cl_ty hcq).2 q.2 hj
      cases h0 : Nat.beq (sw_fk q.1 q.2) 0 with
      | true =>
        rw [h0] at hF71
        have k0 := Nat.eq_of_beq_eq_true h0
        obtain ⟨x, r, rfl, hF72⟩ := tI_el hF71
        obtain ⟨a, r, rfl, ha, hz, hF73⟩ := tR_el hF72
        have ht := hty.2.2.1 k0
        have hnf : narrow (sw_tyf q.1 q.2) (.int x) = .int x ∧ fits (sw_tyf q.1 q.2) (.int x) = true := by
          cases hz1 : sw_fz q.1 q.2 with
          | true =>
            rw [hz1] at hz ht
            rw [if_pos rfl] at ht
            rw [ht]
            exact ⟨(sw_z_nar hz).1, (sw_z_nar hz).2.1⟩
          | false =>
            rw [hz1] at ht
            rw [if_neg (by decide)] at ht
            rw [ht]
            exact ⟨rfl, rfl⟩
        exact sw_g_put C hq hnest ha (by omega) hnf.1 hnf.2 (sw_W_putI E σ ha (by simp [sw_fv, k0, sw_sI, upd])) hd (hF73 hb)
      | false =>
        rw [h0] at hF71
        have hF74 : cond (Nat.beq (sw_fk q.1 q.2) 1) _ _ := hF71
        cases h1 : Nat.beq (sw_fk q.1 q.2) 1 with
        | true =>
          rw [h1] at hF74
          have k1 := Nat.eq_of_beq_eq_true h1
          obtain ⟨x, r, rfl, hF75⟩ := tL_el hF74
          obtain ⟨a, r, rfl, ha, hF76⟩ := tR_el hF75
          have ht := hty.2.2.2.1 k1
          exact sw_g_put C hq hnest ha (by omega) (by rw [ht]; rfl) (by rw [ht]; rfl) (sw_W_putL E σ ha (by simp [sw_fv, k1, sw_sL, vp_updL])) hd (hF76 hb)
        | false =>
          rw [h1] at hF74
          have hF77 : cond (Nat.beq (sw_fk q.1 q.2) 2) _ _ := hF74
          cases h2 : Nat.beq (sw_fk q.1 q.2) 2 with
          | true =>
            rw [h2] at hF77
            have k2 := Nat.eq_of_beq_eq_true h2
            obtain ⟨x, r, rfl, hF78⟩ := tR_el hF77
            obtain ⟨a, r, rfl, ha, hx9, hF79⟩ := tR_el hF78
            have ht := hty.2.2.2.2 k2
            exact sw_g_put C hq hnest ha (by omega) (by rw [ht]; rfl) (by rw [ht]; rfl) (sw_W_putI E σ ha (by simp [sw_fv, k2, sw_sI, upd, sw_clamp hx9])) hd (hF79 hb)
          | false => rw [h2] at hF77; exact hF77.elim
    · exact hF.elim
  · obtain rfl : len = 1 := sw_l1 hlen rfl (by decide)
    obtain ⟨i, r, rfl, hF80⟩ := tI_el hF
    obtain ⟨a, r, rfl, hk1, hin, hF81⟩ := tR_el hF80
    have hka : sw_kd a = (1, (sw_kd a).2) := by rw [← hk1]
    have hal : a < 112 := sw_kd_lt hka (by decide)
    intro H locs la hP hD hS hl
    have hat := sw_W_at E σ hal
    rw [show sw_ce E σ a = .inl (E.2.2.1, (sw_kd a).2, .inl (σ.1 a)) by simp [sw_ce, hk1]] at hat
    exact va_iald hx hcb hK hP a 0 hat rfl hin hd (hF81 hb H locs la hP hD hS hl)
  · obtain rfl : len = 1 := sw_l1 hlen rfl (by decide)
    obtain ⟨i, r, rfl, hF82⟩ := tI_el hF
    obtain ⟨a, r, rfl, hk1, hin, hF83⟩ := tR_el hF82
    have hka : sw_kd a = (2, (sw_kd a).2) := by rw [← hk1]
    have hal : a < 112 := sw_kd_lt hka (by decide)
    intro H locs la hP hD hS hl
    have hat := sw_W_at E σ hal
    rw [show sw_ce E σ a = .inl (E.2.2.2.1, (sw_kd a).2, .inr (.inl (σ.2 a))) by simp [sw_ce, hk1]] at hat
    exact va_lald hx hcb hK hP a 1 hat rfl hin hd (hF83 hb H locs la hP hD hS hl)
  · obtain rfl : len = 1 := sw_l1 hlen rfl (by decide)
    cases ho9 : Nat.blt own 15 with
    | true =>
      rw [ho9] at hF
      obtain ⟨i, r, rfl, hF84⟩ := tI_el hF
      obtain ⟨a, r, rfl, hk1, hin, hF85⟩ := tR_el hF84
      have hka : sw_kd a = (3, (sw_kd a).2) := by rw [← hk1]
      have hal : a < 112 := sw_kd_lt hka (by decide)
      intro H locs la hP hD hS hl
      have hat := sw_W_at E σ hal
      rw [show sw_ce E σ a = .inl (E.2.2.2.2, (sw_kd a).2, .inl (σ.1 a)) by simp [sw_ce, hk1]] at hat
      exact va_zald hx hcb hK hP a 2 hat rfl hin hd (hF85 hb H locs la hP hD hS hl)
    | false =>
      rw [ho9] at hF
      obtain ⟨i, r, rfl, hF86⟩ := tI_el hF
      obtain ⟨a, r, rfl, hk1, hin, hF87⟩ := tR_el hF86
      obtain ⟨hk1, hk2⟩ := hk1
      have e9 := sw_e9 hk1
      have hS9 := (C.2.2.2.2.2.2.1.2.2.2.1.1 (a - 2000) (sw_e8 hk1 hk2)).2.2.2
      dsimp only at hS9
      rw [e9] at hS9
      exact fun H locs la hP hD hS hl => va_tb hx hcb hS9 hS hin rfl hd (hF87 hb H locs la hP hD hS hl)
  · obtain rfl : len = 1 := sw_l1 hlen rfl (by decide)
    obtain ⟨x, r, rfl, hF88⟩ := tI_el hF
    obtain ⟨i, r, rfl, hF89⟩ := tI_el hF88
    obtain ⟨a, r, rfl, hk1, hin, hF90⟩ := tR_el hF89
    have hka : sw_kd a = (1, (sw_kd a).2) := by rw [← hk1]
    have hal : a < 112 := sw_kd_lt hka (by decide)
    intro H locs la hP hD hS hl
    have hat := sw_W_at E σ hal
    rw [show sw_ce E σ a = .inl (E.2.2.1, (sw_kd a).2, .inl (σ.1 a)) by simp [sw_ce, hk1]] at hat
    refine va_iast hx hcb hK hP hD hS a 0 hat rfl hin hd (fun H1 locs1 hP1 hD1 hS1 => ?_)
    rw [sw_W_arrI E σ hka] at hP1 hD1
    exact hF90 hb H1 locs1 la hP1 hD1 hS1 hl
  · obtain rfl : len = 1 := sw_l1 hlen rfl (by decide)
    obtain ⟨x, r, rfl, hF91⟩ := tL_el hF
    obtain ⟨i, r, rfl, hF92⟩ := tI_el hF91
    obtain ⟨a, r, rfl, hk1, hin, hF93⟩ := tR_el hF92
    have hka : sw_kd a = (2, (sw_kd a).2) := by rw [← hk1]
    have hal : a < 112 := sw_kd_lt hka (by decide)
    intro H locs la hP hD hS hl
    have hat := sw_W_at E σ hal
    rw [show sw_ce E σ a = .inl (E.2.2.2.1, (sw_kd a).2, .inr (.inl (σ.2 a))) by simp [sw_ce, hk1]] at hat
    refine va_last hx hcb hK hP hD hS a 1 hat rfl hin hd (fun H1 locs1 hP1 hD1 hS1 => ?_)
    rw [sw_W_arrL E σ hka] at hP1 hD1
    exact hF93 hb H1 locs1 la hP1 hD1 hS1 hl
  · obtain rfl : len = 1 := sw_l1 hlen rfl (by decide)
    obtain ⟨x, r, rfl, hF94⟩ := tI_el hF
    obtain ⟨i, r, rfl, hF95⟩ := tI_el hF94
    obtain ⟨a, r, rfl, hk1, hin, hz, hF96⟩ := tR_el hF95
    have hka : sw_kd a = (3, (sw_kd a).2) := by rw [← hk1]
    have hal : a < 112 := sw_kd_lt hka (by decide)
    intro H locs la hP hD hS hl
    have hat := sw_W_at E σ hal
    rw [show sw_ce E σ a = .inl (E.2.2.2.2, (sw_kd a).2, .inl (σ.1 a)) by simp [sw_ce, hk1]] at hat
    refine va_zast hx hcb hK hP hD hS a 2 hat rfl hin hd (fun H1 locs1 hP1 hD1 hS1 => ?_)
    rw [(sw_z_nar hz).2.2] at hP1 hD1
    rw [sw_W_arrZ E σ hka] at hP1 hD1
    exact hF96 hb H1 locs1 la hP1 hD1 hS1 hl
  · obtain rfl : len = 1 := sw_l1 hlen rfl (by decide)
    cases ho9 : Nat.blt own 15 with
    | true =>
      rw [ho9] at hF
      obtain ⟨a, r, rfl, hk1, hF97⟩ := tR_el hF
      intro H locs la hP hD hS hl
      have hal : a < 112 := by rcases hk1 with h | h | h <;> exact sw_kd_lt (a := (sw_kd a).1) (b := (sw_kd a).2) rfl (by rw [h]; decide)
      have hat := sw_W_at E σ hal
      rcases hk1 with hk1 | hk1 | hk1
      · rw [show sw_ce E σ a = .inl (E.2.2.1, (sw_kd a).2, .inl (σ.1 a)) by simp [sw_ce, hk1]] at hat
        exact va_alen hx hcb hK hP a 0 hat (ty := .int) rfl rfl hd (hF97 hb H locs la hP hD hS hl)
      · rw [show sw_ce E σ a = .inl (E.2.2.2.1, (sw_kd a).2, .inr (.inl (σ.2 a))) by simp [sw_ce, hk1]] at hat
        exact va_alen hx hcb hK hP a 1 hat (ty := .long) rfl rfl hd (hF97 hb H locs la hP hD hS hl)
      · rw [show sw_ce E σ a = .inl (E.2.2.2.2, (sw_kd a).2, .inl (σ.1 a)) by simp [sw_ce, hk1]] at hat
        exact va_alen hx hcb hK hP a 2 hat (ty := .boolean) rfl rfl hd (hF97 hb H locs la hP hD hS hl)
    | false =>
      rw [ho9] at hF
      obtain ⟨a, r, rfl, hk1, hF98⟩ := tR_el hF
      obtain ⟨hk1, hk2⟩ := hk1
      have e9 := sw_e9 hk1
      have hS9 := (C.2.2.2.2.2.2.1.2.2.2.1.1 (a - 2000) (sw_e8 hk1 hk2)).2.2.2
      dsimp only at hS9
      rw [e9] at hS9
      exact fun H locs la hP hD hS hl => va_tlen hx hcb hS9 hS rfl hd (hF98 hb H locs la hP hD hS hl)
  · obtain rfl : len = 1 := sw_l1 hlen rfl (by decide)
    obtain ⟨x, r, rfl, rfl, hir, hF99⟩ := tI_el hF
    intro H locs la hP hD hS hl
    refine W.widen (k := B) (n := 6 * B) (by omega) (by omega) (hret _ _ _ ?_)
    have hnar : ∃ ty, meth.sig.returnType = some ty ∧ narrow ty (.int x) = .int x := by
      rw [hrt]
      unfold sw_ir at hir
      split at hir
      · exact ⟨_, rfl, rfl⟩
      · exact ⟨_, rfl, (sw_z_nar hir).1⟩
      · exact ⟨_, rfl, by rw [hir]; rfl⟩
      · exact ⟨_, rfl, hir⟩
      · exact hir.elim
    obtain ⟨ty, ht1, ht2⟩ := hnar
    exact W.zret hx hcb ht1 ht2 (fun t ht hW => ⟨⟨some (.int x), σ, rfl, hF99, by rw [ht]; exact hP, hD⟩, hS.F ht⟩) hS.2.2 hd hlocks
  · obtain rfl : len = 1 := sw_l1 hlen rfl (by decide)
    obtain ⟨x, r, rfl, rfl, hir, hF100⟩ := tL_el hF
    intro H locs la hP hD hS hl
    refine W.widen (k := B) (n := 6 * B) (by omega) (by omega) (hret _ _ _ ?_)
    exact W.lret hx hcb (hrt.trans hir) (fun t ht hW => ⟨⟨some (.long x), σ, rfl, hF100, by rw [ht]; exact hP, hD⟩, hS.F ht⟩) hS.2.2 hd hlocks
  · obtain rfl : len = 1 := sw_l1 hlen rfl (by decide)
    obtain ⟨rfl, hir, hF101⟩ := hF
    intro H locs la hP hD hS hl
    refine W.widen (k := B) (n := 6 * B) (by omega) (by omega) (hret _ _ _ ?_)
    exact W.vret hx hcb (hrt.trans hir) (fun t ht hW => ⟨⟨none, σ, rfl, hF101, by rw [ht]; exact hP, hD⟩, hS.F ht⟩) hS.2.2 hd hlocks
  · obtain rfl : len = 3 := sw_l1 hlen rfl (by decide)
    split at hF
    · rename_i mn hmn
      cases h1 : Nat.blt mn 304 with
      | false => rw [h1] at hF; exact hF.elim
      | true =>
        rw [h1] at hF
        have hlt : mn < 304 := Nat.le_of_ble_eq_true h1
        cases h2 : (sw_mo mn).2.1 with
        | true => rw [h2] at hF; exact hF.elim
        | false =>
          rw [h2] at hF
          cases h3 : sw_isc mn with
          | true => rw [h3] at hF; exact hF.elim
          | false =>
            rw [h3] at hF
            obtain ⟨av, r, hal, rfl, ⟨hr4, hrec, hF102⟩, -⟩ := tA_el hF
            rw [List.append_nil] at hrec hF102
            cases h4 : sw_isx mn with
            | false =>
              rw [h4] at hF102
              exact sw_g_callV C hRf hRl hkc hkn hmn hlt h2 h3 hal hrec hr4 hF102 hd (fun v σ' q => q hb)
            | true =>
              rw [h4] at hF102
              match b, hF102, hb with
              | b' + 1, hF102, hb => exact hcx b' pc _ mn av r ls σ _ hb hmn hlt h2 h3 hal hrec hr4 hF102 hd (fun v σ' q => q (by omega))
    · exact hF.elim
  · obtain rfl : len = 3 := sw_l1 hlen rfl (by decide)
    split at hF
    · rename_i mn hmn
      cases h1 : Nat.blt mn 304 with
      | true =>
        rw [h1] at hF
        have hlt : mn < 304 := Nat.le_of_ble_eq_true h1
        cases h2 : (sw_mo mn).2.1 with
        | false => rw [h2] at hF; exact hF.elim
        | true =>
          rw [h2] at hF
          obtain ⟨av, r, hal, rfl, ⟨hr4, hF103⟩, -⟩ := tA_el hF
          rw [List.append_nil] at hF103
          exact sw_g_callS C hRf hRl hkc hkn hmn hlt h2 hal hr4 hF103 hd (fun v σ' q => q hb)
      | false =>
        rw [h1] at hF
        have hn9 : Cond.methodLink (sw_R own) _ arraycopyName ∈ sw_T := (sw_ml_ok hmn).elim (fun h => by have := h.1; rw [Nat.blt, Nat.ble_eq_true_of_le this] at h1; cases h1) (fun h => h.2)
        obtain ⟨mm, r, rfl, hF104⟩ := tI_el hF
        obtain ⟨dp, r, rfl, hF105⟩ := tI_el hF104
        obtain ⟨a1, r, rfl, hF106⟩ := tR_el hF105
        obtain ⟨sp, r, rfl, hF107⟩ := tI_el hF106
        obtain ⟨a0, r, rfl, k0, k1, hr4, q1, q2, q3, q4, q5, hF108⟩ := tR_el hF107
        have hka0 : sw_kd a0 = (1, (sw_kd a0).2) := by rw [← k0]
        have hka1 : sw_kd a1 = (1, (sw_kd a1).2) := by rw [← k1]
        intro H locs la hP hD hS hl
        have hat0 := sw_W_at E σ (sw_kd_lt hka0 (by decide))
        have hat1 := sw_W_at E σ (sw_kd_lt hka1 (by decide))
        rw [show sw_ce E σ a0 = .inl (E.2.2.1, (sw_kd a0).2, .inl (σ.1 a0)) by simp [sw_ce, k0]] at hat0
        rw [show sw_ce E σ a1 = .inl (E.2.2.1, (sw_kd a1).2, .inl (σ.1 a1)) by simp [sw_ce, k1]] at hat1
        have hsum := sw_sum (E := E) hr4
        have h9 : nativeFrameWords "java/lang/System" "arraycopy" 5 ≤ 40 := by decide +kernel
        refine va_copyi hx hcb (C.2.2.1.trans hl.1.symm) hown (hts _ hn9) (hts _ sw_acn) (hts _ sw_acs) (hts _ sw_aci) hK hP hD hS a0 a1 0 0 hat0 hat1 rfl rfl rfl q1 q2 q3 q4 q5 (fun i hi => rfl) (by omega) (by omega) hd (fun H1 locs1 hP1 hD1 hS1 => ?_)
        rw [sw_W_arrI E σ hka1] at hP1 hD1
        exact hF108 hb H1 locs1 la hP1 hD1 hS1 hl
    · exact hF.elim
  · obtain rfl : len = 3 := sw_l1 hlen rfl (by decide)
    split at hF
    · rename_i x hxl
      match b, hF, hb with
      | b' + 1, hF, hb => exact hnew b' pc _ x ls st σ hb hd hxl hF.1 hF.2.1 hF.2.2
    · exact hF.elim
  · exact hF.elim
end SWS
