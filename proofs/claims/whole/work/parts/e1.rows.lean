/-! Single instructions over a memory, for the law's own methods. -/
section LGR
variable {l : Launch} {E : sw_E} {own nL : Nat} {cc : ByteArray} {p : Program} {e : Env} {R : Room} {s : State} {m : MethodId} {args : Array Value} {below : List Frame} {meth : Method} {c : Code} {A : Nat → Prop} {F : State → Prop} {k n : Nat} {pc : Nat} {ls : List (Option Value)} {st r : List Value} {σ : sw_M} {x y : Int32} {u v : Int64}
theorem gg_al (C : sw_C E own cc nL p s m args c A) {j : Fin 4} {a : Nat} (hd : decode cc pc = .ok (.aload_n j, 1)) (hv : sw_nth ls j.val = some (.ref a)) (g : sw_G l E nL p e R s m args below meth c A k n F (pc + 1) ls (.ref a :: st) σ) : sw_G l E nL p e R s m args below meth c A k n F pc ls st σ := fun H locs la hP hD hS hl => lv_aload_n C.1 C.2.1 hd rfl (hl.2.2 _ _ hv) (g H locs la hP hD hS hl)
theorem gg_al2 (C : sw_C E own cc nL p s m args c A) {j a : Nat} (hd : decode cc pc = .ok (.aload j, 2)) (hv : sw_nth ls j = some (.ref a)) (g : sw_G l E nL p e R s m args below meth c A k n F (pc + 2) ls (.ref a :: st) σ) : sw_G l E nL p e R s m args below meth c A k n F pc ls st σ := fun H locs la hP hD hS hl => lv_aload C.1 C.2.1 hd (hl.2.2 _ _ hv) (g H locs la hP hD hS hl)
theorem gg_il (C : sw_C E own cc nL p s m args c A) {j : Fin 4} (hd : decode cc pc = .ok (.iload_n j, 1)) (hv : sw_nth ls j.val = some (.int x)) (g : sw_G l E nL p e R s m args below meth c A k n F (pc + 1) ls (.int x :: st) σ) : sw_G l E nL p e R s m args below meth c A k n F pc ls st σ := fun H locs la hP hD hS hl => lv_iload_n C.1 C.2.1 hd rfl (hl.2.2 _ _ hv) (g H locs la hP hD hS hl)
theorem gg_il2 (C : sw_C E own cc nL p s m args c A) {j : Nat} (hd : decode cc pc = .ok (.iload j, 2)) (hv : sw_nth ls j = some (.int x)) (g : sw_G l E nL p e R s m args below meth c A k n F (pc + 2) ls (.int x :: st) σ) : sw_G l E nL p e R s m args below meth c A k n F pc ls st σ := fun H locs la hP hD hS hl => lv_iload C.1 C.2.1 hd (hl.2.2 _ _ hv) (g H locs la hP hD hS hl)
theorem gg_ic (C : sw_C E own cc nL p s m args c A) {i : Int} (hd : decode cc pc = .ok (.iconst i, 1)) (hv : Int32.ofInt i = x) (g : sw_G l E nL p e R s m args below meth c A k n F (pc + 1) ls (.int x :: st) σ) : sw_G l E nL p e R s m args below meth c A k n F pc ls st σ := fun H locs la hP hD hS hl => lv_iconst C.1 C.2.1 hd hv (g H locs la hP hD hS hl)
theorem gg_bp (C : sw_C E own cc nL p s m args c A) {i : Int} (hd : decode cc pc = .ok (.bipush i, 2)) (hv : (Int8.ofInt i).toInt32 = x) (g : sw_G l E nL p e R s m args below meth c A k n F (pc + 2) ls (.int x :: st) σ) : sw_G l E nL p e R s m args below meth c A k n F pc ls st σ := fun H locs la hP hD hS hl => lv_bipush C.1 C.2.1 hd hv (g H locs la hP hD hS hl)
theorem gg_lc (C : sw_C E own cc nL p s m args c A) {i : Fin 2} (hd : decode cc pc = .ok (.lconst i, 1)) (g : sw_G l E nL p e R s m args below meth c A k n F (pc + 1) ls (.long (Int64.ofNat i.val) :: st) σ) : sw_G l E nL p e R s m args below meth c A k n F pc ls st σ := fun H locs la hP hD hS hl => lv_lconst C.1 C.2.1 hd rfl (g H locs la hP hD hS hl)
theorem gg_i2l (C : sw_C E own cc nL p s m args c A) (hd : decode cc pc = .ok (.i2l, 1)) (g : sw_G l E nL p e R s m args below meth c A k n F (pc + 1) ls (.long x.toInt64 :: r) σ) : sw_G l E nL p e R s m args below meth c A k n F pc ls (.int x :: r) σ := fun H locs la hP hD hS hl => lv_i2l C.1 C.2.1 hd rfl (g H locs la hP hD hS hl)
theorem gg_lcmp (C : sw_C E own cc nL p s m args c A) (hd : decode cc pc = .ok (.lcmp, 1)) (g : sw_G l E nL p e R s m args below meth c A k n F (pc + 1) ls (.int (lg_cmp u v) :: r) σ) : sw_G l E nL p e R s m args below meth c A k n F pc ls (.long v :: .long u :: r) σ := fun H locs la hP hD hS hl => W.lcmp C.1 C.2.1 hd (g H locs la hP hD hS hl)
theorem gg_iadd (C : sw_C E own cc nL p s m args c A) (hd : decode cc pc = .ok (.iadd, 1)) (g : sw_G l E nL p e R s m args below meth c A k n F (pc + 1) ls (.int (x + y) :: r) σ) : sw_G l E nL p e R s m args below meth c A k n F pc ls (.int y :: .int x :: r) σ := fun H locs la hP hD hS hl => lv_iadd C.1 C.2.1 hd (g H locs la hP hD hS hl)
theorem gg_isub (C : sw_C E own cc nL p s m args c A) (hd : decode cc pc = .ok (.isub, 1)) (g : sw_G l E nL p e R s m args below meth c A k n F (pc + 1) ls (.int (x - y) :: r) σ) : sw_G l E nL p e R s m args below meth c A k n F pc ls (.int y :: .int x :: r) σ := fun H locs la hP hD hS hl => lv_isub C.1 C.2.1 hd (g H locs la hP hD hS hl)
theorem gg_iand (C : sw_C E own cc nL p s m args c A) (hd : decode cc pc = .ok (.iand, 1)) (g : sw_G l E nL p e R s m args below meth c A k n F (pc + 1) ls (.int (x &&& y) :: r) σ) : sw_G l E nL p e R s m args below meth c A k n F pc ls (.int y :: .int x :: r) σ := fun H locs la hP hD hS hl => lv_iand C.1 C.2.1 hd (g H locs la hP hD hS hl)
theorem gg_is2 (C : sw_C E own cc nL p s m args c A) {j : Nat} (hd : decode cc pc = .ok (.istore j, 2)) (hn : sw_nl ls j) (hj : j < nL) (g : sw_G l E nL p e R s m args below meth c A k n F (pc + 2) (sw_put ls j (some (.int x))) r σ) : sw_G l E nL p e R s m args below meth c A k n F pc ls (.int x :: r) σ := fun H locs la hP hD hS hl => lv_istore C.1 C.2.1 hd (sw_lh_lv hl) hj rfl (fun la1 hl1 => g H locs la1 hP hD hS (sw_lh_put1 hl hn hl1))
theorem gg_as (C : sw_C E own cc nL p s m args c A) {j : Fin 4} {a : Nat} (hd : decode cc pc = .ok (.astore_n j, 1)) (hn : sw_nl ls j.val) (hj : j.val < nL) (g : sw_G l E nL p e R s m args below meth c A k n F (pc + 1) (sw_put ls j.val (some (.ref a))) r σ) : sw_G l E nL p e R s m args below meth c A k n F pc ls (.ref a :: r) σ := fun H locs la hP hD hS hl => lv_astore_n C.1 C.2.1 hd rfl (sw_lh_lv hl) hj rfl (fun la1 hl1 => g H locs la1 hP hD hS (sw_lh_put1 hl hn hl1))
theorem gg_iinc (C : sw_C E own cc nL p s m args c A) {j : Nat} {i : Int} (hd : decode cc pc = .ok (.iinc j i, 3)) (hv : sw_nth ls j = some (.int x)) (hn : sw_nl ls j) (g : sw_G l E nL p e R s m args below meth c A k n F (pc + 3) (sw_put ls j (some (.int (x + Int32.ofInt i)))) st σ) : sw_G l E nL p e R s m args below meth c A k n F pc ls st σ := by
  intro H locs la hP hD hS hl
  obtain ⟨q, hq⟩ := List.getElem?_of_mem (sw_lh_mem hl hv)
  exact lv_iinc C.1 C.2.1 hd (sw_lh_lv hl) hq rfl (sw_lh_lt hl hv) rfl (fun la1 hl1 => g H locs la1 hP hD hS (sw_lh_put1 hl hn hl1))
theorem gg_goto (C : sw_C E own cc nL p s m args c A) {o : Int} {t : Nat} (hd : decode cc pc = .ok (.goto o, 3)) (ht : (pc : Int) + o = (t : Int)) (g : sw_G l E nL p e R s m args below meth c A k n F t ls st σ) : sw_G l E nL p e R s m args below meth c A k n F pc ls st σ := fun H locs la hP hD hS hl => lv_goto C.1 C.2.1 hd ht (g H locs la hP hD hS hl)
theorem gg_ieq (C : sw_C E own cc nL p s m args c A) {o : Int} {t : Nat} (hd : decode cc pc = .ok (.if_icmp .eq o, 3)) (ht : (pc : Int) + o = (t : Int)) (h1 : x = y → sw_G l E nL p e R s m args below meth c A k n F t ls r σ) (h2 : ¬ x = y → sw_G l E nL p e R s m args below meth c A k n F (pc + 3) ls r σ) : sw_G l E nL p e R s m args below meth c A k n F pc ls (.int y :: .int x :: r) σ := fun H locs la hP hD hS hl => lv_icmp_eq C.1 C.2.1 hd ht (fun q => h1 q H locs la hP hD hS hl) (fun q => h2 q H locs la hP hD hS hl)
theorem gg_igt (C : sw_C E own cc nL p s m args c A) {o : Int} {t : Nat} (hd : decode cc pc = .ok (.if_icmp .gt o, 3)) (ht : (pc : Int) + o = (t : Int)) (h1 : y < x → sw_G l E nL p e R s m args below meth c A k n F t ls r σ) (h2 : ¬ y < x → sw_G l E nL p e R s m args below meth c A k n F (pc + 3) ls r σ) : sw_G l E nL p e R s m args below meth c A k n F pc ls (.int y :: .int x :: r) σ := fun H locs la hP hD hS hl => lv_icmp_gt C.1 C.2.1 hd ht (fun q => h1 q H locs la hP hD hS hl) (fun q => h2 q H locs la hP hD hS hl)
theorem gg_eq (C : sw_C E own cc nL p s m args c A) {o : Int} {t : Nat} (hd : decode cc pc = .ok (.ifCond .eq o, 3)) (ht : (pc : Int) + o = (t : Int)) (h1 : x = 0 → sw_G l E nL p e R s m args below meth c A k n F t ls r σ) (h2 : ¬ x = 0 → sw_G l E nL p e R s m args below meth c A k n F (pc + 3) ls r σ) : sw_G l E nL p e R s m args below meth c A k n F pc ls (.int x :: r) σ := fun H locs la hP hD hS hl => lv_if_eq C.1 C.2.1 hd ht (fun q => h1 q H locs la hP hD hS hl) (fun q => h2 q H locs la hP hD hS hl)
theorem gg_ne (C : sw_C E own cc nL p s m args c A) {o : Int} {t : Nat} (hd : decode cc pc = .ok (.ifCond .ne o, 3)) (ht : (pc : Int) + o = (t : Int)) (h1 : ¬ x = 0 → sw_G l E nL p e R s m args below meth c A k n F t ls r σ) (h2 : x = 0 → sw_G l E nL p e R s m args below meth c A k n F (pc + 3) ls r σ) : sw_G l E nL p e R s m args below meth c A k n F pc ls (.int x :: r) σ := fun H locs la hP hD hS hl => lv_if_ne C.1 C.2.1 hd ht (fun q => h1 q H locs la hP hD hS hl) (fun q => h2 q H locs la hP hD hS hl)
theorem gg_swO (C : sw_C E own cc nL p s m args c A) {dflt lo hi : Int} {offs : Array Int} {len t : Nat} (hd : decode cc pc = .ok (.tableswitch dflt lo hi offs, len)) (hx : x.toInt < lo ∨ hi < x.toInt) (ht : (pc : Int) + dflt = (t : Int)) (g : sw_G l E nL p e R s m args below meth c A k n F t ls r σ) : sw_G l E nL p e R s m args below meth c A k n F pc ls (.int x :: r) σ := fun H locs la hP hD hS hl => lv_tableOut C.1 C.2.1 hd hx ht (g H locs la hP hD hS hl)
theorem gg_swI (C : sw_C E own cc nL p s m args c A) {dflt lo hi o : Int} {offs : Array Int} {len t : Nat} (hd : decode cc pc = .ok (.tableswitch dflt lo hi offs, len)) (h1 : ¬ x.toInt < lo) (h2 : ¬ hi < x.toInt) (ho : offs[(x.toInt - lo).toNat]? = some o) (ht : (pc : Int) + o = (t : Int)) (g : sw_G l E nL p e R s m args below meth c A k n F t ls r σ) : sw_G l E nL p e R s m args below meth c A k n F pc ls (.int x :: r) σ := fun H locs la hP hD hS hl => lv_tableIn C.1 C.2.1 hd h1 h2 ho ht (g H locs la hP hD hS hl)
theorem gg_lald (C : sw_C E own cc nL p s m args c A) {i : Int32} {a : Nat} (hk1 : (sw_kd a).1 = 2) (hin : vp_in i (sw_kd a).2) (hd : decode cc pc = .ok (.laload, 1)) (g : sw_G l E nL p e R s m args below meth c A k n F (pc + 1) ls (.long (σ.2 a i.toNatClampNeg) :: r) σ) : sw_G l E nL p e R s m args below meth c A k n F pc ls (.int i :: .ref a :: r) σ := by
  have hka : sw_kd a = (2, (sw_kd a).2) := by rw [← hk1]
  have hal : a < 112 := sw_kd_lt hka (by decide)
  intro H locs la hP hD hS hl
  have hat := sw_W_at E σ hal
  rw [show sw_ce E σ a = .inl (E.2.2.2.1, (sw_kd a).2, .inr (.inl (σ.2 a))) by simp [sw_ce, hk1]] at hat
  exact va_lald C.1 C.2.1 C.2.2.2.2.2.1 hP a 1 hat rfl hin hd (g H locs la hP hD hS hl)
theorem gg_last (C : sw_C E own cc nL p s m args c A) {i : Int32} {a : Nat} (hk1 : (sw_kd a).1 = 2) (hin : vp_in i (sw_kd a).2) (hd : decode cc pc = .ok (.lastore, 1)) (g : sw_G l E nL p e R s m args below meth c A k n F (pc + 1) ls r (sw_sL σ a (vp_updL (σ.2 a) i.toNatClampNeg u))) : sw_G l E nL p e R s m args below meth c A k n F pc ls (.long u :: .int i :: .ref a :: r) σ := by
  have hka : sw_kd a = (2, (sw_kd a).2) := by rw [← hk1]
  have hal : a < 112 := sw_kd_lt hka (by decide)
  intro H locs la hP hD hS hl
  have hat := sw_W_at E σ hal
  rw [show sw_ce E σ a = .inl (E.2.2.2.1, (sw_kd a).2, .inr (.inl (σ.2 a))) by simp [sw_ce, hk1]] at hat
  refine va_last C.1 C.2.1 C.2.2.2.2.2.1 hP hD hS a 1 hat rfl hin hd (fun H1 locs1 hP1 hD1 hS1 => ?_)
  rw [sw_W_arrL E σ hka] at hP1 hD1
  exact g H1 locs1 la hP1 hD1 hS1 hl
/-- the script, under the name 4000 -/
theorem gg_sld (C : sw_C E own cc nL p s m args c A) {L : Nat} {xs : Nat → Int32} (hX : va_X (E.2.1 4000) L xs s s.heap) (hbl : E.2.1 4000 < s.heap.size) (hbA : ¬ A (E.2.1 4000)) {i : Int32} (hin : vp_in i L) (hd : decode cc pc = .ok (.iaload, 1)) (g : sw_G l E nL p e R s m args below meth c A k n F (pc + 1) ls (.int (xs i.toNatClampNeg) :: r) σ) : sw_G l E nL p e R s m args below meth c A k n F pc ls (.int i :: .ref 4000 :: r) σ := fun H locs la hP hD hS hl => va_sld C.1 C.2.1 hX hbl hbA hS hin hd (g H locs la hP hD hS hl)
theorem gg_slen (C : sw_C E own cc nL p s m args c A) {L : Nat} {xs : Nat → Int32} (hX : va_X (E.2.1 4000) L xs s s.heap) (hbl : E.2.1 4000 < s.heap.size) (hbA : ¬ A (E.2.1 4000)) (hd : decode cc pc = .ok (.arraylength, 1)) (g : sw_G l E nL p e R s m args below meth c A k n F (pc + 1) ls (.int (Int32.ofNat L) :: r) σ) : sw_G l E nL p e R s m args below meth c A k n F pc ls (.ref 4000 :: r) σ := fun H locs la hP hD hS hl => va_slen C.1 C.2.1 hX hbl hbA hS hd (g H locs la hP hD hS hl)
theorem gg_wide {k1 n1 : Nat} (h1 : k ≤ k1) (h2 : n ≤ n1) (g : sw_G l E nL p e R s m args below meth c A k1 n1 F pc ls st σ) : sw_G l E nL p e R s m args below meth c A k n F pc ls st σ := fun H locs la hP hD hS hl => W.widen (k := k1) (n := n1) h1 h2 (g H locs la hP hD hS hl)
/-- a contract's end -/
theorem gg_iret (C : sw_C E own cc nL p s m args c A) {kr : Option Value → sw_M → Prop} (hr : meth.sig.returnType = some .int) (hlocks : meth.locks = false) (hd : decode cc pc = .ok (.ireturn, 1)) (h : kr (some (.int x)) σ) : sw_G l E nL p e R s m args below meth c A k n (MQ below (sw_Q E A kr) args s k n A) pc ls [.int x] σ := fun H locs la hP hD hS hl => W.iret C.1 C.2.1 hr (fun t ht hW => ⟨⟨some (.int x), σ, rfl, h, by rw [ht]; exact hP, hD⟩, hS.F ht⟩) hS.2.2 hd hlocks
end LGR
/-! The law's call of a method of the class that may throw. -/
section LGC
variable {l : Launch} {E : sw_E} {d own nL : Nat} {cc : ByteArray} {p : Program} {e : Env} {R : Room} {s : State} {m : MethodId} {args : Array Value} {below : List Frame} {meth : Method} {c : Code} {A : Nat → Prop} {F : State → Prop} {pc : Nat} {ls : List (Option Value)} {σ : sw_M}
theorem wr_call (C : sw_C E own cc nL p s m args c A) (hRf : d + 1 ≤ R.frames) (hRl : 64 * (d + 1) ≤ R.locals) (hkc : 4 ≤ R.cells) (hkn : 24 ≤ R.slots) {idx mn : Nat} {av r : List Value} {Q : Option Value → sw_M → Prop} {QX : Nat → sw_M → Prop} (hml : sw_ml own idx = some mn) (hmn : mn < 304) (hst : (sw_mo mn).2.1 = false) (hic : sw_isc mn = false) (hlen : av.length = (sw_mo mn).2.2 + 1) (hrec : sw_recv mn av) (hr : r.length ≤ 4) (hc : sw_ConX l E d 4 mn av σ Q QX) (hd : decode cc pc = .ok (.invokevirtual idx, 3))
    (g : ∀ v σ', Q v σ' → sw_G l E nL p e R s m args below meth c A 4 24 F (pc + 3) ls (v.toList ++ r) σ')
    (gx : ∀ (x : Nat) (σ' : sw_M) (H : Heap) (locs : List Loc) (la : Array Slot) (q : Addr) (ce : Cell), QX x σ' → va_P E.1 vwCl (sw_W E σ') H → va_D A (sw_W E σ') → va_S A s.heap H locs → sw_lh E la nL ls → H[q]? = some ce → ce.vm = .none → s.vm.findClass (sw_xn x) = some ce.cls → vx_W p l e R s m args below meth c H locs 4 24 F (F0 m pc la (r.map (sw_c E))) q) :
    sw_G l E nL p e R s m args below meth c A 0 0 F pc ls (av.reverse ++ r) σ := by
  intro H locs la hP hD hS hl
  obtain ⟨hcode, Q0, X0, hQ, hX, hM⟩ := hc
  obtain ⟨w1, w2, w3, w4, w5, w6, w7, w8, w9⟩ := sw_mok hmn
  have hlk : Cond.methodLink (sw_R own) idx (sw_mt mn).1 ∈ sw_T := (sw_ml_ok hml).elim (fun h => h.2) (fun h => absurd h.1 (by omega))
  rw [hst] at w1
  have w2 : Cond.selects (sw_mt mn).1.cls (sw_mt mn).1 (sw_mt mn).1 ∈ sw_T := w2.elim (fun h => by rw [hst] at h; cases h) (fun h => h.elim (fun h => by rw [hic] at h; cases h) id)
  match av, hrec, hlen with
  | .ref a :: as, hrec, hlen =>
    have hrv := sw_rv C hP hS hmn hst hrec
    have hG : GoodIn sw_T (wsV (sw_R own) idx (sw_mt mn).1.cls (sw_mt mn).1 (sw_ws mn)) := by
      intro w hw
      unfold wsV sw_ws at hw
      simp only [List.cons_append, List.nil_append, List.mem_cons] at hw
      have : w ∈ sw_T := by rcases hw with rfl | rfl | rfl | rfl | rfl | h <;> assumption
      exact ⟨this, good_of_word (sw_T_good this)⟩
    have hcw : CallW R s args (sw_R own) (sw_mt mn).1.cls idx (sw_mt mn).1 (sw_mt mn).2.1 (sw_mt mn).2.2.1 (sw_mt mn).2.2.2 (sw_ws mn) (sw_rm d 4) 4 24 (sw_mo mn).2.2 :=
      cwV (sw_mo mn).2.2 C.2.2.2.2.1 hG rfl rfl rfl ⟨rfl, w7, w8, w5⟩ ⟨hRf, by show 8 + ((sw_mt mn).2.2.1 + 11) + 64 * d ≤ R.locals; omega⟩
    have hrun := vx_runV (e := e) (below := below) (meth := meth) (cells := 0) (slots := 0) (locs := locs) (g := F0 m pc la (((Value.ref a :: as).reverse ++ r).map (sw_c E))) (As := as.map (sw_c E)) (rest := r.map (sw_c E)) (b := E.2.1 a) ⟨C.1, C.2.1, C.2.2.1, C.2.2.2.1, C.2.2.2.2.1⟩ (hM H.size) hcw ⟨sw_blind _ σ H.size, hrv, fun U hU hW => ⟨by simp [sw_c], sw_pre C hP hD hS hU hW⟩⟩ rfl (by simpa using hlen) hl.1 (by simp [sw_c]) (lv_room (sw_sum hr)) hd ⟨by omega, by omega⟩
    have hAle := sw_A_le C hS
    have up : ∀ {st₀ t T' : State} {L : List Loc}, st₀.heap = H → T'.heap = t.heap → (∀ z ∈ L, sw_A E H.size z.base) → va_F (sw_A E H.size) st₀ t → va_S A s.heap T'.heap (locs ++ L) := by
      intro st₀ t T' L h0 e1 hL hF
      obtain ⟨hz, hk⟩ := hF
      rw [h0] at hz hk
      refine ⟨by rw [e1]; exact Nat.le_trans hS.1 hz, fun q h1 h2 => ?_, fun z hz => ?_⟩
      · rw [e1, hk q (Nat.lt_of_lt_of_le h1 hS.1) (fun h => h2 (hAle q h))]
        exact hS.2.1 q h1 h2
      · rcases List.mem_append.mp hz with h | h
        · exact hS.2.2 z h
        · exact hAle _ (hL z h)
    intro T hT X
    rcases hrun T hT X with ⟨v, st₀, t, T', L, h0, X', hL, e1, e2, ⟨⟨r9, σ', hv, hq, hP1, hD1⟩, hF⟩, st⟩ | ⟨q, st₀, t, T', L, X9, ce, h0, X', hL, e1, e2, ⟨x, σ', rfl, hq, hP1, hD1, hF⟩, hce, hcv, hcl, st⟩
    · cases hv
      have g9 := g r9 σ' (hQ r9 σ' hq) T'.heap (locs ++ L) la (by rw [e1]; exact hP1) (sw_D_A hD1 (fun k hk => Or.inl ⟨k, hk, rfl⟩) _ C.2.2.2.2.2.2.2.2) (up h0 e1 hL hF) hl
      have e9 : (r9.map (sw_c E)).toList ++ r.map (sw_c E) = (r9.toList ++ r).map (sw_c E) := by cases r9 <;> simp
      rw [← e9] at g9
      obtain ⟨t2, a1, b1⟩ := g9 T' rfl X'
      exact ⟨t2, st t2 a1, b1⟩
    · obtain ⟨t2, a1, b1⟩ := gx x σ' T'.heap (locs ++ L) la q ce (hX x σ' hq) (by rw [e1]; exact hP1) (sw_D_A hD1 (fun k hk => Or.inl ⟨k, hk, rfl⟩) _ C.2.2.2.2.2.2.2.2) (up h0 e1 hL hF) hl (by rw [e1]; exact hce) hcv hcl T' rfl X'
      exact ⟨t2, st.trans a1, b1⟩
end LGC
