/-! The whole walk of the law. -/
set_option maxRecDepth 100000 in
set_option maxHeartbeats 4000000 in
theorem whole_start {p : Program} {e : Env} {s : State} {m : MethodId} {below : List Frame} {meth : Method} {c : Code} (l : Launch) (hl : l.stackTraces = false) {b L : Nat} {xs : Nat → Int32} (hL : L ≤ 3072) (C0 : lw_At p s m meth c b L xs) : W p l e room_1 s m #[Value.ref b] below meth c s.heap [] 0 0 (lw_Z below #[Value.ref b] s) (entryFrame m ([Value.ref b] : List Value).toArray 7) := by
  obtain ⟨E, hE, hEb, hK, hN, hNc, hgN⟩ := hs_E C0
  obtain ⟨hx, hb, hret, hml, hown, hts, hX, hbl, hlocks, -⟩ := C0
  have hts' : ∀ w ∈ sw_T, w.before #[Value.ref b] s = true := fun w hw => hts w (List.mem_filter.mp hw).1
  have hown' : s.vm.findClass (sw_R 12) = some m.cls := hown
  have C : st_C E p s m #[Value.ref b] c := ⟨hx, hb, hml, hown', hts', hK, hgN, hE⟩
  have CC : sw_C E 12 cL_law 7 p s m #[Value.ref b] c (fun q => s.heap.size ≤ q) := ⟨hx, hb, hml, hown', hts', hK, hN, fun q hq => hq, fun k hk => by show s.heap.size ≤ E.2.1 k; rw [hE k hk]; exact Nat.le_add_right _ _⟩
  have KE : ∀ (k n i : Nat) (σ : sw_M), k ≤ 112 + 2048 → n ≤ 39718 + 12288 → sw_G l E 7 p e room_1 s m #[Value.ref b] below meth c (fun q => s.heap.size ≤ q) k n (lw_Z below #[Value.ref b] s) 2207 (lwLS i) [] σ := by
    intro k n i σ hk hn H locs la hP hD hS hla
    refine lv_iconst (v := 1) hx hb (show decode cL_law 2207 = .ok (.iconst 1, 1) from by decide +kernel) (by decide) ?_
    refine va_forget (fun q hq => hS.2.2 q hq) ?_
    refine W.widen (k := 601024) (n := 7293034) (by omega) (by omega) ?_
    exact lw_ret hx hb hret hlocks (show decode code 2208 = .ok (.ireturn, 1) from by decide +kernel)
  have g := law_loop (l := l) (E := E) (e := e) (R := room_1) (below := below) (meth := meth) (F := lw_Z below #[Value.ref b] s) (d := 70) (L := L) (xs := xs) (k0 := 112) (n0 := 39718) hl (by decide) CC (by rw [hEb]; exact hX) (by rw [hEb]; exact hbl) (by show ¬ s.heap.size ≤ E.2.1 4000; rw [hEb]; omega) hNc hL (Nat.le_of_ble_eq_true rfl) (Nat.le_of_ble_eq_true rfl) (Nat.le_of_ble_eq_true rfl) (Nat.le_of_ble_eq_true rfl) KE (L + 1) 0 (sgm 4096) INV_0 (Nat.zero_le _) (by omega)
  have hw := st_walk (l := l) (e := e) (R := room_1) (below := below) (meth := meth) (F := lw_Z below #[Value.ref b] s) C (Nat.le_of_ble_eq_true rfl) (Nat.le_of_ble_eq_true rfl) (Nat.le_of_ble_eq_true rfl) (Nat.le_of_ble_eq_true rfl) g
  have hl2 := sw_lh_entry (E := E) (av := [.ref 4000]) (nL := 7) (by intro w hw; simp only [List.mem_cons, List.not_mem_nil, or_false] at hw; rw [hw]; rfl) (by decide)
  have e1 : [Value.ref b] = ([.ref 4000] : List Value).map (sw_c E) := by
    show [Value.ref b] = [Value.ref (E.2.1 4000)]
    rw [hEb]
  rw [← e1] at hl2
  rw [lg_entry_eq]
  exact hw s.heap [] _ (fun k q hq => by cases hq) va_S.rf hl2
