/-! Switches, case by case. -/
section
variable {l : Launch} {E : sw_E} {d : Nat} {kr : Option Value → sw_M → Prop} {kx : Nat → sw_M → Prop} {b : Nat} {ls : List (Option Value)} {st : List Value} {σ : sw_M}
theorem vX5_join_1_c7 : vX5_join l E d kr kx b 1 ls (.int 7 :: st) σ ↔ vX5_join l E d kr kx b 48 ls st σ := by
  rw [vX5_join_1, wI]
  constructor
  · intro h
    obtain ⟨o, ho, hj⟩ := h.2 (by decide) (by decide)
    have ho := (show _ = some (47 : Int) from by decide +kernel).symm.trans ho
    cases ho
    exact (sw_j_eq (t := 48) (by decide)).mp hj
  · intro h
    exact ⟨fun c => absurd c (by decide), fun _ _ => ⟨47, by decide +kernel, (sw_j_eq (t := 48) (by decide)).mpr h⟩⟩
theorem vX5_join_1_c8 : vX5_join l E d kr kx b 1 ls (.int 8 :: st) σ ↔ vX5_join l E d kr kx b 52 ls st σ := by
  rw [vX5_join_1, wI]
  constructor
  · intro h
    obtain ⟨o, ho, hj⟩ := h.2 (by decide) (by decide)
    have ho := (show _ = some (51 : Int) from by decide +kernel).symm.trans ho
    cases ho
    exact (sw_j_eq (t := 52) (by decide)).mp hj
  · intro h
    exact ⟨fun c => absurd c (by decide), fun _ _ => ⟨51, by decide +kernel, (sw_j_eq (t := 52) (by decide)).mpr h⟩⟩
theorem vX5_join_1_c9 : vX5_join l E d kr kx b 1 ls (.int 9 :: st) σ ↔ vX5_join l E d kr kx b 56 ls st σ := by
  rw [vX5_join_1, wI]
  constructor
  · intro h
    obtain ⟨o, ho, hj⟩ := h.2 (by decide) (by decide)
    have ho := (show _ = some (55 : Int) from by decide +kernel).symm.trans ho
    cases ho
    exact (sw_j_eq (t := 56) (by decide)).mp hj
  · intro h
    exact ⟨fun c => absurd c (by decide), fun _ _ => ⟨55, by decide +kernel, (sw_j_eq (t := 56) (by decide)).mpr h⟩⟩
theorem vX5_join_1_c10 : vX5_join l E d kr kx b 1 ls (.int 10 :: st) σ ↔ vX5_join l E d kr kx b 60 ls st σ := by
  rw [vX5_join_1, wI]
  constructor
  · intro h
    obtain ⟨o, ho, hj⟩ := h.2 (by decide) (by decide)
    have ho := (show _ = some (59 : Int) from by decide +kernel).symm.trans ho
    cases ho
    exact (sw_j_eq (t := 60) (by decide)).mp hj
  · intro h
    exact ⟨fun c => absurd c (by decide), fun _ _ => ⟨59, by decide +kernel, (sw_j_eq (t := 60) (by decide)).mpr h⟩⟩
theorem vX5_join_1_c11 : vX5_join l E d kr kx b 1 ls (.int 11 :: st) σ ↔ vX5_join l E d kr kx b 72 ls st σ := by
  rw [vX5_join_1, wI]
  constructor
  · intro h
    obtain ⟨o, ho, hj⟩ := h.2 (by decide) (by decide)
    have ho := (show _ = some (71 : Int) from by decide +kernel).symm.trans ho
    cases ho
    exact (sw_j_eq (t := 72) (by decide)).mp hj
  · intro h
    exact ⟨fun c => absurd c (by decide), fun _ _ => ⟨71, by decide +kernel, (sw_j_eq (t := 72) (by decide)).mpr h⟩⟩
theorem vX5_join_1_c12 : vX5_join l E d kr kx b 1 ls (.int 12 :: st) σ ↔ vX5_join l E d kr kx b 83 ls st σ := by
  rw [vX5_join_1, wI]
  constructor
  · intro h
    obtain ⟨o, ho, hj⟩ := h.2 (by decide) (by decide)
    have ho := (show _ = some (82 : Int) from by decide +kernel).symm.trans ho
    cases ho
    exact (sw_j_eq (t := 83) (by decide)).mp hj
  · intro h
    exact ⟨fun c => absurd c (by decide), fun _ _ => ⟨82, by decide +kernel, (sw_j_eq (t := 83) (by decide)).mpr h⟩⟩
theorem vX5_join_1_c13 : vX5_join l E d kr kx b 1 ls (.int 13 :: st) σ ↔ vX5_join l E d kr kx b 108 ls st σ := by
  rw [vX5_join_1, wI]
  constructor
  · intro h
    obtain ⟨o, ho, hj⟩ := h.2 (by decide) (by decide)
    have ho := (show _ = some (107 : Int) from by decide +kernel).symm.trans ho
    cases ho
    exact (sw_j_eq (t := 108) (by decide)).mp hj
  · intro h
    exact ⟨fun c => absurd c (by decide), fun _ _ => ⟨107, by decide +kernel, (sw_j_eq (t := 108) (by decide)).mpr h⟩⟩
theorem vX5_join_1_c14 : vX5_join l E d kr kx b 1 ls (.int 14 :: st) σ ↔ vX5_join l E d kr kx b 94 ls st σ := by
  rw [vX5_join_1, wI]
  constructor
  · intro h
    obtain ⟨o, ho, hj⟩ := h.2 (by decide) (by decide)
    have ho := (show _ = some (93 : Int) from by decide +kernel).symm.trans ho
    cases ho
    exact (sw_j_eq (t := 94) (by decide)).mp hj
  · intro h
    exact ⟨fun c => absurd c (by decide), fun _ _ => ⟨93, by decide +kernel, (sw_j_eq (t := 94) (by decide)).mpr h⟩⟩
theorem vX5_join_1_d {x : Int32} (h : x.toInt < 7 ∨ 14 < x.toInt) : vX5_join l E d kr kx b 1 ls (.int x :: st) σ ↔ vX5_join l E d kr kx b 108 ls st σ := by
  rw [vX5_join_1, wI]
  refine ⟨fun q => q.1 h, fun q => ⟨fun _ => q, fun h1 h2 => ?_⟩⟩
  rcases h with h | h
  · exact absurd h h1
  · exact absurd h h2
theorem vX8_undoLast_48_c0 : vX8_undoLast l E d kr kx b 48 ls (.int 0 :: st) σ ↔ vX8_undoLast l E d kr kx b 80 ls st σ := by
  rw [vX8_undoLast_48, wI]
  constructor
  · intro h
    obtain ⟨o, ho, hj⟩ := h.2 (by decide) (by decide)
    have ho := (show _ = some (32 : Int) from by decide +kernel).symm.trans ho
    cases ho
    exact (sw_j_eq (t := 80) (by decide)).mp hj
  · intro h
    exact ⟨fun c => absurd c (by decide), fun _ _ => ⟨32, by decide +kernel, (sw_j_eq (t := 80) (by decide)).mpr h⟩⟩
theorem vX8_undoLast_48_c1 : vX8_undoLast l E d kr kx b 48 ls (.int 1 :: st) σ ↔ vX8_undoLast l E d kr kx b 97 ls st σ := by
  rw [vX8_undoLast_48, wI]
  constructor
  · intro h
    obtain ⟨o, ho, hj⟩ := h.2 (by decide) (by decide)
    have ho := (show _ = some (49 : Int) from by decide +kernel).symm.trans ho
    cases ho
    exact (sw_j_eq (t := 97) (by decide)).mp hj
  · intro h
    exact ⟨fun c => absurd c (by decide), fun _ _ => ⟨49, by decide +kernel, (sw_j_eq (t := 97) (by decide)).mpr h⟩⟩
theorem vX8_undoLast_48_c2 : vX8_undoLast l E d kr kx b 48 ls (.int 2 :: st) σ ↔ vX8_undoLast l E d kr kx b 119 ls st σ := by
  rw [vX8_undoLast_48, wI]
  constructor
  · intro h
    obtain ⟨o, ho, hj⟩ := h.2 (by decide) (by decide)
    have ho := (show _ = some (71 : Int) from by decide +kernel).symm.trans ho
    cases ho
    exact (sw_j_eq (t := 119) (by decide)).mp hj
  · intro h
    exact ⟨fun c => absurd c (by decide), fun _ _ => ⟨71, by decide +kernel, (sw_j_eq (t := 119) (by decide)).mpr h⟩⟩
theorem vX8_undoLast_48_c3 : vX8_undoLast l E d kr kx b 48 ls (.int 3 :: st) σ ↔ vX8_undoLast l E d kr kx b 129 ls st σ := by
  rw [vX8_undoLast_48, wI]
  constructor
  · intro h
    obtain ⟨o, ho, hj⟩ := h.2 (by decide) (by decide)
    have ho := (show _ = some (81 : Int) from by decide +kernel).symm.trans ho
    cases ho
    exact (sw_j_eq (t := 129) (by decide)).mp hj
  · intro h
    exact ⟨fun c => absurd c (by decide), fun _ _ => ⟨81, by decide +kernel, (sw_j_eq (t := 129) (by decide)).mpr h⟩⟩
theorem vX8_undoLast_48_d {x : Int32} (h : x.toInt < 0 ∨ 3 < x.toInt) : vX8_undoLast l E d kr kx b 48 ls (.int x :: st) σ ↔ vX8_undoLast l E d kr kx b 139 ls st σ := by
  rw [vX8_undoLast_48, wI]
  refine ⟨fun q => q.1 h, fun q => ⟨fun _ => q, fun h1 h2 => ?_⟩⟩
  rcases h with h | h
  · exact absurd h h1
  · exact absurd h h2
theorem vX10_count_1_c0 : vX10_count l E d kr kx b 1 ls (.int 0 :: st) σ ↔ vX10_count l E d kr kx b 84 ls st σ := by
  rw [vX10_count_1, wI]
  constructor
  · intro h
    obtain ⟨o, ho, hj⟩ := h.2 (by decide) (by decide)
    have ho := (show _ = some (83 : Int) from by decide +kernel).symm.trans ho
    cases ho
    exact (sw_j_eq (t := 84) (by decide)).mp hj
  · intro h
    exact ⟨fun c => absurd c (by decide), fun _ _ => ⟨83, by decide +kernel, (sw_j_eq (t := 84) (by decide)).mpr h⟩⟩
theorem vX10_count_1_c1 : vX10_count l E d kr kx b 1 ls (.int 1 :: st) σ ↔ vX10_count l E d kr kx b 92 ls st σ := by
  rw [vX10_count_1, wI]
  constructor
  · intro h
    obtain ⟨o, ho, hj⟩ := h.2 (by decide) (by decide)
    have ho := (show _ = some (91 : Int) from by decide +kernel).symm.trans ho
    cases ho
    exact (sw_j_eq (t := 92) (by decide)).mp hj
  · intro h
    exact ⟨fun c => absurd c (by decide), fun _ _ => ⟨91, by decide +kernel, (sw_j_eq (t := 92) (by decide)).mpr h⟩⟩
theorem vX10_count_1_c2 : vX10_count l E d kr kx b 1 ls (.int 2 :: st) σ ↔ vX10_count l E d kr kx b 100 ls st σ := by
  rw [vX10_count_1, wI]
  constructor
  · intro h
    obtain ⟨o, ho, hj⟩ := h.2 (by decide) (by decide)
    have ho := (show _ = some (99 : Int) from by decide +kernel).symm.trans ho
    cases ho
    exact (sw_j_eq (t := 100) (by decide)).mp hj
  · intro h
    exact ⟨fun c => absurd c (by decide), fun _ _ => ⟨99, by decide +kernel, (sw_j_eq (t := 100) (by decide)).mpr h⟩⟩
theorem vX10_count_1_c3 : vX10_count l E d kr kx b 1 ls (.int 3 :: st) σ ↔ vX10_count l E d kr kx b 108 ls st σ := by
  rw [vX10_count_1, wI]
  constructor
  · intro h
    obtain ⟨o, ho, hj⟩ := h.2 (by decide) (by decide)
    have ho := (show _ = some (107 : Int) from by decide +kernel).symm.trans ho
    cases ho
    exact (sw_j_eq (t := 108) (by decide)).mp hj
  · intro h
    exact ⟨fun c => absurd c (by decide), fun _ _ => ⟨107, by decide +kernel, (sw_j_eq (t := 108) (by decide)).mpr h⟩⟩
theorem vX10_count_1_c4 : vX10_count l E d kr kx b 1 ls (.int 4 :: st) σ ↔ vX10_count l E d kr kx b 116 ls st σ := by
  rw [vX10_count_1, wI]
  constructor
  · intro h
    obtain ⟨o, ho, hj⟩ := h.2 (by decide) (by decide)
    have ho := (show _ = some (115 : Int) from by decide +kernel).symm.trans ho
    cases ho
    exact (sw_j_eq (t := 116) (by decide)).mp hj
  · intro h
    exact ⟨fun c => absurd c (by decide), fun _ _ => ⟨115, by decide +kernel, (sw_j_eq (t := 116) (by decide)).mpr h⟩⟩
theorem vX10_count_1_c5 : vX10_count l E d kr kx b 1 ls (.int 5 :: st) σ ↔ vX10_count l E d kr kx b 124 ls st σ := by
  rw [vX10_count_1, wI]
  constructor
  · intro h
    obtain ⟨o, ho, hj⟩ := h.2 (by decide) (by decide)
    have ho := (show _ = some (123 : Int) from by decide +kernel).symm.trans ho
    cases ho
    exact (sw_j_eq (t := 124) (by decide)).mp hj
  · intro h
    exact ⟨fun c => absurd c (by decide), fun _ _ => ⟨123, by decide +kernel, (sw_j_eq (t := 124) (by decide)).mpr h⟩⟩
theorem vX10_count_1_c6 : vX10_count l E d kr kx b 1 ls (.int 6 :: st) σ ↔ vX10_count l E d kr kx b 132 ls st σ := by
  rw [vX10_count_1, wI]
  constructor
  · intro h
    obtain ⟨o, ho, hj⟩ := h.2 (by decide) (by decide)
    have ho := (show _ = some (131 : Int) from by decide +kernel).symm.trans ho
    cases ho
    exact (sw_j_eq (t := 132) (by decide)).mp hj
  · intro h
    exact ⟨fun c => absurd c (by decide), fun _ _ => ⟨131, by decide +kernel, (sw_j_eq (t := 132) (by decide)).mpr h⟩⟩
theorem vX10_count_1_c7 : vX10_count l E d kr kx b 1 ls (.int 7 :: st) σ ↔ vX10_count l E d kr kx b 137 ls st σ := by
  rw [vX10_count_1, wI]
  constructor
  · intro h
    obtain ⟨o, ho, hj⟩ := h.2 (by decide) (by decide)
    have ho := (show _ = some (136 : Int) from by decide +kernel).symm.trans ho
    cases ho
    exact (sw_j_eq (t := 137) (by decide)).mp hj
  · intro h
    exact ⟨fun c => absurd c (by decide), fun _ _ => ⟨136, by decide +kernel, (sw_j_eq (t := 137) (by decide)).mpr h⟩⟩
theorem vX10_count_1_c8 : vX10_count l E d kr kx b 1 ls (.int 8 :: st) σ ↔ vX10_count l E d kr kx b 150 ls st σ := by
  rw [vX10_count_1, wI]
  constructor
  · intro h
    obtain ⟨o, ho, hj⟩ := h.2 (by decide) (by decide)
    have ho := (show _ = some (149 : Int) from by decide +kernel).symm.trans ho
    cases ho
    exact (sw_j_eq (t := 150) (by decide)).mp hj
  · intro h
    exact ⟨fun c => absurd c (by decide), fun _ _ => ⟨149, by decide +kernel, (sw_j_eq (t := 150) (by decide)).mpr h⟩⟩
theorem vX10_count_1_c9 : vX10_count l E d kr kx b 1 ls (.int 9 :: st) σ ↔ vX10_count l E d kr kx b 165 ls st σ := by
  rw [vX10_count_1, wI]
  constructor
  · intro h
    obtain ⟨o, ho, hj⟩ := h.2 (by decide) (by decide)
    have ho := (show _ = some (164 : Int) from by decide +kernel).symm.trans ho
    cases ho
    exact (sw_j_eq (t := 165) (by decide)).mp hj
  · intro h
    exact ⟨fun c => absurd c (by decide), fun _ _ => ⟨164, by decide +kernel, (sw_j_eq (t := 165) (by decide)).mpr h⟩⟩
theorem vX10_count_1_c10 : vX10_count l E d kr kx b 1 ls (.int 10 :: st) σ ↔ vX10_count l E d kr kx b 173 ls st σ := by
  rw [vX10_count_1, wI]
  constructor
  · intro h
    obtain ⟨o, ho, hj⟩ := h.2 (by decide) (by decide)
    have ho := (show _ = some (172 : Int) from by decide +kernel).symm.trans ho
    cases ho
    exact (sw_j_eq (t := 173) (by decide)).mp hj
  · intro h
    exact ⟨fun c => absurd c (by decide), fun _ _ => ⟨172, by decide +kernel, (sw_j_eq (t := 173) (by decide)).mpr h⟩⟩
theorem vX10_count_1_c11 : vX10_count l E d kr kx b 1 ls (.int 11 :: st) σ ↔ vX10_count l E d kr kx b 181 ls st σ := by
  rw [vX10_count_1, wI]
  constructor
  · intro h
    obtain ⟨o, ho, hj⟩ := h.2 (by decide) (by decide)
    have ho := (show _ = some (180 : Int) from by decide +kernel).symm.trans ho
    cases ho
    exact (sw_j_eq (t := 181) (by decide)).mp hj
  · intro h
    exact ⟨fun c => absurd c (by decide), fun _ _ => ⟨180, by decide +kernel, (sw_j_eq (t := 181) (by decide)).mpr h⟩⟩
theorem vX10_count_1_c12 : vX10_count l E d kr kx b 1 ls (.int 12 :: st) σ ↔ vX10_count l E d kr kx b 192 ls st σ := by
  rw [vX10_count_1, wI]
  constructor
  · intro h
    obtain ⟨o, ho, hj⟩ := h.2 (by decide) (by decide)
    have ho := (show _ = some (191 : Int) from by decide +kernel).symm.trans ho
    cases ho
    exact (sw_j_eq (t := 192) (by decide)).mp hj
  · intro h
    exact ⟨fun c => absurd c (by decide), fun _ _ => ⟨191, by decide +kernel, (sw_j_eq (t := 192) (by decide)).mpr h⟩⟩
theorem vX10_count_1_c13 : vX10_count l E d kr kx b 1 ls (.int 13 :: st) σ ↔ vX10_count l E d kr kx b 197 ls st σ := by
  rw [vX10_count_1, wI]
  constructor
  · intro h
    obtain ⟨o, ho, hj⟩ := h.2 (by decide) (by decide)
    have ho := (show _ = some (196 : Int) from by decide +kernel).symm.trans ho
    cases ho
    exact (sw_j_eq (t := 197) (by decide)).mp hj
  · intro h
    exact ⟨fun c => absurd c (by decide), fun _ _ => ⟨196, by decide +kernel, (sw_j_eq (t := 197) (by decide)).mpr h⟩⟩
theorem vX10_count_1_c14 : vX10_count l E d kr kx b 1 ls (.int 14 :: st) σ ↔ vX10_count l E d kr kx b 202 ls st σ := by
  rw [vX10_count_1, wI]
  constructor
  · intro h
    obtain ⟨o, ho, hj⟩ := h.2 (by decide) (by decide)
    have ho := (show _ = some (201 : Int) from by decide +kernel).symm.trans ho
    cases ho
    exact (sw_j_eq (t := 202) (by decide)).mp hj
  · intro h
    exact ⟨fun c => absurd c (by decide), fun _ _ => ⟨201, by decide +kernel, (sw_j_eq (t := 202) (by decide)).mpr h⟩⟩
theorem vX10_count_1_c15 : vX10_count l E d kr kx b 1 ls (.int 15 :: st) σ ↔ vX10_count l E d kr kx b 207 ls st σ := by
  rw [vX10_count_1, wI]
  constructor
  · intro h
    obtain ⟨o, ho, hj⟩ := h.2 (by decide) (by decide)
    have ho := (show _ = some (206 : Int) from by decide +kernel).symm.trans ho
    cases ho
    exact (sw_j_eq (t := 207) (by decide)).mp hj
  · intro h
    exact ⟨fun c => absurd c (by decide), fun _ _ => ⟨206, by decide +kernel, (sw_j_eq (t := 207) (by decide)).mpr h⟩⟩
theorem vX10_count_1_c16 : vX10_count l E d kr kx b 1 ls (.int 16 :: st) σ ↔ vX10_count l E d kr kx b 222 ls st σ := by
  rw [vX10_count_1, wI]
  constructor
  · intro h
    obtain ⟨o, ho, hj⟩ := h.2 (by decide) (by decide)
    have ho := (show _ = some (221 : Int) from by decide +kernel).symm.trans ho
    cases ho
    exact (sw_j_eq (t := 222) (by decide)).mp hj
  · intro h
    exact ⟨fun c => absurd c (by decide), fun _ _ => ⟨221, by decide +kernel, (sw_j_eq (t := 222) (by decide)).mpr h⟩⟩
theorem vX10_count_1_d {x : Int32} (h : x.toInt < 0 ∨ 16 < x.toInt) : vX10_count l E d kr kx b 1 ls (.int x :: st) σ ↔ vX10_count l E d kr kx b 230 ls st σ := by
  rw [vX10_count_1, wI]
  refine ⟨fun q => q.1 h, fun q => ⟨fun _ => q, fun h1 h2 => ?_⟩⟩
  rcases h with h | h
  · exact absurd h h1
  · exact absurd h h2
theorem vX10_one_6_c0 : vX10_one l E d kr kx b 6 ls (.int 0 :: st) σ ↔ vX10_one l E d kr kx b 44 ls st σ := by
  rw [vX10_one_6, wI]
  constructor
  · intro h
    obtain ⟨o, ho, hj⟩ := h.2 (by decide) (by decide)
    have ho := (show _ = some (38 : Int) from by decide +kernel).symm.trans ho
    cases ho
    exact (sw_j_eq (t := 44) (by decide)).mp hj
  · intro h
    exact ⟨fun c => absurd c (by decide), fun _ _ => ⟨38, by decide +kernel, (sw_j_eq (t := 44) (by decide)).mpr h⟩⟩
theorem vX10_one_6_c1 : vX10_one l E d kr kx b 6 ls (.int 1 :: st) σ ↔ vX10_one l E d kr kx b 54 ls st σ := by
  rw [vX10_one_6, wI]
  constructor
  · intro h
    obtain ⟨o, ho, hj⟩ := h.2 (by decide) (by decide)
    have ho := (show _ = some (48 : Int) from by decide +kernel).symm.trans ho
    cases ho
    exact (sw_j_eq (t := 54) (by decide)).mp hj
  · intro h
    exact ⟨fun c => absurd c (by decide), fun _ _ => ⟨48, by decide +kernel, (sw_j_eq (t := 54) (by decide)).mpr h⟩⟩
theorem vX10_one_6_c2 : vX10_one l E d kr kx b 6 ls (.int 2 :: st) σ ↔ vX10_one l E d kr kx b 64 ls st σ := by
  rw [vX10_one_6, wI]
  constructor
  · intro h
    obtain ⟨o, ho, hj⟩ := h.2 (by decide) (by decide)
    have ho := (show _ = some (58 : Int) from by decide +kernel).symm.trans ho
    cases ho
    exact (sw_j_eq (t := 64) (by decide)).mp hj
  · intro h
    exact ⟨fun c => absurd c (by decide), fun _ _ => ⟨58, by decide +kernel, (sw_j_eq (t := 64) (by decide)).mpr h⟩⟩
theorem vX10_one_6_c3 : vX10_one l E d kr kx b 6 ls (.int 3 :: st) σ ↔ vX10_one l E d kr kx b 74 ls st σ := by
  rw [vX10_one_6, wI]
  constructor
  · intro h
    obtain ⟨o, ho, hj⟩ := h.2 (by decide) (by decide)
    have ho := (show _ = some (68 : Int) from by decide +kernel).symm.trans ho
    cases ho
    exact (sw_j_eq (t := 74) (by decide)).mp hj
  · intro h
    exact ⟨fun c => absurd c (by decide), fun _ _ => ⟨68, by decide +kernel, (sw_j_eq (t := 74) (by decide)).mpr h⟩⟩
theorem vX10_one_6_c4 : vX10_one l E d kr kx b 6 ls (.int 4 :: st) σ ↔ vX10_one l E d kr kx b 86 ls st σ := by
  rw [vX10_one_6, wI]
  constructor
  · intro h
    obtain ⟨o, ho, hj⟩ := h.2 (by decide) (by decide)
    have ho := (show _ = some (80 : Int) from by decide +kernel).symm.trans ho
    cases ho
    exact (sw_j_eq (t := 86) (by decide)).mp hj
  · intro h
    exact ⟨fun c => absurd c (by decide), fun _ _ => ⟨80, by decide +kernel, (sw_j_eq (t := 86) (by decide)).mpr h⟩⟩
theorem vX10_one_6_c5 : vX10_one l E d kr kx b 6 ls (.int 5 :: st) σ ↔ vX10_one l E d kr kx b 95 ls st σ := by
  rw [vX10_one_6, wI]
  constructor
  · intro h
    obtain ⟨o, ho, hj⟩ := h.2 (by decide) (by decide)
    have ho := (show _ = some (89 : Int) from by decide +kernel).symm.trans ho
    cases ho
    exact (sw_j_eq (t := 95) (by decide)).mp hj
  · intro h
    exact ⟨fun c => absurd c (by decide), fun _ _ => ⟨89, by decide +kernel, (sw_j_eq (t := 95) (by decide)).mpr h⟩⟩
theorem vX10_one_6_d {x : Int32} (h : x.toInt < 0 ∨ 5 < x.toInt) : vX10_one l E d kr kx b 6 ls (.int x :: st) σ ↔ vX10_one l E d kr kx b 104 ls st σ := by
  rw [vX10_one_6, wI]
  refine ⟨fun q => q.1 h, fun q => ⟨fun _ => q, fun h1 h2 => ?_⟩⟩
  rcases h with h | h
  · exact absurd h h1
  · exact absurd h h2
theorem vX10_work_26_c0 : vX10_work l E d kr kx b 26 ls (.int 0 :: st) σ ↔ vX10_work l E d kr kx b 64 ls st σ := by
  rw [vX10_work_26, wI]
  constructor
  · intro h
    obtain ⟨o, ho, hj⟩ := h.2 (by decide) (by decide)
    have ho := (show _ = some (38 : Int) from by decide +kernel).symm.trans ho
    cases ho
    exact (sw_j_eq (t := 64) (by decide)).mp hj
  · intro h
    exact ⟨fun c => absurd c (by decide), fun _ _ => ⟨38, by decide +kernel, (sw_j_eq (t := 64) (by decide)).mpr h⟩⟩
theorem vX10_work_26_c1 : vX10_work l E d kr kx b 26 ls (.int 1 :: st) σ ↔ vX10_work l E d kr kx b 74 ls st σ := by
  rw [vX10_work_26, wI]
  constructor
  · intro h
    obtain ⟨o, ho, hj⟩ := h.2 (by decide) (by decide)
    have ho := (show _ = some (48 : Int) from by decide +kernel).symm.trans ho
    cases ho
    exact (sw_j_eq (t := 74) (by decide)).mp hj
  · intro h
    exact ⟨fun c => absurd c (by decide), fun _ _ => ⟨48, by decide +kernel, (sw_j_eq (t := 74) (by decide)).mpr h⟩⟩
theorem vX10_work_26_c2 : vX10_work l E d kr kx b 26 ls (.int 2 :: st) σ ↔ vX10_work l E d kr kx b 84 ls st σ := by
  rw [vX10_work_26, wI]
  constructor
  · intro h
    obtain ⟨o, ho, hj⟩ := h.2 (by decide) (by decide)
    have ho := (show _ = some (58 : Int) from by decide +kernel).symm.trans ho
    cases ho
    exact (sw_j_eq (t := 84) (by decide)).mp hj
  · intro h
    exact ⟨fun c => absurd c (by decide), fun _ _ => ⟨58, by decide +kernel, (sw_j_eq (t := 84) (by decide)).mpr h⟩⟩
theorem vX10_work_26_c3 : vX10_work l E d kr kx b 26 ls (.int 3 :: st) σ ↔ vX10_work l E d kr kx b 94 ls st σ := by
  rw [vX10_work_26, wI]
  constructor
  · intro h
    obtain ⟨o, ho, hj⟩ := h.2 (by decide) (by decide)
    have ho := (show _ = some (68 : Int) from by decide +kernel).symm.trans ho
    cases ho
    exact (sw_j_eq (t := 94) (by decide)).mp hj
  · intro h
    exact ⟨fun c => absurd c (by decide), fun _ _ => ⟨68, by decide +kernel, (sw_j_eq (t := 94) (by decide)).mpr h⟩⟩
theorem vX10_work_26_c4 : vX10_work l E d kr kx b 26 ls (.int 4 :: st) σ ↔ vX10_work l E d kr kx b 104 ls st σ := by
  rw [vX10_work_26, wI]
  constructor
  · intro h
    obtain ⟨o, ho, hj⟩ := h.2 (by decide) (by decide)
    have ho := (show _ = some (78 : Int) from by decide +kernel).symm.trans ho
    cases ho
    exact (sw_j_eq (t := 104) (by decide)).mp hj
  · intro h
    exact ⟨fun c => absurd c (by decide), fun _ _ => ⟨78, by decide +kernel, (sw_j_eq (t := 104) (by decide)).mpr h⟩⟩
theorem vX10_work_26_c5 : vX10_work l E d kr kx b 26 ls (.int 5 :: st) σ ↔ vX10_work l E d kr kx b 114 ls st σ := by
  rw [vX10_work_26, wI]
  constructor
  · intro h
    obtain ⟨o, ho, hj⟩ := h.2 (by decide) (by decide)
    have ho := (show _ = some (88 : Int) from by decide +kernel).symm.trans ho
    cases ho
    exact (sw_j_eq (t := 114) (by decide)).mp hj
  · intro h
    exact ⟨fun c => absurd c (by decide), fun _ _ => ⟨88, by decide +kernel, (sw_j_eq (t := 114) (by decide)).mpr h⟩⟩
theorem vX10_work_26_d {x : Int32} (h : x.toInt < 0 ∨ 5 < x.toInt) : vX10_work l E d kr kx b 26 ls (.int x :: st) σ ↔ vX10_work l E d kr kx b 138 ls st σ := by
  rw [vX10_work_26, wI]
  refine ⟨fun q => q.1 h, fun q => ⟨fun _ => q, fun h1 h2 => ?_⟩⟩
  rcases h with h | h
  · exact absurd h h1
  · exact absurd h h2
theorem vX11_letters_1_c0 : vX11_letters l E d kr kx b 1 ls (.int 0 :: st) σ ↔ vX11_letters l E d kr kx b 68 ls st σ := by
  rw [vX11_letters_1, wI]
  constructor
  · intro h
    obtain ⟨o, ho, hj⟩ := h.2 (by decide) (by decide)
    have ho := (show _ = some (67 : Int) from by decide +kernel).symm.trans ho
    cases ho
    exact (sw_j_eq (t := 68) (by decide)).mp hj
  · intro h
    exact ⟨fun c => absurd c (by decide), fun _ _ => ⟨67, by decide +kernel, (sw_j_eq (t := 68) (by decide)).mpr h⟩⟩
theorem vX11_letters_1_c1 : vX11_letters l E d kr kx b 1 ls (.int 1 :: st) σ ↔ vX11_letters l E d kr kx b 100 ls st σ := by
  rw [vX11_letters_1, wI]
  constructor
  · intro h
    obtain ⟨o, ho, hj⟩ := h.2 (by decide) (by decide)
    have ho := (show _ = some (99 : Int) from by decide +kernel).symm.trans ho
    cases ho
    exact (sw_j_eq (t := 100) (by decide)).mp hj
  · intro h
    exact ⟨fun c => absurd c (by decide), fun _ _ => ⟨99, by decide +kernel, (sw_j_eq (t := 100) (by decide)).mpr h⟩⟩
theorem vX11_letters_1_c2 : vX11_letters l E d kr kx b 1 ls (.int 2 :: st) σ ↔ vX11_letters l E d kr kx b 116 ls st σ := by
  rw [vX11_letters_1, wI]
  constructor
  · intro h
    obtain ⟨o, ho, hj⟩ := h.2 (by decide) (by decide)
    have ho := (show _ = some (115 : Int) from by decide +kernel).symm.trans ho
    cases ho
    exact (sw_j_eq (t := 116) (by decide)).mp hj
  · intro h
    exact ⟨fun c => absurd c (by decide), fun _ _ => ⟨115, by decide +kernel, (sw_j_eq (t := 116) (by decide)).mpr h⟩⟩
theorem vX11_letters_1_c3 : vX11_letters l E d kr kx b 1 ls (.int 3 :: st) σ ↔ vX11_letters l E d kr kx b 130 ls st σ := by
  rw [vX11_letters_1, wI]
  constructor
  · intro h
    obtain ⟨o, ho, hj⟩ := h.2 (by decide) (by decide)
    have ho := (show _ = some (129 : Int) from by decide +kernel).symm.trans ho
    cases ho
    exact (sw_j_eq (t := 130) (by decide)).mp hj
  · intro h
    exact ⟨fun c => absurd c (by decide), fun _ _ => ⟨129, by decide +kernel, (sw_j_eq (t := 130) (by decide)).mpr h⟩⟩
theorem vX11_letters_1_c4 : vX11_letters l E d kr kx b 1 ls (.int 4 :: st) σ ↔ vX11_letters l E d kr kx b 144 ls st σ := by
  rw [vX11_letters_1, wI]
  constructor
  · intro h
    obtain ⟨o, ho, hj⟩ := h.2 (by decide) (by decide)
    have ho := (show _ = some (143 : Int) from by decide +kernel).symm.trans ho
    cases ho
    exact (sw_j_eq (t := 144) (by decide)).mp hj
  · intro h
    exact ⟨fun c => absurd c (by decide), fun _ _ => ⟨143, by decide +kernel, (sw_j_eq (t := 144) (by decide)).mpr h⟩⟩
theorem vX11_letters_1_c5 : vX11_letters l E d kr kx b 1 ls (.int 5 :: st) σ ↔ vX11_letters l E d kr kx b 159 ls st σ := by
  rw [vX11_letters_1, wI]
  constructor
  · intro h
    obtain ⟨o, ho, hj⟩ := h.2 (by decide) (by decide)
    have ho := (show _ = some (158 : Int) from by decide +kernel).symm.trans ho
    cases ho
    exact (sw_j_eq (t := 159) (by decide)).mp hj
  · intro h
    exact ⟨fun c => absurd c (by decide), fun _ _ => ⟨158, by decide +kernel, (sw_j_eq (t := 159) (by decide)).mpr h⟩⟩
theorem vX11_letters_1_c6 : vX11_letters l E d kr kx b 1 ls (.int 6 :: st) σ ↔ vX11_letters l E d kr kx b 173 ls st σ := by
  rw [vX11_letters_1, wI]
  constructor
  · intro h
    obtain ⟨o, ho, hj⟩ := h.2 (by decide) (by decide)
    have ho := (show _ = some (172 : Int) from by decide +kernel).symm.trans ho
    cases ho
    exact (sw_j_eq (t := 173) (by decide)).mp hj
  · intro h
    exact ⟨fun c => absurd c (by decide), fun _ _ => ⟨172, by decide +kernel, (sw_j_eq (t := 173) (by decide)).mpr h⟩⟩
theorem vX11_letters_1_c7 : vX11_letters l E d kr kx b 1 ls (.int 7 :: st) σ ↔ vX11_letters l E d kr kx b 187 ls st σ := by
  rw [vX11_letters_1, wI]
  constructor
  · intro h
    obtain ⟨o, ho, hj⟩ := h.2 (by decide) (by decide)
    have ho := (show _ = some (186 : Int) from by decide +kernel).symm.trans ho
    cases ho
    exact (sw_j_eq (t := 187) (by decide)).mp hj
  · intro h
    exact ⟨fun c => absurd c (by decide), fun _ _ => ⟨186, by decide +kernel, (sw_j_eq (t := 187) (by decide)).mpr h⟩⟩
theorem vX11_letters_1_c8 : vX11_letters l E d kr kx b 1 ls (.int 8 :: st) σ ↔ vX11_letters l E d kr kx b 200 ls st σ := by
  rw [vX11_letters_1, wI]
  constructor
  · intro h
    obtain ⟨o, ho, hj⟩ := h.2 (by decide) (by decide)
    have ho := (show _ = some (199 : Int) from by decide +kernel).symm.trans ho
    cases ho
    exact (sw_j_eq (t := 200) (by decide)).mp hj
  · intro h
    exact ⟨fun c => absurd c (by decide), fun _ _ => ⟨199, by decide +kernel, (sw_j_eq (t := 200) (by decide)).mpr h⟩⟩
theorem vX11_letters_1_c9 : vX11_letters l E d kr kx b 1 ls (.int 9 :: st) σ ↔ vX11_letters l E d kr kx b 214 ls st σ := by
  rw [vX11_letters_1, wI]
  constructor
  · intro h
    obtain ⟨o, ho, hj⟩ := h.2 (by decide) (by decide)
    have ho := (show _ = some (213 : Int) from by decide +kernel).symm.trans ho
    cases ho
    exact (sw_j_eq (t := 214) (by decide)).mp hj
  · intro h
    exact ⟨fun c => absurd c (by decide), fun _ _ => ⟨213, by decide +kernel, (sw_j_eq (t := 214) (by decide)).mpr h⟩⟩
theorem vX11_letters_1_c10 : vX11_letters l E d kr kx b 1 ls (.int 10 :: st) σ ↔ vX11_letters l E d kr kx b 228 ls st σ := by
  rw [vX11_letters_1, wI]
  constructor
  · intro h
    obtain ⟨o, ho, hj⟩ := h.2 (by decide) (by decide)
    have ho := (show _ = some (227 : Int) from by decide +kernel).symm.trans ho
    cases ho
    exact (sw_j_eq (t := 228) (by decide)).mp hj
  · intro h
    exact ⟨fun c => absurd c (by decide), fun _ _ => ⟨227, by decide +kernel, (sw_j_eq (t := 228) (by decide)).mpr h⟩⟩
theorem vX11_letters_1_c11 : vX11_letters l E d kr kx b 1 ls (.int 11 :: st) σ ↔ vX11_letters l E d kr kx b 241 ls st σ := by
  rw [vX11_letters_1, wI]
  constructor
  · intro h
    obtain ⟨o, ho, hj⟩ := h.2 (by decide) (by decide)
    have ho := (show _ = some (240 : Int) from by decide +kernel).symm.trans ho
    cases ho
    exact (sw_j_eq (t := 241) (by decide)).mp hj
  · intro h
    exact ⟨fun c => absurd c (by decide), fun _ _ => ⟨240, by decide +kernel, (sw_j_eq (t := 241) (by decide)).mpr h⟩⟩
theorem vX11_letters_1_c12 : vX11_letters l E d kr kx b 1 ls (.int 12 :: st) σ ↔ vX11_letters l E d kr kx b 254 ls st σ := by
  rw [vX11_letters_1, wI]
  constructor
  · intro h
    obtain ⟨o, ho, hj⟩ := h.2 (by decide) (by decide)
    have ho := (show _ = some (253 : Int) from by decide +kernel).symm.trans ho
    cases ho
    exact (sw_j_eq (t := 254) (by decide)).mp hj
  · intro h
    exact ⟨fun c => absurd c (by decide), fun _ _ => ⟨253, by decide +kernel, (sw_j_eq (t := 254) (by decide)).mpr h⟩⟩
theorem vX11_letters_1_d {x : Int32} (h : x.toInt < 0 ∨ 12 < x.toInt) : vX11_letters l E d kr kx b 1 ls (.int x :: st) σ ↔ vX11_letters l E d kr kx b 266 ls st σ := by
  rw [vX11_letters_1, wI]
  refine ⟨fun q => q.1 h, fun q => ⟨fun _ => q, fun h1 h2 => ?_⟩⟩
  rcases h with h | h
  · exact absurd h h1
  · exact absurd h h2
theorem vX11_count_49_c0 : vX11_count l E d kr kx b 49 ls (.int 0 :: st) σ ↔ vX11_count l E d kr kx b 112 ls st σ := by
  rw [vX11_count_49, wI]
  constructor
  · intro h
    obtain ⟨o, ho, hj⟩ := h.2 (by decide) (by decide)
    have ho := (show _ = some (63 : Int) from by decide +kernel).symm.trans ho
    cases ho
    exact (sw_j_eq (t := 112) (by decide)).mp hj
  · intro h
    exact ⟨fun c => absurd c (by decide), fun _ _ => ⟨63, by decide +kernel, (sw_j_eq (t := 112) (by decide)).mpr h⟩⟩
theorem vX11_count_49_c1 : vX11_count l E d kr kx b 49 ls (.int 1 :: st) σ ↔ vX11_count l E d kr kx b 117 ls st σ := by
  rw [vX11_count_49, wI]
  constructor
  · intro h
    obtain ⟨o, ho, hj⟩ := h.2 (by decide) (by decide)
    have ho := (show _ = some (68 : Int) from by decide +kernel).symm.trans ho
    cases ho
    exact (sw_j_eq (t := 117) (by decide)).mp hj
  · intro h
    exact ⟨fun c => absurd c (by decide), fun _ _ => ⟨68, by decide +kernel, (sw_j_eq (t := 117) (by decide)).mpr h⟩⟩
theorem vX11_count_49_c2 : vX11_count l E d kr kx b 49 ls (.int 2 :: st) σ ↔ vX11_count l E d kr kx b 122 ls st σ := by
  rw [vX11_count_49, wI]
  constructor
  · intro h
    obtain ⟨o, ho, hj⟩ := h.2 (by decide) (by decide)
    have ho := (show _ = some (73 : Int) from by decide +kernel).symm.trans ho
    cases ho
    exact (sw_j_eq (t := 122) (by decide)).mp hj
  · intro h
    exact ⟨fun c => absurd c (by decide), fun _ _ => ⟨73, by decide +kernel, (sw_j_eq (t := 122) (by decide)).mpr h⟩⟩
theorem vX11_count_49_c3 : vX11_count l E d kr kx b 49 ls (.int 3 :: st) σ ↔ vX11_count l E d kr kx b 127 ls st σ := by
  rw [vX11_count_49, wI]
  constructor
  · intro h
    obtain ⟨o, ho, hj⟩ := h.2 (by decide) (by decide)
    have ho := (show _ = some (78 : Int) from by decide +kernel).symm.trans ho
    cases ho
    exact (sw_j_eq (t := 127) (by decide)).mp hj
  · intro h
    exact ⟨fun c => absurd c (by decide), fun _ _ => ⟨78, by decide +kernel, (sw_j_eq (t := 127) (by decide)).mpr h⟩⟩
theorem vX11_count_49_c4 : vX11_count l E d kr kx b 49 ls (.int 4 :: st) σ ↔ vX11_count l E d kr kx b 132 ls st σ := by
  rw [vX11_count_49, wI]
  constructor
  · intro h
    obtain ⟨o, ho, hj⟩ := h.2 (by decide) (by decide)
    have ho := (show _ = some (83 : Int) from by decide +kernel).symm.trans ho
    cases ho
    exact (sw_j_eq (t := 132) (by decide)).mp hj
  · intro h
    exact ⟨fun c => absurd c (by decide), fun _ _ => ⟨83, by decide +kernel, (sw_j_eq (t := 132) (by decide)).mpr h⟩⟩
theorem vX11_count_49_c5 : vX11_count l E d kr kx b 49 ls (.int 5 :: st) σ ↔ vX11_count l E d kr kx b 140 ls st σ := by
  rw [vX11_count_49, wI]
  constructor
  · intro h
    obtain ⟨o, ho, hj⟩ := h.2 (by decide) (by decide)
    have ho := (show _ = some (91 : Int) from by decide +kernel).symm.trans ho
    cases ho
    exact (sw_j_eq (t := 140) (by decide)).mp hj
  · intro h
    exact ⟨fun c => absurd c (by decide), fun _ _ => ⟨91, by decide +kernel, (sw_j_eq (t := 140) (by decide)).mpr h⟩⟩
theorem vX11_count_49_c6 : vX11_count l E d kr kx b 49 ls (.int 6 :: st) σ ↔ vX11_count l E d kr kx b 148 ls st σ := by
  rw [vX11_count_49, wI]
  constructor
  · intro h
    obtain ⟨o, ho, hj⟩ := h.2 (by decide) (by decide)
    have ho := (show _ = some (99 : Int) from by decide +kernel).symm.trans ho
    cases ho
    exact (sw_j_eq (t := 148) (by decide)).mp hj
  · intro h
    exact ⟨fun c => absurd c (by decide), fun _ _ => ⟨99, by decide +kernel, (sw_j_eq (t := 148) (by decide)).mpr h⟩⟩
theorem vX11_count_49_c7 : vX11_count l E d kr kx b 49 ls (.int 7 :: st) σ ↔ vX11_count l E d kr kx b 157 ls st σ := by
  rw [vX11_count_49, wI]
  constructor
  · intro h
    obtain ⟨o, ho, hj⟩ := h.2 (by decide) (by decide)
    have ho := (show _ = some (108 : Int) from by decide +kernel).symm.trans ho
    cases ho
    exact (sw_j_eq (t := 157) (by decide)).mp hj
  · intro h
    exact ⟨fun c => absurd c (by decide), fun _ _ => ⟨108, by decide +kernel, (sw_j_eq (t := 157) (by decide)).mpr h⟩⟩
theorem vX11_count_49_c8 : vX11_count l E d kr kx b 49 ls (.int 8 :: st) σ ↔ vX11_count l E d kr kx b 178 ls st σ := by
  rw [vX11_count_49, wI]
  constructor
  · intro h
    obtain ⟨o, ho, hj⟩ := h.2 (by decide) (by decide)
    have ho := (show _ = some (129 : Int) from by decide +kernel).symm.trans ho
    cases ho
    exact (sw_j_eq (t := 178) (by decide)).mp hj
  · intro h
    exact ⟨fun c => absurd c (by decide), fun _ _ => ⟨129, by decide +kernel, (sw_j_eq (t := 178) (by decide)).mpr h⟩⟩
theorem vX11_count_49_c9 : vX11_count l E d kr kx b 49 ls (.int 9 :: st) σ ↔ vX11_count l E d kr kx b 183 ls st σ := by
  rw [vX11_count_49, wI]
  constructor
  · intro h
    obtain ⟨o, ho, hj⟩ := h.2 (by decide) (by decide)
    have ho := (show _ = some (134 : Int) from by decide +kernel).symm.trans ho
    cases ho
    exact (sw_j_eq (t := 183) (by decide)).mp hj
  · intro h
    exact ⟨fun c => absurd c (by decide), fun _ _ => ⟨134, by decide +kernel, (sw_j_eq (t := 183) (by decide)).mpr h⟩⟩
theorem vX11_count_49_c10 : vX11_count l E d kr kx b 49 ls (.int 10 :: st) σ ↔ vX11_count l E d kr kx b 188 ls st σ := by
  rw [vX11_count_49, wI]
  constructor
  · intro h
    obtain ⟨o, ho, hj⟩ := h.2 (by decide) (by decide)
    have ho := (show _ = some (139 : Int) from by decide +kernel).symm.trans ho
    cases ho
    exact (sw_j_eq (t := 188) (by decide)).mp hj
  · intro h
    exact ⟨fun c => absurd c (by decide), fun _ _ => ⟨139, by decide +kernel, (sw_j_eq (t := 188) (by decide)).mpr h⟩⟩
theorem vX11_count_49_c11 : vX11_count l E d kr kx b 49 ls (.int 11 :: st) σ ↔ vX11_count l E d kr kx b 193 ls st σ := by
  rw [vX11_count_49, wI]
  constructor
  · intro h
    obtain ⟨o, ho, hj⟩ := h.2 (by decide) (by decide)
    have ho := (show _ = some (144 : Int) from by decide +kernel).symm.trans ho
    cases ho
    exact (sw_j_eq (t := 193) (by decide)).mp hj
  · intro h
    exact ⟨fun c => absurd c (by decide), fun _ _ => ⟨144, by decide +kernel, (sw_j_eq (t := 193) (by decide)).mpr h⟩⟩
theorem vX11_count_49_d {x : Int32} (h : x.toInt < 0 ∨ 11 < x.toInt) : vX11_count l E d kr kx b 49 ls (.int x :: st) σ ↔ vX11_count l E d kr kx b 198 ls st σ := by
  rw [vX11_count_49, wI]
  refine ⟨fun q => q.1 h, fun q => ⟨fun _ => q, fun h1 h2 => ?_⟩⟩
  rcases h with h | h
  · exact absurd h h1
  · exact absurd h h2
theorem vX11_one_25_c0 : vX11_one l E d kr kx b 25 ls (.int 0 :: st) σ ↔ vX11_one l E d kr kx b 60 ls st σ := by
  rw [vX11_one_25, wI]
  constructor
  · intro h
    obtain ⟨o, ho, hj⟩ := h.2 (by decide) (by decide)
    have ho := (show _ = some (35 : Int) from by decide +kernel).symm.trans ho
    cases ho
    exact (sw_j_eq (t := 60) (by decide)).mp hj
  · intro h
    exact ⟨fun c => absurd c (by decide), fun _ _ => ⟨35, by decide +kernel, (sw_j_eq (t := 60) (by decide)).mpr h⟩⟩
theorem vX11_one_25_c1 : vX11_one l E d kr kx b 25 ls (.int 1 :: st) σ ↔ vX11_one l E d kr kx b 69 ls st σ := by
  rw [vX11_one_25, wI]
  constructor
  · intro h
    obtain ⟨o, ho, hj⟩ := h.2 (by decide) (by decide)
    have ho := (show _ = some (44 : Int) from by decide +kernel).symm.trans ho
    cases ho
    exact (sw_j_eq (t := 69) (by decide)).mp hj
  · intro h
    exact ⟨fun c => absurd c (by decide), fun _ _ => ⟨44, by decide +kernel, (sw_j_eq (t := 69) (by decide)).mpr h⟩⟩
theorem vX11_one_25_c2 : vX11_one l E d kr kx b 25 ls (.int 2 :: st) σ ↔ vX11_one l E d kr kx b 76 ls st σ := by
  rw [vX11_one_25, wI]
  constructor
  · intro h
    obtain ⟨o, ho, hj⟩ := h.2 (by decide) (by decide)
    have ho := (show _ = some (51 : Int) from by decide +kernel).symm.trans ho
    cases ho
    exact (sw_j_eq (t := 76) (by decide)).mp hj
  · intro h
    exact ⟨fun c => absurd c (by decide), fun _ _ => ⟨51, by decide +kernel, (sw_j_eq (t := 76) (by decide)).mpr h⟩⟩
theorem vX11_one_25_c3 : vX11_one l E d kr kx b 25 ls (.int 3 :: st) σ ↔ vX11_one l E d kr kx b 86 ls st σ := by
  rw [vX11_one_25, wI]
  constructor
  · intro h
    obtain ⟨o, ho, hj⟩ := h.2 (by decide) (by decide)
    have ho := (show _ = some (61 : Int) from by decide +kernel).symm.trans ho
    cases ho
    exact (sw_j_eq (t := 86) (by decide)).mp hj
  · intro h
    exact ⟨fun c => absurd c (by decide), fun _ _ => ⟨61, by decide +kernel, (sw_j_eq (t := 86) (by decide)).mpr h⟩⟩
theorem vX11_one_25_c4 : vX11_one l E d kr kx b 25 ls (.int 4 :: st) σ ↔ vX11_one l E d kr kx b 98 ls st σ := by
  rw [vX11_one_25, wI]
  constructor
  · intro h
    obtain ⟨o, ho, hj⟩ := h.2 (by decide) (by decide)
    have ho := (show _ = some (73 : Int) from by decide +kernel).symm.trans ho
    cases ho
    exact (sw_j_eq (t := 98) (by decide)).mp hj
  · intro h
    exact ⟨fun c => absurd c (by decide), fun _ _ => ⟨73, by decide +kernel, (sw_j_eq (t := 98) (by decide)).mpr h⟩⟩
theorem vX11_one_25_d {x : Int32} (h : x.toInt < 0 ∨ 4 < x.toInt) : vX11_one l E d kr kx b 25 ls (.int x :: st) σ ↔ vX11_one l E d kr kx b 108 ls st σ := by
  rw [vX11_one_25, wI]
  refine ⟨fun q => q.1 h, fun q => ⟨fun _ => q, fun h1 h2 => ?_⟩⟩
  rcases h with h | h
  · exact absurd h h1
  · exact absurd h h2
theorem vX11_works0_1_c4 : vX11_works0 l E d kr kx b 1 ls (.int 4 :: st) σ ↔ vX11_works0 l E d kr kx b 44 ls st σ := by
  rw [vX11_works0_1, wI]
  constructor
  · intro h
    obtain ⟨o, ho, hj⟩ := h.2 (by decide) (by decide)
    have ho := (show _ = some (43 : Int) from by decide +kernel).symm.trans ho
    cases ho
    exact (sw_j_eq (t := 44) (by decide)).mp hj
  · intro h
    exact ⟨fun c => absurd c (by decide), fun _ _ => ⟨43, by decide +kernel, (sw_j_eq (t := 44) (by decide)).mpr h⟩⟩
theorem vX11_works0_1_c5 : vX11_works0 l E d kr kx b 1 ls (.int 5 :: st) σ ↔ vX11_works0 l E d kr kx b 58 ls st σ := by
  rw [vX11_works0_1, wI]
  constructor
  · intro h
    obtain ⟨o, ho, hj⟩ := h.2 (by decide) (by decide)
    have ho := (show _ = some (57 : Int) from by decide +kernel).symm.trans ho
    cases ho
    exact (sw_j_eq (t := 58) (by decide)).mp hj
  · intro h
    exact ⟨fun c => absurd c (by decide), fun _ _ => ⟨57, by decide +kernel, (sw_j_eq (t := 58) (by decide)).mpr h⟩⟩
theorem vX11_works0_1_c6 : vX11_works0 l E d kr kx b 1 ls (.int 6 :: st) σ ↔ vX11_works0 l E d kr kx b 72 ls st σ := by
  rw [vX11_works0_1, wI]
  constructor
  · intro h
    obtain ⟨o, ho, hj⟩ := h.2 (by decide) (by decide)
    have ho := (show _ = some (71 : Int) from by decide +kernel).symm.trans ho
    cases ho
    exact (sw_j_eq (t := 72) (by decide)).mp hj
  · intro h
    exact ⟨fun c => absurd c (by decide), fun _ _ => ⟨71, by decide +kernel, (sw_j_eq (t := 72) (by decide)).mpr h⟩⟩
theorem vX11_works0_1_c7 : vX11_works0 l E d kr kx b 1 ls (.int 7 :: st) σ ↔ vX11_works0 l E d kr kx b 83 ls st σ := by
  rw [vX11_works0_1, wI]
  constructor
  · intro h
    obtain ⟨o, ho, hj⟩ := h.2 (by decide) (by decide)
    have ho := (show _ = some (82 : Int) from by decide +kernel).symm.trans ho
    cases ho
    exact (sw_j_eq (t := 83) (by decide)).mp hj
  · intro h
    exact ⟨fun c => absurd c (by decide), fun _ _ => ⟨82, by decide +kernel, (sw_j_eq (t := 83) (by decide)).mpr h⟩⟩
theorem vX11_works0_1_c8 : vX11_works0 l E d kr kx b 1 ls (.int 8 :: st) σ ↔ vX11_works0 l E d kr kx b 94 ls st σ := by
  rw [vX11_works0_1, wI]
  constructor
  · intro h
    obtain ⟨o, ho, hj⟩ := h.2 (by decide) (by decide)
    have ho := (show _ = some (93 : Int) from by decide +kernel).symm.trans ho
    cases ho
    exact (sw_j_eq (t := 94) (by decide)).mp hj
  · intro h
    exact ⟨fun c => absurd c (by decide), fun _ _ => ⟨93, by decide +kernel, (sw_j_eq (t := 94) (by decide)).mpr h⟩⟩
theorem vX11_works0_1_c9 : vX11_works0 l E d kr kx b 1 ls (.int 9 :: st) σ ↔ vX11_works0 l E d kr kx b 98 ls st σ := by
  rw [vX11_works0_1, wI]
  constructor
  · intro h
    obtain ⟨o, ho, hj⟩ := h.2 (by decide) (by decide)
    have ho := (show _ = some (97 : Int) from by decide +kernel).symm.trans ho
    cases ho
    exact (sw_j_eq (t := 98) (by decide)).mp hj
  · intro h
    exact ⟨fun c => absurd c (by decide), fun _ _ => ⟨97, by decide +kernel, (sw_j_eq (t := 98) (by decide)).mpr h⟩⟩
theorem vX11_works0_1_c10 : vX11_works0 l E d kr kx b 1 ls (.int 10 :: st) σ ↔ vX11_works0 l E d kr kx b 102 ls st σ := by
  rw [vX11_works0_1, wI]
  constructor
  · intro h
    obtain ⟨o, ho, hj⟩ := h.2 (by decide) (by decide)
    have ho := (show _ = some (101 : Int) from by decide +kernel).symm.trans ho
    cases ho
    exact (sw_j_eq (t := 102) (by decide)).mp hj
  · intro h
    exact ⟨fun c => absurd c (by decide), fun _ _ => ⟨101, by decide +kernel, (sw_j_eq (t := 102) (by decide)).mpr h⟩⟩
theorem vX11_works0_1_d {x : Int32} (h : x.toInt < 4 ∨ 10 < x.toInt) : vX11_works0 l E d kr kx b 1 ls (.int x :: st) σ ↔ vX11_works0 l E d kr kx b 106 ls st σ := by
  rw [vX11_works0_1, wI]
  refine ⟨fun q => q.1 h, fun q => ⟨fun _ => q, fun h1 h2 => ?_⟩⟩
  rcases h with h | h
  · exact absurd h h1
  · exact absurd h h2
end
