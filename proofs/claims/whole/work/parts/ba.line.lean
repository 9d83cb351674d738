/-! A land's text, line by line, without any memory. -/
abbrev PD : Type := LD × (Nat → Nat) × (Nat → Nat) × Bool × Bool
noncomputable def pL (P : PD) : LD := P.1
noncomputable def pT (P : PD) : Nat → Nat := P.2.1
noncomputable def pK (P : PD) : Nat → Nat := P.2.2.1
noncomputable def pH (P : PD) : Bool := P.2.2.2.1
noncomputable def pW (P : PD) : Bool := P.2.2.2.2
noncomputable def mkL (ppl wks bds hro : Nat) (wk : Nat → Nat → Nat) (str prs bnd : Nat → Nat) (law : List Nat) : LD := (ppl, wks, bds, hro, wk, str, prs, bnd, law)
noncomputable def tkN (f : Nat → Nat) (n lo hi : Nat) (T : KT) : KT := nxK f n (nuT f n lo hi T)
noncomputable def skL (f : Nat → Nat) (n : Nat) : Nat → KT → Nat → KT × Nat
  | 0, T, sk => (T, sk)
  | k + 1, T, sk => if T.2 = 0 ∧ tK f n T.1 = 2 then skL f n k (nxK f n (if sk.testBit (nuV f n 0 7 T) then faK 4 (nuT f n 0 7 T) else nuT f n 0 7 T)) (sk ||| 2 ^ nuV f n 0 7 T) else (T, sk)
noncomputable def addP (P : PD) (t s k : Nat) : PD := (mkL (dPpl (pL P) + 1) (dWks (pL P)) (dBds (pL P)) (dHro (pL P)) (dWk (pL P)) (updW (dStr (pL P)) (dPpl (pL P)) s) (dPrs (pL P)) (updW (dBnd (pL P)) (dPpl (pL P)) 0) (dLaw (pL P)), updW (pT P) (dPpl (pL P)) t, updW (pK P) (dPpl (pL P)) k, pH P, pW P)
noncomputable def rdP (f : Nat → Nat) (n : Nat) (T : KT) (P : PD) : KT × PD :=
  if 12 ≤ dPpl (pL P) then (faK 2 T, P) else
  let T1 := nxK f n T
  let T2 := tkN f n 0 3 T1
  let T3 := tkN f n 0 9 T2
  let R := skL f n 700 (tkN f n 0 7 T3) (2 ^ nuV f n 0 7 T3)
  (R.1, addP P (nuV f n 0 3 T1) (nuV f n 0 9 T2) R.2)
noncomputable def addW (P : PD) (v : Nat → Nat) : PD := (mkL (dPpl (pL P)) (dWks (pL P) + 1) (dBds (pL P)) (dHro (pL P)) (fun i => if i = dWks (pL P) then v else dWk (pL P) i) (dStr (pL P)) (dPrs (pL P)) (dBnd (pL P)) (dLaw (pL P)), pT P, pK P, pH P, pW P)
noncomputable def wV (a b c d e : Nat) : Nat → Nat := fun j => [a, b, c, d, e].getD j 0
noncomputable def rdW (f : Nat → Nat) (n : Nat) (T : KT) (P : PD) : KT × PD :=
  if 14 ≤ dWks (pL P) then (faK 2 T, P) else
  let T1 := nxK f n T
  let T2 := tkN f n 0 3 T1
  let T3 := tkN f n 0 7 T2
  let T4 := tkN f n 0 11 T3
  let T5 := tkN f n 0 11 T4
  (tkN f n 1 4 T5, addW P (wV (nuV f n 0 3 T1) (nuV f n 0 7 T2) (nuV f n 0 11 T3) (nuV f n 0 11 T4) (nuV f n 1 4 T5)))
noncomputable def phV (f : Nat → Nat) (n : Nat) (P : PD) (T : KT) : Nat := if dPpl (pL P) ≤ nuV f n 0 9999 T then 0 else nuV f n 0 9999 T
noncomputable def phT (f : Nat → Nat) (n : Nat) (P : PD) (T : KT) : KT := if dPpl (pL P) ≤ nuV f n 0 9999 T then faK 3 (nuT f n 0 9999 T) else nuT f n 0 9999 T
noncomputable def isBd (P : PD) (x : Nat) : Bool := !(allF 0 (dBds (pL P)) (fun j => !decide (dPrs (pL P) j = x)))
noncomputable def addB (P : PD) (a b : Nat) : PD := (mkL (dPpl (pL P)) (dWks (pL P)) (dBds (pL P) + 1) (dHro (pL P)) (dWk (pL P)) (dStr (pL P)) (updW (dPrs (pL P)) (dBds (pL P)) (2 ^ a ||| 2 ^ b)) (updW (updW (dBnd (pL P)) a (dBnd (pL P) a ||| 2 ^ b)) b (dBnd (pL P) b ||| 2 ^ a)) (dLaw (pL P)), pT P, pK P, pH P, pW P)
noncomputable def rdB (f : Nat → Nat) (n : Nat) (T : KT) (P : PD) : KT × PD :=
  if 8 ≤ dBds (pL P) then (faK 2 T, P) else
  let T1 := nxK f n T
  let a := phV f n P T1
  let T2 := nxK f n (phT f n P T1)
  let b := phV f n P T2
  let T3 := phT f n P T2
  (nxK f n (if a = b ∨ isBd P (2 ^ a ||| 2 ^ b) = true then faK 4 T3 else T3), addB P a b)
noncomputable def setH (P : PD) (v : Nat) : PD := (mkL (dPpl (pL P)) (dWks (pL P)) (dBds (pL P)) v (dWk (pL P)) (dStr (pL P)) (dPrs (pL P)) (dBnd (pL P)) (dLaw (pL P)), pT P, pK P, true, pW P)
noncomputable def rdH (f : Nat → Nat) (n : Nat) (T : KT) (P : PD) : KT × PD :=
  let T1 := nxK f n (if pH P then faK 5 T else T)
  (tkN f n 0 24 T1, setH P (nuV f n 0 24 T1))
noncomputable def setLaw (P : PD) (o : List Nat) : PD := (mkL (dPpl (pL P)) (dWks (pL P)) (dBds (pL P)) (dHro (pL P)) (dWk (pL P)) (dStr (pL P)) (dPrs (pL P)) (dBnd (pL P)) o, pT P, pK P, pH P, true)
noncomputable def lawC (T : KT) : KC := (T, 0, 0, [], [], [false])
noncomputable def rdLw (f : Nat → Nat) (n : Nat) (T : KT) (P : PD) : KT × PD :=
  let T1 := nxK f n (if pW P then faK 5 T else T)
  (kT (finK f n (lawC T1)), setLaw P (kO (finK f n (lawC T1))).reverse)
noncomputable def rdLine (f : Nat → Nat) (n : Nat) (T : KT) (P : PD) : KT × PD :=
  if isKw f n T 7 then rdP f n T P else if isKw f n T 8 then rdW f n T P else if isKw f n T 9 then rdB f n T P else if isKw f n T 5 then rdH f n T P else if isKw f n T 10 then rdLw f n T P else (faK 1 T, P)
noncomputable def rdAll (f : Nat → Nat) (n : Nat) : Nat → KT → PD → KT × PD
  | 0, T, P => (T, P)
  | k + 1, T, P => if T.2 = 0 ∧ tK f n T.1 ≠ 0 then rdAll f n k (sgT f n 59 (rdLine f n T P).1) (rdLine f n T P).2 else (T, P)
noncomputable def P0 : PD := (mkL 0 0 0 12 (fun _ _ => 0) (fun _ => 0) (fun _ => 0) (fun _ => 0) [], fun _ => 0, fun _ => 0, false, false)
section
variable {l : Launch} {E : sw_E} {h dd D : Nat}
theorem readLev (hsub : dd < 5 → RdC l E 100 1 h (dd + 1) D) (hD : 9 ≤ D) (hdd : dd ≤ 5) (hh : 1 ≤ h) : RdC l E 100 1 (h + 5) dd (D + 7) := by
  have h1 : RdC l E 108 7 h dd (D + 1) := readPart_ok hsub hD hdd hh
  have h2 : RdC l E 107 6 (h + 1) dd (D + 2) := readProduct_ok h1 (by omega) (by omega)
  have h3 : RdC l E 106 5 (h + 2) dd (D + 3) := readSum_ok h2 (by omega) (by omega)
  have h4 : RdC l E 105 4 (h + 3) dd (D + 4) := readTest_ok h3 (by omega) (by omega)
  have h5 : RdC l E 104 3 (h + 3) dd (D + 5) := readNot_ok h4 (by omega) (by omega)
  have h6 : RdC l E 103 2 (h + 4) dd (D + 6) := readAnd_ok h5 (by omega) (by omega)
  have h7 : RdC l E 100 1 (h + 5) dd (D + 7) := readExpr_ok h6 (by omega) (by omega)
  exact @h7
theorem readE0 : RdC l E 100 1 31 0 51 := by
  have e5 : RdC l E 100 1 6 5 16 := readLev (l := l) (E := E) (h := 1) (dd := 5) (D := 9) (fun w => absurd w (by decide)) (by decide) (by decide) (by decide)
  have e4 : RdC l E 100 1 11 4 23 := readLev (l := l) (E := E) (h := 6) (dd := 4) (D := 16) (fun _ => e5) (by decide) (by decide) (by decide)
  have e3 : RdC l E 100 1 16 3 30 := readLev (l := l) (E := E) (h := 11) (dd := 3) (D := 23) (fun _ => e4) (by decide) (by decide) (by decide)
  have e2 : RdC l E 100 1 21 2 37 := readLev (l := l) (E := E) (h := 16) (dd := 2) (D := 30) (fun _ => e3) (by decide) (by decide) (by decide)
  have e1 : RdC l E 100 1 26 1 44 := readLev (l := l) (E := E) (h := 21) (dd := 1) (D := 37) (fun _ => e2) (by decide) (by decide) (by decide)
  have e0 : RdC l E 100 1 31 0 51 := readLev (l := l) (E := E) (h := 26) (dd := 0) (D := 44) (fun _ => e1) (by decide) (by decide) (by decide)
  exact @e0
end
