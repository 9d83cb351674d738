/-- how long an instruction is (a switch: as it says) -/
def sw_len (i : Instr) : Nat := match i with
  | .iload _ => 2 | .lload _ => 2 | .aload _ => 2 | .istore _ => 2 | .lstore _ => 2 | .astore _ => 2
  | .bipush _ => 2 | .sipush _ => 3 | .ldc _ => 2 | .ldc_w _ => 3 | .ldc2_w _ => 3 | .iinc _ _ => 3
  | .if_icmp _ _ => 3 | .ifCond _ _ => 3 | .goto _ => 3 | .getfield _ => 3 | .getstatic _ => 3 | .putfield _ => 3
  | .invokevirtual _ => 3 | .invokestatic _ => 3 | .new _ => 3 | .tableswitch _ _ _ _ => 0
  | _ => 1
def sw_ir (rt : Option FieldType) (x : Int32) : Prop := match rt with
  | some .int => True
  | some .boolean => sw_z x
  | some .byte => x = 0
  | some .char => narrow .char (.int x) = .int x
  | _ => False
/-- the text constants, and their bytes, are cells of their own -/
def sw_str (a : Nat) : Prop := 1000 ≤ a ∧ a < 1016
def sw_byt (a : Nat) : Prop := 2000 ≤ a ∧ a < 2016
def sw_sget (own k a : Nat) (f : Value → Prop) : Prop := cond (Nat.beq own 15) (sw_str a ∧ cond (Nat.beq k 9) (f (.ref (a + 1000))) (cond (Nat.beq k 15) (f (.int 0)) False)) False
abbrev sw_P : Type := Nat → Nat → List (Option Value) → List Value → sw_M → Prop
def sw_recv (n : Nat) (av : List Value) : Prop := match av with
  | .ref a :: _ => if n < 292 then sw_kd a = (0, (sw_mo n).1) else sw_str a
  | _ => False
/-- the code of 'throw new X(text)' from pc on, the text by ldc or by ldc_w -/
def sw_thr (own : Nat) (cc : ByteArray) (x pc : Nat) : Prop :=
  decode cc (pc + 3) = .ok (.dup, 1) ∧ ∃ is j, sw_cS own is = some j ∧ ((decode cc (pc + 4) = .ok (.ldc is, 2) ∧ decode cc (pc + 6) = .ok (.invokespecial (sw_xi x), 3) ∧ decode cc (pc + 9) = .ok (.athrow, 1)) ∨ (decode cc (pc + 4) = .ok (.ldc_w is, 3) ∧ decode cc (pc + 7) = .ok (.invokespecial (sw_xi x), 3) ∧ decode cc (pc + 10) = .ok (.athrow, 1)))
/-- what must hold ahead of an instruction, so that X holds behind it (kr: at a return; kx: at a throw; kc, kcx: a call's contract) -/
def sw_step (own : Nat) (cc : ByteArray) (nL : Nat) (rt : Option FieldType) (kr : Option Value → sw_M → Prop) (kx : Nat → sw_M → Prop) (kc : Nat → List Value → sw_M → (Option Value → sw_M → Prop) → Prop) (kcx : Nat → List Value → sw_M → (Option Value → sw_M → Prop) → (Nat → sw_M → Prop) → Prop) (X : sw_P) (i : Instr) (b pc : Nat) (ls : List (Option Value)) (st : List Value) (σ : sw_M) : Prop := match i with
  | .iload_n k => oI (sw_nth ls k.val) fun x => X b (pc + 1) ls (.int x :: st) σ
  | .iload k => oI (sw_nth ls k) fun x => X b (pc + 2) ls (.int x :: st) σ
  | .lload_n k => oL (sw_nth ls k.val) fun x => X b (pc + 1) ls (.long x :: st) σ
  | .lload k => oL (sw_nth ls k) fun x => X b (pc + 2) ls (.long x :: st) σ
  | .aload_n k => oR (sw_nth ls k.val) fun x => X b (pc + 1) ls (.ref x :: st) σ
  | .aload k => oR (sw_nth ls k) fun x => X b (pc + 2) ls (.ref x :: st) σ
  | .istore_n k => tI st fun x r => sw_nl ls k.val ∧ cond (Nat.blt k.val nL) (X b (pc + 1) (sw_put ls k.val (some (.int x))) r σ) False
  | .istore k => tI st fun x r => sw_nl ls k ∧ cond (Nat.blt k nL) (X b (pc + 2) (sw_put ls k (some (.int x))) r σ) False
  | .astore_n k => tR st fun x r => sw_nl ls k.val ∧ cond (Nat.blt k.val nL) (X b (pc + 1) (sw_put ls k.val (some (.ref x))) r σ) False
  | .astore k => tR st fun x r => sw_nl ls k ∧ cond (Nat.blt k nL) (X b (pc + 2) (sw_put ls k (some (.ref x))) r σ) False
  | .lstore_n k => tL st fun x r => sw_nl ls k.val ∧ cond (Nat.blt (k.val + 1) nL) (X b (pc + 1) (sw_put (sw_put ls k.val (some (.long x))) (k.val + 1) none) r σ) False
  | .lstore k => tL st fun x r => sw_nl ls k ∧ cond (Nat.blt (k + 1) nL) (X b (pc + 2) (sw_put (sw_put ls k (some (.long x))) (k + 1) none) r σ) False
  | .iinc k n => oI (sw_nth ls k) fun x => sw_nl ls k ∧ X b (pc + 3) (sw_put ls k (some (.int (x + Int32.ofInt n)))) st σ
  | .iconst n => X b (pc + 1) ls (.int (Int32.ofInt n) :: st) σ
  | .bipush n => X b (pc + 2) ls (.int (Int8.ofInt n).toInt32 :: st) σ
  | .sipush n => X b (pc + 3) ls (.int (Int16.ofInt n).toInt32 :: st) σ
  | .lconst n => X b (pc + 1) ls (.long (Int64.ofNat n.val) :: st) σ
  | .ldc k => match sw_cI own k with
    | some v => X b (pc + 2) ls (.int v :: st) σ
    | none => match sw_cS own k with
      | some j => X b (pc + 2) ls (.ref (1000 + j) :: st) σ
      | none => False
  | .ldc_w k => match sw_cI own k with
    | some v => X b (pc + 3) ls (.int v :: st) σ
    | none => False
  | .ldc2_w k => match sw_cL own k with
    | some v => X b (pc + 3) ls (.long v :: st) σ
    | none => False
  | .iadd => tI st fun y r => tI r fun x r => X b (pc + 1) ls (.int (x + y) :: r) σ
  | .isub => tI st fun y r => tI r fun x r => X b (pc + 1) ls (.int (x - y) :: r) σ
  | .imul => tI st fun y r => tI r fun x r => X b (pc + 1) ls (.int (x * y) :: r) σ
  | .idiv => tI st fun y r => tI r fun x r => ¬ y = 0 ∧ X b (pc + 1) ls (.int (x / y) :: r) σ
  | .irem => tI st fun y r => tI r fun x r => ¬ y = 0 ∧ X b (pc + 1) ls (.int (x - x / y * y) :: r) σ
  | .ishl => tI st fun y r => tI r fun x r => X b (pc + 1) ls (.int (x <<< (y &&& 31)) :: r) σ
  | .ishr => tI st fun y r => tI r fun x r => X b (pc + 1) ls (.int (x >>> (y &&& 31)) :: r) σ
  | .iushr => tI st fun y r => tI r fun x r => X b (pc + 1) ls (.int (x.toUInt32 >>> (y.toUInt32 &&& Int32.toUInt32 31)).toInt32 :: r) σ
  | .iand => tI st fun y r => tI r fun x r => X b (pc + 1) ls (.int (x &&& y) :: r) σ
  | .ior => tI st fun y r => tI r fun x r => X b (pc + 1) ls (.int (x ||| y) :: r) σ
  | .ixor => tI st fun y r => tI r fun x r => X b (pc + 1) ls (.int (x ^^^ y) :: r) σ
  | .ladd => tL st fun y r => tL r fun x r => X b (pc + 1) ls (.long (x + y) :: r) σ
  | .lsub => tL st fun y r => tL r fun x r => X b (pc + 1) ls (.long (x - y) :: r) σ
  | .lmul => tL st fun y r => tL r fun x r => X b (pc + 1) ls (.long (x * y) :: r) σ
  | .lor => tL st fun y r => tL r fun x r => X b (pc + 1) ls (.long (x ||| y) :: r) σ
  | .lshl => tI st fun y r => tL r fun x r => X b (pc + 1) ls (.long (x <<< (y.toInt64 &&& 63)) :: r) σ
  | .lcmp => tL st fun y r => tL r fun x r => X b (pc + 1) ls (.int (lg_cmp x y) :: r) σ
  | .i2l => tI st fun x r => X b (pc + 1) ls (.long x.toInt64 :: r) σ
  | .l2i => tL st fun x r => X b (pc + 1) ls (.int x.toInt32 :: r) σ
  | .i2c => tI st fun x r => X b (pc + 1) ls (.int (x.toUInt32 % 65536).toInt32 :: r) σ
  | .if_icmp c off => tI st fun y r => tI r fun x r => match c with
    | .eq => sw_j pc off fun t => (x = y → X b t ls r σ) ∧ (¬ x = y → X b (pc + 3) ls r σ)
    | .ne => sw_j pc off fun t => (¬ x = y → X b t ls r σ) ∧ (x = y → X b (pc + 3) ls r σ)
    | .lt => sw_j pc off fun t => (x < y → X b t ls r σ) ∧ (¬ x < y → X b (pc + 3) ls r σ)
    | .ge => sw_j pc off fun t => (y ≤ x → X b t ls r σ) ∧ (¬ y ≤ x → X b (pc + 3) ls r σ)
    | .gt => sw_j pc off fun t => (y < x → X b t ls r σ) ∧ (¬ y < x → X b (pc + 3) ls r σ)
    | .le => sw_j pc off fun t => (x ≤ y → X b t ls r σ) ∧ (¬ x ≤ y → X b (pc + 3) ls r σ)
  | .ifCond c off => tI st fun x r => match c with
    | .eq => sw_j pc off fun t => (x = 0 → X b t ls r σ) ∧ (¬ x = 0 → X b (pc + 3) ls r σ)
    | .ne => sw_j pc off fun t => (¬ x = 0 → X b t ls r σ) ∧ (x = 0 → X b (pc + 3) ls r σ)
    | .lt => sw_j pc off fun t => (x < 0 → X b t ls r σ) ∧ (¬ x < 0 → X b (pc + 3) ls r σ)
    | .ge => sw_j pc off fun t => (0 ≤ x → X b t ls r σ) ∧ (¬ 0 ≤ x → X b (pc + 3) ls r σ)
    | .gt => sw_j pc off fun t => (0 < x → X b t ls r σ) ∧ (¬ 0 < x → X b (pc + 3) ls r σ)
    | .le => sw_j pc off fun t => (x ≤ 0 → X b t ls r σ) ∧ (¬ x ≤ 0 → X b (pc + 3) ls r σ)
  | .goto off => sw_j pc off fun t => X b t ls st σ
  | .tableswitch dflt lo hi offs => tI st fun x r => (x.toInt < lo ∨ hi < x.toInt → sw_j pc dflt fun t => X b t ls r σ) ∧ (¬ x.toInt < lo → ¬ hi < x.toInt → ∃ off, offs[(x.toInt - lo).toNat]? = some off ∧ sw_j pc off fun t => X b t ls r σ)
  | .dup => t1 st fun v r => X b (pc + 1) ls (v :: v :: r) σ
  | .dup2 => t1 st fun v r => t1 r fun w r => X b (pc + 1) ls (v :: w :: v :: w :: r) σ
  | .pop => t1 st fun _ r => X b (pc + 1) ls r σ
  | .getfield k => tR st fun a r => match sw_fl own k with
    | some q => sw_kd a = (0, q.1) ∧ X b (pc + 3) ls (sw_fv σ a q.1 q.2 :: r) σ
    | none => sw_sget own k a fun v => X b (pc + 3) ls (v :: r) σ
  | .getstatic k => cond (Nat.beq own 15) (cond (Nat.beq k 38) (X b (pc + 3) ls (.int 1 :: st) σ) (cond (Nat.beq k 1053) (X b (pc + 3) ls (.null :: st) σ ∧ X b (pc + 3) ls (.ref 3000 :: st) σ) False)) False
  | .i2b => tI st fun x r => X b (pc + 1) ls (.int x.toInt8.toInt32 :: r) σ
  | .putfield k => match sw_fl own k with
    | some q => cond (sw_nest own k) False (cond (Nat.beq (sw_fk q.1 q.2) 0) (tI st fun x r => tR r fun a r => sw_kd a = (0, q.1) ∧ cond (sw_fz q.1 q.2) (sw_z x) True ∧ X b (pc + 3) ls r (sw_sI σ a (upd (σ.1 a) q.2 x)))
        (cond (Nat.beq (sw_fk q.1 q.2) 1) (tL st fun x r => tR r fun a r => sw_kd a = (0, q.1) ∧ X b (pc + 3) ls r (sw_sL σ a (vp_updL (σ.2 a) q.2 x)))
        (cond (Nat.beq (sw_fk q.1 q.2) 2) (tR st fun x r => tR r fun a r => sw_kd a = (0, q.1) ∧ x < 112 ∧ X b (pc + 3) ls r (sw_sI σ a (upd (σ.1 a) q.2 (Int32.ofNat x)))) False)))
    | none => False
  | .iaload => tI st fun i r => tR r fun a r => (sw_kd a).1 = 1 ∧ vp_in i (sw_kd a).2 ∧ X b (pc + 1) ls (.int (σ.1 a i.toNatClampNeg) :: r) σ
  | .laload => tI st fun i r => tR r fun a r => (sw_kd a).1 = 2 ∧ vp_in i (sw_kd a).2 ∧ X b (pc + 1) ls (.long (σ.2 a i.toNatClampNeg) :: r) σ
  | .baload => cond (Nat.blt own 15) (tI st fun i r => tR r fun a r => (sw_kd a).1 = 3 ∧ vp_in i (sw_kd a).2 ∧ X b (pc + 1) ls (.int (σ.1 a i.toNatClampNeg) :: r) σ) (tI st fun i r => tR r fun a r => sw_byt a ∧ vp_in i (sw_slen.getD (a - 2000) 0) ∧ X b (pc + 1) ls (.int ((sw_sbyt.getD (a - 2000) []).getD i.toNatClampNeg 0) :: r) σ)
  | .iastore => tI st fun x r => tI r fun i r => tR r fun a r => (sw_kd a).1 = 1 ∧ vp_in i (sw_kd a).2 ∧ X b (pc + 1) ls r (sw_sI σ a (upd (σ.1 a) i.toNatClampNeg x))
  | .lastore => tL st fun x r => tI r fun i r => tR r fun a r => (sw_kd a).1 = 2 ∧ vp_in i (sw_kd a).2 ∧ X b (pc + 1) ls r (sw_sL σ a (vp_updL (σ.2 a) i.toNatClampNeg x))
  | .bastore => tI st fun x r => tI r fun i r => tR r fun a r => (sw_kd a).1 = 3 ∧ vp_in i (sw_kd a).2 ∧ sw_z x ∧ X b (pc + 1) ls r (sw_sI σ a (upd (σ.1 a) i.toNatClampNeg x))
  | .arraylength => cond (Nat.blt own 15) (tR st fun a r => ((sw_kd a).1 = 1 ∨ (sw_kd a).1 = 2 ∨ (sw_kd a).1 = 3) ∧ X b (pc + 1) ls (.int (Int32.ofNat (sw_kd a).2) :: r) σ) (tR st fun a r => sw_byt a ∧ X b (pc + 1) ls (.int (Int32.ofNat (sw_slen.getD (a - 2000) 0)) :: r) σ)
  | .ireturn => tI st fun x r => r = [] ∧ sw_ir rt x ∧ kr (some (.int x)) σ
  | .lreturn => tL st fun x r => r = [] ∧ rt = some .long ∧ kr (some (.long x)) σ
  | .return_ => st = [] ∧ rt = none ∧ kr none σ
  | .invokevirtual k => match sw_ml own k with
    | some n => cond (Nat.blt n 304) (cond (sw_mo n).2.1 False (cond (sw_isc n) False (tA ((sw_mo n).2.2 + 1) [] st fun av r => r.length ≤ 4 ∧ sw_recv n av ∧
        cond (sw_isx n) (match b with
          | 0 => False
          | b' + 1 => kcx n av σ (fun v σ' => X b' (pc + 3) ls (v.toList ++ r) σ') kx) (kc n av σ (fun v σ' => X b (pc + 3) ls (v.toList ++ r) σ'))))) False
    | none => False
  | .invokestatic k => match sw_ml own k with
    | some n => cond (Nat.blt n 304) (cond (sw_mo n).2.1 (tA (sw_mo n).2.2 [] st fun av r => r.length ≤ 4 ∧ kc n av σ (fun v σ' => X b (pc + 3) ls (v.toList ++ r) σ')) False)
        (tI st fun m r => tI r fun dp r => tR r fun a1 r => tI r fun sp r => tR r fun a0 r => (sw_kd a0).1 = 1 ∧ (sw_kd a1).1 = 1 ∧ r.length ≤ 4 ∧ ¬ sp < 0 ∧ ¬ dp < 0 ∧ ¬ m < 0 ∧ sp.toNatClampNeg + m.toNatClampNeg ≤ (sw_kd a0).2 ∧ dp.toNatClampNeg + m.toNatClampNeg ≤ (sw_kd a1).2 ∧
          X b (pc + 3) ls r (sw_sI σ a1 (va_cpy (σ.1 a0) (σ.1 a1) sp.toNatClampNeg dp.toNatClampNeg m.toNatClampNeg)))
    | none => False
  | .new k => match sw_xl own k with
    | some x => match b with
      | 0 => False
      | _ + 1 => st = [] ∧ sw_thr own cc x pc ∧ kx x σ
    | none => False
  | _ => False
def sw_F (own : Nat) (cc : ByteArray) (nL : Nat) (rt : Option FieldType) (kr : Option Value → sw_M → Prop) (kx : Nat → sw_M → Prop) (kc : Nat → List Value → sw_M → (Option Value → sw_M → Prop) → Prop) (kcx : Nat → List Value → sw_M → (Option Value → sw_M → Prop) → (Nat → sw_M → Prop) → Prop) (X : sw_P) (b pc : Nat) (ls : List (Option Value)) (st : List Value) (σ : sw_M) : Prop := match decode cc pc with
  | .ok (i, len) => cond (Nat.beq (sw_len i) 0 || Nat.beq len (sw_len i)) (sw_step own cc nL rt kr kx kc kcx X i b pc ls st σ) False
  | .error _ => False
/-- THE CODE from pc on: the least X that holds where its steps say (so: it ends) -/
def sw_V (l : Launch) (E : sw_E) (d own : Nat) (cc : ByteArray) (nL : Nat) (rt : Option FieldType) (kr : Option Value → sw_M → Prop) (kx : Nat → sw_M → Prop) (b pc : Nat) (ls : List (Option Value)) (st : List Value) (σ : sw_M) : Prop :=
  ∀ X : sw_P, (∀ b pc ls st σ, sw_F own cc nL rt kr kx (sw_Con l E d) (sw_ConX l E d 1) X b pc ls st σ → X b pc ls st σ) → X b pc ls st σ
theorem tI_mo {st : List Value} {f g : Int32 → List Value → Prop} (h : tI st f) (k : ∀ x r, f x r → g x r) : tI st g := by
  obtain ⟨x, r, rfl, h⟩ := tI_el h; exact k x r h
theorem tL_mo {st : List Value} {f g : Int64 → List Value → Prop} (h : tL st f) (k : ∀ x r, f x r → g x r) : tL st g := by
  obtain ⟨x, r, rfl, h⟩ := tL_el h; exact k x r h
theorem tR_mo {st : List Value} {f g : Nat → List Value → Prop} (h : tR st f) (k : ∀ x r, f x r → g x r) : tR st g := by
  obtain ⟨x, r, rfl, h⟩ := tR_el h; exact k x r h
theorem t1_mo {st : List Value} {f g : Value → List Value → Prop} (h : t1 st f) (k : ∀ x r, f x r → g x r) : t1 st g := by
  obtain ⟨x, r, rfl, -, h, e⟩ := t1_el h
  rw [e]; exact k x r h
theorem oI_mo {o : Option Value} {f g : Int32 → Prop} (h : oI o f) (k : ∀ x, f x → g x) : oI o g := by
  obtain ⟨x, rfl, h⟩ := oI_el h; exact k x h
theorem oL_mo {o : Option Value} {f g : Int64 → Prop} (h : oL o f) (k : ∀ x, f x → g x) : oL o g := by
  obtain ⟨x, rfl, h⟩ := oL_el h; exact k x h
theorem oR_mo {o : Option Value} {f g : Nat → Prop} (h : oR o f) (k : ∀ x, f x → g x) : oR o g := by
  obtain ⟨x, rfl, h⟩ := oR_el h; exact k x h
theorem tA_mo {n : Nat} {st : List Value} {f g : List Value → List Value → Prop} (h : tA n [] st f) (k : ∀ a r, f a r → g a r) : tA n [] st g := by
  obtain ⟨av, r, -, -, h, e⟩ := tA_el h
  rw [e]; exact k _ _ h
theorem sw_j_mo {pc : Nat} {off : Int} {f g : Nat → Prop} (h : sw_j pc off f) (k : ∀ t, f t → g t) : sw_j pc off g := by
  obtain ⟨t, -, h, e⟩ := sw_j_el h
  rw [e]; exact k _ h
theorem cond_mo {c : Bool} {a a' b b' : Prop} (h : cond c a b) (k1 : a → a') (k2 : b → b') : cond c a' b' := by
  cases c
  · exact k2 h
  · exact k1 h
theorem cond_no {c : Bool} {X : Prop} (h : cond c False X) : c = false ∧ X := by
  cases c
  · exact ⟨rfl, h⟩
  · exact h.elim
theorem cond_yes {c : Bool} {X : Prop} (h : cond c X False) : c = true ∧ X := by
  cases c
  · exact h.elim
  · exact ⟨rfl, h⟩
