/-! THE RULES of the mini-machine, and that the machine keeps them -/
def rIx (i : Instr) : Option Nat := match i with
  | .invokevirtual k => some (2 * k)
  | .invokestatic k => some (2 * k + 1)
  | _ => none
theorem mcons {v : Value} {st : List Value} (h : v.category = 1) (hs : ∀ w ∈ st, w.category = 1) : ∀ w ∈ v :: st, w.category = 1 := fun w hw => (List.mem_cons.mp hw).elim (fun e => by rw [e]; exact h) (hs w)
theorem mtail {v : Value} {st : List Value} (hs : ∀ w ∈ v :: st, w.category = 1) : ∀ w ∈ st, w.category = 1 := fun w hw => hs w (List.mem_cons_of_mem _ hw)
def Clo (K : Nat → List Value → List Value → mMem → Prop) (cc : ByteArray) (sh : List mSh) (fx : Nat → Nat → Option Nat) (px : Nat → Nat → Option (Nat × Bool)) (kx : Nat → Option Int32) (sx : Nat → Option Nat) (cx : Nat → Option (Nat × mSem)) (Rt : Option Int32 → mMem → Prop) : Prop :=
  (∀ (pc : Nat) (ls st : List Value) (C : mMem) (n : Int), decode cc pc = .ok (.iconst n, 1) → K (pc + 1) ls (.int (Int32.ofInt n) :: st) C → K pc ls st C) ∧
  (∀ (pc : Nat) (ls st : List Value) (C : mMem) (n : Int), decode cc pc = .ok (.bipush n, 2) → K (pc + 2) ls (.int ((Int8.ofInt n).toInt32) :: st) C → K pc ls st C) ∧
  (∀ (pc : Nat) (ls st : List Value) (C : mMem) (n : Int), decode cc pc = .ok (.sipush n, 3) → K (pc + 3) ls (.int ((Int16.ofInt n).toInt32) :: st) C → K pc ls st C) ∧
  (∀ (pc : Nat) (ls st : List Value) (C : mMem) (ix : Nat) (v : Int32), kx ix = some v → decode cc pc = .ok (.ldc ix, 2) → K (pc + 2) ls (.int (v) :: st) C → K pc ls st C) ∧
  (∀ (pc : Nat) (ls st : List Value) (C : mMem) (ix : Nat) (v : Int32), kx ix = some v → decode cc pc = .ok (.ldc_w ix, 3) → K (pc + 3) ls (.int (v) :: st) C → K pc ls st C) ∧
  (∀ (pc : Nat) (ls st : List Value) (C : mMem) (ix k : Nat), sx ix = some k → decode cc pc = .ok (.ldc ix, 2) → K (pc + 2) ls (.ref k :: st) C → K pc ls st C) ∧
  (∀ (pc : Nat) (ls st : List Value) (C : mMem) (k : Fin 4) (x : Int32), decode cc pc = .ok (.iload_n k, 1) → ls[(k : Nat)]? = some (.int x) → K (pc + 1) ls (.int x :: st) C → K pc ls st C) ∧
  (∀ (pc : Nat) (ls st : List Value) (C : mMem) (k : Nat) (x : Int32), decode cc pc = .ok (.iload k, 2) → ls[k]? = some (.int x) → K (pc + 2) ls (.int x :: st) C → K pc ls st C) ∧
  (∀ (pc : Nat) (ls st : List Value) (C : mMem) (k : Fin 4) (x : Nat), decode cc pc = .ok (.aload_n k, 1) → ls[(k : Nat)]? = some (.ref x) → K (pc + 1) ls (.ref x :: st) C → K pc ls st C) ∧
  (∀ (pc : Nat) (ls st : List Value) (C : mMem) (k : Nat) (x : Nat), decode cc pc = .ok (.aload k, 2) → ls[k]? = some (.ref x) → K (pc + 2) ls (.ref x :: st) C → K pc ls st C) ∧
  (∀ (pc : Nat) (ls st : List Value) (C : mMem) (k : Fin 4) (x : Int32), decode cc pc = .ok (.istore_n k, 1) → (k : Nat) < ls.length → K (pc + 1) (ls.set k (.int x)) st C → K pc ls (.int x :: st) C) ∧
  (∀ (pc : Nat) (ls st : List Value) (C : mMem) (k : Nat) (x : Int32), decode cc pc = .ok (.istore k, 2) → k < ls.length → K (pc + 2) (ls.set k (.int x)) st C → K pc ls (.int x :: st) C) ∧
  (∀ (pc : Nat) (ls st : List Value) (C : mMem) (k : Fin 4) (x : Nat), decode cc pc = .ok (.astore_n k, 1) → (k : Nat) < ls.length → K (pc + 1) (ls.set k (.ref x)) st C → K pc ls (.ref x :: st) C) ∧
  (∀ (pc : Nat) (ls st : List Value) (C : mMem) (k : Nat) (x : Nat), decode cc pc = .ok (.astore k, 2) → k < ls.length → K (pc + 2) (ls.set k (.ref x)) st C → K pc ls (.ref x :: st) C) ∧
  (∀ (pc : Nat) (ls st : List Value) (C : mMem) (k : Nat) (n : Int) (x : Int32), decode cc pc = .ok (.iinc k n, 3) → ls[k]? = some (.int x) → K (pc + 3) (ls.set k (.int (x + Int32.ofInt n))) st C → K pc ls st C) ∧
  (∀ (pc : Nat) (ls st : List Value) (C : mMem) (x y : Int32), decode cc pc = .ok (.iadd, 1) → K (pc + 1) ls (.int (x + y) :: st) C → K pc ls (.int y :: .int x :: st) C) ∧
  (∀ (pc : Nat) (ls st : List Value) (C : mMem) (x y : Int32), decode cc pc = .ok (.isub, 1) → K (pc + 1) ls (.int (x - y) :: st) C → K pc ls (.int y :: .int x :: st) C) ∧
  (∀ (pc : Nat) (ls st : List Value) (C : mMem) (x y : Int32), decode cc pc = .ok (.imul, 1) → K (pc + 1) ls (.int (x * y) :: st) C → K pc ls (.int y :: .int x :: st) C) ∧
  (∀ (pc : Nat) (ls st : List Value) (C : mMem) (x y : Int32), decode cc pc = .ok (.iand, 1) → K (pc + 1) ls (.int (x &&& y) :: st) C → K pc ls (.int y :: .int x :: st) C) ∧
  (∀ (pc : Nat) (ls st : List Value) (C : mMem) (x y : Int32), decode cc pc = .ok (.ior, 1) → K (pc + 1) ls (.int (x ||| y) :: st) C → K pc ls (.int y :: .int x :: st) C) ∧
  (∀ (pc : Nat) (ls st : List Value) (C : mMem) (x y : Int32), decode cc pc = .ok (.ishl, 1) → K (pc + 1) ls (.int (x <<< (y &&& 31)) :: st) C → K pc ls (.int y :: .int x :: st) C) ∧
  (∀ (pc : Nat) (ls st : List Value) (C : mMem) (x y : Int32), decode cc pc = .ok (.ishr, 1) → K (pc + 1) ls (.int (x >>> (y &&& 31)) :: st) C → K pc ls (.int y :: .int x :: st) C) ∧
  (∀ (pc : Nat) (ls st : List Value) (C : mMem) (x y : Int32), decode cc pc = .ok (.idiv, 1) → ¬ y = 0 → K (pc + 1) ls (.int (x / y) :: st) C → K pc ls (.int y :: .int x :: st) C) ∧
  (∀ (pc : Nat) (ls st : List Value) (C : mMem) (x y : Int32), decode cc pc = .ok (.irem, 1) → ¬ y = 0 → K (pc + 1) ls (.int (x - x / y * y) :: st) C → K pc ls (.int y :: .int x :: st) C) ∧
  (∀ (pc : Nat) (ls st : List Value) (C : mMem) (x : Int32), decode cc pc = .ok (.ineg, 1) → K (pc + 1) ls (.int (-x) :: st) C → K pc ls (.int x :: st) C) ∧
  (∀ (pc : Nat) (ls st : List Value) (C : mMem) (x : Int32), decode cc pc = .ok (.i2b, 1) → K (pc + 1) ls (.int (x.toInt8.toInt32) :: st) C → K pc ls (.int x :: st) C) ∧
  (∀ (pc : Nat) (ls st : List Value) (C : mMem) (v : Value), decode cc pc = .ok (.dup, 1) → K (pc + 1) ls (v :: v :: st) C → K pc ls (v :: st) C) ∧
  (∀ (pc : Nat) (ls st : List Value) (C : mMem) (v w : Value), decode cc pc = .ok (.dup2, 1) → K (pc + 1) ls (v :: w :: v :: w :: st) C → K pc ls (v :: w :: st) C) ∧
  (∀ (pc : Nat) (ls st : List Value) (C : mMem) (cd : ClassFile.Cond) (off : Int) (tgt : Nat) (x : Int32), decode cc pc = .ok (.ifCond cd off, 3) → (pc : Int) + off = (tgt : Int) → (cz cd x 0 = true → K tgt ls st C) → (cz cd x 0 = false → K (pc + 3) ls st C) → K pc ls (.int x :: st) C) ∧
  (∀ (pc : Nat) (ls st : List Value) (C : mMem) (cd : ClassFile.Cond) (off : Int) (tgt : Nat) (x y : Int32), decode cc pc = .ok (.if_icmp cd off, 3) → (pc : Int) + off = (tgt : Int) → (cz cd x y = true → K tgt ls st C) → (cz cd x y = false → K (pc + 3) ls st C) → K pc ls (.int y :: .int x :: st) C) ∧
  (∀ (pc : Nat) (ls st : List Value) (C : mMem) (off : Int) (tgt : Nat), decode cc pc = .ok (.goto off, 3) → (pc : Int) + off = (tgt : Int) → K tgt ls st C → K pc ls st C) ∧
  (∀ (pc : Nat) (ls st : List Value) (C : mMem) (df lo hi : Int) (offs : Array Int) (len tgt : Nat) (x : Int32), decode cc pc = .ok (.tableswitch df lo hi offs, len) → (x.toInt < lo ∨ hi < x.toInt) → (pc : Int) + df = (tgt : Int) → K tgt ls st C → K pc ls (.int x :: st) C) ∧
  (∀ (pc : Nat) (ls st : List Value) (C : mMem) (df lo hi off : Int) (offs : Array Int) (len tgt : Nat) (x : Int32), decode cc pc = .ok (.tableswitch df lo hi offs, len) → ¬ x.toInt < lo → ¬ hi < x.toInt → offs[(x.toInt - lo).toNat]? = some off → (pc : Int) + off = (tgt : Int) → K tgt ls st C → K pc ls (.int x :: st) C) ∧
  (∀ (pc : Nat) (ls st : List Value) (C : mMem) (ix k ci j : Nat) (fs : List (Option Nat)) (f : Option Nat), decode cc pc = .ok (.getfield ix, 3) → sh[k]? = some (.inr (.inr (ci, fs))) → fx ix ci = some j → fs[j]? = some f → K (pc + 3) ls (mF (fun t => t) C k j f :: st) C → K pc ls (.ref k :: st) C) ∧
  (∀ (pc : Nat) (ls st : List Value) (C : mMem) (ix k ci j : Nat) (b : Bool) (fs : List (Option Nat)) (x : Int32), decode cc pc = .ok (.putfield ix, 3) → sh[k]? = some (.inr (.inr (ci, fs))) → px ix ci = some (j, b) → fs[j]? = some none → (b = true → x = 0 ∨ x = 1) → K (pc + 3) ls st (mUp C k j x) → K pc ls (.int x :: .ref k :: st) C) ∧
  (∀ (pc : Nat) (ls st : List Value) (C : mMem) (k n : Nat) (i : Int32), decode cc pc = .ok (.iaload, 1) → sh[k]? = some (.inl (.int, n)) → vp_in i n → K (pc + 1) ls (.int (C k i.toNatClampNeg) :: st) C → K pc ls (.int i :: .ref k :: st) C) ∧
  (∀ (pc : Nat) (ls st : List Value) (C : mMem) (k n : Nat) (i : Int32), decode cc pc = .ok (.baload, 1) → sh[k]? = some (.inl (.byte, n)) → vp_in i n → K (pc + 1) ls (.int (C k i.toNatClampNeg) :: st) C → K pc ls (.int i :: .ref k :: st) C) ∧
  (∀ (pc : Nat) (ls st : List Value) (C : mMem) (k n : Nat) (i : Int32), decode cc pc = .ok (.baload, 1) → sh[k]? = some (.inl (.boolean, n)) → vp_in i n → K (pc + 1) ls (.int (C k i.toNatClampNeg) :: st) C → K pc ls (.int i :: .ref k :: st) C) ∧
  (∀ (pc : Nat) (ls st : List Value) (C : mMem) (k n : Nat) (i x : Int32), decode cc pc = .ok (.iastore, 1) → sh[k]? = some (.inl (.int, n)) → vp_in i n → K (pc + 1) ls st (mUp C k i.toNatClampNeg (x)) → K pc ls (.int x :: .int i :: .ref k :: st) C) ∧
  (∀ (pc : Nat) (ls st : List Value) (C : mMem) (k n : Nat) (i x : Int32), decode cc pc = .ok (.bastore, 1) → sh[k]? = some (.inl (.byte, n)) → vp_in i n → K (pc + 1) ls st (mUp C k i.toNatClampNeg (vp_nar .byte x)) → K pc ls (.int x :: .int i :: .ref k :: st) C) ∧
  (∀ (pc : Nat) (ls st : List Value) (C : mMem) (k n : Nat) (i x : Int32), decode cc pc = .ok (.bastore, 1) → sh[k]? = some (.inl (.boolean, n)) → vp_in i n → K (pc + 1) ls st (mUp C k i.toNatClampNeg (vp_nar .boolean x)) → K pc ls (.int x :: .int i :: .ref k :: st) C) ∧
  (∀ (pc : Nat) (ls st : List Value) (C : mMem) (k : Nat) (Cn : String) (ts : List Nat) (i : Int32) (t : Nat), decode cc pc = .ok (.aaload, 1) → sh[k]? = some (.inr (.inl (Cn, ts))) → vp_in i ts.length → ts[i.toNatClampNeg]? = some t → K (pc + 1) ls (.ref t :: st) C → K pc ls (.int i :: .ref k :: st) C) ∧
  (∀ (pc : Nat) (ls st : List Value) (C : mMem) (k n : Nat) (ty : FieldType), decode cc pc = .ok (.arraylength, 1) → sh[k]? = some (.inl (ty, n)) → K (pc + 1) ls (.int (Int32.ofNat n) :: st) C → K pc ls (.ref k :: st) C) ∧
  (∀ (pc : Nat) (ls st as : List Value) (C C' : mMem) (i : Instr) (ix n : Nat) (f : mSem) (r : Option Int32), decode cc pc = .ok (i, 3) → rIx i = some ix → cx ix = some (n, f) → as.length = n → st.length ≤ 8 → f as C = some (r, C') → K (pc + 3) ls ((r.map Value.int).toList ++ st) C' → K pc ls (as.reverse ++ st) C) ∧
  (∀ (pc : Nat) (ls : List Value) (C : mMem) (x : Int32), decode cc pc = .ok (.ireturn, 1) → Rt (some x) C → K pc ls [.int x] C) ∧
  (∀ (pc : Nat) (ls : List Value) (C : mMem), decode cc pc = .ok (.return_, 1) → Rt none C → K pc ls [] C)
theorem k_iconst {K : Nat → List Value → List Value → mMem → Prop} {cc : ByteArray} {sh : List mSh} {fx : Nat → Nat → Option Nat} {px : Nat → Nat → Option (Nat × Bool)} {kx : Nat → Option Int32} {sx : Nat → Option Nat} {cx : Nat → Option (Nat × mSem)} {Rt : Option Int32 → mMem → Prop} (h : Clo K cc sh fx px kx sx cx Rt) : ∀ (pc : Nat) (ls st : List Value) (C : mMem) (n : Int), decode cc pc = .ok (.iconst n, 1) → K (pc + 1) ls (.int (Int32.ofInt n) :: st) C → K pc ls st C := h.1
theorem k_bipush {K : Nat → List Value → List Value → mMem → Prop} {cc : ByteArray} {sh : List mSh} {fx : Nat → Nat → Option Nat} {px : Nat → Nat → Option (Nat × Bool)} {kx : Nat → Option Int32} {sx : Nat → Option Nat} {cx : Nat → Option (Nat × mSem)} {Rt : Option Int32 → mMem → Prop} (h : Clo K cc sh fx px kx sx cx Rt) : ∀ (pc : Nat) (ls st : List Value) (C : mMem) (n : Int), decode cc pc = .ok (.bipush n, 2) → K (pc + 2) ls (.int ((Int8.ofInt n).toInt32) :: st) C → K pc ls st C := h.2.1
theorem k_sipush {K : Nat → List Value → List Value → mMem → Prop} {cc : ByteArray} {sh : List mSh} {fx : Nat → Nat → Option Nat} {px : Nat → Nat → Option (Nat × Bool)} {kx : Nat → Option Int32} {sx : Nat → Option Nat} {cx : Nat → Option (Nat × mSem)} {Rt : Option Int32 → mMem → Prop} (h : Clo K cc sh fx px kx sx cx Rt) : ∀ (pc : Nat) (ls st : List Value) (C : mMem) (n : Int), decode cc pc = .ok (.sipush n, 3) → K (pc + 3) ls (.int ((Int16.ofInt n).toInt32) :: st) C → K pc ls st C := h.2.2.1
theorem k_ldc {K : Nat → List Value → List Value → mMem → Prop} {cc : ByteArray} {sh : List mSh} {fx : Nat → Nat → Option Nat} {px : Nat → Nat → Option (Nat × Bool)} {kx : Nat → Option Int32} {sx : Nat → Option Nat} {cx : Nat → Option (Nat × mSem)} {Rt : Option Int32 → mMem → Prop} (h : Clo K cc sh fx px kx sx cx Rt) : ∀ (pc : Nat) (ls st : List Value) (C : mMem) (ix : Nat) (v : Int32), kx ix = some v → decode cc pc = .ok (.ldc ix, 2) → K (pc + 2) ls (.int (v) :: st) C → K pc ls st C := h.2.2.2.1
theorem k_ldcw {K : Nat → List Value → List Value → mMem → Prop} {cc : ByteArray} {sh : List mSh} {fx : Nat → Nat → Option Nat} {px : Nat → Nat → Option (Nat × Bool)} {kx : Nat → Option Int32} {sx : Nat → Option Nat} {cx : Nat → Option (Nat × mSem)} {Rt : Option Int32 → mMem → Prop} (h : Clo K cc sh fx px kx sx cx Rt) : ∀ (pc : Nat) (ls st : List Value) (C : mMem) (ix : Nat) (v : Int32), kx ix = some v → decode cc pc = .ok (.ldc_w ix, 3) → K (pc + 3) ls (.int (v) :: st) C → K pc ls st C := h.2.2.2.2.1
theorem k_ldcS {K : Nat → List Value → List Value → mMem → Prop} {cc : ByteArray} {sh : List mSh} {fx : Nat → Nat → Option Nat} {px : Nat → Nat → Option (Nat × Bool)} {kx : Nat → Option Int32} {sx : Nat → Option Nat} {cx : Nat → Option (Nat × mSem)} {Rt : Option Int32 → mMem → Prop} (h : Clo K cc sh fx px kx sx cx Rt) : ∀ (pc : Nat) (ls st : List Value) (C : mMem) (ix k : Nat), sx ix = some k → decode cc pc = .ok (.ldc ix, 2) → K (pc + 2) ls (.ref k :: st) C → K pc ls st C := h.2.2.2.2.2.1
theorem k_iload_n {K : Nat → List Value → List Value → mMem → Prop} {cc : ByteArray} {sh : List mSh} {fx : Nat → Nat → Option Nat} {px : Nat → Nat → Option (Nat × Bool)} {kx : Nat → Option Int32} {sx : Nat → Option Nat} {cx : Nat → Option (Nat × mSem)} {Rt : Option Int32 → mMem → Prop} (h : Clo K cc sh fx px kx sx cx Rt) : ∀ (pc : Nat) (ls st : List Value) (C : mMem) (k : Fin 4) (x : Int32), decode cc pc = .ok (.iload_n k, 1) → ls[(k : Nat)]? = some (.int x) → K (pc + 1) ls (.int x :: st) C → K pc ls st C := h.2.2.2.2.2.2.1
theorem k_iload {K : Nat → List Value → List Value → mMem → Prop} {cc : ByteArray} {sh : List mSh} {fx : Nat → Nat → Option Nat} {px : Nat → Nat → Option (Nat × Bool)} {kx : Nat → Option Int32} {sx : Nat → Option Nat} {cx : Nat → Option (Nat × mSem)} {Rt : Option Int32 → mMem → Prop} (h : Clo K cc sh fx px kx sx cx Rt) : ∀ (pc : Nat) (ls st : List Value) (C : mMem) (k : Nat) (x : Int32), decode cc pc = .ok (.iload k, 2) → ls[k]? = some (.int x) → K (pc + 2) ls (.int x :: st) C → K pc ls st C := h.2.2.2.2.2.2.2.1
theorem k_aload_n {K : Nat → List Value → List Value → mMem → Prop} {cc : ByteArray} {sh : List mSh} {fx : Nat → Nat → Option Nat} {px : Nat → Nat → Option (Nat × Bool)} {kx : Nat → Option Int32} {sx : Nat → Option Nat} {cx : Nat → Option (Nat × mSem)} {Rt : Option Int32 → mMem → Prop} (h : Clo K cc sh fx px kx sx cx Rt) : ∀ (pc : Nat) (ls st : List Value) (C : mMem) (k : Fin 4) (x : Nat), decode cc pc = .ok (.aload_n k, 1) → ls[(k : Nat)]? = some (.ref x) → K (pc + 1) ls (.ref x :: st) C → K pc ls st C := h.2.2.2.2.2.2.2.2.1
theorem k_aload {K : Nat → List Value → List Value → mMem → Prop} {cc : ByteArray} {sh : List mSh} {fx : Nat → Nat → Option Nat} {px : Nat → Nat → Option (Nat × Bool)} {kx : Nat → Option Int32} {sx : Nat → Option Nat} {cx : Nat → Option (Nat × mSem)} {Rt : Option Int32 → mMem → Prop} (h : Clo K cc sh fx px kx sx cx Rt) : ∀ (pc : Nat) (ls st : List Value) (C : mMem) (k : Nat) (x : Nat), decode cc pc = .ok (.aload k, 2) → ls[k]? = some (.ref x) → K (pc + 2) ls (.ref x :: st) C → K pc ls st C := h.2.2.2.2.2.2.2.2.2.1
theorem k_istore_n {K : Nat → List Value → List Value → mMem → Prop} {cc : ByteArray} {sh : List mSh} {fx : Nat → Nat → Option Nat} {px : Nat → Nat → Option (Nat × Bool)} {kx : Nat → Option Int32} {sx : Nat → Option Nat} {cx : Nat → Option (Nat × mSem)} {Rt : Option Int32 → mMem → Prop} (h : Clo K cc sh fx px kx sx cx Rt) : ∀ (pc : Nat) (ls st : List Value) (C : mMem) (k : Fin 4) (x : Int32), decode cc pc = .ok (.istore_n k, 1) → (k : Nat) < ls.length → K (pc + 1) (ls.set k (.int x)) st C → K pc ls (.int x :: st) C := h.2.2.2.2.2.2.2.2.2.2.1
theorem k_istore {K : Nat → List Value → List Value → mMem → Prop} {cc : ByteArray} {sh : List mSh} {fx : Nat → Nat → Option Nat} {px : Nat → Nat → Option (Nat × Bool)} {kx : Nat → Option Int32} {sx : Nat → Option Nat} {cx : Nat → Option (Nat × mSem)} {Rt : Option Int32 → mMem → Prop} (h : Clo K cc sh fx px kx sx cx Rt) : ∀ (pc : Nat) (ls st : List Value) (C : mMem) (k : Nat) (x : Int32), decode cc pc = .ok (.istore k, 2) → k < ls.length → K (pc + 2) (ls.set k (.int x)) st C → K pc ls (.int x :: st) C := h.2.2.2.2.2.2.2.2.2.2.2.1
theorem k_astore_n {K : Nat → List Value → List Value → mMem → Prop} {cc : ByteArray} {sh : List mSh} {fx : Nat → Nat → Option Nat} {px : Nat → Nat → Option (Nat × Bool)} {kx : Nat → Option Int32} {sx : Nat → Option Nat} {cx : Nat → Option (Nat × mSem)} {Rt : Option Int32 → mMem → Prop} (h : Clo K cc sh fx px kx sx cx Rt) : ∀ (pc : Nat) (ls st : List Value) (C : mMem) (k : Fin 4) (x : Nat), decode cc pc = .ok (.astore_n k, 1) → (k : Nat) < ls.length → K (pc + 1) (ls.set k (.ref x)) st C → K pc ls (.ref x :: st) C := h.2.2.2.2.2.2.2.2.2.2.2.2.1
theorem k_astore {K : Nat → List Value → List Value → mMem → Prop} {cc : ByteArray} {sh : List mSh} {fx : Nat → Nat → Option Nat} {px : Nat → Nat → Option (Nat × Bool)} {kx : Nat → Option Int32} {sx : Nat → Option Nat} {cx : Nat → Option (Nat × mSem)} {Rt : Option Int32 → mMem → Prop} (h : Clo K cc sh fx px kx sx cx Rt) : ∀ (pc : Nat) (ls st : List Value) (C : mMem) (k : Nat) (x : Nat), decode cc pc = .ok (.astore k, 2) → k < ls.length → K (pc + 2) (ls.set k (.ref x)) st C → K pc ls (.ref x :: st) C := h.2.2.2.2.2.2.2.2.2.2.2.2.2.1
theorem k_iinc {K : Nat → List Value → List Value → mMem → Prop} {cc : ByteArray} {sh : List mSh} {fx : Nat → Nat → Option Nat} {px : Nat → Nat → Option (Nat × Bool)} {kx : Nat → Option Int32} {sx : Nat → Option Nat} {cx : Nat → Option (Nat × mSem)} {Rt : Option Int32 → mMem → Prop} (h : Clo K cc sh fx px kx sx cx Rt) : ∀ (pc : Nat) (ls st : List Value) (C : mMem) (k : Nat) (n : Int) (x : Int32), decode cc pc = .ok (.iinc k n, 3) → ls[k]? = some (.int x) → K (pc + 3) (ls.set k (.int (x + Int32.ofInt n))) st C → K pc ls st C := h.2.2.2.2.2.2.2.2.2.2.2.2.2.2.1
theorem k_iadd {K : Nat → List Value → List Value → mMem → Prop} {cc : ByteArray} {sh : List mSh} {fx : Nat → Nat → Option Nat} {px : Nat → Nat → Option (Nat × Bool)} {kx : Nat → Option Int32} {sx : Nat → Option Nat} {cx : Nat → Option (Nat × mSem)} {Rt : Option Int32 → mMem → Prop} (h : Clo K cc sh fx px kx sx cx Rt) : ∀ (pc : Nat) (ls st : List Value) (C : mMem) (x y : Int32), decode cc pc = .ok (.iadd, 1) → K (pc + 1) ls (.int (x + y) :: st) C → K pc ls (.int y :: .int x :: st) C := h.2.2.2.2.2.2.2.2.2.2.2.2.2.2.2.1
theorem k_isub {K : Nat → List Value → List Value → mMem → Prop} {cc : ByteArray} {sh : List mSh} {fx : Nat → Nat → Option Nat} {px : Nat → Nat → Option (Nat × Bool)} {kx : Nat → Option Int32} {sx : Nat → Option Nat} {cx : Nat → Option (Nat × mSem)} {Rt : Option Int32 → mMem → Prop} (h : Clo K cc sh fx px kx sx cx Rt) : ∀ (pc : Nat) (ls st : List Value) (C : mMem) (x y : Int32), decode cc pc = .ok (.isub, 1) → K (pc + 1) ls (.int (x - y) :: st) C → K pc ls (.int y :: .int x :: st) C := h.2.2.2.2.2.2.2.2.2.2.2.2.2.2.2.2.1
theorem k_imul {K : Nat → List Value → List Value → mMem → Prop} {cc : ByteArray} {sh : List mSh} {fx : Nat → Nat → Option Nat} {px : Nat → Nat → Option (Nat × Bool)} {kx : Nat → Option Int32} {sx : Nat → Option Nat} {cx : Nat → Option (Nat × mSem)} {Rt : Option Int32 → mMem → Prop} (h : Clo K cc sh fx px kx sx cx Rt) : ∀ (pc : Nat) (ls st : List Value) (C : mMem) (x y : Int32), decode cc pc = .ok (.imul, 1) → K (pc + 1) ls (.int (x * y) :: st) C → K pc ls (.int y :: .int x :: st) C := h.2.2.2.2.2.2.2.2.2.2.2.2.2.2.2.2.2.1
theorem k_iand {K : Nat → List Value → List Value → mMem → Prop} {cc : ByteArray} {sh : List mSh} {fx : Nat → Nat → Option Nat} {px : Nat → Nat → Option (Nat × Bool)} {kx : Nat → Option Int32} {sx : Nat → Option Nat} {cx : Nat → Option (Nat × mSem)} {Rt : Option Int32 → mMem → Prop} (h : Clo K cc sh fx px kx sx cx Rt) : ∀ (pc : Nat) (ls st : List Value) (C : mMem) (x y : Int32), decode cc pc = .ok (.iand, 1) → K (pc + 1) ls (.int (x &&& y) :: st) C → K pc ls (.int y :: .int x :: st) C := h.2.2.2.2.2.2.2.2.2.2.2.2.2.2.2.2.2.2.1
theorem k_ior {K : Nat → List Value → List Value → mMem → Prop} {cc : ByteArray} {sh : List mSh} {fx : Nat → Nat → Option Nat} {px : Nat → Nat → Option (Nat × Bool)} {kx : Nat → Option Int32} {sx : Nat → Option Nat} {cx : Nat → Option (Nat × mSem)} {Rt : Option Int32 → mMem → Prop} (h : Clo K cc sh fx px kx sx cx Rt) : ∀ (pc : Nat) (ls st : List Value) (C : mMem) (x y : Int32), decode cc pc = .ok (.ior, 1) → K (pc + 1) ls (.int (x ||| y) :: st) C → K pc ls (.int y :: .int x :: st) C := h.2.2.2.2.2.2.2.2.2.2.2.2.2.2.2.2.2.2.2.1
theorem k_ishl {K : Nat → List Value → List Value → mMem → Prop} {cc : ByteArray} {sh : List mSh} {fx : Nat → Nat → Option Nat} {px : Nat → Nat → Option (Nat × Bool)} {kx : Nat → Option Int32} {sx : Nat → Option Nat} {cx : Nat → Option (Nat × mSem)} {Rt : Option Int32 → mMem → Prop} (h : Clo K cc sh fx px kx sx cx Rt) : ∀ (pc : Nat) (ls st : List Value) (C : mMem) (x y : Int32), decode cc pc = .ok (.ishl, 1) → K (pc + 1) ls (.int (x <<< (y &&& 31)) :: st) C → K pc ls (.int y :: .int x :: st) C := h.2.2.2.2.2.2.2.2.2.2.2.2.2.2.2.2.2.2.2.2.1
theorem k_ishr {K : Nat → List Value → List Value → mMem → Prop} {cc : ByteArray} {sh : List mSh} {fx : Nat → Nat → Option Nat} {px : Nat → Nat → Option (Nat × Bool)} {kx : Nat → Option Int32} {sx : Nat → Option Nat} {cx : Nat → Option (Nat × mSem)} {Rt : Option Int32 → mMem → Prop} (h : Clo K cc sh fx px kx sx cx Rt) : ∀ (pc : Nat) (ls st : List Value) (C : mMem) (x y : Int32), decode cc pc = .ok (.ishr, 1) → K (pc + 1) ls (.int (x >>> (y &&& 31)) :: st) C → K pc ls (.int y :: .int x :: st) C := h.2.2.2.2.2.2.2.2.2.2.2.2.2.2.2.2.2.2.2.2.2.1
theorem k_idiv {K : Nat → List Value → List Value → mMem → Prop} {cc : ByteArray} {sh : List mSh} {fx : Nat → Nat → Option Nat} {px : Nat → Nat → Option (Nat × Bool)} {kx : Nat → Option Int32} {sx : Nat → Option Nat} {cx : Nat → Option (Nat × mSem)} {Rt : Option Int32 → mMem → Prop} (h : Clo K cc sh fx px kx sx cx Rt) : ∀ (pc : Nat) (ls st : List Value) (C : mMem) (x y : Int32), decode cc pc = .ok (.idiv, 1) → ¬ y = 0 → K (pc + 1) ls (.int (x / y) :: st) C → K pc ls (.int y :: .int x :: st) C := h.2.2.2.2.2.2.2.2.2.2.2.2.2.2.2.2.2.2.2.2.2.2.1
theorem k_irem {K : Nat → List Value → List Value → mMem → Prop} {cc : ByteArray} {sh : List mSh} {fx : Nat → Nat → Option Nat} {px : Nat → Nat → Option (Nat × Bool)} {kx : Nat → Option Int32} {sx : Nat → Option Nat} {cx : Nat → Option (Nat × mSem)} {Rt : Option Int32 → mMem → Prop} (h : Clo K cc sh fx px kx sx cx Rt) : ∀ (pc : Nat) (ls st : List Value) (C : mMem) (x y : Int32), decode cc pc = .ok (.irem, 1) → ¬ y = 0 → K (pc + 1) ls (.int (x - x / y * y) :: st) C → K pc ls (.int y :: .int x :: st) C := h.2.2.2.2.2.2.2.2.2.2.2.2.2.2.2.2.2.2.2.2.2.2.2.1
theorem k_ineg {K : Nat → List Value → List Value → mMem → Prop} {cc : ByteArray} {sh : List mSh} {fx : Nat → Nat → Option Nat} {px : Nat → Nat → Option (Nat × Bool)} {kx : Nat → Option Int32} {sx : Nat → Option Nat} {cx : Nat → Option (Nat × mSem)} {Rt : Option Int32 → mMem → Prop} (h : Clo K cc sh fx px kx sx cx Rt) : ∀ (pc : Nat) (ls st : List Value) (C : mMem) (x : Int32), decode cc pc = .ok (.ineg, 1) → K (pc + 1) ls (.int (-x) :: st) C → K pc ls (.int x :: st) C := h.2.2.2.2.2.2.2.2.2.2.2.2.2.2.2.2.2.2.2.2.2.2.2.2.1
theorem k_i2b {K : Nat → List Value → List Value → mMem → Prop} {cc : ByteArray} {sh : List mSh} {fx : Nat → Nat → Option Nat} {px : Nat → Nat → Option (Nat × Bool)} {kx : Nat → Option Int32} {sx : Nat → Option Nat} {cx : Nat → Option (Nat × mSem)} {Rt : Option Int32 → mMem → Prop} (h : Clo K cc sh fx px kx sx cx Rt) : ∀ (pc : Nat) (ls st : List Value) (C : mMem) (x : Int32), decode cc pc = .ok (.i2b, 1) → K (pc + 1) ls (.int (x.toInt8.toInt32) :: st) C → K pc ls (.int x :: st) C := h.2.2.2.2.2.2.2.2.2.2.2.2.2.2.2.2.2.2.2.2.2.2.2.2.2.1
theorem k_dup {K : Nat → List Value → List Value → mMem → Prop} {cc : ByteArray} {sh : List mSh} {fx : Nat → Nat → Option Nat} {px : Nat → Nat → Option (Nat × Bool)} {kx : Nat → Option Int32} {sx : Nat → Option Nat} {cx : Nat → Option (Nat × mSem)} {Rt : Option Int32 → mMem → Prop} (h : Clo K cc sh fx px kx sx cx Rt) : ∀ (pc : Nat) (ls st : List Value) (C : mMem) (v : Value), decode cc pc = .ok (.dup, 1) → K (pc + 1) ls (v :: v :: st) C → K pc ls (v :: st) C := h.2.2.2.2.2.2.2.2.2.2.2.2.2.2.2.2.2.2.2.2.2.2.2.2.2.2.1
theorem k_dup2 {K : Nat → List Value → List Value → mMem → Prop} {cc : ByteArray} {sh : List mSh} {fx : Nat → Nat → Option Nat} {px : Nat → Nat → Option (Nat × Bool)} {kx : Nat → Option Int32} {sx : Nat → Option Nat} {cx : Nat → Option (Nat × mSem)} {Rt : Option Int32 → mMem → Prop} (h : Clo K cc sh fx px kx sx cx Rt) : ∀ (pc : Nat) (ls st : List Value) (C : mMem) (v w : Value), decode cc pc = .ok (.dup2, 1) → K (pc + 1) ls (v :: w :: v :: w :: st) C → K pc ls (v :: w :: st) C := h.2.2.2.2.2.2.2.2.2.2.2.2.2.2.2.2.2.2.2.2.2.2.2.2.2.2.2.1
theorem k_ifz {K : Nat → List Value → List Value → mMem → Prop} {cc : ByteArray} {sh : List mSh} {fx : Nat → Nat → Option Nat} {px : Nat → Nat → Option (Nat × Bool)} {kx : Nat → Option Int32} {sx : Nat → Option Nat} {cx : Nat → Option (Nat × mSem)} {Rt : Option Int32 → mMem → Prop} (h : Clo K cc sh fx px kx sx cx Rt) : ∀ (pc : Nat) (ls st : List Value) (C : mMem) (cd : ClassFile.Cond) (off : Int) (tgt : Nat) (x : Int32), decode cc pc = .ok (.ifCond cd off, 3) → (pc : Int) + off = (tgt : Int) → (cz cd x 0 = true → K tgt ls st C) → (cz cd x 0 = false → K (pc + 3) ls st C) → K pc ls (.int x :: st) C := h.2.2.2.2.2.2.2.2.2.2.2.2.2.2.2.2.2.2.2.2.2.2.2.2.2.2.2.2.1
theorem k_ific {K : Nat → List Value → List Value → mMem → Prop} {cc : ByteArray} {sh : List mSh} {fx : Nat → Nat → Option Nat} {px : Nat → Nat → Option (Nat × Bool)} {kx : Nat → Option Int32} {sx : Nat → Option Nat} {cx : Nat → Option (Nat × mSem)} {Rt : Option Int32 → mMem → Prop} (h : Clo K cc sh fx px kx sx cx Rt) : ∀ (pc : Nat) (ls st : List Value) (C : mMem) (cd : ClassFile.Cond) (off : Int) (tgt : Nat) (x y : Int32), decode cc pc = .ok (.if_icmp cd off, 3) → (pc : Int) + off = (tgt : Int) → (cz cd x y = true → K tgt ls st C) → (cz cd x y = false → K (pc + 3) ls st C) → K pc ls (.int y :: .int x :: st) C := h.2.2.2.2.2.2.2.2.2.2.2.2.2.2.2.2.2.2.2.2.2.2.2.2.2.2.2.2.2.1
theorem k_goto {K : Nat → List Value → List Value → mMem → Prop} {cc : ByteArray} {sh : List mSh} {fx : Nat → Nat → Option Nat} {px : Nat → Nat → Option (Nat × Bool)} {kx : Nat → Option Int32} {sx : Nat → Option Nat} {cx : Nat → Option (Nat × mSem)} {Rt : Option Int32 → mMem → Prop} (h : Clo K cc sh fx px kx sx cx Rt) : ∀ (pc : Nat) (ls st : List Value) (C : mMem) (off : Int) (tgt : Nat), decode cc pc = .ok (.goto off, 3) → (pc : Int) + off = (tgt : Int) → K tgt ls st C → K pc ls st C := h.2.2.2.2.2.2.2.2.2.2.2.2.2.2.2.2.2.2.2.2.2.2.2.2.2.2.2.2.2.2.1
theorem k_tswO {K : Nat → List Value → List Value → mMem → Prop} {cc : ByteArray} {sh : List mSh} {fx : Nat → Nat → Option Nat} {px : Nat → Nat → Option (Nat × Bool)} {kx : Nat → Option Int32} {sx : Nat → Option Nat} {cx : Nat → Option (Nat × mSem)} {Rt : Option Int32 → mMem → Prop} (h : Clo K cc sh fx px kx sx cx Rt) : ∀ (pc : Nat) (ls st : List Value) (C : mMem) (df lo hi : Int) (offs : Array Int) (len tgt : Nat) (x : Int32), decode cc pc = .ok (.tableswitch df lo hi offs, len) → (x.toInt < lo ∨ hi < x.toInt) → (pc : Int) + df = (tgt : Int) → K tgt ls st C → K pc ls (.int x :: st) C := h.2.2.2.2.2.2.2.2.2.2.2.2.2.2.2.2.2.2.2.2.2.2.2.2.2.2.2.2.2.2.2.1
theorem k_tswI {K : Nat → List Value → List Value → mMem → Prop} {cc : ByteArray} {sh : List mSh} {fx : Nat → Nat → Option Nat} {px : Nat → Nat → Option (Nat × Bool)} {kx : Nat → Option Int32} {sx : Nat → Option Nat} {cx : Nat → Option (Nat × mSem)} {Rt : Option Int32 → mMem → Prop} (h : Clo K cc sh fx px kx sx cx Rt) : ∀ (pc : Nat) (ls st : List Value) (C : mMem) (df lo hi off : Int) (offs : Array Int) (len tgt : Nat) (x : Int32), decode cc pc = .ok (.tableswitch df lo hi offs, len) → ¬ x.toInt < lo → ¬ hi < x.toInt → offs[(x.toInt - lo).toNat]? = some off → (pc : Int) + off = (tgt : Int) → K tgt ls st C → K pc ls (.int x :: st) C := h.2.2.2.2.2.2.2.2.2.2.2.2.2.2.2.2.2.2.2.2.2.2.2.2.2.2.2.2.2.2.2.2.1
theorem k_get {K : Nat → List Value → List Value → mMem → Prop} {cc : ByteArray} {sh : List mSh} {fx : Nat → Nat → Option Nat} {px : Nat → Nat → Option (Nat × Bool)} {kx : Nat → Option Int32} {sx : Nat → Option Nat} {cx : Nat → Option (Nat × mSem)} {Rt : Option Int32 → mMem → Prop} (h : Clo K cc sh fx px kx sx cx Rt) : ∀ (pc : Nat) (ls st : List Value) (C : mMem) (ix k ci j : Nat) (fs : List (Option Nat)) (f : Option Nat), decode cc pc = .ok (.getfield ix, 3) → sh[k]? = some (.inr (.inr (ci, fs))) → fx ix ci = some j → fs[j]? = some f → K (pc + 3) ls (mF (fun t => t) C k j f :: st) C → K pc ls (.ref k :: st) C := h.2.2.2.2.2.2.2.2.2.2.2.2.2.2.2.2.2.2.2.2.2.2.2.2.2.2.2.2.2.2.2.2.2.1
theorem k_put {K : Nat → List Value → List Value → mMem → Prop} {cc : ByteArray} {sh : List mSh} {fx : Nat → Nat → Option Nat} {px : Nat → Nat → Option (Nat × Bool)} {kx : Nat → Option Int32} {sx : Nat → Option Nat} {cx : Nat → Option (Nat × mSem)} {Rt : Option Int32 → mMem → Prop} (h : Clo K cc sh fx px kx sx cx Rt) : ∀ (pc : Nat) (ls st : List Value) (C : mMem) (ix k ci j : Nat) (b : Bool) (fs : List (Option Nat)) (x : Int32), decode cc pc = .ok (.putfield ix, 3) → sh[k]? = some (.inr (.inr (ci, fs))) → px ix ci = some (j, b) → fs[j]? = some none → (b = true → x = 0 ∨ x = 1) → K (pc + 3) ls st (mUp C k j x) → K pc ls (.int x :: .ref k :: st) C := h.2.2.2.2.2.2.2.2.2.2.2.2.2.2.2.2.2.2.2.2.2.2.2.2.2.2.2.2.2.2.2.2.2.2.1
theorem k_iald {K : Nat → List Value → List Value → mMem → Prop} {cc : ByteArray} {sh : List mSh} {fx : Nat → Nat → Option Nat} {px : Nat → Nat → Option (Nat × Bool)} {kx : Nat → Option Int32} {sx : Nat → Option Nat} {cx : Nat → Option (Nat × mSem)} {Rt : Option Int32 → mMem → Prop} (h : Clo K cc sh fx px kx sx cx Rt) : ∀ (pc : Nat) (ls st : List Value) (C : mMem) (k n : Nat) (i : Int32), decode cc pc = .ok (.iaload, 1) → sh[k]? = some (.inl (.int, n)) → vp_in i n → K (pc + 1) ls (.int (C k i.toNatClampNeg) :: st) C → K pc ls (.int i :: .ref k :: st) C := h.2.2.2.2.2.2.2.2.2.2.2.2.2.2.2.2.2.2.2.2.2.2.2.2.2.2.2.2.2.2.2.2.2.2.2.1
theorem k_bald {K : Nat → List Value → List Value → mMem → Prop} {cc : ByteArray} {sh : List mSh} {fx : Nat → Nat → Option Nat} {px : Nat → Nat → Option (Nat × Bool)} {kx : Nat → Option Int32} {sx : Nat → Option Nat} {cx : Nat → Option (Nat × mSem)} {Rt : Option Int32 → mMem → Prop} (h : Clo K cc sh fx px kx sx cx Rt) : ∀ (pc : Nat) (ls st : List Value) (C : mMem) (k n : Nat) (i : Int32), decode cc pc = .ok (.baload, 1) → sh[k]? = some (.inl (.byte, n)) → vp_in i n → K (pc + 1) ls (.int (C k i.toNatClampNeg) :: st) C → K pc ls (.int i :: .ref k :: st) C := h.2.2.2.2.2.2.2.2.2.2.2.2.2.2.2.2.2.2.2.2.2.2.2.2.2.2.2.2.2.2.2.2.2.2.2.2.1
theorem k_zald {K : Nat → List Value → List Value → mMem → Prop} {cc : ByteArray} {sh : List mSh} {fx : Nat → Nat → Option Nat} {px : Nat → Nat → Option (Nat × Bool)} {kx : Nat → Option Int32} {sx : Nat → Option Nat} {cx : Nat → Option (Nat × mSem)} {Rt : Option Int32 → mMem → Prop} (h : Clo K cc sh fx px kx sx cx Rt) : ∀ (pc : Nat) (ls st : List Value) (C : mMem) (k n : Nat) (i : Int32), decode cc pc = .ok (.baload, 1) → sh[k]? = some (.inl (.boolean, n)) → vp_in i n → K (pc + 1) ls (.int (C k i.toNatClampNeg) :: st) C → K pc ls (.int i :: .ref k :: st) C := h.2.2.2.2.2.2.2.2.2.2.2.2.2.2.2.2.2.2.2.2.2.2.2.2.2.2.2.2.2.2.2.2.2.2.2.2.2.1
theorem k_iast {K : Nat → List Value → List Value → mMem → Prop} {cc : ByteArray} {sh : List mSh} {fx : Nat → Nat → Option Nat} {px : Nat → Nat → Option (Nat × Bool)} {kx : Nat → Option Int32} {sx : Nat → Option Nat} {cx : Nat → Option (Nat × mSem)} {Rt : Option Int32 → mMem → Prop} (h : Clo K cc sh fx px kx sx cx Rt) : ∀ (pc : Nat) (ls st : List Value) (C : mMem) (k n : Nat) (i x : Int32), decode cc pc = .ok (.iastore, 1) → sh[k]? = some (.inl (.int, n)) → vp_in i n → K (pc + 1) ls st (mUp C k i.toNatClampNeg (x)) → K pc ls (.int x :: .int i :: .ref k :: st) C := h.2.2.2.2.2.2.2.2.2.2.2.2.2.2.2.2.2.2.2.2.2.2.2.2.2.2.2.2.2.2.2.2.2.2.2.2.2.2.1
theorem k_bast {K : Nat → List Value → List Value → mMem → Prop} {cc : ByteArray} {sh : List mSh} {fx : Nat → Nat → Option Nat} {px : Nat → Nat → Option (Nat × Bool)} {kx : Nat → Option Int32} {sx : Nat → Option Nat} {cx : Nat → Option (Nat × mSem)} {Rt : Option Int32 → mMem → Prop} (h : Clo K cc sh fx px kx sx cx Rt) : ∀ (pc : Nat) (ls st : List Value) (C : mMem) (k n : Nat) (i x : Int32), decode cc pc = .ok (.bastore, 1) → sh[k]? = some (.inl (.byte, n)) → vp_in i n → K (pc + 1) ls st (mUp C k i.toNatClampNeg (vp_nar .byte x)) → K pc ls (.int x :: .int i :: .ref k :: st) C := h.2.2.2.2.2.2.2.2.2.2.2.2.2.2.2.2.2.2.2.2.2.2.2.2.2.2.2.2.2.2.2.2.2.2.2.2.2.2.2.1
theorem k_zast {K : Nat → List Value → List Value → mMem → Prop} {cc : ByteArray} {sh : List mSh} {fx : Nat → Nat → Option Nat} {px : Nat → Nat → Option (Nat × Bool)} {kx : Nat → Option Int32} {sx : Nat → Option Nat} {cx : Nat → Option (Nat × mSem)} {Rt : Option Int32 → mMem → Prop} (h : Clo K cc sh fx px kx sx cx Rt) : ∀ (pc : Nat) (ls st : List Value) (C : mMem) (k n : Nat) (i x : Int32), decode cc pc = .ok (.bastore, 1) → sh[k]? = some (.inl (.boolean, n)) → vp_in i n → K (pc + 1) ls st (mUp C k i.toNatClampNeg (vp_nar .boolean x)) → K pc ls (.int x :: .int i :: .ref k :: st) C := h.2.2.2.2.2.2.2.2.2.2.2.2.2.2.2.2.2.2.2.2.2.2.2.2.2.2.2.2.2.2.2.2.2.2.2.2.2.2.2.2.1
theorem k_aald {K : Nat → List Value → List Value → mMem → Prop} {cc : ByteArray} {sh : List mSh} {fx : Nat → Nat → Option Nat} {px : Nat → Nat → Option (Nat × Bool)} {kx : Nat → Option Int32} {sx : Nat → Option Nat} {cx : Nat → Option (Nat × mSem)} {Rt : Option Int32 → mMem → Prop} (h : Clo K cc sh fx px kx sx cx Rt) : ∀ (pc : Nat) (ls st : List Value) (C : mMem) (k : Nat) (Cn : String) (ts : List Nat) (i : Int32) (t : Nat), decode cc pc = .ok (.aaload, 1) → sh[k]? = some (.inr (.inl (Cn, ts))) → vp_in i ts.length → ts[i.toNatClampNeg]? = some t → K (pc + 1) ls (.ref t :: st) C → K pc ls (.int i :: .ref k :: st) C := h.2.2.2.2.2.2.2.2.2.2.2.2.2.2.2.2.2.2.2.2.2.2.2.2.2.2.2.2.2.2.2.2.2.2.2.2.2.2.2.2.2.1
theorem k_alen {K : Nat → List Value → List Value → mMem → Prop} {cc : ByteArray} {sh : List mSh} {fx : Nat → Nat → Option Nat} {px : Nat → Nat → Option (Nat × Bool)} {kx : Nat → Option Int32} {sx : Nat → Option Nat} {cx : Nat → Option (Nat × mSem)} {Rt : Option Int32 → mMem → Prop} (h : Clo K cc sh fx px kx sx cx Rt) : ∀ (pc : Nat) (ls st : List Value) (C : mMem) (k n : Nat) (ty : FieldType), decode cc pc = .ok (.arraylength, 1) → sh[k]? = some (.inl (ty, n)) → K (pc + 1) ls (.int (Int32.ofNat n) :: st) C → K pc ls (.ref k :: st) C := h.2.2.2.2.2.2.2.2.2.2.2.2.2.2.2.2.2.2.2.2.2.2.2.2.2.2.2.2.2.2.2.2.2.2.2.2.2.2.2.2.2.2.1
theorem k_call {K : Nat → List Value → List Value → mMem → Prop} {cc : ByteArray} {sh : List mSh} {fx : Nat → Nat → Option Nat} {px : Nat → Nat → Option (Nat × Bool)} {kx : Nat → Option Int32} {sx : Nat → Option Nat} {cx : Nat → Option (Nat × mSem)} {Rt : Option Int32 → mMem → Prop} (h : Clo K cc sh fx px kx sx cx Rt) : ∀ (pc : Nat) (ls st as : List Value) (C C' : mMem) (i : Instr) (ix n : Nat) (f : mSem) (r : Option Int32), decode cc pc = .ok (i, 3) → rIx i = some ix → cx ix = some (n, f) → as.length = n → st.length ≤ 8 → f as C = some (r, C') → K (pc + 3) ls ((r.map Value.int).toList ++ st) C' → K pc ls (as.reverse ++ st) C := h.2.2.2.2.2.2.2.2.2.2.2.2.2.2.2.2.2.2.2.2.2.2.2.2.2.2.2.2.2.2.2.2.2.2.2.2.2.2.2.2.2.2.2.1
theorem k_ret {K : Nat → List Value → List Value → mMem → Prop} {cc : ByteArray} {sh : List mSh} {fx : Nat → Nat → Option Nat} {px : Nat → Nat → Option (Nat × Bool)} {kx : Nat → Option Int32} {sx : Nat → Option Nat} {cx : Nat → Option (Nat × mSem)} {Rt : Option Int32 → mMem → Prop} (h : Clo K cc sh fx px kx sx cx Rt) : ∀ (pc : Nat) (ls : List Value) (C : mMem) (x : Int32), decode cc pc = .ok (.ireturn, 1) → Rt (some x) C → K pc ls [.int x] C := h.2.2.2.2.2.2.2.2.2.2.2.2.2.2.2.2.2.2.2.2.2.2.2.2.2.2.2.2.2.2.2.2.2.2.2.2.2.2.2.2.2.2.2.2.1
theorem k_retv {K : Nat → List Value → List Value → mMem → Prop} {cc : ByteArray} {sh : List mSh} {fx : Nat → Nat → Option Nat} {px : Nat → Nat → Option (Nat × Bool)} {kx : Nat → Option Int32} {sx : Nat → Option Nat} {cx : Nat → Option (Nat × mSem)} {Rt : Option Int32 → mMem → Prop} (h : Clo K cc sh fx px kx sx cx Rt) : ∀ (pc : Nat) (ls : List Value) (C : mMem), decode cc pc = .ok (.return_, 1) → Rt none C → K pc ls [] C := h.2.2.2.2.2.2.2.2.2.2.2.2.2.2.2.2.2.2.2.2.2.2.2.2.2.2.2.2.2.2.2.2.2.2.2.2.2.2.2.2.2.2.2.2.2
section MC
variable {p : Program} {l : Launch} {e : Env} {R : Room} {s : State} {m : MethodId} {args : Array Value} {below : List Frame} {meth : Method} {c : Code} {Q : State → Prop} {A : Nat → Prop} {D : va_G} {cl : List vw_C} {tys : List (ClassId × FieldType)} {sh : List mSh} {ad : Nat → Nat} {cA : Nat → ClassId} {nL : Nat} {cc : ByteArray} {own : String} {Ts : List Jvm.Cond} {fx : Nat → Nat → Option Nat} {px : Nat → Nat → Option (Nat × Bool)} {kx : Nat → Option Int32} {sx : Nat → Option Nat} {cx : Nat → Option (Nat × mSem)} {Rt : Option Int32 → mMem → Prop}
def mC (p : Program) (l : Launch) (e : Env) (R : Room) (s : State) (m : MethodId) (args : Array Value) (below : List Frame) (meth : Method) (c : Code) (Q : State → Prop) (A : Nat → Prop) (D : va_G) (cl : List vw_C) (sh : List mSh) (ad : Nat → Nat) (cA : Nat → ClassId) (nL : Nat) (pc : Nat) (ls st : List Value) (C : mMem) : Prop :=
  ls.length = nL → (∀ v ∈ ls, v.category = 1) → (∀ v ∈ st, v.category = 1) → ∀ (H : Heap) (locs : List Loc) (lsA : Array Slot), va_P D cl (mW sh ad cA C) H → va_S A s.heap H locs → lv_has lsA nL (mP ad ls) → W p l e R s m args below meth c H locs 0 0 Q (F0 m pc lsA (st.map (mV ad)))
/-- a field that is read: what the tables say of it -/
def fOK (own : String) (args : Array Value) (s : State) (Ts : List Jvm.Cond) (cl : List vw_C) (ix ci j : Nat) : Prop := ∃ (Cn : String) (T : u_T) (N : Nat) (ref : String), cl[ci]? = some (Cn, T, N) ∧ (∀ w ∈ u_ws Cn T N, w ∈ Ts) ∧ j < N ∧ (Jvm.Cond.fieldLink own ix ref (T j).2.1 (T j).2.2.1).before args s = true ∧ (∀ x, s.fieldFound? (T j).1 (T j).2.1 (T j).2.2.1 = some x → s.fieldFound? ref (T j).2.1 (T j).2.2.1 = some x)
def pOK (own : String) (args : Array Value) (s : State) (Ts : List Jvm.Cond) (cl : List vw_C) (ix ci j : Nat) (b : Bool) : Prop := ∃ (Cn : String) (T : u_T) (N : Nat) (ref : String) (ty0 : Nat → FieldType), cl[ci]? = some (Cn, T, N) ∧ (∀ w ∈ u_ws Cn T N, w ∈ Ts) ∧ j < N ∧ (Jvm.Cond.fieldLink own ix ref (T j).2.1 (T j).2.2.1).before args s = true ∧ (∀ x, s.fieldFound? (T j).1 (T j).2.1 (T j).2.2.1 = some x → s.fieldFound? ref (T j).2.1 (T j).2.2.1 = some x) ∧ (∀ k, k < N → parseFieldDescriptor (T k).2.2.1 = some (ty0 k)) ∧ (∀ a, a < N → ∀ b, b < N → a ≠ b → (T a).2.1 ≠ (T b).2.1) ∧ (T j).2.2.2 = false ∧ parseFieldDescriptor (T j).2.2.1 = some (if b then FieldType.boolean else FieldType.int)
/-- a call: what its contract says of the machine -/
def cOK (p : Program) (l : Launch) (e : Env) (R : Room) (s : State) (m : MethodId) (args : Array Value) (below : List Frame) (meth : Method) (c : Code) (Q : State → Prop) (A : Nat → Prop) (D : va_G) (cl : List vw_C) (sh : List mSh) (ad : Nat → Nat) (cA : Nat → ClassId) (nL : Nat) (cc : ByteArray) (ix n : Nat) (f : mSem) : Prop :=
  ∀ (pc : Nat) (i : Instr) (H : Heap) (locs : List Loc) (lsA : Array Slot) (as rest : List Value) (r : Option Int32) (C C' : mMem), decode cc pc = .ok (i, 3) → rIx i = some ix → as.length = n → f as C = some (r, C') → (∀ v ∈ as, v.category = 1) → (rest.map fun v => v.category).sum ≤ 8 → va_P D cl (mW sh ad cA C) H → va_S A s.heap H locs → lsA.size = nL →
    (∀ (H' : Heap) (locs' : List Loc), va_P D cl (mW sh ad cA C') H' → va_S A s.heap H' locs' → W p l e R s m args below meth c H' locs' 0 0 Q (F0 m (pc + 3) lsA ((r.map Value.int).toList ++ rest))) →
    W p l e R s m args below meth c H locs 0 0 Q (F0 m pc lsA ((as.map (mV ad)).reverse ++ rest))
theorem mC_clo (hx : p.tables.exec = Jvm.exec) (hb : c.code = cc) (hown : s.vm.findClass own = some m.cls) (hts : ∀ w ∈ Ts, w.before args s = true) (hK : va_K D cl tys s) (hD : ∀ C, va_D A (mW sh ad cA C)) (hT : mT sh cA tys)
    (hfx : ∀ ix ci j, fx ix ci = some j → fOK own args s Ts cl ix ci j) (hpx : ∀ ix ci j b, px ix ci = some (j, b) → pOK own args s Ts cl ix ci j b)
    (hkx : ∀ ix v, kx ix = some v → (Jvm.Cond.constant own ix v).before args s = true) (hsx : ∀ ix k, sx ix = some k → ∃ tx, vk_R own ix tx (ad k) s)
    (hcx : ∀ ix n f, cx ix = some (n, f) → cOK p l e R s m args below meth c Q A D cl sh ad cA nL cc ix n f)
    (hret : ∀ (pc : Nat) (lsA : Array Slot) (x : Int32) (C : mMem) (H : Heap) (locs : List Loc), decode cc pc = .ok (.ireturn, 1) → Rt (some x) C → va_P D cl (mW sh ad cA C) H → va_S A s.heap H locs → W p l e R s m args below meth c H locs 0 0 Q (F0 m pc lsA [.int x]))
    (hretv : ∀ (pc : Nat) (lsA : Array Slot) (C : mMem) (H : Heap) (locs : List Loc), decode cc pc = .ok (.return_, 1) → Rt none C → va_P D cl (mW sh ad cA C) H → va_S A s.heap H locs → W p l e R s m args below meth c H locs 0 0 Q (F0 m pc lsA [])) :
    Clo (mC p l e R s m args below meth c Q A D cl sh ad cA nL) cc sh fx px kx sx cx Rt := by
  refine ⟨?_, ?_, ?_, ?_, ?_, ?_, ?_, ?_, ?_, ?_, ?_, ?_, ?_, ?_, ?_, ?_, ?_, ?_, ?_, ?_, ?_, ?_, ?_, ?_, ?_, ?_, ?_, ?_, ?_, ?_, ?_, ?_, ?_, ?_, ?_, ?_, ?_, ?_, ?_, ?_, ?_, ?_, ?_, ?_, ?_, ?_⟩
  · intro pc ls st C n hd hk h1 h2 h3 H locs lsA hP hS hL
    exact lv_iconst hx hb hd rfl (hk h1 h2 (mcons rfl h3) H locs lsA hP hS hL)
  · intro pc ls st C n hd hk h1 h2 h3 H locs lsA hP hS hL
    exact lv_bipush hx hb hd rfl (hk h1 h2 (mcons rfl h3) H locs lsA hP hS hL)
  · intro pc ls st C n hd hk h1 h2 h3 H locs lsA hP hS hL
    exact lv_sipush hx hb hd rfl (hk h1 h2 (mcons rfl h3) H locs lsA hP hS hL)
  · intro pc ls st C ix v hv hd hk h1 h2 h3 H locs lsA hP hS hL
    exact lv_ldc hx hb hown (hkx ix v hv) hd (hk h1 h2 (mcons rfl h3) H locs lsA hP hS hL)
  · intro pc ls st C ix v hv hd hk h1 h2 h3 H locs lsA hP hS hL
    exact lv_ldcw hx hb hown (hkx ix v hv) hd (hk h1 h2 (mcons rfl h3) H locs lsA hP hS hL)
  · intro pc ls st C ix k hv hd hk h1 h2 h3 H locs lsA hP hS hL
    obtain ⟨tx, hz⟩ := hsx ix k hv
    exact va_ldcS hx hb hown hz hd (hk h1 h2 (mcons rfl h3) H locs lsA hP hS hL)
  · intro pc ls st C k x hd hv hk h1 h2 h3 H locs lsA hP hS hL
    exact lv_iload_n hx hb hd rfl (mP_at hL hv (by simp)) (hk h1 h2 (mcons rfl h3) H locs lsA hP hS hL)
  · intro pc ls st C k x hd hv hk h1 h2 h3 H locs lsA hP hS hL
    exact lv_iload hx hb hd (mP_at hL hv (by simp)) (hk h1 h2 (mcons rfl h3) H locs lsA hP hS hL)
  · intro pc ls st C k x hd hv hk h1 h2 h3 H locs lsA hP hS hL
    exact lv_aload_n hx hb hd rfl (mP_at hL hv (by simp)) (hk h1 h2 (mcons rfl h3) H locs lsA hP hS hL)
  · intro pc ls st C k x hd hv hk h1 h2 h3 H locs lsA hP hS hL
    exact lv_aload hx hb hd (mP_at hL hv (by simp)) (hk h1 h2 (mcons rfl h3) H locs lsA hP hS hL)
  · intro pc ls st C k x hd hv hk h1 h2 h3 H locs lsA hP hS hL
    exact lv_istore_n hx hb hd rfl hL (by omega) rfl (fun lsB hB => hk (by rw [List.length_set]; exact h1) (mem_set_cat h2 rfl) (mtail h3) H locs lsB hP hS (mP_set h2 hB))
  · intro pc ls st C k x hd hv hk h1 h2 h3 H locs lsA hP hS hL
    exact lv_istore hx hb hd hL (by omega) rfl (fun lsB hB => hk (by rw [List.length_set]; exact h1) (mem_set_cat h2 rfl) (mtail h3) H locs lsB hP hS (mP_set h2 hB))
  · intro pc ls st C k x hd hv hk h1 h2 h3 H locs lsA hP hS hL
    exact lv_astore_n hx hb hd rfl hL (by omega) rfl (fun lsB hB => hk (by rw [List.length_set]; exact h1) (mem_set_cat h2 rfl) (mtail h3) H locs lsB hP hS (mP_set h2 hB))
  · intro pc ls st C k x hd hv hk h1 h2 h3 H locs lsA hP hS hL
    exact lv_astore hx hb hd hL (by omega) rfl (fun lsB hB => hk (by rw [List.length_set]; exact h1) (mem_set_cat h2 rfl) (mtail h3) H locs lsB hP hS (mP_set h2 hB))
  · intro pc ls st C k n x hd hv hk h1 h2 h3 H locs lsA hP hS hL
    have hlt : k < ls.length := (List.getElem?_eq_some_iff.mp hv).1
    obtain ⟨j, hj⟩ := List.getElem?_of_mem (mP_mem (q := (k, .int x)).mpr ⟨.int x, hv, by simp, (rfl : Value.int x = mV ad (.int x))⟩)
    exact lv_iinc hx hb hd hL hj rfl (by omega) rfl (fun lsB hB => hk (by rw [List.length_set]; exact h1) (mem_set_cat h2 rfl) h3 H locs lsB hP hS (mP_set h2 hB))
  · intro pc ls st C x y hd hk h1 h2 h3 H locs lsA hP hS hL
    exact lv_iadd hx hb hd (hk h1 h2 (mcons rfl (mtail (mtail h3))) H locs lsA hP hS hL)
  · intro pc ls st C x y hd hk h1 h2 h3 H locs lsA hP hS hL
    exact lv_isub hx hb hd (hk h1 h2 (mcons rfl (mtail (mtail h3))) H locs lsA hP hS hL)
  · intro pc ls st C x y hd hk h1 h2 h3 H locs lsA hP hS hL
    exact lv_imul hx hb hd (hk h1 h2 (mcons rfl (mtail (mtail h3))) H locs lsA hP hS hL)
  · intro pc ls st C x y hd hk h1 h2 h3 H locs lsA hP hS hL
    exact lv_iand hx hb hd (hk h1 h2 (mcons rfl (mtail (mtail h3))) H locs lsA hP hS hL)
  · intro pc ls st C x y hd hk h1 h2 h3 H locs lsA hP hS hL
    exact lv_ior hx hb hd (hk h1 h2 (mcons rfl (mtail (mtail h3))) H locs lsA hP hS hL)
  · intro pc ls st C x y hd hk h1 h2 h3 H locs lsA hP hS hL
    exact lv_ishl hx hb hd (hk h1 h2 (mcons rfl (mtail (mtail h3))) H locs lsA hP hS hL)
  · intro pc ls st C x y hd hk h1 h2 h3 H locs lsA hP hS hL
    exact lv_ishr hx hb hd (hk h1 h2 (mcons rfl (mtail (mtail h3))) H locs lsA hP hS hL)
  · intro pc ls st C x y hd hy hk h1 h2 h3 H locs lsA hP hS hL
    exact lv_idiv hx hb hd hy (hk h1 h2 (mcons rfl (mtail (mtail h3))) H locs lsA hP hS hL)
  · intro pc ls st C x y hd hy hk h1 h2 h3 H locs lsA hP hS hL
    exact lv_irem hx hb hd hy (hk h1 h2 (mcons rfl (mtail (mtail h3))) H locs lsA hP hS hL)
  · intro pc ls st C x hd hk h1 h2 h3 H locs lsA hP hS hL
    exact lv_ineg hx hb hd (hk h1 h2 (mcons rfl (mtail h3)) H locs lsA hP hS hL)
  · intro pc ls st C x hd hk h1 h2 h3 H locs lsA hP hS hL
    exact lv_i2b hx hb hd rfl (hk h1 h2 (mcons rfl (mtail h3)) H locs lsA hP hS hL)
  · intro pc ls st C v hd hk h1 h2 h3 H locs lsA hP hS hL
    have hv : v.category = 1 := h3 v List.mem_cons_self
    exact lv_dup hx hb hd (by rw [mV_cat]; exact hv) (hk h1 h2 (mcons hv h3) H locs lsA hP hS hL)
  · intro pc ls st C v w hd hk h1 h2 h3 H locs lsA hP hS hL
    have hv : v.category = 1 := h3 v List.mem_cons_self
    have hw : w.category = 1 := mtail h3 w List.mem_cons_self
    exact lv_dup2_11 hx hb hd (by rw [mV_cat]; exact hv) (by rw [mV_cat]; exact hw) (hk h1 h2 (mcons hv (mcons hw h3)) H locs lsA hP hS hL)
  · intro pc ls st C cd off tgt x hd ht kt kf h1 h2 h3 H locs lsA hP hS hL
    cases cd
    · exact lv_if_eq hx hb hd ht (fun q => kt (by simp [cz, q]) h1 h2 (mtail h3) H locs lsA hP hS hL) (fun q => kf (by simp [cz, q]) h1 h2 (mtail h3) H locs lsA hP hS hL)
    · exact lv_if_ne hx hb hd ht (fun q => kt (by simp [cz, q]) h1 h2 (mtail h3) H locs lsA hP hS hL) (fun q => kf (by simp [cz, q]) h1 h2 (mtail h3) H locs lsA hP hS hL)
    · exact lv_if_lt hx hb hd ht (fun q => kt (by simp [cz, q]) h1 h2 (mtail h3) H locs lsA hP hS hL) (fun q => kf (by simp only [cz, decide_eq_false_iff_not]; exact q) h1 h2 (mtail h3) H locs lsA hP hS hL)
    · exact lv_if_ge hx hb hd ht (fun q => kt (by simp [cz, q]) h1 h2 (mtail h3) H locs lsA hP hS hL) (fun q => kf (by simp only [cz, decide_eq_false_iff_not]; exact q) h1 h2 (mtail h3) H locs lsA hP hS hL)
    · exact lv_if_gt hx hb hd ht (fun q => kt (by simp [cz, q]) h1 h2 (mtail h3) H locs lsA hP hS hL) (fun q => kf (by simp only [cz, decide_eq_false_iff_not]; exact q) h1 h2 (mtail h3) H locs lsA hP hS hL)
    · exact lv_if_le hx hb hd ht (fun q => kt (by simp [cz, q]) h1 h2 (mtail h3) H locs lsA hP hS hL) (fun q => kf (by simp only [cz, decide_eq_false_iff_not]; exact q) h1 h2 (mtail h3) H locs lsA hP hS hL)
  · intro pc ls st C cd off tgt x y hd ht kt kf h1 h2 h3 H locs lsA hP hS hL
    cases cd
    · exact lv_icmp_eq hx hb hd ht (fun q => kt (by simp [cz, q]) h1 h2 (mtail (mtail h3)) H locs lsA hP hS hL) (fun q => kf (by simp [cz, q]) h1 h2 (mtail (mtail h3)) H locs lsA hP hS hL)
    · exact lv_icmp_ne hx hb hd ht (fun q => kt (by simp [cz, q]) h1 h2 (mtail (mtail h3)) H locs lsA hP hS hL) (fun q => kf (by simp [cz, q]) h1 h2 (mtail (mtail h3)) H locs lsA hP hS hL)
    · exact lv_icmp_lt hx hb hd ht (fun q => kt (by simp [cz, q]) h1 h2 (mtail (mtail h3)) H locs lsA hP hS hL) (fun q => kf (by simp only [cz, decide_eq_false_iff_not]; exact q) h1 h2 (mtail (mtail h3)) H locs lsA hP hS hL)
    · exact lv_icmp_ge hx hb hd ht (fun q => kt (by simp [cz, q]) h1 h2 (mtail (mtail h3)) H locs lsA hP hS hL) (fun q => kf (by simp only [cz, decide_eq_false_iff_not]; exact q) h1 h2 (mtail (mtail h3)) H locs lsA hP hS hL)
    · exact lv_icmp_gt hx hb hd ht (fun q => kt (by simp [cz, q]) h1 h2 (mtail (mtail h3)) H locs lsA hP hS hL) (fun q => kf (by simp only [cz, decide_eq_false_iff_not]; exact q) h1 h2 (mtail (mtail h3)) H locs lsA hP hS hL)
    · exact lv_icmp_le hx hb hd ht (fun q => kt (by simp [cz, q]) h1 h2 (mtail (mtail h3)) H locs lsA hP hS hL) (fun q => kf (by simp only [cz, decide_eq_false_iff_not]; exact q) h1 h2 (mtail (mtail h3)) H locs lsA hP hS hL)
  · intro pc ls st C off tgt hd ht hk h1 h2 h3 H locs lsA hP hS hL
    exact lv_goto hx hb hd ht (hk h1 h2 h3 H locs lsA hP hS hL)
  · intro pc ls st C df lo hi offs len tgt x hd ho ht hk h1 h2 h3 H locs lsA hP hS hL
    exact lv_tableOut hx hb hd ho ht (hk h1 h2 (mtail h3) H locs lsA hP hS hL)
  · intro pc ls st C df lo hi off offs len tgt x hd g1 g2 ho ht hk h1 h2 h3 H locs lsA hP hS hL
    exact lv_tableIn hx hb hd g1 g2 ho ht (hk h1 h2 (mtail h3) H locs lsA hP hS hL)
  · intro pc ls st C ix k ci j fs f hd hsh hfi hf hk h1 h2 h3 H locs lsA hP hS hL
    obtain ⟨Cn, T, N, ref, g1, g2, g3, g4, g5⟩ := hfx ix ci j hfi
    refine va_get (v := mF ad C k j f) hx hb hts g2 hown hK hP k (mW_at hsh) g1 j g3 g4 g5 (by simp [List.getElem?_mapIdx, hf]) hd ?_
    have e : mF ad C k j f = mV ad (mF (fun t => t) C k j f) := by cases f <;> rfl
    rw [e]
    exact hk h1 h2 (mcons (by cases f <;> rfl) (mtail h3)) H locs lsA hP hS hL
  · intro pc ls st C ix k ci j b fs x hd hsh hfi hf hz hk h1 h2 h3 H locs lsA hP hS hL
    obtain ⟨Cn, T, N, ref, ty0, g1, g2, g3, g4, g5, g6, g7, g8, g9⟩ := hpx ix ci j b hfi
    have hn : narrow (if b then FieldType.boolean else FieldType.int) (.int x) = .int x ∧ fits (if b then FieldType.boolean else FieldType.int) (.int x) = true := by
      cases b with
      | false => exact ⟨rfl, rfl⟩
      | true => rcases hz rfl with rfl | rfl <;> exact ⟨by decide +kernel, by decide +kernel⟩
    refine va_put (v := .int x) (ty := if b then FieldType.boolean else FieldType.int) hx hb hts g2 ty0 g6 g7 hown hK hP (hD C) hS k (mW_at hsh) g1 j g3 g4 g5 g8 g9 hn.1 hn.2 ?_ hd (fun H1 locs1 hP1 _ hS1 => ?_)
    · rw [List.length_mapIdx]; exact (List.getElem?_eq_some_iff.mp hf).1
    · have e : (mW sh ad cA C).set k (ad k, .inr (ci, (fs.mapIdx (fun j f => mF ad C k j f)).set j (.int x))) = mW sh ad cA (mUp C k j x) := by
        rw [mF_map hf, ← mW_set hsh (C' := mUp C k j x) mUp_off]
        rfl
      exact hk h1 h2 (mtail (mtail h3)) H1 locs1 lsA (by rw [← e]; exact hP1) hS1 hL
  · intro pc ls st C k n i hd hsh hi hk h1 h2 h3 H locs lsA hP hS hL
    obtain ⟨t0, ht0⟩ := List.getElem?_of_mem (hT k _ hsh)
    exact va_iald hx hb hK hP k t0 (mW_at hsh) ht0 hi hd (hk h1 h2 (mcons rfl (mtail (mtail h3))) H locs lsA hP hS hL)
  · intro pc ls st C k n i hd hsh hi hk h1 h2 h3 H locs lsA hP hS hL
    obtain ⟨t0, ht0⟩ := List.getElem?_of_mem (hT k _ hsh)
    exact va_bald hx hb hK hP k t0 (mW_at hsh) ht0 hi hd (hk h1 h2 (mcons rfl (mtail (mtail h3))) H locs lsA hP hS hL)
  · intro pc ls st C k n i hd hsh hi hk h1 h2 h3 H locs lsA hP hS hL
    obtain ⟨t0, ht0⟩ := List.getElem?_of_mem (hT k _ hsh)
    exact va_zald hx hb hK hP k t0 (mW_at hsh) ht0 hi hd (hk h1 h2 (mcons rfl (mtail (mtail h3))) H locs lsA hP hS hL)
  · intro pc ls st C k n i x hd hsh hi hk h1 h2 h3 H locs lsA hP hS hL
    obtain ⟨t0, ht0⟩ := List.getElem?_of_mem (hT k _ hsh)
    refine va_iast hx hb hK hP (hD C) hS k t0 (mW_at hsh) ht0 hi hd (fun H1 locs1 hP1 _ hS1 => ?_)
    refine hk h1 h2 (mtail (mtail (mtail h3))) H1 locs1 lsA ?_ hS1 hL
    rw [← mW_set hsh (C := C) mUp_off]
    have e : mE ad cA (mUp C k i.toNatClampNeg (x)) k (.inl (.int, n)) = .inl (cA k, n, .inl (upd (C k) i.toNatClampNeg (x))) := by simp [mE, mUp_at]
    rw [e]
    exact hP1
  · intro pc ls st C k n i x hd hsh hi hk h1 h2 h3 H locs lsA hP hS hL
    obtain ⟨t0, ht0⟩ := List.getElem?_of_mem (hT k _ hsh)
    refine va_bast hx hb hK hP (hD C) hS k t0 (mW_at hsh) ht0 hi hd (fun H1 locs1 hP1 _ hS1 => ?_)
    refine hk h1 h2 (mtail (mtail (mtail h3))) H1 locs1 lsA ?_ hS1 hL
    rw [← mW_set hsh (C := C) mUp_off]
    have e : mE ad cA (mUp C k i.toNatClampNeg (vp_nar .byte x)) k (.inl (.byte, n)) = .inl (cA k, n, .inl (upd (C k) i.toNatClampNeg (vp_nar .byte x))) := by simp [mE, mUp_at]
    rw [e]
    exact hP1
  · intro pc ls st C k n i x hd hsh hi hk h1 h2 h3 H locs lsA hP hS hL
    obtain ⟨t0, ht0⟩ := List.getElem?_of_mem (hT k _ hsh)
    refine va_zast hx hb hK hP (hD C) hS k t0 (mW_at hsh) ht0 hi hd (fun H1 locs1 hP1 _ hS1 => ?_)
    refine hk h1 h2 (mtail (mtail (mtail h3))) H1 locs1 lsA ?_ hS1 hL
    rw [← mW_set hsh (C := C) mUp_off]
    have e : mE ad cA (mUp C k i.toNatClampNeg (vp_nar .boolean x)) k (.inl (.boolean, n)) = .inl (cA k, n, .inl (upd (C k) i.toNatClampNeg (vp_nar .boolean x))) := by simp [mE, mUp_at]
    rw [e]
    exact hP1
  · intro pc ls st C k Cn ts i t hd hsh hi ht hk h1 h2 h3 H locs lsA hP hS hL
    obtain ⟨t0, ht0⟩ := List.getElem?_of_mem (hT k _ hsh)
    refine va_aldq hx hb hK hP k t0 (mW_at hsh) ht0 hi hd ?_
    simp only [ht, Option.map_some, va_rf]
    exact hk h1 h2 (mcons rfl (mtail (mtail h3))) H locs lsA hP hS hL
  · intro pc ls st C k n ty hd hsh hk h1 h2 h3 H locs lsA hP hS hL
    obtain ⟨t0, ht0⟩ := List.getElem?_of_mem (hT k _ hsh)
    exact va_alen hx hb hK hP k t0 (mW_at hsh) ht0 rfl hd (hk h1 h2 (mcons rfl (mtail h3)) H locs lsA hP hS hL)
  · intro pc ls st as C C' i ix n f r hd hi hc ha hst hf hk h1 h2 h3 H locs lsA hP hS hL
    have h3' : ∀ v ∈ st, v.category = 1 := fun v hv => h3 v (List.mem_append_right _ hv)
    have hsum : ((st.map (mV ad)).map fun v => v.category).sum ≤ 8 := by
      have e : ((st.map (mV ad)).map fun v => v.category) = st.map (fun _ => 1) := by
        rw [List.map_map]
        exact List.map_congr_left (fun v hv => by simp only [Function.comp, mV_cat]; exact h3' v hv)
      have e1 : ∀ q : List Value, (q.map (fun _ => 1)).sum = q.length := by
        intro q
        induction q with
        | nil => rfl
        | cons a q ih => rw [List.map_cons, List.sum_cons, ih, List.length_cons]; omega
      rw [e, e1]
      exact hst
    have e : (as.reverse ++ st).map (mV ad) = (as.map (mV ad)).reverse ++ st.map (mV ad) := by simp
    rw [e]
    refine hcx ix n f hc pc i H locs lsA as (st.map (mV ad)) r C C' hd hi ha hf (fun v hv => h3 v (List.mem_append_left _ (List.mem_reverse.mpr hv))) hsum hP hS hL.1 (fun H' locs' hP' hS' => ?_)
    have e2 : (r.map Value.int).toList ++ st.map (mV ad) = ((r.map Value.int).toList ++ st).map (mV ad) := by
      cases r <;> simp [mV]
    rw [e2]
    refine hk h1 h2 (fun v hv => ?_) H' locs' lsA hP' hS' hL
    rcases List.mem_append.mp hv with q | q
    · cases r with
      | none => cases q
      | some x => rcases List.mem_singleton.mp q with rfl; rfl
    · exact h3' v q
  · intro pc ls C x hd hr h1 h2 h3 H locs lsA hP hS hL
    exact hret pc lsA x C H locs hd hr hP hS
  · intro pc ls C hd hr h1 h2 h3 H locs lsA hP hS hL
    exact hretv pc lsA C H locs hd hr hP hS
end MC
