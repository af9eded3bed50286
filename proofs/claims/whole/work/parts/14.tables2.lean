/-! TABLES by program: fields and constants by their places in each class file, the JDK's few methods, the texts -/
def FX_F : List (Nat × Nat × Nat) := [(9, 9, 0), (13, 9, 1), (20, 9, 2), (27, 9, 3), (34, 9, 4), (41, 9, 5), (45, 9, 6), (48, 9, 7), (54, 8, 0), (60, 9, 8), (64, 9, 9), (68, 9, 10), (74, 9, 11), (81, 9, 12), (89, 6, 7), (92, 6, 8), (112, 8, 1), (120, 4, 0), (128, 7, 0), (129, 8, 3), (132, 5, 1), (136, 5, 4), (139, 3, 0), (168, 8, 4), (177, 5, 2), (181, 0, 7), (187, 0, 6), (190, 8, 2), (193, 3, 3), (220, 5, 3), (227, 4, 1), (271, 7, 2), (287, 3, 1), (290, 3, 2), (306, 3, 5), (309, 3, 6), (319, 7, 1), (338, 3, 8), (366, 1, 0), (370, 7, 4), (375, 7, 5), (381, 2, 0)]
def fx_F : Nat → Nat → Option Nat := fun ix ci => (FX_F.find? (fun q => q.1 == ix && q.2.1 == ci)).map (fun q => q.2.2)
def PX_F : List (Nat × Nat × Nat × Bool) := [(13, 9, 1, false), (48, 9, 7, true), (89, 6, 7, false), (92, 6, 8, false), (168, 8, 4, false), (348, 5, 5, false), (351, 5, 6, false), (373, 2, 6, false), (378, 2, 7, false)]
def px_F : Nat → Nat → Option (Nat × Bool) := fun ix ci => (PX_F.find? (fun q => q.1 == ix && q.2.1 == ci)).map (fun q => q.2.2)
def KX_F : List (Nat × Int32) := [(215, -100000000), (266, 2147483647), (341, 999999), (346, -100000)]
def kx_F : Nat → Option Int32 := fun ix => (KX_F.find? (fun q => q.1 == ix)).map (fun q => q.2)
def SX_F : List (Nat × Nat) := []
def sx_F : Nat → Option Nat := fun ix => (SX_F.find? (fun q => q.1 == ix)).map (fun q => q.2)
def FX_M : List (Nat × Nat × Nat) := [(7, 10, 0), (13, 10, 1), (16, 10, 2), (19, 10, 4), (22, 10, 5), (25, 10, 6), (28, 10, 7), (31, 10, 8), (34, 10, 9), (37, 10, 10), (41, 10, 25), (45, 10, 27), (48, 10, 29), (51, 10, 32), (54, 10, 34), (57, 10, 35), (60, 10, 36), (63, 10, 37), (70, 10, 16), (73, 10, 17), (76, 10, 19), (117, 10, 11), (142, 10, 18), (155, 10, 20), (158, 10, 21), (161, 10, 22), (170, 10, 13), (173, 10, 24), (205, 10, 12), (208, 10, 14), (215, 10, 15), (225, 10, 23), (285, 10, 26), (298, 10, 28), (314, 10, 30), (344, 10, 31), (368, 10, 33), (395, 10, 38), (405, 10, 3)]
def fx_M : Nat → Nat → Option Nat := fun ix ci => (FX_M.find? (fun q => q.1 == ix && q.2.1 == ci)).map (fun q => q.2.2)
def PX_M : List (Nat × Nat × Nat × Bool) := [(41, 10, 25, false), (48, 10, 29, false), (70, 10, 16, false), (73, 10, 17, false), (76, 10, 19, false), (117, 10, 11, false), (142, 10, 18, false), (155, 10, 20, false), (158, 10, 21, false), (161, 10, 22, false), (170, 10, 13, false), (173, 10, 24, false), (205, 10, 12, false), (208, 10, 14, false), (215, 10, 15, false), (225, 10, 23, false), (285, 10, 26, false), (298, 10, 28, true), (314, 10, 30, false), (344, 10, 31, false), (368, 10, 33, false), (395, 10, 38, false), (405, 10, 3, true)]
def px_M : Nat → Nat → Option (Nat × Bool) := fun ix ci => (PX_M.find? (fun q => q.1 == ix && q.2.1 == ci)).map (fun q => q.2.2)
def KX_M : List (Nat × Int32) := [(297, -100000000), (377, 999999), (382, -100000)]
def kx_M : Nat → Option Int32 := fun ix => (KX_M.find? (fun q => q.1 == ix)).map (fun q => q.2)
def SX_M : List (Nat × Nat) := [(89, 157), (95, 158), (97, 159), (99, 160), (101, 161), (103, 162), (105, 163), (107, 164), (109, 165), (111, 166), (113, 167), (115, 168), (123, 169), (125, 170), (127, 171), (129, 172), (131, 173), (133, 174)]
def sx_M : Nat → Option Nat := fun ix => (SX_M.find? (fun q => q.1 == ix)).map (fun q => q.2)
def FX_Ca : List (Nat × Nat × Nat) := [(9, 0, 0), (15, 0, 1), (18, 0, 2), (21, 0, 3), (24, 0, 4), (27, 0, 5), (30, 0, 6), (33, 0, 7)]
def fx_Ca : Nat → Nat → Option Nat := fun ix ci => (FX_Ca.find? (fun q => q.1 == ix && q.2.1 == ci)).map (fun q => q.2.2)
def PX_Ca : List (Nat × Nat × Nat × Bool) := []
def px_Ca : Nat → Nat → Option (Nat × Bool) := fun ix ci => (PX_Ca.find? (fun q => q.1 == ix && q.2.1 == ci)).map (fun q => q.2.2)
def KX_Ca : List (Nat × Int32) := []
def kx_Ca : Nat → Option Int32 := fun ix => (KX_Ca.find? (fun q => q.1 == ix)).map (fun q => q.2)
def SX_Ca : List (Nat × Nat) := []
def sx_Ca : Nat → Option Nat := fun ix => (SX_Ca.find? (fun q => q.1 == ix)).map (fun q => q.2)
def FX_Ch : List (Nat × Nat × Nat) := [(11, 1, 0), (11, 2, 0), (15, 1, 1), (15, 2, 1), (18, 1, 2), (18, 2, 2), (21, 1, 3), (21, 2, 3), (24, 1, 4), (24, 2, 4), (27, 1, 5), (27, 2, 5)]
def fx_Ch : Nat → Nat → Option Nat := fun ix ci => (FX_Ch.find? (fun q => q.1 == ix && q.2.1 == ci)).map (fun q => q.2.2)
def PX_Ch : List (Nat × Nat × Nat × Bool) := [(27, 1, 5, false), (27, 2, 5, false)]
def px_Ch : Nat → Nat → Option (Nat × Bool) := fun ix ci => (PX_Ch.find? (fun q => q.1 == ix && q.2.1 == ci)).map (fun q => q.2.2)
def KX_Ch : List (Nat × Int32) := [(42, 2147483647)]
def kx_Ch : Nat → Option Int32 := fun ix => (KX_Ch.find? (fun q => q.1 == ix)).map (fun q => q.2)
def SX_Ch : List (Nat × Nat) := []
def sx_Ch : Nat → Option Nat := fun ix => (SX_Ch.find? (fun q => q.1 == ix)).map (fun q => q.2)
def FX_Ga : List (Nat × Nat × Nat) := [(15, 1, 5)]
def fx_Ga : Nat → Nat → Option Nat := fun ix ci => (FX_Ga.find? (fun q => q.1 == ix && q.2.1 == ci)).map (fun q => q.2.2)
def PX_Ga : List (Nat × Nat × Nat × Bool) := []
def px_Ga : Nat → Nat → Option (Nat × Bool) := fun ix ci => (PX_Ga.find? (fun q => q.1 == ix && q.2.1 == ci)).map (fun q => q.2.2)
def KX_Ga : List (Nat × Int32) := []
def kx_Ga : Nat → Option Int32 := fun ix => (KX_Ga.find? (fun q => q.1 == ix)).map (fun q => q.2)
def SX_Ga : List (Nat × Nat) := []
def sx_Ga : Nat → Option Nat := fun ix => (SX_Ga.find? (fun q => q.1 == ix)).map (fun q => q.2)
def FX_Pa : List (Nat × Nat × Nat) := [(9, 2, 6), (15, 2, 7)]
def fx_Pa : Nat → Nat → Option Nat := fun ix ci => (FX_Pa.find? (fun q => q.1 == ix && q.2.1 == ci)).map (fun q => q.2.2)
def PX_Pa : List (Nat × Nat × Nat × Bool) := []
def px_Pa : Nat → Nat → Option (Nat × Bool) := fun ix ci => (PX_Pa.find? (fun q => q.1 == ix && q.2.1 == ci)).map (fun q => q.2.2)
def KX_Pa : List (Nat × Int32) := []
def kx_Pa : Nat → Option Int32 := fun ix => (KX_Pa.find? (fun q => q.1 == ix)).map (fun q => q.2)
def SX_Pa : List (Nat × Nat) := []
def sx_Pa : Nat → Option Nat := fun ix => (SX_Pa.find? (fun q => q.1 == ix)).map (fun q => q.2)
def FX_Pe : List (Nat × Nat × Nat) := [(9, 3, 0), (15, 3, 1), (18, 3, 2), (21, 3, 3), (24, 3, 4), (28, 3, 5), (31, 3, 6), (34, 3, 7), (37, 3, 8), (40, 3, 9), (43, 3, 10)]
def fx_Pe : Nat → Nat → Option Nat := fun ix ci => (FX_Pe.find? (fun q => q.1 == ix && q.2.1 == ci)).map (fun q => q.2.2)
def PX_Pe : List (Nat × Nat × Nat × Bool) := [(9, 3, 0, false), (15, 3, 1, false), (18, 3, 2, false), (21, 3, 3, false)]
def px_Pe : Nat → Nat → Option (Nat × Bool) := fun ix ci => (PX_Pe.find? (fun q => q.1 == ix && q.2.1 == ci)).map (fun q => q.2.2)
def KX_Pe : List (Nat × Int32) := []
def kx_Pe : Nat → Option Int32 := fun ix => (KX_Pe.find? (fun q => q.1 == ix)).map (fun q => q.2)
def SX_Pe : List (Nat × Nat) := []
def sx_Pe : Nat → Option Nat := fun ix => (SX_Pe.find? (fun q => q.1 == ix)).map (fun q => q.2)
def FX_Ru : List (Nat × Nat × Nat) := [(9, 4, 0), (18, 4, 2), (22, 4, 3), (25, 4, 4), (29, 4, 5), (32, 4, 6), (35, 4, 7), (47, 6, 5), (87, 6, 6)]
def fx_Ru : Nat → Nat → Option Nat := fun ix ci => (FX_Ru.find? (fun q => q.1 == ix && q.2.1 == ci)).map (fun q => q.2.2)
def PX_Ru : List (Nat × Nat × Nat × Bool) := [(9, 4, 0, false), (15, 4, 1, false), (18, 4, 2, true), (22, 4, 3, false)]
def px_Ru : Nat → Nat → Option (Nat × Bool) := fun ix ci => (PX_Ru.find? (fun q => q.1 == ix && q.2.1 == ci)).map (fun q => q.2.2)
def KX_Ru : List (Nat × Int32) := []
def kx_Ru : Nat → Option Int32 := fun ix => (KX_Ru.find? (fun q => q.1 == ix)).map (fun q => q.2)
def SX_Ru : List (Nat × Nat) := []
def sx_Ru : Nat → Option Nat := fun ix => (SX_Ru.find? (fun q => q.1 == ix)).map (fun q => q.2)
def FX_Sc : List (Nat × Nat × Nat) := [(12, 5, 1), (21, 5, 2), (25, 5, 3), (29, 5, 4), (33, 5, 5), (36, 5, 6), (39, 5, 7), (42, 5, 8), (46, 5, 0), (56, 7, 7), (76, 0, 7), (84, 0, 5), (87, 3, 0), (90, 3, 7), (93, 3, 8), (96, 3, 2), (99, 3, 3), (110, 3, 1), (113, 3, 4), (123, 7, 2), (145, 0, 2), (146, 0, 3), (149, 4, 2), (155, 3, 5), (158, 3, 6), (172, 4, 1), (175, 0, 0), (182, 0, 1), (187, 0, 4), (199, 7, 5), (202, 7, 6), (205, 7, 4), (208, 3, 10), (211, 3, 9), (214, 0, 6), (222, 7, 3)]
def fx_Sc : Nat → Nat → Option Nat := fun ix ci => (FX_Sc.find? (fun q => q.1 == ix && q.2.1 == ci)).map (fun q => q.2.2)
def PX_Sc : List (Nat × Nat × Nat × Bool) := [(29, 5, 4, false), (33, 5, 5, false), (36, 5, 6, false), (39, 5, 7, false), (42, 5, 8, true), (96, 3, 2, false), (99, 3, 3, false)]
def px_Sc : Nat → Nat → Option (Nat × Bool) := fun ix ci => (PX_Sc.find? (fun q => q.1 == ix && q.2.1 == ci)).map (fun q => q.2.2)
def KX_Sc : List (Nat × Int32) := [(154, 1000000)]
def kx_Sc : Nat → Option Int32 := fun ix => (KX_Sc.find? (fun q => q.1 == ix)).map (fun q => q.2)
def SX_Sc : List (Nat × Nat) := []
def sx_Sc : Nat → Option Nat := fun ix => (SX_Sc.find? (fun q => q.1 == ix)).map (fun q => q.2)
def FX_Tk : List (Nat × Nat × Nat) := [(9, 6, 0), (15, 6, 1), (18, 6, 2), (21, 6, 3), (25, 6, 4), (28, 6, 5), (31, 6, 6)]
def fx_Tk : Nat → Nat → Option Nat := fun ix ci => (FX_Tk.find? (fun q => q.1 == ix && q.2.1 == ci)).map (fun q => q.2.2)
def PX_Tk : List (Nat × Nat × Nat × Bool) := [(21, 6, 3, false), (25, 6, 4, false), (28, 6, 5, false), (31, 6, 6, false), (34, 6, 7, false), (37, 6, 8, false)]
def px_Tk : Nat → Nat → Option (Nat × Bool) := fun ix ci => (PX_Tk.find? (fun q => q.1 == ix && q.2.1 == ci)).map (fun q => q.2.2)
def KX_Tk : List (Nat × Int32) := []
def kx_Tk : Nat → Option Int32 := fun ix => (KX_Tk.find? (fun q => q.1 == ix)).map (fun q => q.2)
def SX_Tk : List (Nat × Nat) := [(72, 156)]
def sx_Tk : Nat → Option Nat := fun ix => (SX_Tk.find? (fun q => q.1 == ix)).map (fun q => q.2)
def FX_Tw : List (Nat × Nat × Nat) := [(9, 7, 0), (15, 7, 1), (18, 7, 2), (21, 7, 3), (25, 7, 4), (28, 7, 5), (31, 7, 6), (34, 7, 7), (37, 7, 8), (51, 6, 5), (82, 6, 6)]
def fx_Tw : Nat → Nat → Option Nat := fun ix ci => (FX_Tw.find? (fun q => q.1 == ix && q.2.1 == ci)).map (fun q => q.2.2)
def PX_Tw : List (Nat × Nat × Nat × Bool) := [(9, 7, 0, false), (15, 7, 1, false), (18, 7, 2, false)]
def px_Tw : Nat → Nat → Option (Nat × Bool) := fun ix ci => (PX_Tw.find? (fun q => q.1 == ix && q.2.1 == ci)).map (fun q => q.2.2)
def KX_Tw : List (Nat × Int32) := []
def kx_Tw : Nat → Option Int32 := fun ix => (KX_Tw.find? (fun q => q.1 == ix)).map (fun q => q.2)
def SX_Tw : List (Nat × Nat) := []
def sx_Tw : Nat → Option Nat := fun ix => (SX_Tw.find? (fun q => q.1 == ix)).map (fun q => q.2)
def FX_Wo : List (Nat × Nat × Nat) := [(12, 8, 0), (21, 8, 1), (25, 8, 2), (34, 8, 3), (38, 8, 4)]
def fx_Wo : Nat → Nat → Option Nat := fun ix ci => (FX_Wo.find? (fun q => q.1 == ix && q.2.1 == ci)).map (fun q => q.2.2)
def PX_Wo : List (Nat × Nat × Nat × Bool) := [(38, 8, 4, false)]
def px_Wo : Nat → Nat → Option (Nat × Bool) := fun ix ci => (PX_Wo.find? (fun q => q.1 == ix && q.2.1 == ci)).map (fun q => q.2.2)
def KX_Wo : List (Nat × Int32) := []
def kx_Wo : Nat → Option Int32 := fun ix => (KX_Wo.find? (fun q => q.1 == ix)).map (fun q => q.2)
def SX_Wo : List (Nat × Nat) := []
def sx_Wo : Nat → Option Nat := fun ix => (SX_Wo.find? (fun q => q.1 == ix)).map (fun q => q.2)
/-- the texts, by their signs -/
def STB : List (List Nat) := [
  [99, 111, 115, 116, 32, 110, 101, 118, 101, 114, 32, 119, 104, 101, 110, 32, 111, 114, 32, 97, 110, 100, 32, 110, 111, 116, 32, 102, 97, 114, 32, 115, 97, 109, 101, 32, 97, 103, 97, 105, 110, 115, 116, 32, 108, 111, 97, 100, 32, 103, 105, 118, 101, 110, 32, 105, 100, 108, 101, 32, 117, 112, 32, 102, 108, 111, 111, 114, 32, 119, 97, 105, 116, 115, 32, 99, 97, 114, 32, 102, 108, 111, 111, 114, 115, 32, 115, 107, 105, 112, 32],
  [102, 108, 111, 111, 114, 115],
  [99, 97, 114],
  [115, 107, 105, 112],
  [102, 97, 114],
  [115, 97, 109, 101],
  [97, 103, 97, 105, 110, 115, 116],
  [108, 111, 97, 100],
  [103, 105, 118, 101, 110],
  [105, 100, 108, 101],
  [117, 112],
  [102, 108, 111, 111, 114],
  [119, 97, 105, 116, 115],
  [119, 104, 101, 110],
  [111, 114],
  [97, 110, 100],
  [110, 111, 116],
  [99, 111, 115, 116],
  [110, 101, 118, 101, 114]]
def f_J_length : mSem := fun as C => match as with
  | [.ref k] => if 156 ≤ k then (STB[k - 156]?).bind fun s => some (some (nI s.length), C) else none
  | _ => none
def f_J_charAt : mSem := fun as C => match as with
  | [.ref k, .int i] => if 156 ≤ k then (STB[k - 156]?).bind fun s => if mIn i s.length then some (some (nI (s.getD i.toNatClampNeg 0)), C) else none else none
  | _ => none
def f_J_max : mSem := fun as C => match as with
  | [.int x, .int y] => some (some (if x < y then y else x), C)
  | _ => none
def f_J_min : mSem := fun as C => match as with
  | [.int x, .int y] => some (some (if y < x then y else x), C)
  | _ => none
def f_J_abs : mSem := fun as C => match as with
  | [.int x] => some (some (if 0 ≤ x then x else 0 - x), C)
  | _ => none
/-- n places of row a from sp on into row b from dp on -/
def mCp (C : mMem) (a sp b dp n : Nat) : mMem := fun k => if k = b then va_cpy (C a) (C b) sp dp n else C k
def f_J_arraycopy : mSem := fun as C => match as with
  | [.ref a, .int sp, .ref b, .int dp, .int n] => match SH[a]?, SH[b]? with
    | some (.inl q), some (.inl r) =>
      if q.1 = r.1 ∧ (q.1 = .int ∨ (q.1 = .boolean ∧ (List.range n.toNatClampNeg).all (fun i => C a (sp.toNatClampNeg + i) == 0 || C a (sp.toNatClampNeg + i) == 1) = true)) ∧ 0 ≤ sp ∧ 0 ≤ dp ∧ 0 ≤ n ∧ sp.toNatClampNeg + n.toNatClampNeg ≤ q.2 ∧ dp.toNatClampNeg + n.toNatClampNeg ≤ r.2
      then some (none, mCp C a sp.toNatClampNeg b dp.toNatClampNeg n.toNatClampNeg) else none
    | _, _ => none
  | _ => none
theorem tbl {cc : ByteArray} {TB : List (Nat × Instr × Nat)} (h : TB.all (fun q => decide (decode cc q.1 = .ok q.2)) = true) (i : Nat) {pc len : Nat} {ins : Instr} (hi : TB[i]? = some (pc, ins, len)) : decode cc pc = .ok (ins, len) := by
  have h1 := List.all_eq_true.mp h _ (List.mem_of_getElem? hi)
  dsimp only at h1
  exact of_decide_eq_true h1
noncomputable def S_J_compare : mSS := sRet (eIte (bCmp .lt (eLoc 0) (eLoc 1)) (eInt (-1)) (eIte (bCmp .eq (eLoc 0) (eLoc 1)) (eInt 0) (eInt 1)))
noncomputable def f_J_compare : mSem := mBodyI 2 S_J_compare
def TB_J_compare : List (Nat × Instr × Nat) := [(0, .iload_n 0, 1), (1, .iload_n 1, 1), (2, .if_icmp .ge 7, 3), (5, .iconst (-1), 1), (6, .goto 13, 3), (9, .iload_n 0, 1), (10, .iload_n 1, 1), (11, .if_icmp .ne 7, 3), (14, .iconst 0, 1), (15, .goto 4, 3), (18, .iconst 1, 1), (19, .ireturn, 1)]
theorem tk_J_compare : TB_J_compare.all (fun q => decide (decode prog_14_method_40_code q.1 = .ok q.2)) = true := by decide +kernel
theorem t_J_compare (i : Nat) {pc len : Nat} {ins : Instr} (hi : TB_J_compare[i]? = some (pc, ins, len)) : decode prog_14_method_40_code pc = .ok (ins, len) := tbl tk_J_compare i hi
theorem der_J_compare {K : Nat → List Value → List Value → mMem → Prop} {Rt : Option Int32 → mMem → Prop} {fx : Nat → Nat → Option Nat} {px : Nat → Nat → Option (Nat × Bool)} {kx : Nat → Option Int32} {sx : Nat → Option Nat} {cx : Nat → Option (Nat × mSem)} (h : Clo K prog_14_method_40_code SH fx px kx sx cx Rt) : cS K Rt 0 0 0 0 S_J_compare := by
  unfold S_J_compare
  exact (cS_ret h (cI_ite (cC_cmpF h (cd := .lt) (cI_locn h (k := 0) (t_J_compare 0 rfl)) (cI_locn h (k := 1) (t_J_compare 1 rfl)) (t_J_compare 2 rfl) (by decide)) (cI_hop h (cI_iconst h (t_J_compare 3 rfl) (by decide)) (t_J_compare 4 rfl) (by decide)) (cI_ite (cC_cmpF h (cd := .eq) (cI_locn h (k := 0) (t_J_compare 5 rfl)) (cI_locn h (k := 1) (t_J_compare 6 rfl)) (t_J_compare 7 rfl) (by decide)) (cI_hop h (cI_iconst h (t_J_compare 8 rfl) (by decide)) (t_J_compare 9 rfl) (by decide)) (cI_iconst h (t_J_compare 10 rfl) (by decide)))) (t_J_compare 11 rfl))
