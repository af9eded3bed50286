/-! texts: the lines of a tower one by one, in the class -/
noncomputable section
section
variable {b : Nat → Int} {L n j q : Nat} {C D E F G H : mMem} {fl : Int} {cs : List Cr} {sk : Nat → Bool} {nl : Nat} {K V : Nat → Int}
theorem ch_n {k : Nat} (h : chE K V fl j k = none) : chE K V fl j (k + 1) = nbE K V (loC k) (hiC fl k) (j + k) := by rw [chE, h]
theorem ch_s {k : Nat} {x : Nat × Int} (h : chE K V fl j k = some x) : chE K V fl j (k + 1) = some x := by rw [chE, h]
def TwR (nl : Nat) (fl : Int) (cs : List Cr) : Prop := nl ≤ 40 ∧ (fl = 0 ∨ 2 ≤ fl) ∧ fl ≤ 80 ∧ cs.length ≤ 4 ∧ (∀ x, x ∈ cs → (1 ≤ x.1 ∧ x.1 ≤ 12) ∧ (1 ≤ x.2.1 ∧ x.2.1 ≤ 9) ∧ (1 ≤ x.2.2.1 ∧ x.2.2.1 ≤ 9) ∧ (0 ≤ x.2.2.2.1 ∧ x.2.2.2.1 ≤ 9) ∧ 0 ≤ x.2.2.2.2 ∧ x.2.2.2.2 ≤ fl - 1)
theorem nb_ok {lo hi : Int} (h : nbE K V lo hi q = none) : K q = 1 ∧ lo ≤ V q ∧ V q ≤ hi := by
  unfold nbE at h
  split at h
  · simp at h
  · split at h
    · simp at h
    · omega
/-- ranges stay -/
theorem twL_R {q' : Nat} {fl' : Int} {cs' : List Cr} {sk' : Nat → Bool} (hR : TwR nl fl cs) (h : twL K V j nl fl cs sk = .inl (q', fl', cs', sk')) : TwR nl fl' cs' ∧ nl < 40 ∧ (fl' = fl ∨ cs = [] ∨ fl = 0) := by
  obtain ⟨r1, r2, r3, r4, r5⟩ := hR
  unfold twL at h
  split at h
  · simp at h
  · rename_i g0
    split at h
    · simp at h
    · rename_i g1
      split at h
      · rename_i g2
        rcases e : nbE K V 2 80 (j + 1) with _ | x
        · rw [e] at h
          simp only [Sum.inl.injEq, Prod.mk.injEq] at h
          obtain ⟨rfl, rfl, rfl, rfl⟩ := h
          have := nb_ok e
          have f0 : fl = 0 := by omega
          refine ⟨⟨r1, by omega, by omega, r4, fun x hx => ?_⟩, by omega, by omega⟩
          have := r5 x hx
          omega
        · rw [e] at h; simp at h
      · split at h
        · rcases e : chE K V fl (j + 1) 5 with _ | x
          · rw [e] at h
            simp only [Sum.inl.injEq, Prod.mk.injEq] at h
            obtain ⟨rfl, rfl, rfl, rfl⟩ := h
            have e4 : chE K V fl (j + 1) 4 = none := by
              rcases z : chE K V fl (j + 1) 4 with _ | x
              · rfl
              · rw [ch_s z] at e; simp at e
            have e3 : chE K V fl (j + 1) 3 = none := by
              rcases z : chE K V fl (j + 1) 3 with _ | x
              · rfl
              · rw [ch_s z] at e4; simp at e4
            have e2 : chE K V fl (j + 1) 2 = none := by
              rcases z : chE K V fl (j + 1) 2 with _ | x
              · rfl
              · rw [ch_s z] at e3; simp at e3
            have e1 : chE K V fl (j + 1) 1 = none := by
              rcases z : chE K V fl (j + 1) 1 with _ | x
              · rfl
              · rw [ch_s z] at e2; simp at e2
            have n1 : K (j + 1) = 1 ∧ 1 ≤ V (j + 1) ∧ V (j + 1) ≤ 12 := nb_ok e1
            rw [ch_n e1] at e2
            have n2 : K (j + 2) = 1 ∧ 1 ≤ V (j + 2) ∧ V (j + 2) ≤ 9 := nb_ok e2
            rw [ch_n (by rw [ch_n e1]; exact e2)] at e3
            have n3 : K (j + 3) = 1 ∧ 1 ≤ V (j + 3) ∧ V (j + 3) ≤ 9 := nb_ok e3
            rw [ch_n (by rw [ch_n (by rw [ch_n e1]; exact e2)]; exact e3)] at e4
            have n4 : K (j + 4) = 1 ∧ 0 ≤ V (j + 4) ∧ V (j + 4) ≤ 9 := nb_ok e4
            rw [ch_n (by rw [ch_n (by rw [ch_n (by rw [ch_n e1]; exact e2)]; exact e3)]; exact e4)] at e
            have n5 : K (j + 5) = 1 ∧ 0 ≤ V (j + 5) ∧ V (j + 5) ≤ fl - 1 := nb_ok e
            refine ⟨⟨r1, r2, r3, by rw [List.length_append, List.length_singleton]; omega, fun x hx => ?_⟩, by omega, Or.inl rfl⟩
            rw [List.mem_append, List.mem_singleton] at hx
            rcases hx with hx | rfl
            · exact r5 x hx
            · exact ⟨n1.2, n2.2, n3.2, n4.2, n5.2⟩
          · rw [e] at h; simp at h
        · rcases e : nbE K V 0 (cs.length - 1) (j + 1) with _ | x
          · rw [e] at h
            rcases e' : nbE K V 0 (fl - 1) (j + 2) with _ | x
            · rw [e'] at h
              simp only [Sum.inl.injEq, Prod.mk.injEq] at h
              obtain ⟨rfl, rfl, rfl, rfl⟩ := h
              exact ⟨⟨r1, r2, r3, r4, r5⟩, by omega, Or.inl rfl⟩
            · rw [e'] at h; simp at h
          · rw [e] at h; simp at h
/-- five numbers -/
theorem rc_car5 (hR : TwR nl fl cs) (hl : cs.length < 4) (P : PtC b L n C D j) (T : TwC D nl fl cs sk) : (chE (kj b L) (vj b L) fl j 5 = none ∧ ∃ E, f_Tw_readCar [.ref 11, .ref 2] D = some (some (bI true), E) ∧ PtC b L n C E (j + 5) ∧ TwC E nl fl (cs ++ [(vj b L j, vj b L (j + 1), vj b L (j + 2), vj b L (j + 3), vj b L (j + 4))]) sk) ∨ ∃ x E, chE (kj b L) (vj b L) fl j 5 = some x ∧ f_Tw_readCar [.ref 11, .ref 2] D = some (some (bI false), E) ∧ FtC b L C E x := by
  obtain ⟨t0, t1, t2, t3, t4⟩ := T
  have c0 : chE (kj b L) (vj b L) fl j 0 = none := rfl
  have fr : 0 ≤ fl ∧ fl ≤ 80 := by have := hR.2.1; have := hR.2.2.1; omega
  rcases rc_into (r := 12) (lo := 1) (hi := 12) (by omega) (by omega) hl t2 P with ⟨n1, D1, e1, P1, f1, v1, w1⟩ | ⟨x, E, n1, e1, Q⟩
  · have c1 : chE (kj b L) (vj b L) fl j 1 = none := by rw [ch_n c0]; exact n1
    have g1 : D1 11 = D 11 := f1 11 (by omega) (by omega)
    rcases rc_into (r := 13) (lo := 1) (hi := 9) (by omega) (by omega) hl (by rw [g1]; exact t2) P1 with ⟨n2, D2, e2, P2, f2, v2, w2⟩ | ⟨x, E, n2, e2, Q⟩
    · have c2 : chE (kj b L) (vj b L) fl j 2 = none := by rw [ch_n c1]; exact n2
      have g2 : D2 11 = D 11 := by rw [f2 11 (by omega) (by omega), g1]
      rcases rc_into (r := 14) (lo := 1) (hi := 9) (by omega) (by omega) hl (by rw [g2]; exact t2) P2 with ⟨n3, D3, e3, P3, f3, v3, w3⟩ | ⟨x, E, n3, e3, Q⟩
      · have c3 : chE (kj b L) (vj b L) fl j 3 = none := by rw [ch_n c2]; exact n3
        have g3 : D3 11 = D 11 := by rw [f3 11 (by omega) (by omega), g2]
        rcases rc_into (r := 15) (lo := 0) (hi := 9) (by omega) (by omega) hl (by rw [g3]; exact t2) P3 with ⟨n4, D4, e4, P4, f4, v4, w4⟩ | ⟨x, E, n4, e4, Q⟩
        · have c4 : chE (kj b L) (vj b L) fl j 4 = none := by rw [ch_n c3]; exact n4
          have g4 : D4 11 = D 11 := by rw [f4 11 (by omega) (by omega), g3]
          have h4 : D4 11 1 = iz fl := by rw [g4]; exact t1
          rcases rc_into (r := 16) (lo := 0) (hi := fl - 1) (by omega) (by omega) hl (by rw [g4]; exact t2) P4 with ⟨n5, D5, e5, P5, f5, v5, w5⟩ | ⟨x, E, n5, e5, Q⟩
          · left
            have g5 : D5 11 = D 11 := by rw [f5 11 (by omega) (by omega), g4]
            have c5 : chE (kj b L) (vj b L) fl j 5 = none := by rw [ch_n c4]; exact n5
            refine ⟨c5, mUp D5 11 2 (iz ((cs.length : Int) + 1)), pc_ok e1 e2 e3 e4 e5 h4 fr (by rw [g5]; exact t2), ptC_u P5 (by omega), by rw [up_j (by omega), g5]; exact t0, by rw [up_j (by omega), g5]; exact t1, by rw [up_at, List.length_append, List.length_singleton]; rfl, fun i x hx => ?_, fun i hi => ?_⟩
            · rw [up_k (by omega), up_k (by omega), up_k (by omega), up_k (by omega), up_k (by omega)]
              have r12 : D5 12 = D1 12 := by rw [f5 12 (by omega) (by omega), f4 12 (by omega) (by omega), f3 12 (by omega) (by omega), f2 12 (by omega) (by omega)]
              have r13 : D5 13 = D2 13 := by rw [f5 13 (by omega) (by omega), f4 13 (by omega) (by omega), f3 13 (by omega) (by omega)]
              have r14 : D5 14 = D3 14 := by rw [f5 14 (by omega) (by omega), f4 14 (by omega) (by omega)]
              have r15 : D5 15 = D4 15 := by rw [f5 15 (by omega) (by omega)]
              by_cases z : i < cs.length
              · rw [List.getElem?_append_left z] at hx
                rw [r12, r13, r14, r15, w1 i (by omega), w2 i (by omega), w3 i (by omega), w4 i (by omega), w5 i (by omega), f1 13 (by omega) (by omega), f2 14 (by omega) (by omega), f1 14 (by omega) (by omega), f3 15 (by omega) (by omega), f2 15 (by omega) (by omega), f1 15 (by omega) (by omega), f4 16 (by omega) (by omega), f3 16 (by omega) (by omega), f2 16 (by omega) (by omega), f1 16 (by omega) (by omega)]
                exact t3 i x hx
              · have hlt : i < (cs ++ [(vj b L j, vj b L (j + 1), vj b L (j + 2), vj b L (j + 3), vj b L (j + 4))]).length := (List.getElem?_eq_some_iff.mp hx).1
                rw [List.length_append, List.length_singleton] at hlt
                obtain rfl : i = cs.length := by omega
                rw [List.getElem?_append_right (Nat.le_refl _), Nat.sub_self] at hx
                have hy := Option.some.inj hx
                subst hy
                rw [r12, r13, r14, r15, v1, v2, v3, v4, v5]
                exact ⟨rfl, rfl, rfl, rfl, rfl⟩
            · rw [up_k (by omega), f5 17 (by omega) (by omega), f4 17 (by omega) (by omega), f3 17 (by omega) (by omega), f2 17 (by omega) (by omega), f1 17 (by omega) (by omega)]; exact t4 i hi
          · have n5 : chE (kj b L) (vj b L) fl j 5 = some x := by rw [ch_n c4]; exact n5
            exact Or.inr ⟨x, E, n5, pc_f5 e1 e2 e3 e4 e5 h4 fr, Q⟩
        · have n4 : chE (kj b L) (vj b L) fl j 4 = some x := by rw [ch_n c3]; exact n4
          exact Or.inr ⟨x, E, ch_s n4, pc_f4 e1 e2 e3 e4, Q⟩
      · have n3 : chE (kj b L) (vj b L) fl j 3 = some x := by rw [ch_n c2]; exact n3
        exact Or.inr ⟨x, E, ch_s (ch_s n3), pc_f3 e1 e2 e3, Q⟩
    · have n2 : chE (kj b L) (vj b L) fl j 2 = some x := by rw [ch_n c1]; exact n2
      exact Or.inr ⟨x, E, ch_s (ch_s (ch_s n2)), pc_f2 e1 e2, Q⟩
  · have n1 : chE (kj b L) (vj b L) fl j 1 = some x := by rw [ch_n c0]; exact n1
    exact Or.inr ⟨x, E, ch_s (ch_s (ch_s (ch_s n1))), pc_f1 e1, Q⟩
theorem twC_fr (T : TwC D nl fl cs sk) (h : ∀ a, 11 ≤ a → a ≤ 17 → E a = D a) : TwC E nl fl cs sk := by
  obtain ⟨t0, t1, t2, t3, t4⟩ := T
  exact ⟨by rw [h 11 (by omega) (by omega)]; exact t0, by rw [h 11 (by omega) (by omega)]; exact t1, by rw [h 11 (by omega) (by omega)]; exact t2, fun i x hx => by rw [h 12 (by omega) (by omega), h 13 (by omega) (by omega), h 14 (by omega) (by omega), h 15 (by omega) (by omega), h 16 (by omega) (by omega)]; exact t3 i x hx, fun i hi => by rw [h 17 (by omega) (by omega)]; exact t4 i hi⟩
/-- a line ahead of its ; -/
theorem rc_tline (hR : TwR nl fl cs) (P : PtC b L n C D j) (T : TwC D nl fl cs sk) : (∃ x E, twL (kj b L) (vj b L) j nl fl cs sk = .inr x ∧ FtC b L C E x ∧ (f_Tw_mayStart [.ref 11, .ref 2] D = some (some (bI false), E) ∨ f_Tw_mayStart [.ref 11, .ref 2] D = some (some (bI true), D) ∧ f_Tw_readLine [.ref 11, .ref 2] D = some (some (bI false), E))) ∨ ∃ q fl' cs' sk' E, twL (kj b L) (vj b L) j nl fl cs sk = .inl (q, fl', cs', sk') ∧ f_Tw_mayStart [.ref 11, .ref 2] D = some (some (bI true), D) ∧ f_Tw_readLine [.ref 11, .ref 2] D = some (some (bI true), E) ∧ PtC b L n C E q ∧ TwC E nl fl' cs' sk' := by
  obtain ⟨t0, t1, t2, t3, t4⟩ := T
  obtain ⟨h5, h6, hN⟩ := ptC_k P
  have kr := hN.2.2.1 j
  have fr : 0 ≤ fl ∧ fl ≤ 80 := by have := hR.2.1; have := hR.2.2.1; omega
  have lr := hR.2.2.2.1
  have nr := hR.1
  unfold twL
  by_cases g0 : fl = 0 ∧ kj b L j = 272 ∨ ¬ fl = 0 ∧ (kj b L j = 271 ∨ kj b L j = 273)
  · rw [if_neg (by omega)]
    by_cases g1 : nl = 40 ∨ (kj b L j = 271 ∧ cs.length = 4)
    · rw [if_pos g1]
      obtain ⟨E, e, Q⟩ := ptC_r (f := 3) P
      exact Or.inl ⟨_, E, rfl, Q, Or.inl (pm_3 h5 t1 fr g0 t0 (by omega) t2 (by omega) (by omega) e)⟩
    · rw [if_neg g1]
      have pm := pm_ok h5 t1 fr g0 t0 (by omega) t2 (by omega) (by omega)
      obtain ⟨E, e1, P1, f1⟩ := ptC_n P
      have TE : TwC E nl fl cs sk := twC_fr ⟨t0, t1, t2, t3, t4⟩ (fun a _ _ => f1 a (by omega))
      by_cases g2 : kj b L j = 272
      · rw [if_pos g2]
        rw [g2] at h5
        rcases rc_numT (lo := 2) (hi := 80) (by omega) P1 with ⟨n1, -, -, e2⟩ | ⟨x, F, n1, e2, Q⟩
        · rw [n1]
          obtain ⟨F, e3, P3, f3⟩ := ptC_n (ptC_u (r := 11) (i := 1) (x := iz (vj b L (j + 1))) P1 (by omega))
          refine Or.inr ⟨_, _, _, _, F, rfl, pm, pl_f1 h5 e1 e2 (ptC_k P1).2.1 e3, P3, ?_⟩
          obtain ⟨u0, u1, u2, u3, u4⟩ := TE
          exact ⟨by rw [f3 11 (by omega), up_j (by omega)]; exact u0, by rw [f3 11 (by omega), up_at], by rw [f3 11 (by omega), up_j (by omega)]; exact u2, fun i x hx => by rw [f3 12 (by omega), f3 13 (by omega), f3 14 (by omega), f3 15 (by omega), f3 16 (by omega), up_k (by omega), up_k (by omega), up_k (by omega), up_k (by omega), up_k (by omega)]; exact u3 i x hx, fun i hi => by rw [f3 17 (by omega), up_k (by omega)]; exact u4 i hi⟩
        · rw [n1]
          exact Or.inl ⟨x, F, rfl, Q, Or.inr ⟨pm, pl_f0 h5 e1 e2⟩⟩
      · rw [if_neg g2]
        by_cases g3 : kj b L j = 271
        · rw [if_pos g3]
          rw [g3] at h5
          rcases rc_car5 hR (by omega) P1 TE with ⟨n1, F, e2, P2, T2⟩ | ⟨x, F, n1, e2, Q⟩
          · rw [n1]
            exact Or.inr ⟨_, _, _, _, F, rfl, pm, pl_car h5 e1 e2, P2, T2⟩
          · rw [n1]
            exact Or.inl ⟨x, F, rfl, Q, Or.inr ⟨pm, pl_car h5 e1 e2⟩⟩
        · rw [if_neg g3]
          have h73 : kj b L j = 273 := by omega
          rw [h73] at h5
          obtain ⟨u0, u1, u2, u3, u4⟩ := TE
          rcases rc_numT (lo := 0) (hi := (cs.length : Int) - 1) (by omega) P1 with ⟨n1, a1, a2, e2⟩ | ⟨x, F, n1, e2, Q⟩
          · rw [n1]
            obtain ⟨F, e3, P3, f3⟩ := ptC_n P1
            have h1 : F 11 1 = iz fl := by rw [f3 11 (by omega)]; exact u1
            rcases rc_numT (lo := 0) (hi := fl - 1) (by omega) P3 with ⟨n2, b1, b2, e4⟩ | ⟨x, G, n2, e4, Q⟩
            · have n2 : nbE (kj b L) (vj b L) 0 (fl - 1) (j + 2) = none := n2
              have b1 : 0 ≤ vj b L (j + 2) := b1
              have b2 : vj b L (j + 2) ≤ fl - 1 := b2
              rw [n2]
              obtain ⟨G, e5, P5, f5⟩ := ptC_n (ptC_u (r := 17) (i := (vj b L (j + 1) * 80 + vj b L (j + 2)).toNat) (x := iz 1) P3 (by omega))
              refine Or.inr ⟨_, _, _, _, G, rfl, pm, pl_skip h5 e1 (ps_ok u2 (by omega) e2 (ptC_k P1).2.1 (by omega) e3 h1 fr e4 (ptC_k P3).2.1 (by omega) e5), P5, ?_⟩
              have ff : ∀ a, 11 ≤ a → a ≤ 16 → G a = E a := fun a _ _ => by rw [f5 a (by omega), up_k (by omega), f3 a (by omega)]
              refine ⟨by rw [ff 11 (by omega) (by omega)]; exact u0, by rw [ff 11 (by omega) (by omega)]; exact u1, by rw [ff 11 (by omega) (by omega)]; exact u2, fun i x hx => by rw [ff 12 (by omega) (by omega), ff 13 (by omega) (by omega), ff 14 (by omega) (by omega), ff 15 (by omega) (by omega), ff 16 (by omega) (by omega)]; exact u3 i x hx, fun i hi => ?_⟩
              rw [f5 17 (by omega)]
              unfold skU
              by_cases z : i = (80 * vj b L (j + 1) + vj b L (j + 2)).toNat
              · rw [if_pos z, z, show (80 * vj b L (j + 1) + vj b L (j + 2)).toNat = (vj b L (j + 1) * 80 + vj b L (j + 2)).toNat by omega, up_at]; rfl
              · rw [if_neg z, up_j (by omega), f3 17 (by omega)]; exact u4 i hi
            · have n2 : nbE (kj b L) (vj b L) 0 (fl - 1) (j + 2) = some x := n2
              rw [n2]
              exact Or.inl ⟨x, G, rfl, Q, Or.inr ⟨pm, pl_skip h5 e1 (ps_f2 u2 (by omega) e2 (ptC_k P1).2.1 e3 h1 fr e4)⟩⟩
          · rw [n1]
            exact Or.inl ⟨x, F, rfl, Q, Or.inr ⟨pm, pl_skip h5 e1 (ps_f1 u2 (by omega) e2)⟩⟩
  · rw [if_pos g0]
    obtain ⟨E, e, Q⟩ := ptC_r (f := 1) P
    exact Or.inl ⟨_, E, rfl, Q, Or.inl (pm_1 h5 kr t1 fr g0 e)⟩
end
end
