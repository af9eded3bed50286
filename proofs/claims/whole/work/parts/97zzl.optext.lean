/-! texts: text answers alike -/
noncomputable section
theorem op_text_t : opOK Inv f_F_text f_M_text [.int (iz 3)] := by
  intro C hC
  obtain ⟨b, L, hL, t0, t16, hB, hb⟩ := tape_b hC
  obtain ⟨A, Rs, hW⟩ := hC.2.1
  have hB' : BOK (cTx C) b L := ⟨hL, fun i hi => by rw [cTx_a (by omega) (by omega)]; exact hB.2 i hi⟩
  obtain ⟨n, D1, e1, T1, s1, s2⟩ := rc_scan hB'
  have hN := nk_of T1.1
  have c01 : cTx C 0 1 = iz 0 := by unfold cTx; rw [up_k (by omega), up_k (by omega), up_at]
  have c07 : cTx C 0 7 = C 0 7 := by unfold cTx; rw [up_k (by omega), up_k (by omega), up_j (by omega)]
  have s27 : D1 2 7 = iz 0 := by rw [s2 7 (by omega) (by omega) (by omega) (by omega)]; unfold cTx; rw [up_j (by omega), up_at]
  have s28 : D1 2 8 = iz (-1) := by rw [s2 8 (by omega) (by omega) (by omega) (by omega)]; unfold cTx; rw [up_at]
  obtain ⟨t, D2, e2, F2, Rd⟩ := rc_tread T1
  have fr2 : ∀ a, a ≠ 0 → a < 2 ∨ (5 < a ∧ a < 11) ∨ 17 < a → D2 a = C a := fun a a0 a1 => by rw [F2 a (by omega) (by omega), s1 a (by omega) (by omega) (by omega) (by omega), cTx_a a0 (by omega)]
  have g01 : D2 0 = cTx C 0 := by rw [F2 0 (by omega) (by omega)]; exact s1 0 (by omega) (by omega) (by omega) (by omega)
  rcases hR : tw0 b L with ⟨nl, fl, cs, sk⟩ | x <;> rw [hR] at Rd
  · obtain ⟨rfl, Tc, Tr, r7, r8⟩ := Rd
    obtain ⟨D3, e3, rs, w42, w19, w20, w25, f3⟩ := rc_takeTower Tc
    have fr3 : ∀ a, a ≠ 0 → a < 2 ∨ (5 < a ∧ a < 11) ∨ 17 < a → a < 19 ∨ (25 < a ∧ a < 42) ∨ 60 < a → D3 a = C a := fun a a0 a1 a2 => by rw [f3 a a2]; exact fr2 a a0 a1
    have key : wF f_M_text [.ref 139, .int (iz 3)] D3 (fun o D => o = some (iz (nl : Int)) ∧ Inv D) := by
      refine rf_text0 (b := b) (L := L) (by omega) hL (by rw [fr3 139 (by omega) (by omega) (by omega)]; exact t16) (fun q hq => by rw [fr3 146 (by omega) (by omega) (by omega)]; exact hb q hq) (fun E TE => ?_)
      refine rf_textT hN TE (fun t D FD RD => ?_)
      rw [hR] at RD
      obtain ⟨rfl, Tm, r21⟩ := RD
      obtain ⟨T1, T2, T3, T4, T5, T6, T7, T8, T9⟩ := TE
      have h21 : D 139 21 = iz 0 := by rw [r21]; exact T8
      obtain ⟨G, hG⟩ : ∃ G, mUp (mUp (mUp D 139 16 (iz 0)) 139 23 (iz 0)) 139 25 (iz (-1)) = G := ⟨_, rfl⟩
      have gA : ∀ a, a ≠ 139 → G a = D a := fun a a1 => by rw [← hG, up_k a1, up_k a1, up_k a1]
      have gI : ∀ i, i ≠ 16 → i ≠ 23 → i ≠ 25 → G 139 i = D 139 i := fun i i1 i2 i3 => by rw [← hG, up_j i3, up_j i2, up_j i1]
      have TG : TwM G nl fl cs sk := twM_fr Tm (gA 145 (by omega)) (gA 149 (by omega)) (fun i hi => gI i (by omega) (by omega) (by omega))
      have G140 : G 140 = C 140 := by rw [gA 140 (by omega), FD.1 140 (by omega) (by omega) (by omega), T2 140 (by omega) (by omega), fr3 140 (by omega) (by omega) (by omega)]
      have G139 : ∀ i, i < 11 ∨ 25 < i → G 139 i = C 139 i := fun i hi => by rw [gI i (by omega) (by omega) (by omega), FD.2 i (by omega), T3 i (by omega), fr3 139 (by omega) (by omega) (by omega)]
      obtain ⟨⟨wq, wqr⟩, w29, w30, ⟨o1, o2, o3, o4, o5, o6, o7⟩, v1, v2, v3, v4, v5, v6, v7, v8, v9⟩ := hW
      have hWG := v1.1.1
      unfold WfG at hWG
      have G4 : G 140 4 = iz (A 30 4) := by rw [G140]; exact wq.2.2.1 4 (by omega) (by omega)
      have kw : wF f_M_keepsTower [.ref 139] G (fun o H => o = none ∧ H 139 12 = iz (nl : Int) ∧ Inv H) := by
        refine rf_keepsTw TG Tr (fun D4 kt wt => ?_)
        have k139 : D4 139 = G 139 := kt.1 139 (by omega)
        have rm : RelM D4 (bOf (D4 140) (-1) (A 32 2)) := bO_rel (by rw [k139, G139 29 (by omega), w29, v4]) (by rw [k139, G139 30 (by omega)]; exact w30) kt.2.2.2.2.2.2.2.2.1
        have b1 : bOf (D4 140) (-1) (A 32 2) 30 1 = (cs.length : Int) := by
          have := Tr.2.2.2.1
          rw [bO_30]; show (D4 140 1).toInt = _; rw [kt.2.2.2.1, iz_int (by omega)]
        obtain ⟨H, e5, rmH, frH⟩ := rf_parks rm (by rw [b1]; have := Tr.2.2.2.1; omega)
        rw [b1, Int.toNat_natCast] at rmH
        have nw := nwT_of (u := -1) (v := A 32 2) Tr kt wt G4 (by omega)
        have fresh := nwT_fresh nw
        have wf := nwT_wf (Rs := Rs) nw Tr (by omega) (by omega) v8
        have car := fun c c0 c1 => nwT_car nw c c0 c1
        generalize aPk (bOf (D4 140) (-1) (A 32 2)) cs.length = B at *
        have hH : ∀ a, a < 139 → H a = D3 a := fun a ha => by
          rw [frH.1 a ha, kt.1 a (by omega), gA a (by omega), FD.1 a (by omega) (by omega) (by omega), T2 a (by omega) (by omega)]
        have hH2 : H 141 = C 141 := by rw [frH.2.2.1 141 (by omega) (by omega) (by omega), kt.1 141 (by omega), gA 141 (by omega), FD.1 141 (by omega) (by omega) (by omega), T2 141 (by omega) (by omega), fr3 141 (by omega) (by omega) (by omega)]
        have h139 : ∀ i, i ≠ 26 → H 139 i = G 139 i := fun i hi => by rw [frH.2.2.2 i hi, k139]
        have hR140 : ∀ i, 1300 ≤ i → H 140 i = C 140 i := fun i hi => by rw [frH.2.1 i hi, kt.2.1 i hi, G140]
        rw [wF_eq e5, w_N]
        refine ⟨rfl, by rw [h139 12 (by omega)]; exact TG.1, inv_tx hC ⟨B, Rs, ⟨(rm_iff.mp rmH).1, fun i i0 i1 => ?_⟩, (rm_iff.mp rmH).2.1, (rm_iff.mp rmH).2.2, ?_, wf⟩ ?_ ?_ ?_ ?_ ?_ ?_ ?_ ?_ (fun a i la => ?_)⟩
        · obtain ⟨u0, u1, u2, u3, u4⟩ := v8 i i0 i1
          obtain ⟨q0, q1, q2⟩ := wqr i i0 i1
          refine ⟨?_, fun y y0 y1 => ?_, fun y y0 y1 => ?_⟩
          · rw [hR140 _ (by omega)]; exact q0
          · rw [hR140 _ (by omega), hR140 _ (by omega), hR140 _ (by omega), hR140 _ (by omega)]; exact q1 y y0 y1
          · rw [hR140 _ (by omega), hR140 _ (by omega)]; exact q2 y y0 y1
        · obtain ⟨z0, z1, z2, z3, z4⟩ := Tc
          obtain ⟨n0, n1, n2, n3, n4, n5, n6, n7, n8, n9, n10, n11⟩ := nw
          have lr := Tr.2.2.2.1
          have flr := Tr.2.2.1
          refine ⟨⟨?_, ?_, fun c c0 c1 => ?_, fun c f c0 c1 f0 f1 => ?_⟩, ?_, ?_, ?_, fun f f0 f1 => ?_, fun i i0 i1 => ?_, fun i hi => ?_⟩
          · rw [hH _ (by omega), w19 1 (by omega), n0]; exact z1
          · rw [hH _ (by omega), w19 2 (by omega), n1]; exact z2
          · obtain ⟨m, x, rfl, hx, -⟩ := car c c0 c1
            have hm : m < cs.length := (List.getElem?_eq_some_iff.mp hx).1
            obtain ⟨a1, a2, a3, a4, a5, a6, a7, a8, a9, a10, a11, a12⟩ := n11 m x hx
            obtain ⟨y1, y2, y3, y4, y5⟩ := z3 m x hx
            rw [hH _ (by omega), hH _ (by omega), hH _ (by omega), hH _ (by omega), hH _ (by omega), Int.toNat_natCast]
            refine ⟨?_, ?_, ?_, ?_, ?_⟩
            · rw [a7, ← y1]; exact w20 0 m (by omega) (by omega)
            · rw [a8, ← y2]; exact w20 1 m (by omega) (by omega)
            · rw [a9, ← y3]; exact w20 2 m (by omega) (by omega)
            · rw [a10, ← y4]; exact w20 3 m (by omega) (by omega)
            · rw [a11, ← y5]; exact w20 4 m (by omega) (by omega)
          · obtain ⟨m, x, rfl, hx, -⟩ := car c c0 c1
            have hm : m < cs.length := (List.getElem?_eq_some_iff.mp hx).1
            obtain ⟨a1, a2, a3, a4, a5, a6, a7, a8, a9, a10, a11, a12⟩ := n11 m x hx
            rw [n0] at f1
            rw [a12 f f0 f1, hH _ (by omega), w25 _ (by omega), z4 _ (by omega), show ((m : Int) * 80 + f).toNat = 80 * m + f.toNat by omega]
            by_cases z : sk (80 * m + f.toNat) = true
            · rw [if_pos z, z]; rfl
            · rw [if_neg z, show sk (80 * m + f.toNat) = false by simpa using z]; rfl
          · refine rs_same (rs B fresh (by omega) (fun c c0 c1 => ?_)) (fun a i a1 a2 => by rw [hH a (by omega)])
            obtain ⟨m, x, rfl, hx, -⟩ := car c c0 c1
            obtain ⟨a1, a2, a3, a4, a5, a6, a7, a8, a9, a10, a11, a12⟩ := n11 m x hx
            rw [Int.toNat_natCast, a11]; exact (z3 m x hx).2.2.2.2
          · rw [hH _ (by omega), w19 0 (by omega), n5]; exact z0
          · rw [hH _ (by omega), fr3 18 (by omega) (by omega) (by omega), n4]; exact o4
          · rw [n0] at f1
            rw [hH _ (by omega), w42 _ (by omega), n9 f f0 f1]
          · have hk : i.toNat = 0 ∨ i.toNat = 1 ∨ i.toNat = 2 := by omega
            have hh : ∀ a, 27 ≤ a → a ≤ 40 → H a = C a := fun a h1 h2 => by rw [hH a (by omega), fr3 a (by omega) (by omega) (by omega)]
            obtain ⟨q1, q2, q3, q4, q5, q6⟩ := o6 i i0 i1
            exact ⟨by rw [hh _ (by omega) (by omega)]; exact q1, by rw [hh _ (by omega) (by omega)]; exact q2, by rw [hh _ (by omega) (by omega)]; exact q3, by rw [hh _ (by omega) (by omega)]; exact q4, fun y y0 y1 => by rw [hh _ (by omega) (by omega), hh _ (by omega) (by omega)]; exact q5 y y0 y1, fun y y0 y1 => by rw [hh _ (by omega) (by omega)]; exact q6 y y0 y1⟩
          · rw [hH _ (by omega), w25 i hi, z4 i hi]
            cases sk i
            · exact Or.inl rfl
            · exact Or.inr rfl
        · rw [hH 0 (by omega), f3 0 (by omega), g01]; exact c01
        · rw [h139 16 (by omega), ← hG, up_j (by omega), up_j (by omega), up_at]
        · rw [hH 2 (by omega), f3 2 (by omega), r7, s27, h139 23 (by omega), ← hG, up_j (by omega), up_at]
        · rw [hH 2 (by omega), f3 2 (by omega), r8, s28, h139 25 (by omega), ← hG, up_at]
        · rw [h139 28 (by omega), G139 28 (by omega)]
        · rw [hH 7 (by omega), fr3 7 (by omega) (by omega) (by omega)]; exact hC.1.2.2.2.2
        · rw [hH 0 (by omega), f3 0 (by omega), g01]; exact c07
        · rw [h139 3 (by omega), G139 3 (by omega)]
        · unfold LvK LvO at la
          by_cases z : a = 141
          · subst z; rw [hH2]
          · rw [hH a (by omega), fr3 a (by omega) (by omega) (by omega)]
      obtain ⟨o, H, e6, rfl, h12, hI⟩ := wF_of kw
      rw [← hG] at e6
      exact (rx_tower (Q := fun o D => o = some (iz (nl : Int)) ∧ Inv D) h21 e6 h12).mpr ⟨rfl, hI⟩
    obtain ⟨o, F, e5, rfl, hF⟩ := wF_of key
    exact ⟨_, D3, F, ft_t1 t0 e1 e2 e3, e5, hF⟩
  · obtain ⟨rfl, r7, r8⟩ := Rd
    have key : wF f_M_text [.ref 139, .int (iz 3)] D2 (fun o D => o = some (iz (-1)) ∧ Inv D) := by
      refine rf_text0 (b := b) (L := L) (by omega) hL (by rw [fr2 139 (by omega) (by omega)]; exact t16) (fun q hq => by rw [fr2 146 (by omega) (by omega)]; exact hb q hq) (fun E TE => ?_)
      refine rf_textT hN TE (fun t D FD RD => ?_)
      rw [hR] at RD
      obtain ⟨rfl, r21, r22⟩ := RD
      obtain ⟨T1, T2, T3, T4, T5, T6, T7, T8, T9⟩ := TE
      refine (rx_bad (Q := fun o D => o = some (iz (-1)) ∧ Inv D) r21 r22).mpr ?_
      obtain ⟨H, hH0⟩ : ∃ G, mUp (mUp (mUp D 139 16 (iz 0)) 139 23 (iz x.2)) 139 25 (iz (st b L x.1)) = G := ⟨_, rfl⟩
      rw [hH0]
      have hH : ∀ a, a ≠ 139 → a ≠ 145 → a ≠ 149 → H a = D2 a := fun a a1 a3 a4 => by rw [← hH0, up_k a1, up_k a1, up_k a1, FD.1 a a1 a3 a4, T2 a a1 a4]
      have h139 : ∀ i, i < 11 ∨ 25 < i → H 139 i = C 139 i := fun i hi => by rw [← hH0, up_j (by omega), up_j (by omega), up_j (by omega), FD.2 i (by omega), T3 i (by omega), fr2 139 (by omega) (by omega)]
      refine ⟨rfl, inv_tx hC ⟨A, Rs, invW_fr hW (fun a i la => ?_)⟩ ?_ ?_ ?_ ?_ (h139 28 (by omega)) ?_ ?_ (h139 3 (by omega)) (fun a i la => ?_)⟩
      · unfold LvW LvO at la
        by_cases z : a = 139
        · subst z; exact h139 i (by omega)
        · rw [hH a z (by omega) (by omega), fr2 a (by omega) (by omega)]
      · rw [hH 0 (by omega) (by omega) (by omega), g01]; exact c01
      · rw [← hH0, up_j (by omega), up_j (by omega), up_at]
      · rw [hH 2 (by omega) (by omega) (by omega), r7, ← hH0, up_j (by omega), up_at]
      · rw [hH 2 (by omega) (by omega) (by omega), r8, ← hH0, up_at]
      · rw [hH 7 (by omega) (by omega) (by omega), fr2 7 (by omega) (by omega)]; exact hC.1.2.2.2.2
      · rw [hH 0 (by omega) (by omega) (by omega), g01]; exact c07
      · unfold LvK LvO at la
        rw [hH a (by omega) (by omega) (by omega), fr2 a (by omega) (by omega)]
    obtain ⟨o, F, e5, rfl, hF⟩ := wF_of key
    exact ⟨_, D2, F, ft_t0 t0 e1 e2, e5, hF⟩
theorem op_text (a : Int32) : opOK Inv f_F_text f_M_text [.int a] := by
  obtain ⟨k, rfl, hr⟩ := iz_ex a
  by_cases g : k < 0 ∨ 3 < k
  · exact op_text_n hr g
  · by_cases h : k = 3
    · subst h; exact op_text_t
    · exact op_text_r (by omega)
end
