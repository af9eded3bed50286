/-! texts: text(k) of a rule answers alike -/
noncomputable section
theorem inv_tx {C D : mMem} (h : Inv C) (hw : ∃ A Rs, InvW D A Rs) (h01 : D 0 1 = iz 0) (h16 : D 139 16 = iz 0) (h23 : D 2 7 = D 139 23) (h25 : D 2 8 = D 139 25) (h28 : D 139 28 = C 139 28) (h70 : D 7 0 = iz 0) (h07 : D 0 7 = C 0 7) (h3 : D 139 3 = C 139 3) (hK : ∀ a i, LvK a i → D a i = C a i) : Inv D :=
  inv_mk h ⟨⟨0, by omega, by omega, h01, h16, fun i _ _ => by omega⟩, h23, h25, by rw [h28]; exact h.1.2.2.2.1, h70⟩ hw h07 h3 hK
theorem tape_b {C : mMem} (h : Inv C) : ∃ (b : Nat → Int) (L : Nat), L ≤ 400 ∧ C 0 1 = iz L ∧ C 139 16 = iz L ∧ BOK C b L ∧ ∀ q : Nat, q < L → (0 ≤ b q ∧ b q < 256) ∧ C 146 q = iz (b q) := by
  obtain ⟨⟨n, t0, t1, t2, t3, t4⟩, -⟩ := h.1
  obtain ⟨L, rfl⟩ := Int.eq_ofNat_of_zero_le t0
  have key : ∀ q : Nat, q < L → (0 ≤ (C 146 q).toInt ∧ (C 146 q).toInt < 256) ∧ C 146 q = iz (C 146 q).toInt ∧ C 1 q = iz (bS (C 146 q).toInt) := by
    intro q hq
    obtain ⟨x, x0, x1, x2, x3⟩ := t4 q (by omega) (by omega)
    rw [Int.toNat_natCast] at x2 x3
    have e : (C 146 q).toInt = x := by rw [x2, iz_int (by omega)]
    rw [e]
    exact ⟨⟨x0, x1⟩, x2, x3⟩
  exact ⟨fun q => (C 146 q).toInt, L, by omega, t2, t3, ⟨by omega, fun i hi => ⟨(key i hi).1, (key i hi).2.2⟩⟩, fun q hq => ⟨(key q hq).1, (key q hq).2.1⟩⟩
theorem cTx_a {C : mMem} {a : Nat} (h0 : a ≠ 0) (h2 : a ≠ 2) : cTx C a = C a := by unfold cTx; rw [up_k h2, up_k h2, up_k h0]
theorem op_text_r {k : Int} (hk : 0 ≤ k ∧ k ≤ 2) : opOK Inv f_F_text f_M_text [.int (iz k)] := by
  intro C hC
  obtain ⟨b, L, hL, t0, t16, hB, hb⟩ := tape_b hC
  obtain ⟨A, Rs, hW⟩ := hC.2.1
  have hB' : BOK (cTx C) b L := ⟨hL, fun i hi => by rw [cTx_a (by omega) (by omega)]; exact hB.2 i hi⟩
  obtain ⟨n, D1, e1, T1, s1, s2⟩ := rc_scan hB'
  have hN := nk_of T1.1
  have s70 : D1 7 0 = iz 0 := by rw [s1 7 (by omega) (by omega) (by omega) (by omega), cTx_a (by omega) (by omega)]; exact hC.1.2.2.2.2
  have s01 : D1 0 = cTx C 0 := s1 0 (by omega) (by omega) (by omega) (by omega)
  have c01 : cTx C 0 1 = iz 0 := by unfold cTx; rw [up_k (by omega), up_k (by omega), up_at]
  have c07 : cTx C 0 7 = C 0 7 := by unfold cTx; rw [up_k (by omega), up_k (by omega), up_j (by omega)]
  have s27 : D1 2 7 = iz 0 := by rw [s2 7 (by omega) (by omega) (by omega) (by omega)]; unfold cTx; rw [up_j (by omega), up_at]
  have s28 : D1 2 8 = iz (-1) := by rw [s2 8 (by omega) (by omega) (by omega) (by omega)]; unfold cTx; rw [up_at]
  obtain ⟨t, D2, e2, F2, Rd⟩ := rc_read T1 s70
  have fr2 : ∀ a, a ≠ 0 → a < 2 ∨ 9 < a → D2 a = C a := fun a a0 a1 => by rw [F2 a (by omega) (by omega) (by omega) (by omega) (by omega), s1 a (by omega) (by omega) (by omega) (by omega), cTx_a a0 (by omega)]
  have g01 : D2 0 = cTx C 0 := by rw [F2 0 (by omega) (by omega) (by omega) (by omega) (by omega)]; exact s01
  rcases hR : rdF (kj b L) (vj b L) 17 0 [] [] with ⟨Ls, l⟩ | ⟨jf, f⟩ <;> rw [hR] at Rd
  · obtain ⟨rfl, Lc, Oc, h4, h16, r7, r8⟩ := Rd
    have lo := rdF_ok hN.2.2.2 17 0 [] [] Ls l (fun w hw => by simp at hw) hR
    have hg0 : StG (fun i => iz (l.getD (i / 2) (0, 0)).2) l := fun q x hx _ => by
      show iz (l.getD ((2 * q + 1) / 2) (0, 0)).2 = iz x.2
      rw [show (2 * q + 1) / 2 = q by omega, getD_of hx]
    have wf0 := mk_wf h16 h4 lo hg0
    obtain ⟨D3, e3, rc3, f3⟩ := rc_takeRule hk (mk_rc Lc Oc hg0) wf0
    have kn : k.toNat ≤ 2 := by omega
    have fr3 : ∀ a, a ≠ 0 → a < 2 ∨ 9 < a → a < 27 + 5 * k.toNat ∨ 30 + 5 * k.toNat < a → D3 a = C a := fun a a0 a1 a2 => by rw [f3 a a2]; exact fr2 a a0 a1
    have key : wF f_M_text [.ref 139, .int (iz k)] D3 (fun o D => o = some (iz (Ls.length : Int)) ∧ Inv D) := by
      refine rf_text0 (b := b) (L := L) (by omega) hL (by rw [fr3 139 (by omega) (by omega) (by omega)]; exact t16) (fun q hq => by rw [fr3 146 (by omega) (by omega) (by omega)]; exact hb q hq) (fun E TE => ?_)
      refine rf_textR hN (by omega) TE (fun t D FD RD => ?_)
      rw [hR] at RD
      obtain ⟨rfl, Lm, Om, r21⟩ := RD
      obtain ⟨T1, T2, T3, T4, T5, T6, T7, T8, T9⟩ := TE
      have h21 : D 139 21 = iz 0 := by rw [r21]; exact T8
      obtain ⟨G, hG⟩ : ∃ G, mUp (mUp (mUp D 139 16 (iz 0)) 139 23 (iz 0)) 139 25 (iz (-1)) = G := ⟨_, rfl⟩
      have gA : ∀ a, a ≠ 139 → G a = D a := fun a a1 => by rw [← hG, up_k a1, up_k a1, up_k a1]
      have gI : ∀ i, i ≠ 16 → i ≠ 23 → i ≠ 25 → G 139 i = D 139 i := fun i i1 i2 i3 => by rw [← hG, up_j i3, up_j i2, up_j i1]
      have LG : LnM G Ls.length Ls := ⟨by rw [gI 12 (by omega) (by omega) (by omega)]; exact Lm.1, fun i w hw => by rw [gA 143 (by omega)]; exact Lm.2 i w hw⟩
      have OG : OutM G l := outM_fr Om (gI 13 (by omega) (by omega) (by omega)) (gA 144 (by omega))
      obtain ⟨H, e4, rm, k1, k2⟩ := rf_keepsRule hk LG OG h16 h4
      rw [← hG] at e4
      have hH : ∀ a, a ≠ 139 → a ≠ 140 → a ≠ 143 → a ≠ 144 → a ≠ 149 → H a = D3 a := fun a a1 a2 a3 a4 a5 => by rw [k1 a a2, gA a a1, FD.1 a a1 a3 a4, T2 a a1 a5]
      have h139 : ∀ i, i < 11 ∨ 25 < i → H 139 i = C 139 i := fun i hi => by rw [k1 139 (by omega), gI i (by omega) (by omega) (by omega), FD.2 i (by omega), T3 i (by omega), fr3 139 (by omega) (by omega) (by omega)]
      have h140 : ∀ i, ¬ InR k i → H 140 i = C 140 i := fun i hi => by rw [k2 i hi, gA 140 (by omega), FD.1 140 (by omega) (by omega) (by omega), T2 140 (by omega) (by omega), fr3 140 (by omega) (by omega) (by omega)]
      refine (rx_rule (Q := fun o D => o = some (iz (Ls.length : Int)) ∧ Inv D) (v := Ls.length) (by omega) h21 e4 (by rw [k1 139 (by omega)]; exact LG.1)).mpr ?_
      refine ⟨rfl, inv_tx hC ⟨A, _, invW_rule hk hW rm (relRC_g ?_ hg0 (stG_of OG)) (mk_wf h16 h4 lo (stG_of OG)) (fun a i la ha => ?_) h140 (h139 29 (by omega)) (h139 30 (by omega))⟩ ?_ ?_ ?_ ?_ (h139 28 (by omega)) ?_ ?_ (h139 3 (by omega)) (fun a i la => ?_)⟩
      · obtain ⟨q1, q2, q3, q4, q5, q6⟩ := rc3
        have hh : ∀ a, 27 ≤ a → a ≤ 40 → H a = D3 a := fun a _ _ => hH a (by omega) (by omega) (by omega) (by omega) (by omega)
        exact ⟨by rw [hh _ (by omega) (by omega)]; exact q1, by rw [hh _ (by omega) (by omega)]; exact q2, by rw [hh _ (by omega) (by omega)]; exact q3, by rw [hh _ (by omega) (by omega)]; exact q4, fun i i0 i1 => by rw [hh _ (by omega) (by omega), hh _ (by omega) (by omega)]; exact q5 i i0 i1, fun j j0 j1 => by rw [hh _ (by omega) (by omega)]; exact q6 j j0 j1⟩
      · unfold LvO at la
        rw [hH a (by omega) (by omega) (by omega) (by omega) (by omega), fr3 a (by omega) (by omega) ha]
      · rw [hH 0 (by omega) (by omega) (by omega) (by omega) (by omega), f3 0 (by omega), g01]; exact c01
      · rw [k1 139 (by omega), ← hG, up_j (by omega), up_j (by omega), up_at]
      · rw [hH 2 (by omega) (by omega) (by omega) (by omega) (by omega), f3 2 (by omega), r7, s27, k1 139 (by omega), ← hG, up_j (by omega), up_at]
      · rw [hH 2 (by omega) (by omega) (by omega) (by omega) (by omega), f3 2 (by omega), r8, s28, k1 139 (by omega), ← hG, up_at]
      · rw [hH 7 (by omega) (by omega) (by omega) (by omega) (by omega), f3 7 (by omega)]; exact Lc.2.2.1
      · rw [hH 0 (by omega) (by omega) (by omega) (by omega) (by omega), f3 0 (by omega), g01]; exact c07
      · unfold LvK LvO at la
        rw [hH a (by omega) (by omega) (by omega) (by omega) (by omega), fr3 a (by omega) (by omega) (by omega)]
    obtain ⟨o, F, e5, rfl, hF⟩ := wF_of key
    exact ⟨_, D3, F, ft_r1 t0 hk e1 e2 e3, e5, hF⟩
  · obtain ⟨rfl, r7, r8, r70⟩ := Rd
    have key : wF f_M_text [.ref 139, .int (iz k)] D2 (fun o D => o = some (iz (-1)) ∧ Inv D) := by
      refine rf_text0 (b := b) (L := L) (by omega) hL (by rw [fr2 139 (by omega) (by omega)]; exact t16) (fun q hq => by rw [fr2 146 (by omega) (by omega)]; exact hb q hq) (fun E TE => ?_)
      refine rf_textR hN (by omega) TE (fun t D FD RD => ?_)
      rw [hR] at RD
      obtain ⟨rfl, r21, r22⟩ := RD
      obtain ⟨T1, T2, T3, T4, T5, T6, T7, T8, T9⟩ := TE
      refine (rx_bad (Q := fun o D => o = some (iz (-1)) ∧ Inv D) r21 r22).mpr ?_
      obtain ⟨H, hH0⟩ : ∃ G, mUp (mUp (mUp D 139 16 (iz 0)) 139 23 (iz f)) 139 25 (iz (st b L jf)) = G := ⟨_, rfl⟩
      rw [hH0]
      have hH : ∀ a, a ≠ 139 → a ≠ 143 → a ≠ 144 → a ≠ 149 → H a = D2 a := fun a a1 a3 a4 a5 => by rw [← hH0, up_k a1, up_k a1, up_k a1, FD.1 a a1 a3 a4, T2 a a1 a5]
      have h139 : ∀ i, i < 11 ∨ 25 < i → H 139 i = C 139 i := fun i hi => by rw [← hH0, up_j (by omega), up_j (by omega), up_j (by omega), FD.2 i (by omega), T3 i (by omega), fr2 139 (by omega) (by omega)]
      refine ⟨rfl, inv_tx hC ⟨A, Rs, invW_fr hW (fun a i la => ?_)⟩ ?_ ?_ ?_ ?_ (h139 28 (by omega)) ?_ ?_ (h139 3 (by omega)) (fun a i la => ?_)⟩
      · unfold LvW LvO at la
        by_cases z : a = 139
        · subst z; exact h139 i (by omega)
        · rw [hH a z (by omega) (by omega) (by omega), fr2 a (by omega) (by omega)]
      · rw [hH 0 (by omega) (by omega) (by omega) (by omega), g01]; exact c01
      · rw [← hH0, up_j (by omega), up_j (by omega), up_at]
      · rw [hH 2 (by omega) (by omega) (by omega) (by omega), r7, ← hH0, up_j (by omega), up_at]
      · rw [hH 2 (by omega) (by omega) (by omega) (by omega), r8, ← hH0, up_at]
      · rw [hH 7 (by omega) (by omega) (by omega) (by omega)]; exact r70
      · rw [hH 0 (by omega) (by omega) (by omega) (by omega), g01]; exact c07
      · unfold LvK LvO at la
        rw [hH a (by omega) (by omega) (by omega) (by omega), fr2 a (by omega) (by omega)]
    obtain ⟨o, F, e5, rfl, hF⟩ := wF_of key
    exact ⟨_, D2, F, ft_r0 t0 hk e1 e2, e5, hF⟩
theorem op_text_n {k : Int} (hr : -2147483648 ≤ k ∧ k < 2147483648) (hk : k < 0 ∨ 3 < k) : opOK Inv f_F_text f_M_text [.int (iz k)] := by
  intro C hC
  obtain ⟨A, Rs, hW⟩ := hC.2.1
  refine ⟨_, _, _, ft_no (x := C 0 1) rfl hr hk, fm_no hr (by omega), ?_⟩
  have hH : ∀ a, a ≠ 139 → a ≠ 0 → a ≠ 2 → mUp (mUp (mUp (mUp (cTx C) 139 21 (iz 0)) 139 16 (iz 0)) 139 23 (iz 0)) 139 25 (iz (-1)) a = C a := fun a a1 a2 a3 => by rw [up_k a1, up_k a1, up_k a1, up_k a1, cTx_a a2 a3]
  have h139 : ∀ i, i < 11 ∨ 25 < i → mUp (mUp (mUp (mUp (cTx C) 139 21 (iz 0)) 139 16 (iz 0)) 139 23 (iz 0)) 139 25 (iz (-1)) 139 i = C 139 i := fun i hi => by rw [up_j (by omega), up_j (by omega), up_j (by omega), up_j (by omega), cTx_a (by omega) (by omega)]
  refine inv_tx hC ⟨A, Rs, invW_fr hW (fun a i la => ?_)⟩ ?_ ?_ ?_ ?_ (h139 28 (by omega)) ?_ ?_ (h139 3 (by omega)) (fun a i la => ?_)
  · unfold LvW LvO at la
    by_cases z : a = 139
    · subst z; exact h139 i (by omega)
    · rw [hH a z (by omega) (by omega)]
  · rw [up_k (by omega), up_k (by omega), up_k (by omega), up_k (by omega)]; unfold cTx; rw [up_k (by omega), up_k (by omega), up_at]
  · rw [up_j (by omega), up_j (by omega), up_at]
  · rw [up_k (by omega), up_k (by omega), up_k (by omega), up_k (by omega), up_j (by omega), up_at]; unfold cTx; rw [up_j (by omega), up_at]
  · rw [up_k (by omega), up_k (by omega), up_k (by omega), up_k (by omega), up_at]; unfold cTx; rw [up_at]
  · rw [hH 7 (by omega) (by omega) (by omega)]; exact hC.1.2.2.2.2
  · rw [up_k (by omega), up_k (by omega), up_k (by omega), up_k (by omega)]; unfold cTx; rw [up_k (by omega), up_k (by omega), up_j (by omega)]
  · unfold LvK LvO at la
    rw [hH a (by omega) (by omega) (by omega)]
end
