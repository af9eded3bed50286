/-! texts of the start -/
theorem ne_mem {q : Nat × Nat} (h : q ∈ neQ) : Jvm.Cond.not (Jvm.Cond.eq (tmS q.1) (tmS q.2)) ∈ flS := by
  have e : neQ = (neQ.drop 0).take 20 ++ (neQ.drop 20).take 20 ++ (neQ.drop 40).take 20 ++ (neQ.drop 60).take 20 ++ (neQ.drop 80).take 20 ++ (neQ.drop 100).take 20 ++ (neQ.drop 120).take 20 ++ (neQ.drop 140).take 20 ++ (neQ.drop 160).take 20 := by decide +kernel
  rw [e] at h
  simp only [List.mem_append] at h
  have go : ∀ (l : List (Nat × Nat)), (l.map (fun q => Jvm.Cond.not (Jvm.Cond.eq (tmS q.1) (tmS q.2)))).isSublist flS = true → q ∈ l → Jvm.Cond.not (Jvm.Cond.eq (tmS q.1) (tmS q.2)) ∈ flS := fun l hl hq => sub_in hl _ (List.mem_map.mpr ⟨q, hq, rfl⟩)
  rcases h with (((((((h | h) | h) | h) | h) | h) | h) | h) | h
  · exact go _ ne_0 h
  · exact go _ ne_1 h
  · exact go _ ne_2 h
  · exact go _ ne_3 h
  · exact go _ ne_4 h
  · exact go _ ne_5 h
  · exact go _ ne_6 h
  · exact go _ ne_7 h
  · exact go _ ne_8 h
theorem ne_alb : ((List.range 19).all (fun i => (List.range 19).all (fun j => i == j || neQ.contains (i, j) || neQ.contains (j, i)))) = true := by decide +kernel
theorem ne_all : ∀ i : Nat, i < 19 → ∀ j : Nat, j < 19 → i ≠ j → (i, j) ∈ neQ ∨ (j, i) ∈ neQ := by
  intro i hi j hj hij
  have h1 := List.all_eq_true.mp ne_alb i (List.mem_range.mpr hi)
  have h2 := List.all_eq_true.mp h1 j (List.mem_range.mpr hj)
  simp only [Bool.or_eq_true, beq_iff_eq, List.contains_iff_mem] at h2
  rcases h2 with (h2 | h2) | h2
  · exact absurd h2 hij
  · exact Or.inl h2
  · exact Or.inr h2
theorem st_ne : ∀ i : Nat, i < 19 → ∀ j : Nat, j < 19 → i ≠ j → Jvm.Cond.not (Jvm.Cond.eq (tmS i) (tmS j)) ∈ flS ∨ Jvm.Cond.not (Jvm.Cond.eq (tmS j) (tmS i)) ∈ flS := fun i hi j hj hij => (ne_all i hi j hj hij).imp (fun h => ne_mem h) (fun h => ne_mem h)
theorem st_cs : Jvm.Cond.eq (.static "java/lang/String" "COMPACT_STRINGS" "Z") (.int 1) ∈ flS := by decide +kernel
theorem st_si : Jvm.Cond.isRef (.static "jdk/internal/util/Preconditions" "SIOOBE_FORMATTER" "Ljava/util/function/BiFunction;") ∈ flS := by decide +kernel
theorem st_sr : ∀ (q : String × Nat × String), q ∈ STT → Jvm.Cond.stringRef q.1 q.2.1 q.2.2 ∈ lw_tbl := List.forall_mem_cons.mpr ⟨(List.mem_append_right _ (List.mem_append_right _ (List.mem_append_left _ (List.mem_of_getElem? (l := tables_1_2) (i := 209) rfl)))), List.forall_mem_cons.mpr ⟨(List.mem_append_right _ (List.mem_append_right _ (List.mem_append_right _ (List.mem_append_right _ (List.mem_append_right _ (List.mem_append_left _ (List.mem_of_getElem? (l := tables_1_5) (i := 237) rfl))))))), List.forall_mem_cons.mpr ⟨(List.mem_append_right _ (List.mem_append_right _ (List.mem_append_right _ (List.mem_append_right _ (List.mem_append_right _ (List.mem_append_right _ (List.mem_append_left _ (List.mem_of_getElem? (l := tables_1_6) (i := 4) rfl)))))))), List.forall_mem_cons.mpr ⟨(List.mem_append_right _ (List.mem_append_right _ (List.mem_append_right _ (List.mem_append_right _ (List.mem_append_right _ (List.mem_append_right _ (List.mem_append_left _ (List.mem_of_getElem? (l := tables_1_6) (i := 5) rfl)))))))), List.forall_mem_cons.mpr ⟨(List.mem_append_right _ (List.mem_append_right _ (List.mem_append_right _ (List.mem_append_right _ (List.mem_append_right _ (List.mem_append_right _ (List.mem_append_left _ (List.mem_of_getElem? (l := tables_1_6) (i := 16) rfl)))))))), List.forall_mem_cons.mpr ⟨(List.mem_append_right _ (List.mem_append_right _ (List.mem_append_right _ (List.mem_append_right _ (List.mem_append_right _ (List.mem_append_right _ (List.mem_append_left _ (List.mem_of_getElem? (l := tables_1_6) (i := 17) rfl)))))))), List.forall_mem_cons.mpr ⟨(List.mem_append_right _ (List.mem_append_right _ (List.mem_append_right _ (List.mem_append_right _ (List.mem_append_right _ (List.mem_append_right _ (List.mem_append_left _ (List.mem_of_getElem? (l := tables_1_6) (i := 18) rfl)))))))), List.forall_mem_cons.mpr ⟨(List.mem_append_right _ (List.mem_append_right _ (List.mem_append_right _ (List.mem_append_right _ (List.mem_append_right _ (List.mem_append_right _ (List.mem_append_left _ (List.mem_of_getElem? (l := tables_1_6) (i := 19) rfl)))))))), List.forall_mem_cons.mpr ⟨(List.mem_append_right _ (List.mem_append_right _ (List.mem_append_right _ (List.mem_append_right _ (List.mem_append_right _ (List.mem_append_right _ (List.mem_append_left _ (List.mem_of_getElem? (l := tables_1_6) (i := 20) rfl)))))))), List.forall_mem_cons.mpr ⟨(List.mem_append_right _ (List.mem_append_right _ (List.mem_append_right _ (List.mem_append_right _ (List.mem_append_right _ (List.mem_append_right _ (List.mem_append_left _ (List.mem_of_getElem? (l := tables_1_6) (i := 21) rfl)))))))), List.forall_mem_cons.mpr ⟨(List.mem_append_right _ (List.mem_append_right _ (List.mem_append_right _ (List.mem_append_right _ (List.mem_append_right _ (List.mem_append_right _ (List.mem_append_left _ (List.mem_of_getElem? (l := tables_1_6) (i := 22) rfl)))))))), List.forall_mem_cons.mpr ⟨(List.mem_append_right _ (List.mem_append_right _ (List.mem_append_right _ (List.mem_append_right _ (List.mem_append_right _ (List.mem_append_right _ (List.mem_append_left _ (List.mem_of_getElem? (l := tables_1_6) (i := 23) rfl)))))))), List.forall_mem_cons.mpr ⟨(List.mem_append_right _ (List.mem_append_right _ (List.mem_append_right _ (List.mem_append_right _ (List.mem_append_right _ (List.mem_append_right _ (List.mem_append_left _ (List.mem_of_getElem? (l := tables_1_6) (i := 24) rfl)))))))), List.forall_mem_cons.mpr ⟨(List.mem_append_right _ (List.mem_append_right _ (List.mem_append_right _ (List.mem_append_right _ (List.mem_append_right _ (List.mem_append_right _ (List.mem_append_left _ (List.mem_of_getElem? (l := tables_1_6) (i := 6) rfl)))))))), List.forall_mem_cons.mpr ⟨(List.mem_append_right _ (List.mem_append_right _ (List.mem_append_right _ (List.mem_append_right _ (List.mem_append_right _ (List.mem_append_right _ (List.mem_append_left _ (List.mem_of_getElem? (l := tables_1_6) (i := 7) rfl)))))))), List.forall_mem_cons.mpr ⟨(List.mem_append_right _ (List.mem_append_right _ (List.mem_append_right _ (List.mem_append_right _ (List.mem_append_right _ (List.mem_append_right _ (List.mem_append_left _ (List.mem_of_getElem? (l := tables_1_6) (i := 8) rfl)))))))), List.forall_mem_cons.mpr ⟨(List.mem_append_right _ (List.mem_append_right _ (List.mem_append_right _ (List.mem_append_right _ (List.mem_append_right _ (List.mem_append_right _ (List.mem_append_left _ (List.mem_of_getElem? (l := tables_1_6) (i := 9) rfl)))))))), List.forall_mem_cons.mpr ⟨(List.mem_append_right _ (List.mem_append_right _ (List.mem_append_right _ (List.mem_append_right _ (List.mem_append_right _ (List.mem_append_right _ (List.mem_append_left _ (List.mem_of_getElem? (l := tables_1_6) (i := 10) rfl)))))))), List.forall_mem_cons.mpr ⟨(List.mem_append_right _ (List.mem_append_right _ (List.mem_append_right _ (List.mem_append_right _ (List.mem_append_right _ (List.mem_append_right _ (List.mem_append_left _ (List.mem_of_getElem? (l := tables_1_6) (i := 11) rfl)))))))), fun _ h => absurd h List.not_mem_nil⟩⟩⟩⟩⟩⟩⟩⟩⟩⟩⟩⟩⟩⟩⟩⟩⟩⟩⟩
theorem st_nq : ∀ q ∈ nestQ, Jvm.Cond.methodLinkNest q.1 q.2.1 q.2.2.1 q.2.2.2 ∈ lw_tbl := List.forall_mem_cons.mpr ⟨(List.mem_append_right _ (List.mem_append_left _ (List.mem_of_getElem? (l := tables_1_1) (i := 30) rfl))), List.forall_mem_cons.mpr ⟨(List.mem_append_right _ (List.mem_append_left _ (List.mem_of_getElem? (l := tables_1_1) (i := 72) rfl))), List.forall_mem_cons.mpr ⟨(List.mem_append_right _ (List.mem_append_left _ (List.mem_of_getElem? (l := tables_1_1) (i := 107) rfl))), List.forall_mem_cons.mpr ⟨(List.mem_append_right _ (List.mem_append_left _ (List.mem_of_getElem? (l := tables_1_1) (i := 153) rfl))), List.forall_mem_cons.mpr ⟨(List.mem_append_right _ (List.mem_append_left _ (List.mem_of_getElem? (l := tables_1_1) (i := 158) rfl))), List.forall_mem_cons.mpr ⟨(List.mem_append_right _ (List.mem_append_left _ (List.mem_of_getElem? (l := tables_1_1) (i := 161) rfl))), List.forall_mem_cons.mpr ⟨(List.mem_append_right _ (List.mem_append_left _ (List.mem_of_getElem? (l := tables_1_1) (i := 170) rfl))), List.forall_mem_cons.mpr ⟨(List.mem_append_right _ (List.mem_append_left _ (List.mem_of_getElem? (l := tables_1_1) (i := 228) rfl))), List.forall_mem_cons.mpr ⟨(List.mem_append_right _ (List.mem_append_right _ (List.mem_append_left _ (List.mem_of_getElem? (l := tables_1_2) (i := 86) rfl)))), List.forall_mem_cons.mpr ⟨(List.mem_append_right _ (List.mem_append_right _ (List.mem_append_left _ (List.mem_of_getElem? (l := tables_1_2) (i := 89) rfl)))), List.forall_mem_cons.mpr ⟨(List.mem_append_right _ (List.mem_append_right _ (List.mem_append_left _ (List.mem_of_getElem? (l := tables_1_2) (i := 120) rfl)))), List.forall_mem_cons.mpr ⟨(List.mem_append_right _ (List.mem_append_right _ (List.mem_append_left _ (List.mem_of_getElem? (l := tables_1_2) (i := 123) rfl)))), fun _ h => absurd h List.not_mem_nil⟩⟩⟩⟩⟩⟩⟩⟩⟩⟩⟩⟩
theorem gX_holds {b : Nat} {s : State} (hts : ∀ w ∈ lw_tbl, w.before #[Value.ref b] s = true) : ∀ w ∈ gX ++ lw_tbl, w.before #[Value.ref b] s = true := by
  intro w hw
  rcases List.mem_append.mp hw with h | h
  · unfold gX at h
    simp only [List.mem_cons, List.not_mem_nil, or_false] at h
    rcases h with rfl | rfl
    · exact sel_sub (v := ⟨"FourCars$Chain", "weightOf", "(II)I"⟩) (by decide) rfl (hts _ (List.mem_append_right _ (List.mem_append_right _ (List.mem_append_right _ (List.mem_append_right _ (List.mem_append_right _ (List.mem_append_left _ (List.mem_of_getElem? (l := tables_1_5) (i := 30) rfl)))))))) (hts _ (List.mem_append_right _ (List.mem_append_right _ (List.mem_append_right _ (List.mem_append_right _ (List.mem_append_right _ (List.mem_append_left _ (List.mem_of_getElem? (l := tables_1_5) (i := 41) rfl)))))))) (hts _ (List.mem_append_right _ (List.mem_append_right _ (List.mem_append_right _ (List.mem_append_right _ (List.mem_append_right _ (List.mem_append_left _ (List.mem_of_getElem? (l := tables_1_5) (i := 42) rfl))))))))
    · exact sel_sub (v := ⟨"FourCars$Chain", "weightOf", "(II)I"⟩) (by decide) rfl (hts _ (List.mem_append_right _ (List.mem_append_right _ (List.mem_append_right _ (List.mem_append_right _ (List.mem_append_right _ (List.mem_append_left _ (List.mem_of_getElem? (l := tables_1_5) (i := 31) rfl)))))))) (hts _ (List.mem_append_right _ (List.mem_append_right _ (List.mem_append_right _ (List.mem_append_right _ (List.mem_append_right _ (List.mem_append_left _ (List.mem_of_getElem? (l := tables_1_5) (i := 41) rfl)))))))) (hts _ (List.mem_append_right _ (List.mem_append_right _ (List.mem_append_right _ (List.mem_append_right _ (List.mem_append_right _ (List.mem_append_left _ (List.mem_of_getElem? (l := tables_1_5) (i := 42) rfl))))))))
  · exact hts w h
theorem gT_holds {b : Nat} {s : State} (hts : ∀ w ∈ gX ++ lw_tbl, w.before #[Value.ref b] s = true) : ∀ w ∈ gT, w.before #[Value.ref b] s = true := fun w hw => hts w ((List.mem_append.mp hw).elim (fun z => List.mem_append_left _ z) (fun z => List.mem_append_right _ (List.mem_filter.mp z).1))
theorem adx_inj {ad : Nat → Nat} {n q : Nat} (w2 : ∀ i j, i < n → j < n → ad i = ad j → i = j) (hn : ∀ i, i < n → ad i ≠ q) : ∀ i j, i < n + 1 → j < n + 1 → adx ad n q i = adx ad n q j → i = j := by
  intro i j hi hj hij
  rcases Nat.lt_or_ge i n with a1 | a1 <;> rcases Nat.lt_or_ge j n with a2 | a2
  · rw [adx_lt a1, adx_lt a2] at hij
    exact w2 i j a1 a2 hij
  · have : j = n := by omega
    subst this
    rw [adx_lt a1, adx_at] at hij
    exact absurd hij (hn i a1)
  · have : i = n := by omega
    subst this
    rw [adx_lt a2, adx_at] at hij
    exact absurd hij.symm (hn j a2)
  · omega
theorem adx_al {ad : Nat → Nat} {n q : Nat} {P : Nat → Prop} (h : ∀ k, k < n → P (ad k)) (hq : P q) : ∀ k, k < n + 1 → P (adx ad n q k) := by
  intro k hk
  rcases Nat.lt_or_ge k n with a1 | a1
  · rw [adx_lt a1]; exact h k a1
  · have : k = n := by omega
    subst this
    rw [adx_at]; exact hq
theorem nW_x {ad ad' : Nat → Nat} {cA : Nat → ClassId} {M : nM} (hM : nOK M) (hag : ∀ k, k < M.length → ad' k = ad k) : nW ad' cA M = nW ad cA M := by
  apply List.ext_getElem?
  intro i
  simp only [nW, List.getElem?_mapIdx]
  cases h : M[i]? with
  | none => rfl
  | some x =>
    have hi : i < M.length := (List.getElem?_eq_some_iff.mp h).1
    simp only [Option.map_some]
    rw [hag i hi, nE_x hi (hM i x h) hag (fun _ _ => rfl)]
theorem new_len : (NEW1 ++ NEW2).length = 156 ∧ SH.length = 156 ∧ NEW1.length = 139 := by decide +kernel
def M0a : nM := [.inr (.inr (9, nDf 9))]
def M0b : nM := NEW1 ++ [.inr (.inr (10, nDf 10))]
theorem cb_1 : 0 + 1 + (NEW1.length - M0a.length) ≤ 600000 := by decide +kernel
theorem cb_2 : 0 + 13 + (nSlots NEW1 - nSlots M0a) ≤ 7302250 := by decide +kernel
theorem cb_3 : 0 + 1 + (NEW1.length - M0a.length) + 1 ≤ 600000 := by decide +kernel
theorem cb_4 : 0 + 13 + (nSlots NEW1 - nSlots M0a) + 39 ≤ 7302250 := by decide +kernel
theorem cb_5 : 0 + 1 + (NEW1.length - M0a.length) + 1 + ((NEW1 ++ NEW2).length - M0b.length) ≤ 600000 := by decide +kernel
theorem cb_6 : 0 + 13 + (nSlots NEW1 - nSlots M0a) + 39 + (nSlots (NEW1 ++ NEW2) - nSlots M0b) ≤ 7302250 := by decide +kernel
theorem M0b_len : M0b.length = 140 := by decide +kernel
theorem M0a_len : M0a.length = 1 := rfl
set_option maxHeartbeats 8000000 in
theorem whole_of {Inv : mMem → Prop} (hops : opsOK Inv) (h0 : Inv mC0) {p : Program} {e : Env} {s : State} {m : MethodId} {below : List Frame} {meth : Method} {c : Code} (l : Launch) {b L : Nat} {xs : Nat → Int32} (hL : L ≤ 3072) (C0 : lw_At p s m meth c b L xs) : W p l e room_1 s m #[Value.ref b] below meth c s.heap [] 0 0 (lw_Z below #[Value.ref b] s) (entryFrame m ([Value.ref b] : List Value).toArray 4) := by
  obtain ⟨hx, hb, hr, hml, hown, hts0, hX, hbl, hlocks, hgv⟩ := id C0
  have hts : ∀ w ∈ gX ++ lw_tbl, w.before #[Value.ref b] s = true := gX_holds hts0
  have htg : ∀ w ∈ gT, w.before #[Value.ref b] s = true := gT_holds hts
  have hfl : ∀ w ∈ flS, w.before #[Value.ref b] s = true := flat_of_before _ hgv
  have hA : ∀ q : Nat, s.heap.size ≤ q → (fun q : Nat => s.heap.size ≤ q) q := fun _ h => h
  have hbA : ¬ (fun q : Nat => s.heap.size ≤ q) b := Nat.not_le.mpr hbl
  have hA0 : ∀ a : Nat, a < s.heap.size → ¬ (fun q : Nat => s.heap.size ≤ q) a := fun a h => Nat.not_le.mpr h
  obtain ⟨adK, adV, hvk, hev⟩ := vk_Sof (args := #[Value.ref b]) (s := s) (N := 19) (tm := tmS) (len := LENS) (byt := BYTS) (A := fun q : Nat => s.heap.size ≤ q) st_len (fun i hi => hfl _ (st_ex i hi)) (fun i hi => hfl _ (st_co i hi)) (fun i hi => hfl _ (st_ar i hi)) (fun i hi => hfl _ (st_le i hi)) (fun i hi j hj => hfl _ (st_el i hi j hj)) (fun i j hi hj hij => (st_ne i hi j hj hij).imp (hfl _) (hfl _)) hA0
  have hxt : nXt nestQ s := ⟨fun q hq => va_Nw.of rfl (hts0 _ (st_nq q hq)), va_AO.of (hts0 _ (List.mem_append_right _ (List.mem_append_left _ (List.mem_of_getElem? (l := tables_1_1) (i := 160) rfl))))⟩
  obtain ⟨c0, iS0, hKn0⟩ := u_known (C := "FourCars$Cars") (T := TF_Ca) (N := 8) (n := 8) htg inF_Ca (htg _ (gt1 227 rfl rfl))
  obtain ⟨c1, iS1, hKn1⟩ := u_known (C := "FourCars$Gaps") (T := TF_Ga) (N := 6) (n := 6) htg inF_Ga (htg _ (gt2 85 rfl rfl))
  obtain ⟨c2, iS2, hKn2⟩ := u_known (C := "FourCars$Parts") (T := TF_Pa) (N := 8) (n := 8) htg inF_Pa (htg _ (gt2 119 rfl rfl))
  obtain ⟨c3, iS3, hKn3⟩ := u_known (C := "FourCars$People") (T := TF_Pe) (N := 11) (n := 11) htg inF_Pe (htg _ (gt1 169 rfl rfl))
  obtain ⟨c4, iS4, hKn4⟩ := u_known (C := "FourCars$Rule") (T := TF_Ru) (N := 8) (n := 8) htg inF_Ru (htg _ (gt1 71 rfl rfl))
  obtain ⟨c5, iS5, hKn5⟩ := u_known (C := "FourCars$Scene") (T := TF_Sc) (N := 9) (n := 9) htg inF_Sc (htg _ (gt1 163 rfl rfl))
  obtain ⟨c6, iS6, hKn6⟩ := u_known (C := "FourCars$Tokens") (T := TF_Tk) (N := 9) (n := 9) htg inF_Tk (htg _ (gt1 29 rfl rfl))
  obtain ⟨c7, iS7, hKn7⟩ := u_known (C := "FourCars$Tower") (T := TF_Tw) (N := 9) (n := 9) htg inF_Tw (htg _ (gt1 106 rfl rfl))
  obtain ⟨c8, iS8, hKn8⟩ := u_known (C := "FourCars$World") (T := TF_Wo) (N := 5) (n := 5) htg inF_Wo (htg _ (gt1 152 rfl rfl))
  obtain ⟨c9, iS9, hKn9⟩ := u_known (C := "FourCars") (T := TF_F) (N := 13) (n := 13) htg inF_F (htg _ (gt1 21 rfl rfl))
  obtain ⟨c10, iS10, hKn10⟩ := u_known (C := "FourCarsModel") (T := TF_M) (N := 39) (n := 39) htg inF_M (htg _ (gt5 80 rfl rfl))
  obtain ⟨dC, dI, hKc⟩ : ∃ (dC : Nat → ClassId) (dI : Nat → Nat → Nat), ∀ (k : Nat) (q : vw_C), clsL[k]? = some q → u_Kn s q.1 q.2.1 q.2.2 (dC k) (dI k) := by
    refine ⟨fun k => if k = 0 then c0 else if k = 1 then c1 else if k = 2 then c2 else if k = 3 then c3 else if k = 4 then c4 else if k = 5 then c5 else if k = 6 then c6 else if k = 7 then c7 else if k = 8 then c8 else if k = 9 then c9 else c10, fun k => if k = 0 then iS0 else if k = 1 then iS1 else if k = 2 then iS2 else if k = 3 then iS3 else if k = 4 then iS4 else if k = 5 then iS5 else if k = 6 then iS6 else if k = 7 then iS7 else if k = 8 then iS8 else if k = 9 then iS9 else iS10, ?_⟩
    intro k q hq
    match k, hq with
    | 0, hq => cases hq; exact hKn0
    | 1, hq => cases hq; exact hKn1
    | 2, hq => cases hq; exact hKn2
    | 3, hq => cases hq; exact hKn3
    | 4, hq => cases hq; exact hKn4
    | 5, hq => cases hq; exact hKn5
    | 6, hq => cases hq; exact hKn6
    | 7, hq => cases hq; exact hKn7
    | 8, hq => cases hq; exact hKn8
    | 9, hq => cases hq; exact hKn9
    | 10, hq => cases hq; exact hKn10
    | k + 11, hq => cases hq
  have hS : va_S (fun q : Nat => s.heap.size ≤ q) s.heap s.heap [] := va_S.rf
  have hK : va_K (dC, dI) clsL [] s := ⟨hKc, fun k q h => by simp at h⟩
  have hP : va_P (dC, dI) clsL [] s.heap := fun k q h => by simp at h
  have hD : va_D (fun q : Nat => s.heap.size ≤ q) [] := ⟨fun i j p q h => by simp at h, fun k q h => by simp at h⟩
  have hl := lv_entry ([.ref b]) (n := 4) (Nat.le_of_ble_eq_true rfl)
  rw [lg_entry_eq]
  generalize (lg_sl ([.ref b]) ++ List.replicate (4 - (lg_sl ([.ref b])).length) Slot.unset).toArray = ls at hl ⊢
  have hl : lv_has ls 4 [(0, .ref b)] := hl
  have hd9 : (nDf 9).length = 13 ∧ (∀ ad : Nat → Nat, (nDf 9).map (mV ad) = nDf 9) := ⟨rfl, fun ad => rfl⟩
  have hd10 : (nDf 10).length = 39 ∧ (∀ ad : Nat → Nat, (nDf 10).map (mV ad) = nDf 10) := ⟨rfl, fun ad => rfl⟩
  refine va_new (R := room_1) (ci := 9) (fs := nDf 9) (C := "FourCars") (T := TF_F) (N := 13) hx hb htg inF_F tyF_F tokF_F hown (htg _ (gt1 20 rfl rfl)) (htg _ (gt1 21 rfl rfl)) (htg _ (gt1 1 rfl rfl)) hK hP hD hS hA rfl (by decide +kernel) (Nat.le_of_ble_eq_true rfl) (Nat.le_of_ble_eq_true rfl) (tbl tkL_0 0 rfl) (fun q H hP hD hS => ?_)
  refine lv_dup hx hb (tbl tkL_0 1 rfl) rfl ?_
  have hqA : s.heap.size ≤ q := hD.2 0 _ rfl
  have hPa : va_P (dC, dI) clsL (nW (fun _ => q) (fun _ => 0) M0a) H := hP
  have hM1 := xr_met l 5 10 [.ref 0] M0a NEW1 ⟨"FourCars", "<init>", "()V"⟩ prog_1_method_1_code 1 xr_1 rfl (dC, dI) [] (fun _ => q) (fun _ => 0) H.size (fun v hv => by
    rcases List.mem_singleton.mp hv with rfl
    exact ⟨rfl, fun t ht => by cases ht; exact Nat.lt_succ_self 0⟩)
  have hOK1 : nOK M0a := by
    intro k x hx
    rcases List.mem_singleton.mp (List.mem_of_getElem? hx) with rfl
    intro v hv
    rcases nDf_ok 9 (by decide) v hv with rfl | rfl <;> exact ⟨rfl, fun t ht => by cases ht⟩
  have hG1 : GoodIn (gX ++ lw_tbl) (wY ⟨"FourCars", "<init>", "()V"⟩ prog_1_method_1_code 1 none) := fun w hw => by
    have h1 := wY_in (y := ⟨"FourCars", "<init>", "()V"⟩) (gt1 24 rfl rfl) w hw
    exact ⟨(List.mem_append.mp h1).elim (fun z => List.mem_append_left _ z) (fun z => List.mem_append_right _ (List.mem_filter.mp z).1), gT_good h1⟩
  obtain ⟨nl1, nl2, nl3⟩ := new_len
  have run1 := va_runI (p := p) (l := l) (e := e) (R := room_1) (s := s) (m := m) (args := #[Value.ref b]) (below := below) (meth := meth) (c := c) (H := H) (locs := []) (cells := 0 + 1) (slots := 0 + 13) (g := F0 m 4 ls (([] : List Value).reverse ++ .ref q :: [.ref q])) (As := []) (rest := [.ref q]) (b := q) ⟨hx, hb, hml, hown, hts⟩ hM1
    (cwI 0 hts hG1 rfl rfl rfl (htg _ (gt1 1 rfl rfl)) (htg _ (gt1 22 rfl rfl)) (htg _ (gt1 23 rfl rfl)) rfl (by decide +kernel) ⟨Nat.le_of_ble_eq_true rfl, Nat.le_of_ble_eq_true rfl⟩)
    ⟨nPre_blind, fun U hU hW => ⟨rfl, by rw [hU], by rw [hU]; exact hPa, va_K.moved hW.alike hK, (fun i j hi hj _ => by rw [M0a_len] at hi hj; omega), (fun k x hx => by rcases List.mem_singleton.mp (List.mem_of_getElem? hx) with rfl; trivial), hOK1, fun w hw => va_Nw.warmM hW (hxt.1 w hw), va_AO.moved hW.alike hxt.2⟩⟩ rfl rfl hl.1 rfl (lv_room (Nat.le_of_ble_eq_true rfl)) (tbl tkL_0 2 rfl) ⟨cb_1, cb_2⟩
  have hAA1 : ∀ z, nA (fun _ => q) 1 H.size z → s.heap.size ≤ z := by
    intro z hz
    rcases hz with ⟨k, -, rfl⟩ | hz
    · exact hqA
    · exact Nat.le_trans hS.1 hz
  refine va_callv (a := (Value.ref q :: []).toArray) run1 hS (fun z _ h => hAA1 z h) hAA1 (fun u t H1 locs1 ht hvm hw hB hz1 hk1 hS1 => ?_)
  obtain ⟨w1, w2, w3, w4, w5⟩ := hw
  obtain ⟨ad1, cA1, tys1⟩ := u
  dsimp only at w1 w2 w3 w4 w5 hB
  have hq1 : ad1 0 = q := w1 0 (Nat.lt_succ_self 0)
  have hP1 : va_P (dC, dI) clsL (nW ad1 cA1 NEW1) H1 := by rw [← ht]; exact hB.1
  have hK1 : va_K (dC, dI) clsL tys1 s := va_K.moved hvm.symm hB.2
  have hA1 : ∀ k, k < NEW1.length → s.heap.size ≤ ad1 k := by
    intro k hk
    rcases Nat.lt_or_ge k 1 with z | z
    · rw [w1 k z]; exact hqA
    · exact Nat.le_trans hS.1 (w5 k z hk)
  have hD1 : va_D (fun q : Nat => s.heap.size ≤ q) (nW ad1 cA1 NEW1) := nW_D w2 hA1
  refine lv_astore_n (lv' := [(1, .ref q), (0, .ref b)]) hx hb (tbl tkL_0 3 rfl) rfl hl (by decide) rfl (fun ls hl => ?_)
  refine va_new (R := room_1) (ci := 10) (fs := nDf 10) (C := "FourCarsModel") (T := TF_M) (N := 39) hx hb htg inF_M tyF_M tokF_M hown (htg _ (gt5 79 rfl rfl)) (htg _ (gt5 80 rfl rfl)) (htg _ (gt1 12 rfl rfl)) hK1 hP1 hD1 hS1 hA rfl (by decide +kernel) cb_3 cb_4 (tbl tkL_0 4 rfl) (fun q2 H2 hP2 hD2 hS2 => ?_)
  refine lv_dup hx hb (tbl tkL_0 5 rfl) rfl ?_
  have e2 : nE (adx ad1 NEW1.length q2) (adx cA1 NEW1.length (cA1 NEW1.length)) NEW1.length (.inr (.inr (10, nDf 10))) = .inr (10, nDf 10) := rfl
  have hPb : va_P (dC, dI) clsL (nW (adx ad1 NEW1.length q2) (adx cA1 NEW1.length (cA1 NEW1.length)) M0b) H2 := by unfold M0b; rw [nW_push w4, e2]; exact hP2
  obtain ⟨hq2A, hq2n⟩ := nW_fresh hD2
  have hT2 : nT (adx cA1 NEW1.length (cA1 NEW1.length)) tys1 M0b := nT_push w3 (fun _ h => h) trivial
  have hOK2 : nOK M0b := nOK_push w4 (fun v hv => by
    rcases nDf_ok 10 (by decide) v hv with rfl | rfl <;> exact ⟨rfl, fun t ht => by cases ht⟩)
  have hln : M0b.length = 140 := M0b_len
  have had2 : adx ad1 NEW1.length q2 139 = q2 := by rw [← nl3]; exact adx_at
  have hinj2 : ∀ i j, i < M0b.length → j < M0b.length → adx ad1 NEW1.length q2 i = adx ad1 NEW1.length q2 j → i = j := fun i j hi hj hij => adx_inj w2 hq2n i j (by rw [nl3]; rw [hln] at hi; exact hi) (by rw [nl3]; rw [hln] at hj; exact hj) hij
  have hM2 := xr_met l 5 11 [.ref 139] M0b (NEW1 ++ NEW2) ⟨"FourCarsModel", "<init>", "()V"⟩ prog_13_method_1_code 1 xr_2 rfl (dC, dI) tys1 (adx ad1 NEW1.length q2) (adx cA1 NEW1.length (cA1 NEW1.length)) H2.size (fun v hv => by
    rcases List.mem_singleton.mp hv with rfl
    exact ⟨rfl, fun t ht => by cases ht; rw [hln]; decide⟩)
  have hG2 : GoodIn (gX ++ lw_tbl) (wY ⟨"FourCarsModel", "<init>", "()V"⟩ prog_13_method_1_code 1 none) := fun w hw => by
    have h1 := wY_in (y := ⟨"FourCarsModel", "<init>", "()V"⟩) (gt5 83 rfl rfl) w hw
    exact ⟨(List.mem_append.mp h1).elim (fun z => List.mem_append_left _ z) (fun z => List.mem_append_right _ (List.mem_filter.mp z).1), gT_good h1⟩
  have hmv : ([Value.ref 139] : List Value).map (mV (adx ad1 NEW1.length q2)) = [.ref q2] := by simp [mV, had2]
  have run2 := va_runI (p := p) (l := l) (e := e) (R := room_1) (s := s) (m := m) (args := #[Value.ref b]) (below := below) (meth := meth) (c := c) (H := H2) (locs := locs1) (cells := 0 + 1 + (NEW1.length - M0a.length) + 1) (slots := 0 + 13 + (nSlots NEW1 - nSlots M0a) + 39) (g := F0 m 12 ls (([] : List Value).reverse ++ .ref q2 :: [.ref q2])) (As := []) (rest := [.ref q2]) (b := q2) ⟨hx, hb, hml, hown, hts⟩ hM2
    (cwI 0 hts hG2 rfl rfl rfl (htg _ (gt1 12 rfl rfl)) (htg _ (gt5 81 rfl rfl)) (htg _ (gt5 82 rfl rfl)) rfl (by decide +kernel) ⟨Nat.le_of_ble_eq_true rfl, Nat.le_of_ble_eq_true rfl⟩)
    ⟨nPre_blind, fun U hU hW => ⟨by rw [hmv], by rw [hU], by rw [hU]; exact hPb, va_K.moved hW.alike hK1, hinj2, hT2, hOK2, fun w hw => va_Nw.warmM hW (hxt.1 w hw), va_AO.moved hW.alike hxt.2⟩⟩ rfl rfl hl.1 rfl (lv_room (Nat.le_of_ble_eq_true rfl)) (tbl tkL_0 6 rfl) ⟨cb_5, cb_6⟩
  have hAA2 : ∀ z, nA (adx ad1 NEW1.length q2) M0b.length H2.size z → s.heap.size ≤ z := by
    intro z hz
    rcases hz with ⟨k, hk, rfl⟩ | hz
    · exact adx_al (P := fun z => s.heap.size ≤ z) hA1 hq2A k (by rw [nl3]; rw [hln] at hk; exact hk)
    · exact Nat.le_trans hS2.1 hz
  refine va_callv (a := (Value.ref q2 :: []).toArray) run2 hS2 (fun z _ h => hAA2 z h) hAA2 (fun u t2 H3 locs3 ht2 hvm2 hw2 hB2 hz2 hk2 hS3 => ?_)
  obtain ⟨v1, v2, v3, v4, v5⟩ := hw2
  obtain ⟨ad2, cA2, tys2⟩ := u
  dsimp only at v1 v2 v3 v4 v5 hB2
  rw [hln] at v1 v5
  have hA2 : ∀ k, k < 156 → s.heap.size ≤ ad2 k := by
    intro k hk
    rcases Nat.lt_or_ge k 140 with z | z
    · rw [v1 k z]
      exact hAA2 _ (Or.inl ⟨k, by rw [hln]; exact z, rfl⟩)
    · exact Nat.le_trans hS2.1 (v5 k z (by rw [nl1]; exact hk))
  refine lv_astore_n (lv' := [(2, .ref q2), (1, .ref q), (0, .ref b)]) hx hb (tbl tkL_0 7 rfl) rfl hl (by decide) rfl (fun ls hl => ?_)
  refine lv_iconst (v := 0) hx hb (tbl tkL_0 8 rfl) (by decide) ?_
  refine lv_istore_n (lv' := [(3, .int 0), (2, .ref q2), (1, .ref q), (0, .ref b)]) hx hb (tbl tkL_0 9 rfl) rfl hl (by decide) rfl (fun ls hl => ?_)
  obtain ⟨ad, had, hadK⟩ : ∃ ad : Nat → Nat, (∀ k, k < 156 → ad k = ad2 k) ∧ ∀ i, ad (156 + i) = adK i := ⟨fun k => if k < 156 then ad2 k else adK (k - 156), fun k hk => if_pos hk, fun i => by
    dsimp only
    rw [if_neg (by omega), Nat.add_sub_cancel_left]⟩
  have hP3 : va_P (dC, dI) clsL (mW SH ad cA2 mC0) H3 := by
    rw [← NEW_W, nW_x v4 (fun k hk => had k (by rw [nl1] at hk; exact hk)), ← ht2]
    exact hB2.1
  have hK3 : va_K (dC, dI) clsL tys2 s := va_K.moved hvm2.symm hB2.2
  have hinj3 : ∀ i j, i < SH.length → j < SH.length → ad i = ad j → i = j := by
    intro i j hi hj hij
    rw [nl2] at hi hj
    rw [had i hi, had j hj] at hij
    exact v2 i j (by rw [nl1]; exact hi) (by rw [nl1]; exact hj) hij
  have hAd3 : ∀ k, k < SH.length → s.heap.size ≤ ad k := fun k hk => by
    rw [nl2] at hk
    rw [had k hk]; exact hA2 k hk
  have hStr : mStr ad adV (fun q => s.heap.size ≤ q) s s.heap := by
    have e1 : (fun i => ad (156 + i)) = adK := funext hadK
    refine ⟨by rw [e1]; exact hvk, fun i q hq => ?_, va_Zof (hts0 _ (List.mem_append_right _ (List.mem_append_right _ (List.mem_append_left _ (List.mem_of_getElem? (l := tables_1_2) (i := 219) rfl))))) (hts0 _ (List.mem_append_right _ (List.mem_append_left _ (List.mem_of_getElem? (l := tables_1_1) (i := 13) rfl)))) (va_eqt (hfl _ st_cs)) hA0, va_Zqof (hts0 _ (List.mem_append_right _ (List.mem_append_right _ (List.mem_append_left _ (List.mem_of_getElem? (l := tables_1_2) (i := 235) rfl))))) (hts0 _ (List.mem_append_right _ (List.mem_append_left _ (List.mem_of_getElem? (l := tables_1_1) (i := 15) rfl)))) (hfl _ st_si) hA0, va_Nw.of rfl (hts0 _ (List.mem_append_right _ (List.mem_append_right _ (List.mem_append_right _ (List.mem_append_right _ (List.mem_append_right _ (List.mem_append_left _ (List.mem_of_getElem? (l := tables_1_5) (i := 16) rfl))))))))⟩
    have hi : i < 19 := (List.getElem?_eq_some_iff.mp hq).1
    have h1 := hev i hi
    have h2 : tmS i = .string q.1 q.2.1 := by simp only [tmS, hq]
    rw [h2] at h1
    rw [hadK]
    exact vk_R.of (hts0 _ (st_sr q (List.mem_of_getElem? hq))) h1
  have hq0 : ad 0 = q := by rw [had 0 (by decide), v1 0 (by decide), adx_lt (by rw [nl3]; decide)]; exact hq1
  have hq139 : ad 139 = q2 := by rw [had 139 (by decide), v1 139 (by decide)]; exact had2
  have hl' : lv_has ls 4 [(0, .ref b), (1, .ref (ad 0)), (2, .ref (ad 139)), (3, .int (nI 0))] := by
    rw [hq0, hq139]
    exact lv_sub hl [3, 2, 1, 0] rfl
  exact law_loop (Inv := Inv) hL C0 hops hts hK3 hinj3 hAd3 (NEW_T v3) hStr cb_5 cb_6 (L + 1) 0 (by decide) (by omega) mC0 H3 locs3 ls h0 hP3 hS3 hl'
