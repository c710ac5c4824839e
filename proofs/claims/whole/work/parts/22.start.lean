/-! WHAT HOLDS AT THE START: classes, constants -/
theorem st_K {s : State} {args : Array Value} (hWS : ∀ w ∈ WS, w.before args s = true) (hts : ∀ w ∈ lw_tbl, w.before args s = true) : ∃ (D : va_G) (cy : Nat → ClassId), va_K D vwCl (tyl cy) s := by
  obtain ⟨c0, i0, k0⟩ := u_known hWS in_X0 (hWS _ tw_334)
  obtain ⟨c1, i1, k1⟩ := u_known hWS in_X1 (hWS _ tw_191)
  obtain ⟨c2, i2, k2⟩ := u_known hWS in_X2 (hWS _ tw_28)
  obtain ⟨c3, i3, k3⟩ := u_known hWS in_X3 (hWS _ tw_139)
  obtain ⟨c4, i4, k4⟩ := u_known hWS in_X4 (hWS _ tw_543)
  obtain ⟨c5, i5, k5⟩ := u_known hWS in_X5 (hWS _ tw_58)
  obtain ⟨c6, i6, k6⟩ := u_known hWS in_X6 (hWS _ tw_96)
  obtain ⟨c7, i7, k7⟩ := u_known hWS in_X7 (hWS _ tw_112)
  obtain ⟨c8, i8, k8⟩ := u_known hWS in_X8 (hWS _ tw_255)
  obtain ⟨c9, i9, k9⟩ := u_known hWS in_X9 (hWS _ tw_80)
  obtain ⟨c10, i10, k10⟩ := u_known hWS in_X10 (hWS _ tw_20)
  obtain ⟨c11, i11, k11⟩ := u_known hWS in_X11 (hWS _ tw_887)
  obtain ⟨a0, ka0, co0, p0, q0, r0⟩ := Cond.arrayClass_spec (hWS _ tw_56)
  obtain ⟨a1, ka1, co1, p1, q1, r1⟩ := Cond.arrayClass_spec (hWS _ tw_94)
  obtain ⟨a2, ka2, co2, p2, q2, r2⟩ := Cond.arrayClass_spec (hWS _ tw_1058)
  obtain ⟨co3, a3, ka3, o3, -, q3, r3, p3⟩ := Cond.arrayOver_spec (hts (Cond.arrayOver (.object "StoneWorks$Gang")) (List.mem_of_getElem? (i := 208) (by decide +kernel)))
  obtain ⟨co4, a4, ka4, o4, -, q4, r4, p4⟩ := Cond.arrayOver_spec (hts (Cond.arrayOver (.object "StoneWorks$Stone")) (List.mem_of_getElem? (i := 210) (by decide +kernel)))
  obtain ⟨co5, a5, ka5, o5, -, q5, r5, p5⟩ := arrayOverA_spec (hts (Cond.arrayOver (.array .int)) (List.mem_of_getElem? (i := 261) (by decide +kernel)))
  refine ⟨(fun n => [c0, c1, c2, c3, c4, c5, c6, c7, c8, c9, c10, c11].getD n c0, fun n => [i0, i1, i2, i3, i4, i5, i6, i7, i8, i9, i10, i11].getD n i0), fun n => [a0, a1, a2, a3, a4, a5].getD n a0, ?_, ?_⟩
  · intro n q h
    match n, h with
    | 0, h => cases h; exact k0
    | 1, h => cases h; exact k1
    | 2, h => cases h; exact k2
    | 3, h => cases h; exact k3
    | 4, h => cases h; exact k4
    | 5, h => cases h; exact k5
    | 6, h => cases h; exact k6
    | 7, h => cases h; exact k7
    | 8, h => cases h; exact k8
    | 9, h => cases h; exact k9
    | 10, h => cases h; exact k10
    | 11, h => cases h; exact k11
    | n + 12, h => exact absurd h (by intro h2; cases h2)
  · intro n q h
    match n, h with
    | 0, h => cases h; exact ⟨fun N z => ⟨(fun k h => by cases h), ka0, q0, co0, r0⟩, p0⟩
    | 1, h => cases h; exact ⟨fun N z => ⟨(fun k h => by cases h), ka1, q1, co1, r1⟩, p1⟩
    | 2, h => cases h; exact ⟨fun N z => ⟨(fun k h => by cases h), ka2, q2, co2, r2⟩, p2⟩
    | 3, h => cases h; exact ⟨fun N z => ⟨(fun k h => by cases h), ka3, q3, co3, r3⟩, ⟨ka3, co3, q3, r3, o3, p3⟩⟩
    | 4, h => cases h; exact ⟨fun N z => ⟨(fun k h => by cases h), ka4, q4, co4, r4⟩, ⟨ka4, co4, q4, r4, o4, p4⟩⟩
    | 5, h => cases h; exact ⟨fun N z => ⟨(fun k h => by cases h), ka5, q5, co5, r5⟩, p5⟩
    | n + 6, h => exact absurd h (by intro h2; cases h2)
theorem st_NW {s : State} {args : Array Value} (hts : ∀ w ∈ lw_tbl, w.before args s = true) : NW s := by
  intro w hw hn
  refine va_Nw.of ?_ (hts w hw)
  cases w <;> first | rfl | (simp [nestW] at hn; done)
theorem st_AO {s : State} {args : Array Value} (hts : ∀ w ∈ lw_tbl, w.before args s = true) : AO s :=
  ⟨va_AO.of (hts _ (List.mem_of_getElem? (i := 208) (by decide +kernel))), va_AO.of (hts _ (List.mem_of_getElem? (i := 210) (by decide +kernel))), (hts (Cond.arrayOver (.array .int)) (List.mem_of_getElem? (i := 261) (by decide +kernel)) : _)⟩
def tmS (i : Nat) : Term := if i = 7 then Term.string "StoneWorksModel" 164 else Term.string "StoneWorks$TableReader" (85 + 2 * i)
theorem vk_S_cong {N : Nat} {len : List Nat} {byt : List (List Int32)} {adK adV aK aV : Nat → Nat} {A : Nat → Prop} {U : State} {H : Heap} (h : vk_S N len byt adK adV A U H) (h1 : ∀ i, i < N → aK i = adK i) (h2 : ∀ i, i < N → aV i = adV i) : vk_S N len byt aK aV A U H := by
  refine ⟨fun i hi => ?_, fun i j hi hj e => ?_⟩
  · rw [h1 i hi, h2 i hi]
    exact h.1 i hi
  · rw [h1 i hi, h1 j hj] at e
    exact h.2 i j hi hj e
set_option maxRecDepth 100000 in
theorem st_W {s : State} {args : Array Value} {A : Nat → Prop} (hts : ∀ w ∈ lw_tbl, w.before args s = true) (hgv : (Jvm.Cond.and given_1 narrow_1).before args s = true) (hA : ∀ a : Nat, a < s.heap.size → ¬ A a) : ∃ t : Nat, va_Z "StoneWorks$Table" "WITHOUT" "[I" (.ref t) A s s.heap ∧ va_T .int t kWithout.length (fun j => iv (kWithout.getD j 0)) A s s.heap := by
  have hs := flat_of_before _ hgv
  obtain ⟨t, h1, h2⟩ := va_Tof (tm := .static "StoneWorks$Table" "WITHOUT" "[I") (ty := .int) (N := kWithout.length) (f := fun j => iv (kWithout.getD j 0)) (A := A) (by decide) (hs _ (by decide +kernel)) (va_eqt (hs _ (by decide +kernel))) (fun j hj => va_eqt (hs _ (by revert j; decide +kernel))) hA
  exact ⟨t, va_Zref (hts _ (List.mem_of_getElem? (i := 165) (by decide +kernel))) (hts _ (List.mem_of_getElem? (i := 68) (by decide +kernel))) h1 hA, h2⟩
set_option maxRecDepth 100000 in
theorem st_F {s : State} {args : Array Value} {A : Nat → Prop} (hts : ∀ w ∈ lw_tbl, w.before args s = true) (hgv : (Jvm.Cond.and given_1 narrow_1).before args s = true) (hA : ∀ a : Nat, a < s.heap.size → ¬ A a) : ∃ t : Nat, va_Z "StoneWorks$TableReader" "NUMBERS_FROM" "[I" (.ref t) A s s.heap ∧ va_T .int t kFrom.length (fun j => iv (kFrom.getD j 0)) A s s.heap := by
  have hs := flat_of_before _ hgv
  obtain ⟨t, h1, h2⟩ := va_Tof (tm := .static "StoneWorks$TableReader" "NUMBERS_FROM" "[I") (ty := .int) (N := kFrom.length) (f := fun j => iv (kFrom.getD j 0)) (A := A) (by decide) (hs _ (by decide +kernel)) (va_eqt (hs _ (by decide +kernel))) (fun j hj => va_eqt (hs _ (by revert j; decide +kernel))) hA
  exact ⟨t, va_Zref (hts _ (List.mem_of_getElem? (i := 586) (by decide +kernel))) (hts _ (List.mem_of_getElem? (i := 69) (by decide +kernel))) h1 hA, h2⟩
set_option maxRecDepth 100000 in
theorem st_G {s : State} {args : Array Value} {A : Nat → Prop} (hts : ∀ w ∈ lw_tbl, w.before args s = true) (hgv : (Jvm.Cond.and given_1 narrow_1).before args s = true) (hA : ∀ a : Nat, a < s.heap.size → ¬ A a) : ∃ t : Nat, va_Z "StoneWorks$TableReader" "GREATEST" "[I" (.ref t) A s s.heap ∧ va_T .int t kGreatest.length (fun j => iv (kGreatest.getD j 0)) A s s.heap := by
  have hs := flat_of_before _ hgv
  obtain ⟨t, h1, h2⟩ := va_Tof (tm := .static "StoneWorks$TableReader" "GREATEST" "[I") (ty := .int) (N := kGreatest.length) (f := fun j => iv (kGreatest.getD j 0)) (A := A) (by decide) (hs _ (by decide +kernel)) (va_eqt (hs _ (by decide +kernel))) (fun j hj => va_eqt (hs _ (by revert j; decide +kernel))) hA
  exact ⟨t, va_Zref (hts _ (List.mem_of_getElem? (i := 596) (by decide +kernel))) (hts _ (List.mem_of_getElem? (i := 69) (by decide +kernel))) h1 hA, h2⟩
set_option maxRecDepth 100000 in
theorem st_S {s : State} {args : Array Value} {A : Nat → Prop} (hts : ∀ w ∈ lw_tbl, w.before args s = true) (hgv : (Jvm.Cond.and given_1 narrow_1).before args s = true) (hA : ∀ a : Nat, a < s.heap.size → ¬ A a) : ∃ adK adV : Nat → Nat, vk_S 8 strLen strByt adK adV A s s.heap ∧ ∀ q ∈ strR, vk_R q.1 q.2.1 q.2.2.1 (adK q.2.2.2) s := by
  have hs := flat_of_before _ hgv
  obtain ⟨adK, adV, h1, h2⟩ := vk_Sof (args := args) (s := s) (N := 8) (tm := tmS) (len := strLen) (byt := strByt) (A := A) (by decide) (fun i hi => hs _ (by revert i; decide +kernel)) (fun i hi => hs _ (by revert i; decide +kernel)) (fun i hi => hs _ (by revert i; decide +kernel)) (fun i hi => hs _ (by revert i; decide +kernel)) (fun i hi j hj => hs _ (by revert i j; decide +kernel)) (fun i j hi hj hij => by
    have hd : ∀ i, i < 8 → ∀ j, j < 8 → i < j → (Cond.not (Cond.eq (tmS i) (tmS j))) ∈ flatC (given_1.and narrow_1) := by decide +kernel
    rcases Nat.lt_or_gt_of_ne hij with h | h
    · exact Or.inl (hs _ (hd i hi j hj h))
    · exact Or.inr (hs _ (hd j hj i hi h))) hA
  refine ⟨adK, adV, h1, ?_⟩
  unfold strR
  refine List.forall_mem_cons.mpr ⟨vk_R.of (hts _ (List.mem_of_getElem? (i := 522) (by decide +kernel))) (h2 0 (by decide)), ?_⟩
  refine List.forall_mem_cons.mpr ⟨vk_R.of (hts _ (List.mem_of_getElem? (i := 523) (by decide +kernel))) (h2 1 (by decide)), ?_⟩
  refine List.forall_mem_cons.mpr ⟨vk_R.of (hts _ (List.mem_of_getElem? (i := 524) (by decide +kernel))) (h2 2 (by decide)), ?_⟩
  refine List.forall_mem_cons.mpr ⟨vk_R.of (hts _ (List.mem_of_getElem? (i := 525) (by decide +kernel))) (h2 3 (by decide)), ?_⟩
  refine List.forall_mem_cons.mpr ⟨vk_R.of (hts _ (List.mem_of_getElem? (i := 526) (by decide +kernel))) (h2 4 (by decide)), ?_⟩
  refine List.forall_mem_cons.mpr ⟨vk_R.of (hts _ (List.mem_of_getElem? (i := 527) (by decide +kernel))) (h2 5 (by decide)), ?_⟩
  refine List.forall_mem_cons.mpr ⟨vk_R.of (hts _ (List.mem_of_getElem? (i := 528) (by decide +kernel))) (h2 6 (by decide)), ?_⟩
  refine List.forall_mem_cons.mpr ⟨vk_R.of (hts _ (List.mem_of_getElem? (i := 1165) (by decide +kernel))) (va_eqR (hs (.eq (.string "StoneWorks$TableReader" 85) (.string "StoneWorksModel" 150)) (by decide +kernel)) (h2 0 (by decide))), ?_⟩
  refine List.forall_mem_cons.mpr ⟨vk_R.of (hts _ (List.mem_of_getElem? (i := 1166) (by decide +kernel))) (va_eqR (hs (.eq (.string "StoneWorks$TableReader" 87) (.string "StoneWorksModel" 152)) (by decide +kernel)) (h2 1 (by decide))), ?_⟩
  refine List.forall_mem_cons.mpr ⟨vk_R.of (hts _ (List.mem_of_getElem? (i := 1167) (by decide +kernel))) (va_eqR (hs (.eq (.string "StoneWorks$TableReader" 89) (.string "StoneWorksModel" 154)) (by decide +kernel)) (h2 2 (by decide))), ?_⟩
  refine List.forall_mem_cons.mpr ⟨vk_R.of (hts _ (List.mem_of_getElem? (i := 1168) (by decide +kernel))) (va_eqR (hs (.eq (.string "StoneWorks$TableReader" 91) (.string "StoneWorksModel" 156)) (by decide +kernel)) (h2 3 (by decide))), ?_⟩
  refine List.forall_mem_cons.mpr ⟨vk_R.of (hts _ (List.mem_of_getElem? (i := 1169) (by decide +kernel))) (va_eqR (hs (.eq (.string "StoneWorks$TableReader" 93) (.string "StoneWorksModel" 158)) (by decide +kernel)) (h2 4 (by decide))), ?_⟩
  refine List.forall_mem_cons.mpr ⟨vk_R.of (hts _ (List.mem_of_getElem? (i := 1170) (by decide +kernel))) (va_eqR (hs (.eq (.string "StoneWorks$TableReader" 95) (.string "StoneWorksModel" 160)) (by decide +kernel)) (h2 5 (by decide))), ?_⟩
  refine List.forall_mem_cons.mpr ⟨vk_R.of (hts _ (List.mem_of_getElem? (i := 1171) (by decide +kernel))) (va_eqR (hs (.eq (.string "StoneWorks$TableReader" 97) (.string "StoneWorksModel" 162)) (by decide +kernel)) (h2 6 (by decide))), ?_⟩
  refine List.forall_mem_cons.mpr ⟨vk_R.of (hts _ (List.mem_of_getElem? (i := 1172) (by decide +kernel))) (h2 7 (by decide)), ?_⟩
  exact fun q h => absurd h List.not_mem_nil
theorem st_CF {s : State} {args : Array Value} {A : Nat → Prop} (b : Nat) (hts : ∀ w ∈ lw_tbl, w.before args s = true) (hgv : (Jvm.Cond.and given_1 narrow_1).before args s = true) (hA : ∀ a : Nat, a < s.heap.size → ¬ A a) : ∃ ad : Nat → Nat, ad 1040 = b ∧ CF ad A s := by
  obtain ⟨adK, adV, hS, hR⟩ := st_S hts hgv hA
  obtain ⟨tw, hw⟩ := st_W hts hgv hA
  obtain ⟨tf, hf⟩ := st_F hts hgv hA
  obtain ⟨tg, hg⟩ := st_G hts hgv hA
  have hs := flat_of_before _ hgv
  have hc : va_Z "java/lang/String" "COMPACT_STRINGS" "Z" (.int 1) A s s.heap := va_Zof (hts _ (List.mem_of_getElem? (i := 542) (by decide +kernel))) (hts _ (List.mem_of_getElem? (i := 76) (by decide +kernel))) (va_eqi (hs _ (by decide +kernel))) hA
  have hq : va_Zq "jdk/internal/util/Preconditions" "SIOOBE_FORMATTER" "Ljava/util/function/BiFunction;" A s s.heap := va_Zqof (hts _ (List.mem_of_getElem? (i := 558) (by decide +kernel))) (hts _ (List.mem_of_getElem? (i := 78) (by decide +kernel))) (hs _ (by decide +kernel)) hA
  obtain ⟨tq, hq⟩ : ∃ tq, va_Z "jdk/internal/util/Preconditions" "SIOOBE_FORMATTER" "Ljava/util/function/BiFunction;" .null A s s.heap ∨ va_Z "jdk/internal/util/Preconditions" "SIOOBE_FORMATTER" "Ljava/util/function/BiFunction;" (.ref tq) A s s.heap := by
    rcases hq with h | ⟨t, h⟩
    · exact ⟨0, Or.inl h⟩
    · exact ⟨t, Or.inr h⟩
  refine ⟨fun a => if a < 1010 then adK (a - 1000) else if a = 1010 then tw else if a = 1011 then tf else if a = 1012 then tg else if a < 1030 then adV (a - 1020) else if a = 1030 then tq else b, rfl, ?_, ?_, hw, hf, hg, hc, hq⟩
  · refine vk_S_cong hS (fun i hi => ?_) (fun i hi => ?_)
    · show (if 1000 + i < 1010 then _ else _) = _
      rw [if_pos (by omega), show 1000 + i - 1000 = i by omega]
    · show (if 1020 + i < 1010 then _ else if 1020 + i = 1010 then _ else if 1020 + i = 1011 then _ else if 1020 + i = 1012 then _ else if 1020 + i < 1030 then _ else _) = _
      rw [if_neg (by omega), if_neg (by omega), if_neg (by omega), if_neg (by omega), if_pos (by omega), show 1020 + i - 1020 = i by omega]
  · intro q hq
    have hlt : ∀ q ∈ strR, q.2.2.2 < 8 := by decide +kernel
    have h8 := hlt q hq
    show vk_R _ _ _ (if 1000 + q.2.2.2 < 1010 then _ else _) s
    rw [if_pos (by omega), show 1000 + q.2.2.2 - 1000 = q.2.2.2 by omega]
    exact hR q hq
