/-! TABLE: to its end -/
section TBL
variable {T : Nat} {b : Nat → Int}
theorem numF_b {s M : Nat} (hs : s ≤ 200) : 1 ≤ numF s M ∧ numF s M ≤ 900 := by
  unfold numF
  split <;> omega
set_option maxHeartbeats 4000000 in
theorem clause_1 (hT : T ≤ 200) (hb : ∀ i, i < T → -128 ≤ b i ∧ b i < 128) {μ ν : Mem} {i p : Nat} (hi9 : i < 100) (h : TI T b i p μ ν) : Out1 T b i μ ν := by
  obtain ⟨⟨t1, t2⟩, ⟨p1, p2, p3⟩, ⟨f1, f2, f3⟩, hn, hz, hz2, hz3⟩ := h
  obtain ⟨s, hs⟩ := runT_ex (P := fun z => z = 32) (T := T) (b := b) (T - p) p (by omega)
  have hsT := hs.2.1
  obtain ⟨q, hq⟩ := runT_ex (P := isLet) (T := T) (b := b) (T - s) s (by omega)
  have hqT := hq.2.1
  have hsq := hq.1
  obtain ⟨c, hc⟩ := firstQ_ex (wordQ b s q)
  have hc7 := hc.1
  obtain ⟨w1, w2, w3⟩ := c_readWord hT hb t1 p1 hs hq hc hz
  have r0 := r_clause hT t2 p2 hs hq hc
  have tR : tbR T b (up (up (up ν 300 20 (s : Int)) 300 21 (s : Int)) 300 20 (q : Int)) := tbR_up (tbR_up (tbR_up t2 (Or.inr (by decide)) (by decide)) (Or.inr (by decide)) (by decide)) (Or.inr (by decide)) (by decide)
  have e22 : up (up (up ν 300 20 (s : Int)) 300 21 (s : Int)) 300 20 (q : Int) 300 22 = 0 := by simp (disch := omega) only [bd_some, lm_e, if_pos, if_neg, up_ne, up_at, upf_same, upf_ne, reduceIte, or_true, true_or, Int.reduceToNat, Int.toNat_natCast, tn100, tn200]; exact f2
  have e21 : up (up (up ν 300 20 (s : Int)) 300 21 (s : Int)) 300 20 (q : Int) 300 21 = (s : Int) := by simp (disch := omega) only [bd_some, lm_e, if_pos, if_neg, up_ne, up_at, upf_same, upf_ne, reduceIte, or_true, true_or, Int.reduceToNat, Int.toNat_natCast, tn100, tn200]
  have e20 : up (up (up ν 300 20 (s : Int)) 300 21 (s : Int)) 300 20 (q : Int) 300 20 = (q : Int) := by simp (disch := omega) only [bd_some, lm_e, if_pos, if_neg, up_ne, up_at, upf_same, upf_ne, reduceIte, or_true, true_or, Int.reduceToNat, Int.toNat_natCast, tn100, tn200]
  have e13 : up (up (up ν 300 20 (s : Int)) 300 21 (s : Int)) 300 20 (q : Int) 313 = ν 313 := by simp (disch := omega) only [bd_some, lm_e, if_pos, if_neg, up_ne, up_at, upf_same, upf_ne, reduceIte, or_true, true_or, Int.reduceToNat, Int.toNat_natCast, tn100, tn200]
  have e14 : up (up (up ν 300 20 (s : Int)) 300 21 (s : Int)) 300 20 (q : Int) 314 = ν 314 := by simp (disch := omega) only [bd_some, lm_e, if_pos, if_neg, up_ne, up_at, upf_same, upf_ne, reduceIte, or_true, true_or, Int.reduceToNat, Int.toNat_natCast, tn100, tn200]
  have eF : rF ν (up (up (up ν 300 20 (s : Int)) 300 21 (s : Int)) 300 20 (q : Int)) := ⟨fun a a1 a2 a3 => by simp (disch := omega) only [bd_some, lm_e, if_pos, if_neg, up_ne, up_at, upf_same, upf_ne, reduceIte, or_true, true_or, Int.reduceToNat, Int.toNat_natCast, tn100, tn200], fun j j1 j2 j3 => by simp (disch := omega) only [bd_some, lm_e, if_pos, if_neg, up_ne, up_at, upf_same, upf_ne, reduceIte, or_true, true_or, Int.reduceToNat, Int.toNat_natCast, tn100, tn200]⟩
  generalize up (up (up ν 300 20 (s : Int)) 300 21 (s : Int)) 300 20 (q : Int) = ν2 at r0 tR e22 e21 e20 e13 e14 eF
  by_cases c7 : c = 7
  · -- no word
    refine cl_bad (μ3 := up (up μ 5 4 (q : Int)) 5 5 (1 + 4 * (s : Int) + 0)) (ν3 := up ν2 300 22 (1 + 4 * (s : Int) + 0)) (F := 1 + 4 * (s : Int) + 0) hi9 f2 ?_ ?_ (fun a a1 a2 => by simp (disch := omega) only [bd_some, lm_e, if_pos, if_neg, up_ne, up_at, upf_same, upf_ne, reduceIte, or_true, true_or, Int.reduceToNat, Int.toNat_natCast, tn100, tn200]) (rF_tr eF ⟨fun a a1 a2 a3 => by simp (disch := omega) only [bd_some, lm_e, if_pos, if_neg, up_ne, up_at, upf_same, upf_ne, reduceIte, or_true, true_or, Int.reduceToNat, Int.toNat_natCast, tn100, tn200], fun j j1 j2 j3 => by simp (disch := omega) only [bd_some, lm_e, if_pos, if_neg, up_ne, up_at, upf_same, upf_ne, reduceIte, or_true, true_or, Int.reduceToNat, Int.toNat_natCast, tn100, tn200]⟩) (by omega) (by simp (disch := omega) only [bd_some, lm_e, if_pos, if_neg, up_ne, up_at, upf_same, upf_ne, reduceIte, or_true, true_or, Int.reduceToNat, Int.toNat_natCast, tn100, tn200]) (by simp (disch := omega) only [bd_some, lm_e, if_pos, if_neg, up_ne, up_at, upf_same, upf_ne, reduceIte, or_true, true_or, Int.reduceToNat, Int.toNat_natCast, tn100, tn200])
    · unfold f_X7_readClause
      rw [w1 c7, bd_some, if_pos rfl]
    · rw [r0, c7, show ((kap 7 : Nat) : Int) = 9 from rfl]
      unfold f_X11_clause_82 f_X11_fails
      rw [if_pos rfl, e22, e21, if_pos rfl, if_pos (by omega), lm_e, bd_some]
  have hk9 := kap_b (c := c) (by omega)
  have hk0 : ¬ (kap c : Int) = 9 := by omega
  by_cases ct : tldP (μ 5 3) c
  · -- told twice
    refine cl_bad (μ3 := up (up μ 5 4 (q : Int)) 5 5 (1 + 4 * (s : Int) + 2)) (ν3 := up ν2 300 22 (1 + 4 * (s : Int) + 2)) (F := 1 + 4 * (s : Int) + 2) hi9 f2 ?_ ?_ (fun a a1 a2 => by simp (disch := omega) only [bd_some, lm_e, if_pos, if_neg, up_ne, up_at, upf_same, upf_ne, reduceIte, or_true, true_or, Int.reduceToNat, Int.toNat_natCast, tn100, tn200]) (rF_tr eF ⟨fun a a1 a2 a3 => by simp (disch := omega) only [bd_some, lm_e, if_pos, if_neg, up_ne, up_at, upf_same, upf_ne, reduceIte, or_true, true_or, Int.reduceToNat, Int.toNat_natCast, tn100, tn200], fun j j1 j2 j3 => by simp (disch := omega) only [bd_some, lm_e, if_pos, if_neg, up_ne, up_at, upf_same, upf_ne, reduceIte, or_true, true_or, Int.reduceToNat, Int.toNat_natCast, tn100, tn200]⟩) (by omega) (by simp (disch := omega) only [bd_some, lm_e, if_pos, if_neg, up_ne, up_at, upf_same, upf_ne, reduceIte, or_true, true_or, Int.reduceToNat, Int.toNat_natCast, tn100, tn200]) (by simp (disch := omega) only [bd_some, lm_e, if_pos, if_neg, up_ne, up_at, upf_same, upf_ne, reduceIte, or_true, true_or, Int.reduceToNat, Int.toNat_natCast, tn100, tn200])
    · unfold f_X7_readClause
      rw [w2 (by omega) ct, bd_some, if_pos rfl]
    · rw [r0]
      unfold f_X11_clause_82 f_X11_fails
      rw [if_neg hk0, if_pos (by omega), Int.toNat_natCast, e14, if_neg ((hz2 c (by omega)).mp ct), e22, e21, if_pos rfl, if_pos (by omega), lm_e, bd_some]
  -- a word that is new
  have ht0 : ν 314 (kap c) = 0 := by
    by_cases e : ν 314 (kap c) = 0
    · exact e
    · exact absurd ((hz2 c (by omega)).mpr e) ct
  obtain ⟨zs1, zs2, zs3⟩ := zset (a := μ 5 3) (k := c) hz.1 hz.2 (by omega)
  generalize zor (μ 5 3) (zshl 1 (c : Int)) = Z at w3 zs1 zs2 zs3
  have hZ : ∀ j, tldP Z j ↔ tldP (μ 5 3) j ∨ j = c := by
    intro j
    unfold tldP
    rw [zs3 j, Bool.or_eq_true, decide_eq_true_eq]
    exact or_congr Iff.rfl eq_comm
  have hZc : countTo (tldP Z) 7 = (i : Int) + 1 := by
    rw [countTo_ins ct 7 (fun j _ => hZ j), hz3, b2i_t (by omega)]
  obtain ⟨m1, m2⟩ := most_e (ν := up ν2 314 (kap c) 1) c (by omega)
  have hgr := gr_b (kap c) hk9
  obtain ⟨s1, hs1⟩ := runT_ex (P := fun z => z = 32) (T := T) (b := b) (T - q) q (by omega)
  have hs1T := hs1.2.1
  obtain ⟨q1, hq1⟩ := runT_ex (P := isDig) (T := T) (b := b) (T - s1) s1 (by omega)
  have hq1T := hq1.2.1
  obtain ⟨M1, hM1⟩ : ∃ M, q1 = s1 + M := ⟨q1 - s1, by have := hq1.1; omega⟩
  subst hM1
  have tC2 : tbC T b (up (up μ 5 4 (q : Int)) 5 3 Z) := tbC_up (tbC_up t1 (by decide) (by decide)) (by decide) (by decide)
  have n1 := c_num (k := kap c) hT hb tC2 (p := q) (by simp (disch := omega) only [bd_some, lm_e, if_pos, if_neg, up_ne, up_at, upf_same, upf_ne, reduceIte, or_true, true_or, Int.reduceToNat, Int.toNat_natCast, tn100, tn200]) hs1 hq1 hk9
  have tR2 : tbR T b (up ν2 314 (kap c) 1) := tbR_up tR (Or.inl (by decide)) (by decide)
  have n2 := r_num (top := gr (kap c)) hT tR2 (p := q) (by simp (disch := omega) only [bd_some, lm_e, if_pos, if_neg, up_ne, up_at, upf_same, upf_ne, reduceIte, or_true, true_or, Int.reduceToNat, Int.toNat_natCast, tn100, tn200]; exact e20) (by simp (disch := omega) only [bd_some, lm_e, if_pos, if_neg, up_ne, up_at, upf_same, upf_ne, reduceIte, or_true, true_or, Int.reduceToNat, Int.toNat_natCast, tn100, tn200]; exact e22) ⟨hgr.1, hgr.2.1⟩ hs1 hq1
  have rc : f_X7_readClause μ = f_X7_readClause_18 64 (c : Int) (kap c : Int) (up (up μ 5 4 (q : Int)) 5 3 Z) := by
    unfold f_X7_readClause
    rw [w3 (by omega) ct, bd_some, if_neg (by omega), if_pos (by omega), (kFrom_e c (by omega)).1]
  have z11 : zand 1 1 = 1 := by decide +kernel
  have hlt : ∀ v : Int, v = (kap c : Int) ∨ (c ≤ 1 ∧ v = (kap c : Int) + 1) → ¬ kFrom.getD ((c : Int) + 1).toNat 0 ≤ v := by
    intro v hv
    rw [(kFrom_e c (by omega)).2]
    split <;> omega
  by_cases o1 : numOK b s1 M1 (gr (kap c))
  case neg =>
    rw [if_neg o1] at n1 n2
    have hF := numF_b (s := s1) (M := M1) (by omega)
    have e1 : f_X7_readClause μ = some (0, up (up (up (up μ 5 4 (q : Int)) 5 3 Z) 5 4 ((s1 + M1 : Nat) : Int)) 5 5 (numF s1 M1)) := by
      rw [rc, f_X7_readClause_18_e, if_pos (by omega), if_neg (hlt _ (Or.inl rfl)), n1, bd_some, if_pos rfl]
    by_cases c1 : c ≤ 1
    · refine cl_bad (ν3 := up (up (up (up (up (up (up ν2 314 (kap c) 1) 300 20 (s1 : Int)) 300 21 (s1 : Int)) 300 20 ((s1 + M1 : Nat) : Int)) 300 22 (numF s1 M1)) 313 (kap c) (rvN b s1 M1)) 313 (kap c + 1) 0) (F := numF s1 M1) hi9 f2 e1 ?_ (fun a a1 a2 => by simp (disch := omega) only [bd_some, lm_e, if_pos, if_neg, up_ne, up_at, upf_same, upf_ne, reduceIte, or_true, true_or, Int.reduceToNat, Int.toNat_natCast, tn100, tn200]) (rF_tr eF ⟨fun a a1 a2 a3 => by simp (disch := omega) only [bd_some, lm_e, if_pos, if_neg, up_ne, up_at, upf_same, upf_ne, reduceIte, or_true, true_or, Int.reduceToNat, Int.toNat_natCast, tn100, tn200], fun j j1 j2 j3 => by simp (disch := omega) only [bd_some, lm_e, if_pos, if_neg, up_ne, up_at, upf_same, upf_ne, reduceIte, or_true, true_or, Int.reduceToNat, Int.toNat_natCast, tn100, tn200]⟩) hF (by simp (disch := omega) only [bd_some, lm_e, if_pos, if_neg, up_ne, up_at, upf_same, upf_ne, reduceIte, or_true, true_or, Int.reduceToNat, Int.toNat_natCast, tn100, tn200]) (by simp (disch := omega) only [bd_some, lm_e, if_pos, if_neg, up_ne, up_at, upf_same, upf_ne, reduceIte, or_true, true_or, Int.reduceToNat, Int.toNat_natCast, tn100, tn200])
      rw [r0]
      unfold f_X11_clause_82
      have hk3 : kap c ≤ 2 := by unfold kap; rw [if_pos c1]; omega
      have m3 := (most_e (ν := up (up (up (up (up (up ν2 314 (kap c) 1) 300 20 (s1 : Int)) 300 21 (s1 : Int)) 300 20 ((s1 + M1 : Nat) : Int)) 300 22 (numF s1 M1)) 313 (kap c) (rvN b s1 M1)) c (by omega)).1
      rw [if_neg hk0, if_pos (by omega), Int.toNat_natCast, e14, if_pos ht0, z11, lm_e, m1, bd_some, n2, bd_some, lm_e, if_neg (by omega), m3, bd_some]
      unfold f_X11_number
      rw [if_neg (by simp (disch := omega) only [bd_some, lm_e, if_pos, if_neg, up_ne, up_at, upf_same, upf_ne, reduceIte, or_true, true_or, Int.reduceToNat, Int.toNat_natCast, tn100, tn200]; omega), bd_some, if_pos (by omega), lm_e, show ((kap c : Int) + 1).toNat = kap c + 1 by omega]
    · refine cl_bad (ν3 := up (up (up (up (up (up ν2 314 (kap c) 1) 300 20 (s1 : Int)) 300 21 (s1 : Int)) 300 20 ((s1 + M1 : Nat) : Int)) 300 22 (numF s1 M1)) 313 (kap c) (rvN b s1 M1)) (F := numF s1 M1) hi9 f2 e1 ?_ (fun a a1 a2 => by simp (disch := omega) only [bd_some, lm_e, if_pos, if_neg, up_ne, up_at, upf_same, upf_ne, reduceIte, or_true, true_or, Int.reduceToNat, Int.toNat_natCast, tn100, tn200]) (rF_tr eF ⟨fun a a1 a2 a3 => by simp (disch := omega) only [bd_some, lm_e, if_pos, if_neg, up_ne, up_at, upf_same, upf_ne, reduceIte, or_true, true_or, Int.reduceToNat, Int.toNat_natCast, tn100, tn200], fun j j1 j2 j3 => by simp (disch := omega) only [bd_some, lm_e, if_pos, if_neg, up_ne, up_at, upf_same, upf_ne, reduceIte, or_true, true_or, Int.reduceToNat, Int.toNat_natCast, tn100, tn200]⟩) hF (by simp (disch := omega) only [bd_some, lm_e, if_pos, if_neg, up_ne, up_at, upf_same, upf_ne, reduceIte, or_true, true_or, Int.reduceToNat, Int.toNat_natCast, tn100, tn200]) (by simp (disch := omega) only [bd_some, lm_e, if_pos, if_neg, up_ne, up_at, upf_same, upf_ne, reduceIte, or_true, true_or, Int.reduceToNat, Int.toNat_natCast, tn100, tn200])
      rw [r0]
      unfold f_X11_clause_82
      have hk3 : 4 ≤ kap c := by unfold kap; rw [if_neg c1]; omega
      rw [if_neg hk0, if_pos (by omega), Int.toNat_natCast, e14, if_pos ht0, z11, lm_e, m1, bd_some, n2, bd_some, lm_e, if_pos (by omega)]
  rw [if_pos o1] at n1 n2
  have hr1 : rvN b s1 M1 = dv b s1 M1 := if_pos o1.2.1
  rw [hr1] at n2
  have v1 := o1.2.2.1
  have v2 := o1.2.2.2
  have tC3 : tbC T b (up (up (up (up μ 5 4 (q : Int)) 5 3 Z) 5 4 ((s1 + M1 : Nat) : Int)) 18 (kap c) (dv b s1 M1)) := tbC_up (tbC_up tC2 (by decide) (by decide)) (by decide) (by decide)
  have tR3 : tbR T b (up (up (up (up (up ν2 314 (kap c) 1) 300 20 (s1 : Int)) 300 21 (s1 : Int)) 300 20 ((s1 + M1 : Nat) : Int)) 313 (kap c) (dv b s1 M1)) := tbR_up (tbR_up (tbR_up (tbR_up tR2 (Or.inr (by decide)) (by decide)) (Or.inr (by decide)) (by decide)) (Or.inr (by decide)) (by decide)) (Or.inl (by decide)) (by decide)
  have told2 : ∀ d, d < 7 → (tldP Z d ↔ upf (ν 314) (kap c) 1 (kap d) ≠ 0) := by
    intro d hd
    rw [hZ d]
    by_cases e : d = c
    · subst e
      rw [upf_same]
      exact ⟨fun _ => by decide, fun _ => Or.inr rfl⟩
    · rw [upf_ne (fun x => e (kap_inj x)), ← hz2 d hd]
      exact ⟨fun x => x.elim id (fun y => absurd y e), Or.inl⟩
  have numI3 : ∀ k : Nat, k < 9 → upf (μ 18) (kap c) (dv b s1 M1) k = upf (ν 313) (kap c) (dv b s1 M1) k ∧ 1 ≤ upf (ν 313) (kap c) (dv b s1 M1) k ∧ upf (ν 313) (kap c) (dv b s1 M1) k ≤ 200 ∧ (k < 7 → upf (ν 313) (kap c) (dv b s1 M1) k ≤ 99) := by
    intro k hk
    by_cases e : k = kap c
    · subst e
      rw [upf_same, upf_same]
      exact ⟨rfl, v1, by omega, fun h7 => by have := hgr.2.2 h7; omega⟩
    · rw [upf_ne e, upf_ne e]
      exact hn k hk
  by_cases c1 : c ≤ 1
  case neg =>
    have hk3 : 4 ≤ kap c := by unfold kap; rw [if_neg c1]; omega
    refine cl_fin (c := c) (q := s1 + M1) (m := 62) (μ3 := up (up (up (up μ 5 4 (q : Int)) 5 3 Z) 5 4 ((s1 + M1 : Nat) : Int)) 18 (kap c) (dv b s1 M1)) (ν3 := up (up (up (up (up ν2 314 (kap c) 1) 300 20 (s1 : Int)) 300 21 (s1 : Int)) 300 20 ((s1 + M1 : Nat) : Int)) 313 (kap c) (dv b s1 M1)) hT hb hi9 (by omega) f2 ?_ ?_ (fun a a1 a2 => by simp (disch := omega) only [bd_some, lm_e, if_pos, if_neg, up_ne, up_at, upf_same, upf_ne, reduceIte, or_true, true_or, Int.reduceToNat, Int.toNat_natCast, tn100, tn200]) (rF_tr eF ⟨fun a a1 a2 a3 => by simp (disch := omega) only [bd_some, lm_e, if_pos, if_neg, up_ne, up_at, upf_same, upf_ne, reduceIte, or_true, true_or, Int.reduceToNat, Int.toNat_natCast, tn100, tn200], fun j j1 j2 j3 => by simp (disch := omega) only [bd_some, lm_e, if_pos, if_neg, up_ne, up_at, upf_same, upf_ne, reduceIte, or_true, true_or, Int.reduceToNat, Int.toNat_natCast, tn100, tn200]⟩) tC3 tR3 (by simp (disch := omega) only [bd_some, lm_e, if_pos, if_neg, up_ne, up_at, upf_same, upf_ne, reduceIte, or_true, true_or, Int.reduceToNat, Int.toNat_natCast, tn100, tn200]) (by simp (disch := omega) only [bd_some, lm_e, if_pos, if_neg, up_ne, up_at, upf_same, upf_ne, reduceIte, or_true, true_or, Int.reduceToNat, Int.toNat_natCast, tn100, tn200]) hq1T (by simp (disch := omega) only [bd_some, lm_e, if_pos, if_neg, up_ne, up_at, upf_same, upf_ne, reduceIte, or_true, true_or, Int.reduceToNat, Int.toNat_natCast, tn100, tn200]; exact e22) (by simp (disch := omega) only [bd_some, lm_e, if_pos, if_neg, up_ne, up_at, upf_same, upf_ne, reduceIte, or_true, true_or, Int.reduceToNat, Int.toNat_natCast, tn100, tn200]; exact f1) (by simp (disch := omega) only [bd_some, lm_e, if_pos, if_neg, up_ne, up_at, upf_same, upf_ne, reduceIte, or_true, true_or, Int.reduceToNat, Int.toNat_natCast, tn100, tn200]; exact f3) (by unfold numI; simp (disch := omega) only [e13, bd_some, lm_e, if_pos, if_neg, up_ne, up_at, upf_same, upf_ne, reduceIte, or_true, true_or, Int.reduceToNat, Int.toNat_natCast, tn100, tn200]; exact numI3) (by simp (disch := omega) only [bd_some, lm_e, if_pos, if_neg, up_ne, up_at, upf_same, upf_ne, reduceIte, or_true, true_or, Int.reduceToNat, Int.toNat_natCast, tn100, tn200]; exact ⟨zs1, zs2⟩) (by simp (disch := omega) only [e14, bd_some, lm_e, if_pos, if_neg, up_ne, up_at, upf_same, upf_ne, reduceIte, or_true, true_or, Int.reduceToNat, Int.toNat_natCast, tn100, tn200]; exact told2) (by simp (disch := omega) only [bd_some, lm_e, if_pos, if_neg, up_ne, up_at, upf_same, upf_ne, reduceIte, or_true, true_or, Int.reduceToNat, Int.toNat_natCast, tn100, tn200]; exact hZc)
    · rw [rc, f_X7_readClause_18_e, if_pos (by omega), if_neg (hlt _ (Or.inl rfl)), n1, bd_some, if_neg (by decide), if_pos (by omega), if_neg (show ¬ c ≤ 1 from c1)]
    · rw [r0]
      unfold f_X11_clause_82
      rw [if_neg hk0, if_pos (by omega), Int.toNat_natCast, e14, if_pos ht0, z11, lm_e, m1, bd_some, n2, bd_some, lm_e, if_pos (by omega)]
  -- a second number
  have hk3 : kap c ≤ 2 := by unfold kap; rw [if_pos c1]; omega
  have hgr2 := gr_b (kap c + 1) (by omega)
  have hg21 := m2 c1
  obtain ⟨s2, hs2⟩ := runT_ex (P := fun z => z = 32) (T := T) (b := b) (T - (s1 + M1)) (s1 + M1) (by omega)
  have hs2T := hs2.2.1
  obtain ⟨q2, hq2⟩ := runT_ex (P := isDig) (T := T) (b := b) (T - s2) s2 (by omega)
  have hq2T := hq2.2.1
  obtain ⟨M2, hM2⟩ : ∃ M, q2 = s2 + M := ⟨q2 - s2, by have := hq2.1; omega⟩
  subst hM2
  have n3 := c_num (k := kap c + 1) hT hb tC3 (p := s1 + M1) (by simp (disch := omega) only [bd_some, lm_e, if_pos, if_neg, up_ne, up_at, upf_same, upf_ne, reduceIte, or_true, true_or, Int.reduceToNat, Int.toNat_natCast, tn100, tn200]) hs2 hq2 (by omega)
  have n4 := r_num (top := gr (kap c)) hT tR3 (p := s1 + M1) (by simp (disch := omega) only [bd_some, lm_e, if_pos, if_neg, up_ne, up_at, upf_same, upf_ne, reduceIte, or_true, true_or, Int.reduceToNat, Int.toNat_natCast, tn100, tn200]) (by simp (disch := omega) only [bd_some, lm_e, if_pos, if_neg, up_ne, up_at, upf_same, upf_ne, reduceIte, or_true, true_or, Int.reduceToNat, Int.toNat_natCast, tn100, tn200]; exact e22) ⟨hgr.1, hgr.2.1⟩ hs2 hq2
  have m3 := (most_e (ν := up (up (up (up (up ν2 314 (kap c) 1) 300 20 (s1 : Int)) 300 21 (s1 : Int)) 300 20 ((s1 + M1 : Nat) : Int)) 313 (kap c) (dv b s1 M1)) c (by omega)).1
  rw [hg21] at n3
  rw [show ((kap c + 1 : Nat) : Int) = (kap c : Int) + 1 by omega] at n3
  by_cases o2 : numOK b s2 M2 (gr (kap c))
  case neg =>
    rw [if_neg o2] at n3 n4
    have hF := numF_b (s := s2) (M := M2) (by omega)
    refine cl_bad (μ3 := up (up (up (up (up (up μ 5 4 (q : Int)) 5 3 Z) 5 4 ((s1 + M1 : Nat) : Int)) 18 (kap c) (dv b s1 M1)) 5 4 ((s2 + M2 : Nat) : Int)) 5 5 (numF s2 M2)) (ν3 := up (up (up (up (up (up (up (up (up (up ν2 314 (kap c) 1) 300 20 (s1 : Int)) 300 21 (s1 : Int)) 300 20 ((s1 + M1 : Nat) : Int)) 313 (kap c) (dv b s1 M1)) 300 20 (s2 : Int)) 300 21 (s2 : Int)) 300 20 ((s2 + M2 : Nat) : Int)) 300 22 (numF s2 M2)) 313 (kap c + 1) (rvN b s2 M2)) (F := numF s2 M2) hi9 f2 ?_ ?_ (fun a a1 a2 => by simp (disch := omega) only [bd_some, lm_e, if_pos, if_neg, up_ne, up_at, upf_same, upf_ne, reduceIte, or_true, true_or, Int.reduceToNat, Int.toNat_natCast, tn100, tn200]) (rF_tr eF ⟨fun a a1 a2 a3 => by simp (disch := omega) only [bd_some, lm_e, if_pos, if_neg, up_ne, up_at, upf_same, upf_ne, reduceIte, or_true, true_or, Int.reduceToNat, Int.toNat_natCast, tn100, tn200], fun j j1 j2 j3 => by simp (disch := omega) only [bd_some, lm_e, if_pos, if_neg, up_ne, up_at, upf_same, upf_ne, reduceIte, or_true, true_or, Int.reduceToNat, Int.toNat_natCast, tn100, tn200]⟩) hF (by simp (disch := omega) only [bd_some, lm_e, if_pos, if_neg, up_ne, up_at, upf_same, upf_ne, reduceIte, or_true, true_or, Int.reduceToNat, Int.toNat_natCast, tn100, tn200]) (by simp (disch := omega) only [bd_some, lm_e, if_pos, if_neg, up_ne, up_at, upf_same, upf_ne, reduceIte, or_true, true_or, Int.reduceToNat, Int.toNat_natCast, tn100, tn200])
    · rw [rc, f_X7_readClause_18_e, if_pos (by omega), if_neg (hlt _ (Or.inl rfl)), n1, bd_some, if_neg (by decide), if_pos (by omega), f_X7_readClause_18_e, if_pos (by omega), if_neg (hlt _ (Or.inr ⟨c1, rfl⟩)), n3, bd_some, if_pos rfl]
    · rw [r0]
      unfold f_X11_clause_82
      rw [if_neg hk0, if_pos (by omega), Int.toNat_natCast, e14, if_pos ht0, z11, lm_e, m1, bd_some, n2, bd_some, lm_e, if_neg (by omega), m3, bd_some, n4, bd_some, if_pos (by omega), lm_e, show ((kap c : Int) + 1).toNat = kap c + 1 by omega]
  rw [if_pos o2] at n3 n4
  have hr2 : rvN b s2 M2 = dv b s2 M2 := if_pos o2.2.1
  rw [hr2] at n4
  have v3 := o2.2.2.1
  have v4 := o2.2.2.2
  refine cl_fin (c := c) (q := s2 + M2) (m := 61) (μ3 := up (up (up (up (up (up μ 5 4 (q : Int)) 5 3 Z) 5 4 ((s1 + M1 : Nat) : Int)) 18 (kap c) (dv b s1 M1)) 5 4 ((s2 + M2 : Nat) : Int)) 18 (kap c + 1) (dv b s2 M2)) (ν3 := up (up (up (up (up (up (up (up (up ν2 314 (kap c) 1) 300 20 (s1 : Int)) 300 21 (s1 : Int)) 300 20 ((s1 + M1 : Nat) : Int)) 313 (kap c) (dv b s1 M1)) 300 20 (s2 : Int)) 300 21 (s2 : Int)) 300 20 ((s2 + M2 : Nat) : Int)) 313 (kap c + 1) (dv b s2 M2)) hT hb hi9 (by omega) f2 ?_ ?_ (fun a a1 a2 => by simp (disch := omega) only [bd_some, lm_e, if_pos, if_neg, up_ne, up_at, upf_same, upf_ne, reduceIte, or_true, true_or, Int.reduceToNat, Int.toNat_natCast, tn100, tn200]) (rF_tr eF ⟨fun a a1 a2 a3 => by simp (disch := omega) only [bd_some, lm_e, if_pos, if_neg, up_ne, up_at, upf_same, upf_ne, reduceIte, or_true, true_or, Int.reduceToNat, Int.toNat_natCast, tn100, tn200], fun j j1 j2 j3 => by simp (disch := omega) only [bd_some, lm_e, if_pos, if_neg, up_ne, up_at, upf_same, upf_ne, reduceIte, or_true, true_or, Int.reduceToNat, Int.toNat_natCast, tn100, tn200]⟩) (tbC_up (tbC_up tC3 (by decide) (by decide)) (by decide) (by decide)) (tbR_up (tbR_up (tbR_up (tbR_up tR3 (Or.inr (by decide)) (by decide)) (Or.inr (by decide)) (by decide)) (Or.inr (by decide)) (by decide)) (Or.inl (by decide)) (by decide)) (by simp (disch := omega) only [bd_some, lm_e, if_pos, if_neg, up_ne, up_at, upf_same, upf_ne, reduceIte, or_true, true_or, Int.reduceToNat, Int.toNat_natCast, tn100, tn200]) (by simp (disch := omega) only [bd_some, lm_e, if_pos, if_neg, up_ne, up_at, upf_same, upf_ne, reduceIte, or_true, true_or, Int.reduceToNat, Int.toNat_natCast, tn100, tn200]) hq2T (by simp (disch := omega) only [bd_some, lm_e, if_pos, if_neg, up_ne, up_at, upf_same, upf_ne, reduceIte, or_true, true_or, Int.reduceToNat, Int.toNat_natCast, tn100, tn200]; exact e22) (by simp (disch := omega) only [bd_some, lm_e, if_pos, if_neg, up_ne, up_at, upf_same, upf_ne, reduceIte, or_true, true_or, Int.reduceToNat, Int.toNat_natCast, tn100, tn200]; exact f1) (by simp (disch := omega) only [bd_some, lm_e, if_pos, if_neg, up_ne, up_at, upf_same, upf_ne, reduceIte, or_true, true_or, Int.reduceToNat, Int.toNat_natCast, tn100, tn200]; exact f3) ?_ (by simp (disch := omega) only [bd_some, lm_e, if_pos, if_neg, up_ne, up_at, upf_same, upf_ne, reduceIte, or_true, true_or, Int.reduceToNat, Int.toNat_natCast, tn100, tn200]; exact ⟨zs1, zs2⟩) (by simp (disch := omega) only [e14, bd_some, lm_e, if_pos, if_neg, up_ne, up_at, upf_same, upf_ne, reduceIte, or_true, true_or, Int.reduceToNat, Int.toNat_natCast, tn100, tn200]; exact told2) (by simp (disch := omega) only [bd_some, lm_e, if_pos, if_neg, up_ne, up_at, upf_same, upf_ne, reduceIte, or_true, true_or, Int.reduceToNat, Int.toNat_natCast, tn100, tn200]; exact hZc)
  · rw [rc, f_X7_readClause_18_e, if_pos (by omega), if_neg (hlt _ (Or.inl rfl)), n1, bd_some, if_neg (by decide), if_pos (by omega), f_X7_readClause_18_e, if_pos (by omega), if_neg (hlt _ (Or.inr ⟨c1, rfl⟩)), n3, bd_some, if_neg (by decide), if_pos (by omega), if_pos c1, show (kap c : Int) + 1 + 1 = (kap c : Int) + 2 by omega]
  · rw [r0]
    unfold f_X11_clause_82
    rw [if_neg hk0, if_pos (by omega), Int.toNat_natCast, e14, if_pos ht0, z11, lm_e, m1, bd_some, n2, bd_some, lm_e, if_neg (by omega), m3, bd_some, n4, bd_some, if_pos (by omega), lm_e, show ((kap c : Int) + 1).toNat = kap c + 1 by omega]
  · unfold numI
    simp (disch := omega) only [e13, bd_some, lm_e, if_pos, if_neg, up_ne, up_at, upf_same, upf_ne, reduceIte, or_true, true_or, Int.reduceToNat, Int.toNat_natCast, tn100, tn200]
    intro k hk
    by_cases e : k = kap c + 1
    · subst e
      rw [upf_same, upf_same]
      exact ⟨rfl, v3, by omega, fun h7 => by have := hgr.2.2 (by omega); omega⟩
    · rw [upf_ne e, upf_ne e]
      exact numI3 k hk
/-- all clauses -/
theorem clauses (hT : T ≤ 200) (hb : ∀ i, i < T → -128 ≤ b i ∧ b i < 128) : ∀ (d n m i p : Nat) (μ ν : Mem), i + d = 8 → d + 1 < n → d + 1 < m → TI T b i p μ ν → ∃ (j : Int) (μ' ν' : Mem), f_X7_readTape_30 n 1 (i : Int) μ = some (μ' 5 5, μ') ∧ f_X11_table_56 m (i : Int) 1 ν = f_X11_table_134 j ν' ∧ cF μ μ' ∧ rF ν ν' ∧ ((1 ≤ ν' 300 22 ∧ ν' 300 22 ≤ 900 ∧ μ' 5 5 = ν' 300 22) ∨ (ν' 300 22 = 0 ∧ μ' 5 5 = -1 ∧ μ' 5 2 = j ∧ numI μ' ν'))
  | 0, n, m, i, p, μ, ν, h1, h2, h3, h => by
    obtain ⟨-, -, -, -, -, -, h9⟩ := h
    have := countTo_b (tldP (μ 5 3)) 7
    omega
  | d + 1, n + 2, m + 2, i, p, μ, ν, h1, h2, h3, h => by
    obtain ⟨r, μ', ν', e1, fc, fr, e2⟩ := clause_1 hT hb (by omega) h
    have hd : f_X7_readTape_30 (n + 2) 1 (i : Int) μ = f_X7_readTape_30 (n + 1) r ((i : Int) + 1) μ' := by
      rw [f_X7_readTape_30_e, if_neg (by decide), if_neg (by omega), e1, bd_some, if_pos (by omega)]
    have h0 : f_X7_readTape_30 (n + 1) 0 ((i : Int) + 1) μ' = some (μ' 5 5, μ') := by
      rw [f_X7_readTape_30_e, if_pos rfl]
    rcases e2 with ⟨r0, q1, q2, q3, q4⟩ | ⟨r0, q1, q2, q3, q4, q5⟩ | ⟨r1, q1, p', q2⟩
    · subst r0
      exact ⟨(i : Int) + 1, μ', ν', hd.trans h0, q1 m, fc, fr, Or.inl ⟨q2, q3, q4⟩⟩
    · subst r0
      exact ⟨(i : Int) + 1, μ', ν', hd.trans h0, q1 m, fc, fr, Or.inr ⟨q2, q3, q4, q5⟩⟩
    · subst r1
      obtain ⟨j, μ'', ν'', k1, k2, k3, k4, k5⟩ := clauses hT hb d (n + 1) (m + 1) (i + 1) p' μ' ν' (by omega) (by omega) (by omega) q2
      rw [show ((i + 1 : Nat) : Int) = (i : Int) + 1 by omega] at k1 k2
      exact ⟨j, μ'', ν'', hd.trans k1, (q1 m).trans k2, cF_tr fc k3, rF_tr fr k4, k5⟩
end TBL
