/-! QUARREL, QUARRELS: the calls -/
theorem Inv2_q {μ ν μ' ν' : Mem} (h : Inv2 μ ν) (hc : qJ μ μ') (hr : qS ν ν') (hq : Iq (μ 8 5) (μ' 8 7) (μ' 8 6) (μ 32) (μ 33) (μ 34) (μ 35)) : Inv2 μ' ν' := by
  obtain ⟨a1, a2, a3, a4, a5, a6, a7, a8, a9, a10⟩ := h
  have C : ∀ a, a ≠ 8 ∧ a ≠ 36 ∧ a ≠ 37 ∧ a ≠ 38 ∧ a ≠ 39 → μ' a = μ a := fun a h => hc.1 a h.1 h.2.1 h.2.2.1 h.2.2.2.1 h.2.2.2.2
  have R : ∀ a, a ≠ 300 ∧ a ≠ 335 ∧ a ≠ 336 ∧ ¬ (338 ≤ a ∧ a < 378) → ν' a = ν a := fun a h => hr.1 a h.1 h.2.1 h.2.2.1 h.2.2.2
  have R3 := hr.2
  unfold Inv2
  have b6 : Isite2 μ' ν' := Isite2_fr a6 (fun a ha => by unfold sC at ha; exact C a (by omega)) (fun a ha => by unfold sR at ha; exact R a (by omega)) (R3 _ (by decide)) (R3 _ (by decide)) (R3 _ (by decide)) (R3 _ (by decide)) (R3 _ (by decide))
  have b7 : Irefs μ' := Irefs_fr a7 (C _ (by decide)) (C _ (by decide)) (C _ (by decide)) (C _ (by decide))
  rw [C 2 (by decide), C 14 (by decide), C 15 (by decide), R3 3 (by decide), R3 4 (by decide), R3 15 (by decide), R3 19 (by decide), R3 33 (by decide), R3 45 (by decide), R 306 (by decide), R 307 (by decide), C 1 (by decide), C 9 (by decide), C 10 (by decide), C 11 (by decide), R 308 (by decide), R 309 (by decide), R 310 (by decide), C 12 (by decide), C 13 (by decide), C 3 (by decide), C 16 (by decide), R 311 (by decide), C 17 (by decide), R 312 (by decide), C 7 (by decide), hc.2, C 32 (by decide), C 33 (by decide), C 34 (by decide), C 35 (by decide), R 331 (by decide), R 332 (by decide), R 333 (by decide), R 334 (by decide)]
  exact ⟨a1, a2, a3, a4, a5, b6, b7, Iplan2_fr a8 (fun a h1 h2 => C a (by omega)) (fun a h1 h2 => R a (by omega)), a9, hq⟩
theorem countTo_ext {p : Nat → Prop} {N : Nat} (h : ∀ i, N ≤ i → ¬ p i) : ∀ k : Nat, countTo p (N + k) = countTo p N
  | 0 => rfl
  | k + 1 => by
    show countTo p (N + k) + b2i (p (N + k)) = countTo p N
    rw [countTo_ext h k, b2i_f (h (N + k) (by omega))]
    omega
theorem countTo_mono {p : Nat → Prop} {v : Nat} : ∀ k : Nat, countTo p v ≤ countTo p (v + k)
  | 0 => Int.le_refl _
  | k + 1 => by
    have ih := countTo_mono (p := p) (v := v) k
    have := b2i_01 (p (v + k))
    show countTo p v ≤ countTo p (v + k) + b2i (p (v + k))
    omega
/-- what both sides have when the judging is done -/
theorem q_both {μ ν : Mem} (h : Inv2 μ ν) : ∃ (N : Nat) (Q : Nat → Prop) (μ1 ν1 : Mem), N ≤ 20 ∧ μ 8 5 = (N : Int) ∧ f_X8_judge μ = some (0, μ1) ∧ f_X11_quarrel ν = some (countTo Q N, ν1) ∧ Inv2 μ1 ν1 ∧ μ1 8 5 = (N : Int) ∧ ν1 300 45 = (N : Int) ∧ (0 ≤ μ1 8 6 ∧ μ1 8 6 < 1048576) ∧ (∀ i, mskP (μ1 8 6) i ↔ Q i) ∧ (∀ i, Q i → i < N) ∧ (0 < countTo Q N → ∀ i, i < N → (ν1 335 i ≠ 0 ↔ Q i)) ∧ (∀ a, 300 ≤ a → μ1 a = μ a) ∧ μ1 90 = μ 90 ∧ (∀ a, a < 300 → ν1 a = ν a) := by
  have hI := h
  obtain ⟨-, -, -, -, -, -, -, -, ht, hq⟩ := h
  obtain ⟨t1, t2, t3, t4⟩ := ht
  obtain ⟨N, hN⟩ : ∃ N : Nat, μ 8 5 = (N : Int) := ⟨(μ 8 5).toNat, by omega⟩
  have hN2 : N ≤ 20 := by omega
  have tc : tlC N (μ 32) (μ 33) (μ 34) (μ 35) μ := ⟨hN, hN2, fun i _ => ⟨rfl, rfl, rfl, rfl⟩, fun i hi => by
    have := t4 i (by omega)
    omega⟩
  have tr : tlR N (μ 32) (μ 33) (μ 34) (μ 35) (fun i => ν 335 i ≠ 0) ν := ⟨by omega, hN2, fun i hi => by
    obtain ⟨x1, x2, x3, x4, -⟩ := t4 i (by omega)
    exact ⟨x1, x2, x3, x4⟩, tc.2.2.2, fun i _ => Iff.rfl⟩
  have hq0 := hq
  rw [hN] at hq
  obtain ⟨μ1, a1, a2, a3, a4⟩ := e_judge tc hq
  obtain ⟨ν1, b1, b2, b3⟩ := r_quarrel tr
  obtain ⟨-, -, a5⟩ := a4
  obtain ⟨c1, c2, c3⟩ := a5 rfl
  refine ⟨N, quar (N : Int) (μ 32) (μ 33) (μ 34) (μ 35), μ1, ν1, hN2, hN, a1, b1, Inv2_q hI a2 b2 ?_, by rw [a2.2]; exact hN, by rw [b2.2 45 (by decide)]; omega, ⟨c1, c2⟩, fun i => c3 i, fun i x => by have := x.1; omega, b3, fun a ha => a2.1 a (by omega) (by omega) (by omega) (by omega) (by omega), a2.1 90 (by decide) (by decide) (by decide) (by decide) (by decide), fun a ha => b2.1 a (by omega) (by omega) (by omega) (by omega)⟩
  rw [hN, a3]
  exact ⟨by omega, Int.le_refl _, fun _ => ⟨c1, c2, c3⟩⟩
theorem s_quarrel {μ ν : Mem} (h : Inv2 μ ν) : Step2 (fun μ => f_X10_quarrel μ) (fun ν => f_X11_quarrel ν) μ ν := by
  obtain ⟨N, Q, μ1, ν1, hN, h5, a1, b1, hI, -, -, hb, hm, hQ, -, f1, f2, f3⟩ := q_both h
  refine step2_do (countTo Q N) ?_ b1 f1 f2 f3 hI
  show f_X10_quarrel μ = _
  unfold f_X10_quarrel f_X8_quarrelSize
  rw [a1, bd_some, bitCount_e hb.1 hb.2, bd_some, bd_some, ← count_bits 20]
  refine congrArg (fun z => some (z, μ1)) ?_
  rw [countTo_cong (p := fun i => (μ1 8 6).toNat.testBit i = true) (q := Q) 20 (fun i _ => hm i), show (20 : Nat) = N + (20 - N) by omega, countTo_ext (fun i hi x => by have := hQ i x; omega)]
theorem q_in {N : Nat} {Q : Nat → Prop} {a r : Int} {μ1 ν1 : Mem} (hN : N ≤ 20) (h5 : μ1 8 5 = (N : Int)) (h45 : ν1 300 45 = (N : Int)) (hb : 0 ≤ μ1 8 6 ∧ μ1 8 6 < 1048576) (hm : ∀ i, mskP (μ1 8 6) i ↔ Q i) (hr : ∀ i, i < N → (ν1 335 i ≠ 0 ↔ Q i)) (ha : 0 ≤ a ∧ a < r) (hr20 : r ≤ 20) : ∀ (d n m v : Nat), v + d = N → d < n → d < m → countTo Q v ≤ a → ∃ res : Int, f_X8_quarrelMember_8 n a (countTo Q v) (v : Int) μ1 = some (res, μ1) ∧ f_X11_quarrels_10 m a r (a - countTo Q v) (v : Int) ν1 = some (res, ν1)
  | 0, n + 1, m + 1, v, h1, h2, h3, h4 => by
    refine ⟨-1, ?_, ?_⟩
    · rw [f_X8_quarrelMember_8_e, if_pos (by omega)]
    · rw [f_X11_quarrels_10_e, if_pos (by omega)]
  | d + 1, n + 1, m + 1, v, h1, h2, h3, h4 => by
    have hc : countTo Q (v + 1) = countTo Q v + b2i (Q v) := rfl
    have hcb := countTo_b Q v
    have pre : ∀ z : Int, f_X11_quarrels_10 (m + 1) a r z (v : Int) ν1 = (if (ν1 335 v) = 0 then (if inR ((v : Int) + 1) then (f_X11_quarrels_10 m a r z ((v : Int) + 1) ν1) else none) else (if z = 0 then (some ((v : Int), ν1)) else (if inR (z + (-1)) then if inR ((v : Int) + 1) then (f_X11_quarrels_10 m a r (z + (-1)) ((v : Int) + 1) ν1) else none else none))) := fun z => by
      rw [f_X11_quarrels_10_e, if_neg (by omega), if_pos (by omega), f_in_e, bd_some, b2i_t (show 0 ≤ a ∧ a ≤ r - 1 by omega), if_neg (by decide), if_pos (by omega), Int.toNat_natCast]
    by_cases q : Q v
    · by_cases e : countTo Q v = a
      · refine ⟨(v : Int), ?_, ?_⟩
        · rw [f_X8_quarrelMember_8_e, if_neg (by omega), if_neg (msk_t hb.1 (by omega) (by omega) ((hm v).mpr q)), if_pos e]
        · rw [pre, if_neg ((hr v (by omega)).mpr q), if_pos (by omega)]
      · rw [b2i_t q] at hc
        obtain ⟨res, q1, q2⟩ := q_in hN h5 h45 hb hm hr ha hr20 d n m (v + 1) (by omega) (by omega) (by omega) (by omega)
        rw [hc, show ((v + 1 : Nat) : Int) = (v : Int) + 1 by omega] at q1 q2
        refine ⟨res, ?_, ?_⟩
        · rw [f_X8_quarrelMember_8_e, if_neg (by omega), if_neg (msk_t hb.1 (by omega) (by omega) ((hm v).mpr q)), if_neg e, if_pos (by omega), if_pos (by omega), q1]
        · rw [pre, if_neg ((hr v (by omega)).mpr q), if_neg (by omega), if_pos (by omega), if_pos (by omega), show a - countTo Q v + (-1) = a - (countTo Q v + 1) by omega, q2]
    · rw [b2i_f q] at hc
      have h0 : ν1 335 v = 0 := by
        by_cases z : ν1 335 v = 0
        · exact z
        · exact absurd ((hr v (by omega)).mp z) q
      obtain ⟨res, q1, q2⟩ := q_in hN h5 h45 hb hm hr ha hr20 d n m (v + 1) (by omega) (by omega) (by omega) (by omega)
      rw [hc, Int.add_zero, show ((v + 1 : Nat) : Int) = (v : Int) + 1 by omega] at q1 q2
      refine ⟨res, ?_, ?_⟩
      · rw [f_X8_quarrelMember_8_e, if_neg (by omega), if_pos (msk_f hb.1 (by omega) (by omega) (fun x => q ((hm v).mp x))), if_pos (by omega), q1]
      · rw [pre, if_pos h0, if_pos (by omega), q2]
theorem q_out {N : Nat} {Q : Nat → Prop} {a : Int} {μ1 : Mem} (hN : N ≤ 20) (h5 : μ1 8 5 = (N : Int)) (hb : 0 ≤ μ1 8 6 ∧ μ1 8 6 < 1048576) (hm : ∀ i, mskP (μ1 8 6) i ↔ Q i) (ha : a < 0 ∨ countTo Q N ≤ a) : ∀ (d n v : Nat), v + d = N → d < n → f_X8_quarrelMember_8 n a (countTo Q v) (v : Int) μ1 = some (-1, μ1)
  | 0, n + 1, v, h1, h2 => by
    rw [f_X8_quarrelMember_8_e, if_pos (by omega)]
  | d + 1, n + 1, v, h1, h2 => by
    have hc : countTo Q (v + 1) = countTo Q v + b2i (Q v) := rfl
    have hcb := countTo_b Q v
    have hmo := countTo_mono (p := Q) (v := v + 1) (N - (v + 1))
    rw [show v + 1 + (N - (v + 1)) = N by omega] at hmo
    have ih := q_out hN h5 hb hm ha d n (v + 1) (by omega) (by omega)
    rw [f_X8_quarrelMember_8_e, if_neg (by omega)]
    by_cases q : Q v
    · rw [b2i_t q] at hc
      rw [hc, show ((v + 1 : Nat) : Int) = (v : Int) + 1 by omega] at ih
      rw [if_neg (msk_t hb.1 (by omega) (by omega) ((hm v).mpr q)), if_neg (by omega), if_pos (by omega), if_pos (by omega), ih]
    · rw [b2i_f q] at hc
      rw [hc, Int.add_zero, show ((v + 1 : Nat) : Int) = (v : Int) + 1 by omega] at ih
      rw [if_pos (msk_f hb.1 (by omega) (by omega) (fun x => q ((hm v).mp x))), if_pos (by omega), ih]
theorem s_quarrels {μ ν : Mem} (h : Inv2 μ ν) (a : Int) : Step2 (fun μ => f_X10_quarrels μ a) (fun ν => f_X11_quarrels ν a) μ ν := by
  obtain ⟨N, Q, μ1, ν1, hN, h5, a1, b1, hI, h15, h45, hb, hm, hQ, hr, f1, f2, f3⟩ := q_both h
  have hcb := countTo_b Q N
  by_cases ha : 0 ≤ a ∧ a < countTo Q N
  · obtain ⟨res, q1, q2⟩ := q_in (r := countTo Q N) hN h15 h45 hb hm (hr (by omega)) ha (by omega) N 64 64 0 (by omega) (by omega) (by omega) ha.1
    rw [show countTo Q 0 = 0 from rfl, show ((0 : Nat) : Int) = 0 from rfl] at q1 q2
    rw [Int.sub_zero] at q2
    refine step2_do res ?_ ?_ f1 f2 f3 hI
    · show f_X10_quarrels μ a = _
      unfold f_X10_quarrels f_X8_quarrelMember
      rw [a1, bd_some, q1, bd_some]
    · show f_X11_quarrels ν a = _
      unfold f_X11_quarrels
      rw [b1, bd_some, q2]
  · have q1 := q_out (a := a) hN h15 hb hm (by omega) N 64 0 (by omega) (by omega)
    rw [show countTo Q 0 = 0 from rfl, show ((0 : Nat) : Int) = 0 from rfl] at q1
    refine step2_do (-1) ?_ ?_ f1 f2 f3 hI
    · show f_X10_quarrels μ a = _
      unfold f_X10_quarrels f_X8_quarrelMember
      rw [a1, bd_some, q1, bd_some]
    · show f_X11_quarrels ν a = _
      unfold f_X11_quarrels
      rw [b1, bd_some, show (64 : Nat) = 63 + 1 from rfl, f_X11_quarrels_10_e]
      by_cases e : N = 0
      · rw [if_pos (by omega)]
      · rw [if_neg (by omega), if_pos (by omega), f_in_e, bd_some, b2i_f (by omega), if_pos rfl]
