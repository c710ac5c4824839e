/-! THE START: what is kept holds when both are made -/
def cellAt (o : Option (Int × Mem)) (a k : Nat) : Int := match o with | some q => q.2 a k | none => 0
def startL : List (Nat × Nat) := [(2, 2), (300, 3), (2, 3), (300, 15), (1, 3), (300, 4), (1, 6), (3, 1), (300, 19), (300, 1), (6, 9), (300, 2), (6, 5), (90, 1), (300, 26), (6, 6), (90, 0), (300, 17), (6, 8), (300, 16), (6, 10), (6, 7), (7, 17), (300, 33), (8, 5), (300, 45), (8, 7), (8, 6)]
def startB (μ : Mem) : Bool := startL.all (fun w => decide (μ w.1 w.2 = 0)) && ((List.range 9).all (fun i => decide (μ 312 i = μ 17 i ∧ 1 ≤ μ 17 i ∧ μ 17 i ≤ 200 ∧ (i < 7 → μ 17 i ≤ 99))) && ((List.range 6).all (fun g => decide (μ 302 g = -1 ∧ μ 303 g = 0 ∧ μ 304 g = 0 ∧ μ 305 g = 0)) && (List.range 30).all (fun k => decide (μ 317 k = 0))))
def startW : Bool := match initR with | some q => startB q.2 | none => false
set_option maxRecDepth 100000 in
theorem startW_ok : startW = true := by decide +kernel
set_option maxRecDepth 100000 in
set_option maxHeartbeats 1000000 in
theorem row19 : ∀ j, cellAt initR 19 j = -1 := fun _ => rfl
set_option maxRecDepth 100000 in
set_option maxHeartbeats 1000000 in
theorem row20 : ∀ j, cellAt initR 20 j = -1 := fun _ => rfl
set_option maxRecDepth 100000 in
set_option maxHeartbeats 1000000 in
theorem row21 : ∀ j, cellAt initR 21 j = -1 := fun _ => rfl
theorem start_inv : ∀ q, initR = some q → Inv q.2 := by
  intro q hq
  have hw := startW_ok
  have r1 := row19
  have r2 := row20
  have r3 := row21
  unfold startW at hw
  rw [hq] at hw r1 r2 r3
  obtain ⟨r, μ⟩ := q
  replace hw : startB μ = true := hw
  replace r1 : ∀ j, μ 19 j = -1 := r1
  replace r2 : ∀ j, μ 20 j = -1 := r2
  replace r3 : ∀ j, μ 21 j = -1 := r3
  show Inv μ
  unfold startB at hw
  simp only [Bool.and_eq_true, List.all_eq_true, decide_eq_true_eq, List.mem_range] at hw
  obtain ⟨z, t, g, k⟩ := hw
  have c : ∀ a b, (a, b) ∈ startL → μ a b = 0 := fun a b h => z (a, b) h
  have c22 := c 2 2 (by decide +kernel)
  have c3003 := c 300 3 (by decide +kernel)
  have c23 := c 2 3 (by decide +kernel)
  have c30015 := c 300 15 (by decide +kernel)
  have c13 := c 1 3 (by decide +kernel)
  have c3004 := c 300 4 (by decide +kernel)
  have c16 := c 1 6 (by decide +kernel)
  have c31 := c 3 1 (by decide +kernel)
  have c30019 := c 300 19 (by decide +kernel)
  have c3001 := c 300 1 (by decide +kernel)
  have c69 := c 6 9 (by decide +kernel)
  have c3002 := c 300 2 (by decide +kernel)
  have c65 := c 6 5 (by decide +kernel)
  have c901 := c 90 1 (by decide +kernel)
  have c30026 := c 300 26 (by decide +kernel)
  have c66 := c 6 6 (by decide +kernel)
  have c900 := c 90 0 (by decide +kernel)
  have c30017 := c 300 17 (by decide +kernel)
  have c68 := c 6 8 (by decide +kernel)
  have c30016 := c 300 16 (by decide +kernel)
  have c610 := c 6 10 (by decide +kernel)
  have c67 := c 6 7 (by decide +kernel)
  have c717 := c 7 17 (by decide +kernel)
  have c30033 := c 300 33 (by decide +kernel)
  have c85 := c 8 5 (by decide +kernel)
  have c30045 := c 300 45 (by decide +kernel)
  have c87 := c 8 7 (by decide +kernel)
  have c86 := c 8 6 (by decide +kernel)
  clear z c
  have hsite : Isite μ := by
    unfold Isite
    rw [c3001, c69, c3002, c65, c901, c30026, c66, c900, c30017, c68, c30016, c610, c67]
    refine ⟨rfl, by decide, by decide, rfl, by decide, by decide, rfl, rfl, by decide, by decide, rfl, rfl, by decide, by decide, rfl, by decide, by decide, rfl, ?_, ?_, ?_⟩
    · exact ⟨fun x hx => by omega, fun x _ h6 => g x h6⟩
    · exact ⟨fun x hx => by omega, fun x _ h6 => k x h6⟩
    · exact ⟨fun x y hx => by omega, fun x hx => by omega, fun x y hx => by omega, fun x hx => by omega⟩
  unfold Inv
  refine ⟨?_, ?_, ?_, ?_, ?_, hsite, ?_, ?_, ?_, ?_⟩
  · rw [c22, c3003, c23, c30015]
    exact ⟨rfl, by decide, by decide, rfl, by decide, by decide, fun i hi => by omega⟩
  · rw [c13, c3004]
    exact ⟨rfl, by decide, by decide, fun i hi => by omega⟩
  · rw [c13, c16]
    refine ⟨by decide, by decide, fun i hi => by omega, fun i hi => by omega, fun d => ⟨?_, ?_⟩⟩
    · rintro ⟨i, hi, -⟩
      omega
    · rintro ⟨i, hi, -⟩
      omega
  · rw [c31, c30019]
    exact ⟨rfl, by decide, by decide, fun i hi => by omega⟩
  · exact fun i hi => t i hi
  · unfold Irefs
    rw [c900, c901]
    refine ⟨fun j => Or.inl ?_, fun j => ?_, fun j => ?_⟩
    · rw [r1 j]; decide
    · rw [r2 j]; decide
    · rw [r3 j]; decide
  · rw [c717, c30033]
    exact ⟨rfl, by decide, by decide, fun i hi => by omega⟩
  · rw [c85, c30045]
    exact ⟨rfl, by decide, by decide, fun i hi => by omega⟩
  · rw [c85, c87, c86]
    refine ⟨by decide, by decide, fun _ => ⟨by decide, by decide, fun i => ⟨fun hb => ?_, ?_⟩⟩⟩
    · simp at hb
    · rintro ⟨hi, -⟩
      omega
/-! ALL OF IT -/
theorem pure_ok : PureOK Inv := by
  intro μ _ h
  obtain ⟨b1, b2, b3⟩ := Inv_bb h
  refine ⟨b1, b2, b3, ?_, ?_, ?_, ?_, ?_, ?_, ?_, ?_, ?_, ?_, ?_, ?_, ?_, ?_, ?_, ?_, ?_, ?_, ?_, ?_⟩
  · exact fun a _ => step3_of h (fun ν h2 => s_gang h2 a)
  · exact fun a b _ _ => m_boat h a b
  · exact fun a b c _ _ _ => step2_of h (fun ν h2 => s_spell h2 a b c)
  · exact fun a b c d e _ _ _ _ _ => step2_of h (fun ν h2 => s_feed h2 a b c d e)
  · exact fun a _ => m_end h a
  · exact step2_of h (fun ν h2 => s_table h2)
  · exact fun a b _ _ => step3_of h (fun ν h2 => s_stone h2 a b)
  · exact fun a b _ _ => step2_of h (fun ν h2 => s_send h2 a b)
  · exact fun a _ => step2_of h (fun ν h2 => s_raise h2 a)
  · exact fun a _ => step2_of h (fun ν h2 => s_callOff h2 a)
  · exact fun a ha => step2_of h (fun ν h2 => s_pass h2 a ha)
  · exact fun a b _ _ => m_about h a b
  · exact fun a b _ _ => m_gangs h a b
  · exact step2n_of h (fun ν h2 h3 => s_plan h2 h3)
  · exact fun a b _ _ => m_planned h a b
  · exact fun a b c d _ _ _ _ => m_tally h a b c d
  · exact fun a _ => m_isTrue h a
  · exact step2_of h (fun ν h2 => s_quarrel h2)
  · exact fun a _ => step2_of h (fun ν h2 => s_quarrels h2 a)
  · exact fun a ha => m_count h a ha
