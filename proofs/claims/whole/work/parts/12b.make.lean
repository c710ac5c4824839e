/-! the layout beside a new id -/
theorem arrV_cong {cA : ClassId} {n : Nat} {f g : Nat → Value} (h : ∀ j, j < n → f j = g j) : arrV cA n f = arrV cA n g := by
  unfold arrV
  have : (fun j : Fin n => f j.val) = fun j : Fin n => g j.val := funext (fun j => h j.val j.isLt)
  rw [this]
def seE (e e' : va_E) : Prop := ∀ (D : va_G) (cl : List vw_C) (q : Nat) (H : Heap), va_at D cl (q, e) H → va_at D cl (q, e') H
theorem seE_rf (e : va_E) : seE e e := fun _ _ _ _ h => h
theorem seE_eq {e e' : va_E} (h : e' = e) : seE e e' := by rw [h]; exact seE_rf e
theorem seE_R {ad ad' : Nat → Nat} {cA : ClassId} {n : Nat} {f g : Nat → Int} (h : ∀ j, j < n → ptr ad' (g j) = ptr ad (f j)) : seE (ceR ad cA n f) (ceR ad' cA n g) := by
  intro D cl q H h0
  have h1 : H[q]? = some (arrV cA n (fun j => va_rf (ptr ad (f j)))) := h0
  show H[q]? = some (arrV cA n (fun j => va_rf (ptr ad' (g j))))
  have h2 := arrV_cong (cA := cA) (n := n) (f := fun j => va_rf (ptr ad (f j))) (g := fun j => va_rf (ptr ad' (g j))) (fun j hj => by rw [h j hj])
  rw [h1, h2]
theorem ptr_adu {ad : Nat → Nat} {o q : Nat} {x : Int} (h : x < 0 ∨ x.toNat ≠ o) : ptr (adu ad o q) x = ptr ad x := by
  unfold ptr
  split
  · rfl
  · rw [adu_ne (by omega)]
def refA (a : Nat) : Bool := a == 19 || a == 20 || a == 21
abbrev newO (o : Nat) : Prop := (100 ≤ o ∧ o < 300) ∨ o = 399
theorem se_0 {cy : Nat → ClassId} {ad : Nat → Nat} {o q : Nat} (ho : newO o) {f : Nat → Int} (hf : refA 0 = true → ∀ j, j < 30 → f j < 0 ∨ (f j).toNat ≠ o) : seE (lay cy ad 0 f) (lay cy (adu ad o q) 0 f) := by
  rw [ly_0, ly_0]
  refine seE_eq (ceO_adu ?_)
  simp only [List.mem_cons, List.not_mem_nil, or_false, forall_eq_or_imp, forall_eq]
  refine ⟨fun _ => Or.inr (by omega), fun _ => Or.inr (by omega), fun _ => Or.inr (by omega), fun _ => Or.inr (by omega), fun _ => Or.inr (by omega), fun _ => Or.inr (by omega), fun _ => Or.inr (by omega), fun _ => Or.inr (by omega)⟩
theorem se_1 {cy : Nat → ClassId} {ad : Nat → Nat} {o q : Nat} (ho : newO o) {f : Nat → Int} (hf : refA 1 = true → ∀ j, j < 30 → f j < 0 ∨ (f j).toNat ≠ o) : seE (lay cy ad 1 f) (lay cy (adu ad o q) 1 f) := by
  rw [ly_1, ly_1]
  refine seE_eq (ceO_adu ?_)
  simp only [List.mem_cons, List.not_mem_nil, or_false, forall_eq_or_imp, forall_eq]
  refine ⟨fun _ => Or.inr (by omega), fun _ => Or.inr (by omega), fun _ => Or.inr (by omega), fun h => absurd h (by decide), fun _ => Or.inr (by omega), fun _ => Or.inr (by omega), fun h => absurd h (by decide)⟩
theorem se_2 {cy : Nat → ClassId} {ad : Nat → Nat} {o q : Nat} (ho : newO o) {f : Nat → Int} (hf : refA 2 = true → ∀ j, j < 30 → f j < 0 ∨ (f j).toNat ≠ o) : seE (lay cy ad 2 f) (lay cy (adu ad o q) 2 f) := by
  rw [ly_2, ly_2]
  refine seE_eq (ceO_adu ?_)
  simp only [List.mem_cons, List.not_mem_nil, or_false, forall_eq_or_imp, forall_eq]
  refine ⟨fun _ => Or.inr (by omega), fun _ => Or.inr (by omega), fun h => absurd h (by decide), fun h => absurd h (by decide)⟩
theorem se_3 {cy : Nat → ClassId} {ad : Nat → Nat} {o q : Nat} (ho : newO o) {f : Nat → Int} (hf : refA 3 = true → ∀ j, j < 30 → f j < 0 ∨ (f j).toNat ≠ o) : seE (lay cy ad 3 f) (lay cy (adu ad o q) 3 f) := by
  rw [ly_3, ly_3]
  refine seE_eq (ceO_adu ?_)
  simp only [List.mem_cons, List.not_mem_nil, or_false, forall_eq_or_imp, forall_eq]
  refine ⟨fun _ => Or.inr (by omega), fun h => absurd h (by decide)⟩
theorem se_4 {cy : Nat → ClassId} {ad : Nat → Nat} {o q : Nat} (ho : newO o) {f : Nat → Int} (hf : refA 4 = true → ∀ j, j < 30 → f j < 0 ∨ (f j).toNat ≠ o) : seE (lay cy ad 4 f) (lay cy (adu ad o q) 4 f) := by
  rw [ly_4, ly_4]
  refine seE_eq (ceO_adu ?_)
  simp only [List.mem_cons, List.not_mem_nil, or_false, forall_eq_or_imp, forall_eq]
  exact fun _ => Or.inr (by omega)
theorem se_5 {cy : Nat → ClassId} {ad : Nat → Nat} {o q : Nat} (ho : newO o) {f : Nat → Int} (hf : refA 5 = true → ∀ j, j < 30 → f j < 0 ∨ (f j).toNat ≠ o) : seE (lay cy ad 5 f) (lay cy (adu ad o q) 5 f) := by
  rw [ly_5, ly_5]
  refine seE_eq (ceO_adu ?_)
  simp only [List.mem_cons, List.not_mem_nil, or_false, forall_eq_or_imp, forall_eq]
  refine ⟨fun _ => Or.inr (by omega), fun _ => Or.inr (by omega), fun h => absurd h (by decide), fun h => absurd h (by decide), fun h => absurd h (by decide), fun h => absurd h (by decide)⟩
theorem se_6 {cy : Nat → ClassId} {ad : Nat → Nat} {o q : Nat} (ho : newO o) {f : Nat → Int} (hf : refA 6 = true → ∀ j, j < 30 → f j < 0 ∨ (f j).toNat ≠ o) : seE (lay cy ad 6 f) (lay cy (adu ad o q) 6 f) := by
  rw [ly_6, ly_6]
  refine seE_eq (ceO_adu ?_)
  simp only [List.mem_cons, List.not_mem_nil, or_false, forall_eq_or_imp, forall_eq]
  refine ⟨fun _ => Or.inr (by omega), fun _ => Or.inr (by omega), fun _ => Or.inr (by omega), fun _ => Or.inr (by omega), fun _ => Or.inr (by omega), fun h => absurd h (by decide), fun h => absurd h (by decide), fun h => absurd h (by decide), fun h => absurd h (by decide), fun h => absurd h (by decide), fun h => absurd h (by decide)⟩
theorem se_7 {cy : Nat → ClassId} {ad : Nat → Nat} {o q : Nat} (ho : newO o) {f : Nat → Int} (hf : refA 7 = true → ∀ j, j < 30 → f j < 0 ∨ (f j).toNat ≠ o) : seE (lay cy ad 7 f) (lay cy (adu ad o q) 7 f) := by
  rw [ly_7, ly_7]
  refine seE_eq (ceO_adu ?_)
  simp only [List.mem_cons, List.not_mem_nil, or_false, forall_eq_or_imp, forall_eq]
  refine ⟨fun _ => Or.inr (by omega), fun _ => Or.inr (by omega), fun _ => Or.inr (by omega), fun _ => Or.inr (by omega), fun _ => Or.inr (by omega), fun h => absurd h (by decide), fun _ => Or.inr (by omega), fun _ => Or.inr (by omega), fun _ => Or.inr (by omega), fun _ => Or.inr (by omega), fun _ => Or.inr (by omega), fun _ => Or.inr (by omega), fun _ => Or.inr (by omega), fun _ => Or.inr (by omega), fun h => absurd h (by decide), fun h => absurd h (by decide), fun _ => Or.inr (by omega), fun h => absurd h (by decide)⟩
theorem se_8 {cy : Nat → ClassId} {ad : Nat → Nat} {o q : Nat} (ho : newO o) {f : Nat → Int} (hf : refA 8 = true → ∀ j, j < 30 → f j < 0 ∨ (f j).toNat ≠ o) : seE (lay cy ad 8 f) (lay cy (adu ad o q) 8 f) := by
  rw [ly_8, ly_8]
  refine seE_eq (ceO_adu ?_)
  simp only [List.mem_cons, List.not_mem_nil, or_false, forall_eq_or_imp, forall_eq]
  refine ⟨fun _ => Or.inr (by omega), fun _ => Or.inr (by omega), fun _ => Or.inr (by omega), fun _ => Or.inr (by omega), fun _ => Or.inr (by omega), fun h => absurd h (by decide), fun h => absurd h (by decide), fun h => absurd h (by decide), fun _ => Or.inr (by omega), fun _ => Or.inr (by omega), fun h => absurd h (by decide), fun _ => Or.inr (by omega), fun _ => Or.inr (by omega)⟩
theorem se_9 {cy : Nat → ClassId} {ad : Nat → Nat} {o q : Nat} (ho : newO o) {f : Nat → Int} (hf : refA 9 = true → ∀ j, j < 30 → f j < 0 ∨ (f j).toNat ≠ o) : seE (lay cy ad 9 f) (lay cy (adu ad o q) 9 f) := seE_rf _
theorem se_10 {cy : Nat → ClassId} {ad : Nat → Nat} {o q : Nat} (ho : newO o) {f : Nat → Int} (hf : refA 10 = true → ∀ j, j < 30 → f j < 0 ∨ (f j).toNat ≠ o) : seE (lay cy ad 10 f) (lay cy (adu ad o q) 10 f) := seE_rf _
theorem se_11 {cy : Nat → ClassId} {ad : Nat → Nat} {o q : Nat} (ho : newO o) {f : Nat → Int} (hf : refA 11 = true → ∀ j, j < 30 → f j < 0 ∨ (f j).toNat ≠ o) : seE (lay cy ad 11 f) (lay cy (adu ad o q) 11 f) := seE_rf _
theorem se_12 {cy : Nat → ClassId} {ad : Nat → Nat} {o q : Nat} (ho : newO o) {f : Nat → Int} (hf : refA 12 = true → ∀ j, j < 30 → f j < 0 ∨ (f j).toNat ≠ o) : seE (lay cy ad 12 f) (lay cy (adu ad o q) 12 f) := seE_rf _
theorem se_13 {cy : Nat → ClassId} {ad : Nat → Nat} {o q : Nat} (ho : newO o) {f : Nat → Int} (hf : refA 13 = true → ∀ j, j < 30 → f j < 0 ∨ (f j).toNat ≠ o) : seE (lay cy ad 13 f) (lay cy (adu ad o q) 13 f) := seE_rf _
theorem se_14 {cy : Nat → ClassId} {ad : Nat → Nat} {o q : Nat} (ho : newO o) {f : Nat → Int} (hf : refA 14 = true → ∀ j, j < 30 → f j < 0 ∨ (f j).toNat ≠ o) : seE (lay cy ad 14 f) (lay cy (adu ad o q) 14 f) := seE_rf _
theorem se_15 {cy : Nat → ClassId} {ad : Nat → Nat} {o q : Nat} (ho : newO o) {f : Nat → Int} (hf : refA 15 = true → ∀ j, j < 30 → f j < 0 ∨ (f j).toNat ≠ o) : seE (lay cy ad 15 f) (lay cy (adu ad o q) 15 f) := seE_rf _
theorem se_16 {cy : Nat → ClassId} {ad : Nat → Nat} {o q : Nat} (ho : newO o) {f : Nat → Int} (hf : refA 16 = true → ∀ j, j < 30 → f j < 0 ∨ (f j).toNat ≠ o) : seE (lay cy ad 16 f) (lay cy (adu ad o q) 16 f) := seE_rf _
theorem se_17 {cy : Nat → ClassId} {ad : Nat → Nat} {o q : Nat} (ho : newO o) {f : Nat → Int} (hf : refA 17 = true → ∀ j, j < 30 → f j < 0 ∨ (f j).toNat ≠ o) : seE (lay cy ad 17 f) (lay cy (adu ad o q) 17 f) := seE_rf _
theorem se_18 {cy : Nat → ClassId} {ad : Nat → Nat} {o q : Nat} (ho : newO o) {f : Nat → Int} (hf : refA 18 = true → ∀ j, j < 30 → f j < 0 ∨ (f j).toNat ≠ o) : seE (lay cy ad 18 f) (lay cy (adu ad o q) 18 f) := seE_rf _
theorem se_19 {cy : Nat → ClassId} {ad : Nat → Nat} {o q : Nat} (ho : newO o) {f : Nat → Int} (hf : refA 19 = true → ∀ j, j < 30 → f j < 0 ∨ (f j).toNat ≠ o) : seE (lay cy ad 19 f) (lay cy (adu ad o q) 19 f) := by
  rw [ly_19, ly_19]
  exact seE_R (fun j hj => ptr_adu (hf rfl j (by omega)))
theorem se_20 {cy : Nat → ClassId} {ad : Nat → Nat} {o q : Nat} (ho : newO o) {f : Nat → Int} (hf : refA 20 = true → ∀ j, j < 30 → f j < 0 ∨ (f j).toNat ≠ o) : seE (lay cy ad 20 f) (lay cy (adu ad o q) 20 f) := by
  rw [ly_20, ly_20]
  exact seE_R (fun j hj => ptr_adu (hf rfl j (by omega)))
theorem se_21 {cy : Nat → ClassId} {ad : Nat → Nat} {o q : Nat} (ho : newO o) {f : Nat → Int} (hf : refA 21 = true → ∀ j, j < 30 → f j < 0 ∨ (f j).toNat ≠ o) : seE (lay cy ad 21 f) (lay cy (adu ad o q) 21 f) := by
  rw [ly_21, ly_21]
  exact seE_R (fun j hj => ptr_adu (hf rfl j (by omega)))
theorem se_22 {cy : Nat → ClassId} {ad : Nat → Nat} {o q : Nat} (ho : newO o) {f : Nat → Int} (hf : refA 22 = true → ∀ j, j < 30 → f j < 0 ∨ (f j).toNat ≠ o) : seE (lay cy ad 22 f) (lay cy (adu ad o q) 22 f) := seE_rf _
theorem se_23 {cy : Nat → ClassId} {ad : Nat → Nat} {o q : Nat} (ho : newO o) {f : Nat → Int} (hf : refA 23 = true → ∀ j, j < 30 → f j < 0 ∨ (f j).toNat ≠ o) : seE (lay cy ad 23 f) (lay cy (adu ad o q) 23 f) := by
  rw [ly_23, ly_23]
  exact seE_R (fun j hj => ptr_adu (Or.inr (by omega)))
theorem se_24 {cy : Nat → ClassId} {ad : Nat → Nat} {o q : Nat} (ho : newO o) {f : Nat → Int} (hf : refA 24 = true → ∀ j, j < 30 → f j < 0 ∨ (f j).toNat ≠ o) : seE (lay cy ad 24 f) (lay cy (adu ad o q) 24 f) := seE_rf _
theorem se_25 {cy : Nat → ClassId} {ad : Nat → Nat} {o q : Nat} (ho : newO o) {f : Nat → Int} (hf : refA 25 = true → ∀ j, j < 30 → f j < 0 ∨ (f j).toNat ≠ o) : seE (lay cy ad 25 f) (lay cy (adu ad o q) 25 f) := seE_rf _
theorem se_26 {cy : Nat → ClassId} {ad : Nat → Nat} {o q : Nat} (ho : newO o) {f : Nat → Int} (hf : refA 26 = true → ∀ j, j < 30 → f j < 0 ∨ (f j).toNat ≠ o) : seE (lay cy ad 26 f) (lay cy (adu ad o q) 26 f) := seE_rf _
theorem se_27 {cy : Nat → ClassId} {ad : Nat → Nat} {o q : Nat} (ho : newO o) {f : Nat → Int} (hf : refA 27 = true → ∀ j, j < 30 → f j < 0 ∨ (f j).toNat ≠ o) : seE (lay cy ad 27 f) (lay cy (adu ad o q) 27 f) := seE_rf _
theorem se_28 {cy : Nat → ClassId} {ad : Nat → Nat} {o q : Nat} (ho : newO o) {f : Nat → Int} (hf : refA 28 = true → ∀ j, j < 30 → f j < 0 ∨ (f j).toNat ≠ o) : seE (lay cy ad 28 f) (lay cy (adu ad o q) 28 f) := seE_rf _
theorem se_29 {cy : Nat → ClassId} {ad : Nat → Nat} {o q : Nat} (ho : newO o) {f : Nat → Int} (hf : refA 29 = true → ∀ j, j < 30 → f j < 0 ∨ (f j).toNat ≠ o) : seE (lay cy ad 29 f) (lay cy (adu ad o q) 29 f) := seE_rf _
theorem se_30 {cy : Nat → ClassId} {ad : Nat → Nat} {o q : Nat} (ho : newO o) {f : Nat → Int} (hf : refA 30 = true → ∀ j, j < 30 → f j < 0 ∨ (f j).toNat ≠ o) : seE (lay cy ad 30 f) (lay cy (adu ad o q) 30 f) := seE_rf _
theorem se_31 {cy : Nat → ClassId} {ad : Nat → Nat} {o q : Nat} (ho : newO o) {f : Nat → Int} (hf : refA 31 = true → ∀ j, j < 30 → f j < 0 ∨ (f j).toNat ≠ o) : seE (lay cy ad 31 f) (lay cy (adu ad o q) 31 f) := by
  rw [ly_31, ly_31]
  exact seE_R (fun j hj => ptr_adu (Or.inr (by omega)))
theorem se_32 {cy : Nat → ClassId} {ad : Nat → Nat} {o q : Nat} (ho : newO o) {f : Nat → Int} (hf : refA 32 = true → ∀ j, j < 30 → f j < 0 ∨ (f j).toNat ≠ o) : seE (lay cy ad 32 f) (lay cy (adu ad o q) 32 f) := seE_rf _
theorem se_33 {cy : Nat → ClassId} {ad : Nat → Nat} {o q : Nat} (ho : newO o) {f : Nat → Int} (hf : refA 33 = true → ∀ j, j < 30 → f j < 0 ∨ (f j).toNat ≠ o) : seE (lay cy ad 33 f) (lay cy (adu ad o q) 33 f) := seE_rf _
theorem se_34 {cy : Nat → ClassId} {ad : Nat → Nat} {o q : Nat} (ho : newO o) {f : Nat → Int} (hf : refA 34 = true → ∀ j, j < 30 → f j < 0 ∨ (f j).toNat ≠ o) : seE (lay cy ad 34 f) (lay cy (adu ad o q) 34 f) := seE_rf _
theorem se_35 {cy : Nat → ClassId} {ad : Nat → Nat} {o q : Nat} (ho : newO o) {f : Nat → Int} (hf : refA 35 = true → ∀ j, j < 30 → f j < 0 ∨ (f j).toNat ≠ o) : seE (lay cy ad 35 f) (lay cy (adu ad o q) 35 f) := seE_rf _
theorem se_36 {cy : Nat → ClassId} {ad : Nat → Nat} {o q : Nat} (ho : newO o) {f : Nat → Int} (hf : refA 36 = true → ∀ j, j < 30 → f j < 0 ∨ (f j).toNat ≠ o) : seE (lay cy ad 36 f) (lay cy (adu ad o q) 36 f) := seE_rf _
theorem se_37 {cy : Nat → ClassId} {ad : Nat → Nat} {o q : Nat} (ho : newO o) {f : Nat → Int} (hf : refA 37 = true → ∀ j, j < 30 → f j < 0 ∨ (f j).toNat ≠ o) : seE (lay cy ad 37 f) (lay cy (adu ad o q) 37 f) := seE_rf _
theorem se_38 {cy : Nat → ClassId} {ad : Nat → Nat} {o q : Nat} (ho : newO o) {f : Nat → Int} (hf : refA 38 = true → ∀ j, j < 30 → f j < 0 ∨ (f j).toNat ≠ o) : seE (lay cy ad 38 f) (lay cy (adu ad o q) 38 f) := seE_rf _
theorem se_39 {cy : Nat → ClassId} {ad : Nat → Nat} {o q : Nat} (ho : newO o) {f : Nat → Int} (hf : refA 39 = true → ∀ j, j < 30 → f j < 0 ∨ (f j).toNat ≠ o) : seE (lay cy ad 39 f) (lay cy (adu ad o q) 39 f) := seE_rf _
theorem se_40 {cy : Nat → ClassId} {ad : Nat → Nat} {o q : Nat} (ho : newO o) {f : Nat → Int} (hf : refA 40 = true → ∀ j, j < 30 → f j < 0 ∨ (f j).toNat ≠ o) : seE (lay cy ad 40 f) (lay cy (adu ad o q) 40 f) := seE_rf _
theorem se_41 {cy : Nat → ClassId} {ad : Nat → Nat} {o q : Nat} (ho : newO o) {f : Nat → Int} (hf : refA 41 = true → ∀ j, j < 30 → f j < 0 ∨ (f j).toNat ≠ o) : seE (lay cy ad 41 f) (lay cy (adu ad o q) 41 f) := seE_rf _
theorem se_42 {cy : Nat → ClassId} {ad : Nat → Nat} {o q : Nat} (ho : newO o) {f : Nat → Int} (hf : refA 42 = true → ∀ j, j < 30 → f j < 0 ∨ (f j).toNat ≠ o) : seE (lay cy ad 42 f) (lay cy (adu ad o q) 42 f) := seE_rf _
theorem se_43 {cy : Nat → ClassId} {ad : Nat → Nat} {o q : Nat} (ho : newO o) {f : Nat → Int} (hf : refA 43 = true → ∀ j, j < 30 → f j < 0 ∨ (f j).toNat ≠ o) : seE (lay cy ad 43 f) (lay cy (adu ad o q) 43 f) := seE_rf _
theorem se_44 {cy : Nat → ClassId} {ad : Nat → Nat} {o q : Nat} (ho : newO o) {f : Nat → Int} (hf : refA 44 = true → ∀ j, j < 30 → f j < 0 ∨ (f j).toNat ≠ o) : seE (lay cy ad 44 f) (lay cy (adu ad o q) 44 f) := seE_rf _
theorem se_45 {cy : Nat → ClassId} {ad : Nat → Nat} {o q : Nat} (ho : newO o) {f : Nat → Int} (hf : refA 45 = true → ∀ j, j < 30 → f j < 0 ∨ (f j).toNat ≠ o) : seE (lay cy ad 45 f) (lay cy (adu ad o q) 45 f) := seE_rf _
theorem se_46 {cy : Nat → ClassId} {ad : Nat → Nat} {o q : Nat} (ho : newO o) {f : Nat → Int} (hf : refA 46 = true → ∀ j, j < 30 → f j < 0 ∨ (f j).toNat ≠ o) : seE (lay cy ad 46 f) (lay cy (adu ad o q) 46 f) := seE_rf _
theorem se_47 {cy : Nat → ClassId} {ad : Nat → Nat} {o q : Nat} (ho : newO o) {f : Nat → Int} (hf : refA 47 = true → ∀ j, j < 30 → f j < 0 ∨ (f j).toNat ≠ o) : seE (lay cy ad 47 f) (lay cy (adu ad o q) 47 f) := seE_rf _
theorem se_48 {cy : Nat → ClassId} {ad : Nat → Nat} {o q : Nat} (ho : newO o) {f : Nat → Int} (hf : refA 48 = true → ∀ j, j < 30 → f j < 0 ∨ (f j).toNat ≠ o) : seE (lay cy ad 48 f) (lay cy (adu ad o q) 48 f) := seE_rf _
theorem se_49 {cy : Nat → ClassId} {ad : Nat → Nat} {o q : Nat} (ho : newO o) {f : Nat → Int} (hf : refA 49 = true → ∀ j, j < 30 → f j < 0 ∨ (f j).toNat ≠ o) : seE (lay cy ad 49 f) (lay cy (adu ad o q) 49 f) := seE_rf _
theorem se_300 {cy : Nat → ClassId} {ad : Nat → Nat} {o q : Nat} (ho : newO o) {f : Nat → Int} (hf : refA 300 = true → ∀ j, j < 30 → f j < 0 ∨ (f j).toNat ≠ o) : seE (lay cy ad 300 f) (lay cy (adu ad o q) 300 f) := by
  rw [ly_300, ly_300]
  refine seE_eq (ceO_adu ?_)
  simp only [List.mem_cons, List.not_mem_nil, or_false, forall_eq_or_imp, forall_eq]
  refine ⟨fun h => absurd h (by decide), fun h => absurd h (by decide), fun h => absurd h (by decide), fun h => absurd h (by decide), fun h => absurd h (by decide), fun _ => Or.inr (by omega), fun _ => Or.inr (by omega), fun _ => Or.inr (by omega), fun _ => Or.inr (by omega), fun _ => Or.inr (by omega), fun _ => Or.inr (by omega), fun _ => Or.inr (by omega), fun _ => Or.inr (by omega), fun _ => Or.inr (by omega), fun _ => Or.inr (by omega), fun h => absurd h (by decide), fun h => absurd h (by decide), fun h => absurd h (by decide), fun _ => Or.inr (by omega), fun h => absurd h (by decide), fun h => absurd h (by decide), fun h => absurd h (by decide), fun h => absurd h (by decide), fun _ => Or.inr (by omega), fun _ => Or.inr (by omega), fun _ => Or.inr (by omega), fun h => absurd h (by decide), fun _ => Or.inr (by omega), fun _ => Or.inr (by omega), fun _ => Or.inr (by omega), fun _ => Or.inr (by omega), fun _ => Or.inr (by omega), fun h => absurd h (by decide), fun h => absurd h (by decide), fun _ => Or.inr (by omega), fun _ => Or.inr (by omega), fun _ => Or.inr (by omega), fun _ => Or.inr (by omega), fun _ => Or.inr (by omega), fun _ => Or.inr (by omega), fun _ => Or.inr (by omega), fun _ => Or.inr (by omega), fun _ => Or.inr (by omega), fun _ => Or.inr (by omega), fun _ => Or.inr (by omega), fun h => absurd h (by decide), fun _ => Or.inr (by omega), fun _ => Or.inr (by omega), fun _ => Or.inr (by omega), fun _ => Or.inr (by omega), fun _ => Or.inr (by omega), fun h => absurd h (by decide), fun _ => Or.inr (by omega), fun _ => Or.inr (by omega)⟩
theorem se_301 {cy : Nat → ClassId} {ad : Nat → Nat} {o q : Nat} (ho : newO o) {f : Nat → Int} (hf : refA 301 = true → ∀ j, j < 30 → f j < 0 ∨ (f j).toNat ≠ o) : seE (lay cy ad 301 f) (lay cy (adu ad o q) 301 f) := seE_rf _
theorem se_302 {cy : Nat → ClassId} {ad : Nat → Nat} {o q : Nat} (ho : newO o) {f : Nat → Int} (hf : refA 302 = true → ∀ j, j < 30 → f j < 0 ∨ (f j).toNat ≠ o) : seE (lay cy ad 302 f) (lay cy (adu ad o q) 302 f) := seE_rf _
theorem se_303 {cy : Nat → ClassId} {ad : Nat → Nat} {o q : Nat} (ho : newO o) {f : Nat → Int} (hf : refA 303 = true → ∀ j, j < 30 → f j < 0 ∨ (f j).toNat ≠ o) : seE (lay cy ad 303 f) (lay cy (adu ad o q) 303 f) := seE_rf _
theorem se_304 {cy : Nat → ClassId} {ad : Nat → Nat} {o q : Nat} (ho : newO o) {f : Nat → Int} (hf : refA 304 = true → ∀ j, j < 30 → f j < 0 ∨ (f j).toNat ≠ o) : seE (lay cy ad 304 f) (lay cy (adu ad o q) 304 f) := seE_rf _
theorem se_305 {cy : Nat → ClassId} {ad : Nat → Nat} {o q : Nat} (ho : newO o) {f : Nat → Int} (hf : refA 305 = true → ∀ j, j < 30 → f j < 0 ∨ (f j).toNat ≠ o) : seE (lay cy ad 305 f) (lay cy (adu ad o q) 305 f) := seE_rf _
theorem se_306 {cy : Nat → ClassId} {ad : Nat → Nat} {o q : Nat} (ho : newO o) {f : Nat → Int} (hf : refA 306 = true → ∀ j, j < 30 → f j < 0 ∨ (f j).toNat ≠ o) : seE (lay cy ad 306 f) (lay cy (adu ad o q) 306 f) := seE_rf _
theorem se_307 {cy : Nat → ClassId} {ad : Nat → Nat} {o q : Nat} (ho : newO o) {f : Nat → Int} (hf : refA 307 = true → ∀ j, j < 30 → f j < 0 ∨ (f j).toNat ≠ o) : seE (lay cy ad 307 f) (lay cy (adu ad o q) 307 f) := seE_rf _
theorem se_308 {cy : Nat → ClassId} {ad : Nat → Nat} {o q : Nat} (ho : newO o) {f : Nat → Int} (hf : refA 308 = true → ∀ j, j < 30 → f j < 0 ∨ (f j).toNat ≠ o) : seE (lay cy ad 308 f) (lay cy (adu ad o q) 308 f) := seE_rf _
theorem se_309 {cy : Nat → ClassId} {ad : Nat → Nat} {o q : Nat} (ho : newO o) {f : Nat → Int} (hf : refA 309 = true → ∀ j, j < 30 → f j < 0 ∨ (f j).toNat ≠ o) : seE (lay cy ad 309 f) (lay cy (adu ad o q) 309 f) := seE_rf _
theorem se_310 {cy : Nat → ClassId} {ad : Nat → Nat} {o q : Nat} (ho : newO o) {f : Nat → Int} (hf : refA 310 = true → ∀ j, j < 30 → f j < 0 ∨ (f j).toNat ≠ o) : seE (lay cy ad 310 f) (lay cy (adu ad o q) 310 f) := seE_rf _
theorem se_311 {cy : Nat → ClassId} {ad : Nat → Nat} {o q : Nat} (ho : newO o) {f : Nat → Int} (hf : refA 311 = true → ∀ j, j < 30 → f j < 0 ∨ (f j).toNat ≠ o) : seE (lay cy ad 311 f) (lay cy (adu ad o q) 311 f) := seE_rf _
theorem se_312 {cy : Nat → ClassId} {ad : Nat → Nat} {o q : Nat} (ho : newO o) {f : Nat → Int} (hf : refA 312 = true → ∀ j, j < 30 → f j < 0 ∨ (f j).toNat ≠ o) : seE (lay cy ad 312 f) (lay cy (adu ad o q) 312 f) := seE_rf _
theorem se_313 {cy : Nat → ClassId} {ad : Nat → Nat} {o q : Nat} (ho : newO o) {f : Nat → Int} (hf : refA 313 = true → ∀ j, j < 30 → f j < 0 ∨ (f j).toNat ≠ o) : seE (lay cy ad 313 f) (lay cy (adu ad o q) 313 f) := seE_rf _
theorem se_314 {cy : Nat → ClassId} {ad : Nat → Nat} {o q : Nat} (ho : newO o) {f : Nat → Int} (hf : refA 314 = true → ∀ j, j < 30 → f j < 0 ∨ (f j).toNat ≠ o) : seE (lay cy ad 314 f) (lay cy (adu ad o q) 314 f) := seE_rf _
theorem se_315 {cy : Nat → ClassId} {ad : Nat → Nat} {o q : Nat} (ho : newO o) {f : Nat → Int} (hf : refA 315 = true → ∀ j, j < 30 → f j < 0 ∨ (f j).toNat ≠ o) : seE (lay cy ad 315 f) (lay cy (adu ad o q) 315 f) := seE_rf _
theorem se_316 {cy : Nat → ClassId} {ad : Nat → Nat} {o q : Nat} (ho : newO o) {f : Nat → Int} (hf : refA 316 = true → ∀ j, j < 30 → f j < 0 ∨ (f j).toNat ≠ o) : seE (lay cy ad 316 f) (lay cy (adu ad o q) 316 f) := seE_rf _
theorem se_317 {cy : Nat → ClassId} {ad : Nat → Nat} {o q : Nat} (ho : newO o) {f : Nat → Int} (hf : refA 317 = true → ∀ j, j < 30 → f j < 0 ∨ (f j).toNat ≠ o) : seE (lay cy ad 317 f) (lay cy (adu ad o q) 317 f) := seE_rf _
theorem se_318 {cy : Nat → ClassId} {ad : Nat → Nat} {o q : Nat} (ho : newO o) {f : Nat → Int} (hf : refA 318 = true → ∀ j, j < 30 → f j < 0 ∨ (f j).toNat ≠ o) : seE (lay cy ad 318 f) (lay cy (adu ad o q) 318 f) := seE_rf _
theorem se_319 {cy : Nat → ClassId} {ad : Nat → Nat} {o q : Nat} (ho : newO o) {f : Nat → Int} (hf : refA 319 = true → ∀ j, j < 30 → f j < 0 ∨ (f j).toNat ≠ o) : seE (lay cy ad 319 f) (lay cy (adu ad o q) 319 f) := seE_rf _
theorem se_320 {cy : Nat → ClassId} {ad : Nat → Nat} {o q : Nat} (ho : newO o) {f : Nat → Int} (hf : refA 320 = true → ∀ j, j < 30 → f j < 0 ∨ (f j).toNat ≠ o) : seE (lay cy ad 320 f) (lay cy (adu ad o q) 320 f) := seE_rf _
theorem se_321 {cy : Nat → ClassId} {ad : Nat → Nat} {o q : Nat} (ho : newO o) {f : Nat → Int} (hf : refA 321 = true → ∀ j, j < 30 → f j < 0 ∨ (f j).toNat ≠ o) : seE (lay cy ad 321 f) (lay cy (adu ad o q) 321 f) := seE_rf _
theorem se_322 {cy : Nat → ClassId} {ad : Nat → Nat} {o q : Nat} (ho : newO o) {f : Nat → Int} (hf : refA 322 = true → ∀ j, j < 30 → f j < 0 ∨ (f j).toNat ≠ o) : seE (lay cy ad 322 f) (lay cy (adu ad o q) 322 f) := seE_rf _
theorem se_323 {cy : Nat → ClassId} {ad : Nat → Nat} {o q : Nat} (ho : newO o) {f : Nat → Int} (hf : refA 323 = true → ∀ j, j < 30 → f j < 0 ∨ (f j).toNat ≠ o) : seE (lay cy ad 323 f) (lay cy (adu ad o q) 323 f) := seE_rf _
theorem se_324 {cy : Nat → ClassId} {ad : Nat → Nat} {o q : Nat} (ho : newO o) {f : Nat → Int} (hf : refA 324 = true → ∀ j, j < 30 → f j < 0 ∨ (f j).toNat ≠ o) : seE (lay cy ad 324 f) (lay cy (adu ad o q) 324 f) := seE_rf _
theorem se_325 {cy : Nat → ClassId} {ad : Nat → Nat} {o q : Nat} (ho : newO o) {f : Nat → Int} (hf : refA 325 = true → ∀ j, j < 30 → f j < 0 ∨ (f j).toNat ≠ o) : seE (lay cy ad 325 f) (lay cy (adu ad o q) 325 f) := seE_rf _
theorem se_326 {cy : Nat → ClassId} {ad : Nat → Nat} {o q : Nat} (ho : newO o) {f : Nat → Int} (hf : refA 326 = true → ∀ j, j < 30 → f j < 0 ∨ (f j).toNat ≠ o) : seE (lay cy ad 326 f) (lay cy (adu ad o q) 326 f) := seE_rf _
theorem se_327 {cy : Nat → ClassId} {ad : Nat → Nat} {o q : Nat} (ho : newO o) {f : Nat → Int} (hf : refA 327 = true → ∀ j, j < 30 → f j < 0 ∨ (f j).toNat ≠ o) : seE (lay cy ad 327 f) (lay cy (adu ad o q) 327 f) := seE_rf _
theorem se_328 {cy : Nat → ClassId} {ad : Nat → Nat} {o q : Nat} (ho : newO o) {f : Nat → Int} (hf : refA 328 = true → ∀ j, j < 30 → f j < 0 ∨ (f j).toNat ≠ o) : seE (lay cy ad 328 f) (lay cy (adu ad o q) 328 f) := seE_rf _
theorem se_329 {cy : Nat → ClassId} {ad : Nat → Nat} {o q : Nat} (ho : newO o) {f : Nat → Int} (hf : refA 329 = true → ∀ j, j < 30 → f j < 0 ∨ (f j).toNat ≠ o) : seE (lay cy ad 329 f) (lay cy (adu ad o q) 329 f) := seE_rf _
theorem se_330 {cy : Nat → ClassId} {ad : Nat → Nat} {o q : Nat} (ho : newO o) {f : Nat → Int} (hf : refA 330 = true → ∀ j, j < 30 → f j < 0 ∨ (f j).toNat ≠ o) : seE (lay cy ad 330 f) (lay cy (adu ad o q) 330 f) := seE_rf _
theorem se_331 {cy : Nat → ClassId} {ad : Nat → Nat} {o q : Nat} (ho : newO o) {f : Nat → Int} (hf : refA 331 = true → ∀ j, j < 30 → f j < 0 ∨ (f j).toNat ≠ o) : seE (lay cy ad 331 f) (lay cy (adu ad o q) 331 f) := seE_rf _
theorem se_332 {cy : Nat → ClassId} {ad : Nat → Nat} {o q : Nat} (ho : newO o) {f : Nat → Int} (hf : refA 332 = true → ∀ j, j < 30 → f j < 0 ∨ (f j).toNat ≠ o) : seE (lay cy ad 332 f) (lay cy (adu ad o q) 332 f) := seE_rf _
theorem se_333 {cy : Nat → ClassId} {ad : Nat → Nat} {o q : Nat} (ho : newO o) {f : Nat → Int} (hf : refA 333 = true → ∀ j, j < 30 → f j < 0 ∨ (f j).toNat ≠ o) : seE (lay cy ad 333 f) (lay cy (adu ad o q) 333 f) := seE_rf _
theorem se_334 {cy : Nat → ClassId} {ad : Nat → Nat} {o q : Nat} (ho : newO o) {f : Nat → Int} (hf : refA 334 = true → ∀ j, j < 30 → f j < 0 ∨ (f j).toNat ≠ o) : seE (lay cy ad 334 f) (lay cy (adu ad o q) 334 f) := seE_rf _
theorem se_335 {cy : Nat → ClassId} {ad : Nat → Nat} {o q : Nat} (ho : newO o) {f : Nat → Int} (hf : refA 335 = true → ∀ j, j < 30 → f j < 0 ∨ (f j).toNat ≠ o) : seE (lay cy ad 335 f) (lay cy (adu ad o q) 335 f) := seE_rf _
theorem se_336 {cy : Nat → ClassId} {ad : Nat → Nat} {o q : Nat} (ho : newO o) {f : Nat → Int} (hf : refA 336 = true → ∀ j, j < 30 → f j < 0 ∨ (f j).toNat ≠ o) : seE (lay cy ad 336 f) (lay cy (adu ad o q) 336 f) := seE_rf _
theorem se_337 {cy : Nat → ClassId} {ad : Nat → Nat} {o q : Nat} (ho : newO o) {f : Nat → Int} (hf : refA 337 = true → ∀ j, j < 30 → f j < 0 ∨ (f j).toNat ≠ o) : seE (lay cy ad 337 f) (lay cy (adu ad o q) 337 f) := by
  rw [ly_337, ly_337]
  exact seE_R (fun j hj => ptr_adu (Or.inr (by omega)))
theorem se_338 {cy : Nat → ClassId} {ad : Nat → Nat} {o q : Nat} (ho : newO o) {f : Nat → Int} (hf : refA 338 = true → ∀ j, j < 30 → f j < 0 ∨ (f j).toNat ≠ o) : seE (lay cy ad 338 f) (lay cy (adu ad o q) 338 f) := seE_rf _
theorem se_339 {cy : Nat → ClassId} {ad : Nat → Nat} {o q : Nat} (ho : newO o) {f : Nat → Int} (hf : refA 339 = true → ∀ j, j < 30 → f j < 0 ∨ (f j).toNat ≠ o) : seE (lay cy ad 339 f) (lay cy (adu ad o q) 339 f) := seE_rf _
theorem se_340 {cy : Nat → ClassId} {ad : Nat → Nat} {o q : Nat} (ho : newO o) {f : Nat → Int} (hf : refA 340 = true → ∀ j, j < 30 → f j < 0 ∨ (f j).toNat ≠ o) : seE (lay cy ad 340 f) (lay cy (adu ad o q) 340 f) := seE_rf _
theorem se_341 {cy : Nat → ClassId} {ad : Nat → Nat} {o q : Nat} (ho : newO o) {f : Nat → Int} (hf : refA 341 = true → ∀ j, j < 30 → f j < 0 ∨ (f j).toNat ≠ o) : seE (lay cy ad 341 f) (lay cy (adu ad o q) 341 f) := seE_rf _
theorem se_342 {cy : Nat → ClassId} {ad : Nat → Nat} {o q : Nat} (ho : newO o) {f : Nat → Int} (hf : refA 342 = true → ∀ j, j < 30 → f j < 0 ∨ (f j).toNat ≠ o) : seE (lay cy ad 342 f) (lay cy (adu ad o q) 342 f) := seE_rf _
theorem se_343 {cy : Nat → ClassId} {ad : Nat → Nat} {o q : Nat} (ho : newO o) {f : Nat → Int} (hf : refA 343 = true → ∀ j, j < 30 → f j < 0 ∨ (f j).toNat ≠ o) : seE (lay cy ad 343 f) (lay cy (adu ad o q) 343 f) := seE_rf _
theorem se_344 {cy : Nat → ClassId} {ad : Nat → Nat} {o q : Nat} (ho : newO o) {f : Nat → Int} (hf : refA 344 = true → ∀ j, j < 30 → f j < 0 ∨ (f j).toNat ≠ o) : seE (lay cy ad 344 f) (lay cy (adu ad o q) 344 f) := seE_rf _
theorem se_345 {cy : Nat → ClassId} {ad : Nat → Nat} {o q : Nat} (ho : newO o) {f : Nat → Int} (hf : refA 345 = true → ∀ j, j < 30 → f j < 0 ∨ (f j).toNat ≠ o) : seE (lay cy ad 345 f) (lay cy (adu ad o q) 345 f) := seE_rf _
theorem se_346 {cy : Nat → ClassId} {ad : Nat → Nat} {o q : Nat} (ho : newO o) {f : Nat → Int} (hf : refA 346 = true → ∀ j, j < 30 → f j < 0 ∨ (f j).toNat ≠ o) : seE (lay cy ad 346 f) (lay cy (adu ad o q) 346 f) := seE_rf _
theorem se_347 {cy : Nat → ClassId} {ad : Nat → Nat} {o q : Nat} (ho : newO o) {f : Nat → Int} (hf : refA 347 = true → ∀ j, j < 30 → f j < 0 ∨ (f j).toNat ≠ o) : seE (lay cy ad 347 f) (lay cy (adu ad o q) 347 f) := seE_rf _
theorem se_348 {cy : Nat → ClassId} {ad : Nat → Nat} {o q : Nat} (ho : newO o) {f : Nat → Int} (hf : refA 348 = true → ∀ j, j < 30 → f j < 0 ∨ (f j).toNat ≠ o) : seE (lay cy ad 348 f) (lay cy (adu ad o q) 348 f) := seE_rf _
theorem se_349 {cy : Nat → ClassId} {ad : Nat → Nat} {o q : Nat} (ho : newO o) {f : Nat → Int} (hf : refA 349 = true → ∀ j, j < 30 → f j < 0 ∨ (f j).toNat ≠ o) : seE (lay cy ad 349 f) (lay cy (adu ad o q) 349 f) := seE_rf _
theorem se_350 {cy : Nat → ClassId} {ad : Nat → Nat} {o q : Nat} (ho : newO o) {f : Nat → Int} (hf : refA 350 = true → ∀ j, j < 30 → f j < 0 ∨ (f j).toNat ≠ o) : seE (lay cy ad 350 f) (lay cy (adu ad o q) 350 f) := seE_rf _
theorem se_351 {cy : Nat → ClassId} {ad : Nat → Nat} {o q : Nat} (ho : newO o) {f : Nat → Int} (hf : refA 351 = true → ∀ j, j < 30 → f j < 0 ∨ (f j).toNat ≠ o) : seE (lay cy ad 351 f) (lay cy (adu ad o q) 351 f) := seE_rf _
theorem se_352 {cy : Nat → ClassId} {ad : Nat → Nat} {o q : Nat} (ho : newO o) {f : Nat → Int} (hf : refA 352 = true → ∀ j, j < 30 → f j < 0 ∨ (f j).toNat ≠ o) : seE (lay cy ad 352 f) (lay cy (adu ad o q) 352 f) := seE_rf _
theorem se_353 {cy : Nat → ClassId} {ad : Nat → Nat} {o q : Nat} (ho : newO o) {f : Nat → Int} (hf : refA 353 = true → ∀ j, j < 30 → f j < 0 ∨ (f j).toNat ≠ o) : seE (lay cy ad 353 f) (lay cy (adu ad o q) 353 f) := seE_rf _
theorem se_354 {cy : Nat → ClassId} {ad : Nat → Nat} {o q : Nat} (ho : newO o) {f : Nat → Int} (hf : refA 354 = true → ∀ j, j < 30 → f j < 0 ∨ (f j).toNat ≠ o) : seE (lay cy ad 354 f) (lay cy (adu ad o q) 354 f) := seE_rf _
theorem se_355 {cy : Nat → ClassId} {ad : Nat → Nat} {o q : Nat} (ho : newO o) {f : Nat → Int} (hf : refA 355 = true → ∀ j, j < 30 → f j < 0 ∨ (f j).toNat ≠ o) : seE (lay cy ad 355 f) (lay cy (adu ad o q) 355 f) := seE_rf _
theorem se_356 {cy : Nat → ClassId} {ad : Nat → Nat} {o q : Nat} (ho : newO o) {f : Nat → Int} (hf : refA 356 = true → ∀ j, j < 30 → f j < 0 ∨ (f j).toNat ≠ o) : seE (lay cy ad 356 f) (lay cy (adu ad o q) 356 f) := seE_rf _
theorem se_357 {cy : Nat → ClassId} {ad : Nat → Nat} {o q : Nat} (ho : newO o) {f : Nat → Int} (hf : refA 357 = true → ∀ j, j < 30 → f j < 0 ∨ (f j).toNat ≠ o) : seE (lay cy ad 357 f) (lay cy (adu ad o q) 357 f) := seE_rf _
theorem se_358 {cy : Nat → ClassId} {ad : Nat → Nat} {o q : Nat} (ho : newO o) {f : Nat → Int} (hf : refA 358 = true → ∀ j, j < 30 → f j < 0 ∨ (f j).toNat ≠ o) : seE (lay cy ad 358 f) (lay cy (adu ad o q) 358 f) := seE_rf _
theorem se_359 {cy : Nat → ClassId} {ad : Nat → Nat} {o q : Nat} (ho : newO o) {f : Nat → Int} (hf : refA 359 = true → ∀ j, j < 30 → f j < 0 ∨ (f j).toNat ≠ o) : seE (lay cy ad 359 f) (lay cy (adu ad o q) 359 f) := seE_rf _
theorem se_360 {cy : Nat → ClassId} {ad : Nat → Nat} {o q : Nat} (ho : newO o) {f : Nat → Int} (hf : refA 360 = true → ∀ j, j < 30 → f j < 0 ∨ (f j).toNat ≠ o) : seE (lay cy ad 360 f) (lay cy (adu ad o q) 360 f) := seE_rf _
theorem se_361 {cy : Nat → ClassId} {ad : Nat → Nat} {o q : Nat} (ho : newO o) {f : Nat → Int} (hf : refA 361 = true → ∀ j, j < 30 → f j < 0 ∨ (f j).toNat ≠ o) : seE (lay cy ad 361 f) (lay cy (adu ad o q) 361 f) := seE_rf _
theorem se_362 {cy : Nat → ClassId} {ad : Nat → Nat} {o q : Nat} (ho : newO o) {f : Nat → Int} (hf : refA 362 = true → ∀ j, j < 30 → f j < 0 ∨ (f j).toNat ≠ o) : seE (lay cy ad 362 f) (lay cy (adu ad o q) 362 f) := seE_rf _
theorem se_363 {cy : Nat → ClassId} {ad : Nat → Nat} {o q : Nat} (ho : newO o) {f : Nat → Int} (hf : refA 363 = true → ∀ j, j < 30 → f j < 0 ∨ (f j).toNat ≠ o) : seE (lay cy ad 363 f) (lay cy (adu ad o q) 363 f) := seE_rf _
theorem se_364 {cy : Nat → ClassId} {ad : Nat → Nat} {o q : Nat} (ho : newO o) {f : Nat → Int} (hf : refA 364 = true → ∀ j, j < 30 → f j < 0 ∨ (f j).toNat ≠ o) : seE (lay cy ad 364 f) (lay cy (adu ad o q) 364 f) := seE_rf _
theorem se_365 {cy : Nat → ClassId} {ad : Nat → Nat} {o q : Nat} (ho : newO o) {f : Nat → Int} (hf : refA 365 = true → ∀ j, j < 30 → f j < 0 ∨ (f j).toNat ≠ o) : seE (lay cy ad 365 f) (lay cy (adu ad o q) 365 f) := seE_rf _
theorem se_366 {cy : Nat → ClassId} {ad : Nat → Nat} {o q : Nat} (ho : newO o) {f : Nat → Int} (hf : refA 366 = true → ∀ j, j < 30 → f j < 0 ∨ (f j).toNat ≠ o) : seE (lay cy ad 366 f) (lay cy (adu ad o q) 366 f) := seE_rf _
theorem se_367 {cy : Nat → ClassId} {ad : Nat → Nat} {o q : Nat} (ho : newO o) {f : Nat → Int} (hf : refA 367 = true → ∀ j, j < 30 → f j < 0 ∨ (f j).toNat ≠ o) : seE (lay cy ad 367 f) (lay cy (adu ad o q) 367 f) := seE_rf _
theorem se_368 {cy : Nat → ClassId} {ad : Nat → Nat} {o q : Nat} (ho : newO o) {f : Nat → Int} (hf : refA 368 = true → ∀ j, j < 30 → f j < 0 ∨ (f j).toNat ≠ o) : seE (lay cy ad 368 f) (lay cy (adu ad o q) 368 f) := seE_rf _
theorem se_369 {cy : Nat → ClassId} {ad : Nat → Nat} {o q : Nat} (ho : newO o) {f : Nat → Int} (hf : refA 369 = true → ∀ j, j < 30 → f j < 0 ∨ (f j).toNat ≠ o) : seE (lay cy ad 369 f) (lay cy (adu ad o q) 369 f) := seE_rf _
theorem se_370 {cy : Nat → ClassId} {ad : Nat → Nat} {o q : Nat} (ho : newO o) {f : Nat → Int} (hf : refA 370 = true → ∀ j, j < 30 → f j < 0 ∨ (f j).toNat ≠ o) : seE (lay cy ad 370 f) (lay cy (adu ad o q) 370 f) := seE_rf _
theorem se_371 {cy : Nat → ClassId} {ad : Nat → Nat} {o q : Nat} (ho : newO o) {f : Nat → Int} (hf : refA 371 = true → ∀ j, j < 30 → f j < 0 ∨ (f j).toNat ≠ o) : seE (lay cy ad 371 f) (lay cy (adu ad o q) 371 f) := seE_rf _
theorem se_372 {cy : Nat → ClassId} {ad : Nat → Nat} {o q : Nat} (ho : newO o) {f : Nat → Int} (hf : refA 372 = true → ∀ j, j < 30 → f j < 0 ∨ (f j).toNat ≠ o) : seE (lay cy ad 372 f) (lay cy (adu ad o q) 372 f) := seE_rf _
theorem se_373 {cy : Nat → ClassId} {ad : Nat → Nat} {o q : Nat} (ho : newO o) {f : Nat → Int} (hf : refA 373 = true → ∀ j, j < 30 → f j < 0 ∨ (f j).toNat ≠ o) : seE (lay cy ad 373 f) (lay cy (adu ad o q) 373 f) := seE_rf _
theorem se_374 {cy : Nat → ClassId} {ad : Nat → Nat} {o q : Nat} (ho : newO o) {f : Nat → Int} (hf : refA 374 = true → ∀ j, j < 30 → f j < 0 ∨ (f j).toNat ≠ o) : seE (lay cy ad 374 f) (lay cy (adu ad o q) 374 f) := seE_rf _
theorem se_375 {cy : Nat → ClassId} {ad : Nat → Nat} {o q : Nat} (ho : newO o) {f : Nat → Int} (hf : refA 375 = true → ∀ j, j < 30 → f j < 0 ∨ (f j).toNat ≠ o) : seE (lay cy ad 375 f) (lay cy (adu ad o q) 375 f) := seE_rf _
theorem se_376 {cy : Nat → ClassId} {ad : Nat → Nat} {o q : Nat} (ho : newO o) {f : Nat → Int} (hf : refA 376 = true → ∀ j, j < 30 → f j < 0 ∨ (f j).toNat ≠ o) : seE (lay cy ad 376 f) (lay cy (adu ad o q) 376 f) := seE_rf _
theorem se_377 {cy : Nat → ClassId} {ad : Nat → Nat} {o q : Nat} (ho : newO o) {f : Nat → Int} (hf : refA 377 = true → ∀ j, j < 30 → f j < 0 ∨ (f j).toNat ≠ o) : seE (lay cy ad 377 f) (lay cy (adu ad o q) 377 f) := seE_rf _
def baseL : List Nat := [0, 1, 2, 3, 4, 5, 6, 7, 8, 9, 10, 11, 12, 13, 14, 15, 16, 17, 18, 19, 20, 21, 22, 23, 24, 25, 26, 27, 28, 29, 30, 31, 32, 33, 34, 35, 36, 37, 38, 39, 40, 41, 42, 43, 44, 45, 46, 47, 48, 49, 300, 301, 302, 303, 304, 305, 306, 307, 308, 309, 310, 311, 312, 313, 314, 315, 316, 317, 318, 319, 320, 321, 322, 323, 324, 325, 326, 327, 328, 329, 330, 331, 332, 333, 334, 335, 336, 337, 338, 339, 340, 341, 342, 343, 344, 345, 346, 347, 348, 349, 350, 351, 352, 353, 354, 355, 356, 357, 358, 359, 360, 361, 362, 363, 364, 365, 366, 367, 368, 369, 370, 371, 372, 373, 374, 375, 376, 377]
theorem baseL_in : ∀ a, a < 400 → bas a = true → a ∈ baseL := by decide +kernel
theorem se_base {cy : Nat → ClassId} {ad : Nat → Nat} {o q : Nat} (ho : newO o) {f : Nat → Int} : ∀ a ∈ baseL, (refA a = true → ∀ j, j < 30 → f j < 0 ∨ (f j).toNat ≠ o) → seE (lay cy ad a f) (lay cy (adu ad o q) a f) := by
  unfold baseL
  refine List.forall_mem_cons.mpr ⟨fun hf => se_0 ho hf, ?_⟩
  refine List.forall_mem_cons.mpr ⟨fun hf => se_1 ho hf, ?_⟩
  refine List.forall_mem_cons.mpr ⟨fun hf => se_2 ho hf, ?_⟩
  refine List.forall_mem_cons.mpr ⟨fun hf => se_3 ho hf, ?_⟩
  refine List.forall_mem_cons.mpr ⟨fun hf => se_4 ho hf, ?_⟩
  refine List.forall_mem_cons.mpr ⟨fun hf => se_5 ho hf, ?_⟩
  refine List.forall_mem_cons.mpr ⟨fun hf => se_6 ho hf, ?_⟩
  refine List.forall_mem_cons.mpr ⟨fun hf => se_7 ho hf, ?_⟩
  refine List.forall_mem_cons.mpr ⟨fun hf => se_8 ho hf, ?_⟩
  refine List.forall_mem_cons.mpr ⟨fun hf => se_9 ho hf, ?_⟩
  refine List.forall_mem_cons.mpr ⟨fun hf => se_10 ho hf, ?_⟩
  refine List.forall_mem_cons.mpr ⟨fun hf => se_11 ho hf, ?_⟩
  refine List.forall_mem_cons.mpr ⟨fun hf => se_12 ho hf, ?_⟩
  refine List.forall_mem_cons.mpr ⟨fun hf => se_13 ho hf, ?_⟩
  refine List.forall_mem_cons.mpr ⟨fun hf => se_14 ho hf, ?_⟩
  refine List.forall_mem_cons.mpr ⟨fun hf => se_15 ho hf, ?_⟩
  refine List.forall_mem_cons.mpr ⟨fun hf => se_16 ho hf, ?_⟩
  refine List.forall_mem_cons.mpr ⟨fun hf => se_17 ho hf, ?_⟩
  refine List.forall_mem_cons.mpr ⟨fun hf => se_18 ho hf, ?_⟩
  refine List.forall_mem_cons.mpr ⟨fun hf => se_19 ho hf, ?_⟩
  refine List.forall_mem_cons.mpr ⟨fun hf => se_20 ho hf, ?_⟩
  refine List.forall_mem_cons.mpr ⟨fun hf => se_21 ho hf, ?_⟩
  refine List.forall_mem_cons.mpr ⟨fun hf => se_22 ho hf, ?_⟩
  refine List.forall_mem_cons.mpr ⟨fun hf => se_23 ho hf, ?_⟩
  refine List.forall_mem_cons.mpr ⟨fun hf => se_24 ho hf, ?_⟩
  refine List.forall_mem_cons.mpr ⟨fun hf => se_25 ho hf, ?_⟩
  refine List.forall_mem_cons.mpr ⟨fun hf => se_26 ho hf, ?_⟩
  refine List.forall_mem_cons.mpr ⟨fun hf => se_27 ho hf, ?_⟩
  refine List.forall_mem_cons.mpr ⟨fun hf => se_28 ho hf, ?_⟩
  refine List.forall_mem_cons.mpr ⟨fun hf => se_29 ho hf, ?_⟩
  refine List.forall_mem_cons.mpr ⟨fun hf => se_30 ho hf, ?_⟩
  refine List.forall_mem_cons.mpr ⟨fun hf => se_31 ho hf, ?_⟩
  refine List.forall_mem_cons.mpr ⟨fun hf => se_32 ho hf, ?_⟩
  refine List.forall_mem_cons.mpr ⟨fun hf => se_33 ho hf, ?_⟩
  refine List.forall_mem_cons.mpr ⟨fun hf => se_34 ho hf, ?_⟩
  refine List.forall_mem_cons.mpr ⟨fun hf => se_35 ho hf, ?_⟩
  refine List.forall_mem_cons.mpr ⟨fun hf => se_36 ho hf, ?_⟩
  refine List.forall_mem_cons.mpr ⟨fun hf => se_37 ho hf, ?_⟩
  refine List.forall_mem_cons.mpr ⟨fun hf => se_38 ho hf, ?_⟩
  refine List.forall_mem_cons.mpr ⟨fun hf => se_39 ho hf, ?_⟩
  refine List.forall_mem_cons.mpr ⟨fun hf => se_40 ho hf, ?_⟩
  refine List.forall_mem_cons.mpr ⟨fun hf => se_41 ho hf, ?_⟩
  refine List.forall_mem_cons.mpr ⟨fun hf => se_42 ho hf, ?_⟩
  refine List.forall_mem_cons.mpr ⟨fun hf => se_43 ho hf, ?_⟩
  refine List.forall_mem_cons.mpr ⟨fun hf => se_44 ho hf, ?_⟩
  refine List.forall_mem_cons.mpr ⟨fun hf => se_45 ho hf, ?_⟩
  refine List.forall_mem_cons.mpr ⟨fun hf => se_46 ho hf, ?_⟩
  refine List.forall_mem_cons.mpr ⟨fun hf => se_47 ho hf, ?_⟩
  refine List.forall_mem_cons.mpr ⟨fun hf => se_48 ho hf, ?_⟩
  refine List.forall_mem_cons.mpr ⟨fun hf => se_49 ho hf, ?_⟩
  refine List.forall_mem_cons.mpr ⟨fun hf => se_300 ho hf, ?_⟩
  refine List.forall_mem_cons.mpr ⟨fun hf => se_301 ho hf, ?_⟩
  refine List.forall_mem_cons.mpr ⟨fun hf => se_302 ho hf, ?_⟩
  refine List.forall_mem_cons.mpr ⟨fun hf => se_303 ho hf, ?_⟩
  refine List.forall_mem_cons.mpr ⟨fun hf => se_304 ho hf, ?_⟩
  refine List.forall_mem_cons.mpr ⟨fun hf => se_305 ho hf, ?_⟩
  refine List.forall_mem_cons.mpr ⟨fun hf => se_306 ho hf, ?_⟩
  refine List.forall_mem_cons.mpr ⟨fun hf => se_307 ho hf, ?_⟩
  refine List.forall_mem_cons.mpr ⟨fun hf => se_308 ho hf, ?_⟩
  refine List.forall_mem_cons.mpr ⟨fun hf => se_309 ho hf, ?_⟩
  refine List.forall_mem_cons.mpr ⟨fun hf => se_310 ho hf, ?_⟩
  refine List.forall_mem_cons.mpr ⟨fun hf => se_311 ho hf, ?_⟩
  refine List.forall_mem_cons.mpr ⟨fun hf => se_312 ho hf, ?_⟩
  refine List.forall_mem_cons.mpr ⟨fun hf => se_313 ho hf, ?_⟩
  refine List.forall_mem_cons.mpr ⟨fun hf => se_314 ho hf, ?_⟩
  refine List.forall_mem_cons.mpr ⟨fun hf => se_315 ho hf, ?_⟩
  refine List.forall_mem_cons.mpr ⟨fun hf => se_316 ho hf, ?_⟩
  refine List.forall_mem_cons.mpr ⟨fun hf => se_317 ho hf, ?_⟩
  refine List.forall_mem_cons.mpr ⟨fun hf => se_318 ho hf, ?_⟩
  refine List.forall_mem_cons.mpr ⟨fun hf => se_319 ho hf, ?_⟩
  refine List.forall_mem_cons.mpr ⟨fun hf => se_320 ho hf, ?_⟩
  refine List.forall_mem_cons.mpr ⟨fun hf => se_321 ho hf, ?_⟩
  refine List.forall_mem_cons.mpr ⟨fun hf => se_322 ho hf, ?_⟩
  refine List.forall_mem_cons.mpr ⟨fun hf => se_323 ho hf, ?_⟩
  refine List.forall_mem_cons.mpr ⟨fun hf => se_324 ho hf, ?_⟩
  refine List.forall_mem_cons.mpr ⟨fun hf => se_325 ho hf, ?_⟩
  refine List.forall_mem_cons.mpr ⟨fun hf => se_326 ho hf, ?_⟩
  refine List.forall_mem_cons.mpr ⟨fun hf => se_327 ho hf, ?_⟩
  refine List.forall_mem_cons.mpr ⟨fun hf => se_328 ho hf, ?_⟩
  refine List.forall_mem_cons.mpr ⟨fun hf => se_329 ho hf, ?_⟩
  refine List.forall_mem_cons.mpr ⟨fun hf => se_330 ho hf, ?_⟩
  refine List.forall_mem_cons.mpr ⟨fun hf => se_331 ho hf, ?_⟩
  refine List.forall_mem_cons.mpr ⟨fun hf => se_332 ho hf, ?_⟩
  refine List.forall_mem_cons.mpr ⟨fun hf => se_333 ho hf, ?_⟩
  refine List.forall_mem_cons.mpr ⟨fun hf => se_334 ho hf, ?_⟩
  refine List.forall_mem_cons.mpr ⟨fun hf => se_335 ho hf, ?_⟩
  refine List.forall_mem_cons.mpr ⟨fun hf => se_336 ho hf, ?_⟩
  refine List.forall_mem_cons.mpr ⟨fun hf => se_337 ho hf, ?_⟩
  refine List.forall_mem_cons.mpr ⟨fun hf => se_338 ho hf, ?_⟩
  refine List.forall_mem_cons.mpr ⟨fun hf => se_339 ho hf, ?_⟩
  refine List.forall_mem_cons.mpr ⟨fun hf => se_340 ho hf, ?_⟩
  refine List.forall_mem_cons.mpr ⟨fun hf => se_341 ho hf, ?_⟩
  refine List.forall_mem_cons.mpr ⟨fun hf => se_342 ho hf, ?_⟩
  refine List.forall_mem_cons.mpr ⟨fun hf => se_343 ho hf, ?_⟩
  refine List.forall_mem_cons.mpr ⟨fun hf => se_344 ho hf, ?_⟩
  refine List.forall_mem_cons.mpr ⟨fun hf => se_345 ho hf, ?_⟩
  refine List.forall_mem_cons.mpr ⟨fun hf => se_346 ho hf, ?_⟩
  refine List.forall_mem_cons.mpr ⟨fun hf => se_347 ho hf, ?_⟩
  refine List.forall_mem_cons.mpr ⟨fun hf => se_348 ho hf, ?_⟩
  refine List.forall_mem_cons.mpr ⟨fun hf => se_349 ho hf, ?_⟩
  refine List.forall_mem_cons.mpr ⟨fun hf => se_350 ho hf, ?_⟩
  refine List.forall_mem_cons.mpr ⟨fun hf => se_351 ho hf, ?_⟩
  refine List.forall_mem_cons.mpr ⟨fun hf => se_352 ho hf, ?_⟩
  refine List.forall_mem_cons.mpr ⟨fun hf => se_353 ho hf, ?_⟩
  refine List.forall_mem_cons.mpr ⟨fun hf => se_354 ho hf, ?_⟩
  refine List.forall_mem_cons.mpr ⟨fun hf => se_355 ho hf, ?_⟩
  refine List.forall_mem_cons.mpr ⟨fun hf => se_356 ho hf, ?_⟩
  refine List.forall_mem_cons.mpr ⟨fun hf => se_357 ho hf, ?_⟩
  refine List.forall_mem_cons.mpr ⟨fun hf => se_358 ho hf, ?_⟩
  refine List.forall_mem_cons.mpr ⟨fun hf => se_359 ho hf, ?_⟩
  refine List.forall_mem_cons.mpr ⟨fun hf => se_360 ho hf, ?_⟩
  refine List.forall_mem_cons.mpr ⟨fun hf => se_361 ho hf, ?_⟩
  refine List.forall_mem_cons.mpr ⟨fun hf => se_362 ho hf, ?_⟩
  refine List.forall_mem_cons.mpr ⟨fun hf => se_363 ho hf, ?_⟩
  refine List.forall_mem_cons.mpr ⟨fun hf => se_364 ho hf, ?_⟩
  refine List.forall_mem_cons.mpr ⟨fun hf => se_365 ho hf, ?_⟩
  refine List.forall_mem_cons.mpr ⟨fun hf => se_366 ho hf, ?_⟩
  refine List.forall_mem_cons.mpr ⟨fun hf => se_367 ho hf, ?_⟩
  refine List.forall_mem_cons.mpr ⟨fun hf => se_368 ho hf, ?_⟩
  refine List.forall_mem_cons.mpr ⟨fun hf => se_369 ho hf, ?_⟩
  refine List.forall_mem_cons.mpr ⟨fun hf => se_370 ho hf, ?_⟩
  refine List.forall_mem_cons.mpr ⟨fun hf => se_371 ho hf, ?_⟩
  refine List.forall_mem_cons.mpr ⟨fun hf => se_372 ho hf, ?_⟩
  refine List.forall_mem_cons.mpr ⟨fun hf => se_373 ho hf, ?_⟩
  refine List.forall_mem_cons.mpr ⟨fun hf => se_374 ho hf, ?_⟩
  refine List.forall_mem_cons.mpr ⟨fun hf => se_375 ho hf, ?_⟩
  refine List.forall_mem_cons.mpr ⟨fun hf => se_376 ho hf, ?_⟩
  refine List.forall_mem_cons.mpr ⟨fun hf => se_377 ho hf, ?_⟩
  intro a ha
  exact absurd ha List.not_mem_nil
theorem ly_s2 (cy : Nat → ClassId) (ad : Nat → Nat) {a : Nat} (h1 : 100 ≤ a) (h2 : a < 200) (f : Nat → Int) : lay cy ad a f = ceStone ad f := by
  unfold lay
  rw [if_neg (by rw [Nat.blt_eq]; omega), if_pos (by rw [Nat.blt_eq]; omega)]
theorem ly_g2 (cy : Nat → ClassId) (ad : Nat → Nat) {a : Nat} (h1 : 200 ≤ a) (h2 : a < 300) (f : Nat → Int) : lay cy ad a f = ceGang ad f := by
  unfold lay
  rw [if_neg (by rw [Nat.blt_eq]; omega), if_neg (by rw [Nat.blt_eq]; omega), if_pos (by rw [Nat.blt_eq]; omega)]
theorem se_all {cy : Nat → ClassId} {ad : Nat → Nat} {o q : Nat} (ho : newO o) {f : Nat → Int} {a : Nat} (ha : bas a = true ∨ (100 ≤ a ∧ a < 300)) (hf : refA a = true → ∀ j, j < 30 → f j < 0 ∨ (f j).toNat ≠ o) : seE (lay cy ad a f) (lay cy (adu ad o q) a f) := by
  rcases ha with h | h
  · refine se_base ho a (baseL_in a ?_ h) hf
    unfold bas at h
    rw [Bool.or_eq_true, Bool.and_eq_true, Nat.blt_eq, Nat.blt_eq, Nat.ble_eq] at h
    omega
  · by_cases h2 : a < 200
    · rw [ly_s2 cy ad h.1 h2, ly_s2 cy _ h.1 h2]
      refine seE_eq (ceO_adu ?_)
      simp only [List.mem_cons, List.not_mem_nil, or_false, forall_eq_or_imp, forall_eq]
      exact ⟨fun h => absurd h (by decide), fun h => absurd h (by decide), fun h => absurd h (by decide), fun h => absurd h (by decide), fun h => absurd h (by decide), fun h => absurd h (by decide)⟩
    · rw [ly_g2 cy ad (by omega) h.2, ly_g2 cy _ (by omega) h.2]
      refine seE_eq (ceO_adu ?_)
      simp only [List.mem_cons, List.not_mem_nil, or_false, forall_eq_or_imp, forall_eq]
      exact ⟨fun h => absurd h (by decide), fun h => absurd h (by decide), fun h => absurd h (by decide), fun h => absurd h (by decide), fun h => absurd h (by decide)⟩
/-- the world with one id more -/
theorem wld_P {cy : Nat → ClassId} {D : va_G} {cl : List vw_C} {ids : List Nat} {ad : Nat → Nat} {μ μ1 : Mem} {o q : Nat} {e : va_E} {H : Heap} (hid : ∀ a ∈ ids, bas a = true ∨ (100 ≤ a ∧ a < 300)) (hn : newO o) (ho : o ∉ ids) (hμ : ∀ a ∈ ids, μ1 a = μ a) (hf : ∀ a, refA a = true → ∀ j, j < 30 → μ a j < 0 ∨ (μ a j).toNat ≠ o) (he : lay cy (adu ad o q) o (μ1 o) = e) (hP : va_P D cl (wld (lay cy) ids ad μ ++ [(q, e)]) H) : va_P D cl (wld (lay cy) (ids ++ [o]) (adu ad o q) μ1) H := by
  intro k x hx
  unfold wld at hx
  rw [List.getElem?_map] at hx
  cases hk : (ids ++ [o])[k]? with
  | none => rw [hk] at hx; cases hx
  | some a =>
    rw [hk] at hx
    cases hx
    by_cases hlt : k < ids.length
    · rw [List.getElem?_append_left hlt] at hk
      have ha := List.mem_of_getElem? hk
      have hne : a ≠ o := fun h => ho (h ▸ ha)
      show va_at D cl (adu ad o q a, lay cy (adu ad o q) a (μ1 a)) H
      rw [adu_ne hne, hμ a ha]
      refine se_all hn (hid a ha) (hf a) D cl (ad a) H (hP k (ad a, lay cy ad a (μ a)) ?_)
      rw [List.getElem?_append_left (by unfold wld; rw [List.length_map]; exact hlt)]
      unfold wld
      rw [List.getElem?_map, hk]
      rfl
    · rw [List.getElem?_append_right (by omega)] at hk
      have h0 : k - ids.length = 0 := by
        have := (List.getElem?_eq_some_iff.mp hk).1
        simp at this
        omega
      rw [h0] at hk
      cases hk
      show va_at D cl (adu ad o q o, lay cy (adu ad o q) o (μ1 o)) H
      rw [adu_at, he]
      refine hP k (q, e) ?_
      rw [List.getElem?_append_right (by unfold wld; rw [List.length_map]; omega)]
      have : k - (wld (lay cy) ids ad μ).length = 0 := by unfold wld; rw [List.length_map]; exact h0
      rw [this]
      rfl
theorem wld_D {cy : Nat → ClassId} {A : Nat → Prop} {ids : List Nat} {ad : Nat → Nat} {μ μ1 : Mem} {o q : Nat} {e : va_E} (ho : o ∉ ids) (hD : va_D A (wld (lay cy) ids ad μ ++ [(q, e)])) : va_D A (wld (lay cy) (ids ++ [o]) (adu ad o q) μ1) := by
  have key : ∀ (k : Nat) (x : Nat × va_E), (wld (lay cy) (ids ++ [o]) (adu ad o q) μ1)[k]? = some x → ∃ e', (wld (lay cy) ids ad μ ++ [(q, e)])[k]? = some (x.1, e') := by
    intro k x hx
    unfold wld at hx
    rw [List.getElem?_map] at hx
    cases hk : (ids ++ [o])[k]? with
    | none => rw [hk] at hx; cases hx
    | some a =>
      rw [hk] at hx
      cases hx
      by_cases hlt : k < ids.length
      · rw [List.getElem?_append_left hlt] at hk
        have ha := List.mem_of_getElem? hk
        have hne : a ≠ o := fun h => ho (h ▸ ha)
        refine ⟨lay cy ad a (μ a), ?_⟩
        rw [List.getElem?_append_left (by unfold wld; rw [List.length_map]; exact hlt)]
        unfold wld
        rw [List.getElem?_map, hk]
        show some (ad a, lay cy ad a (μ a)) = some (adu ad o q a, lay cy ad a (μ a))
        rw [adu_ne hne]
      · rw [List.getElem?_append_right (by omega)] at hk
        have h0 : k - ids.length = 0 := by
          have := (List.getElem?_eq_some_iff.mp hk).1
          simp at this
          omega
        rw [h0] at hk
        cases hk
        refine ⟨e, ?_⟩
        rw [List.getElem?_append_right (by unfold wld; rw [List.length_map]; omega)]
        have : k - (wld (lay cy) ids ad μ).length = 0 := by unfold wld; rw [List.length_map]; exact h0
        rw [this]
        show some (q, e) = some (adu ad o q o, e)
        rw [adu_at]
  refine ⟨fun i j x y hx hy hxy => ?_, fun k x hx => ?_⟩
  · obtain ⟨e1, h1⟩ := key i x hx
    obtain ⟨e2, h2⟩ := key j y hy
    exact hD.1 i j _ _ h1 h2 hxy
  · obtain ⟨e1, h1⟩ := key k x hx
    exact hD.2 k (x.1, e1) h1
theorem vk_R_cong {own tx : String} {k a a' : Nat} {U : State} (h : vk_R own k tx a U) (e : a' = a) : vk_R own k tx a' U := e ▸ h
theorem CF_adu {ad : Nat → Nat} {A : Nat → Prop} {U : State} {o q : Nat} (ho : o < 1000) (h : CF ad A U) : CF (adu ad o q) A U := by
  obtain ⟨h1, h2, h3, h4, h5, h6, h7⟩ := h
  have e : ∀ k, 1000 ≤ k → adu ad o q k = ad k := fun k hk => adu_ne (by omega)
  refine ⟨?_, fun x hx => vk_R_cong (h2 x hx) (e _ (by omega)), ?_, ?_, ?_, h6, ?_⟩
  · have e1 : (fun i => adu ad o q (1000 + i)) = fun i => ad (1000 + i) := funext (fun i => e _ (by omega))
    have e2 : (fun i => adu ad o q (1020 + i)) = fun i => ad (1020 + i) := funext (fun i => e _ (by omega))
    rw [e1, e2]
    exact h1
  · unfold cfRow at h3 ⊢
    rw [e _ (by decide)]
    exact h3
  · unfold cfRow at h4 ⊢
    rw [e _ (by decide)]
    exact h4
  · unfold cfRow at h5 ⊢
    rw [e _ (by decide)]
    exact h5
  · rw [e _ (by decide)]
    exact h7
section VM
variable {p : Program} {l : Launch} {e : Env} {R : Room} {s : State} {m : MethodId} {args : Array Value} {below : List Frame} {meth : Method} {c : Code} {cells slots : Nat} {Q : State → Prop} {D : va_G} {tys : List (ClassId × FieldType)} {A : Nat → Prop} {ly : Lay} {ids : List Nat} {ad : Nat → Nat} {nL : Nat} {cc : ByteArray} {own : String} {ret : Option FieldType} {μ : Mem} {pc : Nat} {lv : LV} {st : List AV} {r : Int} {μ' : Mem}
def newS (μ : Mem) : Mem := fun a => if a = 90 then upf (μ 90) 0 (μ 90 0 + 1) else if a = 100 + (μ 90 0).toNat then (fun _ => 0) else μ a
theorem r_newS {cy : Nat → ClassId} (C : Cx p s m args meth c D (tyl cy) A nL cc own ret) {index : Nat} (hcl : Cond.classLink own index RX4 ∈ WS) (hinst : Cond.instantiable RX4 6 ∈ WS) (hini : Cond.initialized RX4 ∈ WS) (hok : idsOK ids μ) (hb : 0 ≤ μ 90 0 ∧ μ 90 0 < 100 ∧ 0 ≤ μ 90 1 ∧ μ 90 1 < 100) (hrf : ∀ a, refA a = true → ∀ j, μ a j < 0 ∨ (μ a j).toNat ≠ 100 + (μ 90 0).toNat) (hlv : ∀ v, some v ∈ lv → v.1 = true → v.2 < 0 ∨ v.2.toNat ≠ 100 + (μ 90 0).toNat) (hst : ∀ v ∈ st, v.1 = true → v.2 < 0 ∨ v.2.toNat ≠ 100 + (μ 90 0).toNat) (hcells : cells + 1 ≤ R.cells) (hslots : slots + 6 ≤ R.slots) (hd : decode cc pc = .ok (.new index, 3)) (kk : ∀ (q : Nat) (μ1 : Mem), μ1 = newS μ → idsOK (ids ++ [100 + (μ 90 0).toNat]) μ1 → (CF ad A s → CF (adu ad (100 + (μ 90 0).toNat) q) A s) → V p l e R s m args below meth c (cells + 1) (slots + 6) Q D A (lay cy) (ids ++ [100 + (μ 90 0).toNat]) (adu ad (100 + (μ 90 0).toNat) q) nL μ1 (pc + 3) lv (rf (100 + μ 90 0) :: st)) : V p l e R s m args below meth c cells slots Q D A (lay cy) ids ad nL μ pc lv st := by
  intro ho hg H locs hP hD hS ls hl
  have hoN : 100 + (μ 90 0).toNat ∉ ids := fun h => by
    have h1 := (hok _).mp h
    unfold bas at h1
    rw [Bool.or_eq_true, Bool.and_eq_true, Nat.blt_eq, Nat.blt_eq, Nat.ble_eq] at h1
    omega
  have hid : ∀ a ∈ ids, bas a = true ∨ (100 ≤ a ∧ a < 300) := fun a ha => by
    rcases (hok a).mp ha with h1 | h1 | h1
    · exact Or.inl h1
    · exact Or.inr ⟨by omega, by omega⟩
    · exact Or.inr ⟨by omega, by omega⟩
  have hnO : newO (100 + (μ 90 0).toNat) := Or.inl ⟨by omega, by omega⟩
  refine va_new (ci := 4) (fs := [.int 0, .int 0, .int 0, .int 0, .int 0, .int 0]) (C := RX4) (T := TX4) (N := 6) C.1 C.2.1 C.2.2.2.2.1 in_X4 tyX4 tyX4_ok C.2.2.2.1 (C.2.2.2.2.1 _ hcl) (C.2.2.2.2.1 _ hinst) (C.2.2.2.2.1 _ hini) C.2.2.2.2.2.1 hP hD hS C.2.2.2.2.2.2.1 rfl (fun j hj => by rcases (show j = 0 ∨ j = 1 ∨ j = 2 ∨ j = 3 ∨ j = 4 ∨ j = 5 by omega) with rfl | rfl | rfl | rfl | rfl | rfl <;> rfl) hcells hslots hd (fun q H1 hP1 hD1 hS1 => ?_)
  have h90 : ∀ a ∈ ids, newS μ a = μ a := fun a ha => by
    have hne : a ≠ 100 + (μ 90 0).toNat := fun h => hoN (h ▸ ha)
    have h9 : a ≠ 90 := fun h => by
      have := hid a ha
      rw [h] at this
      revert this
      decide
    unfold newS
    rw [if_neg h9, if_neg hne]
  have hnew : newS μ (100 + (μ 90 0).toNat) = fun _ => 0 := by
    unfold newS
    rw [if_neg (by omega), if_pos rfl]
  have h9 : newS μ 90 = upf (μ 90) 0 (μ 90 0 + 1) := if_pos rfl
  have hok1 : idsOK (ids ++ [100 + (μ 90 0).toNat]) (newS μ) := by
    intro a
    rw [List.mem_append, List.mem_singleton, hok a, h9]
    show _ ↔ (bas a = true ∨ (100 ≤ a ∧ (a : Int) < 100 + upf (μ 90) 0 (μ 90 0 + 1) 0) ∨ (200 ≤ a ∧ (a : Int) < 200 + upf (μ 90) 0 (μ 90 0 + 1) 1))
    have e0 : upf (μ 90) 0 (μ 90 0 + 1) 0 = μ 90 0 + 1 := rfl
    have e1 : upf (μ 90) 0 (μ 90 0 + 1) 1 = μ 90 1 := rfl
    rw [e0, e1]
    constructor
    · rintro (h | h)
      · rcases h with h | h | h
        · exact Or.inl h
        · exact Or.inr (Or.inl (by omega))
        · exact Or.inr (Or.inr (by omega))
      · exact Or.inr (Or.inl (by omega))
    · rintro (h | h | h)
      · exact Or.inl (Or.inl h)
      · by_cases hx : a = 100 + (μ 90 0).toNat
        · exact Or.inr hx
        · exact Or.inl (Or.inr (Or.inl (by omega)))
      · exact Or.inl (Or.inr (Or.inr h))
  have hcell : lay cy (adu ad (100 + (μ 90 0).toNat) q) (100 + (μ 90 0).toNat) (newS μ (100 + (μ 90 0).toNat)) = .inr (4, [.int 0, .int 0, .int 0, .int 0, .int 0, .int 0]) := by
    rw [hnew, ly_s2 cy _ (by omega) (by omega)]
    rfl
  have K := kk q (newS μ) rfl hok1 (CF_adu (by omega)) ?_ ?_ H1 locs (wld_P hid hnO hoN h90 (fun a h j _ => hrf a h j) hcell hP1) (wld_D hoN hD1) hS1 ls (by rw [lvp_adu hlv]; exact hl)
  · rw [List.map_cons, map_adu hst, vv_rf, rv_at (by omega), show (100 + μ 90 0).toNat = 100 + (μ 90 0).toNat by omega, adu_at] at K
    exact K
  · intro a j
    unfold newS
    split
    · unfold upf
      split
      · exact ⟨by omega, by omega⟩
      · exact ho 90 j
    · split
      · exact z0_in
      · exact ho a j
  · refine ⟨fun a ha => (hok1 a).mpr (Or.inl ha), fun k hk => (hok1 _).mpr (Or.inr (Or.inl ⟨by omega, by omega⟩)), fun k hk => (hok1 _).mpr (Or.inr (Or.inr ⟨by omega, by omega⟩))⟩
def newG (μ : Mem) : Mem := fun a => if a = 90 then upf (μ 90) 1 (μ 90 1 + 1) else if a = 200 + (μ 90 1).toNat then (fun _ => 0) else μ a
theorem r_newG {cy : Nat → ClassId} (C : Cx p s m args meth c D (tyl cy) A nL cc own ret) {index : Nat} (hcl : Cond.classLink own index RX0 ∈ WS) (hinst : Cond.instantiable RX0 5 ∈ WS) (hini : Cond.initialized RX0 ∈ WS) (hok : idsOK ids μ) (hb : 0 ≤ μ 90 0 ∧ μ 90 0 < 100 ∧ 0 ≤ μ 90 1 ∧ μ 90 1 < 100) (hrf : ∀ a, refA a = true → ∀ j, μ a j < 0 ∨ (μ a j).toNat ≠ 200 + (μ 90 1).toNat) (hlv : ∀ v, some v ∈ lv → v.1 = true → v.2 < 0 ∨ v.2.toNat ≠ 200 + (μ 90 1).toNat) (hst : ∀ v ∈ st, v.1 = true → v.2 < 0 ∨ v.2.toNat ≠ 200 + (μ 90 1).toNat) (hcells : cells + 1 ≤ R.cells) (hslots : slots + 5 ≤ R.slots) (hd : decode cc pc = .ok (.new index, 3)) (kk : ∀ (q : Nat) (μ1 : Mem), μ1 = newG μ → idsOK (ids ++ [200 + (μ 90 1).toNat]) μ1 → (CF ad A s → CF (adu ad (200 + (μ 90 1).toNat) q) A s) → V p l e R s m args below meth c (cells + 1) (slots + 5) Q D A (lay cy) (ids ++ [200 + (μ 90 1).toNat]) (adu ad (200 + (μ 90 1).toNat) q) nL μ1 (pc + 3) lv (rf (200 + μ 90 1) :: st)) : V p l e R s m args below meth c cells slots Q D A (lay cy) ids ad nL μ pc lv st := by
  intro ho hg H locs hP hD hS ls hl
  have hoN : 200 + (μ 90 1).toNat ∉ ids := fun h => by
    have h1 := (hok _).mp h
    unfold bas at h1
    rw [Bool.or_eq_true, Bool.and_eq_true, Nat.blt_eq, Nat.blt_eq, Nat.ble_eq] at h1
    omega
  have hid : ∀ a ∈ ids, bas a = true ∨ (100 ≤ a ∧ a < 300) := fun a ha => by
    rcases (hok a).mp ha with h1 | h1 | h1
    · exact Or.inl h1
    · exact Or.inr ⟨by omega, by omega⟩
    · exact Or.inr ⟨by omega, by omega⟩
  have hnO : newO (200 + (μ 90 1).toNat) := Or.inl ⟨by omega, by omega⟩
  refine va_new (ci := 0) (fs := [.int 0, .int 0, .int 0, .int 0, .int 0]) (C := RX0) (T := TX0) (N := 5) C.1 C.2.1 C.2.2.2.2.1 in_X0 tyX0 tyX0_ok C.2.2.2.1 (C.2.2.2.2.1 _ hcl) (C.2.2.2.2.1 _ hinst) (C.2.2.2.2.1 _ hini) C.2.2.2.2.2.1 hP hD hS C.2.2.2.2.2.2.1 rfl (fun j hj => by rcases (show j = 0 ∨ j = 1 ∨ j = 2 ∨ j = 3 ∨ j = 4 by omega) with rfl | rfl | rfl | rfl | rfl <;> rfl) hcells hslots hd (fun q H1 hP1 hD1 hS1 => ?_)
  have h90 : ∀ a ∈ ids, newG μ a = μ a := fun a ha => by
    have hne : a ≠ 200 + (μ 90 1).toNat := fun h => hoN (h ▸ ha)
    have h9 : a ≠ 90 := fun h => by
      have := hid a ha
      rw [h] at this
      revert this
      decide
    unfold newG
    rw [if_neg h9, if_neg hne]
  have hnew : newG μ (200 + (μ 90 1).toNat) = fun _ => 0 := by
    unfold newG
    rw [if_neg (by omega), if_pos rfl]
  have h9 : newG μ 90 = upf (μ 90) 1 (μ 90 1 + 1) := if_pos rfl
  have hok1 : idsOK (ids ++ [200 + (μ 90 1).toNat]) (newG μ) := by
    intro a
    rw [List.mem_append, List.mem_singleton, hok a, h9]
    show _ ↔ (bas a = true ∨ (100 ≤ a ∧ (a : Int) < 100 + upf (μ 90) 1 (μ 90 1 + 1) 0) ∨ (200 ≤ a ∧ (a : Int) < 200 + upf (μ 90) 1 (μ 90 1 + 1) 1))
    have e0 : upf (μ 90) 1 (μ 90 1 + 1) 0 = μ 90 0 := rfl
    have e1 : upf (μ 90) 1 (μ 90 1 + 1) 1 = μ 90 1 + 1 := rfl
    rw [e0, e1]
    constructor
    · rintro (h | h)
      · rcases h with h | h | h
        · exact Or.inl h
        · exact Or.inr (Or.inl (by omega))
        · exact Or.inr (Or.inr (by omega))
      · exact Or.inr (Or.inr (by omega))
    · rintro (h | h | h)
      · exact Or.inl (Or.inl h)
      · exact Or.inl (Or.inr (Or.inl h))
      · by_cases hx : a = 200 + (μ 90 1).toNat
        · exact Or.inr hx
        · exact Or.inl (Or.inr (Or.inr (by omega)))
  have hcell : lay cy (adu ad (200 + (μ 90 1).toNat) q) (200 + (μ 90 1).toNat) (newG μ (200 + (μ 90 1).toNat)) = .inr (0, [.int 0, .int 0, .int 0, .int 0, .int 0]) := by
    rw [hnew, ly_g2 cy _ (by omega) (by omega)]
    rfl
  have K := kk q (newG μ) rfl hok1 (CF_adu (by omega)) ?_ ?_ H1 locs (wld_P hid hnO hoN h90 (fun a h j _ => hrf a h j) hcell hP1) (wld_D hoN hD1) hS1 ls (by rw [lvp_adu hlv]; exact hl)
  · rw [List.map_cons, map_adu hst, vv_rf, rv_at (by omega), show (200 + μ 90 1).toNat = 200 + (μ 90 1).toNat by omega, adu_at] at K
    exact K
  · intro a j
    unfold newG
    split
    · unfold upf
      split
      · exact ⟨by omega, by omega⟩
      · exact ho 90 j
    · split
      · exact z0_in
      · exact ho a j
  · refine ⟨fun a ha => (hok1 a).mpr (Or.inl ha), fun k hk => (hok1 _).mpr (Or.inr (Or.inl ⟨by omega, by omega⟩)), fun k hk => (hok1 _).mpr (Or.inr (Or.inr ⟨by omega, by omega⟩))⟩
theorem smallref {x : Int} {b k : Nat} (h : x < 100) (hb : 100 ≤ b) : x < 0 ∨ x.toNat ≠ b + k := by omega
theorem idsOK_90 {ids : List Nat} {μ μ1 : Mem} (h : μ1 90 = μ 90) (hk : idsOK ids μ) : idsOK ids μ1 := by
  unfold idsOK
  rw [h]
  exact hk
/-- a call of a method that may make something -/
theorem CF_ext {ad ad1 : Nat → Nat} {A : Nat → Prop} {U : State} (e : ∀ k, 1000 ≤ k → ad1 k = ad k) (h : CF ad A U) : CF ad1 A U := by
  obtain ⟨h1, h2, h3, h4, h5, h6, h7⟩ := h
  refine ⟨?_, fun x hx => vk_R_cong (h2 x hx) (e _ (by omega)), ?_, ?_, ?_, h6, ?_⟩
  · have e1 : (fun i => ad1 (1000 + i)) = fun i => ad (1000 + i) := funext (fun i => e _ (by omega))
    have e2 : (fun i => ad1 (1020 + i)) = fun i => ad (1020 + i) := funext (fun i => e _ (by omega))
    rw [e1, e2]
    exact h1
  · unfold cfRow at h3 ⊢
    rw [e _ (by decide)]
    exact h3
  · unfold cfRow at h4 ⊢
    rw [e _ (by decide)]
    exact h4
  · unfold cfRow at h5 ⊢
    rw [e _ (by decide)]
    exact h5
  · rw [e _ (by decide)]
    exact h7
theorem g_callVN (C : Cx p s m args meth c D tys A nL cc own ret) (hCF : CF ad A s) {y : MethodName} {bytes : ByteArray} {mL index lev mc ms : Nat} {ret2 : Option FieldType} {As : List AV} {x : Int} (o : Nat) (h0 : 0 ≤ x) (hxo : x.toNat = o) (hm : gho ids μ → o ∈ ids) {ci : Nat} {cs : List AV} (hly : ly ad o (μ o) = ceO ad ci cs) {T : u_T} {N : Nat} (hc : vwCl[ci]? = some (y.cls, T, N)) (hM : KN l D tys ly ids ad lev mc ms y bytes mL ret2 (rf x :: As) μ r μ') (hlR : (rmn lev mc ms).frames + 1 ≤ R.frames ∧ 8 + (mL + 11) + (rmn lev mc ms).locals ≤ R.locals) (hcs : cells + mc ≤ R.cells ∧ slots + ms ≤ R.slots) (hlk : Cond.methodLink own index y ∈ WS) (hcode : Cond.code y bytes mL ret2 ∈ WS) (hini : Cond.initialized y.cls ∈ WS) (hinst : Cond.instanceMethod y ∈ WS) (hsel : Cond.selects y.cls y y ∈ WS) (n : Nat) (hdd : y.cls ≠ "java/lang/invoke/MethodHandle" ∧ y.cls ≠ "java/lang/invoke/VarHandle" ∧ (parseMethodDescriptor y.desc).map (fun d => d.parameters.length) = some n) (hn : As.length = n) (hst8 : st.length ≤ 8) (hd : decode cc pc = .ok (.invokevirtual index, 3)) (hlv : ∀ v, some v ∈ lv → v.1 = true → v.2 < 0 ∨ v.2.toNat ∈ ids ∨ 1000 ≤ v.2.toNat) (hsv : ∀ v ∈ st, v.1 = true → v.2 < 0 ∨ v.2.toNat ∈ ids ∨ 1000 ≤ v.2.toNat) (kk : ∀ (ids1 : List Nat) (ad1 : Nat → Nat), ext ids ad (ids1, ad1) μ' → inR r → (CF ad A s → CF ad1 A s) → V p l e R s m args below meth c (cells + mc) (slots + ms) Q D A ly ids1 ad1 nL μ' (pc + 3) lv (nu r :: st)) : V p l e R s m args below meth c cells slots Q D A ly ids ad nL μ pc lv (As.reverse ++ rf x :: st) := by
  intro ho hg H locs hP hD hS ls hl
  have hts := C.2.2.2.2.1
  have hFc : ∀ q, va_A (wld ly ids ad μ) H.size q → A q := fun q h => by
    rcases h with ⟨k, ee, h⟩ | h
    · exact hD.2 k (q, ee) h
    · exact C.2.2.2.2.2.2.1 q (Nat.le_trans hS.1 h)
  have hpre : ∀ U : State, U.heap = H → s.WarmedH U.vm → va_Pc ((rf x :: As).map (vv ad)) (PW D tys ly ids ad μ H.size) ((rf x :: As).map (vv ad)).toArray U := fun U hU hW => ⟨rfl, by rw [hU], ho, hg, by rw [hU]; exact hP, va_K.moved hW.alike C.2.2.2.2.2.1, hD.weaken (fun _ _ _ _ => trivial), NW.warm hW C.2.2.2.2.2.2.2.2.2, hCF.move hW (fun q h1 h2 => by rw [hU]; exact hS.2.1 q h1 h2) hFc⟩
  have hbl : FrameBlind (va_Pc ((rf x :: As).map (vv ad)) (PW D tys ly ids ad μ H.size)) := fun a U g mk q => by
    obtain ⟨q0, q1, q2, q3, q4, q5, q6, q7, q8⟩ := q
    exact ⟨q0, q1, q2, q3, q4, va_K.moved (u := U) (U := U.calling g mk a) (Vm.Alike.refl U.vm) q5, q6, fun w hw hn => va_Nw.same (u := U) (by cases w <;> first | rfl | (simp [nestW] at hn; done)) rfl (q7 w hw hn), CF.same q8⟩
  subst hxo
  obtain ⟨q0, hq, -⟩ := wld_get (ly := ly) (ad := ad) (μ := μ) (hm hg)
  rw [hly] at hq
  have hstk : ((As.reverse ++ rf x :: st).map (vv ad)) = (As.map (vv ad)).reverse ++ .ref (ad x.toNat) :: st.map (vv ad) := by
    rw [List.map_append, List.map_reverse, List.map_cons, vv_rf, rv_at h0]
  have hre : (Value.ref (ad x.toNat) :: As.map (vv ad)) = (rf x :: As).map (vv ad) := by
    rw [List.map_cons, vv_rf, rv_at h0]
  rw [hstk]
  have hcz := hcs
  refine va_calli (va_runV (As := As.map (vv ad)) (rest := st.map (vv ad)) (n := n) ⟨C.1, C.2.1, C.2.2.1, C.2.2.2.1, hts⟩ (hM H.size) ⟨callB_of n hts (WS_good hcode) rfl rfl rfl (hts _ hini) (hts _ hlk) hdd hlR, hts _ hinst, hts _ hsel⟩ ⟨hbl, va_recv C.2.2.2.2.2.1 hP hc hq, fun U hU hW => by rw [hre]; exact hpre U hU hW⟩ rfl (by rw [List.length_map]; exact hn) hl.1 rfl (lv_room (by rw [List.map_map]; exact Nat.le_trans (Nat.le_of_eq (sum_cat ad st)) hst8)) hd ⟨hcz.1, hcz.2⟩) hS (fun q _ h => hFc q h) hFc (fun r0 u t H1 locs1 ht hvm hw hB hz1 hk1 hS1 => ?_)
  obtain ⟨ids1, ad1⟩ := u
  obtain ⟨⟨rfl, hx⟩, hrr⟩ := hw
  have hav : ∀ v : AV, (v.1 = true → v.2 < 0 ∨ v.2.toNat ∈ ids ∨ 1000 ≤ v.2.toNat) → vv ad1 v = vv ad v := fun v hv => by
    unfold vv
    split
    · rename_i h1
      unfold rv
      split
      · rfl
      · rcases hv h1 with h2 | h2 | h2
        · omega
        · exact congrArg Value.ref (hx.2.1 _ h2)
        · exact congrArg Value.ref (hx.2.2 _ h2)
    · rfl
  obtain ⟨ho1, hg1, hP1, hK1, hD1⟩ := hB
  rw [ht] at hP1
  have hl1 : lvp ad1 lv = lvp ad lv := by
    unfold lvp
    congr 1
    funext i
    cases hi : lv[i]? with
    | none => rfl
    | some w =>
      cases w with
      | none => rfl
      | some v =>
        show some (i, vv ad1 v) = some (i, vv ad v)
        rw [hav v (hlv v (List.mem_of_getElem? hi))]
  have K := kk ids1 ad1 hx hrr (CF_ext hx.2.2) ho1 hg1 H1 locs1 hP1 (hD1.weaken (fun k q _ h => hFc q.1 h)) hS1 ls (by rw [hl1]; exact hl)
  rw [List.map_cons, List.map_congr_left (fun v hv => hav v (hsv v hv))] at K
  exact K
end VM
