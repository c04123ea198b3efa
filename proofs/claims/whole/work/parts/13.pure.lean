theorem clone_fit {cA : ClassId} {f : Nat → Int32} {i : Nat} {v : Value} (h : (vp_cell cA (14, .inl f)).slots[i]? = some v) : fits .int v = true := by
  have h1 : (arrV cA 14 (fun j => .int (f j))).slots[i]? = some v := h
  rcases Nat.lt_or_ge i 14 with q | q
  · rw [arrV_read _ _ q] at h1
    cases h1
    rfl
  · have h2 : (arrV cA 14 (fun j => .int (f j))).slots.size ≤ i := by rw [arrV_size]; exact q
    rw [Array.getElem?_eq_none h2] at h1
    cases h1
theorem cpy_back {be : Nat → Int32} {x y : Int32} {N : Nat} (hN : N ≤ 14 := by assumption) : va_cpy be (lkU be x y N) (0 : Int32).toNatClampNeg (0 : Int32).toNatClampNeg (14 : Int32).toNatClampNeg = be := by
  funext j
  show (if 0 ≤ j ∧ j < 0 + 14 then be (0 + (j - 0)) else lkU be x y N j) = be j
  by_cases h : j < 14
  · rw [if_pos ⟨by omega, by omega⟩]
    congr 1
    omega
  · rw [if_neg (by omega)]
    unfold lkU
    rw [if_neg]
    simp
    omega
