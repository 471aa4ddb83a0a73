/-! numbers of 32 bits and whole numbers -/
section RDI
def iI (x : Int) : Int32 := Int32.ofInt x
/-- x is a number of 32 bits -/
def iB (x : Int) : Prop := -2147483648 ≤ x ∧ x ≤ 2147483647
theorem iI_to {x : Int} (h : iB x) : (iI x).toInt = x := by
  unfold iI
  rw [Int32.toInt_ofInt_of_le (by have := h.1; omega) (by have := h.2; omega)]
theorem iI_of (x : Int32) : iI x.toInt = x := Int32.ofInt_toInt x
theorem iB_of (x : Int32) : iB x.toInt := ⟨Int32.le_toInt x, by have := Int32.toInt_lt x; omega⟩
theorem iI_ex (x : Int32) : ∃ a : Int, iB a ∧ x = iI a := ⟨x.toInt, iB_of x, (iI_of x).symm⟩
theorem iI_add (a b : Int) : iI a + iI b = iI (a + b) := (Int32.ofInt_add a b).symm
theorem iI_sub (a b : Int) : iI a - iI b = iI (a - b) := (Int32.ofInt_sub a b).symm
theorem iI_mul (a b : Int) : iI a * iI b = iI (a * b) := (Int32.ofInt_mul a b).symm
theorem iI_neg (a : Int) : -iI a = iI (-a) := (Int32.ofInt_neg a).symm
theorem iI_lt {a b : Int} (ha : iB a) (hb : iB b) : iI a < iI b ↔ a < b := by
  rw [Int32.lt_iff_toInt_lt, iI_to ha, iI_to hb]
theorem iI_le {a b : Int} (ha : iB a) (hb : iB b) : iI a ≤ iI b ↔ a ≤ b := by
  rw [Int32.le_iff_toInt_le, iI_to ha, iI_to hb]
theorem iI_eq {a b : Int} (ha : iB a) (hb : iB b) : iI a = iI b ↔ a = b := by
  rw [← Int32.toInt_inj, iI_to ha, iI_to hb]
theorem iI_cl {a : Int} (ha : iB a) : (iI a).toNatClampNeg = a.toNat := by
  show (iI a).toInt.toNat = _
  rw [iI_to ha]
theorem iI_in {a : Int} {n : Nat} (h0 : 0 ≤ a) (h1 : a < n) (hn : n ≤ 2147483647) : vp_in (iI a) n := by
  have ha : iB a := ⟨by omega, by omega⟩
  intro h
  rcases h with h | h
  · have h2 : iI a < iI 0 := h
    rw [iI_lt ha ⟨by omega, by omega⟩] at h2
    omega
  · rw [iI_cl ha] at h
    omega
theorem iI_nat (n : Nat) : Int32.ofNat n = iI (n : Int) := by
  unfold iI
  exact (Int32.ofInt_eq_ofNat).symm
end RDI
