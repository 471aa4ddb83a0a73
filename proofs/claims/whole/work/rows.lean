section
-- ===== PART A: goes FIRST, ahead of the names: the tables' words, and 'selects' of the private methods out of them =====
/-- a private method of a class that the tables say can be made, by its rows of tables_1 -/
def lw_okq (q : MethodName × Nat) : Prop := (q.1.cls ≠ "java/lang/invoke/MethodHandle" ∧ q.1.cls ≠ "java/lang/invoke/VarHandle") ∧ Cond.instantiable q.1.cls q.2 ∈ tables_1 ∧ Cond.privateMethod q.1 ∈ tables_1 ∧ Cond.instanceMethod q.1 ∈ tables_1
theorem lw_p0 : lw_okq (⟨"RunwayDesk$Search", "begin", "(LRunwayDesk$State;)V"⟩, 5) := ⟨⟨by decide +kernel, by decide +kernel⟩, List.mem_of_getElem? (i := 91) (by decide +kernel), List.mem_of_getElem? (i := 143) (by decide +kernel), List.mem_of_getElem? (i := 144) (by decide +kernel)⟩
theorem lw_p1 : lw_okq (⟨"RunwayDesk$State", "closureAt", "(I)I"⟩, 13) := ⟨⟨by decide +kernel, by decide +kernel⟩, List.mem_of_getElem? (i := 24) (by decide +kernel), List.mem_of_getElem? (i := 166) (by decide +kernel), List.mem_of_getElem? (i := 167) (by decide +kernel)⟩
theorem lw_p2 : lw_okq (⟨"RunwayDesk$State", "firstOpen", "(I)I"⟩, 13) := ⟨⟨by decide +kernel, by decide +kernel⟩, List.mem_of_getElem? (i := 24) (by decide +kernel), List.mem_of_getElem? (i := 173) (by decide +kernel), List.mem_of_getElem? (i := 174) (by decide +kernel)⟩
theorem lw_p3 : lw_okq (⟨"RunwayDesk$Search", "rowDelay", "(LRunwayDesk$State;I)I"⟩, 5) := ⟨⟨by decide +kernel, by decide +kernel⟩, List.mem_of_getElem? (i := 91) (by decide +kernel), List.mem_of_getElem? (i := 177) (by decide +kernel), List.mem_of_getElem? (i := 178) (by decide +kernel)⟩
theorem lw_p4 : lw_okq (⟨"RunwayDesk$Search", "tryPlace", "(LRunwayDesk$State;I)V"⟩, 5) := ⟨⟨by decide +kernel, by decide +kernel⟩, List.mem_of_getElem? (i := 91) (by decide +kernel), List.mem_of_getElem? (i := 185) (by decide +kernel), List.mem_of_getElem? (i := 186) (by decide +kernel)⟩
theorem lw_p5 : lw_okq (⟨"RunwayDesk$Search", "putAt", "(LRunwayDesk$State;II)V"⟩, 5) := ⟨⟨by decide +kernel, by decide +kernel⟩, List.mem_of_getElem? (i := 91) (by decide +kernel), List.mem_of_getElem? (i := 199) (by decide +kernel), List.mem_of_getElem? (i := 200) (by decide +kernel)⟩
theorem lw_p6 : lw_okq (⟨"RunwayDesk$Search", "isWorthwhile", "(I)Z"⟩, 5) := ⟨⟨by decide +kernel, by decide +kernel⟩, List.mem_of_getElem? (i := 91) (by decide +kernel), List.mem_of_getElem? (i := 208) (by decide +kernel), List.mem_of_getElem? (i := 209) (by decide +kernel)⟩
theorem lw_p7 : lw_okq (⟨"RunwayDesk$State", "isSoundFor", "(I[I)Z"⟩, 13) := ⟨⟨by decide +kernel, by decide +kernel⟩, List.mem_of_getElem? (i := 24) (by decide +kernel), List.mem_of_getElem? (i := 224) (by decide +kernel), List.mem_of_getElem? (i := 225) (by decide +kernel)⟩
theorem lw_p8 : lw_okq (⟨"RunwayDesk$State", "isTooNearBehind", "(I[I)Z"⟩, 13) := ⟨⟨by decide +kernel, by decide +kernel⟩, List.mem_of_getElem? (i := 24) (by decide +kernel), List.mem_of_getElem? (i := 235) (by decide +kernel), List.mem_of_getElem? (i := 236) (by decide +kernel)⟩
theorem lw_p9 : lw_okq (⟨"RunwayDesk", "isChanged", "(I)Z"⟩, 5) := ⟨⟨by decide +kernel, by decide +kernel⟩, List.mem_of_getElem? (i := 16) (by decide +kernel), List.mem_of_getElem? (i := 266) (by decide +kernel), List.mem_of_getElem? (i := 267) (by decide +kernel)⟩
theorem lw_p10 : lw_okq (⟨"java/lang/Throwable", "fillInStackTrace", "(I)Ljava/lang/Throwable;"⟩, 6) := ⟨⟨by decide +kernel, by decide +kernel⟩, List.mem_of_getElem? (i := 322) (by decide +kernel), List.mem_of_getElem? (i := 320) (by decide +kernel), List.mem_of_getElem? (i := 321) (by decide +kernel)⟩
theorem lw_p11 : lw_okq (⟨"RunwayDesk", "requireMovement", "(I)V"⟩, 5) := ⟨⟨by decide +kernel, by decide +kernel⟩, List.mem_of_getElem? (i := 16) (by decide +kernel), List.mem_of_getElem? (i := 382) (by decide +kernel), List.mem_of_getElem? (i := 383) (by decide +kernel)⟩
theorem lw_p12 : lw_okq (⟨"RunwayDesk", "requireInRange", "(II)V"⟩, 5) := ⟨⟨by decide +kernel, by decide +kernel⟩, List.mem_of_getElem? (i := 16) (by decide +kernel), List.mem_of_getElem? (i := 412) (by decide +kernel), List.mem_of_getElem? (i := 413) (by decide +kernel)⟩
theorem lw_p13 : lw_okq (⟨"RunwayDesk$State", "isTooNear", "(IIII)Z"⟩, 13) := ⟨⟨by decide +kernel, by decide +kernel⟩, List.mem_of_getElem? (i := 24) (by decide +kernel), List.mem_of_getElem? (i := 443) (by decide +kernel), List.mem_of_getElem? (i := 444) (by decide +kernel)⟩
theorem lw_p14 : lw_okq (⟨"RunwayDesk", "latestSound", "(I)I"⟩, 5) := ⟨⟨by decide +kernel, by decide +kernel⟩, List.mem_of_getElem? (i := 16) (by decide +kernel), List.mem_of_getElem? (i := 508) (by decide +kernel), List.mem_of_getElem? (i := 509) (by decide +kernel)⟩
theorem lw_p15 : lw_okq (⟨"RunwayDesk", "laterIfSound", "(III)I"⟩, 5) := ⟨⟨by decide +kernel, by decide +kernel⟩, List.mem_of_getElem? (i := 16) (by decide +kernel), List.mem_of_getElem? (i := 512) (by decide +kernel), List.mem_of_getElem? (i := 513) (by decide +kernel)⟩
def lw_privs_1 : List (MethodName × Nat) := [(⟨"RunwayDesk$Search", "begin", "(LRunwayDesk$State;)V"⟩, 5), (⟨"RunwayDesk$State", "closureAt", "(I)I"⟩, 13), (⟨"RunwayDesk$State", "firstOpen", "(I)I"⟩, 13), (⟨"RunwayDesk$Search", "rowDelay", "(LRunwayDesk$State;I)I"⟩, 5), (⟨"RunwayDesk$Search", "tryPlace", "(LRunwayDesk$State;I)V"⟩, 5), (⟨"RunwayDesk$Search", "putAt", "(LRunwayDesk$State;II)V"⟩, 5), (⟨"RunwayDesk$Search", "isWorthwhile", "(I)Z"⟩, 5), (⟨"RunwayDesk$State", "isSoundFor", "(I[I)Z"⟩, 13), (⟨"RunwayDesk$State", "isTooNearBehind", "(I[I)Z"⟩, 13), (⟨"RunwayDesk", "isChanged", "(I)Z"⟩, 5), (⟨"java/lang/Throwable", "fillInStackTrace", "(I)Ljava/lang/Throwable;"⟩, 6), (⟨"RunwayDesk", "requireMovement", "(I)V"⟩, 5), (⟨"RunwayDesk", "requireInRange", "(II)V"⟩, 5), (⟨"RunwayDesk$State", "isTooNear", "(IIII)Z"⟩, 13), (⟨"RunwayDesk", "latestSound", "(I)I"⟩, 5), (⟨"RunwayDesk", "laterIfSound", "(III)I"⟩, 5)]
theorem lw_r1 : ∀ q ∈ lw_privs_1, lw_okq q := List.forall_mem_cons.mpr ⟨lw_p0, List.forall_mem_cons.mpr ⟨lw_p1, List.forall_mem_cons.mpr ⟨lw_p2, List.forall_mem_cons.mpr ⟨lw_p3, List.forall_mem_cons.mpr ⟨lw_p4, List.forall_mem_cons.mpr ⟨lw_p5, List.forall_mem_cons.mpr ⟨lw_p6, List.forall_mem_cons.mpr ⟨lw_p7, List.forall_mem_cons.mpr ⟨lw_p8, List.forall_mem_cons.mpr ⟨lw_p9, List.forall_mem_cons.mpr ⟨lw_p10, List.forall_mem_cons.mpr ⟨lw_p11, List.forall_mem_cons.mpr ⟨lw_p12, List.forall_mem_cons.mpr ⟨lw_p13, List.forall_mem_cons.mpr ⟨lw_p14, List.forall_mem_cons.mpr ⟨lw_p15, fun _ h => absurd h List.not_mem_nil⟩⟩⟩⟩⟩⟩⟩⟩⟩⟩⟩⟩⟩⟩⟩⟩
theorem lw_p16 : lw_okq (⟨"RunwayDesk", "changed", "(I)I"⟩, 5) := ⟨⟨by decide +kernel, by decide +kernel⟩, List.mem_of_getElem? (i := 16) (by decide +kernel), List.mem_of_getElem? (i := 524) (by decide +kernel), List.mem_of_getElem? (i := 525) (by decide +kernel)⟩
theorem lw_p17 : lw_okq (⟨"RunwayDeskModel", "count", "()I"⟩, 22) := ⟨⟨by decide +kernel, by decide +kernel⟩, List.mem_of_getElem? (i := 528) (by decide +kernel), List.mem_of_getElem? (i := 613) (by decide +kernel), List.mem_of_getElem? (i := 614) (by decide +kernel)⟩
theorem lw_p18 : lw_okq (⟨"RunwayDeskModel", "isThere", "(I)Z"⟩, 22) := ⟨⟨by decide +kernel, by decide +kernel⟩, List.mem_of_getElem? (i := 528) (by decide +kernel), List.mem_of_getElem? (i := 621) (by decide +kernel), List.mem_of_getElem? (i := 622) (by decide +kernel)⟩
theorem lw_p19 : lw_okq (⟨"RunwayDeskModel", "isClosed", "(I)Z"⟩, 22) := ⟨⟨by decide +kernel, by decide +kernel⟩, List.mem_of_getElem? (i := 528) (by decide +kernel), List.mem_of_getElem? (i := 648) (by decide +kernel), List.mem_of_getElem? (i := 649) (by decide +kernel)⟩
theorem lw_p20 : lw_okq (⟨"RunwayDeskModel", "areNear", "(IIII)Z"⟩, 22) := ⟨⟨by decide +kernel, by decide +kernel⟩, List.mem_of_getElem? (i := 528) (by decide +kernel), List.mem_of_getElem? (i := 652) (by decide +kernel), List.mem_of_getElem? (i := 653) (by decide +kernel)⟩
theorem lw_p21 : lw_okq (⟨"RunwayDeskModel", "search", "()I"⟩, 22) := ⟨⟨by decide +kernel, by decide +kernel⟩, List.mem_of_getElem? (i := 528) (by decide +kernel), List.mem_of_getElem? (i := 664) (by decide +kernel), List.mem_of_getElem? (i := 665) (by decide +kernel)⟩
theorem lw_p22 : lw_okq (⟨"RunwayDeskModel", "layOrder", "()V"⟩, 22) := ⟨⟨by decide +kernel, by decide +kernel⟩, List.mem_of_getElem? (i := 528) (by decide +kernel), List.mem_of_getElem? (i := 668) (by decide +kernel), List.mem_of_getElem? (i := 669) (by decide +kernel)⟩
theorem lw_p23 : lw_okq (⟨"RunwayDeskModel", "placeOf", "(I)I"⟩, 22) := ⟨⟨by decide +kernel, by decide +kernel⟩, List.mem_of_getElem? (i := 528) (by decide +kernel), List.mem_of_getElem? (i := 672) (by decide +kernel), List.mem_of_getElem? (i := 673) (by decide +kernel)⟩
theorem lw_p24 : lw_okq (⟨"RunwayDeskModel", "keepBest", "()V"⟩, 22) := ⟨⟨by decide +kernel, by decide +kernel⟩, List.mem_of_getElem? (i := 528) (by decide +kernel), List.mem_of_getElem? (i := 676) (by decide +kernel), List.mem_of_getElem? (i := 677) (by decide +kernel)⟩
theorem lw_p25 : lw_okq (⟨"RunwayDeskModel", "lay", "(III)Z"⟩, 22) := ⟨⟨by decide +kernel, by decide +kernel⟩, List.mem_of_getElem? (i := 528) (by decide +kernel), List.mem_of_getElem? (i := 680) (by decide +kernel), List.mem_of_getElem? (i := 681) (by decide +kernel)⟩
theorem lw_p26 : lw_okq (⟨"RunwayDeskModel", "secondFrom", "(II)I"⟩, 22) := ⟨⟨by decide +kernel, by decide +kernel⟩, List.mem_of_getElem? (i := 528) (by decide +kernel), List.mem_of_getElem? (i := 684) (by decide +kernel), List.mem_of_getElem? (i := 685) (by decide +kernel)⟩
theorem lw_p27 : lw_okq (⟨"RunwayDeskModel", "openFrom", "(I)I"⟩, 22) := ⟨⟨by decide +kernel, by decide +kernel⟩, List.mem_of_getElem? (i := 528) (by decide +kernel), List.mem_of_getElem? (i := 688) (by decide +kernel), List.mem_of_getElem? (i := 689) (by decide +kernel)⟩
theorem lw_p28 : lw_okq (⟨"RunwayDeskModel", "delay", "(II)I"⟩, 22) := ⟨⟨by decide +kernel, by decide +kernel⟩, List.mem_of_getElem? (i := 528) (by decide +kernel), List.mem_of_getElem? (i := 692) (by decide +kernel), List.mem_of_getElem? (i := 693) (by decide +kernel)⟩
theorem lw_p29 : lw_okq (⟨"RunwayDeskModel", "placeIn", "(I)I"⟩, 22) := ⟨⟨by decide +kernel, by decide +kernel⟩, List.mem_of_getElem? (i := 528) (by decide +kernel), List.mem_of_getElem? (i := 716) (by decide +kernel), List.mem_of_getElem? (i := 717) (by decide +kernel)⟩
theorem lw_p30 : lw_okq (⟨"RunwayDeskModel", "firstWrong", "()I"⟩, 22) := ⟨⟨by decide +kernel, by decide +kernel⟩, List.mem_of_getElem? (i := 528) (by decide +kernel), List.mem_of_getElem? (i := 728) (by decide +kernel), List.mem_of_getElem? (i := 729) (by decide +kernel)⟩
theorem lw_p31 : lw_okq (⟨"RunwayDeskModel", "isSound", "(I)Z"⟩, 22) := ⟨⟨by decide +kernel, by decide +kernel⟩, List.mem_of_getElem? (i := 528) (by decide +kernel), List.mem_of_getElem? (i := 732) (by decide +kernel), List.mem_of_getElem? (i := 733) (by decide +kernel)⟩
def lw_privs_2 : List (MethodName × Nat) := [(⟨"RunwayDesk", "changed", "(I)I"⟩, 5), (⟨"RunwayDeskModel", "count", "()I"⟩, 22), (⟨"RunwayDeskModel", "isThere", "(I)Z"⟩, 22), (⟨"RunwayDeskModel", "isClosed", "(I)Z"⟩, 22), (⟨"RunwayDeskModel", "areNear", "(IIII)Z"⟩, 22), (⟨"RunwayDeskModel", "search", "()I"⟩, 22), (⟨"RunwayDeskModel", "layOrder", "()V"⟩, 22), (⟨"RunwayDeskModel", "placeOf", "(I)I"⟩, 22), (⟨"RunwayDeskModel", "keepBest", "()V"⟩, 22), (⟨"RunwayDeskModel", "lay", "(III)Z"⟩, 22), (⟨"RunwayDeskModel", "secondFrom", "(II)I"⟩, 22), (⟨"RunwayDeskModel", "openFrom", "(I)I"⟩, 22), (⟨"RunwayDeskModel", "delay", "(II)I"⟩, 22), (⟨"RunwayDeskModel", "placeIn", "(I)I"⟩, 22), (⟨"RunwayDeskModel", "firstWrong", "()I"⟩, 22), (⟨"RunwayDeskModel", "isSound", "(I)Z"⟩, 22)]
theorem lw_r2 : ∀ q ∈ lw_privs_2, lw_okq q := List.forall_mem_cons.mpr ⟨lw_p16, List.forall_mem_cons.mpr ⟨lw_p17, List.forall_mem_cons.mpr ⟨lw_p18, List.forall_mem_cons.mpr ⟨lw_p19, List.forall_mem_cons.mpr ⟨lw_p20, List.forall_mem_cons.mpr ⟨lw_p21, List.forall_mem_cons.mpr ⟨lw_p22, List.forall_mem_cons.mpr ⟨lw_p23, List.forall_mem_cons.mpr ⟨lw_p24, List.forall_mem_cons.mpr ⟨lw_p25, List.forall_mem_cons.mpr ⟨lw_p26, List.forall_mem_cons.mpr ⟨lw_p27, List.forall_mem_cons.mpr ⟨lw_p28, List.forall_mem_cons.mpr ⟨lw_p29, List.forall_mem_cons.mpr ⟨lw_p30, List.forall_mem_cons.mpr ⟨lw_p31, fun _ h => absurd h List.not_mem_nil⟩⟩⟩⟩⟩⟩⟩⟩⟩⟩⟩⟩⟩⟩⟩⟩
def lw_privs : List (MethodName × Nat) := lw_privs_1 ++ (lw_privs_2)
def lw_tbl : List Cond := k2_sels lw_privs ++ tables_1
theorem lw_privs_ok : ∀ q ∈ lw_privs, lw_okq q := by
  show ∀ q ∈ lw_privs_1 ++ (lw_privs_2), lw_okq q
  exact List.forall_mem_append.mpr ⟨lw_r1, lw_r2⟩
end
section
/-! pure mathematics of the desk: counts, sums, the first second that isn't closed, a movement's first second -/
section RDM
/-- how many i < n have p -/
def rd_cnt (p : Nat → Bool) : Nat → Nat
  | 0 => 0
  | n + 1 => rd_cnt p n + (if p n = true then 1 else 0)
/-- the sum of f i, i < n -/
def rd_sum (f : Nat → Int) : Nat → Int
  | 0 => 0
  | n + 1 => rd_sum f n + f n
/-- the least i < n with p -/
def rd_fst (p : Nat → Bool) : Nat → Option Nat
  | 0 => none
  | n + 1 => match rd_fst p n with
    | some i => some i
    | none => if p n = true then some n else none
/-- has some i < n p -/
def rd_any (p : Nat → Bool) : Nat → Bool
  | 0 => false
  | n + 1 => rd_any p n || p n
theorem rd_cnt_le (p : Nat → Bool) (n : Nat) : rd_cnt p n ≤ n := by
  induction n with
  | zero => simp [rd_cnt]
  | succ n ih => simp only [rd_cnt]; split <;> omega
theorem rd_cnt_congr {p q : Nat → Bool} {n : Nat} (h : ∀ i, i < n → p i = q i) : rd_cnt p n = rd_cnt q n := by
  induction n with
  | zero => rfl
  | succ n ih => simp only [rd_cnt]; rw [ih (fun i hi => h i (by omega)), h n (by omega)]
theorem rd_cnt_mono {p q : Nat → Bool} {n : Nat} (h : ∀ i, i < n → p i = true → q i = true) : rd_cnt p n ≤ rd_cnt q n := by
  induction n with
  | zero => simp [rd_cnt]
  | succ n ih =>
    have h1 := ih (fun i hi => h i (by omega))
    have h2 := h n (by omega)
    simp only [rd_cnt]
    by_cases hp : p n = true
    · simp [hp, h2 hp]; omega
    · simp [hp]; omega
/-- a subset of the same size is the whole set -/
theorem rd_cnt_all {p q : Nat → Bool} {n : Nat} (h : ∀ i, i < n → p i = true → q i = true) (he : rd_cnt q n ≤ rd_cnt p n) : ∀ i, i < n → q i = true → p i = true := by
  induction n with
  | zero => intro i hi; omega
  | succ n ih =>
    have h1 := rd_cnt_mono (n := n) (fun i hi => h i (by omega))
    have h2 := h n (by omega)
    simp only [rd_cnt] at he
    intro i hi hq
    by_cases hp : p n = true
    · have hqn := h2 hp
      simp [hp, hqn] at he
      rcases Nat.lt_succ_iff_lt_or_eq.mp hi with hlt | heq
      · exact ih (fun i hi => h i (by omega)) he i hlt hq
      · rw [heq]; exact hp
    · simp [hp] at he
      by_cases hqn : q n = true
      · simp [hqn] at he; omega
      · simp [hqn] at he
        rcases Nat.lt_succ_iff_lt_or_eq.mp hi with hlt | heq
        · exact ih (fun i hi => h i (by omega)) he i hlt hq
        · rw [heq] at hq; exact absurd hq hqn
theorem rd_cnt_lt {p q : Nat → Bool} {n j : Nat} (h : ∀ i, i < n → p i = true → q i = true) (hj : j < n) (hq : q j = true) (hp : p j = false) : rd_cnt p n < rd_cnt q n := by
  rcases Nat.lt_or_ge (rd_cnt p n) (rd_cnt q n) with h1 | h1
  · exact h1
  · have := rd_cnt_all h h1 j hj hq
    rw [hp] at this; cases this
/-- one more -/
theorem rd_cnt_set {p : Nat → Bool} {n j : Nat} (hj : j < n) (hp : p j = false) : rd_cnt (fun i => p i || decide (i = j)) n = rd_cnt p n + 1 := by
  induction n with
  | zero => omega
  | succ n ih =>
    simp only [rd_cnt]
    by_cases h : j = n
    · subst h
      have : rd_cnt (fun i => p i || decide (i = j)) j = rd_cnt p j := rd_cnt_congr (fun i hi => by simp; omega)
      rw [this]
      simp [hp]
    · have h1 := ih (by omega)
      rw [h1]
      have : (n = j) = False := by simp; omega
      simp [this]
      omega
theorem rd_sum_congr {f g : Nat → Int} {n : Nat} (h : ∀ i, i < n → f i = g i) : rd_sum f n = rd_sum g n := by
  induction n with
  | zero => rfl
  | succ n ih => simp only [rd_sum]; rw [ih (fun i hi => h i (by omega)), h n (by omega)]
theorem rd_sum_mono {f g : Nat → Int} {n : Nat} (h : ∀ i, i < n → f i ≤ g i) : rd_sum f n ≤ rd_sum g n := by
  induction n with
  | zero => simp [rd_sum]
  | succ n ih =>
    have h1 := ih (fun i hi => h i (by omega))
    have h2 := h n (by omega)
    simp only [rd_sum]; omega
theorem rd_sum_set {f g : Nat → Int} {n j : Nat} {x : Int} (hj : j < n) (h : ∀ i, i < n → i ≠ j → g i = f i) (hx : g j = f j + x) : rd_sum g n = rd_sum f n + x := by
  induction n with
  | zero => omega
  | succ n ih =>
    simp only [rd_sum]
    by_cases hn : j = n
    · subst hn
      rw [rd_sum_congr (g := f) (fun i hi => h i (by omega) (by omega)), hx]
      omega
    · rw [ih (by omega) (fun i hi hne => h i (by omega) hne), h n (by omega) (fun e => hn e.symm)]
      omega
theorem rd_fst_some {p : Nat → Bool} {n i : Nat} (h : rd_fst p n = some i) : i < n ∧ p i = true ∧ ∀ j, j < i → p j = false := by
  induction n with
  | zero => cases h
  | succ n ih =>
    simp only [rd_fst] at h
    cases hf : rd_fst p n with
    | some k =>
      rw [hf] at h
      cases h
      obtain ⟨h1, h2, h3⟩ := ih hf
      exact ⟨by omega, h2, h3⟩
    | none =>
      rw [hf] at h
      by_cases hp : p n = true
      · simp [hp] at h
        subst h
        refine ⟨by omega, hp, ?_⟩
        clear ih hp
        induction n with
        | zero => intro j hj; omega
        | succ n ih2 =>
          simp only [rd_fst] at hf
          cases hg : rd_fst p n with
          | some k => rw [hg] at hf; cases hf
          | none =>
            rw [hg] at hf
            by_cases hp : p n = true
            · simp [hp] at hf
            · intro j hj
              rcases Nat.lt_succ_iff_lt_or_eq.mp hj with h1 | h1
              · exact ih2 hg j h1
              · subst h1; simpa using hp
      · simp [hp] at h
theorem rd_fst_none {p : Nat → Bool} {n : Nat} (h : rd_fst p n = none) : ∀ j, j < n → p j = false := by
  induction n with
  | zero => intro j hj; omega
  | succ n ih =>
    simp only [rd_fst] at h
    cases hg : rd_fst p n with
    | some k => rw [hg] at h; cases h
    | none =>
      rw [hg] at h
      by_cases hp : p n = true
      · simp [hp] at h
      · intro j hj
        rcases Nat.lt_succ_iff_lt_or_eq.mp hj with h1 | h1
        · exact ih hg j h1
        · subst h1; simpa using hp
theorem rd_fst_stop {p : Nat → Bool} {i n : Nat} (hi : i < n) (h : ∀ j, j < i → p j = false) (hp : p i = true) : rd_fst p n = some i := by
  cases hf : rd_fst p n with
  | none => have := rd_fst_none hf i hi; rw [hp] at this; cases this
  | some k =>
    obtain ⟨h1, h2, h3⟩ := rd_fst_some hf
    rcases Nat.lt_trichotomy k i with h4 | h4 | h4
    · rw [h k h4] at h2; cases h2
    · rw [h4]
    · rw [h3 i h4] at hp; cases hp
theorem rd_fst_all {p : Nat → Bool} {n : Nat} (h : ∀ j, j < n → p j = false) : rd_fst p n = none := by
  cases hf : rd_fst p n with
  | none => rfl
  | some k => obtain ⟨h1, h2, -⟩ := rd_fst_some hf; rw [h k h1] at h2; cases h2
theorem rd_fst_congr {p q : Nat → Bool} {n : Nat} (h : ∀ i, i < n → p i = q i) : rd_fst p n = rd_fst q n := by
  induction n with
  | zero => rfl
  | succ n ih => simp only [rd_fst]; rw [ih (fun i hi => h i (by omega)), h n (by omega)]
theorem rd_any_iff {p : Nat → Bool} {n : Nat} : rd_any p n = true ↔ ∃ i, i < n ∧ p i = true := by
  induction n with
  | zero => simp [rd_any]
  | succ n ih =>
    simp only [rd_any, Bool.or_eq_true, ih]
    constructor
    · rintro (⟨i, h1, h2⟩ | h)
      · exact ⟨i, by omega, h2⟩
      · exact ⟨n, by omega, h⟩
    · rintro ⟨i, h1, h2⟩
      rcases Nat.lt_succ_iff_lt_or_eq.mp h1 with h3 | h3
      · exact Or.inl ⟨i, h3, h2⟩
      · subst h3; exact Or.inr h2
theorem rd_any_false {p : Nat → Bool} {n : Nat} : rd_any p n = false ↔ ∀ i, i < n → p i = false := by
  constructor
  · intro h i hi
    cases hp : p i with
    | false => rfl
    | true => have := rd_any_iff.mpr ⟨i, hi, hp⟩; rw [h] at this; cases this
  · intro h
    cases ha : rd_any p n with
    | false => rfl
    | true => obtain ⟨i, h1, h2⟩ := rd_any_iff.mp ha; rw [h i h1] at h2; cases h2
theorem rd_any_congr {p q : Nat → Bool} {n : Nat} (h : ∀ i, i < n → p i = q i) : rd_any p n = rd_any q n := by
  induction n with
  | zero => rfl
  | succ n ih => simp only [rd_any]; rw [ih (fun i hi => h i (by omega)), h n (by omega)]
/-! The desk's state: z f j is what field f holds at j. 0 there, 1 type, 2 early, 3 target, 4 late, 5 weight, 6 frozen, 7 gaps, 8 from, 9 to, 10 (0: closures, 1: limit), 11 result, 12 accepted -/
abbrev rd_Z : Type := Nat → Nat → Int
def rd_th (z : rd_Z) (m : Nat) : Bool := decide (z 0 m ≠ 0)
def rd_nc (z : rd_Z) : Nat := (z 10 0).toNat
def rd_in (z : rd_Z) (s : Int) (c : Nat) : Bool := decide (z 8 c ≤ s) && decide (s ≤ z 9 c)
/-- is the second closed -/
def rd_cl (z : rd_Z) (s : Int) : Bool := rd_any (rd_in z s) (rd_nc z)
/-- t is the first second from s on that isn't closed -/
def rd_Fo (z : rd_Z) (s t : Int) : Prop := s ≤ t ∧ rd_cl z t = false ∧ ∀ u, s ≤ u → u < t → rd_cl z u = true
theorem rd_Fo_one {z : rd_Z} {s t t' : Int} (h : rd_Fo z s t) (h' : rd_Fo z s t') : t = t' := by
  obtain ⟨h1, h2, h3⟩ := h
  obtain ⟨g1, g2, g3⟩ := h'
  rcases Int.lt_trichotomy t t' with h | h | h
  · have := g3 t h1 h; rw [h2] at this; cases this
  · exact h
  · have := h3 t' g1 h; rw [g2] at this; cases this
/-- one sweep over the first n closures -/
def rd_sw (z : rd_Z) (t : Int) : Nat → Int
  | 0 => t
  | k + 1 => if rd_in z (rd_sw z t k) k = true then z 9 k + 1 else rd_sw z t k
def rd_fo (z : rd_Z) (s : Int) : Int := rd_sw z (rd_sw z (rd_sw z (rd_sw z s (rd_nc z)) (rd_nc z)) (rd_nc z)) (rd_nc z)
/-- the closures that lie ahead of t -/
def rd_ps (z : rd_Z) (t : Int) : Nat := rd_cnt (fun k => decide (z 9 k < t)) (rd_nc z)
theorem rd_sw_ge (z : rd_Z) (t : Int) (n : Nat) : t ≤ rd_sw z t n := by
  induction n with
  | zero => simp [rd_sw]
  | succ n ih =>
    simp only [rd_sw]
    split
    · rename_i h
      simp only [rd_in, Bool.and_eq_true, decide_eq_true_eq] at h
      omega
    · exact ih
theorem rd_sw_cl (z : rd_Z) (t : Int) (n : Nat) (hn : n ≤ rd_nc z) : ∀ u, t ≤ u → u < rd_sw z t n → rd_cl z u = true := by
  induction n with
  | zero => intro u h1 h2; simp [rd_sw] at h2; omega
  | succ n ih =>
    intro u h1 h2
    simp only [rd_sw] at h2
    split at h2
    · rename_i h
      rcases Int.lt_or_le u (rd_sw z t n) with h3 | h3
      · exact ih (by omega) u h1 h3
      · simp only [rd_in, Bool.and_eq_true, decide_eq_true_eq] at h
        refine rd_any_iff.mpr ⟨n, by omega, ?_⟩
        simp only [rd_in, Bool.and_eq_true, decide_eq_true_eq]
        omega
    · exact ih (by omega) u h1 h2
theorem rd_sw_stay (z : rd_Z) (t : Int) (n : Nat) (h : ∀ k, k < n → rd_in z t k = false) : rd_sw z t n = t := by
  induction n with
  | zero => rfl
  | succ n ih =>
    simp only [rd_sw]
    rw [ih (fun k hk => h k (by omega)), h n (by omega)]
    simp
theorem rd_sw_past (z : rd_Z) (t : Int) (n k : Nat) (hk : k < n) (h : rd_in z t k = true) : z 9 k < rd_sw z t n := by
  induction n with
  | zero => omega
  | succ n ih =>
    simp only [rd_sw]
    rcases Nat.lt_succ_iff_lt_or_eq.mp hk with h1 | h1
    · have h2 := ih h1
      split
      · rename_i h3
        simp only [rd_in, Bool.and_eq_true, decide_eq_true_eq] at h3
        omega
      · exact h2
    · subst h1
      have hge := rd_sw_ge z t k
      simp only [rd_in, Bool.and_eq_true, decide_eq_true_eq] at h ⊢
      split
      · omega
      · rename_i h3
        omega
theorem rd_ps_le (z : rd_Z) (t : Int) : rd_ps z t ≤ rd_nc z := rd_cnt_le _ _
theorem rd_ps_full {z : rd_Z} {t : Int} (h : rd_nc z ≤ rd_ps z t) : rd_cl z t = false := by
  refine rd_any_false.mpr fun i hi => ?_
  have h1 := rd_cnt_all (p := fun k => decide (z 9 k < t)) (q := fun _ => true) (n := rd_nc z) (fun _ _ _ => rfl) (Nat.le_trans (rd_cnt_le _ _) h) i hi rfl
  simp only [decide_eq_true_eq] at h1
  simp only [rd_in, Bool.and_eq_false_iff, decide_eq_false_iff_not]
  right; omega
/-- to pass one closure that holds t counts one -/
theorem rd_ps_lt {z : rd_Z} {t t' : Int} {k : Nat} (hk : k < rd_nc z) (h : rd_in z t k = true) (ht : t ≤ t') (hp : z 9 k < t') : rd_ps z t < rd_ps z t' := by
  simp only [rd_in, Bool.and_eq_true, decide_eq_true_eq] at h
  refine rd_cnt_lt (j := k) (fun i hi hi2 => ?_) hk (by simpa using hp) (by simp; omega)
  simp only [decide_eq_true_eq] at hi2 ⊢
  omega
theorem rd_sw_step (z : rd_Z) (t : Int) : rd_cl z t = false ∧ rd_sw z t (rd_nc z) = t ∨ rd_ps z t < rd_ps z (rd_sw z t (rd_nc z)) := by
  cases hc : rd_cl z t with
  | false => exact Or.inl ⟨rfl, rd_sw_stay z t _ (rd_any_false.mp hc)⟩
  | true =>
    obtain ⟨k, h1, h2⟩ := rd_any_iff.mp hc
    exact Or.inr (rd_ps_lt h1 h2 (rd_sw_ge _ _ _) (rd_sw_past _ _ _ k h1 h2))
theorem rd_fo_ok (z : rd_Z) (s : Int) (h4 : rd_nc z ≤ 4) : rd_Fo z s (rd_fo z s) := by
  have e : rd_fo z s = rd_sw z (rd_sw z (rd_sw z (rd_sw z s (rd_nc z)) (rd_nc z)) (rd_nc z)) (rd_nc z) := rfl
  obtain ⟨t1, e1⟩ : ∃ x, x = rd_sw z s (rd_nc z) := ⟨_, rfl⟩
  rw [← e1] at e
  obtain ⟨t2, e2⟩ : ∃ x, x = rd_sw z t1 (rd_nc z) := ⟨_, rfl⟩
  rw [← e2] at e
  obtain ⟨t3, e3⟩ : ∃ x, x = rd_sw z t2 (rd_nc z) := ⟨_, rfl⟩
  rw [← e3] at e
  obtain ⟨t4, e4⟩ : ∃ x, x = rd_sw z t3 (rd_nc z) := ⟨_, rfl⟩
  rw [← e4] at e
  have g1 := rd_sw_ge z s (rd_nc z)
  have g2 := rd_sw_ge z t1 (rd_nc z)
  have g3 := rd_sw_ge z t2 (rd_nc z)
  have g4 := rd_sw_ge z t3 (rd_nc z)
  have c1 := rd_sw_cl z s (rd_nc z) (Nat.le_refl _)
  have c2 := rd_sw_cl z t1 (rd_nc z) (Nat.le_refl _)
  have c3 := rd_sw_cl z t2 (rd_nc z) (Nat.le_refl _)
  have c4 := rd_sw_cl z t3 (rd_nc z) (Nat.le_refl _)
  have s1 := rd_sw_step z s
  have s2 := rd_sw_step z t1
  have s3 := rd_sw_step z t2
  have s4 := rd_sw_step z t3
  rw [← e1] at g1 c1 s1
  rw [← e2] at g2 c2 s2
  rw [← e3] at g3 c3 s3
  rw [← e4] at g4 c4 s4
  have l4 := rd_ps_le z t4
  rw [e]
  refine ⟨by omega, ?_, fun u h1 h2 => ?_⟩
  · rcases s4 with ⟨a, b⟩ | s4
    · rw [b]; exact a
    · rcases s3 with ⟨a, b⟩ | s3
      · have : t3 = t2 := b
        rw [this] at e4 s4
        rw [← e3] at e4
        rw [e4, this] at s4
        omega
      · rcases s2 with ⟨a, b⟩ | s2
        · have : t2 = t1 := b
          rw [this] at e3
          rw [← e2] at e3
          rw [e3, this] at s3
          omega
        · rcases s1 with ⟨a, b⟩ | s1
          · have : t1 = s := b
            rw [this] at e2
            rw [← e1] at e2
            rw [e2, this] at s2
            omega
          · exact rd_ps_full (by omega)
  · rcases Int.lt_or_le u t1 with h | h
    · exact c1 u h1 h
    · rcases Int.lt_or_le u t2 with h' | h'
      · exact c2 u h h'
      · rcases Int.lt_or_le u t3 with h'' | h''
        · exact c3 u h' h''
        · exact c4 u h'' h2
theorem rd_fo_mono {z : rd_Z} {a b : Int} (h4 : rd_nc z ≤ 4) (h : a ≤ b) : rd_fo z a ≤ rd_fo z b := by
  obtain ⟨h1, h2, h3⟩ := rd_fo_ok z a h4
  obtain ⟨g1, g2, g3⟩ := rd_fo_ok z b h4
  rcases Int.lt_or_le (rd_fo z b) (rd_fo z a) with h5 | h5
  · have := h3 _ (by omega) h5; rw [g2] at this; cases this
  · exact h5
theorem rd_fo_max {z : rd_Z} {a b : Int} (h4 : rd_nc z ≤ 4) : rd_fo z (max (rd_fo z a) b) = rd_fo z (max a b) := by
  obtain ⟨h1, h2, h3⟩ := rd_fo_ok z a h4
  obtain ⟨g1, g2, g3⟩ := rd_fo_ok z (max (rd_fo z a) b) h4
  refine rd_Fo_one (z := z) (s := max a b) ⟨by omega, g2, fun u k1 k2 => ?_⟩ (rd_fo_ok z _ h4)
  rcases Int.lt_or_le u (max (rd_fo z a) b) with h | h
  · exact h3 u (by omega) (by omega)
  · exact g3 u h k2
/-- a movement's first second from f on, or -1 -/
def rd_sec (z : rd_Z) (m : Nat) (f : Int) : Int :=
  if z 6 m ≠ -1 then (if f ≤ z 6 m ∧ rd_cl z (z 6 m) = false then z 6 m else -1)
  else if rd_fo z (max f (z 2 m)) ≤ z 4 m then rd_fo z (max f (z 2 m)) else -1
/-- what holds of a desk's state at all times -/
def rd_ok (z : rd_Z) : Prop :=
  (∀ m, m < 7 → (z 0 m = 0 ∨ z 0 m = 1) ∧ 0 ≤ z 1 m ∧ z 1 m ≤ 5 ∧ 0 ≤ z 2 m ∧ z 2 m ≤ z 4 m ∧ z 4 m ≤ 3000 ∧ 0 ≤ z 3 m ∧ z 3 m ≤ 3000 ∧ 0 ≤ z 5 m ∧ z 5 m ≤ 100 ∧
    -1 ≤ z 6 m ∧ z 6 m ≤ 3000 ∧ -1 ≤ z 11 m ∧ z 11 m ≤ 3000 ∧ -1 ≤ z 12 m ∧ z 12 m ≤ 3000 ∧ (z 0 m = 0 → z 11 m = -1 ∧ z 12 m = -1)) ∧
  (∀ k, k < 36 → 45 ≤ z 7 k ∧ z 7 k ≤ 300) ∧ 0 ≤ z 10 0 ∧ z 10 0 ≤ 4 ∧ 0 ≤ z 10 1 ∧ z 10 1 ≤ 6 ∧ (∀ k, k < rd_nc z → 0 ≤ z 8 k ∧ z 8 k ≤ z 9 k ∧ z 9 k ≤ 3000)
theorem rd_ok_nc {z : rd_Z} (h : rd_ok z) : rd_nc z ≤ 4 := by
  obtain ⟨-, -, h1, h2, -⟩ := h
  unfold rd_nc; omega
theorem rd_sec_ge {z : rd_Z} {m : Nat} {f : Int} (hz : rd_ok z) (hm : m < 7) (h : rd_sec z m f ≠ -1) : f ≤ rd_sec z m f ∧ 0 ≤ rd_sec z m f ∧ rd_sec z m f ≤ 3000 := by
  have h1 := hz.1 m hm
  have h2 := (rd_fo_ok z (max f (z 2 m)) (rd_ok_nc hz)).1
  unfold rd_sec at h ⊢
  split at h <;> split at h <;> simp_all <;> omega
theorem rd_sec_none {z : rd_Z} {m : Nat} {a b : Int} (hz : rd_ok z) (hab : a ≤ b) (h : rd_sec z m a = -1) (hm : m < 7) : rd_sec z m b = -1 := by
  have h1 := hz.1 m hm
  have h2 := rd_fo_mono (z := z) (a := max a (z 2 m)) (b := max b (z 2 m)) (rd_ok_nc hz) (by omega)
  have h3 := (rd_fo_ok z (max a (z 2 m)) (rd_ok_nc hz)).1
  unfold rd_sec at h ⊢
  by_cases hf : z 6 m ≠ -1
  · rw [if_pos hf] at h ⊢
    by_cases hc : rd_cl z (z 6 m) = false
    · by_cases ha : a ≤ z 6 m
      · rw [if_pos ⟨ha, hc⟩] at h; omega
      · rw [if_neg (fun q => by omega)]
    · rw [if_neg (fun q => hc q.2)]
  · rw [if_neg hf] at h ⊢
    by_cases hl : rd_fo z (max a (z 2 m)) ≤ z 4 m
    · rw [if_pos hl] at h; omega
    · rw [if_neg (by omega)]
theorem rd_sec_mono {z : rd_Z} {m : Nat} {a b : Int} (hz : rd_ok z) (hab : a ≤ b) (h : rd_sec z m b ≠ -1) : rd_sec z m a ≤ rd_sec z m b := by
  have h2 := rd_fo_mono (z := z) (a := max a (z 2 m)) (b := max b (z 2 m)) (rd_ok_nc hz) (by omega)
  unfold rd_sec at h ⊢
  by_cases hf : z 6 m ≠ -1
  · rw [if_pos hf] at h ⊢
    rw [if_pos hf]
    by_cases hc : b ≤ z 6 m ∧ rd_cl z (z 6 m) = false
    · rw [if_pos hc, if_pos ⟨by omega, hc.2⟩]; exact Int.le_refl _
    · rw [if_neg hc] at h; exact absurd rfl h
  · rw [if_neg hf] at h ⊢
    rw [if_neg hf]
    by_cases hl : rd_fo z (max b (z 2 m)) ≤ z 4 m
    · rw [if_pos hl, if_pos (by omega)]; exact h2
    · rw [if_neg hl] at h; exact absurd rfl h
theorem rd_sec_max {z : rd_Z} {m : Nat} {a b : Int} (hz : rd_ok z) (hm : m < 7) (h : rd_sec z m a ≠ -1) : rd_sec z m (max (rd_sec z m a) b) = rd_sec z m (max a b) := by
  have h1 := hz.1 m hm
  have h4 := rd_ok_nc hz
  have h3 := (rd_fo_ok z (max a (z 2 m)) h4).1
  unfold rd_sec at h ⊢
  by_cases hf : z 6 m ≠ -1
  · simp only [if_pos hf] at h ⊢
    by_cases hc : a ≤ z 6 m ∧ rd_cl z (z 6 m) = false
    · simp only [if_pos hc] at h ⊢
      by_cases hb : b ≤ z 6 m
      · rw [if_pos ⟨by omega, hc.2⟩, if_pos ⟨by omega, hc.2⟩]
      · rw [if_neg (fun q => by omega), if_neg (fun q => by omega)]
    · simp only [if_neg hc] at h; exact absurd rfl h
  · simp only [if_neg hf] at h ⊢
    by_cases hl : rd_fo z (max a (z 2 m)) ≤ z 4 m
    · simp only [if_pos hl] at h ⊢
      have e : rd_fo z (max (max (rd_fo z (max a (z 2 m))) b) (z 2 m)) = rd_fo z (max (max a b) (z 2 m)) := by
        have e1 : max (max (rd_fo z (max a (z 2 m))) b) (z 2 m) = max (rd_fo z (max a (z 2 m))) b := by omega
        have e2 : max (max a b) (z 2 m) = max (max a (z 2 m)) b := by omega
        rw [e1, e2, rd_fo_max h4]
      rw [e]
    · simp only [if_neg hl] at h; exact absurd rfl h
end RDM
end
section
/-! pure mathematics of the desk: the search through the orders -/
section RDS
theorem rd_cnt_zero {p : Nat → Bool} {n : Nat} (h : ∀ i, i < n → p i = false) : rd_cnt p n = 0 := by
  induction n with
  | zero => rfl
  | succ n ih => simp only [rd_cnt]; rw [ih (fun i hi => h i (by omega)), h n (by omega)]; simp
theorem rd_cnt_true (n : Nat) : rd_cnt (fun _ => true) n = n := by
  induction n with
  | zero => rfl
  | succ n ih => simp only [rd_cnt]; rw [ih]; simp
theorem rd_cnt_list {n : Nat} : ∀ l : List Nat, l.Nodup → (∀ x ∈ l, x < n) → rd_cnt (fun i => decide (i ∈ l)) n = l.length
  | [], _, _ => by
    rw [rd_cnt_zero (fun i _ => by simp)]; rfl
  | a :: l, hn, hl => by
    obtain ⟨h1, h2⟩ := List.nodup_cons.mp hn
    have ih := rd_cnt_list l h2 (fun x hx => hl x (List.mem_cons_of_mem _ hx))
    have e : rd_cnt (fun i => decide (i ∈ a :: l)) n = rd_cnt (fun i => decide (i ∈ l) || decide (i = a)) n := rd_cnt_congr fun i _ => by
      by_cases hi : i = a <;> by_cases hj : i ∈ l <;> simp [hi, hj]
    rw [e, rd_cnt_set (p := fun i => decide (i ∈ l)) (hl a List.mem_cons_self) (by simpa using h1), ih]
    rfl
theorem rd_filter_len (p : Nat → Bool) (n : Nat) : ((List.range n).filter p).length = rd_cnt p n := by
  induction n with
  | zero => rfl
  | succ n ih =>
    rw [List.range_succ, List.filter_append, List.length_append, ih]
    simp only [rd_cnt]
    by_cases h : p n = true <;> simp [h]
/-! the first-come order -/
def rd_bf (t : Nat → Int) (o m : Nat) : Bool := decide (t o < t m) || (decide (t o = t m) && decide (o < m))
theorem rd_bf_tot {t : Nat → Int} {a b : Nat} (h : a ≠ b) : rd_bf t a b = true ∨ rd_bf t b a = true := by
  simp only [rd_bf, Bool.or_eq_true, Bool.and_eq_true, decide_eq_true_eq]; omega
theorem rd_bf_irr (t : Nat → Int) (a : Nat) : rd_bf t a a = false := by simp [rd_bf]
theorem rd_bf_tr {t : Nat → Int} {a b c : Nat} (h : rd_bf t a b = true) (h' : rd_bf t b c = true) : rd_bf t a c = true := by
  simp only [rd_bf, Bool.or_eq_true, Bool.and_eq_true, decide_eq_true_eq] at *; omega
/-- a movement's place among those that have p, by t -/
def rd_plc (p : Nat → Bool) (t : Nat → Int) (m : Nat) : Nat := rd_cnt (fun o => p o && rd_bf t o m) 7
theorem rd_plc_lt {p : Nat → Bool} {t : Nat → Int} {a b : Nat} (ha : a < 7) (hp : p a = true) (h : rd_bf t a b = true) : rd_plc p t a < rd_plc p t b := by
  refine rd_cnt_lt (j := a) (fun i _ hi2 => ?_) ha (by simp [hp, h]) (by simp [rd_bf_irr])
  simp only [Bool.and_eq_true] at hi2 ⊢
  exact ⟨hi2.1, rd_bf_tr hi2.2 h⟩
theorem rd_plc_inj {p : Nat → Bool} {t : Nat → Int} {a b : Nat} (ha : a < 7) (hb : b < 7) (hp : p a = true) (hq : p b = true) (h : rd_plc p t a = rd_plc p t b) : a = b := by
  by_cases hab : a = b
  · exact hab
  · rcases rd_bf_tot (t := t) hab with h1 | h1
    · have := rd_plc_lt ha hp h1; omega
    · have := rd_plc_lt hb hq h1; omega
theorem rd_plc_n {p : Nat → Bool} {t : Nat → Int} {a : Nat} (ha : a < 7) (hp : p a = true) : rd_plc p t a < rd_cnt p 7 := by
  refine rd_cnt_lt (j := a) (fun i _ hi2 => ?_) ha hp (by simp [rd_bf_irr])
  simp only [Bool.and_eq_true] at hi2
  exact hi2.1
theorem rd_plc_onto {p : Nat → Bool} {t : Nat → Int} {k : Nat} (hk : k < rd_cnt p 7) : ∃ m, m < 7 ∧ p m = true ∧ rd_plc p t m = k := by
  have hnd : (((List.range 7).filter p).map (rd_plc p t)).Nodup := by
    rw [List.Nodup, List.pairwise_map]
    refine List.Pairwise.imp_of_mem ?_ (List.Pairwise.filter p (List.pairwise_lt_range (n := 7)))
    intro a b ha hb hab he
    simp only [List.mem_filter, List.mem_range] at ha hb
    have := rd_plc_inj ha.1 hb.1 ha.2 hb.2 he
    omega
  have hlt : ∀ x ∈ ((List.range 7).filter p).map (rd_plc p t), x < rd_cnt p 7 := by
    intro x hx
    obtain ⟨a, ha, rfl⟩ := List.mem_map.mp hx
    simp only [List.mem_filter, List.mem_range] at ha
    exact rd_plc_n ha.1 ha.2
  have h1 := rd_cnt_list _ hnd hlt
  rw [List.length_map, rd_filter_len] at h1
  have h2 := rd_cnt_all (p := fun i => decide (i ∈ ((List.range 7).filter p).map (rd_plc p t))) (q := fun _ => true) (fun _ _ _ => rfl) (by rw [rd_cnt_true, h1]; exact Nat.le_refl _) k hk rfl
  simp only [decide_eq_true_eq] at h2
  obtain ⟨a, ha, e⟩ := List.mem_map.mp h2
  simp only [List.mem_filter, List.mem_range] at ha
  exact ⟨a, ha.1, ha.2, e⟩
def rd_n (z : rd_Z) : Nat := rd_cnt (rd_th z) 7
def rd_pl (z : rd_Z) (m : Nat) : Nat := rd_plc (rd_th z) (z 3) m
/-- who has place p in the first-come order -/
def rd_ln (z : rd_Z) (p : Nat) : Nat := (rd_fst (fun m => rd_th z m && decide (rd_pl z m = p)) 7).getD 0
theorem rd_ln_of {z : rd_Z} {m : Nat} (hm : m < 7) (ht : rd_th z m = true) : rd_ln z (rd_pl z m) = m := by
  unfold rd_ln
  cases hf : rd_fst (fun k => rd_th z k && decide (rd_pl z k = rd_pl z m)) 7 with
  | none => have := rd_fst_none hf m hm; simp [ht] at this
  | some k =>
    obtain ⟨h1, h2, -⟩ := rd_fst_some hf
    simp only [Bool.and_eq_true, decide_eq_true_eq] at h2
    exact rd_plc_inj h1 hm h2.1 ht h2.2
theorem rd_ln_ok {z : rd_Z} {p : Nat} (hp : p < rd_n z) : rd_ln z p < 7 ∧ rd_th z (rd_ln z p) = true ∧ rd_pl z (rd_ln z p) = p := by
  obtain ⟨m, h1, h2, h3⟩ := rd_plc_onto (p := rd_th z) (t := z 3) hp
  have e : rd_ln z p = m := by rw [← h3]; exact rd_ln_of h1 h2
  rw [e]; exact ⟨h1, h2, h3⟩
/-! orders that have begun: movements with their seconds -/
abbrev rd_P : Type := List (Nat × Int)
def rd_gap (z : rd_Z) (a b : Nat) : Int := z 7 (6 * (z 1 a).toNat + (z 1 b).toNat)
def rd_dl (z : rd_Z) (m : Nat) (s : Int) : Int := z 5 m * max 0 (s - z 3 m)
def rd_lk (o : Nat) : rd_P → Option Int
  | [] => none
  | q :: r => if q.1 = o then some q.2 else rd_lk o r
def rd_need (z : rd_Z) (pre : rd_P) (o : Nat) : Int := pre.foldl (fun a q => max a (q.2 + rd_gap z q.1 o)) 0
def rd_row (z : rd_Z) (pre : rd_P) (o : Nat) : Int := match rd_lk o pre with
  | some s => s
  | none => rd_sec z o (rd_need z pre o)
/-- the delay of a row, -1 if one has no second -/
def rd_rdl (z : rd_Z) (r : Nat → Int) : Int := if rd_any (fun m => rd_th z m && decide (r m = -1)) 7 = true then -1 else rd_sum (fun m => if rd_th z m = true then rd_dl z m (r m) else 0) 7
def rd_cost (z : rd_Z) (pre : rd_P) : Int := pre.foldl (fun a q => a + rd_dl z q.1 q.2) 0
def rd_may (z : rd_Z) (m d p : Nat) : Bool := decide (z 6 m ≠ -1) || (decide ((d : Int) - p ≤ z 10 1) && decide ((p : Int) - d ≤ z 10 1))
def rd_kid (f : rd_P → List (Int × rd_P)) (z : rd_Z) (pre : rd_P) (p : Nat) : List (Int × rd_P) :=
  if (rd_lk (rd_ln z p) pre).isSome = true then []
  else if rd_may z (rd_ln z p) pre.length p = false then []
  else if rd_sec z (rd_ln z p) (rd_need z pre (rd_ln z p)) = -1 then []
  else f (pre ++ [(rd_ln z p, rd_sec z (rd_ln z p) (rd_need z pre (rd_ln z p)))])
/-- all orders that go on from pre by k movements, with their delays, in the document's sequence -/
def rd_lvs (z : rd_Z) : Nat → rd_P → List (Int × rd_P)
  | 0, pre => [(rd_cost z pre, pre)]
  | k + 1, pre => (List.range (rd_n z)).flatMap (rd_kid (rd_lvs z k) z pre)
def rd_up (acc : Option (Int × rd_P)) (lf : Int × rd_P) : Option (Int × rd_P) := match acc with
  | none => some lf
  | some a => if lf.1 < a.1 then some lf else some a
/-- the best order -/
def rd_best (z : rd_Z) : Option (Int × rd_P) := (rd_lvs z (rd_n z) []).foldl rd_up none
def rd_gd (z : rd_Z) (pre : rd_P) : Prop := (∀ q ∈ pre, q.1 < 7 ∧ rd_th z q.1 = true ∧ 0 ≤ q.2 ∧ q.2 ≤ 3000) ∧ (pre.map Prod.fst).Nodup
theorem rd_lk_app (o : Nat) (pre : rd_P) (m : Nat) (s : Int) : rd_lk o (pre ++ [(m, s)]) = match rd_lk o pre with
    | some x => some x
    | none => if m = o then some s else none := by
  induction pre with
  | nil => simp [rd_lk]
  | cons q r ih =>
    simp only [List.cons_append, rd_lk]
    split
    · rfl
    · exact ih
theorem rd_lk_mem {o : Nat} {pre : rd_P} {s : Int} (h : rd_lk o pre = some s) : (o, s) ∈ pre := by
  induction pre with
  | nil => cases h
  | cons q r ih =>
    simp only [rd_lk] at h
    split at h
    · rename_i e
      cases h
      rw [← e]
      exact List.mem_cons_self
    · exact List.mem_cons_of_mem _ (ih h)
theorem rd_lk_none {o : Nat} {pre : rd_P} : rd_lk o pre = none ↔ o ∉ pre.map Prod.fst := by
  induction pre with
  | nil => simp [rd_lk]
  | cons q r ih =>
    simp only [rd_lk, List.map_cons, List.mem_cons, not_or]
    split
    · rename_i e
      simp [e]
    · rename_i e
      rw [ih]
      constructor
      · intro h; exact ⟨fun e' => e e'.symm, h⟩
      · intro h; exact h.2
theorem rd_need_app (z : rd_Z) (pre : rd_P) (m : Nat) (s : Int) (o : Nat) : rd_need z (pre ++ [(m, s)]) o = max (rd_need z pre o) (s + rd_gap z m o) := by
  simp [rd_need, List.foldl_append]
theorem rd_cost_app (z : rd_Z) (pre : rd_P) (m : Nat) (s : Int) : rd_cost z (pre ++ [(m, s)]) = rd_cost z pre + rd_dl z m s := by
  simp [rd_cost, List.foldl_append]
theorem rd_dl_ge {z : rd_Z} {m : Nat} (hz : rd_ok z) (hm : m < 7) (s : Int) : 0 ≤ rd_dl z m s := by
  have h := hz.1 m hm
  exact Int.mul_nonneg (by omega) (by omega)
theorem rd_dl_mono {z : rd_Z} {m : Nat} {s t : Int} (hz : rd_ok z) (hm : m < 7) (hst : s ≤ t) : rd_dl z m s ≤ rd_dl z m t := by
  have h := hz.1 m hm
  exact Int.mul_le_mul_of_nonneg_left (by omega) (by omega)
theorem rd_rdl_ne {z : rd_Z} {r : Nat → Int} (hz : rd_ok z) : rd_rdl z r ≠ -1 ↔ ∀ m, m < 7 → rd_th z m = true → r m ≠ -1 := by
  have hs : 0 ≤ rd_sum (fun m => if rd_th z m = true then rd_dl z m (r m) else 0) 7 := by
    have := rd_sum_mono (f := fun _ => 0) (g := fun m => if rd_th z m = true then rd_dl z m (r m) else 0) (n := 7) (fun i hi => by
      skip
      split
      · exact rd_dl_ge hz hi _
      · exact Int.le_refl _)
    have e : rd_sum (fun _ => (0 : Int)) 7 = 0 := rfl
    omega
  unfold rd_rdl
  constructor
  · intro h m hm ht he
    rw [if_pos (rd_any_iff.mpr ⟨m, hm, by simp [ht, he]⟩)] at h
    exact h rfl
  · intro h
    rw [if_neg]
    · omega
    · intro ha
      obtain ⟨m, h1, h2⟩ := rd_any_iff.mp ha
      simp only [Bool.and_eq_true, decide_eq_true_eq] at h2
      exact h m h1 h2.1 h2.2
theorem rd_rdl_eq {z : rd_Z} {r : Nat → Int} (hz : rd_ok z) (h : ∀ m, m < 7 → rd_th z m = true → r m ≠ -1) : rd_rdl z r = rd_sum (fun m => if rd_th z m = true then rd_dl z m (r m) else 0) 7 := by
  unfold rd_rdl
  rw [if_neg]
  intro ha
  obtain ⟨m, h1, h2⟩ := rd_any_iff.mp ha
  simp only [Bool.and_eq_true, decide_eq_true_eq] at h2
  exact h m h1 h2.1 h2.2
theorem rd_rdl_mono {z : rd_Z} {r r' : Nat → Int} (hz : rd_ok z) (h : ∀ m, m < 7 → rd_th z m = true → r' m ≠ -1 → r m ≠ -1 ∧ r m ≤ r' m) (h' : rd_rdl z r' ≠ -1) : rd_rdl z r ≠ -1 ∧ rd_rdl z r ≤ rd_rdl z r' := by
  have h1 := (rd_rdl_ne hz).mp h'
  have h2 : ∀ m, m < 7 → rd_th z m = true → r m ≠ -1 := fun m hm ht => (h m hm ht (h1 m hm ht)).1
  refine ⟨(rd_rdl_ne hz).mpr h2, ?_⟩
  rw [rd_rdl_eq hz h1, rd_rdl_eq hz h2]
  refine rd_sum_mono fun i hi => ?_
  skip
  split
  · rename_i ht
    exact rd_dl_mono hz hi (h i hi ht (h1 i hi ht)).2
  · exact Int.le_refl _
/-- one movement more: nobody comes earlier -/
theorem rd_row_mono {z : rd_Z} {pre : rd_P} {m : Nat} (hz : rd_ok z) (hm : rd_lk m pre = none) {o : Nat} (ho : o < 7)
    (h : rd_row z (pre ++ [(m, rd_sec z m (rd_need z pre m))]) o ≠ -1) : rd_row z pre o ≠ -1 ∧ rd_row z pre o ≤ rd_row z (pre ++ [(m, rd_sec z m (rd_need z pre m))]) o := by
  unfold rd_row at h ⊢
  rw [rd_lk_app] at h ⊢
  cases hk : rd_lk o pre with
  | some x => rw [hk] at h; exact ⟨h, Int.le_refl _⟩
  | none =>
    rw [hk] at h
    dsimp only at h ⊢
    by_cases e : m = o
    · subst e
      simp only [if_true] at h ⊢
      exact ⟨h, Int.le_refl _⟩
    · simp only [if_neg e] at h ⊢
      rw [rd_need_app] at h ⊢
      have hle : rd_need z pre o ≤ max (rd_need z pre o) (rd_sec z m (rd_need z pre m) + rd_gap z m o) := by omega
      exact ⟨fun q => h (rd_sec_none hz hle q ho), rd_sec_mono hz hle h⟩
theorem rd_gd_app {z : rd_Z} {pre : rd_P} {m : Nat} (hz : rd_ok z) (hg : rd_gd z pre) (hm : m < 7) (ht : rd_th z m = true) (hk : rd_lk m pre = none) (hs : rd_sec z m (rd_need z pre m) ≠ -1) :
    rd_gd z (pre ++ [(m, rd_sec z m (rd_need z pre m))]) := by
  have h1 := rd_sec_ge hz hm hs
  refine ⟨fun q hq => ?_, ?_⟩
  · rcases List.mem_append.mp hq with h | h
    · exact hg.1 q h
    · rw [List.mem_singleton.mp h]; exact ⟨hm, ht, h1.2.1, h1.2.2⟩
  · rw [List.map_append, List.nodup_append]
    refine ⟨hg.2, by simp, ?_⟩
    intro a ha b hb
    simp only [List.map_cons, List.map_nil, List.mem_singleton] at hb
    subst hb
    intro e
    subst e
    exact rd_lk_none.mp hk ha
/-- the delay so far, by movements -/
theorem rd_cost_sum {z : rd_Z} {pre : rd_P} (hg : rd_gd z pre) : rd_cost z pre = rd_sum (fun m => match rd_lk m pre with | some s => rd_dl z m s | none => 0) 7 := by
  have key : ∀ (r : rd_P), rd_gd z r.reverse → rd_cost z r.reverse = rd_sum (fun m => match rd_lk m r.reverse with | some s => rd_dl z m s | none => 0) 7 := by
    intro r
    induction r with
    | nil => intro _; rfl
    | cons q r ih =>
      intro hg
      obtain ⟨m, s⟩ := q
      rw [List.reverse_cons] at hg ⊢
      have hg' : rd_gd z r.reverse := by
        refine ⟨fun q hq => hg.1 q (List.mem_append_left _ hq), ?_⟩
        have := hg.2
        rw [List.map_append, List.nodup_append] at this
        exact this.1
      have hm : m < 7 := (hg.1 (m, s) (by simp)).1
      have hk : rd_lk m r.reverse = none := by
        rw [rd_lk_none]
        intro hmem
        have := hg.2
        rw [List.map_append, List.nodup_append] at this
        exact this.2.2 m hmem m (by simp) rfl
      rw [rd_cost_app, ih hg']
      symm
      refine rd_sum_set (j := m) hm (fun i hi hne => ?_) ?_
      · skip
        rw [rd_lk_app]
        cases hx : rd_lk i r.reverse with
        | some x => rfl
        | none => dsimp only; rw [if_neg (fun e => hne e.symm)]
      · skip
        rw [rd_lk_app, hk]
        simp
  have := key pre.reverse
  rw [List.reverse_reverse] at this
  exact this hg
/-- an order that has all: who is there stands in it -/
theorem rd_full {z : rd_Z} {pre : rd_P} (hg : rd_gd z pre) (hn : pre.length = rd_n z) : ∀ m, m < 7 → rd_th z m = true → rd_lk m pre ≠ none := by
  have h1 := rd_cnt_list (n := 7) (pre.map Prod.fst) hg.2 (fun x hx => by
    obtain ⟨q, hq, rfl⟩ := List.mem_map.mp hx
    exact (hg.1 q hq).1)
  rw [List.length_map] at h1
  have h2 := rd_cnt_all (p := fun i => decide (i ∈ pre.map Prod.fst)) (q := rd_th z) (n := 7) (fun i _ hi2 => by
    simp only [decide_eq_true_eq] at hi2
    obtain ⟨q, hq, rfl⟩ := List.mem_map.mp hi2
    exact (hg.1 q hq).2.1) (by rw [h1, hn]; exact Nat.le_refl _)
  intro m hm ht hk
  have := h2 m hm ht
  simp only [decide_eq_true_eq] at this
  exact rd_lk_none.mp hk this
theorem rd_full_cost {z : rd_Z} {pre : rd_P} (hz : rd_ok z) (hg : rd_gd z pre) (hn : pre.length = rd_n z) : rd_rdl z (rd_row z pre) ≠ -1 ∧ rd_rdl z (rd_row z pre) = rd_cost z pre := by
  have hf := rd_full hg hn
  have hr : ∀ m, m < 7 → rd_th z m = true → rd_row z pre m ≠ -1 := by
    intro m hm ht
    unfold rd_row
    cases hk : rd_lk m pre with
    | none => exact absurd hk (hf m hm ht)
    | some s =>
      have := (hg.1 _ (rd_lk_mem hk)).2.2.1
      dsimp only at this ⊢
      omega
  refine ⟨(rd_rdl_ne hz).mpr hr, ?_⟩
  rw [rd_rdl_eq hz hr, rd_cost_sum hg]
  refine rd_sum_congr fun i hi => ?_
  unfold rd_row
  cases hk : rd_lk i pre with
  | some s =>
    have := (hg.1 _ (rd_lk_mem hk)).2.1
    dsimp only at this ⊢
    rw [if_pos this]
  | none =>
    dsimp only
    by_cases ht : rd_th z i = true
    · exact absurd hk (hf i hi ht)
    · rw [if_neg ht]
theorem rd_kid_mem {f : rd_P → List (Int × rd_P)} {z : rd_Z} {pre : rd_P} {p : Nat} {lf : Int × rd_P} (h : lf ∈ rd_kid f z pre p) :
    rd_lk (rd_ln z p) pre = none ∧ rd_sec z (rd_ln z p) (rd_need z pre (rd_ln z p)) ≠ -1 ∧ lf ∈ f (pre ++ [(rd_ln z p, rd_sec z (rd_ln z p) (rd_need z pre (rd_ln z p)))]) := by
  unfold rd_kid at h
  split at h
  · cases h
  · rename_i h1
    split at h
    · cases h
    · split at h
      · cases h
      · rename_i h3
        refine ⟨?_, h3, h⟩
        cases hk : rd_lk (rd_ln z p) pre with
        | none => rfl
        | some x => rw [hk] at h1; exact absurd rfl h1
/-- the delay of a row is the least that an order with this beginning can have -/
theorem rd_lb {z : rd_Z} (hz : rd_ok z) : ∀ (k : Nat) (pre : rd_P), rd_gd z pre → pre.length + k = rd_n z → ∀ lf ∈ rd_lvs z k pre, rd_rdl z (rd_row z pre) ≠ -1 ∧ rd_rdl z (rd_row z pre) ≤ lf.1
  | 0, pre, hg, hn, lf, h => by
    simp only [rd_lvs, List.mem_singleton] at h
    subst h
    have := rd_full_cost hz hg (by omega)
    exact ⟨this.1, by rw [this.2]; exact Int.le_refl _⟩
  | k + 1, pre, hg, hn, lf, h => by
    simp only [rd_lvs, List.mem_flatMap, List.mem_range] at h
    obtain ⟨p, hp, h⟩ := h
    obtain ⟨h1, h2, h3⟩ := rd_kid_mem h
    obtain ⟨g1, g2, -⟩ := rd_ln_ok hp
    have ih := rd_lb hz k _ (rd_gd_app hz hg g1 g2 h1 h2) (by simp; omega) lf h3
    have hm := rd_rdl_mono hz (r := rd_row z pre) (fun m hm _ hne => rd_row_mono hz h1 hm hne) ih.1
    exact ⟨hm.1, by omega⟩
theorem rd_lb2 {z : rd_Z} (hz : rd_ok z) : ∀ (k : Nat) (pre : rd_P), ∀ lf ∈ rd_lvs z k pre, rd_cost z pre ≤ lf.1
  | 0, pre, lf, h => by
    simp only [rd_lvs, List.mem_singleton] at h
    subst h
    exact Int.le_refl _
  | k + 1, pre, lf, h => by
    simp only [rd_lvs, List.mem_flatMap, List.mem_range] at h
    obtain ⟨p, hp, h⟩ := h
    obtain ⟨h1, h2, h3⟩ := rd_kid_mem h
    have ih := rd_lb2 hz k _ lf h3
    rw [rd_cost_app] at ih
    have := rd_dl_ge hz (rd_ln_ok hp).1 (rd_sec z (rd_ln z p) (rd_need z pre (rd_ln z p)))
    omega
theorem rd_up_skip {L : List (Int × rd_P)} {a : Int × rd_P} (h : ∀ lf ∈ L, a.1 ≤ lf.1) : L.foldl rd_up (some a) = some a := by
  induction L with
  | nil => rfl
  | cons lf L ih =>
    rw [List.foldl_cons]
    have h1 := h lf List.mem_cons_self
    have : rd_up (some a) lf = some a := by
      unfold rd_up
      dsimp only
      rw [if_neg (by omega)]
    rw [this]
    exact ih fun x hx => h x (List.mem_cons_of_mem _ hx)
/-- not worthwhile: nothing changes -/
theorem rd_skip {z : rd_Z} (hz : rd_ok z) {k : Nat} {pre : rd_P} (hg : rd_gd z pre) (hn : pre.length + k = rd_n z) {acc : Option (Int × rd_P)}
    (h : rd_rdl z (rd_row z pre) = -1 ∨ ∃ a, acc = some a ∧ a.1 ≤ rd_rdl z (rd_row z pre)) : (rd_lvs z k pre).foldl rd_up acc = acc := by
  rcases h with h | ⟨a, rfl, h⟩
  · have : rd_lvs z k pre = [] := by
      cases hl : rd_lvs z k pre with
      | nil => rfl
      | cons lf L => exact absurd h (rd_lb hz k pre hg hn lf (by rw [hl]; exact List.mem_cons_self)).1
    rw [this]; rfl
  · exact rd_up_skip fun lf hlf => Int.le_trans h (rd_lb hz k pre hg hn lf hlf).2
theorem rd_skip2 {z : rd_Z} (hz : rd_ok z) {k : Nat} {pre : rd_P} {a : Int × rd_P} (h : a.1 ≤ rd_cost z pre) : (rd_lvs z k pre).foldl rd_up (some a) = some a :=
  rd_up_skip fun lf hlf => Int.le_trans h (rd_lb2 hz k pre lf hlf)
/-- the kids of the first p places -/
def rd_ks (z : rd_Z) (k : Nat) (pre : rd_P) (p : Nat) : List (Int × rd_P) := (List.range p).flatMap (rd_kid (rd_lvs z k) z pre)
theorem rd_ks_succ (z : rd_Z) (k : Nat) (pre : rd_P) (p : Nat) (acc : Option (Int × rd_P)) : (rd_ks z k pre (p + 1)).foldl rd_up acc = (rd_kid (rd_lvs z k) z pre p).foldl rd_up ((rd_ks z k pre p).foldl rd_up acc) := by
  unfold rd_ks
  rw [List.range_succ, List.flatMap_append, List.foldl_append]
  simp
theorem rd_ks_full (z : rd_Z) (k : Nat) (pre : rd_P) : rd_ks z k pre (rd_n z) = rd_lvs z (k + 1) pre := rfl
/-- the row behind one movement more, out of the row before -/
theorem rd_row_next {z : rd_Z} {pre : rd_P} {m : Nat} (hz : rd_ok z) {s : Int} {o : Nat} (ho : o < 7) (hne : rd_row z pre o ≠ -1) (hk : rd_lk o (pre ++ [(m, s)]) = none) :
    rd_sec z o (max (rd_row z pre o) (s + rd_gap z m o)) = rd_row z (pre ++ [(m, s)]) o := by
  have hk0 : rd_lk o pre = none := by
    rw [rd_lk_app] at hk
    cases h : rd_lk o pre with
    | none => rfl
    | some x => rw [h] at hk; cases hk
  have e1 : rd_row z pre o = rd_sec z o (rd_need z pre o) := by unfold rd_row; rw [hk0]
  have e2 : rd_row z (pre ++ [(m, s)]) o = rd_sec z o (rd_need z (pre ++ [(m, s)]) o) := by unfold rd_row; rw [hk]
  rw [e2, rd_need_app, e1]
  rw [e1] at hne
  exact rd_sec_max hz ho hne
end RDS
end
section
/-! pure mathematics of the desk: sound plans, and how far one can be moved -/
section RDL
/-- a movement's place in a plan -/
def rd_pi (r : Nat → Int) (m : Nat) : Nat := rd_plc (fun o => decide (r o ≠ -1)) r m
/-- is one ahead of it too near -/
def rd_nr (z : rd_Z) (r : Nat → Int) (m : Nat) : Bool := rd_any (fun o => decide (r o ≠ -1) && rd_bf r o m && decide (r m - r o < rd_gap z o m)) 7
def rd_sf (z : rd_Z) (r : Nat → Int) (m : Nat) : Bool :=
  decide (r m ≠ -1) && (decide (z 2 m ≤ r m) && decide (r m ≤ z 4 m)) && !rd_cl z (r m) && (decide (z 6 m = -1) || decide (z 6 m = r m)) && !rd_nr z r m && rd_may z m (rd_pi r m) (rd_pl z m)
/-- the least movement for which the plan isn't sound -/
def rd_lu (z : rd_Z) (r : Nat → Int) : Option Nat := rd_fst (fun m => rd_th z m && !rd_sf z r m) 7
theorem rd_lu_none {z : rd_Z} {r : Nat → Int} : rd_lu z r = none ↔ ∀ m, m < 7 → rd_th z m = true → rd_sf z r m = true := by
  constructor
  · intro h m hm ht
    have := rd_fst_none h m hm
    simpa [ht] using this
  · intro h
    refine rd_fst_all fun m hm => ?_
    cases ht : rd_th z m with
    | false => simp
    | true => simp [h m hm ht]
theorem rd_sf_iff {z : rd_Z} {r : Nat → Int} {m : Nat} : rd_sf z r m = true ↔ r m ≠ -1 ∧ (z 2 m ≤ r m ∧ r m ≤ z 4 m) ∧ rd_cl z (r m) = false ∧ (z 6 m = -1 ∨ z 6 m = r m) ∧ rd_nr z r m = false ∧ rd_may z m (rd_pi r m) (rd_pl z m) = true := by
  unfold rd_sf
  simp only [Bool.and_eq_true, decide_eq_true_eq, Bool.or_eq_true, Bool.not_eq_true']
  constructor
  · rintro ⟨⟨⟨⟨⟨h1, h2⟩, h3⟩, h4⟩, h5⟩, h6⟩; exact ⟨h1, h2, h3, h4, h5, h6⟩
  · rintro ⟨h1, h2, h3, h4, h5, h6⟩; exact ⟨⟨⟨⟨⟨h1, h2⟩, h3⟩, h4⟩, h5⟩, h6⟩
/-- the plan with m at s -/
def rd_at (r : Nat → Int) (m : Nat) (s : Int) : Nat → Int := fun o => if o = m then s else r o
theorem rd_at_self (r : Nat → Int) (m : Nat) (s : Int) : rd_at r m s m = s := by simp [rd_at]
theorem rd_at_ne {r : Nat → Int} {m : Nat} {s : Int} {o : Nat} (h : o ≠ m) : rd_at r m s o = r o := by simp [rd_at, h]
theorem rd_gap_ge {z : rd_Z} (hz : rd_ok z) {a b : Nat} (ha : a < 7) (hb : b < 7) : 45 ≤ rd_gap z a b ∧ rd_gap z a b ≤ 300 := by
  have h1 := hz.1 a ha
  have h2 := hz.1 b hb
  exact hz.2.1 _ (by omega)
/-- one second later is sound too, unless .. -/
theorem rd_step {z : rd_Z} {r : Nat → Int} {m : Nat} {s : Int} (hz : rd_ok z) (hm : m < 7) (ht : rd_th z m = true) (hr : ∀ o, o < 7 → r o ≠ -1 → rd_th z o = true) (hr0 : ∀ o, o < 7 → -1 ≤ r o) (hs : 0 ≤ s)
    (h : rd_lu z (rd_at r m s) = none) (hl : s + 1 ≤ z 4 m) (hf : z 6 m = -1) (hc : ∀ c, c < rd_nc z → z 8 c ≠ s + 1) (ho : ∀ o, o < 7 → o ≠ m → r o ≠ -1 → r o - rd_gap z m o ≠ s) : rd_lu z (rd_at r m (s + 1)) = none := by
  have hS := rd_lu_none.mp h
  have hSm := rd_sf_iff.mp (hS m hm ht)
  -- who is in the plan beside m lies far from it
  have far : ∀ o, o < 7 → o ≠ m → r o ≠ -1 → (r o < s ∧ rd_gap z o m ≤ s - r o) ∨ (s < r o ∧ rd_gap z m o < r o - s) := by
    intro o h7 hne hro
    have hg1 := rd_gap_ge hz h7 hm
    have hg2 := rd_gap_ge hz hm h7
    rcases rd_bf_tot (t := rd_at r m s) hne with hb | hb
    · have h5 := rd_any_false.mp hSm.2.2.2.2.1 o h7
      rw [hb, rd_at_ne hne, rd_at_self] at h5
      simp [hro] at h5
      left; omega
    · have h5 := rd_any_false.mp (rd_sf_iff.mp (hS o h7 (hr o h7 hro))).2.2.2.2.1 m hm
      rw [hb, rd_at_ne hne, rd_at_self] at h5
      have hs1 : s ≠ -1 := by omega
      simp [hs1] at h5
      have := ho o h7 hne hro
      right; omega
  have bfe : ∀ a b, a < 7 → b < 7 → rd_at r m s a ≠ -1 → rd_at r m s b ≠ -1 → rd_bf (rd_at r m (s + 1)) a b = rd_bf (rd_at r m s) a b := by
    intro a b ha hb hra hrb
    by_cases e1 : a = m
    · by_cases e2 : b = m
      · subst e1; subst e2; rw [rd_bf_irr, rd_bf_irr]
      · subst e1
        rw [rd_at_ne e2] at hrb
        have hg1 := rd_gap_ge hz hb hm
        have hg2 := rd_gap_ge hz hm hb
        have hfar := far b hb e2 hrb
        simp only [rd_bf, rd_at_self, rd_at_ne e2]
        rw [Bool.eq_iff_iff]
        simp only [Bool.or_eq_true, Bool.and_eq_true, decide_eq_true_eq]
        omega
    · by_cases e2 : b = m
      · subst e2
        rw [rd_at_ne e1] at hra
        have hg1 := rd_gap_ge hz ha hm
        have hg2 := rd_gap_ge hz hm ha
        have hfar := far a ha e1 hra
        simp only [rd_bf, rd_at_self, rd_at_ne e1]
        rw [Bool.eq_iff_iff]
        simp only [Bool.or_eq_true, Bool.and_eq_true, decide_eq_true_eq]
        omega
      · simp only [rd_bf, rd_at_ne e1, rd_at_ne e2]
  have hin : ∀ a, (rd_at r m (s + 1) a ≠ -1) ↔ (rd_at r m s a ≠ -1) := by
    intro a
    by_cases e1 : a = m
    · subst e1; rw [rd_at_self, rd_at_self]; omega
    · rw [rd_at_ne e1, rd_at_ne e1]
  have pie : ∀ b, b < 7 → rd_at r m s b ≠ -1 → rd_pi (rd_at r m (s + 1)) b = rd_pi (rd_at r m s) b := by
    intro b hb hrb
    unfold rd_pi rd_plc
    refine rd_cnt_congr fun a ha => ?_
    by_cases hra : rd_at r m s a = -1
    · have : rd_at r m (s + 1) a = -1 := by
        by_cases hq : rd_at r m (s + 1) a = -1
        · exact hq
        · exact absurd hra ((hin a).mp hq)
      simp [hra, this]
    · have h1 : rd_at r m (s + 1) a ≠ -1 := (hin a).mpr hra
      simp only [decide_eq_true h1, decide_eq_true hra, Bool.true_and]
      exact bfe a b ha hb hra hrb
  refine rd_lu_none.mpr fun o h7 hto => rd_sf_iff.mpr ?_
  have hSo := rd_sf_iff.mp (hS o h7 hto)
  by_cases e : o = m
  · subst e
    rw [rd_at_self] at hSo ⊢
    refine ⟨by omega, by omega, ?_, Or.inl hf, ?_, ?_⟩
    · refine rd_any_false.mpr fun k hk => ?_
      have h1 := rd_any_false.mp hSo.2.2.1 k hk
      have h2 := hc k hk
      simp only [rd_in, Bool.and_eq_false_iff, decide_eq_false_iff_not] at h1 ⊢
      omega
    · refine rd_any_false.mpr fun a ha => ?_
      by_cases e1 : a = o
      · subst e1; rw [rd_bf_irr]; simp
      · by_cases hra : r a = -1
        · rw [rd_at_ne e1]; simp [hra]
        · have hg1 := rd_gap_ge hz ha h7
          have hg2 := rd_gap_ge hz h7 ha
          have hfar := far a ha e1 hra
          rw [rd_at_ne e1, rd_at_self]
          simp only [rd_bf, rd_at_ne e1, rd_at_self]
          cases hd : decide (s + 1 - r a < rd_gap z a o) with
          | false => simp
          | true =>
            simp only [decide_eq_true_eq] at hd
            have q1 : ¬ r a < s + 1 := by omega
            have q2 : ¬ r a = s + 1 := by omega
            simp [q1, q2]
    · rw [pie o h7 (by rw [rd_at_self]; omega)]
      exact hSo.2.2.2.2.2
  · have hro : rd_at r m s o ≠ -1 := hSo.1
    have ep := pie o h7 hro
    rw [rd_at_ne e] at hSo ⊢
    refine ⟨hSo.1, hSo.2.1, hSo.2.2.1, hSo.2.2.2.1, ?_, by rw [ep]; exact hSo.2.2.2.2.2⟩
    refine rd_any_false.mpr fun a ha => ?_
    have h5 := rd_any_false.mp hSo.2.2.2.2.1 a ha
    by_cases e1 : a = m
    · subst e1
      have hg1 := rd_gap_ge hz h7 ha
      have hg2 := rd_gap_ge hz ha h7
      have hfar := far o h7 e (by rw [← rd_at_ne (r := r) (s := s) e]; exact hro)
      rw [rd_at_self, rd_at_ne e]
      simp only [rd_bf, rd_at_ne e, rd_at_self]
      cases hd : decide (r o - (s + 1) < rd_gap z a o) with
      | false => simp
      | true =>
        simp only [decide_eq_true_eq] at hd
        have q1 : ¬ s + 1 < r o := by omega
        have q2 : ¬ s + 1 = r o := by omega
        simp [q1, q2]
    · rw [rd_at_ne e1, rd_at_ne e] at h5 ⊢
      by_cases hra : r a = -1
      · simp [hra]
      · rw [bfe a o ha h7 (by rw [rd_at_ne e1]; exact hra) hro]
        exact h5
/-- the last sound second of the first k behind had, by how much it lies behind it -/
def rd_gr (z : rd_Z) (r : Nat → Int) (m : Nat) : Nat → Nat
  | 0 => 0
  | k + 1 => if rd_lu z (rd_at r m (r m + (k + 1 : Nat))) = none then k + 1 else rd_gr z r m k
theorem rd_gr_le (z : rd_Z) (r : Nat → Int) (m k : Nat) : rd_gr z r m k ≤ k := by
  induction k with
  | zero => simp [rd_gr]
  | succ k ih => simp only [rd_gr]; split <;> omega
theorem rd_gr_ok {z : rd_Z} {r : Nat → Int} {m k : Nat} (h : rd_gr z r m k ≠ 0) : rd_lu z (rd_at r m (r m + (rd_gr z r m k : Nat))) = none := by
  induction k with
  | zero => exact absurd rfl h
  | succ k ih =>
    simp only [rd_gr] at h ⊢
    split
    · rename_i h1; exact h1
    · rename_i h1
      rw [if_neg h1] at h
      exact ih h
theorem rd_gr_max {z : rd_Z} {r : Nat → Int} {m k j : Nat} (hj : j ≤ k) (h : rd_lu z (rd_at r m (r m + (j : Nat))) = none) : j ≤ rd_gr z r m k := by
  induction k with
  | zero => omega
  | succ k ih =>
    simp only [rd_gr]
    split
    · omega
    · rename_i h1
      rcases Nat.lt_succ_iff_lt_or_eq.mp (Nat.lt_succ_of_le hj) with h2 | h2
      · exact ih (by omega)
      · subst h2; exact absurd h h1
/-- the desk's way: from candidate to candidate -/
def rd_lt (z : rd_Z) (r : Nat → Int) (m : Nat) (a c : Int) : Int := if c ≤ a then a else if rd_lu z (rd_at r m c) = none then c else a
def rd_cands (z : rd_Z) (r : Nat → Int) (m : Nat) : List Int := z 4 m :: ((List.range (rd_nc z)).map (fun c => z 8 c - 1) ++ ((List.range 7).filter (fun o => decide (o ≠ m) && decide (r o ≠ -1))).map (fun o => r o - rd_gap z m o))
theorem rd_lt_fold {z : rd_Z} {r : Nat → Int} {m : Nat} {b : Int} (hb : ∀ c, rd_lu z (rd_at r m c) = none → c ≤ b) : ∀ (l : List Int) (a : Int), a ≤ b → l.foldl (rd_lt z r m) a ≤ b ∧ a ≤ l.foldl (rd_lt z r m) a ∧ (b ∈ l → rd_lu z (rd_at r m b) = none → b ≤ l.foldl (rd_lt z r m) a)
  | [], a, ha => ⟨ha, Int.le_refl _, fun h => by cases h⟩
  | c :: l, a, ha => by
    have h1 : rd_lt z r m a c ≤ b ∧ a ≤ rd_lt z r m a c := by
      unfold rd_lt
      split
      · exact ⟨ha, Int.le_refl _⟩
      · split
        · rename_i h2; exact ⟨hb c h2, by omega⟩
        · exact ⟨ha, Int.le_refl _⟩
    obtain ⟨h2, h3, h4⟩ := rd_lt_fold hb l (rd_lt z r m a c) h1.1
    rw [List.foldl_cons]
    refine ⟨h2, by omega, fun hmem hs => ?_⟩
    rcases List.mem_cons.mp hmem with h5 | h5
    · subst h5
      have : b ≤ rd_lt z r m a b := by
        unfold rd_lt
        split
        · assumption
        · first | exact Int.le_refl _ | (rw [if_pos hs]; exact Int.le_refl _)
      omega
    · exact h4 h5 hs
theorem rd_slack {z : rd_Z} {r : Nat → Int} {m : Nat} (hz : rd_ok z) (hm : m < 7) (ht : rd_th z m = true) (hr : ∀ o, o < 7 → r o ≠ -1 → rd_th z o = true) (hr0 : ∀ o, o < 7 → -1 ≤ r o) (h0 : rd_lu z r = none) :
    (rd_cands z r m).foldl (rd_lt z r m) (r m) - r m = (rd_gr z r m (z 4 m - r m).toNat : Nat) := by
  have hSm := rd_sf_iff.mp (rd_lu_none.mp h0 m hm ht)
  have hz2 := hz.1 m hm
  have eself : rd_at r m (r m) = r := by
    funext o
    by_cases e : o = m
    · subst e; exact rd_at_self _ _ _
    · exact rd_at_ne e
  obtain ⟨g, hg⟩ : ∃ g, g = rd_gr z r m (z 4 m - r m).toNat := ⟨_, rfl⟩
  rw [← hg]
  have hgs : rd_lu z (rd_at r m (r m + (g : Nat))) = none := by
    by_cases h : g = 0
    · subst h
      have : r m + ((0 : Nat) : Int) = r m := by omega
      rw [this, eself]; exact h0
    · rw [hg] at h ⊢; exact rd_gr_ok h
  have hsr : ∀ c, rd_lu z (rd_at r m c) = none → z 2 m ≤ c ∧ c ≤ z 4 m ∧ (z 6 m = -1 ∨ z 6 m = c) := by
    intro c hc
    have := rd_sf_iff.mp (rd_lu_none.mp hc m hm ht)
    rw [rd_at_self] at this
    exact ⟨this.2.1.1, this.2.1.2, this.2.2.2.1⟩
  have hb : ∀ c, rd_lu z (rd_at r m c) = none → c ≤ r m + (g : Nat) := by
    intro c hc
    have h1 := hsr c hc
    by_cases hle : c ≤ r m
    · omega
    · have h2 := rd_gr_max (z := z) (r := r) (m := m) (k := (z 4 m - r m).toNat) (j := (c - r m).toNat) (by omega) (by
        have : r m + ((c - r m).toNat : Int) = c := by omega
        rw [this]; exact hc)
      rw [← hg] at h2
      omega
  have hmem : r m + (g : Nat) ∈ rd_cands z r m ∨ g = 0 := by
    by_cases hg0 : g = 0
    · exact Or.inr hg0
    · left
      unfold rd_cands
      have h1 := hsr _ hgs
      by_cases hlate : r m + (g : Nat) = z 4 m
      · rw [hlate]; exact List.mem_cons_self
      · have hf : z 6 m = -1 := by
          rcases h1.2.2 with q | q
          · exact q
          · have := hSm.2.2.2.1
            omega
        by_cases hc : ∃ c, c < rd_nc z ∧ z 8 c = r m + (g : Nat) + 1
        · obtain ⟨c, hc1, hc2⟩ := hc
          refine List.mem_cons_of_mem _ (List.mem_append_left _ (List.mem_map.mpr ⟨c, List.mem_range.mpr hc1, by omega⟩))
        · by_cases ho : ∃ o, o < 7 ∧ o ≠ m ∧ r o ≠ -1 ∧ r o - rd_gap z m o = r m + (g : Nat)
          · obtain ⟨o, o1, o2, o3, o4⟩ := ho
            refine List.mem_cons_of_mem _ (List.mem_append_right _ (List.mem_map.mpr ⟨o, List.mem_filter.mpr ⟨List.mem_range.mpr o1, by simp [o2, o3]⟩, o4⟩))
          · exfalso
            have h2 := rd_step hz hm ht hr hr0 (s := r m + (g : Nat)) (by omega) hgs (by omega) hf (fun c q1 q2 => hc ⟨c, q1, q2⟩) (fun o q1 q2 q3 q4 => ho ⟨o, q1, q2, q3, q4⟩)
            have := hb _ h2
            omega
  have hfold := rd_lt_fold hb (rd_cands z r m) (r m) (by omega)
  rcases hmem with h | h
  · have := hfold.2.2 h hgs
    omega
  · omega
end RDL
end
section
/-! pure mathematics of the desk: the first-come order's plan -/
section RDF
/-- the first-come order, its first k movements laid one behind the other -/
def rd_fc (z : rd_Z) : Nat → Option rd_P
  | 0 => some []
  | k + 1 => match rd_fc z k with
    | none => none
    | some pre => if rd_sec z (rd_ln z k) (rd_need z pre (rd_ln z k)) = -1 then none else some (pre ++ [(rd_ln z k, rd_sec z (rd_ln z k) (rd_need z pre (rd_ln z k)))])
def rd_fcv (z : rd_Z) : Int := match rd_fc z (rd_n z) with
  | none => -1
  | some pre => rd_cost z pre
theorem rd_fc_succ {z : rd_Z} {k : Nat} {pre : rd_P} (h : rd_fc z (k + 1) = some pre) : ∃ p0, rd_fc z k = some p0 ∧ rd_sec z (rd_ln z k) (rd_need z p0 (rd_ln z k)) ≠ -1 ∧ pre = p0 ++ [(rd_ln z k, rd_sec z (rd_ln z k) (rd_need z p0 (rd_ln z k)))] := by
  simp only [rd_fc] at h
  cases h0 : rd_fc z k with
  | none => rw [h0] at h; cases h
  | some p0 =>
    rw [h0] at h
    dsimp only at h
    by_cases hs : rd_sec z (rd_ln z k) (rd_need z p0 (rd_ln z k)) = -1
    · rw [if_pos hs] at h; cases h
    · rw [if_neg hs] at h
      exact ⟨p0, rfl, hs, (Option.some.inj h).symm⟩
theorem rd_fc_len {z : rd_Z} : ∀ {k : Nat} {pre : rd_P}, rd_fc z k = some pre → pre.length = k ∧ pre.map Prod.fst = (List.range k).map (rd_ln z)
  | 0, pre, h => by cases h; exact ⟨rfl, rfl⟩
  | k + 1, pre, h => by
    obtain ⟨p0, h0, -, rfl⟩ := rd_fc_succ h
    obtain ⟨h1, h2⟩ := rd_fc_len h0
    refine ⟨by simp [h1], ?_⟩
    rw [List.map_append, h2, List.range_succ, List.map_append]
    rfl
theorem rd_fc_lk {z : rd_Z} {k j : Nat} {pre : rd_P} (h : rd_fc z k = some pre) (hj : k ≤ j) (hn : j < rd_n z) : rd_lk (rd_ln z j) pre = none := by
  rw [rd_lk_none, (rd_fc_len h).2]
  intro hm
  obtain ⟨i, hi, he⟩ := List.mem_map.mp hm
  have hik := List.mem_range.mp hi
  have h1 := (rd_ln_ok (z := z) (p := i) (by omega)).2.2
  have h2 := (rd_ln_ok (z := z) (p := j) hn).2.2
  rw [he] at h1
  omega
theorem rd_fc_gd {z : rd_Z} (hz : rd_ok z) : ∀ {k : Nat} {pre : rd_P}, k ≤ rd_n z → rd_fc z k = some pre → rd_gd z pre
  | 0, pre, _, h => by cases h; exact ⟨fun _ h => (List.not_mem_nil h).elim, List.nodup_nil⟩
  | k + 1, pre, hk, h => by
    obtain ⟨p0, h0, h1, rfl⟩ := rd_fc_succ h
    have hl := rd_ln_ok (z := z) (p := k) (by omega)
    exact rd_gd_app hz (rd_fc_gd hz (by omega) h0) hl.1 hl.2.1 (rd_fc_lk h0 (Nat.le_refl _) (by omega)) h1
theorem rd_fc_none {z : rd_Z} {d : Nat} (h : rd_fc z d = none) : ∀ j, rd_fc z (d + j) = none
  | 0 => h
  | j + 1 => by
    show rd_fc z ((d + j) + 1) = none
    simp only [rd_fc]
    rw [rd_fc_none h j]
theorem rd_fc_need {z : rd_Z} {d : Nat} {pre : rd_P} (h : rd_fc z d = some pre) (o : Nat) : ∀ (j : Nat) (p1 : rd_P), rd_fc z (d + j) = some p1 → rd_need z pre o ≤ rd_need z p1 o
  | 0, p1, h1 => by
    rw [Nat.add_zero, h] at h1
    cases h1
    exact Int.le_refl _
  | j + 1, p1, h1 => by
    obtain ⟨p0, h0, -, rfl⟩ := rd_fc_succ (k := d + j) h1
    have ih := rd_fc_need h o j p0 h0
    rw [rd_need_app]
    omega
/-- one has no second: the first-come order has no plan -/
theorem rd_fc_stop {z : rd_Z} (hz : rd_ok z) {d : Nat} {pre : rd_P} (h : rd_fc z d = some pre) (hd : d ≤ rd_n z) (hr : rd_rdl z (rd_row z pre) = -1) : rd_fc z (rd_n z) = none := by
  by_cases hall : ∀ m, m < 7 → rd_th z m = true → rd_row z pre m ≠ -1
  · exact absurd hr ((rd_rdl_ne hz).mpr hall)
  · have hex : ∃ m, m < 7 ∧ rd_th z m = true ∧ rd_row z pre m = -1 := by
      refine Classical.byContradiction fun hn => hall fun m hm ht hq => hn ⟨m, hm, ht, hq⟩
    obtain ⟨m, hm, ht, hq⟩ := hex
    have hg := rd_fc_gd hz hd h
    have hk : rd_lk m pre = none := by
      cases hk : rd_lk m pre with
      | none => rfl
      | some s =>
        have := (hg.1 _ (rd_lk_mem hk)).2.2.1
        unfold rd_row at hq
        rw [hk] at hq
        dsimp only at hq this
        omega
    have hs : rd_sec z m (rd_need z pre m) = -1 := by
      unfold rd_row at hq
      rw [hk] at hq
      exact hq
    have hpl : rd_pl z m < rd_n z := rd_plc_n hm ht
    have hln : rd_ln z (rd_pl z m) = m := rd_ln_of hm ht
    have hge : d ≤ rd_pl z m := by
      rcases Nat.lt_or_ge (rd_pl z m) d with h1 | h1
      · exfalso
        rw [rd_lk_none, (rd_fc_len h).2] at hk
        exact hk (List.mem_map.mpr ⟨rd_pl z m, List.mem_range.mpr h1, hln⟩)
      · exact h1
    have h1 : rd_fc z (rd_pl z m + 1) = none := by
      simp only [rd_fc]
      cases h2 : rd_fc z (rd_pl z m) with
      | none => rfl
      | some p1 =>
        dsimp only
        rw [hln]
        have hn := rd_fc_need h m (rd_pl z m - d) p1 (by rw [show d + (rd_pl z m - d) = rd_pl z m by omega]; exact h2)
        rw [if_pos (rd_sec_none hz hn hs hm)]
    have := rd_fc_none h1 (rd_n z - (rd_pl z m + 1))
    rw [show rd_pl z m + 1 + (rd_n z - (rd_pl z m + 1)) = rd_n z by omega] at this
    exact this
/-- nobody is without a second: the next one can be laid -/
theorem rd_fc_next {z : rd_Z} (hz : rd_ok z) {d : Nat} {pre : rd_P} (h : rd_fc z d = some pre) (hd : d < rd_n z) (hr : rd_rdl z (rd_row z pre) ≠ -1) :
    rd_fc z (d + 1) = some (pre ++ [(rd_ln z d, rd_row z pre (rd_ln z d))]) := by
  have hl := rd_ln_ok (z := z) (p := d) hd
  have hk := rd_fc_lk h (Nat.le_refl _) hd
  have h1 := (rd_rdl_ne hz).mp hr _ hl.1 hl.2.1
  have e : rd_row z pre (rd_ln z d) = rd_sec z (rd_ln z d) (rd_need z pre (rd_ln z d)) := by
    unfold rd_row
    rw [hk]
  rw [e] at h1 ⊢
  simp only [rd_fc]
  rw [h]
  dsimp only
  rw [if_neg h1]
end RDF
end
section
/-! numbers of 32 bits and whole numbers -/
section RDI
def iI (x : Int) : Int32 := Int32.ofInt x
/-- x is a number of 32 bits -/
def iB (x : Int) : Prop := -2147483648 ≤ x ∧ x ≤ 2147483647
theorem iI_to {x : Int} (h : iB x) : (iI x).toInt = x := by
  unfold iI
  rw [Int32.toInt_ofInt_of_le (by have := h.1; omega) (by have := h.2; omega)]
theorem iI_of (x : Int32) : iI x.toInt = x := Int32.ofInt_toInt x
theorem iB_of (x : Int32) : iB x.toInt := ⟨Int32.le_toInt x, by have := Int32.toInt_lt x; omega⟩
theorem iI_ex (x : Int32) : ∃ a : Int, iB a ∧ x = iI a := ⟨x.toInt, iB_of x, (iI_of x).symm⟩
theorem iI_add (a b : Int) : iI a + iI b = iI (a + b) := (Int32.ofInt_add a b).symm
theorem iI_sub (a b : Int) : iI a - iI b = iI (a - b) := (Int32.ofInt_sub a b).symm
theorem iI_mul (a b : Int) : iI a * iI b = iI (a * b) := (Int32.ofInt_mul a b).symm
theorem iI_neg (a : Int) : -iI a = iI (-a) := (Int32.ofInt_neg a).symm
theorem iI_lt {a b : Int} (ha : iB a) (hb : iB b) : iI a < iI b ↔ a < b := by
  rw [Int32.lt_iff_toInt_lt, iI_to ha, iI_to hb]
theorem iI_le {a b : Int} (ha : iB a) (hb : iB b) : iI a ≤ iI b ↔ a ≤ b := by
  rw [Int32.le_iff_toInt_le, iI_to ha, iI_to hb]
theorem iI_eq {a b : Int} (ha : iB a) (hb : iB b) : iI a = iI b ↔ a = b := by
  rw [← Int32.toInt_inj, iI_to ha, iI_to hb]
theorem iI_cl {a : Int} (ha : iB a) : (iI a).toNatClampNeg = a.toNat := by
  show (iI a).toInt.toNat = _
  rw [iI_to ha]
theorem iI_in {a : Int} {n : Nat} (h0 : 0 ≤ a) (h1 : a < n) (hn : n ≤ 2147483647) : vp_in (iI a) n := by
  have ha : iB a := ⟨by omega, by omega⟩
  intro h
  rcases h with h | h
  · have h2 : iI a < iI 0 := h
    rw [iI_lt ha ⟨by omega, by omega⟩] at h2
    omega
  · rw [iI_cl ha] at h
    omega
theorem iI_nat (n : Nat) : Int32.ofNat n = iI (n : Int) := by
  unfold iI
  exact (Int32.ofInt_eq_ofNat).symm
end RDI
end
section
/-! A small machine of my own: a method's body over a world of numbered cells. A cell has a kind (0 int[], 1 boolean[], 2 long[], 3 int[][], 4 + c an object of class c), a length, and its places (of an object: 0 a number, 1 null, r + 2 the cell r; of int[][]: the rows' cells). The numbers lie apart: I k j and L k j. The script is the value 'retAddr'. -/
section AMA
abbrev am_Cl : Type := Nat × Nat × List Nat
/-- cells, numbers, longs, the script -/
abbrev am_W : Type := List am_Cl × (Nat → Nat → Int32) × (Nat → Nat → Int64) × Nat × (Nat → Int32)
/-- how a method ends: what it returns, or the number of the exception that it throws -/
abbrev am_O : Type := Option Value ⊕ Nat
abbrev am_Q : Type := am_O → am_W → Prop
/-- pc, locals, stack, world, cells and slots that have been used -/
abbrev am_S : Type := Nat × List (Option Value) × List Value × am_W × Nat × Nat
abbrev am_C : Type := Nat → List Value → am_W → am_Q → Prop
/-- an instruction: what must be so ahead of it; calls, the method's end, what must be so behind it; locals, stack, world, cells, slots -/
abbrev am_Sem : Type := am_C → am_Q → (am_S → Prop) → List (Option Value) → List Value → am_W → Nat → Nat → Prop
def am_u2 {α : Type} (f : Nat → Nat → α) (k j : Nat) (x : α) : Nat → Nat → α := fun a b => if a = k then (if b = j then x else f a b) else f a b
def am_u1 {α : Type} (f : Nat → Nat → α) (k : Nat) (g : Nat → α) : Nat → Nat → α := fun a b => if a = k then g b else f a b
def am_set : List (Option Value) → Nat → Value → List (Option Value)
  | [], 0, v => [some v]
  | [], n + 1, v => none :: am_set [] n v
  | _ :: l, 0, v => some v :: l
  | x :: l, n + 1, v => x :: am_set l n v
def am_cond (c : Nat) (x y : Int32) : Prop := match c with
  | 0 => x = y
  | 1 => ¬ x = y
  | 2 => x < y
  | 3 => y ≤ x
  | 4 => y < x
  | _ => x ≤ y
def am_halt : am_Sem := fun _ _ _ _ _ _ _ _ => False
def am_push (nx : Nat) (v : Int32) : am_Sem := fun _ _ Y ls st w uc us => Y (nx, ls, .int v :: st, w, uc, us)
def am_lpush (nx : Nat) (v : Int64) : am_Sem := fun _ _ Y ls st w uc us => Y (nx, ls, .long v :: st, w, uc, us)
def am_iload (nx a : Nat) : am_Sem := fun _ _ Y ls st w uc us => ∃ x, ls[a]? = some (some (.int x)) ∧ Y (nx, ls, .int x :: st, w, uc, us)
def am_aload (nx a : Nat) : am_Sem := fun _ _ Y ls st w uc us => ∃ v, ls[a]? = some (some v) ∧ ((∃ k, v = .ref k) ∨ ∃ k, v = .retAddr k) ∧ Y (nx, ls, v :: st, w, uc, us)
def am_istore (nx a : Nat) : am_Sem := fun _ _ Y ls st w uc us => ∃ x r, st = .int x :: r ∧ Y (nx, am_set ls a (.int x), r, w, uc, us)
/-- null stands for any reference -/
def am_astore (nx a : Nat) : am_Sem := fun _ _ Y ls st w uc us => ∃ v r, st = v :: r ∧ ((∃ k, v = .ref k) ∨ v = .null) ∧ Y (nx, am_set ls a v, r, w, uc, us)
def am_iinc (nx a : Nat) (v : Int32) : am_Sem := fun _ _ Y ls st w uc us => ∃ x, ls[a]? = some (some (.int x)) ∧ Y (nx, am_set ls a (.int (x + v)), st, w, uc, us)
def am_iadd (nx : Nat) : am_Sem := fun _ _ Y ls st w uc us => ∃ x y r, st = .int y :: .int x :: r ∧ Y (nx, ls, .int (x + y) :: r, w, uc, us)
def am_isub (nx : Nat) : am_Sem := fun _ _ Y ls st w uc us => ∃ x y r, st = .int y :: .int x :: r ∧ Y (nx, ls, .int (x - y) :: r, w, uc, us)
def am_imul (nx : Nat) : am_Sem := fun _ _ Y ls st w uc us => ∃ x y r, st = .int y :: .int x :: r ∧ Y (nx, ls, .int (x * y) :: r, w, uc, us)
def am_iand (nx : Nat) : am_Sem := fun _ _ Y ls st w uc us => ∃ x y r, st = .int y :: .int x :: r ∧ Y (nx, ls, .int (x &&& y) :: r, w, uc, us)
def am_ineg (nx : Nat) : am_Sem := fun _ _ Y ls st w uc us => ∃ x r, st = .int x :: r ∧ Y (nx, ls, .int (-x) :: r, w, uc, us)
def am_if (nx tg c : Nat) : am_Sem := fun _ _ Y ls st w uc us => ∃ x r, st = .int x :: r ∧ (am_cond c x 0 → Y (tg, ls, r, w, uc, us)) ∧ (¬ am_cond c x 0 → Y (nx, ls, r, w, uc, us))
def am_icmp (nx tg c : Nat) : am_Sem := fun _ _ Y ls st w uc us => ∃ x y r, st = .int y :: .int x :: r ∧ (am_cond c x y → Y (tg, ls, r, w, uc, us)) ∧ (¬ am_cond c x y → Y (nx, ls, r, w, uc, us))
def am_goto (tg : Nat) : am_Sem := fun _ _ Y ls st w uc us => Y (tg, ls, st, w, uc, us)
/-- least, targets, other -/
def am_switch (lo : Int) (tgs : List Nat) (dflt : Nat) : am_Sem := fun _ _ Y ls st w uc us => ∃ x r, st = .int x :: r ∧
  (x.toInt < lo ∨ lo + tgs.length ≤ x.toInt → Y (dflt, ls, r, w, uc, us)) ∧ ∀ (k tg : Nat), x.toInt = lo + k → tgs[k]? = some tg → Y (tg, ls, r, w, uc, us)
def am_iald (nx : Nat) : am_Sem := fun _ _ Y ls st w uc us => ∃ i k r n q, st = .int i :: .ref k :: r ∧ w.1[k]? = some (0, n, q) ∧ vp_in i n ∧ Y (nx, ls, .int (w.2.1 k i.toNatClampNeg) :: r, w, uc, us)
def am_sald (nx : Nat) : am_Sem := fun _ _ Y ls st w uc us => ∃ i k r, st = .int i :: .retAddr k :: r ∧ vp_in i w.2.2.2.1 ∧ Y (nx, ls, .int (w.2.2.2.2 i.toNatClampNeg) :: r, w, uc, us)
def am_zald (nx : Nat) : am_Sem := fun _ _ Y ls st w uc us => ∃ i k r n q, st = .int i :: .ref k :: r ∧ w.1[k]? = some (1, n, q) ∧ vp_in i n ∧ Y (nx, ls, .int (w.2.1 k i.toNatClampNeg) :: r, w, uc, us)
def am_lald (nx : Nat) : am_Sem := fun _ _ Y ls st w uc us => ∃ i k r n q, st = .int i :: .ref k :: r ∧ w.1[k]? = some (2, n, q) ∧ vp_in i n ∧ Y (nx, ls, .long (w.2.2.1 k i.toNatClampNeg) :: r, w, uc, us)
def am_aald (nx : Nat) : am_Sem := fun _ _ Y ls st w uc us => ∃ i k r n q x, st = .int i :: .ref k :: r ∧ w.1[k]? = some (3, n, q) ∧ vp_in i n ∧ q[i.toNatClampNeg]? = some x ∧ Y (nx, ls, .ref x :: r, w, uc, us)
def am_iast (nx : Nat) : am_Sem := fun _ _ Y ls st w uc us => ∃ x i k r n q, st = .int x :: .int i :: .ref k :: r ∧ w.1[k]? = some (0, n, q) ∧ vp_in i n ∧ Y (nx, ls, r, (w.1, am_u2 w.2.1 k i.toNatClampNeg x, w.2.2), uc, us)
def am_zast (nx : Nat) : am_Sem := fun _ _ Y ls st w uc us => ∃ x i k r n q, st = .int x :: .int i :: .ref k :: r ∧ w.1[k]? = some (1, n, q) ∧ vp_in i n ∧ (x = 0 ∨ x = 1) ∧ Y (nx, ls, r, (w.1, am_u2 w.2.1 k i.toNatClampNeg x, w.2.2), uc, us)
def am_last (nx : Nat) : am_Sem := fun _ _ Y ls st w uc us => ∃ x i k r n q, st = .long x :: .int i :: .ref k :: r ∧ w.1[k]? = some (2, n, q) ∧ vp_in i n ∧ Y (nx, ls, r, (w.1, w.2.1, am_u2 w.2.2.1 k i.toNatClampNeg x, w.2.2.2), uc, us)
def am_lcmp (nx : Nat) : am_Sem := fun _ _ Y ls st w uc us => ∃ x y r, st = .long y :: .long x :: r ∧ Y (nx, ls, .int (lg_cmp x y) :: r, w, uc, us)
def am_i2l (nx : Nat) : am_Sem := fun _ _ Y ls st w uc us => ∃ x r, st = .int x :: r ∧ Y (nx, ls, .long x.toInt64 :: r, w, uc, us)
def am_dup (nx : Nat) : am_Sem := fun _ _ Y ls st w uc us => ∃ v r, st = v :: r ∧ ((∃ x, v = .int x) ∨ ∃ k, v = .ref k) ∧ Y (nx, ls, v :: v :: r, w, uc, us)
def am_pop (nx : Nat) : am_Sem := fun _ _ Y ls st w uc us => ∃ x r, st = .int x :: r ∧ Y (nx, ls, r, w, uc, us)
def am_alen (nx : Nat) : am_Sem := fun _ _ Y ls st w uc us => ∃ k r n q, st = .ref k :: r ∧ w.1[k]? = some (0, n, q) ∧ Y (nx, ls, .int (Int32.ofNat n) :: r, w, uc, us)
def am_slen (nx : Nat) : am_Sem := fun _ _ Y ls st w uc us => ∃ k r, st = .retAddr k :: r ∧ Y (nx, ls, .int (Int32.ofNat w.2.2.2.1) :: r, w, uc, us)
/-- a number's field -/
def am_geti (nx ci j : Nat) : am_Sem := fun _ _ Y ls st w uc us => ∃ k r n q, st = .ref k :: r ∧ w.1[k]? = some (ci + 4, n, q) ∧ q[j]? = some 0 ∧ Y (nx, ls, .int (w.2.1 k j) :: r, w, uc, us)
def am_getr (nx ci j : Nat) : am_Sem := fun _ _ Y ls st w uc us => ∃ k r n q x, st = .ref k :: r ∧ w.1[k]? = some (ci + 4, n, q) ∧ q[j]? = some (x + 2) ∧ Y (nx, ls, .ref x :: r, w, uc, us)
def am_puti (nx ci j : Nat) : am_Sem := fun _ _ Y ls st w uc us => ∃ x k r n q, st = .int x :: .ref k :: r ∧ w.1[k]? = some (ci + 4, n, q) ∧ q[j]? = some 0 ∧ Y (nx, ls, r, (w.1, am_u2 w.2.1 k j x, w.2.2), uc, us)
def am_putr (nx ci j : Nat) : am_Sem := fun _ _ Y ls st w uc us => ∃ x k r n q, st = .ref x :: .ref k :: r ∧ w.1[k]? = some (ci + 4, n, q) ∧ q[j]? = some 1 ∧ x < w.1.length ∧ Y (nx, ls, r, (w.1.set k (ci + 4, n, q.set j (x + 2)), w.2), uc, us)
/-- a new object: its class, its places; the method's bounds of cells and slots -/
def am_new (nx ci : Nat) (df : List Nat) (mc ms : Nat) : am_Sem := fun _ _ Y ls st w uc us => uc + 1 ≤ mc ∧ us + df.length ≤ ms ∧ Y (nx, ls, .ref w.1.length :: st, (w.1 ++ [(ci + 4, df.length, df)], am_u1 w.2.1 w.1.length (fun _ => 0), w.2.2), uc + 1, us + df.length)
/-- a new array of numbers: its kind -/
def am_newa (nx kd mc ms : Nat) : am_Sem := fun _ _ Y ls st w uc us => ∃ (n : Nat) (r : List Value), st = .int (Int32.ofNat n) :: r ∧ n ≤ 1000 ∧ uc + 1 ≤ mc ∧ us + n ≤ ms ∧ Y (nx, ls, .ref w.1.length :: r, (w.1 ++ [(kd, n, [])], am_u1 w.2.1 w.1.length (fun _ => 0), am_u1 w.2.2.1 w.1.length (fun _ => 0), w.2.2.2), uc + 1, us + n)
/-- new int[n][k] -/
def am_mna (nx mc ms : Nat) : am_Sem := fun _ _ Y ls st w uc us => ∃ (n k : Nat) (r : List Value), st = .int (Int32.ofNat k) :: .int (Int32.ofNat n) :: r ∧ n ≤ 1000 ∧ k ≤ 1000 ∧ uc + 1 + n ≤ mc ∧ us + n + n * k ≤ ms ∧
  Y (nx, ls, .ref w.1.length :: r, (w.1 ++ (3, n, (List.range n).map (fun i => w.1.length + 1 + i)) :: List.replicate n (0, k, []), (fun a b => if w.1.length ≤ a then 0 else w.2.1 a b), w.2.2), uc + 1 + n, us + n + n * k)
/-- Object.<init> -/
def am_oinit (nx : Nat) : am_Sem := fun _ _ Y ls st w uc us => ∃ k r, st = .ref k :: r ∧ (r.map fun v => v.category).sum ≤ 8 ∧ Y (nx, ls, r, w, uc, us)
def am_max (nx mc ms : Nat) : am_Sem := fun _ _ Y ls st w uc us => ∃ x y r, st = .int y :: .int x :: r ∧ (r.map fun v => v.category).sum ≤ 8 ∧ uc ≤ mc ∧ us ≤ ms ∧ Y (nx, ls, .int (if x < y then y else x) :: r, w, uc, us)
def am_abs (nx mc ms : Nat) : am_Sem := fun _ _ Y ls st w uc us => ∃ x r, st = .int x :: r ∧ (r.map fun v => v.category).sum ≤ 8 ∧ uc ≤ mc ∧ us ≤ ms ∧ Y (nx, ls, .int (if 0 ≤ x then x else 0 - x) :: r, w, uc, us)
def am_copy (nx : Nat) : am_Sem := fun _ _ Y ls st w uc us => ∃ n dp d sp s r n0 q0 n1 q1, st = .int n :: .int dp :: .ref d :: .int sp :: .ref s :: r ∧ (r.map fun v => v.category).sum ≤ 8 ∧ w.1[s]? = some (0, n0, q0) ∧ w.1[d]? = some (0, n1, q1) ∧ ¬ sp < 0 ∧ ¬ dp < 0 ∧ ¬ n < 0 ∧
  sp.toNatClampNeg + n.toNatClampNeg ≤ n0 ∧ dp.toNatClampNeg + n.toNatClampNeg ≤ n1 ∧ Y (nx, ls, r, (w.1, am_u1 w.2.1 d (va_cpy (w.2.1 s) (w.2.1 d) sp.toNatClampNeg dp.toNatClampNeg n.toNatClampNeg), w.2.2), uc, us)
/-- a call of method mj with na values, that doesn't throw; its cells and slots; the caller's bounds -/
def am_inv (nx mj na jc js mc ms : Nat) : am_Sem := fun C _ Y ls st w uc us => ∃ (as r : List Value) (Q' : am_Q), st = as.reverse ++ r ∧ as.length = na ∧ (r.map fun v => v.category).sum ≤ 8 ∧ uc + jc ≤ mc ∧ us + js ≤ ms ∧ C mj as w Q' ∧
  (∀ v w', Q' (.inl v) w' → Y (nx, ls, v.toList ++ r, w', uc + jc, us + js)) ∧ ∀ E w', ¬ Q' (.inr E) w'
/-- .. on an object of class ci -/
def am_invV (nx mj na ci jc js mc ms : Nat) : am_Sem := fun C _ Y ls st w uc us => ∃ (k n : Nat) (q : List Nat) (as r : List Value) (Q' : am_Q), st = as.reverse ++ .ref k :: r ∧ as.length = na ∧ w.1[k]? = some (ci + 4, n, q) ∧ (r.map fun v => v.category).sum ≤ 8 ∧ uc + jc ≤ mc ∧ us + js ≤ ms ∧ C mj (.ref k :: as) w Q' ∧
  (∀ v w', Q' (.inl v) w' → Y (nx, ls, v.toList ++ r, w', uc + jc, us + js)) ∧ ∀ E w', ¬ Q' (.inr E) w'
/-- .. that may throw, and no handler here -/
def am_invX (nx mj na ci jc js mc ms : Nat) : am_Sem := fun C Q Y ls st w uc us => ∃ (k n : Nat) (q : List Nat) (as r : List Value) (Q' : am_Q), st = as.reverse ++ .ref k :: r ∧ as.length = na ∧ w.1[k]? = some (ci + 4, n, q) ∧ (r.map fun v => v.category).sum ≤ 8 ∧ uc + jc ≤ mc ∧ us + js ≤ ms ∧ C mj (.ref k :: as) w Q' ∧
  (∀ v w', Q' (.inl v) w' → Y (nx, ls, v.toList ++ r, w', uc + jc, us + js)) ∧ ∀ E w', Q' (.inr E) w' → Q (.inr E) w'
/-- where an exception goes: the handlers (at, which) that cover the place, in their order -/
def am_hand (E : Nat) : List (Nat × Nat) → Option Nat
  | [] => none
  | h :: l => if h.2 = E then some h.1 else am_hand E l
/-- .. under handlers -/
def am_invH (nx mj na ci jc js mc ms : Nat) (hh : List (Nat × Nat)) : am_Sem := fun C _ Y ls st w uc us => ∃ (k n : Nat) (q : List Nat) (as r : List Value) (Q' : am_Q), st = as.reverse ++ .ref k :: r ∧ as.length = na ∧ w.1[k]? = some (ci + 4, n, q) ∧ (r.map fun v => v.category).sum ≤ 8 ∧ uc + jc ≤ mc ∧ us + js ≤ ms ∧ C mj (.ref k :: as) w Q' ∧
  (∀ v w', Q' (.inl v) w' → Y (nx, ls, v.toList ++ r, w', uc + jc, us + js)) ∧ ∀ E w', Q' (.inr E) w' → ∃ h, am_hand E hh = some h ∧ Y (h, ls, [.null], w', uc + jc, us + js)
def am_iret (mc ms : Nat) : am_Sem := fun _ Q _ _ st w uc us => ∃ x, st = [.int x] ∧ uc ≤ mc ∧ us ≤ ms ∧ Q (.inl (some (.int x))) w
def am_zret (mc ms : Nat) : am_Sem := fun _ Q _ _ st w uc us => ∃ x, st = [.int x] ∧ uc ≤ mc ∧ us ≤ ms ∧ (x = 0 ∨ x = 1) ∧ Q (.inl (some (.int x))) w
def am_vret (mc ms : Nat) : am_Sem := fun _ Q _ _ st w uc us => st = [] ∧ uc ≤ mc ∧ us ≤ ms ∧ Q (.inl none) w
/-- throw new E() -/
def am_throw (E mc ms : Nat) : am_Sem := fun _ Q _ _ st w uc us => (st.map fun v => v.category).sum ≤ 8 ∧ uc + 1 ≤ mc ∧ us + 6 ≤ ms ∧ Q (.inr E) w
/-- the method's walk: the least Y that is closed under its instructions -/
def am_X (tab : Nat → am_Sem) (C : am_C) (Q : am_Q) (σ : am_S) : Prop :=
  ∀ Y : am_S → Prop, (∀ (pc : Nat) (ls : List (Option Value)) (st : List Value) (w : am_W) (uc us : Nat) (Z : am_S → Prop), (∀ τ, Z τ → Y τ) → tab pc C Q Z ls st w uc us → Y (pc, ls, st, w, uc, us)) → Y σ
theorem am_go {tab : Nat → am_Sem} {C : am_C} {Q : am_Q} {pc : Nat} {ls : List (Option Value)} {st : List Value} {w : am_W} {uc us : Nat} {f : am_Sem} (ht : tab pc = f) (h : f C Q (am_X tab C Q) ls st w uc us) : am_X tab C Q (pc, ls, st, w, uc, us) := by
  subst ht
  intro Y hY
  exact hY pc ls st w uc us (am_X tab C Q) (fun τ hτ => hτ Y hY) h
/-- calls to depth d; tabs: the methods' instructions, ar: how many values they take -/
def am_T (tabs : Nat → Nat → am_Sem) (ar : Nat → Nat) : Nat → am_C
  | 0 => fun _ _ _ _ => False
  | d + 1 => fun mi as w Q => (as.length = ar mi ∧ (as.all fun v => v.category == 1) = true) ∧ am_X (tabs mi) (am_T tabs ar d) Q (0, as.map some, [], w, 0, 0)
end AMA
end
section
/-! rows for walks of the small machine, in whole numbers -/
section AMW
variable {tab : Nat → am_Sem} {C : am_C} {Q : am_Q} {pc nx tg a k n : Nat} {ls : List (Option Value)} {st : List Value} {w : am_W} {uc us : Nat} {x y v i : Int}
/-- a list of instructions by their places -/
def am_tb : List (Nat × am_Sem) → Nat → am_Sem
  | [], _ => am_halt
  | q :: l, pc => if q.1 = pc then q.2 else am_tb l pc
theorem am_tb_all {P : Nat → am_Sem → Prop} (h0 : ∀ pc, P pc am_halt) : ∀ (l : List (Nat × am_Sem)), (∀ q ∈ l, P q.1 q.2) → ∀ pc, P pc (am_tb l pc)
  | [], _, pc => h0 pc
  | q :: l, h, pc => by
    unfold am_tb
    split
    · rename_i e
      rw [← e]
      exact h q List.mem_cons_self
    · exact am_tb_all h0 l (fun r hr => h r (List.mem_cons_of_mem _ hr)) pc
/-- a comparison, of whole numbers -/
def am_cI (c : Nat) (x y : Int) : Prop := match c with
  | 0 => x = y
  | 1 => ¬ x = y
  | 2 => x < y
  | 3 => y ≤ x
  | 4 => y < x
  | _ => x ≤ y
theorem am_cond_iff {c : Nat} (hx : iB x) (hy : iB y) : am_cond c (iI x) (iI y) ↔ am_cI c x y := by
  match c with
  | 0 => exact iI_eq hx hy
  | 1 => exact not_congr (iI_eq hx hy)
  | 2 => exact iI_lt hx hy
  | 3 => exact iI_le hy hx
  | 4 => exact iI_lt hy hx
  | _ + 5 => exact iI_le hx hy
theorem iI_0 : (0 : Int32) = iI 0 := by decide
theorem iB0 : iB 0 := ⟨by omega, by omega⟩
theorem r_push {u : Int32} (ht : tab pc = am_push nx u) (kk : am_X tab C Q (nx, ls, .int u :: st, w, uc, us)) : am_X tab C Q (pc, ls, st, w, uc, us) := am_go ht kk
theorem r_lpush {u : Int64} (ht : tab pc = am_lpush nx u) (kk : am_X tab C Q (nx, ls, .long u :: st, w, uc, us)) : am_X tab C Q (pc, ls, st, w, uc, us) := am_go ht kk
theorem r_iload {u : Int32} (ht : tab pc = am_iload nx a) (hl : ls[a]? = some (some (.int u))) (kk : am_X tab C Q (nx, ls, .int u :: st, w, uc, us)) : am_X tab C Q (pc, ls, st, w, uc, us) := am_go ht ⟨u, hl, kk⟩
theorem r_aload (ht : tab pc = am_aload nx a) (hl : ls[a]? = some (some (.ref k))) (kk : am_X tab C Q (nx, ls, .ref k :: st, w, uc, us)) : am_X tab C Q (pc, ls, st, w, uc, us) := am_go ht ⟨_, hl, Or.inl ⟨k, rfl⟩, kk⟩
theorem r_scload (ht : tab pc = am_aload nx a) (hl : ls[a]? = some (some (.retAddr k))) (kk : am_X tab C Q (nx, ls, .retAddr k :: st, w, uc, us)) : am_X tab C Q (pc, ls, st, w, uc, us) := am_go ht ⟨_, hl, Or.inr ⟨k, rfl⟩, kk⟩
theorem r_istore {u : Int32} (ht : tab pc = am_istore nx a) (kk : am_X tab C Q (nx, am_set ls a (.int u), st, w, uc, us)) : am_X tab C Q (pc, ls, .int u :: st, w, uc, us) := am_go ht ⟨u, st, rfl, kk⟩
theorem r_astore (ht : tab pc = am_astore nx a) (kk : am_X tab C Q (nx, am_set ls a (.ref k), st, w, uc, us)) : am_X tab C Q (pc, ls, .ref k :: st, w, uc, us) := am_go ht ⟨_, st, rfl, Or.inl ⟨k, rfl⟩, kk⟩
theorem r_nstore (ht : tab pc = am_astore nx a) (kk : am_X tab C Q (nx, am_set ls a .null, st, w, uc, us)) : am_X tab C Q (pc, ls, .null :: st, w, uc, us) := am_go ht ⟨_, st, rfl, Or.inr rfl, kk⟩
theorem r_iinc (ht : tab pc = am_iinc nx a (iI v)) (hl : ls[a]? = some (some (.int (iI x)))) (kk : am_X tab C Q (nx, am_set ls a (.int (iI (x + v))), st, w, uc, us)) : am_X tab C Q (pc, ls, st, w, uc, us) := am_go ht ⟨iI x, hl, by rw [iI_add]; exact kk⟩
theorem r_iadd (ht : tab pc = am_iadd nx) (kk : am_X tab C Q (nx, ls, .int (iI (x + y)) :: st, w, uc, us)) : am_X tab C Q (pc, ls, .int (iI y) :: .int (iI x) :: st, w, uc, us) := am_go ht ⟨iI x, iI y, st, rfl, by rw [iI_add]; exact kk⟩
theorem r_isub (ht : tab pc = am_isub nx) (kk : am_X tab C Q (nx, ls, .int (iI (x - y)) :: st, w, uc, us)) : am_X tab C Q (pc, ls, .int (iI y) :: .int (iI x) :: st, w, uc, us) := am_go ht ⟨iI x, iI y, st, rfl, by rw [iI_sub]; exact kk⟩
theorem r_imul (ht : tab pc = am_imul nx) (kk : am_X tab C Q (nx, ls, .int (iI (x * y)) :: st, w, uc, us)) : am_X tab C Q (pc, ls, .int (iI y) :: .int (iI x) :: st, w, uc, us) := am_go ht ⟨iI x, iI y, st, rfl, by rw [iI_mul]; exact kk⟩
theorem r_ineg (ht : tab pc = am_ineg nx) (kk : am_X tab C Q (nx, ls, .int (iI (-x)) :: st, w, uc, us)) : am_X tab C Q (pc, ls, .int (iI x) :: st, w, uc, us) := am_go ht ⟨iI x, st, rfl, by rw [iI_neg]; exact kk⟩
theorem r_if {c : Nat} (ht : tab pc = am_if nx tg c) (hx : iB x) (kt : am_cI c x 0 → am_X tab C Q (tg, ls, st, w, uc, us)) (kf : ¬ am_cI c x 0 → am_X tab C Q (nx, ls, st, w, uc, us)) : am_X tab C Q (pc, ls, .int (iI x) :: st, w, uc, us) :=
  am_go ht ⟨iI x, st, rfl, fun h => kt ((am_cond_iff hx iB0).mp h), fun h => kf (fun q => h ((am_cond_iff hx iB0).mpr q))⟩
theorem r_icmp {c : Nat} (ht : tab pc = am_icmp nx tg c) (hx : iB x) (hy : iB y) (kt : am_cI c x y → am_X tab C Q (tg, ls, st, w, uc, us)) (kf : ¬ am_cI c x y → am_X tab C Q (nx, ls, st, w, uc, us)) : am_X tab C Q (pc, ls, .int (iI y) :: .int (iI x) :: st, w, uc, us) :=
  am_go ht ⟨iI x, iI y, st, rfl, fun h => kt ((am_cond_iff hx hy).mp h), fun h => kf (fun q => h ((am_cond_iff hx hy).mpr q))⟩
theorem r_goto (ht : tab pc = am_goto tg) (kk : am_X tab C Q (tg, ls, st, w, uc, us)) : am_X tab C Q (pc, ls, st, w, uc, us) := am_go ht kk
theorem r_iald {q : List Nat} (ht : tab pc = am_iald nx) (hc : w.1[k]? = some (0, n, q)) (h0 : 0 ≤ i) (h1 : i < n) (hn : n ≤ 1000) (hv : w.2.1 k i.toNat = iI v) (kk : am_X tab C Q (nx, ls, .int (iI v) :: st, w, uc, us)) : am_X tab C Q (pc, ls, .int (iI i) :: .ref k :: st, w, uc, us) :=
  am_go ht ⟨iI i, k, st, n, q, rfl, hc, iI_in h0 h1 (by omega), by rw [iI_cl ⟨by omega, by omega⟩, hv]; exact kk⟩
theorem r_zald {q : List Nat} (ht : tab pc = am_zald nx) (hc : w.1[k]? = some (1, n, q)) (h0 : 0 ≤ i) (h1 : i < n) (hn : n ≤ 1000) (hv : w.2.1 k i.toNat = iI v) (kk : am_X tab C Q (nx, ls, .int (iI v) :: st, w, uc, us)) : am_X tab C Q (pc, ls, .int (iI i) :: .ref k :: st, w, uc, us) :=
  am_go ht ⟨iI i, k, st, n, q, rfl, hc, iI_in h0 h1 (by omega), by rw [iI_cl ⟨by omega, by omega⟩, hv]; exact kk⟩
theorem r_aald {q : List Nat} {z : Nat} (ht : tab pc = am_aald nx) (hc : w.1[k]? = some (3, n, q)) (h0 : 0 ≤ i) (h1 : i < n) (hn : n ≤ 1000) (hv : q[i.toNat]? = some z) (kk : am_X tab C Q (nx, ls, .ref z :: st, w, uc, us)) : am_X tab C Q (pc, ls, .int (iI i) :: .ref k :: st, w, uc, us) :=
  am_go ht ⟨iI i, k, st, n, q, z, rfl, hc, iI_in h0 h1 (by omega), by rw [iI_cl ⟨by omega, by omega⟩]; exact hv, kk⟩
theorem r_lald {q : List Nat} {g : Int64} (ht : tab pc = am_lald nx) (hc : w.1[k]? = some (2, n, q)) (h0 : 0 ≤ i) (h1 : i < n) (hn : n ≤ 1000) (hv : w.2.2.1 k i.toNat = g) (kk : am_X tab C Q (nx, ls, .long g :: st, w, uc, us)) : am_X tab C Q (pc, ls, .int (iI i) :: .ref k :: st, w, uc, us) :=
  am_go ht ⟨iI i, k, st, n, q, rfl, hc, iI_in h0 h1 (by omega), by rw [iI_cl ⟨by omega, by omega⟩, hv]; exact kk⟩
theorem r_iast {q : List Nat} {u : Int32} (ht : tab pc = am_iast nx) (hc : w.1[k]? = some (0, n, q)) (h0 : 0 ≤ i) (h1 : i < n) (hn : n ≤ 1000) (kk : am_X tab C Q (nx, ls, st, (w.1, am_u2 w.2.1 k i.toNat u, w.2.2), uc, us)) : am_X tab C Q (pc, ls, .int u :: .int (iI i) :: .ref k :: st, w, uc, us) :=
  am_go ht ⟨u, iI i, k, st, n, q, rfl, hc, iI_in h0 h1 (by omega), by rw [iI_cl ⟨by omega, by omega⟩]; exact kk⟩
theorem r_zast {q : List Nat} {u : Int32} (ht : tab pc = am_zast nx) (hc : w.1[k]? = some (1, n, q)) (h0 : 0 ≤ i) (h1 : i < n) (hn : n ≤ 1000) (hu : u = 0 ∨ u = 1) (kk : am_X tab C Q (nx, ls, st, (w.1, am_u2 w.2.1 k i.toNat u, w.2.2), uc, us)) : am_X tab C Q (pc, ls, .int u :: .int (iI i) :: .ref k :: st, w, uc, us) :=
  am_go ht ⟨u, iI i, k, st, n, q, rfl, hc, iI_in h0 h1 (by omega), hu, by rw [iI_cl ⟨by omega, by omega⟩]; exact kk⟩
theorem r_last {q : List Nat} {u : Int64} (ht : tab pc = am_last nx) (hc : w.1[k]? = some (2, n, q)) (h0 : 0 ≤ i) (h1 : i < n) (hn : n ≤ 1000) (kk : am_X tab C Q (nx, ls, st, (w.1, w.2.1, am_u2 w.2.2.1 k i.toNat u, w.2.2.2), uc, us)) : am_X tab C Q (pc, ls, .long u :: .int (iI i) :: .ref k :: st, w, uc, us) :=
  am_go ht ⟨u, iI i, k, st, n, q, rfl, hc, iI_in h0 h1 (by omega), by rw [iI_cl ⟨by omega, by omega⟩]; exact kk⟩
theorem r_lcmp {g h : Int64} (ht : tab pc = am_lcmp nx) (kk : am_X tab C Q (nx, ls, .int (lg_cmp g h) :: st, w, uc, us)) : am_X tab C Q (pc, ls, .long h :: .long g :: st, w, uc, us) := am_go ht ⟨g, h, st, rfl, kk⟩
theorem r_i2l {u : Int32} (ht : tab pc = am_i2l nx) (kk : am_X tab C Q (nx, ls, .long u.toInt64 :: st, w, uc, us)) : am_X tab C Q (pc, ls, .int u :: st, w, uc, us) := am_go ht ⟨u, st, rfl, kk⟩
theorem r_dup {u : Int32} (ht : tab pc = am_dup nx) (kk : am_X tab C Q (nx, ls, .int u :: .int u :: st, w, uc, us)) : am_X tab C Q (pc, ls, .int u :: st, w, uc, us) := am_go ht ⟨_, st, rfl, Or.inl ⟨u, rfl⟩, kk⟩
theorem r_dupr (ht : tab pc = am_dup nx) (kk : am_X tab C Q (nx, ls, .ref k :: .ref k :: st, w, uc, us)) : am_X tab C Q (pc, ls, .ref k :: st, w, uc, us) := am_go ht ⟨_, st, rfl, Or.inr ⟨k, rfl⟩, kk⟩
theorem r_pop {u : Int32} (ht : tab pc = am_pop nx) (kk : am_X tab C Q (nx, ls, st, w, uc, us)) : am_X tab C Q (pc, ls, .int u :: st, w, uc, us) := am_go ht ⟨u, st, rfl, kk⟩
theorem r_alen {q : List Nat} (ht : tab pc = am_alen nx) (hc : w.1[k]? = some (0, n, q)) (kk : am_X tab C Q (nx, ls, .int (iI n) :: st, w, uc, us)) : am_X tab C Q (pc, ls, .ref k :: st, w, uc, us) := am_go ht ⟨k, st, n, q, rfl, hc, by rw [iI_nat]; exact kk⟩
theorem r_slen (ht : tab pc = am_slen nx) (kk : am_X tab C Q (nx, ls, .int (iI w.2.2.2.1) :: st, w, uc, us)) : am_X tab C Q (pc, ls, .retAddr k :: st, w, uc, us) := am_go ht ⟨k, st, rfl, by rw [iI_nat]; exact kk⟩
theorem r_sald (ht : tab pc = am_sald nx) (h0 : 0 ≤ i) (h1 : i < w.2.2.2.1) (hn : w.2.2.2.1 ≤ 100000) (kk : am_X tab C Q (nx, ls, .int (w.2.2.2.2 i.toNat) :: st, w, uc, us)) : am_X tab C Q (pc, ls, .int (iI i) :: .retAddr k :: st, w, uc, us) :=
  am_go ht ⟨iI i, k, st, rfl, iI_in h0 h1 (by omega), by rw [iI_cl ⟨by omega, by omega⟩]; exact kk⟩
theorem r_geti {ci j : Nat} {q : List Nat} (ht : tab pc = am_geti nx ci j) (hc : w.1[k]? = some (ci + 4, n, q)) (hq : q[j]? = some 0) (hv : w.2.1 k j = iI v) (kk : am_X tab C Q (nx, ls, .int (iI v) :: st, w, uc, us)) : am_X tab C Q (pc, ls, .ref k :: st, w, uc, us) :=
  am_go ht ⟨k, st, n, q, rfl, hc, hq, by rw [hv]; exact kk⟩
theorem r_getr {ci j z : Nat} {q : List Nat} (ht : tab pc = am_getr nx ci j) (hc : w.1[k]? = some (ci + 4, n, q)) (hq : q[j]? = some (z + 2)) (kk : am_X tab C Q (nx, ls, .ref z :: st, w, uc, us)) : am_X tab C Q (pc, ls, .ref k :: st, w, uc, us) :=
  am_go ht ⟨k, st, n, q, z, rfl, hc, hq, kk⟩
theorem r_puti {ci j : Nat} {q : List Nat} {u : Int32} (ht : tab pc = am_puti nx ci j) (hc : w.1[k]? = some (ci + 4, n, q)) (hq : q[j]? = some 0) (kk : am_X tab C Q (nx, ls, st, (w.1, am_u2 w.2.1 k j u, w.2.2), uc, us)) : am_X tab C Q (pc, ls, .int u :: .ref k :: st, w, uc, us) :=
  am_go ht ⟨u, k, st, n, q, rfl, hc, hq, kk⟩
theorem r_max {mc ms : Nat} (ht : tab pc = am_max nx mc ms) (hr : (st.map fun v => v.category).sum ≤ 8) (h1 : uc ≤ mc) (h2 : us ≤ ms) (hx : iB x) (hy : iB y) (kk : am_X tab C Q (nx, ls, .int (iI (max x y)) :: st, w, uc, us)) : am_X tab C Q (pc, ls, .int (iI y) :: .int (iI x) :: st, w, uc, us) := by
  refine am_go ht ⟨iI x, iI y, st, rfl, hr, h1, h2, ?_⟩
  have e : (if iI x < iI y then iI y else iI x) = iI (max x y) := by
    by_cases h : x < y
    · rw [if_pos ((iI_lt hx hy).mpr h)]; congr 1; omega
    · rw [if_neg (fun q => h ((iI_lt hx hy).mp q))]; congr 1; omega
  rw [e]
  exact kk
theorem r_abs {mc ms : Nat} (ht : tab pc = am_abs nx mc ms) (hr : (st.map fun v => v.category).sum ≤ 8) (h1 : uc ≤ mc) (h2 : us ≤ ms) (hx : iB x) (kk : am_X tab C Q (nx, ls, .int (iI (max x (-x))) :: st, w, uc, us)) : am_X tab C Q (pc, ls, .int (iI x) :: st, w, uc, us) := by
  refine am_go ht ⟨iI x, st, rfl, hr, h1, h2, ?_⟩
  have e : (if 0 ≤ iI x then iI x else 0 - iI x) = iI (max x (-x)) := by
    rw [iI_0]
    by_cases h : 0 ≤ x
    · rw [if_pos ((iI_le iB0 hx).mpr h)]; congr 1; omega
    · rw [if_neg (fun q => h ((iI_le iB0 hx).mp q)), iI_sub]; congr 1; omega
  rw [e]
  exact kk
/-- an answer -/
def am_ret (u : Int32) (w : am_W) : am_Q := fun o w' => o = .inl (some (.int u)) ∧ w' = w
theorem r_iret {mc ms : Nat} {u : Int32} (ht : tab pc = am_iret mc ms) (h1 : uc ≤ mc) (h2 : us ≤ ms) (hq : Q (.inl (some (.int u))) w) : am_X tab C Q (pc, ls, [.int u], w, uc, us) := am_go ht ⟨u, rfl, h1, h2, hq⟩
theorem r_zret {mc ms : Nat} {u : Int32} (ht : tab pc = am_zret mc ms) (h1 : uc ≤ mc) (h2 : us ≤ ms) (h01 : u = 0 ∨ u = 1) (hq : Q (.inl (some (.int u))) w) : am_X tab C Q (pc, ls, [.int u], w, uc, us) := am_go ht ⟨u, rfl, h1, h2, h01, hq⟩
theorem r_vret {mc ms : Nat} (ht : tab pc = am_vret mc ms) (h1 : uc ≤ mc) (h2 : us ≤ ms) (hq : Q (.inl none) w) : am_X tab C Q (pc, ls, [], w, uc, us) := am_go ht ⟨rfl, h1, h2, hq⟩
theorem r_throw {E mc ms : Nat} (ht : tab pc = am_throw E mc ms) (hr : (st.map fun v => v.category).sum ≤ 8) (h1 : uc + 1 ≤ mc) (h2 : us + 6 ≤ ms) (hq : Q (.inr E) w) : am_X tab C Q (pc, ls, st, w, uc, us) := am_go ht ⟨hr, h1, h2, hq⟩
/-- a call -/
theorem r_call {mj na jc js mc ms : Nat} {as r : List Value} {Q' : am_Q} (ht : tab pc = am_inv nx mj na jc js mc ms) (hst : st = as.reverse ++ r) (hn : as.length = na) (hr : (r.map fun v => v.category).sum ≤ 8) (h1 : uc + jc ≤ mc) (h2 : us + js ≤ ms) (hc : C mj as w Q')
    (kk : ∀ v w', Q' (.inl v) w' → am_X tab C Q (nx, ls, v.toList ++ r, w', uc + jc, us + js)) (kx : ∀ E w', ¬ Q' (.inr E) w') : am_X tab C Q (pc, ls, st, w, uc, us) := am_go ht ⟨as, r, Q', hst, hn, hr, h1, h2, hc, kk, kx⟩
theorem r_callV {mj na ci jc js mc ms : Nat} {q : List Nat} {as r : List Value} {Q' : am_Q} (ht : tab pc = am_invV nx mj na ci jc js mc ms) (hst : st = as.reverse ++ .ref k :: r) (hn : as.length = na) (hk : w.1[k]? = some (ci + 4, n, q)) (hr : (r.map fun v => v.category).sum ≤ 8) (h1 : uc + jc ≤ mc) (h2 : us + js ≤ ms) (hc : C mj (.ref k :: as) w Q')
    (kk : ∀ v w', Q' (.inl v) w' → am_X tab C Q (nx, ls, v.toList ++ r, w', uc + jc, us + js)) (kx : ∀ E w', ¬ Q' (.inr E) w') : am_X tab C Q (pc, ls, st, w, uc, us) := am_go ht ⟨k, n, q, as, r, Q', hst, hn, hk, hr, h1, h2, hc, kk, kx⟩
/-- .. that returns a number -/
theorem r_calli {mj na jc js mc ms : Nat} {as r : List Value} {u : Int32} {w1 : am_W} (ht : tab pc = am_inv nx mj na jc js mc ms) (hst : st = as.reverse ++ r) (hn : as.length = na) (hr : (r.map fun v => v.category).sum ≤ 8) (h1 : uc + jc ≤ mc) (h2 : us + js ≤ ms) (hc : C mj as w (am_ret u w1))
    (kk : am_X tab C Q (nx, ls, .int u :: r, w1, uc + jc, us + js)) : am_X tab C Q (pc, ls, st, w, uc, us) := by
  refine r_call ht hst hn hr h1 h2 hc (fun v w' h => ?_) (fun E w' h => ?_)
  · obtain ⟨h3, h4⟩ := h
    cases h3
    subst h4
    exact kk
  · obtain ⟨h3, -⟩ := h
    cases h3
theorem r_callVi {mj na ci jc js mc ms : Nat} {q : List Nat} {as r : List Value} {u : Int32} {w1 : am_W} (ht : tab pc = am_invV nx mj na ci jc js mc ms) (hst : st = as.reverse ++ .ref k :: r) (hn : as.length = na) (hk : w.1[k]? = some (ci + 4, n, q)) (hr : (r.map fun v => v.category).sum ≤ 8) (h1 : uc + jc ≤ mc) (h2 : us + js ≤ ms) (hc : C mj (.ref k :: as) w (am_ret u w1))
    (kk : am_X tab C Q (nx, ls, .int u :: r, w1, uc + jc, us + js)) : am_X tab C Q (pc, ls, st, w, uc, us) := by
  refine r_callV ht hst hn hk hr h1 h2 hc (fun v w' h => ?_) (fun E w' h => ?_)
  · obtain ⟨h3, h4⟩ := h
    cases h3
    subst h4
    exact kk
  · obtain ⟨h3, -⟩ := h
    cases h3
theorem r_callX {mj na ci jc js mc ms : Nat} {q : List Nat} {as r : List Value} {Q' : am_Q} (ht : tab pc = am_invX nx mj na ci jc js mc ms) (hst : st = as.reverse ++ .ref k :: r) (hn : as.length = na) (hk : w.1[k]? = some (ci + 4, n, q)) (hr : (r.map fun v => v.category).sum ≤ 8) (h1 : uc + jc ≤ mc) (h2 : us + js ≤ ms) (hc : C mj (.ref k :: as) w Q')
    (kk : ∀ v w', Q' (.inl v) w' → am_X tab C Q (nx, ls, v.toList ++ r, w', uc + jc, us + js)) (kx : ∀ E w', Q' (.inr E) w' → Q (.inr E) w') : am_X tab C Q (pc, ls, st, w, uc, us) := am_go ht ⟨k, n, q, as, r, Q', hst, hn, hk, hr, h1, h2, hc, kk, kx⟩
theorem r_callH {mj na ci jc js mc ms : Nat} {hh : List (Nat × Nat)} {q : List Nat} {as r : List Value} {Q' : am_Q} (ht : tab pc = am_invH nx mj na ci jc js mc ms hh) (hst : st = as.reverse ++ .ref k :: r) (hn : as.length = na) (hk : w.1[k]? = some (ci + 4, n, q)) (hr : (r.map fun v => v.category).sum ≤ 8) (h1 : uc + jc ≤ mc) (h2 : us + js ≤ ms) (hc : C mj (.ref k :: as) w Q')
    (kk : ∀ v w', Q' (.inl v) w' → am_X tab C Q (nx, ls, v.toList ++ r, w', uc + jc, us + js)) (kx : ∀ E w', Q' (.inr E) w' → ∃ h, am_hand E hh = some h ∧ am_X tab C Q (h, ls, [.null], w', uc + jc, us + js)) : am_X tab C Q (pc, ls, st, w, uc, us) := am_go ht ⟨k, n, q, as, r, Q', hst, hn, hk, hr, h1, h2, hc, kk, kx⟩
end AMW
end
section
/-! The small machine's worlds and the true ones; each instruction of the small machine is sound. -/
section AMR
/-- a cell of the small machine and a true one -/
def am_E (ad : List Nat) (tys : List (ClassId × FieldType)) (I : Nat → Nat → Int32) (L : Nat → Nat → Int64) (k : Nat) (c : am_Cl) (e : va_E) : Prop := match c.1 with
  | 0 => ∃ (cA : ClassId) (t0 : Nat), e = .inl (cA, c.2.1, .inl (I k)) ∧ tys[t0]? = some (cA, .int)
  | 1 => ∃ (cA : ClassId) (t0 : Nat), e = .inl (cA, c.2.1, .inl (I k)) ∧ tys[t0]? = some (cA, .boolean)
  | 2 => ∃ (cA : ClassId) (t0 : Nat), e = .inl (cA, c.2.1, .inr (.inl (L k))) ∧ tys[t0]? = some (cA, .long)
  | 3 => ∃ (cA : ClassId) (t0 : Nat) (f : Nat → Option Nat), e = .inl (cA, c.2.1, .inr (.inr (.inr (.inr f)))) ∧ tys[t0]? = some (cA, .array .int) ∧ ∀ (j x : Nat), c.2.2[j]? = some x → ∃ a : Nat, ad[x]? = some a ∧ f j = some a
  | ci + 4 => ∃ fs : List Value, e = .inr (ci, fs) ∧ fs.length = c.2.2.length ∧ ∀ (j t : Nat), c.2.2[j]? = some t → ∃ v : Value, fs[j]? = some v ∧ (t = 0 → v = .int (I k j)) ∧ (t = 1 → v = .null) ∧ ∀ x : Nat, t = x + 2 → ∃ a : Nat, ad[x]? = some a ∧ v = .ref a
def am_R (w : am_W) (ws : va_W) (tys : List (ClassId × FieldType)) : Prop := w.1.length = ws.length ∧ ∀ (k : Nat) (c : am_Cl), w.1[k]? = some c → ∃ a e, ws[k]? = some (a, e) ∧ am_E (ws.map Prod.fst) tys w.2.1 w.2.2.1 k c e
/-- a value of the small machine and a true one, by the cells' addresses -/
def am_v (ad : List Nat) (bS : Nat) (v cv : Value) : Prop := match v with
  | .int x => cv = .int x
  | .long x => cv = .long x
  | .ref k => ∃ a : Nat, ad[k]? = some a ∧ cv = .ref a
  | .null => cv = .null ∨ ∃ q : Nat, cv = .ref q
  | .retAddr _ => cv = .ref bS
  | _ => False
def am_V (ad : List Nat) (bS : Nat) : List Value → List Value → Prop
  | [], [] => True
  | v :: r, c :: r' => am_v ad bS v c ∧ am_V ad bS r r'
  | _, _ => False
def am_L (ad : List Nat) (bS nL : Nat) (ls : List (Option Value)) (lc : Array Slot) : Prop := lc.size = nL ∧ lv_wf lc ∧ ∀ (i : Nat) (v : Value), ls[i]? = some (some v) → v.category = 1 ∧ ∃ cv : Value, lc[i]? = some (Slot.val cv) ∧ am_v ad bS v cv
theorem am_v_cat {ad : List Nat} {bS : Nat} {v cv : Value} (h : am_v ad bS v cv) : cv.category = v.category := by
  cases v with
  | int x => cases h; rfl
  | long x => cases h; rfl
  | ref k => obtain ⟨a, -, rfl⟩ := h; rfl
  | null => rcases h with rfl | ⟨q, rfl⟩ <;> rfl
  | retAddr k => cases h; rfl
  | float x => exact h.elim
  | double x => exact h.elim
theorem am_pre {ad ad' : List Nat} {k a : Nat} (hp : ad <+: ad') (h : ad[k]? = some a) : ad'[k]? = some a := by
  obtain ⟨t, rfl⟩ := hp
  rw [List.getElem?_append_left (List.getElem?_eq_some_iff.mp h).1]
  exact h
theorem am_v_mono {ad ad' : List Nat} {bS : Nat} {v cv : Value} (hp : ad <+: ad') (h : am_v ad bS v cv) : am_v ad' bS v cv := by
  cases v with
  | ref k => obtain ⟨a, h1, h2⟩ := h; exact ⟨a, am_pre hp h1, h2⟩
  | _ => exact h
theorem am_V_mono {ad ad' : List Nat} {bS : Nat} (hp : ad <+: ad') : ∀ {r r' : List Value}, am_V ad bS r r' → am_V ad' bS r r'
  | [], [], _ => trivial
  | _ :: _, _ :: _, h => ⟨am_v_mono hp h.1, am_V_mono hp h.2⟩
  | [], _ :: _, h => h.elim
  | _ :: _, [], h => h.elim
theorem am_L_mono {ad ad' : List Nat} {bS nL : Nat} {ls : List (Option Value)} {lc : Array Slot} (hp : ad <+: ad') (h : am_L ad bS nL ls lc) : am_L ad' bS nL ls lc :=
  ⟨h.1, h.2.1, fun i v hv => ⟨(h.2.2 i v hv).1, by obtain ⟨cv, h1, h2⟩ := (h.2.2 i v hv).2; exact ⟨cv, h1, am_v_mono hp h2⟩⟩⟩
theorem am_V_cons {ad : List Nat} {bS : Nat} {v : Value} {r st : List Value} (h : am_V ad bS (v :: r) st) : ∃ cv r', st = cv :: r' ∧ am_v ad bS v cv ∧ am_V ad bS r r' := by
  cases st with
  | nil => exact h.elim
  | cons c r' => exact ⟨c, r', rfl, h.1, h.2⟩
theorem am_V_nil {ad : List Nat} {bS : Nat} {st : List Value} (h : am_V ad bS [] st) : st = [] := by
  cases st with
  | nil => rfl
  | cons c r' => exact h.elim
theorem am_V_int {ad : List Nat} {bS : Nat} {x : Int32} {r st : List Value} (h : am_V ad bS (.int x :: r) st) : ∃ r', st = .int x :: r' ∧ am_V ad bS r r' := by
  obtain ⟨cv, r', rfl, h1, h2⟩ := am_V_cons h
  cases h1
  exact ⟨r', rfl, h2⟩
theorem am_V_long {ad : List Nat} {bS : Nat} {x : Int64} {r st : List Value} (h : am_V ad bS (.long x :: r) st) : ∃ r', st = .long x :: r' ∧ am_V ad bS r r' := by
  obtain ⟨cv, r', rfl, h1, h2⟩ := am_V_cons h
  cases h1
  exact ⟨r', rfl, h2⟩
theorem am_V_ref {ad : List Nat} {bS : Nat} {k : Nat} {r st : List Value} (h : am_V ad bS (.ref k :: r) st) : ∃ a r', st = .ref a :: r' ∧ ad[k]? = some a ∧ am_V ad bS r r' := by
  obtain ⟨cv, r', rfl, ⟨a, h1, rfl⟩, h2⟩ := am_V_cons h
  exact ⟨a, r', rfl, h1, h2⟩
theorem am_V_scr {ad : List Nat} {bS : Nat} {k : Nat} {r st : List Value} (h : am_V ad bS (.retAddr k :: r) st) : ∃ r', st = .ref bS :: r' ∧ am_V ad bS r r' := by
  obtain ⟨cv, r', rfl, h1, h2⟩ := am_V_cons h
  cases h1
  exact ⟨r', rfl, h2⟩
theorem am_V_cat {ad : List Nat} {bS : Nat} : ∀ {r r' : List Value}, am_V ad bS r r' → (r'.map fun v => v.category).sum = (r.map fun v => v.category).sum
  | [], [], _ => rfl
  | _ :: _, _ :: _, h => by
    simp only [List.map_cons, List.sum_cons]
    rw [am_v_cat h.1, am_V_cat h.2]
  | [], _ :: _, h => h.elim
  | _ :: _, [], h => h.elim
theorem am_V_len {ad : List Nat} {bS : Nat} : ∀ {r r' : List Value}, am_V ad bS r r' → r'.length = r.length
  | [], [], _ => rfl
  | _ :: _, _ :: _, h => by simp only [List.length_cons]; rw [am_V_len h.2]
  | [], _ :: _, h => h.elim
  | _ :: _, [], h => h.elim
theorem am_V_app {ad : List Nat} {bS : Nat} : ∀ {r q st : List Value}, am_V ad bS (r ++ q) st → ∃ r' q', st = r' ++ q' ∧ am_V ad bS r r' ∧ am_V ad bS q q'
  | [], q, st, h => ⟨[], st, rfl, trivial, h⟩
  | v :: r, q, st, h => by
    obtain ⟨cv, t, rfl, h1, h2⟩ := am_V_cons h
    obtain ⟨r', q', rfl, h3, h4⟩ := am_V_app h2
    exact ⟨cv :: r', q', rfl, ⟨h1, h3⟩, h4⟩
theorem am_V_join {ad : List Nat} {bS : Nat} : ∀ {r r' q q' : List Value}, am_V ad bS r r' → am_V ad bS q q' → am_V ad bS (r ++ q) (r' ++ q')
  | [], [], _, _, _, h => h
  | _ :: _, _ :: _, _, _, h, h' => ⟨h.1, am_V_join h.2 h'⟩
  | [], _ :: _, _, _, h, _ => h.elim
  | _ :: _, [], _, _, h, _ => h.elim
theorem am_V_rev {ad : List Nat} {bS : Nat} : ∀ {r r' : List Value}, am_V ad bS r r' → am_V ad bS r.reverse r'.reverse
  | [], [], _ => trivial
  | v :: r, c :: r', h => by
    rw [List.reverse_cons, List.reverse_cons]
    exact am_V_join (am_V_rev h.2) ⟨h.1, trivial⟩
  | [], _ :: _, h => h.elim
  | _ :: _, [], h => h.elim
/-- all that the locals hold, as a list -/
def am_all (lc : Array Slot) : List (Nat × Value) := (List.range lc.size).filterMap fun (j : Nat) => match lc[j]? with
  | some (Slot.val v) => if v.category = 1 then some (j, v) else none
  | _ => none
theorem am_all_mem {lc : Array Slot} {j : Nat} {v : Value} (h : lc[j]? = some (.val v)) (hc : v.category = 1) : (j, v) ∈ am_all lc := by
  refine List.mem_filterMap.mpr ⟨j, List.mem_range.mpr (Array.getElem?_eq_some_iff.mp h).1, ?_⟩
  rw [h]
  simp [hc]
theorem am_all_has {lc : Array Slot} {nL : Nat} (h1 : lc.size = nL) (h2 : lv_wf lc) : lv_has lc nL (am_all lc) := by
  refine ⟨h1, h2, fun q hq => ?_⟩
  obtain ⟨j, -, hj⟩ := List.mem_filterMap.mp hq
  cases hl : lc[j]? with
  | none => rw [hl] at hj; cases hj
  | some x =>
    rw [hl] at hj
    cases x with
    | unset => cases hj
    | second => cases hj
    | val v =>
      by_cases hc : v.category = 1
      · simp [hc] at hj
        rw [← hj]
        exact hl
      · simp [hc] at hj
theorem am_set_at : ∀ (ls : List (Option Value)) (i j : Nat) (v u : Value), (am_set ls i v)[j]? = some (some u) → (j = i ∧ u = v) ∨ (j ≠ i ∧ ls[j]? = some (some u))
  | [], 0, 0, v, u, h => by simp [am_set] at h; exact Or.inl ⟨rfl, h.symm⟩
  | [], 0, j + 1, v, u, h => by simp [am_set] at h
  | [], i + 1, 0, v, u, h => by simp [am_set] at h
  | [], i + 1, j + 1, v, u, h => by
    simp only [am_set, List.getElem?_cons_succ] at h
    rcases am_set_at [] i j v u h with ⟨h1, h2⟩ | ⟨h1, h2⟩
    · exact Or.inl ⟨by omega, h2⟩
    · simp at h2
  | x :: ls, 0, 0, v, u, h => by simp [am_set] at h; exact Or.inl ⟨rfl, h.symm⟩
  | x :: ls, 0, j + 1, v, u, h => by
    simp only [am_set, List.getElem?_cons_succ] at h
    exact Or.inr ⟨by omega, by simpa using h⟩
  | x :: ls, i + 1, 0, v, u, h => by
    simp only [am_set, List.getElem?_cons_zero] at h
    exact Or.inr ⟨by omega, by simpa using h⟩
  | x :: ls, i + 1, j + 1, v, u, h => by
    simp only [am_set, List.getElem?_cons_succ] at h
    rcases am_set_at ls i j v u h with ⟨h1, h2⟩ | ⟨h1, h2⟩
    · exact Or.inl ⟨by omega, h2⟩
    · exact Or.inr ⟨by omega, by simpa using h2⟩
/-- the locals behind a store -/
theorem am_L_set {ad : List Nat} {bS nL i : Nat} {ls : List (Option Value)} {lc lc' : Array Slot} {v cv : Value} (h : am_L ad bS nL ls lc) (hv : am_v ad bS v cv) (hc : v.category = 1)
    (h' : lv_has lc' nL ((i, cv) :: (am_all lc).filter (fun q => !(q.1 == i) && !(q.1 + 1 == i && q.2.category == 2)))) : am_L ad bS nL (am_set ls i v) lc' := by
  refine ⟨h'.1, h'.2.1, fun j u hu => ?_⟩
  rcases am_set_at ls i j v u hu with ⟨rfl, rfl⟩ | ⟨hj, hl⟩
  · exact ⟨hc, cv, h'.2.2 (j, cv) List.mem_cons_self, hv⟩
  · obtain ⟨h1, cu, h2, h3⟩ := h.2.2 j u hl
    refine ⟨h1, cu, h'.2.2 (j, cu) (List.mem_cons_of_mem _ (List.mem_filter.mpr ⟨am_all_mem h2 (by rw [am_v_cat h3]; exact h1), ?_⟩)), h3⟩
    have : cu.category = 1 := by rw [am_v_cat h3]; exact h1
    simp [hj, this]
theorem am_map_set {ws : va_W} {k a : Nat} {e0 e : va_E} (h : ws[k]? = some (a, e0)) : (ws.set k (a, e)).map Prod.fst = ws.map Prod.fst := by
  refine List.ext_getElem? fun j => ?_
  rw [List.getElem?_map, List.getElem?_map]
  by_cases hj : k = j
  · subst hj
    rw [List.getElem?_set_self (List.getElem?_eq_some_iff.mp h).1, h]
    rfl
  · rw [List.getElem?_set_ne hj]
theorem am_at {ws : va_W} {k a : Nat} {e : va_E} (h : ws[k]? = some (a, e)) : (ws.map Prod.fst)[k]? = some a := by
  rw [List.getElem?_map, h]; rfl
/-- a cell of the small machine, its true cell at that address -/
theorem am_R_at {w : am_W} {ws : va_W} {tys : List (ClassId × FieldType)} {k a : Nat} {c : am_Cl} (hR : am_R w ws tys) (hc : w.1[k]? = some c) (ha : (ws.map Prod.fst)[k]? = some a) : ∃ e, ws[k]? = some (a, e) ∧ am_E (ws.map Prod.fst) tys w.2.1 w.2.2.1 k c e := by
  obtain ⟨a', e, h1, h2⟩ := hR.2 k c hc
  cases Option.some.inj ((am_at h1).symm.trans ha)
  exact ⟨e, h1, h2⟩
theorem am_E_eq {ad : List Nat} {tys : List (ClassId × FieldType)} {I I' : Nat → Nat → Int32} {L L' : Nat → Nat → Int64} {k : Nat} {c : am_Cl} {e : va_E} (h : am_E ad tys I L k c e) (hI : I' k = I k) (hL : L' k = L k) : am_E ad tys I' L' k c e := by
  unfold am_E at h ⊢
  rw [hI, hL]
  exact h
/-- one cell is written -/
theorem am_R_set {w : am_W} {ws : va_W} {tys : List (ClassId × FieldType)} {k a : Nat} {c : am_Cl} {e0 e : va_E} {I' : Nat → Nat → Int32} {L' : Nat → Nat → Int64} (hR : am_R w ws tys) (hw : ws[k]? = some (a, e0)) (hc : w.1[k]? = some c)
    (he : am_E (ws.map Prod.fst) tys I' L' k c e) (hI : ∀ j, j ≠ k → I' j = w.2.1 j) (hL : ∀ j, j ≠ k → L' j = w.2.2.1 j) : am_R (w.1, I', L', w.2.2.2) (ws.set k (a, e)) tys := by
  refine ⟨by rw [List.length_set]; exact hR.1, fun j cj hj => ?_⟩
  rw [am_map_set hw]
  by_cases hjk : j = k
  · subst hjk
    cases Option.some.inj (hj.symm.trans hc)
    exact ⟨a, e, by rw [List.getElem?_set_self (List.getElem?_eq_some_iff.mp hw).1], he⟩
  · obtain ⟨a', e', h1, h2⟩ := hR.2 j cj hj
    exact ⟨a', e', by rw [List.getElem?_set_ne (Ne.symm hjk)]; exact h1, am_E_eq h2 (hI j hjk) (hL j hjk)⟩
theorem am_u2_self {α : Type} (f : Nat → Nat → α) (k j : Nat) (x : α) : am_u2 f k j x k = fun b => if b = j then x else f k b := by
  funext b; simp [am_u2]
theorem am_u2_ne {α : Type} {f : Nat → Nat → α} {k j : Nat} {x : α} {a : Nat} (h : a ≠ k) : am_u2 f k j x a = f a := by
  funext b; simp [am_u2, h]
theorem am_u1_self {α : Type} (f : Nat → Nat → α) (k : Nat) (g : Nat → α) : am_u1 f k g k = g := by
  funext b; simp [am_u1]
theorem am_u1_ne {α : Type} {f : Nat → Nat → α} {k : Nat} {g : Nat → α} {a : Nat} (h : a ≠ k) : am_u1 f k g a = f a := by
  funext b; simp [am_u1, h]
theorem am_E_mono {ad ad' : List Nat} {tys tys' : List (ClassId × FieldType)} {I I' : Nat → Nat → Int32} {L L' : Nat → Nat → Int64} {k : Nat} {c : am_Cl} {e : va_E} (hp : ad <+: ad') (ht : tys <+: tys') (h : am_E ad tys I L k c e) (hI : I' k = I k) (hL : L' k = L k) : am_E ad' tys' I' L' k c e := by
  have htt : ∀ {j : Nat} {q : ClassId × FieldType}, tys[j]? = some q → tys'[j]? = some q := by
    intro j q hj
    obtain ⟨t, rfl⟩ := ht
    rw [List.getElem?_append_left (List.getElem?_eq_some_iff.mp hj).1]
    exact hj
  obtain ⟨kd, n, q⟩ := c
  match kd, h with
  | 0, ⟨cA, t0, h1, h2⟩ => exact ⟨cA, t0, by rw [hI]; exact h1, htt h2⟩
  | 1, ⟨cA, t0, h1, h2⟩ => exact ⟨cA, t0, by rw [hI]; exact h1, htt h2⟩
  | 2, ⟨cA, t0, h1, h2⟩ => exact ⟨cA, t0, by rw [hL]; exact h1, htt h2⟩
  | 3, ⟨cA, t0, f, h1, h2, h3⟩ => exact ⟨cA, t0, f, h1, htt h2, fun j x hx => by obtain ⟨a, h4, h5⟩ := h3 j x hx; exact ⟨a, am_pre hp h4, h5⟩⟩
  | ci + 4, ⟨fs, h1, h2, h3⟩ =>
    refine ⟨fs, h1, h2, fun j t hj => ?_⟩
    obtain ⟨v, h4, h5, h6, h7⟩ := h3 j t hj
    exact ⟨v, h4, fun e9 => by rw [hI]; exact h5 e9, h6, fun x hx => by obtain ⟨a, h8, h9⟩ := h7 x hx; exact ⟨a, am_pre hp h8, h9⟩⟩
/-- one cell more -/
theorem am_R_push {w : am_W} {ws : va_W} {tys tys' : List (ClassId × FieldType)} {a : Nat} {c : am_Cl} {e : va_E} {I' : Nat → Nat → Int32} {L' : Nat → Nat → Int64} (hR : am_R w ws tys) (ht : tys <+: tys')
    (he : am_E ((ws ++ [(a, e)]).map Prod.fst) tys' I' L' w.1.length c e) (hI : ∀ j, j ≠ w.1.length → I' j = w.2.1 j) (hL : ∀ j, j ≠ w.1.length → L' j = w.2.2.1 j) : am_R (w.1 ++ [c], I', L', w.2.2.2) (ws ++ [(a, e)]) tys' := by
  refine ⟨by simp [hR.1], fun j cj hj => ?_⟩
  have hp : ws.map Prod.fst <+: (ws ++ [(a, e)]).map Prod.fst := by rw [List.map_append]; exact List.prefix_append _ _
  by_cases hl : j < w.1.length
  · dsimp only at hj
    rw [List.getElem?_append_left hl] at hj
    obtain ⟨a', e', h1, h2⟩ := hR.2 j cj hj
    exact ⟨a', e', by rw [List.getElem?_append_left (by rw [← hR.1]; exact hl)]; exact h1, am_E_mono hp ht h2 (hI j (by omega)) (hL j (by omega))⟩
  · dsimp only at hj
    rw [List.getElem?_append_right (by omega)] at hj
    have hz : j - w.1.length < 1 := (List.getElem?_eq_some_iff.mp hj).1
    have hj0 : j = w.1.length := by omega
    subst hj0
    rw [Nat.sub_self] at hj
    cases hj
    exact ⟨a, e, by rw [hR.1, List.getElem?_append_right (Nat.le_refl _), Nat.sub_self]; rfl, he⟩
/-- an object's place gets a cell -/
theorem am_R_setr {w : am_W} {ws : va_W} {tys : List (ClassId × FieldType)} {k a ci n j x ax : Nat} {q : List Nat} {fs : List Value} (hR : am_R w ws tys) (hw : ws[k]? = some (a, .inr (ci, fs))) (hc : w.1[k]? = some (ci + 4, n, q)) (hj : q[j]? = some 1) (hx : (ws.map Prod.fst)[x]? = some ax) :
    am_R (w.1.set k (ci + 4, n, q.set j (x + 2)), w.2) (ws.set k (a, .inr (ci, fs.set j (.ref ax)))) tys := by
  have hjl : j < q.length := (List.getElem?_eq_some_iff.mp hj).1
  have hkl : k < w.1.length := (List.getElem?_eq_some_iff.mp hc).1
  refine ⟨by rw [List.length_set, List.length_set]; exact hR.1, fun i ck hi => ?_⟩
  rw [am_map_set hw]
  by_cases hik : i = k
  · subst hik
    dsimp only at hi
    rw [List.getElem?_set_self hkl] at hi
    cases hi
    obtain ⟨a', e', h1, h2⟩ := hR.2 i _ hc
    cases Option.some.inj (h1.symm.trans hw)
    obtain ⟨fs', h3, h4, h5⟩ := h2
    cases h3
    refine ⟨a, _, by rw [List.getElem?_set_self (List.getElem?_eq_some_iff.mp hw).1], fs.set j (.ref ax), rfl, by simp [h4], fun i t hi => ?_⟩
    dsimp only at hi h4
    by_cases hij : i = j
    · subst hij
      rw [List.getElem?_set_self hjl] at hi
      cases hi
      refine ⟨.ref ax, by rw [List.getElem?_set_self (by rw [h4]; exact hjl)], fun e9 => by omega, fun e9 => by omega, fun y hy => ?_⟩
      have : y = x := by omega
      subst this
      exact ⟨ax, hx, rfl⟩
    · rw [List.getElem?_set_ne (Ne.symm hij)] at hi ⊢
      exact h5 i t hi
  · dsimp only at hi
    rw [List.getElem?_set_ne (Ne.symm hik)] at hi
    obtain ⟨a', e', h1, h2⟩ := hR.2 i ck hi
    exact ⟨a', e', by rw [List.getElem?_set_ne (Ne.symm hik)]; exact h1, h2⟩
end AMR
end
section
/-! methods that return or throw: their contracts, their calls (by the library's Steps.callFree), throw new E() (by the library's Stand.ctorThrow0), catching (by the library's Stand.thenCaughtThrough) -/
section AXA
/-- a method's end: Po of its outcome; the tables; what is new; what was written -/
def ax_E (Po : Array Value → State → Outcome → State → Prop) (mc ms : Nat) (free : Addr → Prop) : Array Value → State → Outcome → State → Prop := fun a st o t =>
  Po a st o t ∧ st.WarmedH t.vm ∧ ∃ L : List Loc, st.sameButNew ({ t with vm := st.vm } : State) L mc ms ∧ ∀ q ∈ L, free q.base
def ax_Met (l : Launch) (y : MethodName) (ws : List Cond) (rm : Room) (Pc : Array Value → State → Prop) (Po : Array Value → State → Outcome → State → Prop) (mc ms : Nat) (free : Addr → Prop) : Prop :=
  MetFree l y (headSpec ws rm) Pc (fun _ _ _ _ _ => True) (ax_E Po mc ms free)
def ax_MQ (below : List Frame) (Po : Array Value → State → Outcome → State → Prop) (a : Array Value) (s : State) (mc ms : Nat) (free : Addr → Prop) : State → Prop := fun t =>
  ∃ o, t.status = .running ∧ Ended t below o ∧ ax_E Po mc ms free a s o t
theorem ax_ofW {l : Launch} {y : MethodName} {ws ws' : List Cond} {rm : Room} {Pc : Array Value → State → Prop} {Po : Array Value → State → Outcome → State → Prop} {mc ms : Nat} {free : Addr → Prop} {cc : ByteArray} {maxL : Nat} {ret : Option FieldType}
    (hy : plainName y.cls = true) (hw : ws = Cond.code y cc maxL ret :: ws')
    (body : ∀ p e s m args below meth c s₁, BodyLoose p l y (headSpec ws rm) cc maxL ret e s m args below meth c s₁ → c.maxLocals = maxL → c.exceptionTable.toList = [] → Pc args s →
      W p l e (headSpec ws rm).room s m args below meth c s.heap [] 0 0 (ax_MQ below Po args s mc ms free) (entryFrame m args maxL)) : ax_Met l y ws rm Pc Po mc ms free := by
  have hin : Cond.code y cc maxL ret ∈ ws := by rw [hw]; exact List.mem_cons_self
  refine MetFree.of_bodyS (code := cc) (maxLocals := maxL) (ret := ret) hy (fun args s m h hn => ?_) (fun p e s m args below meth c s₁ B hml hP _ => ?_)
  · obtain ⟨meth, c, h1, h2, h3, h4, h5, h6, -⟩ := Cond.code_spec hn (atoms_spec (ws := ws) h _ hin)
    exact ⟨meth, c, h1, h2, h3, h4, h5, h6⟩
  · have ht := B.noHandlers (atoms_spec (ws := ws) B.pre _ hin)
    have hs : s₁.heap = s.heap := by rw [B.state]; rfl
    obtain ⟨t, a1, o, b1, b2, b3⟩ := body p e s m args below meth c s₁ B hml (by rw [Array.isEmpty_iff.mp ht]) hP s₁ hs (Stand.of_body B)
    exact ⟨t, o, a1, b1, b2, b3⟩
theorem ax_ofWH {l : Launch} {y : MethodName} {ws ws' : List Cond} {rm : Room} {Pc : Array Value → State → Prop} {Po : Array Value → State → Outcome → State → Prop} {mc ms : Nat} {free : Addr → Prop} {cc : ByteArray} {maxL : Nat} {ret : Option FieldType} {hh : List (Nat × Nat × Nat × Nat)}
    (hy : plainName y.cls = true) (hw : ws = Cond.codeWith y cc maxL ret hh :: ws')
    (body : ∀ p e s m args below meth c s₁, BodyLoose p l y (headSpec ws rm) cc maxL ret e s m args below meth c s₁ → c.maxLocals = maxL → c.exceptionTable.toList = tableOf hh → Pc args s →
      W p l e (headSpec ws rm).room s m args below meth c s.heap [] 0 0 (ax_MQ below Po args s mc ms free) (entryFrame m args maxL)) : ax_Met l y ws rm Pc Po mc ms free := by
  have hin : Cond.codeWith y cc maxL ret hh ∈ ws := by rw [hw]; exact List.mem_cons_self
  refine MetFree.of_bodyS (code := cc) (maxLocals := maxL) (ret := ret) hy (fun args s m h hn => ?_) (fun p e s m args below meth c s₁ B hml hP _ => ?_)
  · obtain ⟨m9, meth, c, hn9, h1, h2, h3, h4, -, h5, h6, -⟩ := Cond.codeWith_spec (atoms_spec (ws := ws) h _ hin)
    cases hn.symm.trans hn9
    exact ⟨meth, c, h1, h2, h3, h4, h5, h6⟩
  · have ht : c.exceptionTable.toList = tableOf hh := by
      obtain ⟨m9, meth9, c9, hn9, h1, h2, -, -, h6, -⟩ := Cond.codeWith_spec (atoms_spec (ws := ws) B.pre _ hin)
      cases hn9.symm.trans B.named
      cases h1.symm.trans B.method
      cases h2.symm.trans (Stand.of_body B).code
      rw [← h6, table_eq]
    have hs : s₁.heap = s.heap := by rw [B.state]; rfl
    obtain ⟨t, a1, o, b1, b2, b3⟩ := body p e s m args below meth c s₁ B hml ht hP s₁ hs (Stand.of_body B)
    exact ⟨t, o, a1, b1, b2, b3⟩
section AXB
variable {p : Program} {l : Launch} {e : Env} {R : Room} {s : State} {m : MethodId} {args : Array Value} {below : List Frame} {meth : Method} {c : Code} {H : Heap} {locs : List Loc} {cells slots : Nat} {Po : Array Value → State → Outcome → State → Prop} {free : Addr → Prop} {mc ms : Nat}
/-- a return -/
theorem ax_ret {g : JFrame} (k : W p l e R s m args below meth c H locs cells slots (MQ below Po args s mc ms free) g) : W p l e R s m args below meth c H locs cells slots (ax_MQ below Po args s mc ms free) g := by
  intro T hT X
  obtain ⟨t, a1, o, b1, b2, b3, L, ⟨-, h1, h2⟩, h3⟩ := k T hT X
  exact ⟨t, a1, o, b1, b2, b3, h1, L, h2, h3⟩
theorem W.imp {Q Q' : State → Prop} {g : JFrame} (h : ∀ t, Q t → Q' t) (k : W p l e R s m args below meth c H locs cells slots Q g) : W p l e R s m args below meth c H locs cells slots Q' g := by
  intro T hT X
  obtain ⟨t, a1, b1⟩ := k T hT X
  exact ⟨t, a1, h t b1⟩
/-- a method that returns or throws is entered: how the caller stands behind it -/
theorem ax_into {y : MethodName} {ws : List Cond} {rm : Room} {Pc : Array Value → State → Prop} {bytes : ByteArray} {maxL len : Nat} {ret : Option FieldType} {U : State} {g : JFrame} {ig : Instr} {mk : MethodId} {a : Array Value}
    (hM : ax_Met l y ws rm Pc Po mc ms free) (X : Stand p l e R s m args below meth c U locs cells slots) (hg : g.method = m) (hsize : g.locals.size = c.maxLocals) (hdg : decode c.code g.pc = .ok (ig, len)) (hn : U.methodNamed? y = some mk)
    (hW : 2 * g.monitorRoom + (g.stack.map fun v => v.category).sum ≤ 8) (hfr : rm.frames + 1 ≤ R.frames) (hlo : 8 + (maxL + 11) + rm.locals ≤ R.locals) (hce : cells + rm.cells ≤ R.cells) (hsl : slots + rm.slots ≤ R.slots)
    (hpre : ∀ w ∈ ws, w.before a U = true) (hcode : (Cond.code y bytes maxL ret).before a U = true) (hini : (Cond.initialized y.cls).before a U = true) (hP : Pc a (U.calling g mk a)) :
    ∃ (o : Outcome) (t : State) (L : List Loc), Po a (U.calling g mk a) o t ∧ (∀ q ∈ L, free q.base) ∧ Stand p l e R s m args below meth c (({ U with heap := t.heap, slotsUsed := t.slotsUsed } : State).setVm t.vm) (locs ++ L) (cells + mc) (slots + ms) ∧
      ((∃ v, o = .returned v ∧ Steps p.tables e below (doInvoke e (U.setTop g) [] mk a).1 ((({ U with heap := t.heap, slotsUsed := t.slotsUsed } : State).setVm t.vm).setTop { g with pc := g.pc + len, stack := v.toList ++ g.stack })) ∨
       (∃ q, o = .threw q ∧ Steps p.tables e below (doInvoke e (U.setTop g) [] mk a).1 (((({ U with heap := t.heap, slotsUsed := t.slotsUsed } : State).setVm t.vm).setTop g).pushFrame (.throwing q)))) := by
  subst hg
  have h := X.here
  obtain ⟨methY, cY, hmY, hcY, -, hlY, -⟩ := Cond.code_spec hn hcode
  obtain ⟨kY, hkY, -⟩ := className_of_methodNamed hn
  have hroom := X.room_calling (g := g) (R' := (headSpec ws rm).room) (args' := a) hsize hmY hcY hfr (by rw [hlY]; show _ + _ + rm.locals ≤ _; omega) hce hsl
  have happ : (headSpec ws rm).appliesLoose y e.platform (U.calling g mk a) = true := Spec.appliesLoose_calling (g := g) h hdg hn hkY (Cond.initialized_spec (findClass_of_methodNamed hn) hkY hini) hroom (atoms_intro hpre)
  obtain ⟨mid, hmid⟩ := h.above
  obtain ⟨o, t, hsteps, -, hend, hq⟩ := Steps.callFree hM p X.admits X.cas X.clock (s := U.setTop g) (acts := []) (mid := .java g :: mid) (below := below) (by rw [State.frames_setTop' g h.top, hmid]; rfl) happ hP trivial
  obtain ⟨hpo, hWt, L, hsame, hL⟩ := (show ax_E Po mc ms free a (U.calling g mk a) o t from hq)
  rw [State.frames_setTop' g h.top] at hend
  obtain ⟨g₀, hg0⟩ := Option.isSome_iff_exists.mp h.top
  obtain ⟨r, hr⟩ := State.topJava?_eq_some.mp hg0
  obtain ⟨e2, q2⟩ := id hsame
  obtain ⟨V, hV⟩ : ∃ V, V = ({ U with heap := t.heap, slotsUsed := t.slotsUsed } : State).setVm t.vm := ⟨_, rfl⟩
  have hVf : V.frames = .java g₀ :: r := by rw [hV]; exact hr
  have ht : t = V.setFrames t.frames := by
    have e3 : t = ({ t with vm := (U.calling g mk a).vm } : State).setVm t.vm := rfl
    rw [e2, State.calling_eq h.top] at e3
    refine e3.trans ?_
    rw [State.setFrames_setFrames, hV]
    rfl
  have hsameU : U.sameButNew ({ U with heap := t.heap, slotsUsed := t.slotsUsed } : State) L mc ms := by
    refine ⟨?_, q2⟩
    obtain ⟨th, hth, -⟩ := State.frames_cons hr
    show ({ U with heap := t.heap, slotsUsed := t.slotsUsed } : State) = { U.setFrames U.frames with heap := t.heap, slotsUsed := t.slotsUsed }
    rw [State.setFrames_self hth]
  have hWU : U.WarmedH t.vm := hWt
  refine ⟨o, t, L, hpo, hL, ?_, ?_⟩
  · exact ⟨X.admits, X.cas, X.clock, X.frames, X.room, X.hears, X.method, X.code, (X.here.setHeapUsed t.heap t.slotsUsed).setVm hWU.alike, X.tail, State.WarmedH.trans X.warmed hWU, X.limits, X.bytes, X.same.trans (hsameU.setVm s.vm)⟩
  · rw [← hV]
    cases o with
    | returned v =>
      refine Or.inl ⟨v, rfl, ?_⟩
      obtain ⟨c₂, i₂, len₂, hc₂, hd₂, hf₂⟩ := hend
      have hcc : c₂ = c := by
        have h1 : t.code? g.method = U.code? g.method := by rw [State.code?_eq, State.code?_eq, hWU.alike.method?]
        exact Option.some.inj (hc₂.symm.trans (h1.trans h.code))
      subst hcc
      have hlen : len₂ = len := by rw [hdg] at hd₂; cases hd₂; rfl
      subst hlen
      have e9 : V.setTop { g with pc := g.pc + len₂, stack := v.toList ++ g.stack } = t := by
        rw [State.setTop_of_frames _ hVf]
        refine Eq.trans ?_ ht.symm
        rw [hf₂, hr]
        rfl
      rw [e9]
      exact hsteps
    | threw q =>
      refine Or.inr ⟨q, rfl, ?_⟩
      have hf₂ : t.frames = .throwing q :: .java g :: U.frames.tail := hend
      have e9 : (V.setTop g).pushFrame (.throwing q) = t := by
        rw [State.pushFrame, State.frames_setTop _ hVf, State.setTop_of_frames _ hVf, State.setFrames_setFrames]
        refine Eq.trans ?_ ht.symm
        rw [hf₂, hr]
        rfl
      rw [e9]
      exact hsteps
end AXB
end AXA
end
section
/-! the tables' words at every state that comes out of the law's start -/
section AMD
/-- U comes out of s0: the tables warmed, no statics written -/
def am_Root (s0 U : State) : Prop := s0.WarmedH U.vm ∧ ∀ (a : Nat) (cell : Cell), s0.heap[a]? = some cell → cell.vm.isStatics = true → U.heap[a]? = some cell
def am_mv2 : Cond → Bool
  | .methodLinkNest .. => true
  | .laysStatic .. => true
  | .not (.castable ..) => true
  | .arrayOver (.array _) => true
  | _ => false
/-- a word that stays -/
def am_mv (w : Cond) : Bool := goodWord w || (w.faceAtom || am_mv2 w)
theorem am_lays {s0 U : State} {a a' : Array Value} (h : am_Root s0 U) {C n d : String} (hb : (Cond.laysStatic C n d).before a s0 = true) : (Cond.laysStatic C n d).before a' U = true := by
  obtain ⟨c, k, i, f, ad, cell, h1, h2, h3, h4, h5, h6, h7, h8, h9⟩ := Cond.laysStatic_spec hb
  obtain ⟨k', hi', he⟩ := State.fieldFound?_setVm h.1.alike h2
  exact Cond.laysStatic_of (s := U) (by rw [h.1.alike.findClass]; exact h1) hi' h3 (by rw [he]; exact h4) (h.2 _ _ h5 h6) h6 h7 h8 (by rw [he]; exact h9)
theorem am_isref {s0 U : State} {a a' : Array Value} (h : am_Root s0 U) {C n d : String} (hl : (Cond.laysStatic C n d).before a s0 = true) (hb : (Cond.isRef (.static C n d)).before a s0 = true) : (Cond.isRef (.static C n d)).before a' U = true := by
  obtain ⟨c, k, i, f, ad, cell, h1, h2, h3, h4, h5, h6, h7, h8, h9⟩ := Cond.laysStatic_spec hl
  obtain ⟨k', hi', he⟩ := State.fieldFound?_setVm h.1.alike h2
  obtain ⟨u, hu⟩ := Cond.staticRefV h2 h3 h4 h5 h6 hb
  have hi2 : U.fieldFound? C n d = some (c, k', i, f) := hi'
  have e1 : (Term.static C n d).eval a' U none [] U = some u.v := by
    simp [Term.eval, State.fieldNamed?, hi2, h3, show k'.statics = some ad by rw [he]; exact h4, h.2 _ _ h5 h6, h6, hu]
  simp only [Cond.before, Cond.holds, Cond.value, e1]
  obtain ⟨v, hv⟩ := u
  cases v <;> first | rfl | (exact absurd hv (by decide)) | (simp [Value.isRef] at hv)
theorem am_moved2 {s0 U : State} {a a' : Array Value} (h : am_Root s0 U) (w : Cond) (hw : am_mv2 w = true) (hb : w.before a s0 = true) : w.before a' U = true := by
  cases w with
  | methodLinkNest x i y z => exact va_Nw.use rfl (va_Nw.warmM h.1 (va_Nw.of rfl hb))
  | laysStatic x y z => exact am_lays h hb
  | not c =>
    cases c with
    | castable x y => exact Cond.castAtom_setVm h.1.alike (.not (.castable x y)) rfl hb
    | _ => cases hw
  | arrayOver t =>
    cases t with
    | array t => exact arrayOver_alikeB h.1.alike hb
    | _ => cases hw
  | _ => cases hw
theorem am_face {w : Cond} (hw : w.faceAtom = true) : w.onTables = true := by
  cases w <;> first | rfl | cases hw
theorem am_moved {s0 U : State} {a a' : Array Value} (h : am_Root s0 U) (w : Cond) (hw : am_mv w = true) (hb : w.before a s0 = true) : w.before a' U = true := by
  unfold am_mv at hw
  rcases Bool.or_eq_true_iff.mp hw with hw | hw
  · exact word_at h.1 (good_of_word hw) hb
  · rcases Bool.or_eq_true_iff.mp hw with hw | hw
    · exact va_tabs (am_face hw) (rfl : (s0.setVm U.vm).vm = U.vm) (Cond.faceAtom_setVm h.1.alike _ hw hb)
    · exact am_moved2 h w hw hb
theorem am_Root.refl (s : State) : am_Root s s := ⟨State.WarmedH.refl s, fun _ _ h _ => h⟩
theorem am_Root.step {s0 s U : State} (h : am_Root s0 s) (hW : s.WarmedH U.vm) (hk : ∀ (a : Nat) (cell : Cell), s.heap[a]? = some cell → cell.vm.isStatics = true → U.heap[a]? = some cell) : am_Root s0 U :=
  ⟨State.WarmedH.trans h.1 hW, fun a cell h1 h2 => hk a cell (h.2 a cell h1 h2) h2⟩
/-- an object or array of the world isn't a class's statics -/
theorem am_nostat {D : va_G} {cl : List vw_C} {ws : va_W} {H : Heap} (hP : va_P D cl ws H) {q : Nat} {cell : Cell} (h : H[q]? = some cell) (hs : cell.vm.isStatics = true) : ¬ va_A ws H.size q := by
  intro hA
  rcases hA with ⟨k, e, hk⟩ | hA
  · have h1 := hP k _ hk
    cases e with
    | inl x =>
      have h2 : H[q]? = some (vp_cell x.1 x.2) := h1
      cases Option.some.inj (h2.symm.trans h)
      obtain ⟨c, n, f | f | f | f | f⟩ := x <;> cases hs
    | inr o =>
      obtain ⟨r, -, c9, g1, g2, g3, -⟩ := h1
      cases Option.some.inj (g1.symm.trans h)
      rw [g3] at hs
      cases hs
  · have := (Array.getElem?_eq_some_iff.mp h).1
    omega
end AMD
end
section
/-! each instruction of the small machine is sound -/
section AMG
/-- the world at a method's end -/
def am_End (D : va_G) (cl : List vw_C) (A : Nat → Prop) (bS : Nat) (ad0 : List Nat) (w : am_W) (ws : va_W) (tys : List (ClassId × FieldType)) (st t : State) : Prop :=
  am_R w ws tys ∧ va_P D cl ws t.heap ∧ va_K D cl tys t ∧ va_D A ws ∧ ad0 <+: ws.map Prod.fst ∧ va_X bS w.2.2.2.1 w.2.2.2.2 t t.heap ∧ va_F A st t
/-- a method's end, by the small machine's words -/
def am_Po (ex : Nat → String) (D : va_G) (cl : List vw_C) (A : Nat → Prop) (bS : Nat) (ad0 : List Nat) (Q : am_Q) : Array Value → State → Outcome → State → Prop := fun _ st o t =>
  ∃ (w : am_W) (ws : va_W) (tys : List (ClassId × FieldType)), am_End D cl A bS ad0 w ws tys st t ∧
    ((∃ v cv : Option Value, o = .returned cv ∧ am_V (ws.map Prod.fst) bS v.toList cv.toList ∧ Q (.inl v) w) ∨
     (∃ (n : Nat) (q : Addr) (ce : Cell), o = .threw q ∧ Q (.inr n) w ∧ t.heap[q]? = some ce ∧ ce.vm = .none ∧ t.vm.findClass (ex n) = some ce.cls))
variable {p : Program} {l : Launch} {e : Env} {R : Room} {s : State} {m : MethodId} {args : Array Value} {below : List Frame} {meth : Method} {c : Code}
/-- the true machine goes well from each state that the small one's state pictures -/
def am_Good (p : Program) (l : Launch) (e : Env) (R : Room) (s : State) (m : MethodId) (args : Array Value) (below : List Frame) (meth : Method) (c : Code) (ex : Nat → String) (D : va_G) (cl : List vw_C) (A : Nat → Prop) (bS : Nat) (ad0 : List Nat) (nL mc ms : Nat) (Q : am_Q) (σ : am_S) : Prop :=
  ∀ (H : Heap) (locs : List Loc) (ws : va_W) (tys : List (ClassId × FieldType)) (lc : Array Slot) (sc : List Value), am_R σ.2.2.2.1 ws tys → va_P D cl ws H → va_K D cl tys s → va_D A ws → va_S A s.heap H locs → ad0 <+: ws.map Prod.fst →
    am_L (ws.map Prod.fst) bS nL σ.2.1 lc → am_V (ws.map Prod.fst) bS σ.2.2.1 sc → va_X bS σ.2.2.2.1.2.2.2.1 σ.2.2.2.1.2.2.2.2 s s.heap →
    W p l e R s m args below meth c H locs σ.2.2.2.2.1 σ.2.2.2.2.2 (ax_MQ below (am_Po ex D cl A bS ad0 Q) args s mc ms A) (F0 m σ.1 lc sc)
variable {ex : Nat → String} {D : va_G} {cl : List vw_C} {A : Nat → Prop} {bS : Nat} {ad0 : List Nat} {nL mc ms : Nat} {Q : am_Q} {C : am_C} {cc : ByteArray} {pc nx : Nat}
def am_Snd (G : am_S → Prop) (C : am_C) (Q : am_Q) (pc : Nat) (f : am_Sem) : Prop := ∀ (Z : am_S → Prop) (ls : List (Option Value)) (st : List Value) (w : am_W) (uc us : Nat), (∀ τ, Z τ → G τ) → f C Q Z ls st w uc us → G (pc, ls, st, w, uc, us)
theorem am_end {H : Heap} {locs : List Loc} {w : am_W} {ws : va_W} {tys : List (ClassId × FieldType)} {t : State} (hb1 : bS < s.heap.size) (hb2 : ¬ A bS) (hR : am_R w ws tys) (hP : va_P D cl ws H) (hK : va_K D cl tys s) (hD : va_D A ws) (hS : va_S A s.heap H locs) (ha : ad0 <+: ws.map Prod.fst) (hX : va_X bS w.2.2.2.1 w.2.2.2.2 s s.heap) (ht : t.heap = H) (hvm : s.vm.Alike t.vm) : am_End D cl A bS ad0 w ws tys s t :=
  ⟨hR, by rw [ht]; exact hP, va_K.moved hvm hK, hD, ha, (va_X.moved hvm hX).kept (by rw [ht]; exact hS.2.1 bS hb1 hb2), hS.F ht⟩
theorem ok_halt {G : am_S → Prop} : am_Snd G C Q pc am_halt := fun _ _ _ _ _ _ _ h => h.elim
theorem ok_iconst {n : Int} {v : Int32} (hx : p.tables.exec = Jvm.exec) (hb : c.code = cc) (hd : decode cc pc = .ok (.iconst n, 1)) (hv : Int32.ofInt n = v) : am_Snd (am_Good p l e R s m args below meth c ex D cl A bS ad0 nL mc ms Q) C Q pc (am_push (pc + 1) v) := by
  intro Z ls st w uc us hZ h H locs ws tys lc sc hR hP hK hD hS ha hl hs hX
  exact lv_iconst hx hb hd hv (hZ _ h H locs ws tys lc _ hR hP hK hD hS ha hl ⟨rfl, hs⟩ hX)
theorem ok_bipush {n : Int} {v : Int32} (hx : p.tables.exec = Jvm.exec) (hb : c.code = cc) (hd : decode cc pc = .ok (.bipush n, 2)) (hv : (Int8.ofInt n).toInt32 = v) : am_Snd (am_Good p l e R s m args below meth c ex D cl A bS ad0 nL mc ms Q) C Q pc (am_push (pc + 2) v) := by
  intro Z ls st w uc us hZ h H locs ws tys lc sc hR hP hK hD hS ha hl hs hX
  exact lv_bipush hx hb hd hv (hZ _ h H locs ws tys lc _ hR hP hK hD hS ha hl ⟨rfl, hs⟩ hX)
theorem ok_sipush {n : Int} {v : Int32} (hx : p.tables.exec = Jvm.exec) (hb : c.code = cc) (hd : decode cc pc = .ok (.sipush n, 3)) (hv : (Int16.ofInt n).toInt32 = v) : am_Snd (am_Good p l e R s m args below meth c ex D cl A bS ad0 nL mc ms Q) C Q pc (am_push (pc + 3) v) := by
  intro Z ls st w uc us hZ h H locs ws tys lc sc hR hP hK hD hS ha hl hs hX
  exact lv_sipush hx hb hd hv (hZ _ h H locs ws tys lc _ hR hP hK hD hS ha hl ⟨rfl, hs⟩ hX)
theorem ok_lconst {n : Fin 2} {v : Int64} (hx : p.tables.exec = Jvm.exec) (hb : c.code = cc) (hd : decode cc pc = .ok (.lconst n, 1)) (hv : Int64.ofNat (n : Nat) = v) : am_Snd (am_Good p l e R s m args below meth c ex D cl A bS ad0 nL mc ms Q) C Q pc (am_lpush (pc + 1) v) := by
  intro Z ls st w uc us hZ h H locs ws tys lc sc hR hP hK hD hS ha hl hs hX
  exact lv_lconst hx hb hd hv (hZ _ h H locs ws tys lc _ hR hP hK hD hS ha hl ⟨rfl, hs⟩ hX)
theorem ok_iload_n {k : Fin 4} {a : Nat} (hx : p.tables.exec = Jvm.exec) (hb : c.code = cc) (hd : decode cc pc = .ok (.iload_n k, 1)) (hk : (k : Nat) = a) : am_Snd (am_Good p l e R s m args below meth c ex D cl A bS ad0 nL mc ms Q) C Q pc (am_iload (pc + 1) a) := by
  rintro Z ls st w uc us hZ ⟨x, hx1, h⟩ H locs ws tys lc sc hR hP hK hD hS ha hl hs hX
  obtain ⟨-, cv, h2, h3⟩ := hl.2.2 a _ hx1
  cases h3
  exact lv_iload_n hx hb hd hk h2 (hZ _ h H locs ws tys lc _ hR hP hK hD hS ha hl ⟨rfl, hs⟩ hX)
theorem ok_iload {a : Nat} (hx : p.tables.exec = Jvm.exec) (hb : c.code = cc) (hd : decode cc pc = .ok (.iload a, 2)) : am_Snd (am_Good p l e R s m args below meth c ex D cl A bS ad0 nL mc ms Q) C Q pc (am_iload (pc + 2) a) := by
  rintro Z ls st w uc us hZ ⟨x, hx1, h⟩ H locs ws tys lc sc hR hP hK hD hS ha hl hs hX
  obtain ⟨-, cv, h2, h3⟩ := hl.2.2 a _ hx1
  cases h3
  exact lv_iload hx hb hd h2 (hZ _ h H locs ws tys lc _ hR hP hK hD hS ha hl ⟨rfl, hs⟩ hX)
theorem ok_aload_n {k : Fin 4} {a : Nat} (hx : p.tables.exec = Jvm.exec) (hb : c.code = cc) (hd : decode cc pc = .ok (.aload_n k, 1)) (hk : (k : Nat) = a) : am_Snd (am_Good p l e R s m args below meth c ex D cl A bS ad0 nL mc ms Q) C Q pc (am_aload (pc + 1) a) := by
  rintro Z ls st w uc us hZ ⟨x, hx1, hv, h⟩ H locs ws tys lc sc hR hP hK hD hS ha hl hs hX
  obtain ⟨-, cv, h2, h3⟩ := hl.2.2 a _ hx1
  rcases hv with ⟨y, rfl⟩ | ⟨y, rfl⟩
  · obtain ⟨q, h4, rfl⟩ := h3
    exact lv_aload_n hx hb hd hk h2 (hZ _ h H locs ws tys lc _ hR hP hK hD hS ha hl ⟨⟨q, h4, rfl⟩, hs⟩ hX)
  · cases h3
    exact lv_aload_n hx hb hd hk h2 (hZ _ h H locs ws tys lc _ hR hP hK hD hS ha hl ⟨rfl, hs⟩ hX)
theorem ok_aload {a : Nat} (hx : p.tables.exec = Jvm.exec) (hb : c.code = cc) (hd : decode cc pc = .ok (.aload a, 2)) : am_Snd (am_Good p l e R s m args below meth c ex D cl A bS ad0 nL mc ms Q) C Q pc (am_aload (pc + 2) a) := by
  rintro Z ls st w uc us hZ ⟨x, hx1, hv, h⟩ H locs ws tys lc sc hR hP hK hD hS ha hl hs hX
  obtain ⟨-, cv, h2, h3⟩ := hl.2.2 a _ hx1
  rcases hv with ⟨y, rfl⟩ | ⟨y, rfl⟩
  · obtain ⟨q, h4, rfl⟩ := h3
    exact lv_aload hx hb hd h2 (hZ _ h H locs ws tys lc _ hR hP hK hD hS ha hl ⟨⟨q, h4, rfl⟩, hs⟩ hX)
  · cases h3
    exact lv_aload hx hb hd h2 (hZ _ h H locs ws tys lc _ hR hP hK hD hS ha hl ⟨rfl, hs⟩ hX)
theorem ok_istore_n {k : Fin 4} {a : Nat} (hx : p.tables.exec = Jvm.exec) (hb : c.code = cc) (hd : decode cc pc = .ok (.istore_n k, 1)) (hk : (k : Nat) = a) (hn : a < nL) : am_Snd (am_Good p l e R s m args below meth c ex D cl A bS ad0 nL mc ms Q) C Q pc (am_istore (pc + 1) a) := by
  rintro Z ls st w uc us hZ ⟨x, r, rfl, h⟩ H locs ws tys lc sc hR hP hK hD hS ha hl hs hX
  obtain ⟨r', rfl, hs1⟩ := am_V_int hs
  refine lv_istore_n hx hb hd hk (am_all_has hl.1 hl.2.1) hn rfl fun lc' h' => ?_
  exact hZ _ h H locs ws tys lc' _ hR hP hK hD hS ha (am_L_set hl rfl rfl h') hs1 hX
theorem ok_istore {a : Nat} (hx : p.tables.exec = Jvm.exec) (hb : c.code = cc) (hd : decode cc pc = .ok (.istore a, 2)) (hn : a < nL) : am_Snd (am_Good p l e R s m args below meth c ex D cl A bS ad0 nL mc ms Q) C Q pc (am_istore (pc + 2) a) := by
  rintro Z ls st w uc us hZ ⟨x, r, rfl, h⟩ H locs ws tys lc sc hR hP hK hD hS ha hl hs hX
  obtain ⟨r', rfl, hs1⟩ := am_V_int hs
  refine lv_istore hx hb hd (am_all_has hl.1 hl.2.1) hn rfl fun lc' h' => ?_
  exact hZ _ h H locs ws tys lc' _ hR hP hK hD hS ha (am_L_set hl rfl rfl h') hs1 hX
theorem ok_astore_n {k : Fin 4} {a : Nat} (hx : p.tables.exec = Jvm.exec) (hb : c.code = cc) (hd : decode cc pc = .ok (.astore_n k, 1)) (hk : (k : Nat) = a) (hn : a < nL) : am_Snd (am_Good p l e R s m args below meth c ex D cl A bS ad0 nL mc ms Q) C Q pc (am_astore (pc + 1) a) := by
  rintro Z ls st w uc us hZ ⟨x, r, rfl, hv, h⟩ H locs ws tys lc sc hR hP hK hD hS ha hl hs hX
  obtain ⟨cv, r', rfl, h1, hs1⟩ := am_V_cons hs
  rcases hv with ⟨y, rfl⟩ | rfl
  · obtain ⟨q, h4, rfl⟩ := h1
    refine lv_astore_n hx hb hd hk (am_all_has hl.1 hl.2.1) hn rfl fun lc' h' => ?_
    exact hZ _ h H locs ws tys lc' _ hR hP hK hD hS ha (am_L_set hl ⟨q, h4, rfl⟩ rfl h') hs1 hX
  · rcases h1 with rfl | ⟨q, rfl⟩
    · refine lv_astore_nN hx hb hd hk (am_all_has hl.1 hl.2.1) hn rfl fun lc' h' => ?_
      exact hZ _ h H locs ws tys lc' _ hR hP hK hD hS ha (am_L_set hl (Or.inl rfl) rfl h') hs1 hX
    · refine lv_astore_n hx hb hd hk (am_all_has hl.1 hl.2.1) hn rfl fun lc' h' => ?_
      exact hZ _ h H locs ws tys lc' _ hR hP hK hD hS ha (am_L_set hl (Or.inr ⟨q, rfl⟩) rfl h') hs1 hX
theorem ok_astore {a : Nat} (hx : p.tables.exec = Jvm.exec) (hb : c.code = cc) (hd : decode cc pc = .ok (.astore a, 2)) (hn : a < nL) : am_Snd (am_Good p l e R s m args below meth c ex D cl A bS ad0 nL mc ms Q) C Q pc (am_astore (pc + 2) a) := by
  rintro Z ls st w uc us hZ ⟨x, r, rfl, hv, h⟩ H locs ws tys lc sc hR hP hK hD hS ha hl hs hX
  obtain ⟨cv, r', rfl, h1, hs1⟩ := am_V_cons hs
  rcases hv with ⟨y, rfl⟩ | rfl
  · obtain ⟨q, h4, rfl⟩ := h1
    refine lv_astore hx hb hd (am_all_has hl.1 hl.2.1) hn rfl fun lc' h' => ?_
    exact hZ _ h H locs ws tys lc' _ hR hP hK hD hS ha (am_L_set hl ⟨q, h4, rfl⟩ rfl h') hs1 hX
  · rcases h1 with rfl | ⟨q, rfl⟩
    · refine lv_astoreN hx hb hd (am_all_has hl.1 hl.2.1) hn rfl fun lc' h' => ?_
      exact hZ _ h H locs ws tys lc' _ hR hP hK hD hS ha (am_L_set hl (Or.inl rfl) rfl h') hs1 hX
    · refine lv_astore hx hb hd (am_all_has hl.1 hl.2.1) hn rfl fun lc' h' => ?_
      exact hZ _ h H locs ws tys lc' _ hR hP hK hD hS ha (am_L_set hl (Or.inr ⟨q, rfl⟩) rfl h') hs1 hX
theorem ok_iinc {a : Nat} {n : Int} {v : Int32} (hx : p.tables.exec = Jvm.exec) (hb : c.code = cc) (hd : decode cc pc = .ok (.iinc a n, 3)) (hv : Int32.ofInt n = v) (hn : a < nL) : am_Snd (am_Good p l e R s m args below meth c ex D cl A bS ad0 nL mc ms Q) C Q pc (am_iinc (pc + 3) a v) := by
  rintro Z ls st w uc us hZ ⟨x, hx1, h⟩ H locs ws tys lc sc hR hP hK hD hS ha hl hs hX
  obtain ⟨-, cv, h2, h3⟩ := hl.2.2 a _ hx1
  cases h3
  subst hv
  obtain ⟨k, hk⟩ := List.getElem?_of_mem (am_all_mem h2 rfl)
  refine lv_iinc hx hb hd (am_all_has hl.1 hl.2.1) hk rfl hn rfl fun lc' h' => ?_
  exact hZ _ h H locs ws tys lc' _ hR hP hK hD hS ha (am_L_set hl rfl rfl h') hs hX
theorem ok_iadd (hx : p.tables.exec = Jvm.exec) (hb : c.code = cc) (hd : decode cc pc = .ok (.iadd, 1)) : am_Snd (am_Good p l e R s m args below meth c ex D cl A bS ad0 nL mc ms Q) C Q pc (am_iadd (pc + 1)) := by
  rintro Z ls st w uc us hZ ⟨x, y, r, rfl, h⟩ H locs ws tys lc sc hR hP hK hD hS ha hl hs hX
  obtain ⟨r', rfl, hs1⟩ := am_V_int hs
  obtain ⟨r', rfl, hs2⟩ := am_V_int hs1
  exact lv_iadd hx hb hd (hZ _ h H locs ws tys lc _ hR hP hK hD hS ha hl ⟨rfl, hs2⟩ hX)
theorem ok_isub (hx : p.tables.exec = Jvm.exec) (hb : c.code = cc) (hd : decode cc pc = .ok (.isub, 1)) : am_Snd (am_Good p l e R s m args below meth c ex D cl A bS ad0 nL mc ms Q) C Q pc (am_isub (pc + 1)) := by
  rintro Z ls st w uc us hZ ⟨x, y, r, rfl, h⟩ H locs ws tys lc sc hR hP hK hD hS ha hl hs hX
  obtain ⟨r', rfl, hs1⟩ := am_V_int hs
  obtain ⟨r', rfl, hs2⟩ := am_V_int hs1
  exact lv_isub hx hb hd (hZ _ h H locs ws tys lc _ hR hP hK hD hS ha hl ⟨rfl, hs2⟩ hX)
theorem ok_imul (hx : p.tables.exec = Jvm.exec) (hb : c.code = cc) (hd : decode cc pc = .ok (.imul, 1)) : am_Snd (am_Good p l e R s m args below meth c ex D cl A bS ad0 nL mc ms Q) C Q pc (am_imul (pc + 1)) := by
  rintro Z ls st w uc us hZ ⟨x, y, r, rfl, h⟩ H locs ws tys lc sc hR hP hK hD hS ha hl hs hX
  obtain ⟨r', rfl, hs1⟩ := am_V_int hs
  obtain ⟨r', rfl, hs2⟩ := am_V_int hs1
  exact lv_imul hx hb hd (hZ _ h H locs ws tys lc _ hR hP hK hD hS ha hl ⟨rfl, hs2⟩ hX)
theorem ok_iand (hx : p.tables.exec = Jvm.exec) (hb : c.code = cc) (hd : decode cc pc = .ok (.iand, 1)) : am_Snd (am_Good p l e R s m args below meth c ex D cl A bS ad0 nL mc ms Q) C Q pc (am_iand (pc + 1)) := by
  rintro Z ls st w uc us hZ ⟨x, y, r, rfl, h⟩ H locs ws tys lc sc hR hP hK hD hS ha hl hs hX
  obtain ⟨r', rfl, hs1⟩ := am_V_int hs
  obtain ⟨r', rfl, hs2⟩ := am_V_int hs1
  exact lv_iand hx hb hd (hZ _ h H locs ws tys lc _ hR hP hK hD hS ha hl ⟨rfl, hs2⟩ hX)
theorem ok_ineg (hx : p.tables.exec = Jvm.exec) (hb : c.code = cc) (hd : decode cc pc = .ok (.ineg, 1)) : am_Snd (am_Good p l e R s m args below meth c ex D cl A bS ad0 nL mc ms Q) C Q pc (am_ineg (pc + 1)) := by
  rintro Z ls st w uc us hZ ⟨x, r, rfl, h⟩ H locs ws tys lc sc hR hP hK hD hS ha hl hs hX
  obtain ⟨r', rfl, hs1⟩ := am_V_int hs
  exact lv_ineg hx hb hd (hZ _ h H locs ws tys lc _ hR hP hK hD hS ha hl ⟨rfl, hs1⟩ hX)
theorem ok_goto {off : Int} {tg : Nat} (hx : p.tables.exec = Jvm.exec) (hb : c.code = cc) (hd : decode cc pc = .ok (.goto off, 3)) (ht : (pc : Int) + off = (tg : Int)) : am_Snd (am_Good p l e R s m args below meth c ex D cl A bS ad0 nL mc ms Q) C Q pc (am_goto tg) := by
  intro Z ls st w uc us hZ h H locs ws tys lc sc hR hP hK hD hS ha hl hs hX
  exact lv_goto hx hb hd ht (hZ _ h H locs ws tys lc _ hR hP hK hD hS ha hl hs hX)
theorem ok_if_eq {off : Int} {tg : Nat} (hx : p.tables.exec = Jvm.exec) (hb : c.code = cc) (hd : decode cc pc = .ok (.ifCond .eq off, 3)) (ht : (pc : Int) + off = (tg : Int)) : am_Snd (am_Good p l e R s m args below meth c ex D cl A bS ad0 nL mc ms Q) C Q pc (am_if (pc + 3) tg 0) := by
  rintro Z ls st w uc us hZ ⟨x, r, rfl, h1, h2⟩ H locs ws tys lc sc hR hP hK hD hS ha hl hs hX
  obtain ⟨r', rfl, hs1⟩ := am_V_int hs
  exact lv_if_eq hx hb hd ht (fun q => hZ _ (h1 q) H locs ws tys lc _ hR hP hK hD hS ha hl hs1 hX) (fun q => hZ _ (h2 q) H locs ws tys lc _ hR hP hK hD hS ha hl hs1 hX)
theorem ok_icmp_eq {off : Int} {tg : Nat} (hx : p.tables.exec = Jvm.exec) (hb : c.code = cc) (hd : decode cc pc = .ok (.if_icmp .eq off, 3)) (ht : (pc : Int) + off = (tg : Int)) : am_Snd (am_Good p l e R s m args below meth c ex D cl A bS ad0 nL mc ms Q) C Q pc (am_icmp (pc + 3) tg 0) := by
  rintro Z ls st w uc us hZ ⟨x, y, r, rfl, h1, h2⟩ H locs ws tys lc sc hR hP hK hD hS ha hl hs hX
  obtain ⟨r', rfl, hs1⟩ := am_V_int hs
  obtain ⟨r', rfl, hs2⟩ := am_V_int hs1
  exact lv_icmp_eq hx hb hd ht (fun q => hZ _ (h1 q) H locs ws tys lc _ hR hP hK hD hS ha hl hs2 hX) (fun q => hZ _ (h2 q) H locs ws tys lc _ hR hP hK hD hS ha hl hs2 hX)
theorem ok_if_ne {off : Int} {tg : Nat} (hx : p.tables.exec = Jvm.exec) (hb : c.code = cc) (hd : decode cc pc = .ok (.ifCond .ne off, 3)) (ht : (pc : Int) + off = (tg : Int)) : am_Snd (am_Good p l e R s m args below meth c ex D cl A bS ad0 nL mc ms Q) C Q pc (am_if (pc + 3) tg 1) := by
  rintro Z ls st w uc us hZ ⟨x, r, rfl, h1, h2⟩ H locs ws tys lc sc hR hP hK hD hS ha hl hs hX
  obtain ⟨r', rfl, hs1⟩ := am_V_int hs
  exact lv_if_ne hx hb hd ht (fun q => hZ _ (h1 q) H locs ws tys lc _ hR hP hK hD hS ha hl hs1 hX) (fun q => hZ _ (h2 (fun z => z q)) H locs ws tys lc _ hR hP hK hD hS ha hl hs1 hX)
theorem ok_icmp_ne {off : Int} {tg : Nat} (hx : p.tables.exec = Jvm.exec) (hb : c.code = cc) (hd : decode cc pc = .ok (.if_icmp .ne off, 3)) (ht : (pc : Int) + off = (tg : Int)) : am_Snd (am_Good p l e R s m args below meth c ex D cl A bS ad0 nL mc ms Q) C Q pc (am_icmp (pc + 3) tg 1) := by
  rintro Z ls st w uc us hZ ⟨x, y, r, rfl, h1, h2⟩ H locs ws tys lc sc hR hP hK hD hS ha hl hs hX
  obtain ⟨r', rfl, hs1⟩ := am_V_int hs
  obtain ⟨r', rfl, hs2⟩ := am_V_int hs1
  exact lv_icmp_ne hx hb hd ht (fun q => hZ _ (h1 q) H locs ws tys lc _ hR hP hK hD hS ha hl hs2 hX) (fun q => hZ _ (h2 (fun z => z q)) H locs ws tys lc _ hR hP hK hD hS ha hl hs2 hX)
theorem ok_if_lt {off : Int} {tg : Nat} (hx : p.tables.exec = Jvm.exec) (hb : c.code = cc) (hd : decode cc pc = .ok (.ifCond .lt off, 3)) (ht : (pc : Int) + off = (tg : Int)) : am_Snd (am_Good p l e R s m args below meth c ex D cl A bS ad0 nL mc ms Q) C Q pc (am_if (pc + 3) tg 2) := by
  rintro Z ls st w uc us hZ ⟨x, r, rfl, h1, h2⟩ H locs ws tys lc sc hR hP hK hD hS ha hl hs hX
  obtain ⟨r', rfl, hs1⟩ := am_V_int hs
  exact lv_if_lt hx hb hd ht (fun q => hZ _ (h1 q) H locs ws tys lc _ hR hP hK hD hS ha hl hs1 hX) (fun q => hZ _ (h2 q) H locs ws tys lc _ hR hP hK hD hS ha hl hs1 hX)
theorem ok_icmp_lt {off : Int} {tg : Nat} (hx : p.tables.exec = Jvm.exec) (hb : c.code = cc) (hd : decode cc pc = .ok (.if_icmp .lt off, 3)) (ht : (pc : Int) + off = (tg : Int)) : am_Snd (am_Good p l e R s m args below meth c ex D cl A bS ad0 nL mc ms Q) C Q pc (am_icmp (pc + 3) tg 2) := by
  rintro Z ls st w uc us hZ ⟨x, y, r, rfl, h1, h2⟩ H locs ws tys lc sc hR hP hK hD hS ha hl hs hX
  obtain ⟨r', rfl, hs1⟩ := am_V_int hs
  obtain ⟨r', rfl, hs2⟩ := am_V_int hs1
  exact lv_icmp_lt hx hb hd ht (fun q => hZ _ (h1 q) H locs ws tys lc _ hR hP hK hD hS ha hl hs2 hX) (fun q => hZ _ (h2 q) H locs ws tys lc _ hR hP hK hD hS ha hl hs2 hX)
theorem ok_if_ge {off : Int} {tg : Nat} (hx : p.tables.exec = Jvm.exec) (hb : c.code = cc) (hd : decode cc pc = .ok (.ifCond .ge off, 3)) (ht : (pc : Int) + off = (tg : Int)) : am_Snd (am_Good p l e R s m args below meth c ex D cl A bS ad0 nL mc ms Q) C Q pc (am_if (pc + 3) tg 3) := by
  rintro Z ls st w uc us hZ ⟨x, r, rfl, h1, h2⟩ H locs ws tys lc sc hR hP hK hD hS ha hl hs hX
  obtain ⟨r', rfl, hs1⟩ := am_V_int hs
  exact lv_if_ge hx hb hd ht (fun q => hZ _ (h1 q) H locs ws tys lc _ hR hP hK hD hS ha hl hs1 hX) (fun q => hZ _ (h2 q) H locs ws tys lc _ hR hP hK hD hS ha hl hs1 hX)
theorem ok_icmp_ge {off : Int} {tg : Nat} (hx : p.tables.exec = Jvm.exec) (hb : c.code = cc) (hd : decode cc pc = .ok (.if_icmp .ge off, 3)) (ht : (pc : Int) + off = (tg : Int)) : am_Snd (am_Good p l e R s m args below meth c ex D cl A bS ad0 nL mc ms Q) C Q pc (am_icmp (pc + 3) tg 3) := by
  rintro Z ls st w uc us hZ ⟨x, y, r, rfl, h1, h2⟩ H locs ws tys lc sc hR hP hK hD hS ha hl hs hX
  obtain ⟨r', rfl, hs1⟩ := am_V_int hs
  obtain ⟨r', rfl, hs2⟩ := am_V_int hs1
  exact lv_icmp_ge hx hb hd ht (fun q => hZ _ (h1 q) H locs ws tys lc _ hR hP hK hD hS ha hl hs2 hX) (fun q => hZ _ (h2 q) H locs ws tys lc _ hR hP hK hD hS ha hl hs2 hX)
theorem ok_if_gt {off : Int} {tg : Nat} (hx : p.tables.exec = Jvm.exec) (hb : c.code = cc) (hd : decode cc pc = .ok (.ifCond .gt off, 3)) (ht : (pc : Int) + off = (tg : Int)) : am_Snd (am_Good p l e R s m args below meth c ex D cl A bS ad0 nL mc ms Q) C Q pc (am_if (pc + 3) tg 4) := by
  rintro Z ls st w uc us hZ ⟨x, r, rfl, h1, h2⟩ H locs ws tys lc sc hR hP hK hD hS ha hl hs hX
  obtain ⟨r', rfl, hs1⟩ := am_V_int hs
  exact lv_if_gt hx hb hd ht (fun q => hZ _ (h1 q) H locs ws tys lc _ hR hP hK hD hS ha hl hs1 hX) (fun q => hZ _ (h2 q) H locs ws tys lc _ hR hP hK hD hS ha hl hs1 hX)
theorem ok_icmp_gt {off : Int} {tg : Nat} (hx : p.tables.exec = Jvm.exec) (hb : c.code = cc) (hd : decode cc pc = .ok (.if_icmp .gt off, 3)) (ht : (pc : Int) + off = (tg : Int)) : am_Snd (am_Good p l e R s m args below meth c ex D cl A bS ad0 nL mc ms Q) C Q pc (am_icmp (pc + 3) tg 4) := by
  rintro Z ls st w uc us hZ ⟨x, y, r, rfl, h1, h2⟩ H locs ws tys lc sc hR hP hK hD hS ha hl hs hX
  obtain ⟨r', rfl, hs1⟩ := am_V_int hs
  obtain ⟨r', rfl, hs2⟩ := am_V_int hs1
  exact lv_icmp_gt hx hb hd ht (fun q => hZ _ (h1 q) H locs ws tys lc _ hR hP hK hD hS ha hl hs2 hX) (fun q => hZ _ (h2 q) H locs ws tys lc _ hR hP hK hD hS ha hl hs2 hX)
theorem ok_if_le {off : Int} {tg : Nat} (hx : p.tables.exec = Jvm.exec) (hb : c.code = cc) (hd : decode cc pc = .ok (.ifCond .le off, 3)) (ht : (pc : Int) + off = (tg : Int)) : am_Snd (am_Good p l e R s m args below meth c ex D cl A bS ad0 nL mc ms Q) C Q pc (am_if (pc + 3) tg 5) := by
  rintro Z ls st w uc us hZ ⟨x, r, rfl, h1, h2⟩ H locs ws tys lc sc hR hP hK hD hS ha hl hs hX
  obtain ⟨r', rfl, hs1⟩ := am_V_int hs
  exact lv_if_le hx hb hd ht (fun q => hZ _ (h1 q) H locs ws tys lc _ hR hP hK hD hS ha hl hs1 hX) (fun q => hZ _ (h2 q) H locs ws tys lc _ hR hP hK hD hS ha hl hs1 hX)
theorem ok_icmp_le {off : Int} {tg : Nat} (hx : p.tables.exec = Jvm.exec) (hb : c.code = cc) (hd : decode cc pc = .ok (.if_icmp .le off, 3)) (ht : (pc : Int) + off = (tg : Int)) : am_Snd (am_Good p l e R s m args below meth c ex D cl A bS ad0 nL mc ms Q) C Q pc (am_icmp (pc + 3) tg 5) := by
  rintro Z ls st w uc us hZ ⟨x, y, r, rfl, h1, h2⟩ H locs ws tys lc sc hR hP hK hD hS ha hl hs hX
  obtain ⟨r', rfl, hs1⟩ := am_V_int hs
  obtain ⟨r', rfl, hs2⟩ := am_V_int hs1
  exact lv_icmp_le hx hb hd ht (fun q => hZ _ (h1 q) H locs ws tys lc _ hR hP hK hD hS ha hl hs2 hX) (fun q => hZ _ (h2 q) H locs ws tys lc _ hR hP hK hD hS ha hl hs2 hX)
theorem ok_iald (hx : p.tables.exec = Jvm.exec) (hb : c.code = cc) (hd : decode cc pc = .ok (.iaload, 1)) : am_Snd (am_Good p l e R s m args below meth c ex D cl A bS ad0 nL mc ms Q) C Q pc (am_iald (pc + 1)) := by
  rintro Z ls st w uc us hZ ⟨i, k, r, n, q, rfl, hc, hi, h⟩ H locs ws tys lc sc hR hP hK hD hS ha hl hs hX
  obtain ⟨r', rfl, hs1⟩ := am_V_int hs
  obtain ⟨a, r', rfl, h1, hs2⟩ := am_V_ref hs1
  obtain ⟨e9, h2, cA, t0, rfl, ht⟩ := am_R_at hR hc h1
  exact va_iald hx hb hK hP k t0 h2 ht hi hd (hZ _ h H locs ws tys lc _ hR hP hK hD hS ha hl ⟨rfl, hs2⟩ hX)
theorem ok_zald (hx : p.tables.exec = Jvm.exec) (hb : c.code = cc) (hd : decode cc pc = .ok (.baload, 1)) : am_Snd (am_Good p l e R s m args below meth c ex D cl A bS ad0 nL mc ms Q) C Q pc (am_zald (pc + 1)) := by
  rintro Z ls st w uc us hZ ⟨i, k, r, n, q, rfl, hc, hi, h⟩ H locs ws tys lc sc hR hP hK hD hS ha hl hs hX
  obtain ⟨r', rfl, hs1⟩ := am_V_int hs
  obtain ⟨a, r', rfl, h1, hs2⟩ := am_V_ref hs1
  obtain ⟨e9, h2, cA, t0, rfl, ht⟩ := am_R_at hR hc h1
  exact va_zald hx hb hK hP k t0 h2 ht hi hd (hZ _ h H locs ws tys lc _ hR hP hK hD hS ha hl ⟨rfl, hs2⟩ hX)
theorem ok_lald (hx : p.tables.exec = Jvm.exec) (hb : c.code = cc) (hd : decode cc pc = .ok (.laload, 1)) : am_Snd (am_Good p l e R s m args below meth c ex D cl A bS ad0 nL mc ms Q) C Q pc (am_lald (pc + 1)) := by
  rintro Z ls st w uc us hZ ⟨i, k, r, n, q, rfl, hc, hi, h⟩ H locs ws tys lc sc hR hP hK hD hS ha hl hs hX
  obtain ⟨r', rfl, hs1⟩ := am_V_int hs
  obtain ⟨a, r', rfl, h1, hs2⟩ := am_V_ref hs1
  obtain ⟨e9, h2, cA, t0, rfl, ht⟩ := am_R_at hR hc h1
  exact va_lald hx hb hK hP k t0 h2 ht hi hd (hZ _ h H locs ws tys lc _ hR hP hK hD hS ha hl ⟨rfl, hs2⟩ hX)
theorem ok_sald (hx : p.tables.exec = Jvm.exec) (hb : c.code = cc) (hb1 : bS < s.heap.size) (hb2 : ¬ A bS) (hd : decode cc pc = .ok (.iaload, 1)) : am_Snd (am_Good p l e R s m args below meth c ex D cl A bS ad0 nL mc ms Q) C Q pc (am_sald (pc + 1)) := by
  rintro Z ls st w uc us hZ ⟨i, k, r, rfl, hi, h⟩ H locs ws tys lc sc hR hP hK hD hS ha hl hs hX
  obtain ⟨r', rfl, hs1⟩ := am_V_int hs
  obtain ⟨r', rfl, hs2⟩ := am_V_scr hs1
  exact va_sld hx hb hX hb1 hb2 hS hi hd (hZ _ h H locs ws tys lc _ hR hP hK hD hS ha hl ⟨rfl, hs2⟩ hX)
theorem ok_slen (hx : p.tables.exec = Jvm.exec) (hb : c.code = cc) (hb1 : bS < s.heap.size) (hb2 : ¬ A bS) (hd : decode cc pc = .ok (.arraylength, 1)) : am_Snd (am_Good p l e R s m args below meth c ex D cl A bS ad0 nL mc ms Q) C Q pc (am_slen (pc + 1)) := by
  rintro Z ls st w uc us hZ ⟨k, r, rfl, h⟩ H locs ws tys lc sc hR hP hK hD hS ha hl hs hX
  obtain ⟨r', rfl, hs1⟩ := am_V_scr hs
  exact va_slen hx hb hX hb1 hb2 hS hd (hZ _ h H locs ws tys lc _ hR hP hK hD hS ha hl ⟨rfl, hs1⟩ hX)
theorem ok_alen (hx : p.tables.exec = Jvm.exec) (hb : c.code = cc) (hd : decode cc pc = .ok (.arraylength, 1)) : am_Snd (am_Good p l e R s m args below meth c ex D cl A bS ad0 nL mc ms Q) C Q pc (am_alen (pc + 1)) := by
  rintro Z ls st w uc us hZ ⟨k, r, n, q, rfl, hc, h⟩ H locs ws tys lc sc hR hP hK hD hS ha hl hs hX
  obtain ⟨a, r', rfl, h1, hs1⟩ := am_V_ref hs
  obtain ⟨e9, h2, cA, t0, rfl, ht⟩ := am_R_at hR hc h1
  exact va_alen hx hb hK hP k t0 h2 ht rfl hd (hZ _ h H locs ws tys lc _ hR hP hK hD hS ha hl ⟨rfl, hs1⟩ hX)
theorem ok_iast (hx : p.tables.exec = Jvm.exec) (hb : c.code = cc) (hd : decode cc pc = .ok (.iastore, 1)) : am_Snd (am_Good p l e R s m args below meth c ex D cl A bS ad0 nL mc ms Q) C Q pc (am_iast (pc + 1)) := by
  rintro Z ls st w uc us hZ ⟨x, i, k, r, n, q, rfl, hc, hi, h⟩ H locs ws tys lc sc hR hP hK hD hS ha hl hs hX
  obtain ⟨r', rfl, hs1⟩ := am_V_int hs
  obtain ⟨r', rfl, hs2⟩ := am_V_int hs1
  obtain ⟨a, r', rfl, h1, hs3⟩ := am_V_ref hs2
  obtain ⟨e9, h2, cA, t0, rfl, ht⟩ := am_R_at hR hc h1
  refine va_iast hx hb hK hP hD hS k t0 h2 ht hi hd fun H1 locs1 hP1 hD1 hS1 => ?_
  have em := am_map_set (e := .inl (cA, n, .inl (upd (w.2.1 k) i.toNatClampNeg x))) h2
  refine hZ _ h H1 locs1 _ tys lc _ (am_R_set (L' := w.2.2.1) hR h2 hc ⟨cA, t0, ?_, ht⟩ (fun j hj => am_u2_ne hj) (fun _ _ => rfl)) hP1 hK hD1 hS1 (by rw [em]; exact ha) (by rw [em]; exact hl) (by rw [em]; exact hs3) hX
  rw [am_u2_self]
  rfl
theorem ok_zast (hx : p.tables.exec = Jvm.exec) (hb : c.code = cc) (hd : decode cc pc = .ok (.bastore, 1)) : am_Snd (am_Good p l e R s m args below meth c ex D cl A bS ad0 nL mc ms Q) C Q pc (am_zast (pc + 1)) := by
  rintro Z ls st w uc us hZ ⟨x, i, k, r, n, q, rfl, hc, hi, h01, h⟩ H locs ws tys lc sc hR hP hK hD hS ha hl hs hX
  obtain ⟨r', rfl, hs1⟩ := am_V_int hs
  obtain ⟨r', rfl, hs2⟩ := am_V_int hs1
  obtain ⟨a, r', rfl, h1, hs3⟩ := am_V_ref hs2
  obtain ⟨e9, h2, cA, t0, rfl, ht⟩ := am_R_at hR hc h1
  have hn : vp_nar .boolean x = x := by rcases h01 with rfl | rfl <;> decide
  refine va_zast hx hb hK hP hD hS k t0 h2 ht hi hd fun H1 locs1 hP1 hD1 hS1 => ?_
  rw [hn] at hP1 hD1
  have em := am_map_set (e := .inl (cA, n, .inl (upd (w.2.1 k) i.toNatClampNeg x))) h2
  refine hZ _ h H1 locs1 _ tys lc _ (am_R_set (L' := w.2.2.1) hR h2 hc ⟨cA, t0, ?_, ht⟩ (fun j hj => am_u2_ne hj) (fun _ _ => rfl)) hP1 hK hD1 hS1 (by rw [em]; exact ha) (by rw [em]; exact hl) (by rw [em]; exact hs3) hX
  rw [am_u2_self]
  rfl
theorem ok_last (hx : p.tables.exec = Jvm.exec) (hb : c.code = cc) (hd : decode cc pc = .ok (.lastore, 1)) : am_Snd (am_Good p l e R s m args below meth c ex D cl A bS ad0 nL mc ms Q) C Q pc (am_last (pc + 1)) := by
  rintro Z ls st w uc us hZ ⟨x, i, k, r, n, q, rfl, hc, hi, h⟩ H locs ws tys lc sc hR hP hK hD hS ha hl hs hX
  obtain ⟨r', rfl, hs1⟩ := am_V_long hs
  obtain ⟨r', rfl, hs2⟩ := am_V_int hs1
  obtain ⟨a, r', rfl, h1, hs3⟩ := am_V_ref hs2
  obtain ⟨e9, h2, cA, t0, rfl, ht⟩ := am_R_at hR hc h1
  refine va_last hx hb hK hP hD hS k t0 h2 ht hi hd fun H1 locs1 hP1 hD1 hS1 => ?_
  have em := am_map_set (e := .inl (cA, n, .inr (.inl (vp_updL (w.2.2.1 k) i.toNatClampNeg x)))) h2
  refine hZ _ h H1 locs1 _ tys lc _ (am_R_set (I' := w.2.1) hR h2 hc ⟨cA, t0, ?_, ht⟩ (fun _ _ => rfl) (fun j hj => am_u2_ne hj)) hP1 hK hD1 hS1 (by rw [em]; exact ha) (by rw [em]; exact hl) (by rw [em]; exact hs3) hX
  rw [am_u2_self]
  rfl
theorem ok_lcmp (hx : p.tables.exec = Jvm.exec) (hb : c.code = cc) (hd : decode cc pc = .ok (.lcmp, 1)) : am_Snd (am_Good p l e R s m args below meth c ex D cl A bS ad0 nL mc ms Q) C Q pc (am_lcmp (pc + 1)) := by
  rintro Z ls st w uc us hZ ⟨x, y, r, rfl, h⟩ H locs ws tys lc sc hR hP hK hD hS ha hl hs hX
  obtain ⟨r', rfl, hs1⟩ := am_V_long hs
  obtain ⟨r', rfl, hs2⟩ := am_V_long hs1
  exact W.lcmp hx hb hd (hZ _ h H locs ws tys lc _ hR hP hK hD hS ha hl ⟨rfl, hs2⟩ hX)
theorem ok_i2l (hx : p.tables.exec = Jvm.exec) (hb : c.code = cc) (hd : decode cc pc = .ok (.i2l, 1)) : am_Snd (am_Good p l e R s m args below meth c ex D cl A bS ad0 nL mc ms Q) C Q pc (am_i2l (pc + 1)) := by
  rintro Z ls st w uc us hZ ⟨x, r, rfl, h⟩ H locs ws tys lc sc hR hP hK hD hS ha hl hs hX
  obtain ⟨r', rfl, hs1⟩ := am_V_int hs
  exact lv_i2l hx hb hd rfl (hZ _ h H locs ws tys lc _ hR hP hK hD hS ha hl ⟨rfl, hs1⟩ hX)
theorem ok_dup (hx : p.tables.exec = Jvm.exec) (hb : c.code = cc) (hd : decode cc pc = .ok (.dup, 1)) : am_Snd (am_Good p l e R s m args below meth c ex D cl A bS ad0 nL mc ms Q) C Q pc (am_dup (pc + 1)) := by
  rintro Z ls st w uc us hZ ⟨v, r, rfl, hv, h⟩ H locs ws tys lc sc hR hP hK hD hS ha hl hs hX
  obtain ⟨cv, r', rfl, h1, hs1⟩ := am_V_cons hs
  exact lv_dup hx hb hd (by rw [am_v_cat h1]; rcases hv with ⟨x, rfl⟩ | ⟨k, rfl⟩ <;> rfl) (hZ _ h H locs ws tys lc _ hR hP hK hD hS ha hl ⟨h1, h1, hs1⟩ hX)
theorem ok_pop (hx : p.tables.exec = Jvm.exec) (hb : c.code = cc) (hd : decode cc pc = .ok (.pop, 1)) : am_Snd (am_Good p l e R s m args below meth c ex D cl A bS ad0 nL mc ms Q) C Q pc (am_pop (pc + 1)) := by
  rintro Z ls st w uc us hZ ⟨x, r, rfl, h⟩ H locs ws tys lc sc hR hP hK hD hS ha hl hs hX
  obtain ⟨r', rfl, hs1⟩ := am_V_int hs
  exact lv_pop hx hb hd rfl (hZ _ h H locs ws tys lc _ hR hP hK hD hS ha hl hs1 hX)
theorem ok_iret (hx : p.tables.exec = Jvm.exec) (hb : c.code = cc) (hb1 : bS < s.heap.size) (hb2 : ¬ A bS) (hr : meth.sig.returnType = some .int) (hlocks : meth.locks = false) (hd : decode cc pc = .ok (.ireturn, 1)) : am_Snd (am_Good p l e R s m args below meth c ex D cl A bS ad0 nL mc ms Q) C Q pc (am_iret mc ms) := by
  rintro Z ls st w uc us hZ ⟨x, rfl, h1, h2, h⟩ H locs ws tys lc sc hR hP hK hD hS ha hl hs hX
  obtain ⟨r', rfl, hs1⟩ := am_V_int hs
  cases am_V_nil hs1
  refine ax_ret (W.widen h1 h2 ?_)
  exact W.iret hx hb hr (fun t ht hW => ⟨w, ws, tys, am_end hb1 hb2 hR hP hK hD hS ha hX ht hW.alike, Or.inl ⟨some (.int x), some (.int x), rfl, ⟨rfl, trivial⟩, h⟩⟩) hS.2.2 hd
theorem ok_zret (hx : p.tables.exec = Jvm.exec) (hb : c.code = cc) (hb1 : bS < s.heap.size) (hb2 : ¬ A bS) (hr : meth.sig.returnType = some .boolean) (hlocks : meth.locks = false) (hd : decode cc pc = .ok (.ireturn, 1)) : am_Snd (am_Good p l e R s m args below meth c ex D cl A bS ad0 nL mc ms Q) C Q pc (am_zret mc ms) := by
  rintro Z ls st w uc us hZ ⟨x, rfl, h1, h2, h01, h⟩ H locs ws tys lc sc hR hP hK hD hS ha hl hs hX
  obtain ⟨r', rfl, hs1⟩ := am_V_int hs
  cases am_V_nil hs1
  have hn : narrow .boolean (.int x) = .int x := by rcases h01 with rfl | rfl <;> decide
  refine ax_ret (W.widen h1 h2 ?_)
  exact W.zret hx hb hr hn (fun t ht hW => ⟨w, ws, tys, am_end hb1 hb2 hR hP hK hD hS ha hX ht hW.alike, Or.inl ⟨some (.int x), some (.int x), rfl, ⟨rfl, trivial⟩, h⟩⟩) hS.2.2 hd
theorem ok_vret (hx : p.tables.exec = Jvm.exec) (hb : c.code = cc) (hb1 : bS < s.heap.size) (hb2 : ¬ A bS) (hr : meth.sig.returnType = none) (hlocks : meth.locks = false) (hd : decode cc pc = .ok (.return_, 1)) : am_Snd (am_Good p l e R s m args below meth c ex D cl A bS ad0 nL mc ms Q) C Q pc (am_vret mc ms) := by
  rintro Z ls st w uc us hZ ⟨rfl, h1, h2, h⟩ H locs ws tys lc sc hR hP hK hD hS ha hl hs hX
  cases am_V_nil hs
  refine ax_ret (W.widen h1 h2 ?_)
  exact W.vret hx hb hr (fun t ht hW => ⟨w, ws, tys, am_end hb1 hb2 hR hP hK hD hS ha hX ht hW.alike, Or.inl ⟨none, none, rfl, trivial, h⟩⟩) hS.2.2 hd
end AMG
end
section
/-! fields, new objects, new arrays, members of the JDK: sound -/
section AMF
variable {p : Program} {l : Launch} {e : Env} {R : Room} {s : State} {m : MethodId} {args : Array Value} {below : List Frame} {meth : Method} {c : Code}
variable {ex : Nat → String} {D : va_G} {cl : List vw_C} {A : Nat → Prop} {bS : Nat} {ad0 : List Nat} {nL mc ms : Nat} {Q : am_Q} {C : am_C} {cc : ByteArray} {pc nx : Nat} {Ts : List Cond} {own : String}
theorem ok_geti {Cn : String} {T : u_T} {N ci j index : Nat} (hx : p.tables.exec = Jvm.exec) (hb : c.code = cc) (hts : ∀ w ∈ Ts, w.before args s = true) (hown : s.vm.findClass own = some m.cls) (hin : ∀ w ∈ u_ws Cn T N, w ∈ Ts) (hc : cl[ci]? = some (Cn, T, N)) (hj : j < N) (hlink : Cond.fieldLink own index (T j).1 (T j).2.1 (T j).2.2.1 ∈ Ts) (hd : decode cc pc = .ok (.getfield index, 3)) :
    am_Snd (am_Good p l e R s m args below meth c ex D cl A bS ad0 nL mc ms Q) C Q pc (am_geti (pc + 3) ci j) := by
  rintro Z ls st w uc us hZ ⟨k, r, n, q, rfl, hk, hq, h⟩ H locs ws tys lc sc hR hP hK hD hS ha hl hs hX
  obtain ⟨a, r', rfl, h1, hs1⟩ := am_V_ref hs
  obtain ⟨e9, h2, fs, rfl, hlen, hf⟩ := am_R_at hR hk h1
  obtain ⟨v, hv, h0, -, -⟩ := hf j 0 hq
  cases h0 rfl
  exact va_get hx hb hts hin hown hK hP k h2 hc j hj (hts _ hlink) (fun _ h9 => h9) hv hd (hZ _ h H locs ws tys lc _ hR hP hK hD hS ha hl ⟨rfl, hs1⟩ hX)
theorem ok_getr {Cn : String} {T : u_T} {N ci j index : Nat} (hx : p.tables.exec = Jvm.exec) (hb : c.code = cc) (hts : ∀ w ∈ Ts, w.before args s = true) (hown : s.vm.findClass own = some m.cls) (hin : ∀ w ∈ u_ws Cn T N, w ∈ Ts) (hc : cl[ci]? = some (Cn, T, N)) (hj : j < N) (hlink : Cond.fieldLink own index (T j).1 (T j).2.1 (T j).2.2.1 ∈ Ts) (hd : decode cc pc = .ok (.getfield index, 3)) :
    am_Snd (am_Good p l e R s m args below meth c ex D cl A bS ad0 nL mc ms Q) C Q pc (am_getr (pc + 3) ci j) := by
  rintro Z ls st w uc us hZ ⟨k, r, n, q, x, rfl, hk, hq, h⟩ H locs ws tys lc sc hR hP hK hD hS ha hl hs hX
  obtain ⟨a, r', rfl, h1, hs1⟩ := am_V_ref hs
  obtain ⟨e9, h2, fs, rfl, hlen, hf⟩ := am_R_at hR hk h1
  obtain ⟨v, hv, -, -, h0⟩ := hf j _ hq
  obtain ⟨b, h3, rfl⟩ := h0 x rfl
  exact va_get hx hb hts hin hown hK hP k h2 hc j hj (hts _ hlink) (fun _ h9 => h9) hv hd (hZ _ h H locs ws tys lc _ hR hP hK hD hS ha hl ⟨⟨b, h3, rfl⟩, hs1⟩ hX)
theorem ok_puti {Cn : String} {T : u_T} {N ci j index : Nat} (hx : p.tables.exec = Jvm.exec) (hb : c.code = cc) (hts : ∀ w ∈ Ts, w.before args s = true) (hown : s.vm.findClass own = some m.cls) (hin : ∀ w ∈ u_ws Cn T N, w ∈ Ts) (ty0 : Nat → FieldType) (hty : ∀ k, k < N → parseFieldDescriptor (T k).2.2.1 = some (ty0 k)) (hnm : ∀ a, a < N → ∀ b, b < N → a ≠ b → (T a).2.1 ≠ (T b).2.1) (hc : cl[ci]? = some (Cn, T, N)) (hj : j < N) (hlink : Cond.fieldLink own index (T j).1 (T j).2.1 (T j).2.2.1 ∈ Ts) (hfin : (T j).2.2.2 = false) (hdI : parseFieldDescriptor (T j).2.2.1 = some .int) (hd : decode cc pc = .ok (.putfield index, 3)) :
    am_Snd (am_Good p l e R s m args below meth c ex D cl A bS ad0 nL mc ms Q) C Q pc (am_puti (pc + 3) ci j) := by
  rintro Z ls st w uc us hZ ⟨x, k, r, n, q, rfl, hk, hq, h⟩ H locs ws tys lc sc hR hP hK hD hS ha hl hs hX
  obtain ⟨r', rfl, hs1⟩ := am_V_int hs
  obtain ⟨a, r', rfl, h1, hs2⟩ := am_V_ref hs1
  obtain ⟨e9, h2, fs, rfl, hlen, hf⟩ := am_R_at hR hk h1
  have hql : j < q.length := (List.getElem?_eq_some_iff.mp hq).1
  dsimp only at hlen
  refine va_put hx hb hts hin ty0 hty hnm hown hK hP hD hS k h2 hc j hj (hts _ hlink) (fun _ h9 => h9) hfin hdI (v := .int x) rfl rfl (by omega) hd fun H1 locs1 hP1 hD1 hS1 => ?_
  have em := am_map_set (e := .inr (ci, fs.set j (.int x))) h2
  refine hZ _ h H1 locs1 _ tys lc _ (am_R_set (L' := w.2.2.1) hR h2 hk ⟨fs.set j (.int x), rfl, by simp [hlen], fun i t hi => ?_⟩ (fun i hi => am_u2_ne hi) (fun _ _ => rfl)) hP1 hK hD1 hS1 (by rw [em]; exact ha) (by rw [em]; exact hl) (by rw [em]; exact hs2) hX
  by_cases hij : i = j
  · subst hij
    cases Option.some.inj (hi.symm.trans hq)
    exact ⟨.int x, by rw [List.getElem?_set_self (by omega)], fun _ => by rw [am_u2_self]; simp, fun e8 => by omega, fun y hy => by omega⟩
  · obtain ⟨v, g1, g2, g3, g4⟩ := hf i t hi
    exact ⟨v, by rw [List.getElem?_set_ne (Ne.symm hij)]; exact g1, fun e8 => by rw [am_u2_self]; simp only [if_neg hij]; exact g2 e8, g3, g4⟩
theorem ok_putr {Cn : String} {T : u_T} {N ci j index : Nat} {ty : FieldType} (hx : p.tables.exec = Jvm.exec) (hb : c.code = cc) (hts : ∀ w ∈ Ts, w.before args s = true) (hown : s.vm.findClass own = some m.cls) (hin : ∀ w ∈ u_ws Cn T N, w ∈ Ts) (ty0 : Nat → FieldType) (hty : ∀ k, k < N → parseFieldDescriptor (T k).2.2.1 = some (ty0 k)) (hnm : ∀ a, a < N → ∀ b, b < N → a ≠ b → (T a).2.1 ≠ (T b).2.1) (hc : cl[ci]? = some (Cn, T, N)) (hj : j < N) (hlink : Cond.fieldLink own index (T j).1 (T j).2.1 (T j).2.2.1 ∈ Ts) (hfin : (T j).2.2.2 = true) (hini : meth.name = "<init>") (hdecl : (T j).1 = own)
    (hdI : parseFieldDescriptor (T j).2.2.1 = some ty) (hn1 : ∀ b, narrow ty (.ref b) = .ref b) (hn2 : ∀ b, fits ty (.ref b) = true) (hd : decode cc pc = .ok (.putfield index, 3)) :
    am_Snd (am_Good p l e R s m args below meth c ex D cl A bS ad0 nL mc ms Q) C Q pc (am_putr (pc + 3) ci j) := by
  rintro Z ls st w uc us hZ ⟨x, k, r, n, q, rfl, hk, hq, hxl, h⟩ H locs ws tys lc sc hR hP hK hD hS ha hl hs hX
  obtain ⟨ax, r', rfl, h9, hs1⟩ := am_V_ref hs
  obtain ⟨a, r', rfl, h1, hs2⟩ := am_V_ref hs1
  obtain ⟨e9, h2, fs, rfl, hlen, hf⟩ := am_R_at hR hk h1
  have hql : j < q.length := (List.getElem?_eq_some_iff.mp hq).1
  dsimp only at hlen
  refine va_putF hx hb hts hin ty0 hty hnm hown hK hP hD hS k h2 hc j hj (hts _ hlink) (fun _ h9 => h9) hfin hini hdecl hdI (v := .ref ax) (hn1 ax) (hn2 ax) (by omega) hd fun H1 locs1 hP1 hD1 hS1 => ?_
  have em := am_map_set (e := .inr (ci, fs.set j (.ref ax))) h2
  exact hZ _ h H1 locs1 _ tys lc _ (am_R_setr hR h2 hk hq h9) hP1 hK hD1 hS1 (by rw [em]; exact ha) (by rw [em]; exact hl) (by rw [em]; exact hs2) hX
theorem ok_new {Cn : String} {T : u_T} {N ci index : Nat} {df : List Nat} (hx : p.tables.exec = Jvm.exec) (hb : c.code = cc) (hts : ∀ w ∈ Ts, w.before args s = true) (hown : s.vm.findClass own = some m.cls) (hA : ∀ q, s.heap.size ≤ q → A q) (hin : ∀ w ∈ u_ws Cn T N, w ∈ Ts) (ty0 : Nat → FieldType) (hty : ∀ k, k < N → parseFieldDescriptor (T k).2.2.1 = some (ty0 k)) (hc : cl[ci]? = some (Cn, T, N)) (hcl : Cond.classLink own index Cn ∈ Ts) (hinst : Cond.instantiable Cn N ∈ Ts) (hini : Cond.initialized Cn ∈ Ts) (hdf : df.length = N) (hd0 : ∀ t ∈ df, t = 0 ∨ t = 1)
    (hfs : ∀ j, j < N → defaultValue (ty0 j) = vp_V (df.map fun t => if t = 0 then .int 0 else .null) j) (hmc : R.cells = mc) (hms : R.slots = ms) (hd : decode cc pc = .ok (.new index, 3)) :
    am_Snd (am_Good p l e R s m args below meth c ex D cl A bS ad0 nL mc ms Q) C Q pc (am_new (pc + 3) ci df mc ms) := by
  rintro Z ls st w uc us hZ ⟨h1, h2, h⟩ H locs ws tys lc sc hR hP hK hD hS ha hl hs hX
  dsimp only
  subst hdf
  refine va_new hx hb hts hin ty0 hty hown (hts _ hcl) (hts _ hinst) (hts _ hini) hK hP hD hS hA hc hfs (by omega) (by omega) hd fun q H1 hP1 hD1 hS1 => ?_
  have hp : ws.map Prod.fst <+: (ws ++ [(q, Sum.inr (ci, df.map fun t => if t = 0 then Value.int 0 else .null))]).map Prod.fst := by rw [List.map_append]; exact List.prefix_append _ _
  refine hZ _ h H1 locs _ tys lc _ (am_R_push (L' := w.2.2.1) hR (List.prefix_refl _) ⟨_, rfl, by simp, fun j t hj => ?_⟩ (fun j hj => am_u1_ne hj) (fun _ _ => rfl)) hP1 hK hD1 hS1 (ha.trans hp) (am_L_mono hp hl) ⟨⟨q, ?_, rfl⟩, am_V_mono hp hs⟩ hX
  · dsimp only at hj
    refine ⟨if t = 0 then .int 0 else .null, by rw [List.getElem?_map, hj]; rfl, fun e9 => by subst e9; rw [am_u1_self]; rfl, fun e9 => by subst e9; rfl, fun x hx => ?_⟩
    rcases hd0 t (List.mem_of_getElem? hj) with e9 | e9 <;> omega
  · rw [hR.1, List.map_append, List.getElem?_append_right (by simp)]
    simp
theorem ok_newa_int (hx : p.tables.exec = Jvm.exec) (hb : c.code = cc) (hts : ∀ w ∈ Ts, w.before args s = true) (hA : ∀ q, s.heap.size ≤ q → A q) (harr : Cond.arrayClass .int ∈ Ts) (hmc : R.cells = mc) (hms : R.slots = ms) (hd : decode cc pc = .ok (.newarray .int, 2)) :
    am_Snd (am_Good p l e R s m args below meth c ex D cl A bS ad0 nL mc ms Q) C Q pc (am_newa (pc + 2) 0 mc ms) := by
  rintro Z ls st w uc us hZ ⟨n, r, rfl, hn, h1, h2, h⟩ H locs ws tys lc sc hR hP hK hD hS ha hl hs hX
  dsimp only
  obtain ⟨r', rfl, hs1⟩ := am_V_int hs
  have hn31 : n < 2 ^ 31 := by omega
  refine va_newa hx hb (atype := .int) (hts _ harr) rfl hK hP hD hS hA (N' := n) (a0 := (n, .inl (fun _ => 0))) (fun cA => rfl) (nI_pos hn31) (nI_clamp hn31) (by show n * 4 ≤ _; omega) (by omega) (by omega) hd fun q cA H1 hK1 hP1 hD1 hS1 => ?_
  have hp : ws.map Prod.fst <+: (ws ++ [(q, Sum.inl (cA, ((n, .inl (fun _ => 0)) : vp_A)))]).map Prod.fst := by rw [List.map_append]; exact List.prefix_append _ _
  refine hZ _ h H1 locs _ (tys ++ [(cA, .int)]) lc _ (am_R_push hR (List.prefix_append _ _) ⟨cA, tys.length, ?_, by simp⟩ (fun j hj => am_u1_ne hj) (fun j hj => am_u1_ne hj)) hP1 hK1 hD1 hS1 (ha.trans hp) (am_L_mono hp hl) ⟨⟨q, ?_, rfl⟩, am_V_mono hp hs1⟩ hX
  · rw [am_u1_self]
  · rw [hR.1, List.map_append, List.getElem?_append_right (by simp)]
    simp
theorem ok_newa_boolean (hx : p.tables.exec = Jvm.exec) (hb : c.code = cc) (hts : ∀ w ∈ Ts, w.before args s = true) (hA : ∀ q, s.heap.size ≤ q → A q) (harr : Cond.arrayClass .boolean ∈ Ts) (hmc : R.cells = mc) (hms : R.slots = ms) (hd : decode cc pc = .ok (.newarray .boolean, 2)) :
    am_Snd (am_Good p l e R s m args below meth c ex D cl A bS ad0 nL mc ms Q) C Q pc (am_newa (pc + 2) 1 mc ms) := by
  rintro Z ls st w uc us hZ ⟨n, r, rfl, hn, h1, h2, h⟩ H locs ws tys lc sc hR hP hK hD hS ha hl hs hX
  dsimp only
  obtain ⟨r', rfl, hs1⟩ := am_V_int hs
  have hn31 : n < 2 ^ 31 := by omega
  refine va_newa hx hb (atype := .boolean) (hts _ harr) rfl hK hP hD hS hA (N' := n) (a0 := (n, .inl (fun _ => 0))) (fun cA => rfl) (nI_pos hn31) (nI_clamp hn31) (by show n * 1 ≤ _; omega) (by omega) (by omega) hd fun q cA H1 hK1 hP1 hD1 hS1 => ?_
  have hp : ws.map Prod.fst <+: (ws ++ [(q, Sum.inl (cA, ((n, .inl (fun _ => 0)) : vp_A)))]).map Prod.fst := by rw [List.map_append]; exact List.prefix_append _ _
  refine hZ _ h H1 locs _ (tys ++ [(cA, .boolean)]) lc _ (am_R_push hR (List.prefix_append _ _) ⟨cA, tys.length, ?_, by simp⟩ (fun j hj => am_u1_ne hj) (fun j hj => am_u1_ne hj)) hP1 hK1 hD1 hS1 (ha.trans hp) (am_L_mono hp hl) ⟨⟨q, ?_, rfl⟩, am_V_mono hp hs1⟩ hX
  · rw [am_u1_self]
  · rw [hR.1, List.map_append, List.getElem?_append_right (by simp)]
    simp
theorem ok_newa_long (hx : p.tables.exec = Jvm.exec) (hb : c.code = cc) (hts : ∀ w ∈ Ts, w.before args s = true) (hA : ∀ q, s.heap.size ≤ q → A q) (harr : Cond.arrayClass .long ∈ Ts) (hmc : R.cells = mc) (hms : R.slots = ms) (hd : decode cc pc = .ok (.newarray .long, 2)) :
    am_Snd (am_Good p l e R s m args below meth c ex D cl A bS ad0 nL mc ms Q) C Q pc (am_newa (pc + 2) 2 mc ms) := by
  rintro Z ls st w uc us hZ ⟨n, r, rfl, hn, h1, h2, h⟩ H locs ws tys lc sc hR hP hK hD hS ha hl hs hX
  dsimp only
  obtain ⟨r', rfl, hs1⟩ := am_V_int hs
  have hn31 : n < 2 ^ 31 := by omega
  refine va_newa hx hb (atype := .long) (hts _ harr) rfl hK hP hD hS hA (N' := n) (a0 := (n, .inr (.inl (fun _ => 0)))) (fun cA => rfl) (nI_pos hn31) (nI_clamp hn31) (by show n * 8 ≤ _; omega) (by omega) (by omega) hd fun q cA H1 hK1 hP1 hD1 hS1 => ?_
  have hp : ws.map Prod.fst <+: (ws ++ [(q, Sum.inl (cA, ((n, .inr (.inl (fun _ => 0))) : vp_A)))]).map Prod.fst := by rw [List.map_append]; exact List.prefix_append _ _
  refine hZ _ h H1 locs _ (tys ++ [(cA, .long)]) lc _ (am_R_push hR (List.prefix_append _ _) ⟨cA, tys.length, ?_, by simp⟩ (fun j hj => am_u1_ne hj) (fun j hj => am_u1_ne hj)) hP1 hK1 hD1 hS1 (ha.trans hp) (am_L_mono hp hl) ⟨⟨q, ?_, rfl⟩, am_V_mono hp hs1⟩ hX
  · rw [am_u1_self]
  · rw [hR.1, List.map_append, List.getElem?_append_right (by simp)]
    simp
theorem ok_aald (hx : p.tables.exec = Jvm.exec) (hb : c.code = cc) (hd : decode cc pc = .ok (.aaload, 1)) : am_Snd (am_Good p l e R s m args below meth c ex D cl A bS ad0 nL mc ms Q) C Q pc (am_aald (pc + 1)) := by
  rintro Z ls st w uc us hZ ⟨i, k, r, n, q, x, rfl, hc, hi, hq, h⟩ H locs ws tys lc sc hR hP hK hD hS ha hl hs hX
  obtain ⟨r', rfl, hs1⟩ := am_V_int hs
  obtain ⟨a, r', rfl, h1, hs2⟩ := am_V_ref hs1
  obtain ⟨e9, h2, cA, t0, f, rfl, ht, hf⟩ := am_R_at hR hc h1
  obtain ⟨b, h3, h4⟩ := hf _ _ hq
  have hlt : i.toNatClampNeg < n := Nat.not_le.mp fun q => hi (Or.inr q)
  refine W.aald (v := va_rf (f i.toNatClampNeg)) (ty := .array .int) hx hb (hP k _ h2) ((hK.2 t0 _ ht).1 n (fun j => va_rf (f j))) rfl (fun q => by cases q) (by show ¬ (i < 0 ∨ (arrV _ _ _).slots.size ≤ _); rw [arrV_size]; exact hi) (by show (arrV _ _ _).slots[_]? = _; rw [arrV_read _ _ hlt]) rfl rfl hd ?_
  rw [h4]
  exact hZ _ h H locs ws tys lc _ hR hP hK hD hS ha hl ⟨⟨b, h3, rfl⟩, hs2⟩ hX
theorem ok_oinit {index : Nat} {oc : ByteArray} (hx : p.tables.exec = Jvm.exec) (hb : c.code = cc) (hts : ∀ w ∈ Ts, w.before args s = true) (hown : s.vm.findClass own = some m.cls) (hml : c.maxLocals = nL) (hlink : Cond.methodLink own index objectInit ∈ Ts) (hinst : Cond.instanceMethod objectInit ∈ Ts) (hcode : Cond.code objectInit oc 1 none ∈ Ts) (hoc : oc = ⟨#[0xb1]⟩) (hfr : 1 ≤ R.frames) (hlo : 20 ≤ R.locals) (hd : decode cc pc = .ok (.invokespecial index, 3)) : am_Snd (am_Good p l e R s m args below meth c ex D cl A bS ad0 nL mc ms Q) C Q pc (am_oinit (pc + 3)) := by
  rintro Z ls st w uc us hZ ⟨k, r, rfl, hr, h⟩ H locs ws tys lc sc hR hP hK hD hS ha hl hs hX
  obtain ⟨a, r', rfl, h1, hs1⟩ := am_V_ref hs
  subst hoc
  refine W.objInit hx hb hown (hts _ hlink) (hts _ hinst) (hts _ hcode) rfl (by rw [hml]; exact hl.1) rfl hd hfr (by show 2 * 0 + _ + 12 ≤ _; rw [am_V_cat hs1]; omega) ?_
  exact hZ _ h H locs ws tys lc _ hR hP hK hD hS ha hl hs1 hX
theorem ok_max {index : Nat} {oc : ByteArray} (hx : p.tables.exec = Jvm.exec) (hb : c.code = cc) (hts : ∀ w ∈ Ts, w.before args s = true) (hown : s.vm.findClass own = some m.cls) (hml : c.maxLocals = nL) (hmc : R.cells = mc) (hms : R.slots = ms) (hlink : Cond.methodLink own index Lib.Math.max.name ∈ Ts) (hstat : Cond.static Lib.Math.max.name ∈ Ts) (hini : Cond.initialized "java/lang/Math" ∈ Ts) (hcode : Cond.code Lib.Math.max.name oc 2 (some .int) ∈ Ts) (hoc : oc = Lib.Math.max.code) (hfr : 1 ≤ R.frames) (hlo : 21 ≤ R.locals) (hd : decode cc pc = .ok (.invokestatic index, 3)) : am_Snd (am_Good p l e R s m args below meth c ex D cl A bS ad0 nL mc ms Q) C Q pc (am_max (pc + 3) mc ms) := by
  rintro Z ls st w uc us hZ ⟨x, y, r, rfl, hr, h1, h2, h⟩ H locs ws tys lc sc hR hP hK hD hS ha hl hs hX
  dsimp only
  obtain ⟨r', rfl, hs1⟩ := am_V_int hs
  obtain ⟨r', rfl, hs2⟩ := am_V_int hs1
  subst hoc
  exact va_mmax hx hb (by rw [hml]; exact hl.1.symm) hown (hts _ hlink) (hts _ hstat) (hts _ hini) (hts _ hcode) hfr (by rw [am_V_cat hs2]; omega) (by omega) (by omega) hd (hZ _ h H locs ws tys lc _ hR hP hK hD hS ha hl ⟨rfl, hs2⟩ hX)
theorem ok_abs {index : Nat} {oc : ByteArray} (hx : p.tables.exec = Jvm.exec) (hb : c.code = cc) (hts : ∀ w ∈ Ts, w.before args s = true) (hown : s.vm.findClass own = some m.cls) (hml : c.maxLocals = nL) (hmc : R.cells = mc) (hms : R.slots = ms) (hlink : Cond.methodLink own index Lib.Math.abs.name ∈ Ts) (hstat : Cond.static Lib.Math.abs.name ∈ Ts) (hini : Cond.initialized "java/lang/Math" ∈ Ts) (hcode : Cond.code Lib.Math.abs.name oc 1 (some .int) ∈ Ts) (hoc : oc = Lib.Math.abs.code) (hfr : 1 ≤ R.frames) (hlo : 21 ≤ R.locals) (hd : decode cc pc = .ok (.invokestatic index, 3)) : am_Snd (am_Good p l e R s m args below meth c ex D cl A bS ad0 nL mc ms Q) C Q pc (am_abs (pc + 3) mc ms) := by
  rintro Z ls st w uc us hZ ⟨x, r, rfl, hr, h1, h2, h⟩ H locs ws tys lc sc hR hP hK hD hS ha hl hs hX
  dsimp only
  obtain ⟨r', rfl, hs1⟩ := am_V_int hs
  subst hoc
  exact va_mabs hx hb (by rw [hml]; exact hl.1.symm) hown (hts _ hlink) (hts _ hstat) (hts _ hini) (hts _ hcode) hfr (by rw [am_V_cat hs1]; omega) (by omega) (by omega) hd (hZ _ h H locs ws tys lc _ hR hP hK hD hS ha hl ⟨rfl, hs1⟩ hX)
theorem ok_copy {index : Nat} (hx : p.tables.exec = Jvm.exec) (hb : c.code = cc) (hts : ∀ w ∈ Ts, w.before args s = true) (hown : s.vm.findClass own = some m.cls) (hml : c.maxLocals = nL) (hlink : Cond.methodLink own index arraycopyName ∈ Ts) (hnat : Cond.native arraycopyName ∈ Ts) (hstat : Cond.static arraycopyName ∈ Ts) (hini : Cond.initialized "java/lang/System" ∈ Ts) (hfr : 1 ≤ R.frames) (hlo : 8 + (nativeFrameWords "java/lang/System" "arraycopy" 5 + 11) ≤ R.locals) (hd : decode cc pc = .ok (.invokestatic index, 3)) : am_Snd (am_Good p l e R s m args below meth c ex D cl A bS ad0 nL mc ms Q) C Q pc (am_copy (pc + 3)) := by
  rintro Z ls st w uc us hZ ⟨n, dp, d, sp, s9, r, n0, q0, n1, q1, rfl, hr, hc0, hc1, h1, h2, h3, h4, h5, h⟩ H locs ws tys lc sc hR hP hK hD hS ha hl hs hX
  obtain ⟨r', rfl, hs1⟩ := am_V_int hs
  obtain ⟨r', rfl, hs2⟩ := am_V_int hs1
  obtain ⟨ad, r', rfl, k1, hs3⟩ := am_V_ref hs2
  obtain ⟨r', rfl, hs4⟩ := am_V_int hs3
  obtain ⟨as, r', rfl, k0, hs5⟩ := am_V_ref hs4
  obtain ⟨e9, g0, cA, t0, rfl, ht0⟩ := am_R_at hR hc0 k0
  obtain ⟨e8, g1, cB, t1, rfl, ht1⟩ := am_R_at hR hc1 k1
  refine va_copyi hx hb (by rw [hml]; exact hl.1.symm) hown (hts _ hlink) (hts _ hnat) (hts _ hstat) (hts _ hini) hK hP hD hS s9 d t0 t1 g0 g1 ht0 ht1 rfl h1 h2 h3 h4 h5 (fun _ _ => rfl) hfr (by rw [am_V_cat hs5]; omega) hd fun H1 locs1 hP1 hD1 hS1 => ?_
  have em := am_map_set (e := .inl (cB, n1, .inl (va_cpy (w.2.1 s9) (w.2.1 d) sp.toNatClampNeg dp.toNatClampNeg n.toNatClampNeg))) g1
  refine hZ _ h H1 locs1 _ tys lc _ (am_R_set (L' := w.2.2.1) hR g1 hc1 ⟨cB, t1, ?_, ht1⟩ (fun j hj => am_u1_ne hj) (fun _ _ => rfl)) hP1 hK hD1 hS1 (by rw [em]; exact ha) (by rw [em]; exact hl) (by rw [em]; exact hs5) hX
  rw [am_u1_self]
end AMF
end
section
/-! calls, throws, catching: sound -/
section AMK
variable {p : Program} {l : Launch} {e : Env} {R : Room} {s : State} {m : MethodId} {args : Array Value} {below : List Frame} {meth : Method} {c : Code}
/-- a method's start -/
def am_Pre (s0 : State) (D : va_G) (cl : List vw_C) (bS : Nat) (ws : va_W) (tys : List (ClassId × FieldType)) (w : am_W) (sz : Nat) : State → Prop := fun U =>
  U.heap.size = sz ∧ va_P D cl ws U.heap ∧ va_K D cl tys U ∧ va_D (fun _ => True) ws ∧ va_X bS w.2.2.2.1 w.2.2.2.2 U U.heap ∧ am_Root s0 U
theorem am_Pre.blind {s0 : State} {D : va_G} {cl : List vw_C} {bS : Nat} {ws : va_W} {tys : List (ClassId × FieldType)} {w : am_W} {sz : Nat} {cas : List Value} : FrameBlind (va_Pc cas (am_Pre s0 D cl bS ws tys w sz)) := by
  intro a U g mk q
  obtain ⟨q0, q1, qP, qK, qD, qX, qU⟩ := q
  have ha : U.vm.Alike (U.calling g mk a).vm := Vm.Alike.refl U.vm
  exact ⟨q0, q1, qP, va_K.moved ha qK, qD, va_X.moved ha qX, qU.1, qU.2⟩
/-- a method's contract, by the small machine's words -/
def am_Con (l : Launch) (s0 : State) (ex : Nat → String) (cl : List vw_C) (y : MethodName) (wy : List Cond) (rm : Room) (mc ms : Nat) (as : List Value) (w : am_W) (Q : am_Q) : Prop :=
  ∀ (D : va_G) (bS sz : Nat) (ws : va_W) (tys : List (ClassId × FieldType)) (cas : List Value), am_R w ws tys → am_V (ws.map Prod.fst) bS as cas → ¬ va_A ws sz bS →
    ax_Met l y wy rm (va_Pc cas (am_Pre s0 D cl bS ws tys w sz)) (am_Po ex D cl (va_A ws sz) bS (ws.map Prod.fst) Q) mc ms (va_A ws sz)
theorem am_Con.met {s0 : State} {ex : Nat → String} {cl : List vw_C} {y : MethodName} {wy : List Cond} {rm : Room} {jc js : Nat} {as : List Value} {w : am_W} {Q' : am_Q} (h : am_Con l s0 ex cl y wy rm jc js as w Q') (hq : ∀ E w', ¬ Q' (.inr E) w') {D : va_G} {bS sz : Nat} {ws : va_W} {tys : List (ClassId × FieldType)} {cas : List Value} (hR : am_R w ws tys) (hv : am_V (ws.map Prod.fst) bS as cas) (hn : ¬ va_A ws sz bS) :
    Met l y wy rm (va_Pc cas (am_Pre s0 D cl bS ws tys w sz)) (am_Po ex D cl (va_A ws sz) bS (ws.map Prod.fst) Q') jc js (va_A ws sz) := by
  refine MetFree.mono (h D bS sz ws tys cas hR hv hn) (fun _ _ h => h) (fun _ _ _ _ _ h => h) (fun a st o t _ h => ?_)
  obtain ⟨hpo, hW, L, hsame, hL⟩ := h
  obtain ⟨w', ws', tys', hE, ⟨v, cv, ho, h1⟩ | ⟨n, q, ce, -, h9, -⟩⟩ := id hpo
  · exact ⟨hpo, L, ⟨⟨cv, ho⟩, hW, hsame⟩, hL⟩
  · exact (hq _ _ h9).elim
variable {s0 : State} {ex : Nat → String} {D : va_G} {cl : List vw_C} {A : Nat → Prop} {bS : Nat} {ad0 : List Nat} {nL mc ms : Nat} {Q : am_Q} {C : am_C} {cc : ByteArray} {pc nx : Nat} {Ts : List Cond} {own : String}
theorem am_AA {ws : va_W} {H : Heap} {locs : List Loc} (hA : ∀ q, s.heap.size ≤ q → A q) (hD : va_D A ws) (hS : va_S A s.heap H locs) : ∀ q, va_A ws H.size q → A q := by
  intro q h
  rcases h with ⟨k, e9, h⟩ | h
  · exact hD.2 k _ h
  · exact hA q (Nat.le_trans hS.1 h)
/-- what a callee leaves, seen by the caller -/
theorem am_keep {H H1 : Heap} {locs L : List Loc} {ws : va_W} {st t : State} (hA : ∀ q, s.heap.size ≤ q → A q) (hD : va_D A ws) (hS : va_S A s.heap H locs) (hL : ∀ q ∈ L, va_A ws H.size q.base) (h0 : st.heap = H) (h1 : t.heap = H1) (hF : va_F (va_A ws H.size) st t) : va_S A s.heap H1 (locs ++ L) := by
  have hAA := am_AA hA hD hS
  obtain ⟨f1, f2⟩ := hF
  rw [h0, h1] at f1 f2
  refine ⟨Nat.le_trans hS.1 f1, fun q q1 q2 => ?_, fun q hq => ?_⟩
  · rw [f2 q (Nat.lt_of_lt_of_le q1 hS.1) (fun z => q2 (hAA q z))]
    exact hS.2.1 q q1 q2
  · rcases List.mem_append.mp hq with h | h
    · exact hS.2.2 q h
    · exact hAA _ (hL q h)
/-- the caller's world behind a call -/
theorem am_behind {H1 : Heap} {locs1 : List Loc} {ws ws' : va_W} {tys' : List (ClassId × FieldType)} {w' : am_W} {st t : State} {sz : Nat} (hb1 : bS < s.heap.size) (hb2 : ¬ A bS) (hAA : ∀ q, va_A ws sz q → A q) (hS1 : va_S A s.heap H1 locs1) (h1 : t.heap = H1) (hal : s.vm.Alike t.vm)
    (hE : am_End D cl (va_A ws sz) bS (ws.map Prod.fst) w' ws' tys' st t) : am_R w' ws' tys' ∧ va_P D cl ws' H1 ∧ va_K D cl tys' s ∧ va_D A ws' ∧ ws.map Prod.fst <+: ws'.map Prod.fst ∧ va_X bS w'.2.2.2.1 w'.2.2.2.2 s s.heap := by
  obtain ⟨hR, hP, hK, hD, hp, hX, -⟩ := hE
  exact ⟨hR, by rw [← h1]; exact hP, va_K.moved hal.symm hK, hD.weaken (fun k x _ h => hAA x.1 h), hp, (va_X.moved hal.symm hX).kept (by rw [h1]; exact (hS1.2.1 bS hb1 hb2).symm)⟩
/-- a call that returns -/
theorem am_callW {Qw : State → Prop} {Q' : am_Q} {H : Heap} {locs : List Loc} {ws : va_W} {lc : Array Slot} {sc cr : List Value} {uc us jc js : Nat} {a : Array Value}
    (hr : va_Run p l e R s m args below meth c H locs uc us jc js (F0 m pc lc sc) cr (am_Po ex D cl (va_A ws H.size) bS (ws.map Prod.fst) Q' a) (va_A ws H.size))
    (hb1 : bS < s.heap.size) (hb2 : ¬ A bS) (hA : ∀ q, s.heap.size ≤ q → A q) (hD : va_D A ws) (hS : va_S A s.heap H locs)
    (kk : ∀ (v cv : Option Value) (w' : am_W) (ws' : va_W) (tys' : List (ClassId × FieldType)) (H1 : Heap) (locs1 : List Loc), Q' (.inl v) w' → am_V (ws'.map Prod.fst) bS v.toList cv.toList → am_R w' ws' tys' → va_P D cl ws' H1 → va_K D cl tys' s → va_D A ws' → va_S A s.heap H1 locs1 → ws.map Prod.fst <+: ws'.map Prod.fst → va_X bS w'.2.2.2.1 w'.2.2.2.2 s s.heap →
      W p l e R s m args below meth c H1 locs1 (uc + jc) (us + js) Qw (F0 m (pc + 3) lc (cv.toList ++ cr))) :
    W p l e R s m args below meth c H locs uc us Qw (F0 m pc lc sc) := by
  intro T hT X
  obtain ⟨v, st₀, t, T', L, h0, X', hL, e1, e2, ⟨w', ws', tys', hE, ho⟩, st⟩ := hr T hT X
  rcases ho with ⟨v', cv, ho, hv, hq⟩ | ⟨n, q, ce, ho, -⟩
  · cases ho
    have hal : s.vm.Alike t.vm := by rw [← e2]; exact X'.warmed.alike
    have hS1 := am_keep hA hD hS hL h0 e1.symm hE.2.2.2.2.2.2
    obtain ⟨g1, g2, g3, g4, g5, g6⟩ := am_behind hb1 hb2 (am_AA hA hD hS) hS1 e1.symm hal hE
    obtain ⟨t2, a1, b1⟩ := kk v' v w' ws' tys' T'.heap (locs ++ L) hq hv g1 g2 g3 g4 hS1 g5 g6 T' rfl X'
    exact ⟨t2, st t2 a1, b1⟩
  · cases ho
/-- what a callee's start asks, out of the caller's state -/
theorem am_start {H : Heap} {locs : List Loc} {ws : va_W} {tys : List (ClassId × FieldType)} {w : am_W} {U : State} {cas : List Value} (hroot : am_Root s0 s) (hAs : ∀ (q : Nat) (cell : Cell), s.heap[q]? = some cell → cell.vm.isStatics = true → ¬ A q) (hb1 : bS < s.heap.size) (hb2 : ¬ A bS)
    (hP : va_P D cl ws H) (hK : va_K D cl tys s) (hD : va_D A ws) (hS : va_S A s.heap H locs) (hX : va_X bS w.2.2.2.1 w.2.2.2.2 s s.heap) (hh : U.heap = H) (hW : s.WarmedH U.vm) :
    va_Pc cas (am_Pre s0 D cl bS ws tys w H.size) cas.toArray U := by
  refine ⟨rfl, by rw [hh], by rw [hh]; exact hP, va_K.moved hW.alike hK, hD.weaken (fun _ _ _ _ => trivial), ?_, hroot.step hW fun q cell h1 h2 => ?_⟩
  · exact (va_X.moved hW.alike hX).kept (by rw [hh]; exact hS.2.1 bS hb1 hb2)
  · rw [hh, hS.2.1 q (Array.getElem?_eq_some_iff.mp h1).1 (hAs q cell h1 h2)]
    exact h1
/-- a call of a method that doesn't throw: static, or a constructor -/
theorem ok_inv {y : MethodName} {wy : List Cond} {rm : Room} {mj na jc js : Nat} (hml : c.maxLocals = nL) (hb1 : bS < s.heap.size) (hb2 : ¬ A bS) (hA : ∀ q, s.heap.size ≤ q → A q) (hroot : am_Root s0 s) (hAs : ∀ (q : Nat) (cell : Cell), s.heap[q]? = some cell → cell.vm.isStatics = true → ¬ A q) (hmc : R.cells = mc) (hms : R.slots = ms)
    (hC : ∀ as w Q', C mj as w Q' → am_Con l s0 ex cl y wy rm jc js as w Q')
    (hrun : ∀ (Pc : Array Value → State → Prop) (Qc : Array Value → State → Outcome → State → Prop) (free : Addr → Prop) (H : Heap) (locs : List Loc) (uc us : Nat) (lc : Array Slot) (cas cr : List Value), Met l y wy rm Pc Qc jc js free → FrameBlind Pc → (∀ U : State, U.heap = H → s.WarmedH U.vm → Pc cas.toArray U) → cas.length = na → lc.size = nL → (cr.map fun v => v.category).sum ≤ 8 → uc + jc ≤ R.cells → us + js ≤ R.slots →
      va_Run p l e R s m args below meth c H locs uc us jc js (F0 m pc lc (cas.reverse ++ cr)) cr (Qc cas.toArray) free) :
    am_Snd (am_Good p l e R s m args below meth c ex D cl A bS ad0 nL mc ms Q) C Q pc (am_inv (pc + 3) mj na jc js mc ms) := by
  rintro Z ls st w uc us hZ ⟨as, r, Q', rfl, hn, hr, h1, h2, hc, kk, kx⟩ H locs ws tys lc sc hR hP hK hD hS ha hl hs hX
  dsimp only at hs ⊢
  obtain ⟨q1, cr, rfl, hv1, hs1⟩ := am_V_app hs
  have hv := am_V_rev hv1
  rw [List.reverse_reverse] at hv
  have hM := (hC as w Q' hc).met kx (D := D) (bS := bS) (sz := H.size) hR hv (fun q => hb2 (am_AA hA hD hS _ q))
  have hgo := hrun _ _ _ H locs uc us lc q1.reverse cr hM am_Pre.blind (fun U hU9 hW => am_start hroot hAs hb1 hb2 hP hK hD hS hX hU9 hW) (by rw [am_V_len hv]; exact hn) hl.1 (by rw [am_V_cat hs1]; exact hr) (by omega) (by omega)
  rw [List.reverse_reverse] at hgo
  exact am_callW hgo hb1 hb2 hA hD hS fun v cv w' ws' tys' H1 locs1 hq hv9 hR9 hP9 hK9 hD9 hS9 hp9 hX9 => hZ _ (kk v w' hq) H1 locs1 ws' tys' lc _ hR9 hP9 hK9 hD9 hS9 (ha.trans hp9) (am_L_mono hp9 hl) (am_V_join hv9 (am_V_mono hp9 hs1)) hX9
/-- .. on an object of class ci -/
theorem ok_invV {y : MethodName} {wy : List Cond} {rm : Room} {mj na ci jc js : Nat} {r0 : vw_C} (hml : c.maxLocals = nL) (hb1 : bS < s.heap.size) (hb2 : ¬ A bS) (hA : ∀ q, s.heap.size ≤ q → A q) (hroot : am_Root s0 s) (hAs : ∀ (q : Nat) (cell : Cell), s.heap[q]? = some cell → cell.vm.isStatics = true → ¬ A q) (hmc : R.cells = mc) (hms : R.slots = ms)
    (hcl : cl[ci]? = some r0) (hC : ∀ as w Q', C mj as w Q' → am_Con l s0 ex cl y wy rm jc js as w Q')
    (hrun : ∀ (Pc : Array Value → State → Prop) (Qc : Array Value → State → Outcome → State → Prop) (free : Addr → Prop) (H : Heap) (locs : List Loc) (uc us : Nat) (lc : Array Slot) (b : Nat) (cas cr : List Value), Met l y wy rm Pc Qc jc js free → PreV s H r0.1 b Pc cas → cas.length = na → lc.size = nL → (cr.map fun v => v.category).sum ≤ 8 → uc + jc ≤ R.cells → us + js ≤ R.slots →
      va_Run p l e R s m args below meth c H locs uc us jc js (F0 m pc lc (cas.reverse ++ .ref b :: cr)) cr (Qc (Value.ref b :: cas).toArray) free) :
    am_Snd (am_Good p l e R s m args below meth c ex D cl A bS ad0 nL mc ms Q) C Q pc (am_invV (pc + 3) mj na ci jc js mc ms) := by
  rintro Z ls st w uc us hZ ⟨k, n, q9, as, r, Q', rfl, hn, hk, hr, h1, h2, hc, kk, kx⟩ H locs ws tys lc sc hR hP hK hD hS ha hl hs hX
  dsimp only at hs ⊢
  obtain ⟨q1, cr0, rfl, hv1, hs1⟩ := am_V_app hs
  obtain ⟨b, cr, rfl, hb9, hs2⟩ := am_V_ref hs1
  obtain ⟨e9, h3, fs, rfl, -, -⟩ := am_R_at hR hk hb9
  have hv0 := am_V_rev hv1
  rw [List.reverse_reverse] at hv0
  have hv : am_V (ws.map Prod.fst) bS (.ref k :: as) (.ref b :: q1.reverse) := ⟨⟨b, hb9, rfl⟩, hv0⟩
  have hM := (hC (.ref k :: as) w Q' hc).met kx (D := D) (bS := bS) (sz := H.size) hR hv (fun q => hb2 (am_AA hA hD hS _ q))
  have hgo := hrun _ _ _ H locs uc us lc b q1.reverse cr hM ⟨am_Pre.blind, va_recv hK hP hcl h3, fun U hU9 hW => am_start hroot hAs hb1 hb2 hP hK hD hS hX hU9 hW⟩ (by rw [am_V_len hv0]; exact hn) hl.1 (by rw [am_V_cat hs2]; exact hr) (by omega) (by omega)
  rw [List.reverse_reverse] at hgo
  exact am_callW hgo hb1 hb2 hA hD hS fun v cv w' ws' tys' H1 locs1 hq hv9 hR9 hP9 hK9 hD9 hS9 hp9 hX9 => hZ _ (kk v w' hq) H1 locs1 ws' tys' lc _ hR9 hP9 hK9 hD9 hS9 (ha.trans hp9) (am_L_mono hp9 hl) (am_V_join hv9 (am_V_mono hp9 hs2)) hX9
end AMK
end
section
/-! throws, calls of methods that throw, switches: sound -/
section AMT
variable {p : Program} {l : Launch} {e : Env} {R : Room} {s : State} {m : MethodId} {args : Array Value} {below : List Frame} {meth : Method} {c : Code}
variable {s0 : State} {ex : Nat → String} {D : va_G} {cl : List vw_C} {A : Nat → Prop} {bS : Nat} {ad0 : List Nat} {nL mc ms : Nat} {Q : am_Q} {C : am_C} {cc : ByteArray} {pc nx : Nat} {Ts : List Cond} {own : String}
theorem ok_switch {dflt lo hi : Int} {offs : Array Int} {len : Nat} {tgs : List Nat} {dt : Nat} (hx : p.tables.exec = Jvm.exec) (hb : c.code = cc) (hd : decode cc pc = .ok (.tableswitch dflt lo hi offs, len)) (hhi : hi + 1 = lo + tgs.length) (hdt : (pc : Int) + dflt = (dt : Int)) (ht : ∀ (k tg : Nat), tgs[k]? = some tg → ∃ off : Int, offs[k]? = some off ∧ (pc : Int) + off = (tg : Int)) :
    am_Snd (am_Good p l e R s m args below meth c ex D cl A bS ad0 nL mc ms Q) C Q pc (am_switch lo tgs dt) := by
  rintro Z ls st w uc us hZ ⟨x, r, rfl, h1, h2⟩ H locs ws tys lc sc hR hP hK hD hS ha hl hs hX
  obtain ⟨r', rfl, hs1⟩ := am_V_int hs
  by_cases ho : x.toInt < lo ∨ lo + tgs.length ≤ x.toInt
  · exact lv_tableOut hx hb hd (by omega) hdt (hZ _ (h1 ho) H locs ws tys lc _ hR hP hK hD hS ha hl hs1 hX)
  · have hk : (x.toInt - lo).toNat < tgs.length := by omega
    obtain ⟨off, h3, h4⟩ := ht _ _ (List.getElem?_eq_getElem hk)
    exact lv_tableIn hx hb hd (by omega) (by omega) h3 h4 (hZ _ (h2 (x.toInt - lo).toNat _ (by omega) (List.getElem?_eq_getElem hk)) H locs ws tys lc _ hR hP hK hD hS ha hl hs1 hX)
/-- the walked frame, as if its method had been called in the heap that is there now -/
theorem ax_rebase {T : State} {locs : List Loc} {cells slots : Nat} (X : Stand p l e R s m args below meth c T locs cells slots) {R' : Room} (hf : R'.frames ≤ R.frames) (hl : R'.locals ≤ R.locals) (hc : cells + R'.cells ≤ R.cells) (hs : slots + R'.slots ≤ R.slots) :
    Stand p l e R' ((T.setVm s.vm).setFrames (.invoking m args :: below)) m args below meth c T [] 0 0 := by
  have htop : (T.setVm s.vm).topJava?.isSome := X.here.top
  have hF : ((T.setVm s.vm).setFrames (.invoking m args :: below)).frames = .invoking m args :: below := State.frames_setFrames _ (State.cur_lt_of_top htop)
  have hlim : e.platform.stackLimits (T.setVm s.vm).me = e.platform.stackLimits s.me := X.limits
  have hbyt : (T.setVm s.vm).me.stackBytes = s.me.stackBytes := X.bytes
  have hin : ((T.setVm s.vm).setFrames (.invoking m args :: below)).localsInUse = s.localsInUse := by
    rw [State.localsInUse_invoking hF (meth := meth) (c := c) X.method X.code, State.localsInUse_invoking X.frames X.method X.code]
  have hnew : (T.heap.toList.drop T.heap.size) = [] := List.drop_eq_nil_of_le (Nat.le_of_eq Array.length_toList)
  refine { admits := X.admits, cas := X.cas, clock := X.clock, frames := hF, room := ?_, hears := X.hears, method := X.method, code := X.code, here := X.here, tail := X.tail, warmed := X.warmed, limits := ?_, bytes := ?_, same := ⟨?_, Nat.le_refl _, Nat.le_refl _, ?_, ?_, fun a c9 h9 => ⟨c9, h9, rfl, rfl, fun _ _ => rfl⟩⟩ }
  · have hr := X.room
    have q1 := X.heapSize
    have q2 := X.used
    have hlen : s.frames.length = below.length + 1 := by rw [X.frames]; rfl
    simp only [State.hasRoom, Bool.and_eq_true, decide_eq_true_eq] at hr ⊢
    simp only [hF, hin, List.length_cons, State.stackLimits_setFrames, State.stackBytes_setFrames, hlim, hbyt]
    obtain ⟨⟨⟨⟨r1, r2, r3, r4, r5, r6⟩, r7⟩, r8⟩, -⟩ := hr
    refine ⟨⟨⟨⟨by omega, by omega, by omega, by omega, by omega, r6⟩, ?_⟩, ?_⟩, X.book⟩
    · show T.heap.size + R'.cells ≤ _
      omega
    · show T.slotsUsed + R'.slots ≤ _
      omega
  · rw [State.stackLimits_setFrames]; rfl
  · rw [State.stackBytes_setFrames]; rfl
  · obtain ⟨g₀, hg0⟩ := Option.isSome_iff_exists.mp htop
    obtain ⟨r, hr⟩ := State.topJava?_eq_some.mp hg0
    obtain ⟨t, ht, -⟩ := State.frames_cons hr
    show T.setVm s.vm = { ((T.setVm s.vm).setFrames (.invoking m args :: below)).setFrames (T.setVm s.vm).frames with heap := T.heap, slotsUsed := T.slotsUsed }
    rw [State.setFrames_setFrames, State.setFrames_self ht]
    rfl
  · show T.slotsUsed = T.slotsUsed + ((T.heap.toList.drop T.heap.size).map (·.slots.size)).sum
    rw [hnew]; rfl
  · show ((T.heap.toList.drop T.heap.size).map (·.slots.size)).sum ≤ 0
    rw [hnew]; exact Nat.le_refl _
/-- nothing written: the old cells stay -/
theorem ax_same {st U : State} {k n : Nat} (h : st.sameButNew ({ U with vm := st.vm } : State) [] k n) : st.heap.size ≤ U.heap.size ∧ ∀ q : Nat, q < st.heap.size → U.heap[q]? = st.heap[q]? := by
  obtain ⟨-, h2, -, -, -, h6⟩ := h
  refine ⟨h2, fun q hq => ?_⟩
  obtain ⟨c9, e1, e2, e3, e4⟩ := h6 q _ (Array.getElem?_eq_getElem hq)
  have hsl : c9.slots = (st.heap[q]).slots := Array.ext_getElem? fun i => e4 i (fun hm => by cases hm)
  have h9 : c9 = st.heap[q] := by
    rw [hsl] at e2
    exact e2
  have e5 : U.heap[q]? = some c9 := e1
  rw [e5, h9, Array.getElem?_eq_getElem hq]
/-- throw new E() -/
theorem ok_throw {cls : String} {names : List String} {ik ic E : Nat} (hx : p.tables.exec = Jvm.exec) (hb : c.code = cc) (hst : l.stackTraces = false) (hts : ∀ U : State, am_Root s0 U → ∀ w ∈ Ts, w.before args U = true) (hown : s.vm.findClass own = some m.cls) (hml : c.maxLocals = nL) (hlocks : meth.locks = false) (hout : c.exceptionTable.toList = []) (hmc : R.cells = mc) (hms : R.slots = ms) (hb1 : bS < s.heap.size) (hb2 : ¬ A bS) (hroot : am_Root s0 s) (hAs : ∀ (q : Nat) (cell : Cell), s.heap[q]? = some cell → cell.vm.isStatics = true → ¬ A q)
    (hex : ex E = cls) (hcls : Bundle.fit cls = true) (hnames : ∀ n ∈ names, Bundle.fit n = true) (hk : Cond.classLink own ik cls ∈ Ts) (hini : Cond.initialized cls ∈ Ts) (hinst : Cond.instantiable cls 6 ∈ Ts) (hat : ∀ U : State, am_Root s0 U → ∀ w ∈ Bundle.ownAtoms0 own ic cls names, w.before args U = true)
    (hRf : names.length + 3 < R.frames) (hRl : 8 + (13 * (names.length + 1) + 42) ≤ R.locals) (d0 : decode cc pc = .ok (.new ik, 3)) (d3 : decode cc (pc + 3) = .ok (.dup, 1)) (d4 : decode cc (pc + 4) = .ok (.invokespecial ic, 3)) (d7 : decode cc (pc + 7) = .ok (.athrow, 1)) :
    am_Snd (am_Good p l e R s m args below meth c ex D cl A bS ad0 nL mc ms Q) C Q pc (am_throw E mc ms) := by
  rintro Z ls st w uc us hZ ⟨h1, h2, h3, h⟩ H locs ws tys lc sc hR hP hK hD hS ha hl hs hX
  dsimp only at hR hs hl hX ⊢
  intro T hT X
  have htr : e.platform.stackTraces = false := (show e.platform.stackTraces = l.stackTraces by rw [X.admits.platform]).trans hst
  have Y := ax_rebase X (R' := { frames := R.frames, locals := R.locals, cells := 1, slots := 6 }) (Nat.le_refl _) (Nat.le_refl _) (by show uc + 1 ≤ _; omega) (by show us + 6 ≤ _; omega)
  obtain ⟨s', hs'⟩ : ∃ z, z = (T.setVm s.vm).setFrames (.invoking m args :: below) := ⟨_, rfl⟩
  rw [← hs'] at Y
  have hvm : s'.vm = s.vm := by rw [hs']; rfl
  have hhp : s'.heap = H := by rw [hs']; exact hT
  have hW0 : s.WarmedH s'.vm := by rw [hvm]; exact State.WarmedH.refl s
  have hroot' : am_Root s0 s' := hroot.step hW0 fun q cell q1 q2 => by
    rw [hhp, hS.2.1 q (Array.getElem?_eq_some_iff.mp q1).1 (hAs q cell q1 q2)]
    exact q1
  have hown' : s'.vm.findClass own = some m.cls := by rw [hvm]; exact hown
  obtain ⟨vm₁, cX, kX, hfX, hkX, -, -, X₁, st1⟩ := Y.newCold hx (own := own) (C := cls) (index := ik) (n := 6) hown' (hts s' hroot' _ hk) (hts s' hroot' _ hinst) (hts s' hroot' _ hini) (g := F0 m pc lc sc) rfl (by rw [hb]; exact d0) (Nat.le_refl _) (Nat.le_refl _)
  obtain ⟨T1, hT1⟩ : ∃ z, z = (T.setVm vm₁).pushCell { cls := cX, slots := kX.instanceTypes.map defaultValue, vm := .none } := ⟨_, rfl⟩
  rw [← hT1] at X₁ st1
  have hcell : T1.heap[T.heap.size]? = some (freshCell cX kX) := by rw [hT1]; exact State.heap_pushCell_size _ _
  have d3' : decode c.code (pc + 3) = .ok (.dup, 1) := by rw [hb]; exact d3
  obtain ⟨U, hsteps, hrun, hend, hW, hsame, ce, hce, hO⟩ := X₁.ctorThrow0 hx htr (own := own) (cls := cls) (names := names) (ic := ic) hown' hcls hnames (hat s' hroot') (fun x hx9 => nomatch hx9) hfX hkX hcell (by rw [hhp, hT]; exact Nat.le_refl _)
    (g := { method := m, pc := pc + 4, locals := lc, stack := .ref T.heap.size :: .ref T.heap.size :: sc, locked := none }) rfl (by rw [hml]; exact hl.1) rfl rfl (rest := sc) rfl
    (by rw [hb]; exact d4) (by rw [hb]; exact d7) (fun x hx9 => by rw [hout] at hx9; cases hx9) hRf (by rw [List.map_cons, List.sum_cons, am_V_cat hs]; show 2 * 0 + (1 + _) + _ ≤ R.locals; omega) hlocks
  obtain ⟨f1, f2⟩ := ax_same hsame
  rw [hhp] at f1 f2
  have hWs : s.WarmedH U.vm := State.WarmedH.trans hW0 hW
  have hall : s.sameButNew ({ U with vm := s.vm } : State) locs mc ms := by
    subst hs'
    obtain ⟨e1, e2⟩ := hsame
    rw [State.setFrames_setFrames] at e1
    have g2 : (T.setVm s.vm).sameButNew ({ U with vm := s.vm } : State) [] (0 + 1) (0 + 6) := ⟨e1, e2⟩
    have g3 := X.same.trans g2
    rw [List.append_nil] at g3
    exact g3.mono (by omega) (by omega)
  have hSU : va_S A s.heap U.heap locs := ⟨Nat.le_trans hS.1 f1, fun q q1 q2 => by rw [f2 q (Nat.lt_of_lt_of_le q1 hS.1)]; exact hS.2.1 q q1 q2, hS.2.2⟩
  have hcl : U.vm.findClass (ex E) = some ce.cls := by
    have h9 := hO.cls
    rw [hex, hWs.alike.findClass, ← hvm]
    exact h9
  refine ⟨U, st1 _ ?_, .threw T.heap.size, hrun, hend, ⟨w, ws, tys, am_end hb1 hb2 hR (hP.kept fun k x hx9 => f2 x.1 (hP k x hx9).lt) hK hD hSU ha hX rfl hWs.alike, Or.inr ⟨E, T.heap.size, ce, rfl, h, hce, hO.vm, hcl⟩⟩, hWs, locs, hall, hS.2.2⟩
  show Steps p.tables e below (T1.setTop { method := m, pc := pc + 3, locals := lc, stack := .ref T.heap.size :: sc, locked := none }) _
  jvm_step X₁.here [X₁.here.top, hx, d3', Value.category]
  exact hsteps
end AMT
end
section
/-! calls of methods that may throw: sound, with handlers and without -/
section AMU
variable {p : Program} {l : Launch} {e : Env} {R : Room} {s : State} {m : MethodId} {args : Array Value} {below : List Frame} {meth : Method} {c : Code}
variable {s0 : State} {ex : Nat → String} {D : va_G} {cl : List vw_C} {A : Nat → Prop} {bS : Nat} {ad0 : List Nat} {nL mc ms : Nat} {Q : am_Q} {C : am_C} {cc : ByteArray} {pc nx : Nat} {Ts : List Cond} {own : String}
/-- the method's frame g, with q thrown over it -/
def ax_W (p : Program) (l : Launch) (e : Env) (R : Room) (s : State) (m : MethodId) (args : Array Value) (below : List Frame) (meth : Method) (c : Code) (H : Heap) (locs : List Loc) (cells slots : Nat) (Q : State → Prop) (g : JFrame) (q : Addr) : Prop :=
  ∀ T : State, T.heap = H → Stand p l e R s m args below meth c T locs cells slots → ∃ t, Steps p.tables e below ((T.setTop g).pushFrame (.throwing q)) t ∧ Q t
theorem am_callX {Qw : State → Prop} {Q' : am_Q} {y : MethodName} {wy : List Cond} {rm : Room} {bytes : ByteArray} {maxL index na jc js k : Nat} {ret : Option FieldType} {r0 : String} {as : List Value} {w : am_W} {H : Heap} {locs : List Loc} {ws : va_W} {tys : List (ClassId × FieldType)} {lc : Array Slot} {b : Nat} {cas cr : List Value} {uc us : Nat}
    (hx : p.tables.exec = Jvm.exec) (hb : c.code = cc) (hml : c.maxLocals = nL) (hown : s.vm.findClass own = some m.cls) (hb1 : bS < s.heap.size) (hb2 : ¬ A bS) (hA : ∀ q, s.heap.size ≤ q → A q) (hroot : am_Root s0 s) (hAs : ∀ (q : Nat) (cell : Cell), s.heap[q]? = some cell → cell.vm.isStatics = true → ¬ A q)
    (hCon : am_Con l s0 ex cl y wy rm jc js (.ref k :: as) w Q') (cw : CallW R s args own r0 index y bytes maxL ret wy rm jc js na) (hd : decode cc pc = .ok (.invokevirtual index, 3))
    (hR : am_R w ws tys) (hP : va_P D cl ws H) (hK : va_K D cl tys s) (hD : va_D A ws) (hS : va_S A s.heap H locs) (hX : va_X bS w.2.2.2.1 w.2.2.2.2 s s.heap)
    (hv : am_V (ws.map Prod.fst) bS (.ref k :: as) (.ref b :: cas)) (hrecv : ∃ cellB : Cell, H[b]? = some cellB ∧ cellB.vm.isStatics = false ∧ s.vm.findClass r0 = some cellB.cls) (hn : cas.length = na) (hsz : lc.size = nL) (hcat : (cr.map fun v => v.category).sum ≤ 8) (h1 : uc + jc ≤ R.cells) (h2 : us + js ≤ R.slots)
    (kk : ∀ (v cv : Option Value) (w' : am_W) (ws' : va_W) (tys' : List (ClassId × FieldType)) (H1 : Heap) (locs1 : List Loc), Q' (.inl v) w' → am_V (ws'.map Prod.fst) bS v.toList cv.toList → am_R w' ws' tys' → va_P D cl ws' H1 → va_K D cl tys' s → va_D A ws' → va_S A s.heap H1 locs1 → ws.map Prod.fst <+: ws'.map Prod.fst → va_X bS w'.2.2.2.1 w'.2.2.2.2 s s.heap →
      W p l e R s m args below meth c H1 locs1 (uc + jc) (us + js) Qw (F0 m (pc + 3) lc (cv.toList ++ cr)))
    (kx : ∀ (n : Nat) (w' : am_W) (ws' : va_W) (tys' : List (ClassId × FieldType)) (H1 : Heap) (locs1 : List Loc) (q : Addr) (ce : Cell), Q' (.inr n) w' → am_R w' ws' tys' → va_P D cl ws' H1 → va_K D cl tys' s → va_D A ws' → va_S A s.heap H1 locs1 → ws.map Prod.fst <+: ws'.map Prod.fst → va_X bS w'.2.2.2.1 w'.2.2.2.2 s s.heap →
      H1[q]? = some ce → ce.vm = .none → s.vm.findClass (ex n) = some ce.cls → ax_W p l e R s m args below meth c H1 locs1 (uc + jc) (us + js) Qw (F0 m pc lc cr) q) :
    W p l e R s m args below meth c H locs uc us Qw (F0 m pc lc (cas.reverse ++ .ref b :: cr)) := by
  intro T hT X
  obtain ⟨⟨hrc, hrs, hfr, hlo, hws, hcw, hcode, hini, hy, hlen, hl⟩, hin, hse⟩ := cw
  obtain ⟨cellB, hcB, hoB, hclB⟩ := hrecv
  obtain ⟨mk, methM, hnamed, hmethM, hstM, habM⟩ := Cond.instanceMethod_spec hin
  obtain ⟨methM', cM, hmethM', -, -, -, -, -, -, hsigM⟩ := Cond.code_spec hnamed hcode
  cases hmethM.symm.trans hmethM'
  obtain ⟨c2, r2, m2, q1, q2, q3, q4, kP, hkP, hkPi⟩ := Cond.selects_spec hse
  cases hclB.symm.trans q1
  cases (State.methodFound?_of_named hnamed hy).symm.trans q2
  cases hnamed.symm.trans q3
  have hselP : selectMethod e.platform s.vm cellB.cls mk = .method mk := by rw [Launch.admits_selectMethod X.admits]; exact q4
  obtain ⟨vm₁, X₁, hstep₁⟩ := X.invokevirtual hx hown hl hnamed hmethM hstM hkP hkPi hy (a := b) (cell := cellB) (by rw [hT]; exact hcB) (fun z h => by rw [h] at hoB; cases hoB) hselP hmethM habM hkP hkPi (g := F0 m pc lc (cas.reverse ++ .ref b :: cr)) rfl (argsL := cas) (rest := cr) (hn.trans (hlen _ hsigM)) rfl (by rw [hb]; exact hd)
  have hM := hCon D bS H.size ws tys (.ref b :: cas) hR hv (fun q => hb2 (am_AA hA hD hS _ q))
  have hst0 : va_Pc (.ref b :: cas) (am_Pre s0 D cl bS ws tys w H.size) (Value.ref b :: cas).toArray (T.setVm vm₁) := am_start hroot hAs hb1 hb2 hP hK hD hS hX (by exact hT) X₁.warmed
  obtain ⟨o, t, L, hpo, hL, X2, hsteps⟩ := ax_into hM X₁ (g := F0 m pc lc cr) rfl (by rw [hml]; exact hsz) (by rw [hb]; exact hd) (X₁.named hnamed) (by show 2 * 0 + (cr.map fun v => v.category).sum ≤ 8; omega) hfr hlo (by rw [hrc]; exact h1) (by rw [hrs]; exact h2)
    (fun w hw => hws w hw _ _ X₁.warmed) (hws _ hcw _ _ X₁.warmed) (word_at X₁.warmed (Or.inl (by first | rfl | simp [Cond.onTables, Cond.keeps, Cond.steady])) hini) (am_Pre.blind _ _ _ _ hst0)
  generalize hV : (({ (T.setVm vm₁) with heap := t.heap, slotsUsed := t.slotsUsed } : State).setVm t.vm) = V at X2 hsteps
  have hVh : V.heap = t.heap := by rw [← hV]; rfl
  have hVv : V.vm = t.vm := by rw [← hV]; rfl
  obtain ⟨w', ws', tys', hE, ho⟩ := hpo
  have hal : s.vm.Alike t.vm := by rw [← hVv]; exact X2.warmed.alike
  have hS1 : va_S A s.heap t.heap (locs ++ L) := am_keep hA hD hS hL (by show T.heap = H; exact hT) rfl hE.2.2.2.2.2.2
  obtain ⟨g1, g2, g3, g4, g5, g6⟩ := am_behind hb1 hb2 (am_AA hA hD hS) hS1 rfl hal hE
  rcases ho with ⟨v, cv, rfl, hv9, hq⟩ | ⟨n, q, ce, rfl, hq, hce, hcv, hcl⟩
  · rcases hsteps with ⟨v9, ho9, st9⟩ | ⟨q9, ho9, -⟩
    · cases ho9
      obtain ⟨t2, a1, b1⟩ := kk v cv w' ws' tys' t.heap (locs ++ L) hq hv9 g1 g2 g3 g4 hS1 g5 g6 V hVh X2
      exact ⟨t2, hstep₁ _ fun acts => by rw [doInvoke_state]; exact st9.trans a1, b1⟩
    · cases ho9
  · rcases hsteps with ⟨v9, ho9, -⟩ | ⟨q9, ho9, st9⟩
    · cases ho9
    · cases ho9
      obtain ⟨t2, a1, b1⟩ := kx n w' ws' tys' t.heap (locs ++ L) q ce hq g1 g2 g3 g4 hS1 g5 g6 hce hcv (by rw [← hal.findClass]; exact hcl) V hVh X2
      exact ⟨t2, hstep₁ _ fun acts => by rw [doInvoke_state]; exact st9.trans a1, b1⟩
/-- a call that may throw, no handler here -/
theorem ok_invX {y : MethodName} {wy : List Cond} {rm : Room} {bytes : ByteArray} {maxL index mj na ci jc js : Nat} {ret : Option FieldType} {r0 : vw_C} (hx : p.tables.exec = Jvm.exec) (hb : c.code = cc) (hml : c.maxLocals = nL) (hown : s.vm.findClass own = some m.cls) (hlocks : meth.locks = false) (hout : c.exceptionTable.toList = []) (hb1 : bS < s.heap.size) (hb2 : ¬ A bS) (hA : ∀ q, s.heap.size ≤ q → A q) (hroot : am_Root s0 s) (hAs : ∀ (q : Nat) (cell : Cell), s.heap[q]? = some cell → cell.vm.isStatics = true → ¬ A q) (hmc : R.cells = mc) (hms : R.slots = ms)
    (hcl : cl[ci]? = some r0) (hC : ∀ as w Q', C mj as w Q' → am_Con l s0 ex cl y wy rm jc js as w Q') (cw : CallW R s args own r0.1 index y bytes maxL ret wy rm jc js na) (hd : decode cc pc = .ok (.invokevirtual index, 3)) :
    am_Snd (am_Good p l e R s m args below meth c ex D cl A bS ad0 nL mc ms Q) C Q pc (am_invX (pc + 3) mj na ci jc js mc ms) := by
  rintro Z ls st w uc us hZ ⟨k, n, q9, as, r, Q', rfl, hn, hk, hr, h1, h2, hc, kk, kx⟩ H locs ws tys lc sc hR hP hK hD hS ha hl hs hX
  dsimp only at hs ⊢
  obtain ⟨q1, cr0, rfl, hv1, hs1⟩ := am_V_app hs
  obtain ⟨b, cr, rfl, hb9, hs2⟩ := am_V_ref hs1
  obtain ⟨e9, h3, fs, rfl, -, -⟩ := am_R_at hR hk hb9
  have hv0 := am_V_rev hv1
  rw [List.reverse_reverse] at hv0
  have hv : am_V (ws.map Prod.fst) bS (.ref k :: as) (.ref b :: q1.reverse) := ⟨⟨b, hb9, rfl⟩, hv0⟩
  have hgo := am_callX (cas := q1.reverse) (cr := cr) (lc := lc) (uc := uc) (us := us) (Qw := ax_MQ below (am_Po ex D cl A bS ad0 Q) args s mc ms A) hx hb hml hown hb1 hb2 hA hroot hAs (hC _ w Q' hc) cw hd hR hP hK hD hS hX hv (va_recv hK hP hcl h3) (by rw [am_V_len hv0]; exact hn) hl.1 (by rw [am_V_cat hs2]; exact hr) (by omega) (by omega)
    (fun v cv w' ws' tys' H1 locs1 hq hv9 hR9 hP9 hK9 hD9 hS9 hp9 hX9 => hZ _ (kk v w' hq) H1 locs1 ws' tys' lc _ hR9 hP9 hK9 hD9 hS9 (ha.trans hp9) (am_L_mono hp9 hl) (am_V_join hv9 (am_V_mono hp9 hs2)) hX9)
    (fun n w' ws' tys' H1 locs1 q ce hq hR9 hP9 hK9 hD9 hS9 hp9 hX9 g1 g2 g3 T9 hT9 X9 => by
      obtain ⟨st9, hrun, hend, hW9, hsame⟩ := X9.leaveThrown q (g := F0 m pc lc cr) rfl rfl rfl (fun x hx9 => by rw [hout] at hx9; cases hx9) hlocks
      have hh : (T9.setFrames (.throwing q :: below)).heap = H1 := hT9
      exact ⟨_, st9, .threw q, hrun, hend, ⟨w', ws', tys', am_end hb1 hb2 hR9 hP9 hK9 hD9 hS9 (ha.trans hp9) hX9 hh hW9.alike, Or.inr ⟨n, q, ce, rfl, kx n w' hq, by rw [hh]; exact g1, g2, by rw [hW9.alike.findClass]; exact g3⟩⟩, hW9, _, hsame.mono (by omega) (by omega), hS9.2.2⟩)
  rw [List.reverse_reverse] at hgo
  exact hgo
end AMU
end
section
/-! a call under handlers; new int[n][k]: sound -/
section AMV
variable {p : Program} {l : Launch} {e : Env} {R : Room} {s : State} {m : MethodId} {args : Array Value} {below : List Frame} {meth : Method} {c : Code}
variable {s0 : State} {ex : Nat → String} {D : va_G} {cl : List vw_C} {A : Nat → Prop} {bS : Nat} {ad0 : List Nat} {nL mc ms : Nat} {Q : am_Q} {C : am_C} {cc : ByteArray} {pc nx : Nat} {Ts : List Cond} {own : String}
theorem ok_invH {y : MethodName} {wy : List Cond} {rm : Room} {bytes : ByteArray} {maxL index mj na ci jc js : Nat} {ret : Option FieldType} {r0 : vw_C} {hh : List (Nat × Nat)} (hx : p.tables.exec = Jvm.exec) (hb : c.code = cc) (hml : c.maxLocals = nL) (hown : s.vm.findClass own = some m.cls) (hb1 : bS < s.heap.size) (hb2 : ¬ A bS) (hA : ∀ q, s.heap.size ≤ q → A q) (hroot : am_Root s0 s) (hAs : ∀ (q : Nat) (cell : Cell), s.heap[q]? = some cell → cell.vm.isStatics = true → ¬ A q) (hmc : R.cells = mc) (hms : R.slots = ms)
    (hcl : cl[ci]? = some r0) (hC : ∀ as w Q', C mj as w Q' → am_Con l s0 ex cl y wy rm jc js as w Q') (cw : CallW R s args own r0.1 index y bytes maxL ret wy rm jc js na) (hd : decode cc pc = .ok (.invokevirtual index, 3))
    (hcatch : ∀ E h : Nat, am_hand E hh = some h → ∃ (pre : List ExceptionTableEntry) (x : ExceptionTableEntry) (suf : List ExceptionTableEntry), c.exceptionTable.toList = pre ++ x :: suf ∧ covers x pc = true ∧ x.handlerPc = h ∧ x.catchType ≠ 0 ∧ (Cond.classLink own x.catchType (ex E)).before args s = true ∧ (Cond.castable (ex E) (ex E)).before args s = true ∧
      ∀ z ∈ pre, z.catchType ≠ 0 ∧ ∃ nm : String, (Cond.classLink own z.catchType nm).before args s = true ∧ va_Nc (ex E) nm s) :
    am_Snd (am_Good p l e R s m args below meth c ex D cl A bS ad0 nL mc ms Q) C Q pc (am_invH (pc + 3) mj na ci jc js mc ms hh) := by
  rintro Z ls st w uc us hZ ⟨k, n, q9, as, r, Q', rfl, hn, hk, hr, h1, h2, hc, kk, kx⟩ H locs ws tys lc sc hR hP hK hD hS ha hl hs hX
  dsimp only at hs ⊢
  obtain ⟨q1, cr0, rfl, hv1, hs1⟩ := am_V_app hs
  obtain ⟨b, cr, rfl, hb9, hs2⟩ := am_V_ref hs1
  obtain ⟨e9, h3, fs, rfl, -, -⟩ := am_R_at hR hk hb9
  have hv0 := am_V_rev hv1
  rw [List.reverse_reverse] at hv0
  have hv : am_V (ws.map Prod.fst) bS (.ref k :: as) (.ref b :: q1.reverse) := ⟨⟨b, hb9, rfl⟩, hv0⟩
  have hgo := am_callX (cas := q1.reverse) (cr := cr) (lc := lc) (uc := uc) (us := us) (Qw := ax_MQ below (am_Po ex D cl A bS ad0 Q) args s mc ms A) hx hb hml hown hb1 hb2 hA hroot hAs (hC _ w Q' hc) cw hd hR hP hK hD hS hX hv (va_recv hK hP hcl h3) (by rw [am_V_len hv0]; exact hn) hl.1 (by rw [am_V_cat hs2]; exact hr) (by omega) (by omega)
    (fun v cv w' ws' tys' H1 locs1 hq hv9 hR9 hP9 hK9 hD9 hS9 hp9 hX9 => hZ _ (kk v w' hq) H1 locs1 ws' tys' lc _ hR9 hP9 hK9 hD9 hS9 (ha.trans hp9) (am_L_mono hp9 hl) (am_V_join hv9 (am_V_mono hp9 hs2)) hX9)
    (fun n w' ws' tys' H1 locs1 q ce hq hR9 hP9 hK9 hD9 hS9 hp9 hX9 g1 g2 g3 T9 hT9 X9 => by
      obtain ⟨h, hh1, hY⟩ := kx n w' hq
      obtain ⟨pre, x, suf, hsplit, hcov, hpcx, h0, hlink, hcast, hpass⟩ := hcatch n h hh1
      have hpl : e.platform.magicAccessors = ({} : Platform).magicAccessors := by rw [X9.admits.platform]
      obtain ⟨c3, c4, hc3, hc4, hasg⟩ := Cond.castable_spec hcast
      cases Option.some.inj (hc3.symm.trans g3)
      obtain ⟨c5, hc5, hcl5⟩ := Cond.classLink_spec hown hlink e.platform hpl
      cases Option.some.inj (hc4.symm.trans hc5)
      obtain ⟨vm', X', st9⟩ := X9.thenCaughtThrough q (g := F0 m pc lc cr) rfl (Steps.refl _) (by rw [hT9]; exact g1) (by rw [g2]; rfl) (by obtain ⟨k9, h9, -⟩ := Vm.findClass_spec g3; exact ⟨k9, h9⟩) pre x suf hsplit
        (fun z hz => by
          obtain ⟨hz0, nm, hl1, a8, b8, k1, k2, k3⟩ := hpass z hz
          obtain ⟨c6, hc6, hcl6⟩ := Cond.classLink_spec hown hl1 e.platform hpl
          cases Option.some.inj (k1.symm.trans g3)
          cases Option.some.inj (k2.symm.trans hc6)
          exact Or.inr ⟨hz0, _, hcl6, k3⟩) hcov (Or.inr ⟨h0, c4, hcl5, hasg⟩)
      obtain ⟨t2, a1, b1⟩ := hZ _ hY H1 locs1 ws' tys' lc [.ref q] hR9 hP9 hK9 hD9 hS9 (ha.trans hp9) (am_L_mono hp9 hl) ⟨Or.inr ⟨q, rfl⟩, trivial⟩ hX9 (T9.setVm vm') hT9 X'
      refine ⟨t2, st9.trans ?_, b1⟩
      rw [hpcx]
      exact a1)
  rw [List.reverse_reverse] at hgo
  exact hgo
end AMV
end
section
/-! a method's contract out of its walk on the small machine -/
section AMM
theorem am_V_one {ad : List Nat} {bS : Nat} : ∀ {r r' : List Value}, am_V ad bS r r' → (r.all fun v => v.category == 1) = true → (r'.all fun v => v.category == 1) = true
  | [], [], _, _ => rfl
  | _ :: _, _ :: _, h, hc => by
    simp only [List.all_cons, Bool.and_eq_true, beq_iff_eq] at hc ⊢
    exact ⟨by rw [am_v_cat h.1]; exact hc.1, am_V_one h.2 hc.2⟩
  | [], _ :: _, h, _ => h.elim
  | _ :: _, [], h, _ => h.elim
theorem am_V_get {ad : List Nat} {bS : Nat} : ∀ {r r' : List Value} {i : Nat} {v : Value}, am_V ad bS r r' → r[i]? = some v → ∃ cv, r'[i]? = some cv ∧ am_v ad bS v cv
  | [], [], _, _, _, h => by simp at h
  | _ :: _, c :: _, 0, _, h, hi => by
    simp only [List.getElem?_cons_zero, Option.some.injEq] at hi
    subst hi
    exact ⟨c, rfl, h.1⟩
  | _ :: _, _ :: _, i + 1, _, h, hi => by
    simp only [List.getElem?_cons_succ] at hi ⊢
    exact am_V_get h.2 hi
  | [], _ :: _, _, _, h, _ => h.elim
  | _ :: _, [], _, _, h, _ => h.elim
theorem am_sl_len : ∀ {vs : List Value}, (vs.all fun v => v.category == 1) = true → (lg_sl vs).length = vs.length
  | [], _ => rfl
  | v :: r, h => by
    simp only [List.all_cons, Bool.and_eq_true, beq_iff_eq] at h
    have ih := am_sl_len h.2
    simp only [lg_sl] at ih ⊢
    simp [h.1, ih]
theorem am_args_mem : ∀ {vs : List Value} {i j : Nat} {v : Value}, (vs.all fun v => v.category == 1) = true → vs[i]? = some v → (j + i, v) ∈ lv_args j vs
  | [], _, _, _, _, h => by simp at h
  | u :: r, 0, j, v, _, h => by
    simp only [List.getElem?_cons_zero, Option.some.injEq] at h
    subst h
    exact List.mem_cons_self
  | u :: r, i + 1, j, v, hc, h => by
    simp only [List.all_cons, Bool.and_eq_true, beq_iff_eq] at hc
    simp only [List.getElem?_cons_succ] at h
    have ih := am_args_mem (j := j + 1) hc.2 h
    simp only [lv_args, hc.1]
    refine List.mem_cons_of_mem _ ?_
    rw [show j + (i + 1) = j + 1 + i by omega]
    exact ih
theorem am_entry {ad : List Nat} {bS n : Nat} {as cas : List Value} (h : am_V ad bS as cas) (hc : (as.all fun v => v.category == 1) = true) (hn : as.length ≤ n) :
    am_L ad bS n (as.map some) ((lg_sl cas ++ List.replicate (n - (lg_sl cas).length) Slot.unset).toArray) := by
  have hc2 := am_V_one h hc
  have hl := am_sl_len hc2
  have h1 := lv_entry cas (n := n) (by rw [hl, am_V_len h]; exact hn)
  refine ⟨h1.1, h1.2.1, fun i v hv => ?_⟩
  rw [List.getElem?_map] at hv
  cases hi : as[i]? with
  | none => rw [hi] at hv; cases hv
  | some u =>
    rw [hi] at hv
    cases hv
    obtain ⟨cv, g1, g2⟩ := am_V_get h hi
    have hv1 : v.category = 1 := by
      have := List.all_eq_true.mp hc v (List.mem_of_getElem? hi)
      simpa using this
    refine ⟨hv1, cv, ?_, g2⟩
    have := h1.2.2 (0 + i, cv) (am_args_mem hc2 g1)
    simpa using this
/-- the true machine's walk out of the small one's -/
theorem am_run {p : Program} {l : Launch} {e : Env} {R : Room} {s : State} {m : MethodId} {below : List Frame} {meth : Method} {c : Code} {ex : Nat → String} {D : va_G} {cl : List vw_C} {bS : Nat} {nL mc ms : Nat} {Q : am_Q} {C : am_C} {ops : List (Nat × am_Sem)} {as cas : List Value} {w : am_W} {ws : va_W} {tys : List (ClassId × FieldType)}
    (hX : am_X (am_tb ops) C Q (0, as.map some, [], w, 0, 0)) (hv : am_V (ws.map Prod.fst) bS as cas) (hc : (as.all fun v => v.category == 1) = true) (hn : as.length ≤ nL) (hR : am_R w ws tys) (hP : va_P D cl ws s.heap) (hK : va_K D cl tys s) (hD : va_D (va_A ws s.heap.size) ws) (hscr : va_X bS w.2.2.2.1 w.2.2.2.2 s s.heap)
    (hops : ∀ q ∈ ops, am_Snd (am_Good p l e R s m cas.toArray below meth c ex D cl (va_A ws s.heap.size) bS (ws.map Prod.fst) nL mc ms Q) C Q q.1 q.2) :
    W p l e R s m cas.toArray below meth c s.heap [] 0 0 (ax_MQ below (am_Po ex D cl (va_A ws s.heap.size) bS (ws.map Prod.fst) Q) cas.toArray s mc ms (va_A ws s.heap.size)) (entryFrame m cas.toArray nL) := by
  rw [lg_entry_eq]
  refine hX (am_Good p l e R s m cas.toArray below meth c ex D cl (va_A ws s.heap.size) bS (ws.map Prod.fst) nL mc ms Q) (fun pc ls st w uc us Z hZ h => ?_) s.heap [] ws tys _ [] hR hP hK hD va_S.rf (List.prefix_refl _) (am_entry hv hc hn) trivial hscr
  exact am_tb_all (P := fun pc f => am_Snd (am_Good p l e R s m cas.toArray below meth c ex D cl (va_A ws s.heap.size) bS (ws.map Prod.fst) nL mc ms Q) C Q pc f) (fun _ => ok_halt) ops hops pc Z ls st w uc us hZ h
end AMM
end
section
/-! call sites by the tables' words -/
/-- the words that stay -/
def am_ws : List Cond := lw_tbl.filter am_mv
theorem am_in {w : Cond} (h : w ∈ tables_1) (hm : am_mv w = true) : w ∈ am_ws := List.mem_filter.mpr ⟨List.mem_append_right _ h, hm⟩
theorem am_sel {q : MethodName × Nat} (h : q ∈ lw_privs) : Cond.selects q.1.cls q.1 q.1 ∈ am_ws := List.mem_filter.mpr ⟨List.mem_append_left _ (List.mem_map.mpr ⟨q, h, rfl⟩), rfl⟩
section AMS
variable {p : Program} {l : Launch} {e : Env} {R : Room} {s : State} {m : MethodId} {args : Array Value} {below : List Frame} {meth : Method} {c : Code}
variable {s0 : State} {ex : Nat → String} {D : va_G} {cl : List vw_C} {A : Nat → Prop} {bS : Nat} {ad0 : List Nat} {nL mc ms : Nat} {Q : am_Q} {C : am_C} {cc : ByteArray} {pc nx : Nat} {own : String}
variable {y : MethodName} {bytes : ByteArray} {maxL index mj na jc js : Nat} {ret : Option FieldType} {rm : Room}
/-- what a callee's name must be -/
abbrev am_nm (y : MethodName) (n : Nat) : Prop := (y.cls ≠ "java/lang/invoke/MethodHandle" ∧ y.cls ≠ "java/lang/invoke/VarHandle") ∧ (parseMethodDescriptor y.desc).map (fun d => d.parameters.length) = some n
theorem am_nm.len {n : Nat} (h : am_nm y n) : ∀ sig, parseMethodDescriptor y.desc = some sig → n = sig.parameters.length := by
  intro sig hs
  have h2 := h.2
  rw [hs] at h2
  exact (Option.some.inj h2).symm
theorem am_one {w : Cond} (hw : goodWord w = true) (h : w.before args s = true) : ∀ w' ∈ [w], ∀ (a' : Array Value) (U : State), s.WarmedH U.vm → w'.before a' U = true := by
  intro w' hw' a' U hW
  rw [List.mem_singleton.mp hw']
  exact word_at hW (good_of_word hw) h
theorem am_cB (hts : ∀ w ∈ am_ws, w.before args s = true) (hl : Cond.methodLink own index y ∈ am_ws) (hco : Cond.code y bytes maxL ret ∈ am_ws) (hini : Cond.initialized y.cls ∈ am_ws) {n : Nat} (hnm : am_nm y n) (hrc : rm.cells = jc) (hrs : rm.slots = js) (hfr : rm.frames + 1 ≤ R.frames) (hlo : 8 + (maxL + 11) + rm.locals ≤ R.locals) :
    CallB R s args own index y bytes maxL ret [Cond.code y bytes maxL ret] rm jc js n :=
  ⟨hrc, hrs, hfr, hlo, am_one rfl (hts _ hco), List.mem_singleton.mpr rfl, hts _ hco, hts _ hini, hnm.1, hnm.len, hts _ hl⟩
theorem ok_cV {ci : Nat} {r0 : vw_C} (hx : p.tables.exec = Jvm.exec) (hb : c.code = cc) (hml : c.maxLocals = nL) (hown : s.vm.findClass own = some m.cls) (hts : ∀ w ∈ am_ws, w.before args s = true) (hb1 : bS < s.heap.size) (hb2 : ¬ A bS) (hA : ∀ q, s.heap.size ≤ q → A q) (hroot : am_Root s0 s) (hAs : ∀ (q : Nat) (cell : Cell), s.heap[q]? = some cell → cell.vm.isStatics = true → ¬ A q) (hmc : R.cells = mc) (hms : R.slots = ms)
    (hcl : cl[ci]? = some r0) (hC : ∀ as w Q', C mj as w Q' → am_Con l s0 ex cl y [Cond.code y bytes maxL ret] rm jc js as w Q') (hl : Cond.methodLink own index y ∈ am_ws) (hin : Cond.instanceMethod y ∈ am_ws) (hse : Cond.selects r0.1 y y ∈ am_ws) (hco : Cond.code y bytes maxL ret ∈ am_ws) (hini : Cond.initialized y.cls ∈ am_ws) (hnm : am_nm y na) (hrc : rm.cells = jc) (hrs : rm.slots = js) (hfr : rm.frames + 1 ≤ R.frames) (hlo : 8 + (maxL + 11) + rm.locals ≤ R.locals) (hd : decode cc pc = .ok (.invokevirtual index, 3)) :
    am_Snd (am_Good p l e R s m args below meth c ex D cl A bS ad0 nL mc ms Q) C Q pc (am_invV (pc + 3) mj na ci jc js mc ms) :=
  ok_invV hml hb1 hb2 hA hroot hAs hmc hms hcl hC fun _ _ _ H locs uc us lc b cas cr hM hp hn hsz hcat h1 h2 => va_runV ⟨hx, hb, hml, hown, hts⟩ hM ⟨am_cB hts hl hco hini hnm hrc hrs hfr hlo, hts _ hin, hts _ hse⟩ hp rfl hn hsz rfl (by show 2 * 0 + (cr.map fun v => v.category).sum ≤ 8; omega) hd ⟨h1, h2⟩
theorem ok_cX {ci : Nat} {r0 : vw_C} (hx : p.tables.exec = Jvm.exec) (hb : c.code = cc) (hml : c.maxLocals = nL) (hown : s.vm.findClass own = some m.cls) (hts : ∀ w ∈ am_ws, w.before args s = true) (hb1 : bS < s.heap.size) (hb2 : ¬ A bS) (hA : ∀ q, s.heap.size ≤ q → A q) (hroot : am_Root s0 s) (hAs : ∀ (q : Nat) (cell : Cell), s.heap[q]? = some cell → cell.vm.isStatics = true → ¬ A q) (hmc : R.cells = mc) (hms : R.slots = ms) (hlocks : meth.locks = false) (hout : c.exceptionTable.toList = [])
    (hcl : cl[ci]? = some r0) (hC : ∀ as w Q', C mj as w Q' → am_Con l s0 ex cl y [Cond.code y bytes maxL ret] rm jc js as w Q') (hl : Cond.methodLink own index y ∈ am_ws) (hin : Cond.instanceMethod y ∈ am_ws) (hse : Cond.selects r0.1 y y ∈ am_ws) (hco : Cond.code y bytes maxL ret ∈ am_ws) (hini : Cond.initialized y.cls ∈ am_ws) (hnm : am_nm y na) (hrc : rm.cells = jc) (hrs : rm.slots = js) (hfr : rm.frames + 1 ≤ R.frames) (hlo : 8 + (maxL + 11) + rm.locals ≤ R.locals) (hd : decode cc pc = .ok (.invokevirtual index, 3)) :
    am_Snd (am_Good p l e R s m args below meth c ex D cl A bS ad0 nL mc ms Q) C Q pc (am_invX (pc + 3) mj na ci jc js mc ms) :=
  ok_invX hx hb hml hown hlocks hout hb1 hb2 hA hroot hAs hmc hms hcl hC ⟨am_cB hts hl hco hini hnm hrc hrs hfr hlo, hts _ hin, hts _ hse⟩ hd
theorem ok_cS (hx : p.tables.exec = Jvm.exec) (hb : c.code = cc) (hml : c.maxLocals = nL) (hown : s.vm.findClass own = some m.cls) (hts : ∀ w ∈ am_ws, w.before args s = true) (hb1 : bS < s.heap.size) (hb2 : ¬ A bS) (hA : ∀ q, s.heap.size ≤ q → A q) (hroot : am_Root s0 s) (hAs : ∀ (q : Nat) (cell : Cell), s.heap[q]? = some cell → cell.vm.isStatics = true → ¬ A q) (hmc : R.cells = mc) (hms : R.slots = ms)
    (hC : ∀ as w Q', C mj as w Q' → am_Con l s0 ex cl y [Cond.code y bytes maxL ret] rm jc js as w Q') (hl : Cond.methodLink own index y ∈ am_ws) (hst : Cond.static y ∈ am_ws) (hco : Cond.code y bytes maxL ret ∈ am_ws) (hini : Cond.initialized y.cls ∈ am_ws) (hnm : am_nm y na) (hrc : rm.cells = jc) (hrs : rm.slots = js) (hfr : rm.frames + 1 ≤ R.frames) (hlo : 8 + (maxL + 11) + rm.locals ≤ R.locals) (hd : decode cc pc = .ok (.invokestatic index, 3)) :
    am_Snd (am_Good p l e R s m args below meth c ex D cl A bS ad0 nL mc ms Q) C Q pc (am_inv (pc + 3) mj na jc js mc ms) :=
  ok_inv hml hb1 hb2 hA hroot hAs hmc hms hC fun _ _ _ H locs uc us lc cas cr hM hbl hp hn hsz hcat h1 h2 => va_runS ⟨hx, hb, hml, hown, hts⟩ hM ⟨am_cB hts hl hco hini hnm hrc hrs hfr hlo, hts _ hst⟩ ⟨hbl, hp⟩ rfl hn hsz rfl (by show 2 * 0 + (cr.map fun v => v.category).sum ≤ 8; omega) hd ⟨h1, h2⟩
theorem ok_cN {host : String} (hx : p.tables.exec = Jvm.exec) (hb : c.code = cc) (hml : c.maxLocals = nL) (hown : s.vm.findClass own = some m.cls) (hts : ∀ w ∈ am_ws, w.before args s = true) (hb1 : bS < s.heap.size) (hb2 : ¬ A bS) (hA : ∀ q, s.heap.size ≤ q → A q) (hroot : am_Root s0 s) (hAs : ∀ (q : Nat) (cell : Cell), s.heap[q]? = some cell → cell.vm.isStatics = true → ¬ A q) (hmc : R.cells = mc) (hms : R.slots = ms)
    (hC : ∀ as w Q', C mj as w Q' → am_Con l s0 ex cl y [Cond.code y bytes maxL ret] rm jc js as w Q') (hl : Cond.methodLinkNest own index y host ∈ am_ws) (hst : Cond.static y ∈ am_ws) (hco : Cond.code y bytes maxL ret ∈ am_ws) (hini : Cond.initialized y.cls ∈ am_ws) (hnm : am_nm y na) (hrc : rm.cells = jc) (hrs : rm.slots = js) (hfr : rm.frames + 1 ≤ R.frames) (hlo : 8 + (maxL + 11) + rm.locals ≤ R.locals) (hd : decode cc pc = .ok (.invokestatic index, 3)) :
    am_Snd (am_Good p l e R s m args below meth c ex D cl A bS ad0 nL mc ms Q) C Q pc (am_inv (pc + 3) mj na jc js mc ms) :=
  ok_inv hml hb1 hb2 hA hroot hAs hmc hms hC fun _ _ _ H locs uc us lc cas cr hM hbl hp hn hsz hcat h1 h2 => va_runSN ⟨hx, hb, hml, hown, hts⟩ hM ⟨⟨⟨hrc, hrs, hfr, hlo, am_one rfl (hts _ hco), List.mem_singleton.mpr rfl⟩, hts _ hco, hts _ hini, hnm.1, hnm.len, hts _ hl⟩, hts _ hst, trivial⟩ ⟨hbl, hp⟩ rfl hn hsz rfl (by show 2 * 0 + (cr.map fun v => v.category).sum ≤ 8; omega) hd ⟨h1, h2⟩
/-- a constructor: the object among its values -/
theorem ok_cI (hx : p.tables.exec = Jvm.exec) (hb : c.code = cc) (hml : c.maxLocals = nL) (hown : s.vm.findClass own = some m.cls) (hts : ∀ w ∈ am_ws, w.before args s = true) (hb1 : bS < s.heap.size) (hb2 : ¬ A bS) (hA : ∀ q, s.heap.size ≤ q → A q) (hroot : am_Root s0 s) (hAs : ∀ (q : Nat) (cell : Cell), s.heap[q]? = some cell → cell.vm.isStatics = true → ¬ A q) (hmc : R.cells = mc) (hms : R.slots = ms) {ci : Nat} {r0 : vw_C} (hcl : cl[ci]? = some r0)
    (hC : ∀ as w Q', C mj as w Q' → am_Con l s0 ex cl y [Cond.code y bytes maxL none] rm jc js as w Q') (hy : y.name = "<init>") (hl : Cond.methodLink own index y ∈ am_ws) (hin : Cond.instanceMethod y ∈ am_ws) (hco : Cond.code y bytes maxL none ∈ am_ws) (hini : Cond.initialized y.cls ∈ am_ws) (hnm : am_nm y na) (hrc : rm.cells = jc) (hrs : rm.slots = js) (hfr : rm.frames + 1 ≤ R.frames) (hlo : 8 + (maxL + 11) + rm.locals ≤ R.locals) (hd : decode cc pc = .ok (.invokespecial index, 3)) :
    am_Snd (am_Good p l e R s m args below meth c ex D cl A bS ad0 nL mc ms Q) C Q pc (am_invV (pc + 3) mj na ci jc js mc ms) :=
  ok_invV hml hb1 hb2 hA hroot hAs hmc hms hcl hC fun _ _ _ H locs uc us lc b cas cr hM hp hn hsz hcat h1 h2 => va_runI ⟨hx, hb, hml, hown, hts⟩ hM ⟨am_cB hts hl hco hini hnm hrc hrs hfr hlo, hy, hts _ hin⟩ ⟨hp.1, hp.2.2⟩ rfl hn hsz rfl (by show 2 * 0 + (cr.map fun v => v.category).sum ≤ 8; omega) hd ⟨h1, h2⟩
/-- a static method with handlers of its own, that doesn't throw -/
theorem ax_runSH {ws : List Cond} {Pc : Array Value → State → Prop} {Qc : Array Value → State → Outcome → State → Prop} {free : Addr → Prop} {H : Heap} {locs : List Loc} {cells slots : Nat} {hh : List (Nat × Nat × Nat × Nat)} {cas cr : List Value} {lc : Array Slot} (hx : p.tables.exec = Jvm.exec) (hb : c.code = cc) (hml : c.maxLocals = nL) (hown : s.vm.findClass own = some m.cls) (hM : Met l y ws rm Pc Qc jc js free) (hbl : FrameBlind Pc) (hp : ∀ U : State, U.heap = H → s.WarmedH U.vm → Pc cas.toArray U)
    (hws : ∀ w ∈ ws, ∀ (a' : Array Value) (U : State), s.WarmedH U.vm → w.before a' U = true) (hcw : Cond.codeWith y bytes maxL ret hh ∈ ws) (hcode : (Cond.codeWith y bytes maxL ret hh).before args s = true) (hini : (Cond.initialized y.cls).before args s = true) (hl : (Cond.methodLink own index y).before args s = true) (hst : (Cond.static y).before args s = true) {n : Nat} (hnm : am_nm y n) (hn : cas.length = n) (hsz : lc.size = nL) (hcat : (cr.map fun v => v.category).sum ≤ 8)
    (hrc : rm.cells = jc) (hrs : rm.slots = js) (hfr : rm.frames + 1 ≤ R.frames) (hlo : 8 + (maxL + 11) + rm.locals ≤ R.locals) (hd : decode cc pc = .ok (.invokestatic index, 3)) (h1 : cells + jc ≤ R.cells) (h2 : slots + js ≤ R.slots) :
    va_Run p l e R s m args below meth c H locs cells slots jc js (F0 m pc lc (cas.reverse ++ cr)) cr (Qc cas.toArray) free := by
  have hK : Back l R p e below s args y 3 8 (PreOf R jc js Pc) (PostOf Qc jc js free) := va_backW (hh := hh) (bytes := bytes) (maxL := maxL) (ret := ret) hM hbl hrc hrs hfr hlo hws hcw (fun a' U hW => word_at hW (Or.inl (by first | rfl | simp [Cond.onTables, Cond.keeps, Cond.steady])) hini)
  intro T hT X
  obtain ⟨mk, methM, cM, hnamed, hmethM, -, -, -, -, -, -, hsigM⟩ := Cond.codeWith_spec hcode
  obtain ⟨kP, hkP, -⟩ := className_of_methodNamed hnamed
  obtain ⟨vm₁, X₁, hstep₁⟩ := X.invokestatic hx hown hl hnamed hmethM (Cond.static_spec hnamed hmethM hst) hkP (Cond.initialized_spec (findClass_of_methodNamed hnamed) hkP hini) hnm.1 (g := F0 m pc lc (cas.reverse ++ cr)) rfl (argsL := cas) (rest := cr) (hn.trans (hnm.len _ hsigM)) rfl (by rw [hb]; exact hd)
  obtain ⟨v, ⟨U', l2, c2, s2⟩, X', ⟨g', mk', t, L, e1, e2, hq, g1, hL, g2, g3⟩, hsteps⟩ := hK m meth c ⟨T.setVm vm₁, locs, cells, slots⟩ (F0 m pc lc cr) (.invokestatic index) mk cas.toArray X₁ rfl (by rw [hml]; exact hsz) (by rw [hb]; exact hd) (by show 2 * 0 + (cr.map fun v => v.category).sum ≤ 8; omega) (X₁.named hnamed) ⟨h1, h2, hp (T.setVm vm₁) hT X₁.warmed⟩
  dsimp only [Pt.U, Pt.locs, Pt.cells, Pt.slots] at X' e1 e2 g1 g2 g3 hsteps
  subst g1; subst g2; subst g3
  exact ⟨v, (T.setVm vm₁).calling g' mk' cas.toArray, t, U', L, hT, X', hL, e1, e2, hq, fun target h => hstep₁ _ fun acts => by rw [doInvoke_state]; exact hsteps.trans h⟩
theorem ok_cH {hh : List (Nat × Nat × Nat × Nat)} (hx : p.tables.exec = Jvm.exec) (hb : c.code = cc) (hml : c.maxLocals = nL) (hown : s.vm.findClass own = some m.cls) (hts : ∀ w ∈ am_ws, w.before args s = true) (hb1 : bS < s.heap.size) (hb2 : ¬ A bS) (hA : ∀ q, s.heap.size ≤ q → A q) (hroot : am_Root s0 s) (hAs : ∀ (q : Nat) (cell : Cell), s.heap[q]? = some cell → cell.vm.isStatics = true → ¬ A q) (hmc : R.cells = mc) (hms : R.slots = ms)
    (hC : ∀ as w Q', C mj as w Q' → am_Con l s0 ex cl y [Cond.codeWith y bytes maxL ret hh] rm jc js as w Q') (hl : Cond.methodLink own index y ∈ am_ws) (hst : Cond.static y ∈ am_ws) (hco : Cond.codeWith y bytes maxL ret hh ∈ am_ws) (hini : Cond.initialized y.cls ∈ am_ws) (hnm : am_nm y na) (hrc : rm.cells = jc) (hrs : rm.slots = js) (hfr : rm.frames + 1 ≤ R.frames) (hlo : 8 + (maxL + 11) + rm.locals ≤ R.locals) (hd : decode cc pc = .ok (.invokestatic index, 3)) :
    am_Snd (am_Good p l e R s m args below meth c ex D cl A bS ad0 nL mc ms Q) C Q pc (am_inv (pc + 3) mj na jc js mc ms) :=
  ok_inv hml hb1 hb2 hA hroot hAs hmc hms hC fun _ _ _ H locs uc us lc cas cr hM hbl hp hn hsz hcat h1 h2 => ax_runSH hx hb hml hown hM hbl hp (am_one rfl (hts _ hco)) (List.mem_singleton.mpr rfl) (hts _ hco) (hts _ hini) (hts _ hl) (hts _ hst) hnm hn hsz hcat hrc hrs hfr hlo hd h1 h2
end AMS
end
section
/-! a method's contract out of the soundness of its instructions -/
section AMN
/-- the law's start: every word of the tables, two statics that are references, pairs of classes that aren't castable -/
def am_W0 (s0 : State) : Prop := ∃ a0 : Array Value, (∀ w ∈ lw_tbl, w.before a0 s0 = true) ∧ (Cond.isRef (.static "java/lang/Throwable" "UNASSIGNED_STACK" "[Ljava/lang/StackTraceElement;")).before a0 s0 = true ∧ (Cond.isRef (.static "java/lang/Throwable" "SUPPRESSED_SENTINEL" "Ljava/util/List;")).before a0 s0 = true ∧
  ∀ q ∈ [("java/lang/IllegalStateException", "java/lang/IllegalArgumentException"), ("java/lang/IllegalArgumentException", "java/util/NoSuchElementException"), ("java/lang/IllegalStateException", "java/util/NoSuchElementException"), ("java/lang/IllegalArgumentException", "java/lang/IndexOutOfBoundsException")], (Cond.not (.castable q.1 q.2)).before a0 s0 = true
theorem am_hts {s0 s : State} (h0 : am_W0 s0) (hroot : am_Root s0 s) {args : Array Value} : ∀ w ∈ am_ws, w.before args s = true := by
  obtain ⟨a0, h, -⟩ := h0
  intro w hw
  obtain ⟨h1, h2⟩ := List.mem_filter.mp hw
  exact am_moved hroot w h2 (h w h1)
/-- what is known in a method's body -/
abbrev am_Ct (p : Program) (R : Room) (s : State) (m : MethodId) (args : Array Value) (meth : Method) (c : Code) (s0 : State) (A : Nat → Prop) (bS : Nat) (cc : ByteArray) (own nm : String) (ret : Option FieldType) (nL mc ms : Nat) : Prop :=
  p.tables.exec = Jvm.exec ∧ c.code = cc ∧ c.maxLocals = nL ∧ s.vm.findClass own = some m.cls ∧ (∀ w ∈ am_ws, w.before args s = true) ∧ bS < s.heap.size ∧ ¬ A bS ∧ (∀ q, s.heap.size ≤ q → A q) ∧ am_Root s0 s ∧ (∀ (q : Nat) (cell : Cell), s.heap[q]? = some cell → cell.vm.isStatics = true → ¬ A q) ∧ R.cells = mc ∧ R.slots = ms ∧ meth.locks = false ∧ meth.sig.returnType = ret ∧ meth.name = nm
theorem am_method {l : Launch} {s0 : State} {ex : Nat → String} {cl : List vw_C} {y : MethodName} {cc : ByteArray} {maxL : Nat} {ret : Option FieldType} {rm : Room} {ops : List (Nat × am_Sem)} {C : am_C} {ar : Nat} (h0 : am_W0 s0) (hy : plainName y.cls = true) (har : ar ≤ maxL)
    (hops : ∀ (p : Program) (e : Env) (s : State) (m : MethodId) (args : Array Value) (below : List Frame) (meth : Method) (c : Code) (D : va_G) (A : Nat → Prop) (bS : Nat) (ad0 : List Nat) (Q : am_Q), am_Ct p rm s m args meth c s0 A bS cc y.cls y.name ret maxL rm.cells rm.slots → c.exceptionTable.toList = [] →
      ∀ q ∈ ops, am_Snd (am_Good p l e rm s m args below meth c ex D cl A bS ad0 maxL rm.cells rm.slots Q) C Q q.1 q.2) :
    ∀ (as : List Value) (w : am_W) (Q : am_Q), ((as.length = ar ∧ (as.all fun v => v.category == 1) = true) ∧ am_X (am_tb ops) C Q (0, as.map some, [], w, 0, 0)) → am_Con l s0 ex cl y [Cond.code y cc maxL ret] rm rm.cells rm.slots as w Q := by
  intro as w Q hT D bS sz ws tys cas hR hv hbS
  obtain ⟨⟨hlen, hcat⟩, hX⟩ := hT
  refine ax_ofW (cc := cc) (maxL := maxL) (ret := ret) hy rfl fun p e s m args below meth c s₁ B hml htab hPc => ?_
  obtain ⟨rfl, hsz, hP, hK, hD0, hscr, hroot⟩ := hPc
  subst hsz
  have hb1 : bS < s.heap.size := by
    obtain ⟨scr, h1, -⟩ := hscr
    exact (Array.getElem?_eq_some_iff.mp h1).1
  exact am_run hX hv hcat (by omega) hR hP hK hD0.self hscr (hops p e s m cas.toArray below meth c D (va_A ws s.heap.size) bS (ws.map Prod.fst) Q
    ⟨B.exec, B.bytes, hml, findClass_of_methodNamed B.named, am_hts h0 hroot, hb1, hbS, fun q h => Or.inr h, hroot, fun q cell h1 h2 => am_nostat hP h1 h2, rfl, rfl, B.notSynchronized, B.returns, (name_of_methodNamed B.named B.method).1⟩ htab)
/-- .. of a method with handlers -/
theorem am_methodH {l : Launch} {s0 : State} {ex : Nat → String} {cl : List vw_C} {y : MethodName} {cc : ByteArray} {maxL : Nat} {ret : Option FieldType} {hh : List (Nat × Nat × Nat × Nat)} {rm : Room} {ops : List (Nat × am_Sem)} {C : am_C} {ar : Nat} (h0 : am_W0 s0) (hy : plainName y.cls = true) (har : ar ≤ maxL)
    (hops : ∀ (p : Program) (e : Env) (s : State) (m : MethodId) (args : Array Value) (below : List Frame) (meth : Method) (c : Code) (D : va_G) (A : Nat → Prop) (bS : Nat) (ad0 : List Nat) (Q : am_Q), am_Ct p rm s m args meth c s0 A bS cc y.cls y.name ret maxL rm.cells rm.slots → c.exceptionTable.toList = tableOf hh →
      ∀ q ∈ ops, am_Snd (am_Good p l e rm s m args below meth c ex D cl A bS ad0 maxL rm.cells rm.slots Q) C Q q.1 q.2) :
    ∀ (as : List Value) (w : am_W) (Q : am_Q), ((as.length = ar ∧ (as.all fun v => v.category == 1) = true) ∧ am_X (am_tb ops) C Q (0, as.map some, [], w, 0, 0)) → am_Con l s0 ex cl y [Cond.codeWith y cc maxL ret hh] rm rm.cells rm.slots as w Q := by
  intro as w Q hT D bS sz ws tys cas hR hv hbS
  obtain ⟨⟨hlen, hcat⟩, hX⟩ := hT
  refine ax_ofWH (cc := cc) (maxL := maxL) (ret := ret) (hh := hh) hy rfl fun p e s m args below meth c s₁ B hml htab hPc => ?_
  obtain ⟨rfl, hsz, hP, hK, hD0, hscr, hroot⟩ := hPc
  subst hsz
  have hb1 : bS < s.heap.size := by
    obtain ⟨scr, h1, -⟩ := hscr
    exact (Array.getElem?_eq_some_iff.mp h1).1
  exact am_run hX hv hcat (by omega) hR hP hK hD0.self hscr (hops p e s m cas.toArray below meth c D (va_A ws s.heap.size) bS (ws.map Prod.fst) Q
    ⟨B.exec, B.bytes, hml, findClass_of_methodNamed B.named, am_hts h0 hroot, hb1, hbS, fun q h => Or.inr h, hroot, fun q cell h1 h2 => am_nostat hP h1 h2, rfl, rfl, B.notSynchronized, B.returns, (name_of_methodNamed B.named B.method).1⟩ htab)
end AMN
end
section
/-! new int[n][k]: sound (by the library's Stand.multianewarray2F) -/
theorem vr_outer (c : ClassId) (N h0 : Nat) : ∀ i : Nat, Jvm.Free.Multi.outerC c N h0 i = arrV c N (fun j => va_rf (if j < i then some (h0 + 1 + j) else none))
  | 0 => by
    show ({ cls := c, slots := Array.replicate N .null, vm := .none } : Cell) = _
    rw [arrV_new]
    refine congrArg (arrV c N) (funext fun j => ?_)
    simp [va_rf]
  | i + 1 => by
    show (Jvm.Free.Multi.outerC c N h0 i).setSlot i (.ref (h0 + 1 + i)) = _
    rw [vr_outer c N h0 i, arrV_store]
    refine congrArg (arrV c N) (funext fun j => ?_)
    by_cases e : j = i
    · subst e
      simp [updV, va_rf]
    · by_cases h : j < i
      · simp [updV, e, h, Nat.lt_succ_of_lt h]
      · simp [updV, e, h, show ¬ j < i + 1 by omega]
section AMY
variable {p : Program} {l : Launch} {e : Env} {R : Room} {s : State} {m : MethodId} {args : Array Value} {below : List Frame} {meth : Method} {c : Code}
variable {s0 : State} {ex : Nat → String} {D : va_G} {cl : List vw_C} {A : Nat → Prop} {bS : Nat} {ad0 : List Nat} {nL mc ms : Nat} {Q : am_Q} {C : am_C} {cc : ByteArray} {pc nx : Nat} {Ts : List Cond} {own : String}
theorem ok_mna {index : Nat} (hx : p.tables.exec = Jvm.exec) (hb : c.code = cc) (hts : ∀ w ∈ Ts, w.before args s = true) (hown : s.vm.findClass own = some m.cls) (hA : ∀ q, s.heap.size ≤ q → A q) (hmc : R.cells = mc) (hms : R.slots = ms) (hcl : Cond.classLink own index "[[I" ∈ Ts) (hov : Cond.arrayOver (.array .int) ∈ Ts) (harr : Cond.arrayClass .int ∈ Ts) (hd : decode cc pc = .ok (.multianewarray index 2, 4)) :
    am_Snd (am_Good p l e R s m args below meth c ex D cl A bS ad0 nL mc ms Q) C Q pc (am_mna (pc + 4) mc ms) := by
  rintro Z ls st w uc us hZ ⟨n, k, r, rfl, hn, hk, h1, h2, h⟩ H locs ws tys lc sc hR hP hK hD hS ha hl hs hX
  dsimp only at hR hs hl hX ⊢
  obtain ⟨r', rfl, hs1⟩ := am_V_int hs
  obtain ⟨r', rfl, hs2⟩ := am_V_int hs1
  intro T hT X
  have hn31 : n < 2 ^ 31 := by omega
  have hk31 : k < 2 ^ 31 := by omega
  have en : (Int32.ofNat n).toNatClampNeg = n := nI_clamp hn31
  have ek : (Int32.ofNat k).toNatClampNeg = k := nI_clamp hk31
  obtain ⟨vm₁, cA, comp, -, fA, fC, hO, hI, X', step⟩ := X.multianewarray2F hx (ty := .int) hown (hts _ hcl) (hts _ hov) (hts _ harr) (g := F0 m pc lc (.int (Int32.ofNat k) :: .int (Int32.ofNat n) :: r')) rfl (by rw [hb]; exact hd) rfl (nI_pos hn31) (nI_pos hk31) (by rw [en]; omega) (by rw [ek]; show k * 4 ≤ _; omega) (by rw [ek]; omega) rfl rfl (by rw [en]; omega) (by rw [en, ek]; omega)
  rw [en, ek] at X' step
  generalize hF : Jvm.Free.Multi.fill (T.setVm vm₁) cA comp n k (defaultValue .int) n = F at X' step
  have hTh : (T.setVm vm₁).heap = H := hT
  obtain ⟨f1, f2, -, -⟩ := Jvm.Free.Multi.fill_facts (T.setVm vm₁) cA comp n k (defaultValue .int) n
  rw [hF, hTh] at f1 f2
  have hold : ∀ x : Nat, x < H.size → F.heap[x]? = H[x]? := fun x hx9 => by
    have := Jvm.Free.Multi.fill_old (T.setVm vm₁) cA comp n k (defaultValue .int) (a := x) (by rw [hTh]; exact hx9) n
    rw [hF, hTh] at this
    exact this
  have hrow : ∀ j : Nat, j < n → F.heap[H.size + 1 + j]? = some (vp_cell comp (k, .inl (fun _ => 0))) := fun j hj => by
    have := Jvm.Free.Multi.fill_inner (T.setVm vm₁) cA comp n k (defaultValue .int) n j hj
    rw [hF, hTh] at this
    rw [this, vp_cell_i]
    show some ({ cls := comp, slots := Array.replicate k (.int 0), vm := .none } : Cell) = _
    rw [arrV_new]
  rw [vr_outer] at f2
  -- the new world
  obtain ⟨ws', hws⟩ : ∃ z : va_W, z = ws ++ ((H.size, .inl (cA, n, .inr (.inr (.inr (.inr (fun j => if j < n then some (H.size + 1 + j) else none)))))) :: (List.range n).map (fun i => (H.size + 1 + i, .inl (comp, k, .inl (fun _ => 0))))) := ⟨_, rfl⟩
  have hp : ws.map Prod.fst <+: ws'.map Prod.fst := by rw [hws, List.map_append]; exact List.prefix_append _ _
  have hlen : ws.length = w.1.length := hR.1.symm
  have hget : ∀ (i : Nat) (q : Nat × va_E), ws'[i]? = some q → (i < ws.length ∧ ws[i]? = some q) ∨ (i = ws.length ∧ q = (H.size, .inl (cA, n, .inr (.inr (.inr (.inr (fun j => if j < n then some (H.size + 1 + j) else none))))))) ∨ (ws.length < i ∧ i - ws.length - 1 < n ∧ q = (H.size + 1 + (i - ws.length - 1), .inl (comp, k, .inl (fun _ => 0)))) := by
    intro i q hi
    rw [hws] at hi
    rcases Nat.lt_or_ge i ws.length with hlt | hge
    · rw [List.getElem?_append_left hlt] at hi
      exact Or.inl ⟨hlt, hi⟩
    · rw [List.getElem?_append_right hge] at hi
      rcases Nat.lt_or_ge ws.length i with h9 | h9
      · obtain ⟨j, hj⟩ : ∃ j, i - ws.length = j + 1 := ⟨i - ws.length - 1, by omega⟩
        rw [hj, List.getElem?_cons_succ, List.getElem?_map] at hi
        have hjn : j < n := by
          rcases Nat.lt_or_ge j n with h8 | h8
          · exact h8
          · rw [List.getElem?_eq_none (by simpa using h8)] at hi
            cases hi
        rw [List.getElem?_range hjn] at hi
        cases hi
        exact Or.inr (Or.inr ⟨h9, by omega, by rw [show i - ws.length - 1 = j by omega]⟩)
      · have : i = ws.length := by omega
        subst this
        rw [Nat.sub_self, List.getElem?_cons_zero] at hi
        cases hi
        exact Or.inr (Or.inl ⟨rfl, rfl⟩)
  have hput : ∀ (i : Nat), i < n → ws'[ws.length + 1 + i]? = some (H.size + 1 + i, .inl (comp, k, .inl (fun _ => 0))) := by
    intro i hi
    rw [hws, List.getElem?_append_right (by omega), show ws.length + 1 + i - ws.length = i + 1 by omega, List.getElem?_cons_succ, List.getElem?_map, List.getElem?_range hi]
    rfl
  have hput0 : ws'[ws.length]? = some (H.size, .inl (cA, n, .inr (.inr (.inr (.inr (fun j => if j < n then some (H.size + 1 + j) else none)))))) := by
    rw [hws, List.getElem?_append_right (Nat.le_refl _), Nat.sub_self]
    rfl
  have hPn : va_P D cl ws' F.heap := by
    intro i q hi
    rcases hget i q hi with ⟨-, h9⟩ | ⟨-, rfl⟩ | ⟨-, h9, rfl⟩
    · exact (hP i q h9).kept (hold q.1 (hP i q h9).lt)
    · exact f2
    · exact hrow _ h9
  have hlt : ∀ (i : Nat) (q : Nat × va_E), ws[i]? = some q → q.1 < H.size := fun i q hi => (hP i q hi).lt
  have hDn : va_D A ws' := by
    refine ⟨fun i j x y hi hj hxy => ?_, fun i q hi => ?_⟩
    · rcases hget i x hi with ⟨q1, q2⟩ | ⟨q1, rfl⟩ | ⟨q1, q2, rfl⟩ <;> rcases hget j y hj with ⟨g1, g2⟩ | ⟨g1, rfl⟩ | ⟨g1, g2, rfl⟩
      · exact hD.1 i j x y q2 g2 hxy
      · have := hlt i x q2; dsimp only at hxy; omega
      · have := hlt i x q2; dsimp only at hxy; omega
      · have := hlt j y g2; dsimp only at hxy; omega
      · omega
      · dsimp only at hxy; omega
      · have := hlt j y g2; dsimp only at hxy; omega
      · dsimp only at hxy; omega
      · dsimp only at hxy; omega
    · rcases hget i q hi with ⟨-, h9⟩ | ⟨-, rfl⟩ | ⟨-, -, rfl⟩
      · exact hD.2 i q h9
      · exact hA _ hS.1
      · exact hA _ (by have := hS.1; show s.heap.size ≤ H.size + 1 + _; omega)
  have hSn : va_S A s.heap F.heap locs := ⟨by rw [f1]; have := hS.1; omega, fun q q1 q2 => by rw [hold q (Nat.lt_of_lt_of_le q1 hS.1)]; exact hS.2.1 q q1 q2, hS.2.2⟩
  have hKn : va_K D cl (tys ++ [(cA, .array .int), (comp, .int)]) s := by
    refine hK.app ⟨hK.1, fun i q hi => ?_⟩
    match i, hi with
    | 0, hi =>
      cases hi
      exact ⟨fun N z => ⟨fun _ h9 => (by cases h9), (hO 0 0 0).1.2⟩, fA⟩
    | 1, hi =>
      cases hi
      exact ⟨fun N z => ⟨fun _ h9 => (by cases h9), (hI 0 .null).1.2⟩, fC⟩
    | _ + 2, hi => simp at hi
  have hRn : am_R (w.1 ++ (3, n, (List.range n).map (fun i => w.1.length + 1 + i)) :: List.replicate n (0, k, []), (fun a b => if w.1.length ≤ a then 0 else w.2.1 a b), w.2.2) ws' (tys ++ [(cA, .array .int), (comp, .int)]) := by
    refine ⟨by rw [hws]; simp [hlen], fun i ci hi => ?_⟩
    dsimp only at hi ⊢
    rcases Nat.lt_or_ge i w.1.length with hlt9 | hge9
    · rw [List.getElem?_append_left hlt9] at hi
      obtain ⟨a9, e9, g1, g2⟩ := hR.2 i ci hi
      refine ⟨a9, e9, by rw [hws, List.getElem?_append_left (by omega)]; exact g1, am_E_mono hp (List.prefix_append _ _) g2 ?_ rfl⟩
      funext b
      simp [show ¬ w.1.length ≤ i by omega]
    · rw [List.getElem?_append_right hge9] at hi
      rcases Nat.lt_or_ge w.1.length i with h9 | h9
      · obtain ⟨j, hj⟩ : ∃ j, i = w.1.length + 1 + j := ⟨i - w.1.length - 1, by omega⟩
        subst hj
        rw [show w.1.length + 1 + j - w.1.length = j + 1 by omega, List.getElem?_cons_succ] at hi
        have hjn : j < n := by
          rcases Nat.lt_or_ge j n with h8 | h8
          · exact h8
          · rw [List.getElem?_eq_none (by simpa using h8)] at hi
            cases hi
        rw [List.getElem?_replicate_of_lt hjn] at hi
        cases hi
        refine ⟨_, _, by rw [← hlen]; exact hput j hjn, comp, tys.length + 1, ?_, by rw [List.getElem?_append_right (by omega)]; simp⟩
        congr 4
        funext b
        simp [show w.1.length ≤ w.1.length + 1 + j by omega]
      · have : i = w.1.length := by omega
        subst this
        rw [Nat.sub_self, List.getElem?_cons_zero] at hi
        cases hi
        refine ⟨_, _, by rw [← hlen]; exact hput0, cA, tys.length, _, rfl, by rw [List.getElem?_append_right (by omega)]; simp, fun j x hj => ?_⟩
        dsimp only at hj
        rw [List.getElem?_map] at hj
        have hjn : j < n := by
          rcases Nat.lt_or_ge j n with h8 | h8
          · exact h8
          · rw [List.getElem?_eq_none (by simpa using h8)] at hj
            cases hj
        rw [List.getElem?_range hjn] at hj
        cases hj
        exact ⟨H.size + 1 + j, by rw [← hlen]; exact am_at (hput j hjn), by simp [hjn]⟩
  obtain ⟨t, a1, b1⟩ := hZ _ h F.heap locs ws' _ lc (.ref H.size :: r') hRn hPn hKn hDn hSn (ha.trans hp) (am_L_mono hp hl) ⟨⟨H.size, by rw [← hlen]; exact am_at hput0, rfl⟩, am_V_mono hp hs2⟩ hX F rfl (by rw [show uc + 1 + n = uc + 1 + n from rfl]; exact X')
  exact ⟨t, step t (by rw [hT]; exact a1), b1⟩
end AMY
end
section
/-! the program, for the small machine (laid by wip/whole/gen.py) -/
def TF_0 : u_T := fun k => match k with
  | 0 => ("RunwayDesk$Search", "rows", "[[I", true)
  | 1 => ("RunwayDesk$Search", "line", "[I", true)
  | 2 => ("RunwayDesk$Search", "standing", "[Z", true)
  | 3 => ("RunwayDesk$Search", "best", "[I", true)
  | _ => ("RunwayDesk$Search", "least", "I", false)
def tyF_0 : Nat → FieldType := fun k => match k with
  | 0 => .array (.array .int)
  | 1 => .array .int
  | 2 => .array .boolean
  | 3 => .array .int
  | _ => .int
theorem nmF_0 : ∀ a, a < 5 → ∀ b, b < 5 → a ≠ b → (TF_0 a).2.1 ≠ (TF_0 b).2.1 := by decide +kernel
theorem tyF_0_ok : ∀ k, k < 5 → parseFieldDescriptor (TF_0 k).2.2.1 = some (tyF_0 k) := by decide +kernel
def df_0 : List Nat := [1, 1, 1, 1, 0]
theorem df_0_ok : ∀ j, j < 5 → defaultValue (tyF_0 j) = vp_V (df_0.map fun t => if t = 0 then .int 0 else .null) j := by decide +kernel
def TF_1 : u_T := fun k => match k with
  | 0 => ("RunwayDesk$State", "there", "[Z", true)
  | 1 => ("RunwayDesk$State", "type", "[I", true)
  | 2 => ("RunwayDesk$State", "early", "[I", true)
  | 3 => ("RunwayDesk$State", "target", "[I", true)
  | 4 => ("RunwayDesk$State", "late", "[I", true)
  | 5 => ("RunwayDesk$State", "weight", "[I", true)
  | 6 => ("RunwayDesk$State", "frozen", "[I", true)
  | 7 => ("RunwayDesk$State", "count", "I", false)
  | 8 => ("RunwayDesk$State", "gaps", "[[I", true)
  | 9 => ("RunwayDesk$State", "closedFrom", "[I", true)
  | 10 => ("RunwayDesk$State", "closedTo", "[I", true)
  | 11 => ("RunwayDesk$State", "closures", "I", false)
  | _ => ("RunwayDesk$State", "mostPlaces", "I", false)
def tyF_1 : Nat → FieldType := fun k => match k with
  | 0 => .array .boolean
  | 1 => .array .int
  | 2 => .array .int
  | 3 => .array .int
  | 4 => .array .int
  | 5 => .array .int
  | 6 => .array .int
  | 7 => .int
  | 8 => .array (.array .int)
  | 9 => .array .int
  | 10 => .array .int
  | 11 => .int
  | _ => .int
theorem nmF_1 : ∀ a, a < 13 → ∀ b, b < 13 → a ≠ b → (TF_1 a).2.1 ≠ (TF_1 b).2.1 := by decide +kernel
theorem tyF_1_ok : ∀ k, k < 13 → parseFieldDescriptor (TF_1 k).2.2.1 = some (tyF_1 k) := by decide +kernel
def df_1 : List Nat := [1, 1, 1, 1, 1, 1, 1, 0, 1, 1, 1, 0, 0]
theorem df_1_ok : ∀ j, j < 13 → defaultValue (tyF_1 j) = vp_V (df_1.map fun t => if t = 0 then .int 0 else .null) j := by decide +kernel
def TF_2 : u_T := fun k => match k with
  | 0 => ("RunwayDesk", "state", "LRunwayDesk$State;", true)
  | 1 => ("RunwayDesk", "search", "LRunwayDesk$Search;", true)
  | 2 => ("RunwayDesk", "result", "[I", true)
  | 3 => ("RunwayDesk", "accepted", "[I", true)
  | _ => ("RunwayDesk", "trial", "[I", true)
def tyF_2 : Nat → FieldType := fun k => match k with
  | 0 => .object "RunwayDesk$State"
  | 1 => .object "RunwayDesk$Search"
  | 2 => .array .int
  | 3 => .array .int
  | _ => .array .int
theorem nmF_2 : ∀ a, a < 5 → ∀ b, b < 5 → a ≠ b → (TF_2 a).2.1 ≠ (TF_2 b).2.1 := by decide +kernel
theorem tyF_2_ok : ∀ k, k < 5 → parseFieldDescriptor (TF_2 k).2.2.1 = some (tyF_2 k) := by decide +kernel
def df_2 : List Nat := [1, 1, 1, 1, 1]
theorem df_2_ok : ∀ j, j < 5 → defaultValue (tyF_2 j) = vp_V (df_2.map fun t => if t = 0 then .int 0 else .null) j := by decide +kernel
def TF_3 : u_T := fun k => match k with
  | 0 => ("RunwayDeskModel", "thrown", "I", false)
  | 1 => ("RunwayDeskModel", "there", "[Z", true)
  | 2 => ("RunwayDeskModel", "types", "[I", true)
  | 3 => ("RunwayDeskModel", "earlies", "[I", true)
  | 4 => ("RunwayDeskModel", "targets", "[I", true)
  | 5 => ("RunwayDeskModel", "lates", "[I", true)
  | 6 => ("RunwayDeskModel", "weights", "[I", true)
  | 7 => ("RunwayDeskModel", "frozen", "[I", true)
  | 8 => ("RunwayDeskModel", "gaps", "[I", true)
  | 9 => ("RunwayDeskModel", "closures", "I", false)
  | 10 => ("RunwayDeskModel", "froms", "[I", true)
  | 11 => ("RunwayDeskModel", "tos", "[I", true)
  | 12 => ("RunwayDeskModel", "most", "I", false)
  | 13 => ("RunwayDeskModel", "result", "[I", true)
  | 14 => ("RunwayDeskModel", "accepted", "[I", true)
  | 15 => ("RunwayDeskModel", "many", "I", false)
  | 16 => ("RunwayDeskModel", "order", "[I", true)
  | 17 => ("RunwayDeskModel", "tried", "[I", true)
  | 18 => ("RunwayDeskModel", "used", "[Z", true)
  | 19 => ("RunwayDeskModel", "seconds", "[I", true)
  | 20 => ("RunwayDeskModel", "costs", "[I", true)
  | _ => ("RunwayDeskModel", "best", "[I", true)
def tyF_3 : Nat → FieldType := fun k => match k with
  | 0 => .int
  | 1 => .array .boolean
  | 2 => .array .int
  | 3 => .array .int
  | 4 => .array .int
  | 5 => .array .int
  | 6 => .array .int
  | 7 => .array .int
  | 8 => .array .int
  | 9 => .int
  | 10 => .array .int
  | 11 => .array .int
  | 12 => .int
  | 13 => .array .int
  | 14 => .array .int
  | 15 => .int
  | 16 => .array .int
  | 17 => .array .int
  | 18 => .array .boolean
  | 19 => .array .int
  | 20 => .array .int
  | _ => .array .int
theorem nmF_3 : ∀ a, a < 22 → ∀ b, b < 22 → a ≠ b → (TF_3 a).2.1 ≠ (TF_3 b).2.1 := by decide +kernel
theorem tyF_3_ok : ∀ k, k < 22 → parseFieldDescriptor (TF_3 k).2.2.1 = some (tyF_3 k) := by decide +kernel
def df_3 : List Nat := [0, 1, 1, 1, 1, 1, 1, 1, 1, 0, 1, 1, 0, 1, 1, 0, 1, 1, 1, 1, 1, 1]
theorem df_3_ok : ∀ j, j < 22 → defaultValue (tyF_3 j) = vp_V (df_3.map fun t => if t = 0 then .int 0 else .null) j := by decide +kernel
def am_cl : List vw_C := [("RunwayDesk$Search", TF_0, 5), ("RunwayDesk$State", TF_1, 13), ("RunwayDesk", TF_2, 5), ("RunwayDeskModel", TF_3, 22)]
def am_ex : Nat → String := fun n => match n with
  | 0 => "java/lang/IllegalArgumentException"
  | 1 => "java/lang/IllegalStateException"
  | 2 => "java/util/NoSuchElementException"
  | _ => "java/lang/IndexOutOfBoundsException"
def am_rm (d mc ms : Nat) : Room := { frames := d + 8, cells := mc, slots := ms, locals := 200 + 60 * d }
/-- RunwayDesk.<init>()V -/
def y_0 : MethodName := ⟨"RunwayDesk", "<init>", "()V"⟩
def op_0 : List (Nat × am_Sem) := [(0, am_aload 1 0), (1, am_oinit 4), (4, am_aload 5 0), (5, am_new 8 1 df_1 33 223), (8, am_dup 9), (9, am_invV 12 79 0 1 16 99 33 223), (12, am_putr 15 2 0), (15, am_aload 16 0), (16, am_new 19 0 df_0 33 223), (19, am_dup 20), (20, am_invV 23 69 0 0 12 85 33 223), (23, am_putr 26 2 1), (26, am_aload 27 0), (27, am_push 29 (iI 7)), (29, am_newa 31 0 33 223), (31, am_putr 34 2 2), (34, am_aload 35 0), (35, am_push 37 (iI 7)), (37, am_newa 39 0 33 223), (39, am_putr 42 2 3), (42, am_aload 43 0), (43, am_push 45 (iI 7)), (45, am_newa 47 0 33 223), (47, am_putr 50 2 4), (50, am_aload 51 0), (51, am_getr 54 2 2), (54, am_push 55 (iI (-1))), (55, am_inv 58 112 2 0 0 33 223), (58, am_aload 59 0), (59, am_getr 62 2 3), (62, am_push 63 (iI (-1))), (63, am_inv 66 112 2 0 0 33 223), (66, am_vret 33 223)]
/-- RunwayDesk.gap(III)I -/
def y_1 : MethodName := ⟨"RunwayDesk", "gap", "(III)I"⟩
def op_1 : List (Nat × am_Sem) := [(0, am_iload 1 1), (1, am_inv 4 28 1 0 0 1 6), (4, am_if 7 26 0), (7, am_iload 8 2), (8, am_inv 11 28 1 0 0 1 6), (11, am_if 14 26 0), (14, am_iload 15 3), (15, am_push 17 (iI 45)), (17, am_push 20 (iI 300)), (20, am_inv 23 27 3 0 0 1 6), (23, am_if 26 34 1), (26, am_throw 0 1 6), (34, am_aload 35 0), (35, am_getr 38 2 0), (38, am_getr 41 1 8), (41, am_iload 42 1), (42, am_aald 43), (43, am_iload 44 2), (44, am_iald 45), (45, am_istore 47 4), (47, am_aload 48 0), (48, am_getr 51 2 0), (51, am_getr 54 1 8), (54, am_iload 55 1), (55, am_aald 56), (56, am_iload 57 2), (57, am_iload 58 3), (58, am_iast 59), (59, am_iload 61 4), (61, am_iret 1 6)]
/-- RunwayDesk.add(IIIII)I -/
def y_2 : MethodName := ⟨"RunwayDesk", "add", "(IIIII)I"⟩
def op_2 : List (Nat × am_Sem) := [(0, am_push 1 (iI 0)), (1, am_iload 2 2), (2, am_icmp 5 27 4), (5, am_iload 7 4), (7, am_push 10 (iI 3000)), (10, am_icmp 13 27 4), (13, am_iload 14 3), (14, am_iload 15 2), (15, am_iload 17 4), (17, am_inv 20 27 3 0 0 2 12), (20, am_if 23 27 0), (23, am_push 24 (iI 1)), (24, am_goto 28), (27, am_push 28 (iI 0)), (28, am_istore 30 6), (30, am_iload 31 1), (31, am_inv 34 28 1 0 0 2 12), (34, am_if 37 53 0), (37, am_iload 39 6), (39, am_if 42 53 0), (42, am_iload 44 5), (44, am_push 45 (iI 0)), (45, am_push 47 (iI 100)), (47, am_inv 50 27 3 0 0 2 12), (50, am_if 53 61 1), (53, am_throw 0 2 12), (61, am_aload 62 0), (62, am_getr 65 2 0), (65, am_invV 68 81 0 1 0 0 2 12), (68, am_istore 70 7), (70, am_iload 72 7), (72, am_push 73 (iI (-1))), (73, am_icmp 76 84 1), (76, am_throw 1 2 12), (84, am_aload 85 0), (85, am_getr 88 2 0), (88, am_getr 91 1 0), (91, am_iload 93 7), (93, am_push 94 (iI 1)), (94, am_zast 95), (95, am_aload 96 0), (96, am_getr 99 2 0), (99, am_getr 102 1 1), (102, am_iload 104 7), (104, am_iload 105 1), (105, am_iast 106), (106, am_aload 107 0), (107, am_getr 110 2 0), (110, am_getr 113 1 2), (113, am_iload 115 7), (115, am_iload 116 2), (116, am_iast 117), (117, am_aload 118 0), (118, am_getr 121 2 0), (121, am_getr 124 1 3), (124, am_iload 126 7), (126, am_iload 127 3), (127, am_iast 128), (128, am_aload 129 0), (129, am_getr 132 2 0), (132, am_getr 135 1 4), (135, am_iload 137 7), (137, am_iload 139 4), (139, am_iast 140), (140, am_aload 141 0), (141, am_getr 144 2 0), (144, am_getr 147 1 5), (147, am_iload 149 7), (149, am_iload 151 5), (151, am_iast 152), (152, am_aload 153 0), (153, am_getr 156 2 0), (156, am_getr 159 1 6), (159, am_iload 161 7), (161, am_push 162 (iI (-1))), (162, am_iast 163), (163, am_aload 164 0), (164, am_getr 167 2 0), (167, am_dup 168), (168, am_geti 171 1 7), (171, am_push 172 (iI 1)), (172, am_iadd 173), (173, am_puti 176 1 7), (176, am_iload 178 7), (178, am_iret 2 12)]
/-- RunwayDesk.remove(I)I -/
def y_3 : MethodName := ⟨"RunwayDesk", "remove", "(I)I"⟩
def op_3 : List (Nat × am_Sem) := [(0, am_aload 1 0), (1, am_iload 2 1), (2, am_invX 5 21 1 2 1 6 1 6), (5, am_aload 6 0), (6, am_getr 9 2 0), (9, am_getr 12 1 0), (12, am_iload 13 1), (13, am_push 14 (iI 0)), (14, am_zast 15), (15, am_aload 16 0), (16, am_getr 19 2 0), (19, am_dup 20), (20, am_geti 23 1 7), (23, am_push 24 (iI 1)), (24, am_isub 25), (25, am_puti 28 1 7), (28, am_aload 29 0), (29, am_getr 32 2 2), (32, am_iload 33 1), (33, am_push 34 (iI (-1))), (34, am_iast 35), (35, am_aload 36 0), (36, am_getr 39 2 3), (39, am_iload 40 1), (40, am_push 41 (iI (-1))), (41, am_iast 42), (42, am_aload 43 0), (43, am_getr 46 2 0), (46, am_geti 49 1 7), (49, am_iret 1 6)]
/-- RunwayDesk.retarget(II)I -/
def y_4 : MethodName := ⟨"RunwayDesk", "retarget", "(II)I"⟩
def op_4 : List (Nat × am_Sem) := [(0, am_aload 1 0), (1, am_iload 2 1), (2, am_invX 5 21 1 2 1 6 2 12), (5, am_aload 6 0), (6, am_iload 7 1), (7, am_iload 8 2), (8, am_invX 11 22 2 2 1 6 2 12), (11, am_aload 12 0), (12, am_getr 15 2 0), (15, am_getr 18 1 3), (18, am_iload 19 1), (19, am_iald 20), (20, am_istore 21 3), (21, am_aload 22 0), (22, am_getr 25 2 0), (25, am_getr 28 1 3), (28, am_iload 29 1), (29, am_iload 30 2), (30, am_iast 31), (31, am_iload 32 3), (32, am_iret 2 12)]
/-- RunwayDesk.limit(I)I -/
def y_5 : MethodName := ⟨"RunwayDesk", "limit", "(I)I"⟩
def op_5 : List (Nat × am_Sem) := [(0, am_iload 1 1), (1, am_push 2 (iI 0)), (2, am_push 4 (iI 6)), (4, am_inv 7 27 3 0 0 1 6), (7, am_if 10 18 1), (10, am_throw 0 1 6), (18, am_aload 19 0), (19, am_getr 22 2 0), (22, am_geti 25 1 12), (25, am_istore 26 2), (26, am_aload 27 0), (27, am_getr 30 2 0), (30, am_iload 31 1), (31, am_puti 34 1 12), (34, am_iload 35 2), (35, am_iret 1 6)]
/-- RunwayDesk.close(II)I -/
def y_6 : MethodName := ⟨"RunwayDesk", "close", "(II)I"⟩
def op_6 : List (Nat × am_Sem) := [(0, am_iload 1 1), (1, am_if 4 16 2), (4, am_iload 5 2), (5, am_push 8 (iI 3000)), (8, am_icmp 11 16 4), (11, am_iload 12 1), (12, am_iload 13 2), (13, am_icmp 16 24 5), (16, am_throw 0 2 12), (24, am_aload 25 0), (25, am_getr 28 2 0), (28, am_geti 31 1 11), (31, am_push 32 (iI 4)), (32, am_icmp 35 43 2), (35, am_throw 1 2 12), (43, am_aload 44 0), (44, am_getr 47 2 0), (47, am_getr 50 1 9), (50, am_aload 51 0), (51, am_getr 54 2 0), (54, am_geti 57 1 11), (57, am_iload 58 1), (58, am_iast 59), (59, am_aload 60 0), (60, am_getr 63 2 0), (63, am_getr 66 1 10), (66, am_aload 67 0), (67, am_getr 70 2 0), (70, am_geti 73 1 11), (73, am_iload 74 2), (74, am_iast 75), (75, am_aload 76 0), (76, am_getr 79 2 0), (79, am_dup 80), (80, am_geti 83 1 11), (83, am_push 84 (iI 1)), (84, am_iadd 85), (85, am_puti 88 1 11), (88, am_aload 89 0), (89, am_getr 92 2 0), (92, am_geti 95 1 11), (95, am_iret 2 12)]
/-- RunwayDesk.reopen()I -/
def y_7 : MethodName := ⟨"RunwayDesk", "reopen", "()I"⟩
def op_7 : List (Nat × am_Sem) := [(0, am_aload 1 0), (1, am_getr 4 2 0), (4, am_geti 7 1 11), (7, am_istore 8 1), (8, am_aload 9 0), (9, am_getr 12 2 0), (12, am_push 13 (iI 0)), (13, am_puti 16 1 11), (16, am_iload 17 1), (17, am_iret 0 0)]
/-- RunwayDesk.freeze(II)V -/
def y_8 : MethodName := ⟨"RunwayDesk", "freeze", "(II)V"⟩
def op_8 : List (Nat × am_Sem) := [(0, am_aload 1 0), (1, am_iload 2 1), (2, am_invX 5 21 1 2 1 6 3 18), (5, am_aload 6 0), (6, am_iload 7 1), (7, am_iload 8 2), (8, am_invX 11 22 2 2 1 6 3 18), (11, am_aload 12 0), (12, am_getr 15 2 0), (15, am_iload 16 2), (16, am_invV 19 88 1 1 0 0 3 18), (19, am_if 22 34 1), (22, am_aload 23 0), (23, am_getr 26 2 0), (26, am_iload 27 1), (27, am_iload 28 2), (28, am_invV 31 92 2 1 0 0 3 18), (31, am_if 34 42 0), (34, am_throw 1 3 18), (42, am_aload 43 0), (43, am_getr 46 2 0), (46, am_getr 49 1 6), (49, am_iload 50 1), (50, am_iload 51 2), (51, am_iast 52), (52, am_vret 3 18)]
/-- RunwayDesk.thaw(I)Z -/
def y_9 : MethodName := ⟨"RunwayDesk", "thaw", "(I)Z"⟩
def op_9 : List (Nat × am_Sem) := [(0, am_aload 1 0), (1, am_iload 2 1), (2, am_invX 5 21 1 2 1 6 1 6), (5, am_aload 6 0), (6, am_getr 9 2 0), (9, am_iload 10 1), (10, am_invV 13 83 1 1 0 0 1 6), (13, am_istore 14 2), (14, am_aload 15 0), (15, am_getr 18 2 0), (18, am_getr 21 1 6), (21, am_iload 22 1), (22, am_push 23 (iI (-1))), (23, am_iast 24), (24, am_iload 25 2), (25, am_zret 1 6)]
/-- RunwayDesk.solve()I -/
def y_10 : MethodName := ⟨"RunwayDesk", "solve", "()I"⟩
def op_10 : List (Nat × am_Sem) := [(0, am_aload 1 0), (1, am_getr 4 2 1), (4, am_aload 5 0), (5, am_getr 8 2 0), (8, am_invV 11 70 1 0 0 0 0 0), (11, am_istore 12 1), (12, am_iload 13 1), (13, am_push 14 (iI (-1))), (14, am_icmp 17 28 0), (17, am_aload 18 0), (18, am_getr 21 2 1), (21, am_aload 22 0), (22, am_getr 25 2 2), (25, am_invV 28 73 1 0 0 0 0 0), (28, am_iload 29 1), (29, am_iret 0 0)]
/-- RunwayDesk.whatIf(II)I -/
def y_11 : MethodName := ⟨"RunwayDesk", "whatIf", "(II)I"⟩
def op_11 : List (Nat × am_Sem) := [(0, am_aload 1 0), (1, am_iload 2 1), (2, am_invX 5 21 1 2 1 6 2 12), (5, am_aload 6 0), (6, am_iload 7 1), (7, am_iload 8 2), (8, am_invX 11 22 2 2 1 6 2 12), (11, am_aload 12 0), (12, am_getr 15 2 0), (15, am_getr 18 1 3), (18, am_iload 19 1), (19, am_iald 20), (20, am_istore 21 3), (21, am_aload 22 0), (22, am_getr 25 2 0), (25, am_getr 28 1 3), (28, am_iload 29 1), (29, am_iload 30 2), (30, am_iast 31), (31, am_aload 32 0), (32, am_getr 35 2 1), (35, am_aload 36 0), (36, am_getr 39 2 0), (39, am_invV 42 70 1 0 0 0 2 12), (42, am_istore 44 4), (44, am_aload 45 0), (45, am_getr 48 2 0), (48, am_getr 51 1 3), (51, am_iload 52 1), (52, am_iload 53 3), (53, am_iast 54), (54, am_iload 56 4), (56, am_iret 2 12)]
/-- RunwayDesk.second(I)I -/
def y_12 : MethodName := ⟨"RunwayDesk", "second", "(I)I"⟩
def op_12 : List (Nat × am_Sem) := [(0, am_aload 1 0), (1, am_iload 2 1), (2, am_invX 5 21 1 2 1 6 2 12), (5, am_aload 6 0), (6, am_getr 9 2 2), (9, am_iload 10 1), (10, am_iald 11), (11, am_push 12 (iI (-1))), (12, am_icmp 15 23 1), (15, am_throw 1 2 12), (23, am_aload 24 0), (24, am_getr 27 2 2), (27, am_iload 28 1), (28, am_iald 29), (29, am_iret 2 12)]
/-- RunwayDesk.at(I)I -/
def y_13 : MethodName := ⟨"RunwayDesk", "at", "(I)I"⟩
def op_13 : List (Nat × am_Sem) := [(0, am_push 1 (iI 0)), (1, am_istore 2 2), (2, am_iload 3 2), (3, am_push 5 (iI 7)), (5, am_icmp 8 38 3), (8, am_aload 9 0), (9, am_getr 12 2 2), (12, am_iload 13 2), (13, am_iald 14), (14, am_push 15 (iI (-1))), (15, am_icmp 18 32 0), (18, am_aload 19 0), (19, am_getr 22 2 2), (22, am_iload 23 2), (23, am_inv 26 30 2 0 0 1 6), (26, am_iload 27 1), (27, am_icmp 30 32 1), (30, am_iload 31 2), (31, am_iret 1 6), (32, am_iinc 35 2 (iI 1)), (35, am_goto 2), (38, am_throw 3 1 6)]
/-- RunwayDesk.place(I)I -/
def y_14 : MethodName := ⟨"RunwayDesk", "place", "(I)I"⟩
def op_14 : List (Nat × am_Sem) := [(0, am_aload 1 0), (1, am_iload 2 1), (2, am_invX 5 21 1 2 1 6 1 6), (5, am_aload 6 0), (6, am_getr 9 2 0), (9, am_iload 10 1), (10, am_invV 13 86 1 1 0 0 1 6), (13, am_iret 1 6)]
/-- RunwayDesk.verify()I -/
def y_15 : MethodName := ⟨"RunwayDesk", "verify", "()I"⟩
def op_15 : List (Nat × am_Sem) := [(0, am_aload 1 0), (1, am_getr 4 2 0), (4, am_aload 5 0), (5, am_getr 8 2 2), (8, am_invV 11 94 1 1 0 0 0 0), (11, am_iret 0 0)]
/-- RunwayDesk.firstCome()I -/
def y_16 : MethodName := ⟨"RunwayDesk", "firstCome", "()I"⟩
def op_16 : List (Nat × am_Sem) := [(0, am_aload 1 0), (1, am_getr 4 2 1), (4, am_aload 5 0), (5, am_getr 8 2 0), (8, am_invV 11 71 1 0 0 0 0 0), (11, am_iret 0 0)]
/-- RunwayDesk.bound()I -/
def y_17 : MethodName := ⟨"RunwayDesk", "bound", "()I"⟩
def op_17 : List (Nat × am_Sem) := [(0, am_aload 1 0), (1, am_getr 4 2 1), (4, am_aload 5 0), (5, am_getr 8 2 0), (8, am_invV 11 72 1 0 0 0 0 0), (11, am_iret 0 0)]
/-- RunwayDesk.slack(I)I -/
def y_18 : MethodName := ⟨"RunwayDesk", "slack", "(I)I"⟩
def op_18 : List (Nat × am_Sem) := [(0, am_aload 1 0), (1, am_iload 2 1), (2, am_invX 5 21 1 2 1 6 2 12), (5, am_aload 6 0), (6, am_getr 9 2 0), (9, am_aload 10 0), (10, am_getr 13 2 2), (13, am_invV 16 94 1 1 0 0 2 12), (16, am_push 17 (iI (-1))), (17, am_icmp 20 28 0), (20, am_throw 1 2 12), (28, am_aload 29 0), (29, am_iload 30 1), (30, am_invV 33 25 1 2 0 0 2 12), (33, am_aload 34 0), (34, am_getr 37 2 2), (37, am_iload 38 1), (38, am_iald 39), (39, am_isub 40), (40, am_iret 2 12)]
/-- RunwayDesk.accept()I -/
def y_19 : MethodName := ⟨"RunwayDesk", "accept", "()I"⟩
def op_19 : List (Nat × am_Sem) := [(0, am_push 1 (iI 0)), (1, am_istore 2 1), (2, am_push 3 (iI 0)), (3, am_istore 4 2), (4, am_iload 5 2), (5, am_push 7 (iI 7)), (7, am_icmp 10 27 3), (10, am_aload 11 0), (11, am_iload 12 2), (12, am_invV 15 23 1 2 0 0 0 0), (15, am_if 18 21 0), (18, am_iinc 21 1 (iI 1)), (21, am_iinc 24 2 (iI 1)), (24, am_goto 4), (27, am_aload 28 0), (28, am_getr 31 2 2), (31, am_push 32 (iI 0)), (32, am_aload 33 0), (33, am_getr 36 2 3), (36, am_push 37 (iI 0)), (37, am_push 39 (iI 7)), (39, am_copy 42), (42, am_iload 43 1), (43, am_iret 0 0)]
/-- RunwayDesk.change(II)I -/
def y_20 : MethodName := ⟨"RunwayDesk", "change", "(II)I"⟩
def op_20 : List (Nat × am_Sem) := [(0, am_aload 1 0), (1, am_iload 2 1), (2, am_invV 5 24 1 2 0 0 2 12), (5, am_istore 6 3), (6, am_iload 7 3), (7, am_push 8 (iI (-1))), (8, am_icmp 11 19 1), (11, am_throw 3 2 12), (19, am_iload 20 2), (20, am_switch 0 [48, 50, 57] 64), (48, am_iload 49 3), (49, am_iret 2 12), (50, am_aload 51 0), (51, am_getr 54 2 3), (54, am_iload 55 3), (55, am_iald 56), (56, am_iret 2 12), (57, am_aload 58 0), (58, am_getr 61 2 2), (61, am_iload 62 3), (62, am_iald 63), (63, am_iret 2 12), (64, am_throw 0 2 12)]
/-- RunwayDesk.requireMovement(I)V -/
def y_21 : MethodName := ⟨"RunwayDesk", "requireMovement", "(I)V"⟩
def op_21 : List (Nat × am_Sem) := [(0, am_aload 1 0), (1, am_getr 4 2 0), (4, am_iload 5 1), (5, am_invV 8 80 1 1 0 0 1 6), (8, am_if 11 19 1), (11, am_throw 2 1 6), (19, am_vret 1 6)]
/-- RunwayDesk.requireInRange(II)V -/
def y_22 : MethodName := ⟨"RunwayDesk", "requireInRange", "(II)V"⟩
def op_22 : List (Nat × am_Sem) := [(0, am_aload 1 0), (1, am_getr 4 2 0), (4, am_iload 5 1), (5, am_iload 6 2), (6, am_invV 9 82 2 1 0 0 1 6), (9, am_if 12 20 1), (12, am_throw 0 1 6), (20, am_vret 1 6)]
/-- RunwayDesk.isChanged(I)Z -/
def y_23 : MethodName := ⟨"RunwayDesk", "isChanged", "(I)Z"⟩
def op_23 : List (Nat × am_Sem) := [(0, am_aload 1 0), (1, am_getr 4 2 3), (4, am_iload 5 1), (5, am_iald 6), (6, am_aload 7 0), (7, am_getr 10 2 2), (10, am_iload 11 1), (11, am_iald 12), (12, am_icmp 15 19 0), (15, am_push 16 (iI 1)), (16, am_goto 20), (19, am_push 20 (iI 0)), (20, am_zret 0 0)]
/-- RunwayDesk.changed(I)I -/
def y_24 : MethodName := ⟨"RunwayDesk", "changed", "(I)I"⟩
def op_24 : List (Nat × am_Sem) := [(0, am_push 1 (iI 0)), (1, am_istore 2 2), (2, am_push 3 (iI 0)), (3, am_istore 4 3), (4, am_iload 5 3), (5, am_push 7 (iI 7)), (7, am_icmp 10 34 3), (10, am_aload 11 0), (11, am_iload 12 3), (12, am_invV 15 23 1 2 0 0 0 0), (15, am_if 18 28 0), (18, am_iload 19 2), (19, am_iload 20 1), (20, am_icmp 23 25 1), (23, am_iload 24 3), (24, am_iret 0 0), (25, am_iinc 28 2 (iI 1)), (28, am_iinc 31 3 (iI 1)), (31, am_goto 4), (34, am_push 35 (iI (-1))), (35, am_iret 0 0)]
/-- RunwayDesk.latestSound(I)I -/
def y_25 : MethodName := ⟨"RunwayDesk", "latestSound", "(I)I"⟩
def op_25 : List (Nat × am_Sem) := [(0, am_aload 1 0), (1, am_getr 4 2 2), (4, am_push 5 (iI 0)), (5, am_aload 6 0), (6, am_getr 9 2 4), (9, am_push 10 (iI 0)), (10, am_push 12 (iI 7)), (12, am_copy 15), (15, am_aload 16 0), (16, am_iload 17 1), (17, am_aload 18 0), (18, am_getr 21 2 2), (21, am_iload 22 1), (22, am_iald 23), (23, am_aload 24 0), (24, am_getr 27 2 0), (27, am_getr 30 1 4), (30, am_iload 31 1), (31, am_iald 32), (32, am_invV 35 26 3 2 0 0 0 0), (35, am_istore 36 2), (36, am_push 37 (iI 0)), (37, am_istore 38 3), (38, am_iload 39 3), (39, am_aload 40 0), (40, am_getr 43 2 0), (43, am_geti 46 1 11), (46, am_icmp 49 73 3), (49, am_aload 50 0), (50, am_iload 51 1), (51, am_iload 52 2), (52, am_aload 53 0), (53, am_getr 56 2 0), (56, am_getr 59 1 9), (59, am_iload 60 3), (60, am_iald 61), (61, am_push 62 (iI 1)), (62, am_isub 63), (63, am_invV 66 26 3 2 0 0 0 0), (66, am_istore 67 2), (67, am_iinc 70 3 (iI 1)), (70, am_goto 38), (73, am_push 74 (iI 0)), (74, am_istore 75 3), (75, am_iload 76 3), (76, am_push 78 (iI 7)), (78, am_icmp 81 125 3), (81, am_iload 82 3), (82, am_iload 83 1), (83, am_icmp 86 119 0), (86, am_aload 87 0), (87, am_getr 90 2 2), (90, am_iload 91 3), (91, am_iald 92), (92, am_push 93 (iI (-1))), (93, am_icmp 96 119 0), (96, am_aload 97 0), (97, am_iload 98 1), (98, am_iload 99 2), (99, am_aload 100 0), (100, am_getr 103 2 2), (103, am_iload 104 3), (104, am_iald 105), (105, am_aload 106 0), (106, am_getr 109 2 0), (109, am_iload 110 1), (110, am_iload 111 3), (111, am_invV 114 84 2 1 0 0 0 0), (114, am_isub 115), (115, am_invV 118 26 3 2 0 0 0 0), (118, am_istore 119 2), (119, am_iinc 122 3 (iI 1)), (122, am_goto 75), (125, am_iload 126 2), (126, am_iret 0 0)]
/-- RunwayDesk.laterIfSound(III)I -/
def y_26 : MethodName := ⟨"RunwayDesk", "laterIfSound", "(III)I"⟩
def op_26 : List (Nat × am_Sem) := [(0, am_iload 1 3), (1, am_iload 2 2), (2, am_icmp 5 7 4), (5, am_iload 6 2), (6, am_iret 0 0), (7, am_aload 8 0), (8, am_getr 11 2 4), (11, am_iload 12 1), (12, am_iload 13 3), (13, am_iast 14), (14, am_aload 15 0), (15, am_getr 18 2 0), (18, am_aload 19 0), (19, am_getr 22 2 4), (22, am_invV 25 94 1 1 0 0 0 0), (25, am_push 26 (iI (-1))), (26, am_icmp 29 33 1), (29, am_iload 30 3), (30, am_goto 34), (33, am_iload 34 2), (34, am_iret 0 0)]
/-- RunwayDesk.isBetween(III)Z -/
def y_27 : MethodName := ⟨"RunwayDesk", "isBetween", "(III)Z"⟩
def op_27 : List (Nat × am_Sem) := [(0, am_iload 1 1), (1, am_iload 2 0), (2, am_icmp 5 14 4), (5, am_iload 6 0), (6, am_iload 7 2), (7, am_icmp 10 14 4), (10, am_push 11 (iI 1)), (11, am_goto 15), (14, am_push 15 (iI 0)), (15, am_zret 0 0)]
/-- RunwayDesk.isType(I)Z -/
def y_28 : MethodName := ⟨"RunwayDesk", "isType", "(I)Z"⟩
def op_28 : List (Nat × am_Sem) := [(0, am_iload 1 0), (1, am_push 2 (iI 0)), (2, am_push 3 (iI 5)), (3, am_inv 6 27 3 0 0 0 0), (6, am_zret 0 0)]
/-- RunwayDesk.isBefore([III)Z -/
def y_29 : MethodName := ⟨"RunwayDesk", "isBefore", "([III)Z"⟩
def op_29 : List (Nat × am_Sem) := [(0, am_aload 1 0), (1, am_iload 2 1), (2, am_iald 3), (3, am_aload 4 0), (4, am_iload 5 2), (5, am_iald 6), (6, am_icmp 9 23 2), (9, am_aload 10 0), (10, am_iload 11 1), (11, am_iald 12), (12, am_aload 13 0), (13, am_iload 14 2), (14, am_iald 15), (15, am_icmp 18 27 1), (18, am_iload 19 1), (19, am_iload 20 2), (20, am_icmp 23 27 3), (23, am_push 24 (iI 1)), (24, am_goto 28), (27, am_push 28 (iI 0)), (28, am_zret 0 0)]
/-- RunwayDesk.placeIn([II)I -/
def y_30 : MethodName := ⟨"RunwayDesk", "placeIn", "([II)I"⟩
def op_30 : List (Nat × am_Sem) := [(0, am_push 1 (iI 0)), (1, am_istore 2 2), (2, am_push 3 (iI 0)), (3, am_istore 4 3), (4, am_iload 5 3), (5, am_push 7 (iI 7)), (7, am_icmp 10 35 3), (10, am_aload 11 0), (11, am_iload 12 3), (12, am_iald 13), (13, am_push 14 (iI (-1))), (14, am_icmp 17 29 0), (17, am_aload 18 0), (18, am_iload 19 3), (19, am_iload 20 1), (20, am_inv 23 29 3 0 0 0 0), (23, am_if 26 29 0), (26, am_iinc 29 2 (iI 1)), (29, am_iinc 32 3 (iI 1)), (32, am_goto 4), (35, am_iload 36 2), (36, am_iret 0 0)]
/-- RunwayDeskModel.<init>()V -/
def y_31 : MethodName := ⟨"RunwayDeskModel", "<init>", "()V"⟩
def op_31 : List (Nat × am_Sem) := [(0, am_aload 1 0), (1, am_oinit 4), (4, am_aload 5 0), (5, am_push 7 (iI 7)), (7, am_newa 9 1 18 151), (9, am_putr 12 3 1), (12, am_aload 13 0), (13, am_push 15 (iI 7)), (15, am_newa 17 0 18 151), (17, am_putr 20 3 2), (20, am_aload 21 0), (21, am_push 23 (iI 7)), (23, am_newa 25 0 18 151), (25, am_putr 28 3 3), (28, am_aload 29 0), (29, am_push 31 (iI 7)), (31, am_newa 33 0 18 151), (33, am_putr 36 3 4), (36, am_aload 37 0), (37, am_push 39 (iI 7)), (39, am_newa 41 0 18 151), (41, am_putr 44 3 5), (44, am_aload 45 0), (45, am_push 47 (iI 7)), (47, am_newa 49 0 18 151), (49, am_putr 52 3 6), (52, am_aload 53 0), (53, am_push 55 (iI 7)), (55, am_newa 57 0 18 151), (57, am_putr 60 3 7), (60, am_aload 61 0), (61, am_push 63 (iI 36)), (63, am_newa 65 0 18 151), (65, am_putr 68 3 8), (68, am_aload 69 0), (69, am_push 70 (iI 4)), (70, am_newa 72 0 18 151), (72, am_putr 75 3 10), (75, am_aload 76 0), (76, am_push 77 (iI 4)), (77, am_newa 79 0 18 151), (79, am_putr 82 3 11), (82, am_aload 83 0), (83, am_push 85 (iI 6)), (85, am_puti 88 3 12), (88, am_aload 89 0), (89, am_push 91 (iI 7)), (91, am_newa 93 0 18 151), (93, am_putr 96 3 13), (96, am_aload 97 0), (97, am_push 99 (iI 7)), (99, am_newa 101 0 18 151), (101, am_putr 104 3 14), (104, am_aload 105 0), (105, am_push 107 (iI 7)), (107, am_newa 109 0 18 151), (109, am_putr 112 3 16), (112, am_aload 113 0), (113, am_push 115 (iI 8)), (115, am_newa 117 0 18 151), (117, am_putr 120 3 17), (120, am_aload 121 0), (121, am_push 123 (iI 7)), (123, am_newa 125 1 18 151), (125, am_putr 128 3 18), (128, am_aload 129 0), (129, am_push 131 (iI 7)), (131, am_newa 133 0 18 151), (133, am_putr 136 3 19), (136, am_aload 137 0), (137, am_push 139 (iI 8)), (139, am_newa 141 0 18 151), (141, am_putr 144 3 20), (144, am_aload 145 0), (145, am_push 147 (iI 7)), (147, am_newa 149 0 18 151), (149, am_putr 152 3 21), (152, am_push 153 (iI 0)), (153, am_istore 154 1), (154, am_iload 155 1), (155, am_push 157 (iI 36)), (157, am_icmp 160 174 3), (160, am_aload 161 0), (161, am_getr 164 3 8), (164, am_iload 165 1), (165, am_push 167 (iI 60)), (167, am_iast 168), (168, am_iinc 171 1 (iI 1)), (171, am_goto 154), (174, am_push 175 (iI 0)), (175, am_istore 176 1), (176, am_iload 177 1), (177, am_push 179 (iI 7)), (179, am_icmp 182 209 3), (182, am_aload 183 0), (183, am_getr 186 3 13), (186, am_iload 187 1), (187, am_push 188 (iI (-1))), (188, am_iast 189), (189, am_aload 190 0), (190, am_getr 193 3 14), (193, am_iload 194 1), (194, am_push 195 (iI (-1))), (195, am_iast 196), (196, am_aload 197 0), (197, am_getr 200 3 7), (200, am_iload 201 1), (201, am_push 202 (iI (-1))), (202, am_iast 203), (203, am_iinc 206 1 (iI 1)), (206, am_goto 176), (209, am_vret 18 151)]
/-- RunwayDeskModel.thrown()I -/
def y_32 : MethodName := ⟨"RunwayDeskModel", "thrown", "()I"⟩
def op_32 : List (Nat × am_Sem) := [(0, am_aload 1 0), (1, am_geti 4 3 0), (4, am_iret 0 0)]
/-- RunwayDeskModel.isThere(I)Z -/
def y_33 : MethodName := ⟨"RunwayDeskModel", "isThere", "(I)Z"⟩
def op_33 : List (Nat × am_Sem) := [(0, am_iload 1 1), (1, am_if 4 23 2), (4, am_iload 5 1), (5, am_push 7 (iI 7)), (7, am_icmp 10 23 3), (10, am_aload 11 0), (11, am_getr 14 3 1), (14, am_iload 15 1), (15, am_zald 16), (16, am_if 19 23 0), (19, am_push 20 (iI 1)), (20, am_goto 24), (23, am_push 24 (iI 0)), (24, am_zret 0 0)]
/-- RunwayDeskModel.isSecond(I)Z -/
def y_34 : MethodName := ⟨"RunwayDeskModel", "isSecond", "(I)Z"⟩
def op_34 : List (Nat × am_Sem) := [(0, am_iload 1 0), (1, am_if 4 15 2), (4, am_iload 5 0), (5, am_push 8 (iI 3000)), (8, am_icmp 11 15 4), (11, am_push 12 (iI 1)), (12, am_goto 16), (15, am_push 16 (iI 0)), (16, am_zret 0 0)]
/-- RunwayDeskModel.count()I -/
def y_35 : MethodName := ⟨"RunwayDeskModel", "count", "()I"⟩
def op_35 : List (Nat × am_Sem) := [(0, am_push 1 (iI 0)), (1, am_istore 2 1), (2, am_push 3 (iI 0)), (3, am_istore 4 2), (4, am_iload 5 2), (5, am_push 7 (iI 7)), (7, am_icmp 10 33 3), (10, am_aload 11 0), (11, am_getr 14 3 1), (14, am_iload 15 2), (15, am_zald 16), (16, am_if 19 25 0), (19, am_iload 20 1), (20, am_push 21 (iI 1)), (21, am_iadd 22), (22, am_goto 26), (25, am_iload 26 1), (26, am_istore 27 1), (27, am_iinc 30 2 (iI 1)), (30, am_goto 4), (33, am_iload 34 1), (34, am_iret 0 0)]
/-- RunwayDeskModel.gap(III)I -/
def y_36 : MethodName := ⟨"RunwayDeskModel", "gap", "(III)I"⟩
def op_36 : List (Nat × am_Sem) := [(0, am_iload 1 1), (1, am_if 4 35 2), (4, am_iload 5 1), (5, am_push 6 (iI 5)), (6, am_icmp 9 35 4), (9, am_iload 10 2), (10, am_if 13 35 2), (13, am_iload 14 2), (14, am_push 15 (iI 5)), (15, am_icmp 18 35 4), (18, am_iload 19 3), (19, am_push 21 (iI 45)), (21, am_icmp 24 35 2), (24, am_iload 25 3), (25, am_push 28 (iI 300)), (28, am_icmp 31 35 4), (31, am_push 32 (iI 1)), (32, am_goto 36), (35, am_push 36 (iI 0)), (36, am_istore 38 4), (38, am_aload 39 0), (39, am_iload 41 4), (41, am_if 44 48 0), (44, am_push 45 (iI 0)), (45, am_goto 49), (48, am_push 49 (iI 1)), (49, am_puti 52 3 0), (52, am_iload 54 4), (54, am_if 57 59 1), (57, am_push 58 (iI 0)), (58, am_iret 0 0), (59, am_aload 60 0), (60, am_getr 63 3 8), (63, am_push 65 (iI 6)), (65, am_iload 66 1), (66, am_imul 67), (67, am_iload 68 2), (68, am_iadd 69), (69, am_iald 70), (70, am_istore 72 5), (72, am_aload 73 0), (73, am_getr 76 3 8), (76, am_push 78 (iI 6)), (78, am_iload 79 1), (79, am_imul 80), (80, am_iload 81 2), (81, am_iadd 82), (82, am_iload 83 3), (83, am_iast 84), (84, am_iload 86 5), (86, am_iret 0 0)]
/-- RunwayDeskModel.add(IIIII)I -/
def y_37 : MethodName := ⟨"RunwayDeskModel", "add", "(IIIII)I"⟩
def op_37 : List (Nat × am_Sem) := [(0, am_iload 1 2), (1, am_if 4 27 2), (4, am_iload 5 2), (5, am_iload 6 3), (6, am_icmp 9 27 4), (9, am_iload 10 3), (10, am_iload 12 4), (12, am_icmp 15 27 4), (15, am_iload 17 4), (17, am_push 20 (iI 3000)), (20, am_icmp 23 27 4), (23, am_push 24 (iI 1)), (24, am_goto 28), (27, am_push 28 (iI 0)), (28, am_istore 30 6), (30, am_iload 31 1), (31, am_if 34 60 2), (34, am_iload 35 1), (35, am_push 36 (iI 5)), (36, am_icmp 39 60 4), (39, am_iload 41 6), (41, am_if 44 60 0), (44, am_iload 46 5), (46, am_if 49 60 2), (49, am_iload 51 5), (51, am_push 53 (iI 100)), (53, am_icmp 56 60 4), (56, am_push 57 (iI 1)), (57, am_goto 61), (60, am_push 61 (iI 0)), (61, am_istore 63 7), (63, am_aload 64 0), (64, am_iload 66 7), (66, am_if 69 73 1), (69, am_push 70 (iI 1)), (70, am_goto 87), (73, am_aload 74 0), (74, am_invV 77 35 0 3 0 0 0 0), (77, am_push 79 (iI 7)), (79, am_icmp 82 86 1), (82, am_push 83 (iI 2)), (83, am_goto 87), (86, am_push 87 (iI 0)), (87, am_puti 90 3 0), (90, am_aload 91 0), (91, am_geti 94 3 0), (94, am_if 97 99 5), (97, am_push 98 (iI 0)), (98, am_iret 0 0), (99, am_push 100 (iI 0)), (100, am_istore 102 8), (102, am_aload 103 0), (103, am_getr 106 3 1), (106, am_iload 108 8), (108, am_zald 109), (109, am_if 112 118 0), (112, am_iinc 115 8 (iI 1)), (115, am_goto 102), (118, am_aload 119 0), (119, am_getr 122 3 1), (122, am_iload 124 8), (124, am_push 125 (iI 1)), (125, am_zast 126), (126, am_aload 127 0), (127, am_getr 130 3 2), (130, am_iload 132 8), (132, am_iload 133 1), (133, am_iast 134), (134, am_aload 135 0), (135, am_getr 138 3 3), (138, am_iload 140 8), (140, am_iload 141 2), (141, am_iast 142), (142, am_aload 143 0), (143, am_getr 146 3 4), (146, am_iload 148 8), (148, am_iload 149 3), (149, am_iast 150), (150, am_aload 151 0), (151, am_getr 154 3 5), (154, am_iload 156 8), (156, am_iload 158 4), (158, am_iast 159), (159, am_aload 160 0), (160, am_getr 163 3 6), (163, am_iload 165 8), (165, am_iload 167 5), (167, am_iast 168), (168, am_aload 169 0), (169, am_getr 172 3 7), (172, am_iload 174 8), (174, am_push 175 (iI (-1))), (175, am_iast 176), (176, am_iload 178 8), (178, am_iret 0 0)]
/-- RunwayDeskModel.remove(I)I -/
def y_38 : MethodName := ⟨"RunwayDeskModel", "remove", "(I)I"⟩
def op_38 : List (Nat × am_Sem) := [(0, am_aload 1 0), (1, am_aload 2 0), (2, am_iload 3 1), (3, am_invV 6 33 1 3 0 0 0 0), (6, am_if 9 13 0), (9, am_push 10 (iI 0)), (10, am_goto 14), (13, am_push 14 (iI 1)), (14, am_puti 17 3 0), (17, am_aload 18 0), (18, am_geti 21 3 0), (21, am_if 24 26 5), (24, am_push 25 (iI 0)), (25, am_iret 0 0), (26, am_aload 27 0), (27, am_getr 30 3 1), (30, am_iload 31 1), (31, am_push 32 (iI 0)), (32, am_zast 33), (33, am_aload 34 0), (34, am_getr 37 3 13), (37, am_iload 38 1), (38, am_push 39 (iI (-1))), (39, am_iast 40), (40, am_aload 41 0), (41, am_getr 44 3 14), (44, am_iload 45 1), (45, am_push 46 (iI (-1))), (46, am_iast 47), (47, am_aload 48 0), (48, am_invV 51 35 0 3 0 0 0 0), (51, am_iret 0 0)]
/-- RunwayDeskModel.retarget(II)I -/
def y_39 : MethodName := ⟨"RunwayDeskModel", "retarget", "(II)I"⟩
def op_39 : List (Nat × am_Sem) := [(0, am_aload 1 0), (1, am_aload 2 0), (2, am_iload 3 1), (3, am_invV 6 33 1 3 0 0 0 0), (6, am_if 9 13 1), (9, am_push 10 (iI 1)), (10, am_goto 38), (13, am_iload 14 2), (14, am_aload 15 0), (15, am_getr 18 3 3), (18, am_iload 19 1), (19, am_iald 20), (20, am_icmp 23 33 2), (23, am_iload 24 2), (24, am_aload 25 0), (25, am_getr 28 3 5), (28, am_iload 29 1), (29, am_iald 30), (30, am_icmp 33 37 5), (33, am_push 34 (iI 2)), (34, am_goto 38), (37, am_push 38 (iI 0)), (38, am_puti 41 3 0), (41, am_aload 42 0), (42, am_geti 45 3 0), (45, am_if 48 50 5), (48, am_push 49 (iI 0)), (49, am_iret 0 0), (50, am_aload 51 0), (51, am_getr 54 3 4), (54, am_iload 55 1), (55, am_iald 56), (56, am_istore 57 3), (57, am_aload 58 0), (58, am_getr 61 3 4), (61, am_iload 62 1), (62, am_iload 63 2), (63, am_iast 64), (64, am_iload 65 3), (65, am_iret 0 0)]
/-- RunwayDeskModel.limit(I)I -/
def y_40 : MethodName := ⟨"RunwayDeskModel", "limit", "(I)I"⟩
def op_40 : List (Nat × am_Sem) := [(0, am_aload 1 0), (1, am_iload 2 1), (2, am_if 5 15 2), (5, am_iload 6 1), (6, am_push 8 (iI 6)), (8, am_icmp 11 15 4), (11, am_push 12 (iI 0)), (12, am_goto 16), (15, am_push 16 (iI 1)), (16, am_puti 19 3 0), (19, am_aload 20 0), (20, am_geti 23 3 0), (23, am_if 26 28 5), (26, am_push 27 (iI 0)), (27, am_iret 0 0), (28, am_aload 29 0), (29, am_geti 32 3 12), (32, am_istore 33 2), (33, am_aload 34 0), (34, am_iload 35 1), (35, am_puti 38 3 12), (38, am_iload 39 2), (39, am_iret 0 0)]
/-- RunwayDeskModel.close(II)I -/
def y_41 : MethodName := ⟨"RunwayDeskModel", "close", "(II)I"⟩
def op_41 : List (Nat × am_Sem) := [(0, am_aload 1 0), (1, am_iload 2 1), (2, am_inv 5 34 1 0 0 0 0), (5, am_if 8 20 0), (8, am_iload 9 2), (9, am_inv 12 34 1 0 0 0 0), (12, am_if 15 20 0), (15, am_iload 16 1), (16, am_iload 17 2), (17, am_icmp 20 24 5), (20, am_push 21 (iI 1)), (21, am_goto 37), (24, am_aload 25 0), (25, am_geti 28 3 9), (28, am_push 29 (iI 4)), (29, am_icmp 32 36 1), (32, am_push 33 (iI 2)), (33, am_goto 37), (36, am_push 37 (iI 0)), (37, am_puti 40 3 0), (40, am_aload 41 0), (41, am_geti 44 3 0), (44, am_if 47 49 5), (47, am_push 48 (iI 0)), (48, am_iret 0 0), (49, am_aload 50 0), (50, am_getr 53 3 10), (53, am_aload 54 0), (54, am_geti 57 3 9), (57, am_iload 58 1), (58, am_iast 59), (59, am_aload 60 0), (60, am_getr 63 3 11), (63, am_aload 64 0), (64, am_geti 67 3 9), (67, am_iload 68 2), (68, am_iast 69), (69, am_aload 70 0), (70, am_dup 71), (71, am_geti 74 3 9), (74, am_push 75 (iI 1)), (75, am_iadd 76), (76, am_puti 79 3 9), (79, am_aload 80 0), (80, am_geti 83 3 9), (83, am_iret 0 0)]
/-- RunwayDeskModel.reopen()I -/
def y_42 : MethodName := ⟨"RunwayDeskModel", "reopen", "()I"⟩
def op_42 : List (Nat × am_Sem) := [(0, am_aload 1 0), (1, am_push 2 (iI 0)), (2, am_puti 5 3 0), (5, am_aload 6 0), (6, am_geti 9 3 9), (9, am_istore 10 1), (10, am_aload 11 0), (11, am_push 12 (iI 0)), (12, am_puti 15 3 9), (15, am_iload 16 1), (16, am_iret 0 0)]
/-- RunwayDeskModel.isClosed(I)Z -/
def y_43 : MethodName := ⟨"RunwayDeskModel", "isClosed", "(I)Z"⟩
def op_43 : List (Nat × am_Sem) := [(0, am_push 1 (iI 0)), (1, am_istore 2 2), (2, am_push 3 (iI 0)), (3, am_istore 4 3), (4, am_iload 5 3), (5, am_aload 6 0), (6, am_geti 9 3 9), (9, am_icmp 12 48 3), (12, am_iload 13 2), (13, am_if 16 36 1), (16, am_iload 17 1), (17, am_aload 18 0), (18, am_getr 21 3 10), (21, am_iload 22 3), (22, am_iald 23), (23, am_icmp 26 40 2), (26, am_iload 27 1), (27, am_aload 28 0), (28, am_getr 31 3 11), (31, am_iload 32 3), (32, am_iald 33), (33, am_icmp 36 40 4), (36, am_push 37 (iI 1)), (37, am_goto 41), (40, am_push 41 (iI 0)), (41, am_istore 42 2), (42, am_iinc 45 3 (iI 1)), (45, am_goto 4), (48, am_iload 49 2), (49, am_zret 0 0)]
/-- RunwayDeskModel.areNear(IIII)Z -/
def y_44 : MethodName := ⟨"RunwayDeskModel", "areNear", "(IIII)Z"⟩
def op_44 : List (Nat × am_Sem) := [(0, am_iload 1 2), (1, am_iload 3 4), (3, am_icmp 6 71 0), (6, am_iload 7 2), (7, am_iload 9 4), (9, am_icmp 12 43 3), (12, am_iload 14 4), (14, am_iload 15 2), (15, am_isub 16), (16, am_aload 17 0), (17, am_getr 20 3 8), (20, am_push 22 (iI 6)), (22, am_aload 23 0), (23, am_getr 26 3 2), (26, am_iload 27 1), (27, am_iald 28), (28, am_imul 29), (29, am_aload 30 0), (30, am_getr 33 3 2), (33, am_iload 34 3), (34, am_iald 35), (35, am_iadd 36), (36, am_iald 37), (37, am_icmp 40 75 3), (40, am_goto 71), (43, am_iload 44 2), (44, am_iload 46 4), (46, am_isub 47), (47, am_aload 48 0), (48, am_getr 51 3 8), (51, am_push 53 (iI 6)), (53, am_aload 54 0), (54, am_getr 57 3 2), (57, am_iload 58 3), (58, am_iald 59), (59, am_imul 60), (60, am_aload 61 0), (61, am_getr 64 3 2), (64, am_iload 65 1), (65, am_iald 66), (66, am_iadd 67), (67, am_iald 68), (68, am_icmp 71 75 3), (71, am_push 72 (iI 1)), (72, am_goto 76), (75, am_push 76 (iI 0)), (76, am_zret 0 0)]
/-- RunwayDeskModel.freeze(II)V -/
def y_45 : MethodName := ⟨"RunwayDeskModel", "freeze", "(II)V"⟩
def op_45 : List (Nat × am_Sem) := [(0, am_aload 1 0), (1, am_aload 2 0), (2, am_iload 3 1), (3, am_invV 6 33 1 3 0 0 0 0), (6, am_if 9 13 1), (9, am_push 10 (iI 1)), (10, am_goto 50), (13, am_iload 14 2), (14, am_aload 15 0), (15, am_getr 18 3 3), (18, am_iload 19 1), (19, am_iald 20), (20, am_icmp 23 33 2), (23, am_iload 24 2), (24, am_aload 25 0), (25, am_getr 28 3 5), (28, am_iload 29 1), (29, am_iald 30), (30, am_icmp 33 37 5), (33, am_push 34 (iI 2)), (34, am_goto 50), (37, am_aload 38 0), (38, am_iload 39 2), (39, am_invV 42 43 1 3 0 0 0 0), (42, am_if 45 49 0), (45, am_push 46 (iI 3)), (46, am_goto 50), (49, am_push 50 (iI 0)), (50, am_puti 53 3 0), (53, am_push 54 (iI 0)), (54, am_istore 55 3), (55, am_iload 56 3), (56, am_push 58 (iI 7)), (58, am_icmp 61 118 3), (61, am_aload 62 0), (62, am_geti 65 3 0), (65, am_if 68 118 1), (68, am_iload 69 3), (69, am_iload 70 1), (70, am_icmp 73 112 0), (73, am_aload 74 0), (74, am_getr 77 3 1), (77, am_iload 78 3), (78, am_zald 79), (79, am_if 82 112 0), (82, am_aload 83 0), (83, am_getr 86 3 7), (86, am_iload 87 3), (87, am_iald 88), (88, am_if 91 112 2), (91, am_aload 92 0), (92, am_iload 93 1), (93, am_iload 94 2), (94, am_iload 95 3), (95, am_aload 96 0), (96, am_getr 99 3 7), (99, am_iload 100 3), (100, am_iald 101), (101, am_invV 104 44 4 3 0 0 0 0), (104, am_if 107 112 0), (107, am_aload 108 0), (108, am_push 109 (iI 3)), (109, am_puti 112 3 0), (112, am_iinc 115 3 (iI 1)), (115, am_goto 55), (118, am_aload 119 0), (119, am_geti 122 3 0), (122, am_if 125 132 1), (125, am_aload 126 0), (126, am_getr 129 3 7), (129, am_iload 130 1), (130, am_iload 131 2), (131, am_iast 132), (132, am_vret 0 0)]
/-- RunwayDeskModel.thaw(I)Z -/
def y_46 : MethodName := ⟨"RunwayDeskModel", "thaw", "(I)Z"⟩
def op_46 : List (Nat × am_Sem) := [(0, am_aload 1 0), (1, am_aload 2 0), (2, am_iload 3 1), (3, am_invV 6 33 1 3 0 0 0 0), (6, am_if 9 13 0), (9, am_push 10 (iI 0)), (10, am_goto 14), (13, am_push 14 (iI 1)), (14, am_puti 17 3 0), (17, am_aload 18 0), (18, am_geti 21 3 0), (21, am_if 24 26 5), (24, am_push 25 (iI 0)), (25, am_zret 0 0), (26, am_aload 27 0), (27, am_getr 30 3 7), (30, am_iload 31 1), (31, am_iald 32), (32, am_if 35 39 2), (35, am_push 36 (iI 1)), (36, am_goto 40), (39, am_push 40 (iI 0)), (40, am_istore 41 2), (41, am_aload 42 0), (42, am_getr 45 3 7), (45, am_iload 46 1), (46, am_push 47 (iI (-1))), (47, am_iast 48), (48, am_iload 49 2), (49, am_zret 0 0)]
/-- RunwayDeskModel.placeOf(I)I -/
def y_47 : MethodName := ⟨"RunwayDeskModel", "placeOf", "(I)I"⟩
def op_47 : List (Nat × am_Sem) := [(0, am_push 1 (iI 0)), (1, am_istore 2 2), (2, am_push 3 (iI 0)), (3, am_istore 4 3), (4, am_iload 5 3), (5, am_push 7 (iI 7)), (7, am_icmp 10 68 3), (10, am_aload 11 0), (11, am_getr 14 3 1), (14, am_iload 15 3), (15, am_zald 16), (16, am_if 19 60 0), (19, am_aload 20 0), (20, am_getr 23 3 4), (23, am_iload 24 3), (24, am_iald 25), (25, am_aload 26 0), (26, am_getr 29 3 4), (29, am_iload 30 1), (30, am_iald 31), (31, am_icmp 34 54 2), (34, am_aload 35 0), (35, am_getr 38 3 4), (38, am_iload 39 3), (39, am_iald 40), (40, am_aload 41 0), (41, am_getr 44 3 4), (44, am_iload 45 1), (45, am_iald 46), (46, am_icmp 49 60 1), (49, am_iload 50 3), (50, am_iload 51 1), (51, am_icmp 54 60 3), (54, am_iload 55 2), (55, am_push 56 (iI 1)), (56, am_iadd 57), (57, am_goto 61), (60, am_iload 61 2), (61, am_istore 62 2), (62, am_iinc 65 3 (iI 1)), (65, am_goto 4), (68, am_iload 69 2), (69, am_iret 0 0)]
/-- RunwayDeskModel.layOrder()V -/
def y_48 : MethodName := ⟨"RunwayDeskModel", "layOrder", "()V"⟩
def op_48 : List (Nat × am_Sem) := [(0, am_aload 1 0), (1, am_aload 2 0), (2, am_invV 5 35 0 3 0 0 0 0), (5, am_puti 8 3 15), (8, am_push 9 (iI 0)), (9, am_istore 10 1), (10, am_iload 11 1), (11, am_push 13 (iI 7)), (13, am_icmp 16 42 3), (16, am_aload 17 0), (17, am_getr 20 3 1), (20, am_iload 21 1), (21, am_zald 22), (22, am_if 25 36 0), (25, am_aload 26 0), (26, am_getr 29 3 16), (29, am_aload 30 0), (30, am_iload 31 1), (31, am_invV 34 47 1 3 0 0 0 0), (34, am_iload 35 1), (35, am_iast 36), (36, am_iinc 39 1 (iI 1)), (39, am_goto 10), (42, am_vret 0 0)]
/-- RunwayDeskModel.openFrom(I)I -/
def y_49 : MethodName := ⟨"RunwayDeskModel", "openFrom", "(I)I"⟩
def op_49 : List (Nat × am_Sem) := [(0, am_iload 1 1), (1, am_istore 2 2), (2, am_push 3 (iI 0)), (3, am_istore 4 3), (4, am_iload 5 3), (5, am_push 6 (iI 4)), (6, am_icmp 9 69 3), (9, am_push 10 (iI 0)), (10, am_istore 12 4), (12, am_iload 14 4), (14, am_aload 15 0), (15, am_geti 18 3 9), (18, am_icmp 21 63 3), (21, am_iload 22 2), (22, am_aload 23 0), (23, am_getr 26 3 10), (26, am_iload 28 4), (28, am_iald 29), (29, am_icmp 32 55 2), (32, am_iload 33 2), (33, am_aload 34 0), (34, am_getr 37 3 11), (37, am_iload 39 4), (39, am_iald 40), (40, am_icmp 43 55 4), (43, am_aload 44 0), (44, am_getr 47 3 11), (47, am_iload 49 4), (49, am_iald 50), (50, am_push 51 (iI 1)), (51, am_iadd 52), (52, am_goto 56), (55, am_iload 56 2), (56, am_istore 57 2), (57, am_iinc 60 4 (iI 1)), (60, am_goto 12), (63, am_iinc 66 3 (iI 1)), (66, am_goto 4), (69, am_iload 70 2), (70, am_iret 0 0)]
/-- RunwayDeskModel.secondFrom(II)I -/
def y_50 : MethodName := ⟨"RunwayDeskModel", "secondFrom", "(II)I"⟩
def op_50 : List (Nat × am_Sem) := [(0, am_aload 1 0), (1, am_iload 2 2), (2, am_aload 3 0), (3, am_getr 6 3 3), (6, am_iload 7 1), (7, am_iald 8), (8, am_icmp 11 15 5), (11, am_iload 12 2), (12, am_goto 21), (15, am_aload 16 0), (16, am_getr 19 3 3), (19, am_iload 20 1), (20, am_iald 21), (21, am_invV 24 49 1 3 0 0 0 0), (24, am_istore 25 3), (25, am_aload 26 0), (26, am_getr 29 3 7), (29, am_iload 30 1), (30, am_iald 31), (31, am_if 34 68 2), (34, am_aload 35 0), (35, am_getr 38 3 7), (38, am_iload 39 1), (39, am_iald 40), (40, am_iload 41 2), (41, am_icmp 44 66 2), (44, am_aload 45 0), (45, am_aload 46 0), (46, am_getr 49 3 7), (49, am_iload 50 1), (50, am_iald 51), (51, am_invV 54 43 1 3 0 0 0 0), (54, am_if 57 66 1), (57, am_aload 58 0), (58, am_getr 61 3 7), (61, am_iload 62 1), (62, am_iald 63), (63, am_goto 67), (66, am_push 67 (iI (-1))), (67, am_iret 0 0), (68, am_iload 69 3), (69, am_aload 70 0), (70, am_getr 73 3 5), (73, am_iload 74 1), (74, am_iald 75), (75, am_icmp 78 82 4), (78, am_iload 79 3), (79, am_goto 83), (82, am_push 83 (iI (-1))), (83, am_iret 0 0)]
/-- RunwayDeskModel.delay(II)I -/
def y_51 : MethodName := ⟨"RunwayDeskModel", "delay", "(II)I"⟩
def op_51 : List (Nat × am_Sem) := [(0, am_iload 1 2), (1, am_aload 2 0), (2, am_getr 5 3 4), (5, am_iload 6 1), (6, am_iald 7), (7, am_icmp 10 28 5), (10, am_aload 11 0), (11, am_getr 14 3 6), (14, am_iload 15 1), (15, am_iald 16), (16, am_iload 17 2), (17, am_aload 18 0), (18, am_getr 21 3 4), (21, am_iload 22 1), (22, am_iald 23), (23, am_isub 24), (24, am_imul 25), (25, am_goto 29), (28, am_push 29 (iI 0)), (29, am_iret 0 0)]
/-- RunwayDeskModel.lay(III)Z -/
def y_52 : MethodName := ⟨"RunwayDeskModel", "lay", "(III)Z"⟩
def op_52 : List (Nat × am_Sem) := [(0, am_aload 1 0), (1, am_getr 4 3 16), (4, am_iload 5 2), (5, am_iald 6), (6, am_istore 8 4), (8, am_iload 9 1), (9, am_iload 10 2), (10, am_icmp 13 19 5), (13, am_iload 14 1), (14, am_iload 15 2), (15, am_isub 16), (16, am_goto 22), (19, am_iload 20 2), (20, am_iload 21 1), (21, am_isub 22), (22, am_istore 24 5), (24, am_aload 25 0), (25, am_getr 28 3 7), (28, am_iload 30 4), (30, am_iald 31), (31, am_if 34 42 3), (34, am_iload 36 5), (36, am_iload 37 3), (37, am_icmp 40 42 5), (40, am_push 41 (iI 0)), (41, am_zret 0 0), (42, am_push 43 (iI 0)), (43, am_istore 45 6), (45, am_push 46 (iI 0)), (46, am_istore 48 7), (48, am_iload 50 7), (50, am_iload 51 1), (51, am_icmp 54 123 3), (54, am_aload 55 0), (55, am_getr 58 3 16), (58, am_aload 59 0), (59, am_getr 62 3 17), (62, am_iload 64 7), (64, am_iald 65), (65, am_iald 66), (66, am_istore 68 8), (68, am_aload 69 0), (69, am_getr 72 3 19), (72, am_iload 74 7), (74, am_iald 75), (75, am_aload 76 0), (76, am_getr 79 3 8), (79, am_push 81 (iI 6)), (81, am_aload 82 0), (82, am_getr 85 3 2), (85, am_iload 87 8), (87, am_iald 88), (88, am_imul 89), (89, am_aload 90 0), (90, am_getr 93 3 2), (93, am_iload 95 4), (95, am_iald 96), (96, am_iadd 97), (97, am_iald 98), (98, am_iadd 99), (99, am_istore 101 9), (101, am_iload 103 9), (103, am_iload 105 6), (105, am_icmp 108 113 5), (108, am_iload 110 9), (110, am_goto 115), (113, am_iload 115 6), (115, am_istore 117 6), (117, am_iinc 120 7 (iI 1)), (120, am_goto 48), (123, am_aload 124 0), (124, am_iload 126 4), (126, am_iload 128 6), (128, am_invV 131 50 2 3 0 0 0 0), (131, am_istore 133 7), (133, am_iload 135 7), (135, am_if 138 140 3), (138, am_push 139 (iI 0)), (139, am_zret 0 0), (140, am_aload 141 0), (141, am_getr 144 3 19), (144, am_iload 145 1), (145, am_iload 147 7), (147, am_iast 148), (148, am_aload 149 0), (149, am_getr 152 3 20), (152, am_iload 153 1), (153, am_push 154 (iI 1)), (154, am_iadd 155), (155, am_aload 156 0), (156, am_getr 159 3 20), (159, am_iload 160 1), (160, am_iald 161), (161, am_aload 162 0), (162, am_iload 164 4), (164, am_iload 166 7), (166, am_invV 169 51 2 3 0 0 0 0), (169, am_iadd 170), (170, am_iast 171), (171, am_push 172 (iI 1)), (172, am_zret 0 0)]
/-- RunwayDeskModel.keepBest()V -/
def y_53 : MethodName := ⟨"RunwayDeskModel", "keepBest", "()V"⟩
def op_53 : List (Nat × am_Sem) := [(0, am_push 1 (iI 0)), (1, am_istore 2 1), (2, am_iload 3 1), (3, am_push 5 (iI 7)), (5, am_icmp 8 21 3), (8, am_aload 9 0), (9, am_getr 12 3 21), (12, am_iload 13 1), (13, am_push 14 (iI (-1))), (14, am_iast 15), (15, am_iinc 18 1 (iI 1)), (18, am_goto 2), (21, am_push 22 (iI 0)), (22, am_istore 23 1), (23, am_iload 24 1), (24, am_aload 25 0), (25, am_geti 28 3 15), (28, am_icmp 31 59 3), (31, am_aload 32 0), (32, am_getr 35 3 21), (35, am_aload 36 0), (36, am_getr 39 3 16), (39, am_aload 40 0), (40, am_getr 43 3 17), (43, am_iload 44 1), (44, am_iald 45), (45, am_iald 46), (46, am_aload 47 0), (47, am_getr 50 3 19), (50, am_iload 51 1), (51, am_iald 52), (52, am_iast 53), (53, am_iinc 56 1 (iI 1)), (56, am_goto 23), (59, am_vret 0 0)]
/-- RunwayDeskModel.search()I -/
def y_54 : MethodName := ⟨"RunwayDeskModel", "search", "()I"⟩
def op_54 : List (Nat × am_Sem) := [(0, am_aload 1 0), (1, am_invV 4 48 0 3 0 0 0 0), (4, am_push 5 (iI 0)), (5, am_istore 6 1), (6, am_iload 7 1), (7, am_push 9 (iI 7)), (9, am_icmp 12 25 3), (12, am_aload 13 0), (13, am_getr 16 3 18), (16, am_iload 17 1), (17, am_push 18 (iI 0)), (18, am_zast 19), (19, am_iinc 22 1 (iI 1)), (22, am_goto 6), (25, am_aload 26 0), (26, am_getr 29 3 20), (29, am_push 30 (iI 0)), (30, am_push 31 (iI 0)), (31, am_iast 32), (32, am_push 33 (iI (-1))), (33, am_istore 34 1), (34, am_push 35 (iI 0)), (35, am_istore 36 2), (36, am_aload 37 0), (37, am_getr 40 3 17), (40, am_push 41 (iI 0)), (41, am_push 42 (iI (-1))), (42, am_iast 43), (43, am_iload 44 2), (44, am_if 47 198 2), (47, am_iload 48 2), (48, am_aload 49 0), (49, am_geti 52 3 15), (52, am_icmp 55 72 1), (55, am_aload 56 0), (56, am_getr 59 3 20), (59, am_iload 60 2), (60, am_iald 61), (61, am_istore 62 1), (62, am_aload 63 0), (63, am_invV 66 53 0 3 0 0 0 0), (66, am_iinc 69 2 (iI (-1))), (69, am_goto 43), (72, am_aload 73 0), (73, am_getr 76 3 17), (76, am_iload 77 2), (77, am_iald 78), (78, am_istore 79 3), (79, am_iload 80 3), (80, am_if 83 90 2), (83, am_aload 84 0), (84, am_getr 87 3 18), (87, am_iload 88 3), (88, am_push 89 (iI 0)), (89, am_zast 90), (90, am_iinc 93 3 (iI 1)), (93, am_iload 94 3), (94, am_aload 95 0), (95, am_geti 98 3 15), (98, am_icmp 101 145 3), (101, am_aload 102 0), (102, am_getr 105 3 18), (105, am_iload 106 3), (106, am_zald 107), (107, am_if 110 139 1), (110, am_aload 111 0), (111, am_iload 112 2), (112, am_iload 113 3), (113, am_aload 114 0), (114, am_geti 117 3 12), (117, am_invV 120 52 3 3 0 0 0 0), (120, am_if 123 139 0), (123, am_iload 124 1), (124, am_if 127 145 2), (127, am_aload 128 0), (128, am_getr 131 3 20), (131, am_iload 132 2), (132, am_push 133 (iI 1)), (133, am_iadd 134), (134, am_iald 135), (135, am_iload 136 1), (136, am_icmp 139 145 2), (139, am_iinc 142 3 (iI 1)), (142, am_goto 93), (145, am_aload 146 0), (146, am_getr 149 3 17), (149, am_iload 150 2), (150, am_iload 151 3), (151, am_aload 152 0), (152, am_geti 155 3 15), (155, am_icmp 158 162 3), (158, am_iload 159 3), (159, am_goto 163), (162, am_push 163 (iI (-1))), (163, am_iast 164), (164, am_iload 165 3), (165, am_aload 166 0), (166, am_geti 169 3 15), (169, am_icmp 172 192 3), (172, am_aload 173 0), (173, am_getr 176 3 18), (176, am_iload 177 3), (177, am_push 178 (iI 1)), (178, am_zast 179), (179, am_iinc 182 2 (iI 1)), (182, am_aload 183 0), (183, am_getr 186 3 17), (186, am_iload 187 2), (187, am_push 188 (iI (-1))), (188, am_iast 189), (189, am_goto 195), (192, am_iinc 195 2 (iI (-1))), (195, am_goto 43), (198, am_iload 199 1), (199, am_iret 0 0)]
/-- RunwayDeskModel.solve()I -/
def y_55 : MethodName := ⟨"RunwayDeskModel", "solve", "()I"⟩
def op_55 : List (Nat × am_Sem) := [(0, am_aload 1 0), (1, am_push 2 (iI 0)), (2, am_puti 5 3 0), (5, am_aload 6 0), (6, am_invV 9 54 0 3 0 0 0 0), (9, am_istore 10 1), (10, am_push 11 (iI 0)), (11, am_istore 12 2), (12, am_iload 13 2), (13, am_push 15 (iI 7)), (15, am_icmp 18 40 3), (18, am_iload 19 1), (19, am_if 22 40 2), (22, am_aload 23 0), (23, am_getr 26 3 13), (26, am_iload 27 2), (27, am_aload 28 0), (28, am_getr 31 3 21), (31, am_iload 32 2), (32, am_iald 33), (33, am_iast 34), (34, am_iinc 37 2 (iI 1)), (37, am_goto 12), (40, am_iload 41 1), (41, am_iret 0 0)]
/-- RunwayDeskModel.whatIf(II)I -/
def y_56 : MethodName := ⟨"RunwayDeskModel", "whatIf", "(II)I"⟩
def op_56 : List (Nat × am_Sem) := [(0, am_aload 1 0), (1, am_aload 2 0), (2, am_iload 3 1), (3, am_invV 6 33 1 3 0 0 0 0), (6, am_if 9 13 1), (9, am_push 10 (iI 1)), (10, am_goto 38), (13, am_iload 14 2), (14, am_aload 15 0), (15, am_getr 18 3 3), (18, am_iload 19 1), (19, am_iald 20), (20, am_icmp 23 33 2), (23, am_iload 24 2), (24, am_aload 25 0), (25, am_getr 28 3 5), (28, am_iload 29 1), (29, am_iald 30), (30, am_icmp 33 37 5), (33, am_push 34 (iI 2)), (34, am_goto 38), (37, am_push 38 (iI 0)), (38, am_puti 41 3 0), (41, am_aload 42 0), (42, am_geti 45 3 0), (45, am_if 48 50 5), (48, am_push 49 (iI 0)), (49, am_iret 0 0), (50, am_aload 51 0), (51, am_getr 54 3 4), (54, am_iload 55 1), (55, am_iald 56), (56, am_istore 57 3), (57, am_aload 58 0), (58, am_getr 61 3 4), (61, am_iload 62 1), (62, am_iload 63 2), (63, am_iast 64), (64, am_aload 65 0), (65, am_invV 68 54 0 3 0 0 0 0), (68, am_istore 70 4), (70, am_aload 71 0), (71, am_getr 74 3 4), (74, am_iload 75 1), (75, am_iload 76 3), (76, am_iast 77), (77, am_iload 79 4), (79, am_iret 0 0)]
/-- RunwayDeskModel.firstCome()I -/
def y_57 : MethodName := ⟨"RunwayDeskModel", "firstCome", "()I"⟩
def op_57 : List (Nat × am_Sem) := [(0, am_aload 1 0), (1, am_push 2 (iI 0)), (2, am_puti 5 3 0), (5, am_aload 6 0), (6, am_invV 9 48 0 3 0 0 0 0), (9, am_aload 10 0), (10, am_getr 13 3 20), (13, am_push 14 (iI 0)), (14, am_push 15 (iI 0)), (15, am_iast 16), (16, am_push 17 (iI 0)), (17, am_istore 18 1), (18, am_iload 19 1), (19, am_aload 20 0), (20, am_geti 23 3 15), (23, am_icmp 26 52 3), (26, am_aload 27 0), (27, am_getr 30 3 17), (30, am_iload 31 1), (31, am_iload 32 1), (32, am_iast 33), (33, am_aload 34 0), (34, am_iload 35 1), (35, am_iload 36 1), (36, am_push 38 (iI 6)), (38, am_invV 41 52 3 3 0 0 0 0), (41, am_if 44 46 1), (44, am_push 45 (iI (-1))), (45, am_iret 0 0), (46, am_iinc 49 1 (iI 1)), (49, am_goto 18), (52, am_aload 53 0), (53, am_getr 56 3 20), (56, am_aload 57 0), (57, am_geti 60 3 15), (60, am_iald 61), (61, am_iret 0 0)]
/-- RunwayDeskModel.bound()I -/
def y_58 : MethodName := ⟨"RunwayDeskModel", "bound", "()I"⟩
def op_58 : List (Nat × am_Sem) := [(0, am_aload 1 0), (1, am_push 2 (iI 0)), (2, am_puti 5 3 0), (5, am_push 6 (iI 0)), (6, am_istore 7 1), (7, am_push 8 (iI 0)), (8, am_istore 9 2), (9, am_iload 10 2), (10, am_push 12 (iI 7)), (12, am_icmp 15 69 3), (15, am_aload 16 0), (16, am_getr 19 3 1), (19, am_iload 20 2), (20, am_zald 21), (21, am_if 24 33 0), (24, am_aload 25 0), (25, am_iload 26 2), (26, am_push 27 (iI 0)), (27, am_invV 30 50 2 3 0 0 0 0), (30, am_goto 34), (33, am_push 34 (iI 0)), (34, am_istore 35 3), (35, am_iload 36 3), (36, am_if 39 41 3), (39, am_push 40 (iI (-1))), (40, am_iret 0 0), (41, am_aload 42 0), (42, am_getr 45 3 1), (45, am_iload 46 2), (46, am_zald 47), (47, am_if 50 61 0), (50, am_iload 51 1), (51, am_aload 52 0), (52, am_iload 53 2), (53, am_iload 54 3), (54, am_invV 57 51 2 3 0 0 0 0), (57, am_iadd 58), (58, am_goto 62), (61, am_iload 62 1), (62, am_istore 63 1), (63, am_iinc 66 2 (iI 1)), (66, am_goto 9), (69, am_iload 70 1), (70, am_iret 0 0)]
/-- RunwayDeskModel.second(I)I -/
def y_59 : MethodName := ⟨"RunwayDeskModel", "second", "(I)I"⟩
def op_59 : List (Nat × am_Sem) := [(0, am_aload 1 0), (1, am_aload 2 0), (2, am_iload 3 1), (3, am_invV 6 33 1 3 0 0 0 0), (6, am_if 9 13 1), (9, am_push 10 (iI 1)), (10, am_goto 27), (13, am_aload 14 0), (14, am_getr 17 3 13), (17, am_iload 18 1), (18, am_iald 19), (19, am_if 22 26 3), (22, am_push 23 (iI 2)), (23, am_goto 27), (26, am_push 27 (iI 0)), (27, am_puti 30 3 0), (30, am_aload 31 0), (31, am_geti 34 3 0), (34, am_if 37 41 5), (37, am_push 38 (iI 0)), (38, am_goto 47), (41, am_aload 42 0), (42, am_getr 45 3 13), (45, am_iload 46 1), (46, am_iald 47), (47, am_iret 0 0)]
/-- RunwayDeskModel.placeIn(I)I -/
def y_60 : MethodName := ⟨"RunwayDeskModel", "placeIn", "(I)I"⟩
def op_60 : List (Nat × am_Sem) := [(0, am_push 1 (iI 0)), (1, am_istore 2 2), (2, am_push 3 (iI 0)), (3, am_istore 4 3), (4, am_iload 5 3), (5, am_push 7 (iI 7)), (7, am_icmp 10 68 3), (10, am_aload 11 0), (11, am_getr 14 3 13), (14, am_iload 15 3), (15, am_iald 16), (16, am_if 19 60 2), (19, am_aload 20 0), (20, am_getr 23 3 13), (23, am_iload 24 3), (24, am_iald 25), (25, am_aload 26 0), (26, am_getr 29 3 13), (29, am_iload 30 1), (30, am_iald 31), (31, am_icmp 34 54 2), (34, am_aload 35 0), (35, am_getr 38 3 13), (38, am_iload 39 3), (39, am_iald 40), (40, am_aload 41 0), (41, am_getr 44 3 13), (44, am_iload 45 1), (45, am_iald 46), (46, am_icmp 49 60 1), (49, am_iload 50 3), (50, am_iload 51 1), (51, am_icmp 54 60 3), (54, am_iload 55 2), (55, am_push 56 (iI 1)), (56, am_iadd 57), (57, am_goto 61), (60, am_iload 61 2), (61, am_istore 62 2), (62, am_iinc 65 3 (iI 1)), (65, am_goto 4), (68, am_iload 69 2), (69, am_iret 0 0)]
/-- RunwayDeskModel.at(I)I -/
def y_61 : MethodName := ⟨"RunwayDeskModel", "at", "(I)I"⟩
def op_61 : List (Nat × am_Sem) := [(0, am_push 1 (iI (-1))), (1, am_istore 2 2), (2, am_push 3 (iI 0)), (3, am_istore 4 3), (4, am_iload 5 3), (5, am_push 7 (iI 7)), (7, am_icmp 10 40 3), (10, am_aload 11 0), (11, am_getr 14 3 13), (14, am_iload 15 3), (15, am_iald 16), (16, am_if 19 32 2), (19, am_aload 20 0), (20, am_iload 21 3), (21, am_invV 24 60 1 3 0 0 0 0), (24, am_iload 25 1), (25, am_icmp 28 32 1), (28, am_iload 29 3), (29, am_goto 33), (32, am_iload 33 2), (33, am_istore 34 2), (34, am_iinc 37 3 (iI 1)), (37, am_goto 4), (40, am_aload 41 0), (41, am_iload 42 2), (42, am_if 45 49 3), (45, am_push 46 (iI 1)), (46, am_goto 50), (49, am_push 50 (iI 0)), (50, am_puti 53 3 0), (53, am_iload 54 2), (54, am_if 57 61 3), (57, am_push 58 (iI 0)), (58, am_goto 62), (61, am_iload 62 2), (62, am_iret 0 0)]
/-- RunwayDeskModel.place(I)I -/
def y_62 : MethodName := ⟨"RunwayDeskModel", "place", "(I)I"⟩
def op_62 : List (Nat × am_Sem) := [(0, am_aload 1 0), (1, am_aload 2 0), (2, am_iload 3 1), (3, am_invV 6 33 1 3 0 0 0 0), (6, am_if 9 13 0), (9, am_push 10 (iI 0)), (10, am_goto 14), (13, am_push 14 (iI 1)), (14, am_puti 17 3 0), (17, am_aload 18 0), (18, am_geti 21 3 0), (21, am_if 24 28 5), (24, am_push 25 (iI 0)), (25, am_goto 33), (28, am_aload 29 0), (29, am_iload 30 1), (30, am_invV 33 47 1 3 0 0 0 0), (33, am_iret 0 0)]
/-- RunwayDeskModel.isSound(I)Z -/
def y_63 : MethodName := ⟨"RunwayDeskModel", "isSound", "(I)Z"⟩
def op_63 : List (Nat × am_Sem) := [(0, am_aload 1 0), (1, am_getr 4 3 13), (4, am_iload 5 1), (5, am_iald 6), (6, am_istore 7 2), (7, am_iload 8 2), (8, am_aload 9 0), (9, am_getr 12 3 3), (12, am_iload 13 1), (13, am_iald 14), (14, am_icmp 17 54 2), (17, am_iload 18 2), (18, am_aload 19 0), (19, am_getr 22 3 5), (22, am_iload 23 1), (23, am_iald 24), (24, am_icmp 27 54 4), (27, am_aload 28 0), (28, am_iload 29 2), (29, am_invV 32 43 1 3 0 0 0 0), (32, am_if 35 54 1), (35, am_aload 36 0), (36, am_getr 39 3 7), (39, am_iload 40 1), (40, am_iald 41), (41, am_if 44 56 2), (44, am_aload 45 0), (45, am_getr 48 3 7), (48, am_iload 49 1), (49, am_iald 50), (50, am_iload 51 2), (51, am_icmp 54 56 0), (54, am_push 55 (iI 0)), (55, am_zret 0 0), (56, am_aload 57 0), (57, am_iload 58 1), (58, am_invV 61 60 1 3 0 0 0 0), (61, am_aload 62 0), (62, am_iload 63 1), (63, am_invV 66 47 1 3 0 0 0 0), (66, am_isub 67), (67, am_istore 68 3), (68, am_aload 69 0), (69, am_getr 72 3 7), (72, am_iload 73 1), (73, am_iald 74), (74, am_if 77 96 3), (77, am_iload 78 3), (78, am_aload 79 0), (79, am_geti 82 3 12), (82, am_icmp 85 94 4), (85, am_iload 86 3), (86, am_ineg 87), (87, am_aload 88 0), (88, am_geti 91 3 12), (91, am_icmp 94 96 5), (94, am_push 95 (iI 0)), (95, am_zret 0 0), (96, am_push 97 (iI 1)), (97, am_istore 99 4), (99, am_push 100 (iI 0)), (100, am_istore 102 5), (102, am_iload 104 5), (104, am_push 106 (iI 7)), (106, am_icmp 109 211 3), (109, am_aload 110 0), (110, am_getr 113 3 13), (113, am_iload 115 5), (115, am_iald 116), (116, am_if 119 151 2), (119, am_aload 120 0), (120, am_getr 123 3 13), (123, am_iload 125 5), (125, am_iald 126), (126, am_iload 127 2), (127, am_icmp 130 147 2), (130, am_aload 131 0), (131, am_getr 134 3 13), (134, am_iload 136 5), (136, am_iald 137), (137, am_iload 138 2), (138, am_icmp 141 151 1), (141, am_iload 143 5), (143, am_iload 144 1), (144, am_icmp 147 151 3), (147, am_push 148 (iI 1)), (148, am_goto 152), (151, am_push 152 (iI 0)), (152, am_istore 154 6), (154, am_iload 156 4), (156, am_if 159 202 0), (159, am_iload 161 6), (161, am_if 164 198 0), (164, am_iload 165 2), (165, am_aload 166 0), (166, am_getr 169 3 13), (169, am_iload 171 5), (171, am_iald 172), (172, am_isub 173), (173, am_aload 174 0), (174, am_getr 177 3 8), (177, am_push 179 (iI 6)), (179, am_aload 180 0), (180, am_getr 183 3 2), (183, am_iload 185 5), (185, am_iald 186), (186, am_imul 187), (187, am_aload 188 0), (188, am_getr 191 3 2), (191, am_iload 192 1), (192, am_iald 193), (193, am_iadd 194), (194, am_iald 195), (195, am_icmp 198 202 2), (198, am_push 199 (iI 1)), (199, am_goto 203), (202, am_push 203 (iI 0)), (203, am_istore 205 4), (205, am_iinc 208 5 (iI 1)), (208, am_goto 102), (211, am_iload 213 4), (213, am_zret 0 0)]
/-- RunwayDeskModel.firstWrong()I -/
def y_64 : MethodName := ⟨"RunwayDeskModel", "firstWrong", "()I"⟩
def op_64 : List (Nat × am_Sem) := [(0, am_push 1 (iI 0)), (1, am_istore 2 1), (2, am_iload 3 1), (3, am_push 5 (iI 7)), (5, am_icmp 8 42 3), (8, am_aload 9 0), (9, am_getr 12 3 1), (12, am_iload 13 1), (13, am_zald 14), (14, am_if 17 36 0), (17, am_aload 18 0), (18, am_getr 21 3 13), (21, am_iload 22 1), (22, am_iald 23), (23, am_if 26 34 2), (26, am_aload 27 0), (27, am_iload 28 1), (28, am_invV 31 63 1 3 0 0 0 0), (31, am_if 34 36 1), (34, am_iload 35 1), (35, am_iret 0 0), (36, am_iinc 39 1 (iI 1)), (39, am_goto 2), (42, am_push 43 (iI (-1))), (43, am_iret 0 0)]
/-- RunwayDeskModel.verify()I -/
def y_65 : MethodName := ⟨"RunwayDeskModel", "verify", "()I"⟩
def op_65 : List (Nat × am_Sem) := [(0, am_aload 1 0), (1, am_push 2 (iI 0)), (2, am_puti 5 3 0), (5, am_aload 6 0), (6, am_invV 9 64 0 3 0 0 0 0), (9, am_iret 0 0)]
/-- RunwayDeskModel.slack(I)I -/
def y_66 : MethodName := ⟨"RunwayDeskModel", "slack", "(I)I"⟩
def op_66 : List (Nat × am_Sem) := [(0, am_aload 1 0), (1, am_aload 2 0), (2, am_iload 3 1), (3, am_invV 6 33 1 3 0 0 0 0), (6, am_if 9 13 1), (9, am_push 10 (iI 1)), (10, am_goto 25), (13, am_aload 14 0), (14, am_invV 17 64 0 3 0 0 0 0), (17, am_if 20 24 2), (20, am_push 21 (iI 2)), (21, am_goto 25), (24, am_push 25 (iI 0)), (25, am_puti 28 3 0), (28, am_aload 29 0), (29, am_geti 32 3 0), (32, am_if 35 37 5), (35, am_push 36 (iI 0)), (36, am_iret 0 0), (37, am_aload 38 0), (38, am_getr 41 3 13), (41, am_iload 42 1), (42, am_iald 43), (43, am_istore 44 2), (44, am_push 45 (iI 0)), (45, am_istore 46 3), (46, am_iload 47 2), (47, am_push 48 (iI 1)), (48, am_iadd 49), (49, am_istore 51 4), (51, am_iload 53 4), (53, am_aload 54 0), (54, am_getr 57 3 5), (57, am_iload 58 1), (58, am_iald 59), (59, am_icmp 62 92 4), (62, am_aload 63 0), (63, am_getr 66 3 13), (66, am_iload 67 1), (67, am_iload 69 4), (69, am_iast 70), (70, am_aload 71 0), (71, am_invV 74 64 0 3 0 0 0 0), (74, am_if 77 84 3), (77, am_iload 79 4), (79, am_iload 80 2), (80, am_isub 81), (81, am_goto 85), (84, am_iload 85 3), (85, am_istore 86 3), (86, am_iinc 89 4 (iI 1)), (89, am_goto 51), (92, am_aload 93 0), (93, am_getr 96 3 13), (96, am_iload 97 1), (97, am_iload 98 2), (98, am_iast 99), (99, am_iload 100 3), (100, am_iret 0 0)]
/-- RunwayDeskModel.accept()I -/
def y_67 : MethodName := ⟨"RunwayDeskModel", "accept", "()I"⟩
def op_67 : List (Nat × am_Sem) := [(0, am_aload 1 0), (1, am_push 2 (iI 0)), (2, am_puti 5 3 0), (5, am_push 6 (iI 0)), (6, am_istore 7 1), (7, am_push 8 (iI 0)), (8, am_istore 9 2), (9, am_iload 10 2), (10, am_push 12 (iI 7)), (12, am_icmp 15 56 3), (15, am_aload 16 0), (16, am_getr 19 3 13), (19, am_iload 20 2), (20, am_iald 21), (21, am_aload 22 0), (22, am_getr 25 3 14), (25, am_iload 26 2), (26, am_iald 27), (27, am_icmp 30 36 0), (30, am_iload 31 1), (31, am_push 32 (iI 1)), (32, am_iadd 33), (33, am_goto 37), (36, am_iload 37 1), (37, am_istore 38 1), (38, am_aload 39 0), (39, am_getr 42 3 14), (42, am_iload 43 2), (43, am_aload 44 0), (44, am_getr 47 3 13), (47, am_iload 48 2), (48, am_iald 49), (49, am_iast 50), (50, am_iinc 53 2 (iI 1)), (53, am_goto 9), (56, am_iload 57 1), (57, am_iret 0 0)]
/-- RunwayDeskModel.change(II)I -/
def y_68 : MethodName := ⟨"RunwayDeskModel", "change", "(II)I"⟩
def op_68 : List (Nat × am_Sem) := [(0, am_push 1 (iI (-1))), (1, am_istore 2 3), (2, am_push 3 (iI 0)), (3, am_istore 5 4), (5, am_push 6 (iI 0)), (6, am_istore 8 5), (8, am_iload 10 5), (10, am_push 12 (iI 7)), (12, am_icmp 15 79 3), (15, am_aload 16 0), (16, am_getr 19 3 13), (19, am_iload 21 5), (21, am_iald 22), (22, am_aload 23 0), (23, am_getr 26 3 14), (26, am_iload 28 5), (28, am_iald 29), (29, am_icmp 32 43 0), (32, am_iload 34 4), (34, am_iload 35 1), (35, am_icmp 38 43 1), (38, am_iload 40 5), (40, am_goto 44), (43, am_iload 44 3), (44, am_istore 45 3), (45, am_aload 46 0), (46, am_getr 49 3 13), (49, am_iload 51 5), (51, am_iald 52), (52, am_aload 53 0), (53, am_getr 56 3 14), (56, am_iload 58 5), (58, am_iald 59), (59, am_icmp 62 69 0), (62, am_iload 64 4), (64, am_push 65 (iI 1)), (65, am_iadd 66), (66, am_goto 71), (69, am_iload 71 4), (71, am_istore 73 4), (73, am_iinc 76 5 (iI 1)), (76, am_goto 8), (79, am_aload 80 0), (80, am_iload 81 3), (81, am_if 84 88 3), (84, am_push 85 (iI 1)), (85, am_goto 102), (88, am_iload 89 2), (89, am_if 92 97 2), (92, am_iload 93 2), (93, am_push 94 (iI 2)), (94, am_icmp 97 101 5), (97, am_push 98 (iI 2)), (98, am_goto 102), (101, am_push 102 (iI 0)), (102, am_puti 105 3 0), (105, am_aload 106 0), (106, am_geti 109 3 0), (109, am_if 112 114 5), (112, am_push 113 (iI 0)), (113, am_iret 0 0), (114, am_iload 115 2), (115, am_if 118 122 1), (118, am_iload 119 3), (119, am_goto 142), (122, am_iload 123 2), (123, am_push 124 (iI 1)), (124, am_icmp 127 136 1), (127, am_aload 128 0), (128, am_getr 131 3 14), (131, am_iload 132 3), (132, am_iald 133), (133, am_goto 142), (136, am_aload 137 0), (137, am_getr 140 3 13), (140, am_iload 141 3), (141, am_iald 142), (142, am_iret 0 0)]
/-- RunwayDesk$Search.<init>()V -/
def y_69 : MethodName := ⟨"RunwayDesk$Search", "<init>", "()V"⟩
def op_69 : List (Nat × am_Sem) := [(0, am_aload 1 0), (1, am_oinit 4), (4, am_aload 5 0), (5, am_push 7 (iI 8)), (7, am_push 9 (iI 7)), (9, am_mna 13 12 85), (13, am_putr 16 0 0), (16, am_aload 17 0), (17, am_push 19 (iI 7)), (19, am_newa 21 0 12 85), (21, am_putr 24 0 1), (24, am_aload 25 0), (25, am_push 27 (iI 7)), (27, am_newa 29 1 12 85), (29, am_putr 32 0 2), (32, am_aload 33 0), (33, am_push 35 (iI 7)), (35, am_newa 37 0 12 85), (37, am_putr 40 0 3), (40, am_vret 12 85)]
/-- RunwayDesk$Search.leastDelay(LRunwayDesk$State;)I -/
def y_70 : MethodName := ⟨"RunwayDesk$Search", "leastDelay", "(LRunwayDesk$State;)I"⟩
def op_70 : List (Nat × am_Sem) := [(0, am_aload 1 0), (1, am_aload 2 1), (2, am_invV 5 74 1 0 0 0 0 0), (5, am_aload 6 0), (6, am_aload 7 1), (7, am_push 8 (iI 0)), (8, am_invV 11 78 2 0 0 0 0 0), (11, am_push 12 (iI (-1))), (12, am_icmp 15 21 0), (15, am_aload 16 0), (16, am_aload 17 1), (17, am_push 18 (iI 0)), (18, am_invV 21 75 2 0 0 0 0 0), (21, am_aload 22 0), (22, am_geti 25 0 4), (25, am_iret 0 0)]
/-- RunwayDesk$Search.firstComeDelay(LRunwayDesk$State;)I -/
def y_71 : MethodName := ⟨"RunwayDesk$Search", "firstComeDelay", "(LRunwayDesk$State;)I"⟩
def op_71 : List (Nat × am_Sem) := [(0, am_aload 1 0), (1, am_aload 2 1), (2, am_invV 5 74 1 0 0 0 0 0), (5, am_aload 6 0), (6, am_aload 7 1), (7, am_push 8 (iI 0)), (8, am_invV 11 78 2 0 0 0 0 0), (11, am_istore 12 2), (12, am_push 13 (iI 0)), (13, am_istore 14 3), (14, am_iload 15 3), (15, am_aload 16 1), (16, am_geti 19 1 7), (19, am_icmp 22 54 3), (22, am_iload 23 2), (23, am_push 24 (iI (-1))), (24, am_icmp 27 54 0), (27, am_aload 28 0), (28, am_aload 29 1), (29, am_iload 30 3), (30, am_aload 31 0), (31, am_getr 34 0 1), (34, am_iload 35 3), (35, am_iald 36), (36, am_invV 39 77 3 0 0 0 0 0), (39, am_aload 40 0), (40, am_aload 41 1), (41, am_iload 42 3), (42, am_push 43 (iI 1)), (43, am_iadd 44), (44, am_invV 47 78 2 0 0 0 0 0), (47, am_istore 48 2), (48, am_iinc 51 3 (iI 1)), (51, am_goto 14), (54, am_iload 55 2), (55, am_iret 0 0)]
/-- RunwayDesk$Search.aloneDelay(LRunwayDesk$State;)I -/
def y_72 : MethodName := ⟨"RunwayDesk$Search", "aloneDelay", "(LRunwayDesk$State;)I"⟩
def op_72 : List (Nat × am_Sem) := [(0, am_aload 1 0), (1, am_aload 2 1), (2, am_invV 5 74 1 0 0 0 0 0), (5, am_aload 6 0), (6, am_aload 7 1), (7, am_push 8 (iI 0)), (8, am_invV 11 78 2 0 0 0 0 0), (11, am_iret 0 0)]
/-- RunwayDesk$Search.copyBest([I)V -/
def y_73 : MethodName := ⟨"RunwayDesk$Search", "copyBest", "([I)V"⟩
def op_73 : List (Nat × am_Sem) := [(0, am_aload 1 0), (1, am_getr 4 0 3), (4, am_push 5 (iI 0)), (5, am_aload 6 1), (6, am_push 7 (iI 0)), (7, am_push 9 (iI 7)), (9, am_copy 12), (12, am_vret 0 0)]
/-- RunwayDesk$Search.begin(LRunwayDesk$State;)V -/
def y_74 : MethodName := ⟨"RunwayDesk$Search", "begin", "(LRunwayDesk$State;)V"⟩
def op_74 : List (Nat × am_Sem) := [(0, am_aload 1 0), (1, am_push 2 (iI (-1))), (2, am_puti 5 0 4), (5, am_push 6 (iI 0)), (6, am_istore 7 2), (7, am_iload 8 2), (8, am_push 10 (iI 7)), (10, am_icmp 13 69 3), (13, am_aload 14 0), (14, am_getr 17 0 2), (17, am_iload 18 2), (18, am_push 19 (iI 0)), (19, am_zast 20), (20, am_aload 21 0), (21, am_getr 24 0 0), (24, am_push 25 (iI 0)), (25, am_aald 26), (26, am_iload 27 2), (27, am_push 28 (iI (-1))), (28, am_iast 29), (29, am_aload 30 1), (30, am_getr 33 1 0), (33, am_iload 34 2), (34, am_zald 35), (35, am_if 38 63 0), (38, am_aload 39 0), (39, am_getr 42 0 1), (42, am_aload 43 1), (43, am_iload 44 2), (44, am_invV 47 86 1 1 0 0 0 0), (47, am_iload 48 2), (48, am_iast 49), (49, am_aload 50 0), (50, am_getr 53 0 0), (53, am_push 54 (iI 0)), (54, am_aald 55), (55, am_iload 56 2), (56, am_aload 57 1), (57, am_iload 58 2), (58, am_push 59 (iI 0)), (59, am_invV 62 91 2 1 0 0 0 0), (62, am_iast 63), (63, am_iinc 66 2 (iI 1)), (66, am_goto 7), (69, am_vret 0 0)]
/-- RunwayDesk$Search.tryPlace(LRunwayDesk$State;I)V -/
def y_75 : MethodName := ⟨"RunwayDesk$Search", "tryPlace", "(LRunwayDesk$State;I)V"⟩
def op_75 : List (Nat × am_Sem) := [(0, am_iload 1 2), (1, am_aload 2 1), (2, am_geti 5 1 7), (5, am_icmp 8 36 2), (8, am_aload 9 0), (9, am_aload 10 0), (10, am_aload 11 1), (11, am_iload 12 2), (12, am_invV 15 78 2 0 0 0 0 0), (15, am_puti 18 0 4), (18, am_aload 19 0), (19, am_getr 22 0 0), (22, am_iload 23 2), (23, am_aald 24), (24, am_push 25 (iI 0)), (25, am_aload 26 0), (26, am_getr 29 0 3), (29, am_push 30 (iI 0)), (30, am_push 32 (iI 7)), (32, am_copy 35), (35, am_vret 0 0), (36, am_push 37 (iI 0)), (37, am_istore 38 3), (38, am_iload 39 3), (39, am_aload 40 1), (40, am_geti 43 1 7), (43, am_icmp 46 120 3), (46, am_aload 47 0), (47, am_getr 50 0 1), (50, am_iload 51 3), (51, am_iald 52), (52, am_istore 54 4), (54, am_aload 55 0), (55, am_getr 58 0 2), (58, am_iload 60 4), (60, am_zald 61), (61, am_if 64 114 1), (64, am_aload 65 1), (65, am_iload 67 4), (67, am_iload 68 2), (68, am_iload 69 3), (69, am_invV 72 87 3 1 0 0 0 0), (72, am_if 75 114 0), (75, am_aload 76 0), (76, am_aload 77 1), (77, am_iload 78 2), (78, am_iload 80 4), (80, am_invV 83 77 3 0 0 0 0 0), (83, am_aload 84 0), (84, am_aload 85 0), (85, am_aload 86 1), (86, am_iload 87 2), (87, am_push 88 (iI 1)), (88, am_iadd 89), (89, am_invV 92 78 2 0 0 0 0 0), (92, am_invV 95 76 1 0 0 0 0 0), (95, am_if 98 106 0), (98, am_aload 99 0), (99, am_aload 100 1), (100, am_iload 101 2), (101, am_push 102 (iI 1)), (102, am_iadd 103), (103, am_invV 106 75 2 0 0 0 0 0), (106, am_aload 107 0), (107, am_getr 110 0 2), (110, am_iload 112 4), (112, am_push 113 (iI 0)), (113, am_zast 114), (114, am_iinc 117 3 (iI 1)), (117, am_goto 38), (120, am_vret 0 0)]
/-- RunwayDesk$Search.isWorthwhile(I)Z -/
def y_76 : MethodName := ⟨"RunwayDesk$Search", "isWorthwhile", "(I)Z"⟩
def op_76 : List (Nat × am_Sem) := [(0, am_iload 1 1), (1, am_push 2 (iI (-1))), (2, am_icmp 5 25 0), (5, am_aload 6 0), (6, am_geti 9 0 4), (9, am_push 10 (iI (-1))), (10, am_icmp 13 21 0), (13, am_iload 14 1), (14, am_aload 15 0), (15, am_geti 18 0 4), (18, am_icmp 21 25 3), (21, am_push 22 (iI 1)), (22, am_goto 26), (25, am_push 26 (iI 0)), (26, am_zret 0 0)]
/-- RunwayDesk$Search.putAt(LRunwayDesk$State;II)V -/
def y_77 : MethodName := ⟨"RunwayDesk$Search", "putAt", "(LRunwayDesk$State;II)V"⟩
def op_77 : List (Nat × am_Sem) := [(0, am_aload 1 0), (1, am_getr 4 0 2), (4, am_iload 5 3), (5, am_push 6 (iI 1)), (6, am_zast 7), (7, am_aload 8 0), (8, am_getr 11 0 0), (11, am_iload 12 2), (12, am_aald 13), (13, am_astore 15 4), (15, am_aload 16 0), (16, am_getr 19 0 0), (19, am_iload 20 2), (20, am_push 21 (iI 1)), (21, am_iadd 22), (22, am_aald 23), (23, am_astore 25 5), (25, am_push 26 (iI 0)), (26, am_istore 28 6), (28, am_iload 30 6), (30, am_push 32 (iI 7)), (32, am_icmp 35 106 3), (35, am_aload 37 5), (37, am_iload 39 6), (39, am_aload 41 4), (41, am_iload 43 6), (43, am_iald 44), (44, am_iast 45), (45, am_aload 46 1), (46, am_getr 49 1 0), (49, am_iload 51 6), (51, am_zald 52), (52, am_if 55 100 0), (55, am_aload 56 0), (56, am_getr 59 0 2), (59, am_iload 61 6), (61, am_zald 62), (62, am_if 65 100 1), (65, am_aload 67 4), (67, am_iload 69 6), (69, am_iald 70), (70, am_aload 72 4), (72, am_iload 73 3), (73, am_iald 74), (74, am_aload 75 1), (75, am_iload 76 3), (76, am_iload 78 6), (78, am_invV 81 84 2 1 0 0 0 0), (81, am_iadd 82), (82, am_max 85 0 0), (85, am_istore 87 7), (87, am_aload 89 5), (89, am_iload 91 6), (91, am_aload 92 1), (92, am_iload 94 6), (94, am_iload 96 7), (96, am_invV 99 91 2 1 0 0 0 0), (99, am_iast 100), (100, am_iinc 103 6 (iI 1)), (103, am_goto 28), (106, am_vret 0 0)]
/-- RunwayDesk$Search.rowDelay(LRunwayDesk$State;I)I -/
def y_78 : MethodName := ⟨"RunwayDesk$Search", "rowDelay", "(LRunwayDesk$State;I)I"⟩
def op_78 : List (Nat × am_Sem) := [(0, am_push 1 (iI 0)), (1, am_istore 2 3), (2, am_push 3 (iI 0)), (3, am_istore 5 4), (5, am_iload 7 4), (7, am_push 9 (iI 7)), (9, am_icmp 12 61 3), (12, am_aload 13 1), (13, am_getr 16 1 0), (16, am_iload 18 4), (18, am_zald 19), (19, am_if 22 55 0), (22, am_aload 23 0), (23, am_getr 26 0 0), (26, am_iload 27 2), (27, am_aald 28), (28, am_iload 30 4), (30, am_iald 31), (31, am_push 32 (iI (-1))), (32, am_icmp 35 37 1), (35, am_push 36 (iI (-1))), (36, am_iret 0 0), (37, am_iload 38 3), (38, am_aload 39 1), (39, am_iload 41 4), (41, am_aload 42 0), (42, am_getr 45 0 0), (45, am_iload 46 2), (46, am_aald 47), (47, am_iload 49 4), (49, am_iald 50), (50, am_invV 53 85 2 1 0 0 0 0), (53, am_iadd 54), (54, am_istore 55 3), (55, am_iinc 58 4 (iI 1)), (58, am_goto 5), (61, am_iload 62 3), (62, am_iret 0 0)]
/-- RunwayDesk$State.<init>()V -/
def y_79 : MethodName := ⟨"RunwayDesk$State", "<init>", "()V"⟩
def op_79 : List (Nat × am_Sem) := [(0, am_aload 1 0), (1, am_oinit 4), (4, am_aload 5 0), (5, am_push 7 (iI 7)), (7, am_newa 9 1 16 99), (9, am_putr 12 1 0), (12, am_aload 13 0), (13, am_push 15 (iI 7)), (15, am_newa 17 0 16 99), (17, am_putr 20 1 1), (20, am_aload 21 0), (21, am_push 23 (iI 7)), (23, am_newa 25 0 16 99), (25, am_putr 28 1 2), (28, am_aload 29 0), (29, am_push 31 (iI 7)), (31, am_newa 33 0 16 99), (33, am_putr 36 1 3), (36, am_aload 37 0), (37, am_push 39 (iI 7)), (39, am_newa 41 0 16 99), (41, am_putr 44 1 4), (44, am_aload 45 0), (45, am_push 47 (iI 7)), (47, am_newa 49 0 16 99), (49, am_putr 52 1 5), (52, am_aload 53 0), (53, am_push 55 (iI 7)), (55, am_newa 57 0 16 99), (57, am_putr 60 1 6), (60, am_aload 61 0), (61, am_push 63 (iI 6)), (63, am_push 65 (iI 6)), (65, am_mna 69 16 99), (69, am_putr 72 1 8), (72, am_aload 73 0), (73, am_push 74 (iI 4)), (74, am_newa 76 0 16 99), (76, am_putr 79 1 9), (79, am_aload 80 0), (80, am_push 81 (iI 4)), (81, am_newa 83 0 16 99), (83, am_putr 86 1 10), (86, am_aload 87 0), (87, am_push 89 (iI 6)), (89, am_puti 92 1 12), (92, am_push 93 (iI 0)), (93, am_istore 94 1), (94, am_iload 95 1), (95, am_push 97 (iI 6)), (97, am_icmp 100 117 3), (100, am_aload 101 0), (101, am_getr 104 1 8), (104, am_iload 105 1), (105, am_aald 106), (106, am_push 108 (iI 60)), (108, am_inv 111 112 2 0 0 16 99), (111, am_iinc 114 1 (iI 1)), (114, am_goto 94), (117, am_vret 16 99)]
/-- RunwayDesk$State.has(I)Z -/
def y_80 : MethodName := ⟨"RunwayDesk$State", "has", "(I)Z"⟩
def op_80 : List (Nat × am_Sem) := [(0, am_iload 1 1), (1, am_push 2 (iI 0)), (2, am_push 4 (iI 6)), (4, am_inv 7 27 3 0 0 0 0), (7, am_if 10 23 0), (10, am_aload 11 0), (11, am_getr 14 1 0), (14, am_iload 15 1), (15, am_zald 16), (16, am_if 19 23 0), (19, am_push 20 (iI 1)), (20, am_goto 24), (23, am_push 24 (iI 0)), (24, am_zret 0 0)]
/-- RunwayDesk$State.leastFree()I -/
def y_81 : MethodName := ⟨"RunwayDesk$State", "leastFree", "()I"⟩
def op_81 : List (Nat × am_Sem) := [(0, am_push 1 (iI 0)), (1, am_istore 2 1), (2, am_iload 3 1), (3, am_push 5 (iI 7)), (5, am_icmp 8 25 3), (8, am_aload 9 0), (9, am_getr 12 1 0), (12, am_iload 13 1), (13, am_zald 14), (14, am_if 17 19 1), (17, am_iload 18 1), (18, am_iret 0 0), (19, am_iinc 22 1 (iI 1)), (22, am_goto 2), (25, am_push 26 (iI (-1))), (26, am_iret 0 0)]
/-- RunwayDesk$State.isInRange(II)Z -/
def y_82 : MethodName := ⟨"RunwayDesk$State", "isInRange", "(II)Z"⟩
def op_82 : List (Nat × am_Sem) := [(0, am_iload 1 2), (1, am_aload 2 0), (2, am_getr 5 1 2), (5, am_iload 6 1), (6, am_iald 7), (7, am_aload 8 0), (8, am_getr 11 1 4), (11, am_iload 12 1), (12, am_iald 13), (13, am_inv 16 27 3 0 0 0 0), (16, am_zret 0 0)]
/-- RunwayDesk$State.isFrozen(I)Z -/
def y_83 : MethodName := ⟨"RunwayDesk$State", "isFrozen", "(I)Z"⟩
def op_83 : List (Nat × am_Sem) := [(0, am_aload 1 0), (1, am_getr 4 1 6), (4, am_iload 5 1), (5, am_iald 6), (6, am_push 7 (iI (-1))), (7, am_icmp 10 14 0), (10, am_push 11 (iI 1)), (11, am_goto 15), (14, am_push 15 (iI 0)), (15, am_zret 0 0)]
/-- RunwayDesk$State.gapBehind(II)I -/
def y_84 : MethodName := ⟨"RunwayDesk$State", "gapBehind", "(II)I"⟩
def op_84 : List (Nat × am_Sem) := [(0, am_aload 1 0), (1, am_getr 4 1 8), (4, am_aload 5 0), (5, am_getr 8 1 1), (8, am_iload 9 1), (9, am_iald 10), (10, am_aald 11), (11, am_aload 12 0), (12, am_getr 15 1 1), (15, am_iload 16 2), (16, am_iald 17), (17, am_iald 18), (18, am_iret 0 0)]
/-- RunwayDesk$State.delayAt(II)I -/
def y_85 : MethodName := ⟨"RunwayDesk$State", "delayAt", "(II)I"⟩
def op_85 : List (Nat × am_Sem) := [(0, am_aload 1 0), (1, am_getr 4 1 5), (4, am_iload 5 1), (5, am_iald 6), (6, am_push 7 (iI 0)), (7, am_iload 8 2), (8, am_aload 9 0), (9, am_getr 12 1 3), (12, am_iload 13 1), (13, am_iald 14), (14, am_isub 15), (15, am_max 18 0 0), (18, am_imul 19), (19, am_iret 0 0)]
/-- RunwayDesk$State.firstComePlace(I)I -/
def y_86 : MethodName := ⟨"RunwayDesk$State", "firstComePlace", "(I)I"⟩
def op_86 : List (Nat × am_Sem) := [(0, am_push 1 (iI 0)), (1, am_istore 2 2), (2, am_push 3 (iI 0)), (3, am_istore 4 3), (4, am_iload 5 3), (5, am_push 7 (iI 7)), (7, am_icmp 10 40 3), (10, am_aload 11 0), (11, am_getr 14 1 0), (14, am_iload 15 3), (15, am_zald 16), (16, am_if 19 34 0), (19, am_aload 20 0), (20, am_getr 23 1 3), (23, am_iload 24 3), (24, am_iload 25 1), (25, am_inv 28 29 3 0 0 0 0), (28, am_if 31 34 0), (31, am_iinc 34 2 (iI 1)), (34, am_iinc 37 3 (iI 1)), (37, am_goto 4), (40, am_iload 41 2), (41, am_iret 0 0)]
/-- RunwayDesk$State.mayStandAt(III)Z -/
def y_87 : MethodName := ⟨"RunwayDesk$State", "mayStandAt", "(III)Z"⟩
def op_87 : List (Nat × am_Sem) := [(0, am_aload 1 0), (1, am_iload 2 1), (2, am_invV 5 83 1 1 0 0 0 0), (5, am_if 8 21 1), (8, am_iload 9 2), (9, am_iload 10 3), (10, am_isub 11), (11, am_abs 14 0 0), (14, am_aload 15 0), (15, am_geti 18 1 12), (18, am_icmp 21 25 4), (21, am_push 22 (iI 1)), (22, am_goto 26), (25, am_push 26 (iI 0)), (26, am_zret 0 0)]
/-- RunwayDesk$State.isClosed(I)Z -/
def y_88 : MethodName := ⟨"RunwayDesk$State", "isClosed", "(I)Z"⟩
def op_88 : List (Nat × am_Sem) := [(0, am_aload 1 0), (1, am_iload 2 1), (2, am_invV 5 89 1 1 0 0 0 0), (5, am_push 6 (iI (-1))), (6, am_icmp 9 13 0), (9, am_push 10 (iI 1)), (10, am_goto 14), (13, am_push 14 (iI 0)), (14, am_zret 0 0)]
/-- RunwayDesk$State.closureAt(I)I -/
def y_89 : MethodName := ⟨"RunwayDesk$State", "closureAt", "(I)I"⟩
def op_89 : List (Nat × am_Sem) := [(0, am_push 1 (iI 0)), (1, am_istore 2 2), (2, am_iload 3 2), (3, am_aload 4 0), (4, am_geti 7 1 11), (7, am_icmp 10 38 3), (10, am_aload 11 0), (11, am_getr 14 1 9), (14, am_iload 15 2), (15, am_iald 16), (16, am_iload 17 1), (17, am_icmp 20 32 4), (20, am_iload 21 1), (21, am_aload 22 0), (22, am_getr 25 1 10), (25, am_iload 26 2), (26, am_iald 27), (27, am_icmp 30 32 4), (30, am_iload 31 2), (31, am_iret 0 0), (32, am_iinc 35 2 (iI 1)), (35, am_goto 2), (38, am_push 39 (iI (-1))), (39, am_iret 0 0)]
/-- RunwayDesk$State.firstOpen(I)I -/
def y_90 : MethodName := ⟨"RunwayDesk$State", "firstOpen", "(I)I"⟩
def op_90 : List (Nat × am_Sem) := [(0, am_iload 1 1), (1, am_istore 2 2), (2, am_aload 3 0), (3, am_iload 4 2), (4, am_invV 7 89 1 1 0 0 0 0), (7, am_istore 8 3), (8, am_push 9 (iI 0)), (9, am_istore 11 4), (11, am_iload 13 4), (13, am_aload 14 0), (14, am_geti 17 1 11), (17, am_icmp 20 46 3), (20, am_iload 21 3), (21, am_push 22 (iI (-1))), (22, am_icmp 25 46 0), (25, am_aload 26 0), (26, am_getr 29 1 10), (29, am_iload 30 3), (30, am_iald 31), (31, am_push 32 (iI 1)), (32, am_iadd 33), (33, am_istore 34 2), (34, am_aload 35 0), (35, am_iload 36 2), (36, am_invV 39 89 1 1 0 0 0 0), (39, am_istore 40 3), (40, am_iinc 43 4 (iI 1)), (43, am_goto 11), (46, am_iload 47 2), (47, am_iret 0 0)]
/-- RunwayDesk$State.firstSecond(II)I -/
def y_91 : MethodName := ⟨"RunwayDesk$State", "firstSecond", "(II)I"⟩
def op_91 : List (Nat × am_Sem) := [(0, am_aload 1 0), (1, am_iload 2 1), (2, am_invV 5 83 1 1 0 0 0 0), (5, am_if 8 42 0), (8, am_iload 9 2), (9, am_aload 10 0), (10, am_getr 13 1 6), (13, am_iload 14 1), (14, am_iald 15), (15, am_icmp 18 40 4), (18, am_aload 19 0), (19, am_aload 20 0), (20, am_getr 23 1 6), (23, am_iload 24 1), (24, am_iald 25), (25, am_invV 28 88 1 1 0 0 0 0), (28, am_if 31 40 1), (31, am_aload 32 0), (32, am_getr 35 1 6), (35, am_iload 36 1), (36, am_iald 37), (37, am_goto 41), (40, am_push 41 (iI (-1))), (41, am_iret 0 0), (42, am_aload 43 0), (43, am_iload 44 2), (44, am_aload 45 0), (45, am_getr 48 1 2), (48, am_iload 49 1), (49, am_iald 50), (50, am_max 53 0 0), (53, am_invV 56 90 1 1 0 0 0 0), (56, am_istore 57 3), (57, am_iload 58 3), (58, am_aload 59 0), (59, am_getr 62 1 4), (62, am_iload 63 1), (63, am_iald 64), (64, am_icmp 67 71 4), (67, am_iload 68 3), (68, am_goto 72), (71, am_push 72 (iI (-1))), (72, am_iret 0 0)]
/-- RunwayDesk$State.isNearFrozen(II)Z -/
def y_92 : MethodName := ⟨"RunwayDesk$State", "isNearFrozen", "(II)Z"⟩
def op_92 : List (Nat × am_Sem) := [(0, am_push 1 (iI 0)), (1, am_istore 2 3), (2, am_iload 3 3), (3, am_push 5 (iI 7)), (5, am_icmp 8 54 3), (8, am_iload 9 3), (9, am_iload 10 1), (10, am_icmp 13 48 0), (13, am_aload 14 0), (14, am_getr 17 1 0), (17, am_iload 18 3), (18, am_zald 19), (19, am_if 22 48 0), (22, am_aload 23 0), (23, am_iload 24 3), (24, am_invV 27 83 1 1 0 0 0 0), (27, am_if 30 48 0), (30, am_aload 31 0), (31, am_iload 32 1), (32, am_iload 33 2), (33, am_iload 34 3), (34, am_aload 35 0), (35, am_getr 38 1 6), (38, am_iload 39 3), (39, am_iald 40), (40, am_invV 43 93 4 1 0 0 0 0), (43, am_if 46 48 0), (46, am_push 47 (iI 1)), (47, am_zret 0 0), (48, am_iinc 51 3 (iI 1)), (51, am_goto 2), (54, am_push 55 (iI 0)), (55, am_zret 0 0)]
/-- RunwayDesk$State.isTooNear(IIII)Z -/
def y_93 : MethodName := ⟨"RunwayDesk$State", "isTooNear", "(IIII)Z"⟩
def op_93 : List (Nat × am_Sem) := [(0, am_iload 1 2), (1, am_iload 3 4), (3, am_icmp 6 27 3), (6, am_iload 8 4), (8, am_iload 9 2), (9, am_isub 10), (10, am_aload 11 0), (11, am_iload 12 1), (12, am_iload 13 3), (13, am_invV 16 84 2 1 0 0 0 0), (16, am_icmp 19 23 3), (19, am_push 20 (iI 1)), (20, am_goto 45), (23, am_push 24 (iI 0)), (24, am_goto 45), (27, am_iload 28 2), (28, am_iload 30 4), (30, am_isub 31), (31, am_aload 32 0), (32, am_iload 33 3), (33, am_iload 34 1), (34, am_invV 37 84 2 1 0 0 0 0), (37, am_icmp 40 44 3), (40, am_push 41 (iI 1)), (41, am_goto 45), (44, am_push 45 (iI 0)), (45, am_zret 0 0)]
/-- RunwayDesk$State.leastUnsound([I)I -/
def y_94 : MethodName := ⟨"RunwayDesk$State", "leastUnsound", "([I)I"⟩
def op_94 : List (Nat × am_Sem) := [(0, am_push 1 (iI 0)), (1, am_istore 2 2), (2, am_iload 3 2), (3, am_push 5 (iI 7)), (5, am_icmp 8 34 3), (8, am_aload 9 0), (9, am_getr 12 1 0), (12, am_iload 13 2), (13, am_zald 14), (14, am_if 17 28 0), (17, am_aload 18 0), (18, am_iload 19 2), (19, am_aload 20 1), (20, am_invV 23 95 2 1 0 0 0 0), (23, am_if 26 28 1), (26, am_iload 27 2), (27, am_iret 0 0), (28, am_iinc 31 2 (iI 1)), (31, am_goto 2), (34, am_push 35 (iI (-1))), (35, am_iret 0 0)]
/-- RunwayDesk$State.isSoundFor(I[I)Z -/
def y_95 : MethodName := ⟨"RunwayDesk$State", "isSoundFor", "(I[I)Z"⟩
def op_95 : List (Nat × am_Sem) := [(0, am_aload 1 2), (1, am_iload 2 1), (2, am_iald 3), (3, am_istore 4 3), (4, am_iload 5 3), (5, am_push 6 (iI (-1))), (6, am_icmp 9 26 0), (9, am_aload 10 0), (10, am_iload 11 1), (11, am_iload 12 3), (12, am_invV 15 82 2 1 0 0 0 0), (15, am_if 18 26 0), (18, am_aload 19 0), (19, am_iload 20 3), (20, am_invV 23 88 1 1 0 0 0 0), (23, am_if 26 28 0), (26, am_push 27 (iI 0)), (27, am_zret 0 0), (28, am_aload 29 0), (29, am_iload 30 1), (30, am_invV 33 83 1 1 0 0 0 0), (33, am_if 36 48 0), (36, am_aload 37 0), (37, am_getr 40 1 6), (40, am_iload 41 1), (41, am_iald 42), (42, am_iload 43 3), (43, am_icmp 46 48 0), (46, am_push 47 (iI 0)), (47, am_zret 0 0), (48, am_aload 49 0), (49, am_iload 50 1), (50, am_aload 51 2), (51, am_invV 54 96 2 1 0 0 0 0), (54, am_if 57 79 1), (57, am_aload 58 0), (58, am_iload 59 1), (59, am_aload 60 2), (60, am_iload 61 1), (61, am_inv 64 30 2 0 0 0 0), (64, am_aload 65 0), (65, am_iload 66 1), (66, am_invV 69 86 1 1 0 0 0 0), (69, am_invV 72 87 3 1 0 0 0 0), (72, am_if 75 79 0), (75, am_push 76 (iI 1)), (76, am_goto 80), (79, am_push 80 (iI 0)), (80, am_zret 0 0)]
/-- RunwayDesk$State.isTooNearBehind(I[I)Z -/
def y_96 : MethodName := ⟨"RunwayDesk$State", "isTooNearBehind", "(I[I)Z"⟩
def op_96 : List (Nat × am_Sem) := [(0, am_push 1 (iI 0)), (1, am_istore 2 3), (2, am_iload 3 3), (3, am_push 5 (iI 7)), (5, am_icmp 8 48 3), (8, am_aload 9 2), (9, am_iload 10 3), (10, am_iald 11), (11, am_push 12 (iI (-1))), (12, am_icmp 15 42 0), (15, am_aload 16 2), (16, am_iload 17 3), (17, am_iload 18 1), (18, am_inv 21 29 3 0 0 0 0), (21, am_if 24 42 0), (24, am_aload 25 2), (25, am_iload 26 1), (26, am_iald 27), (27, am_aload 28 2), (28, am_iload 29 3), (29, am_iald 30), (30, am_isub 31), (31, am_aload 32 0), (32, am_iload 33 3), (33, am_iload 34 1), (34, am_invV 37 84 2 1 0 0 0 0), (37, am_icmp 40 42 3), (40, am_push 41 (iI 1)), (41, am_zret 0 0), (42, am_iinc 45 3 (iI 1)), (45, am_goto 2), (48, am_push 49 (iI 0)), (49, am_zret 0 0)]
/-- RunwayDeskLaw.gap(LRunwayDesk;III[J)I -/
def y_97 : MethodName := ⟨"RunwayDeskLaw", "gap", "(LRunwayDesk;III[J)I"⟩
def op_97 : List (Nat × am_Sem) := [(0, am_aload 2 4), (2, am_push 3 (iI 0)), (3, am_aload 4 0), (4, am_iload 5 1), (5, am_iload 6 2), (6, am_iload 7 3), (7, am_invH 10 1 3 2 1 6 1 6 [(15, 0)]), (10, am_i2l 11), (11, am_last 12), (12, am_goto 19), (15, am_astore 17 5), (17, am_push 18 (iI 1)), (18, am_iret 1 6), (19, am_push 20 (iI 0)), (20, am_iret 1 6)]
/-- RunwayDeskLaw.add(LRunwayDesk;IIIII[J)I -/
def y_98 : MethodName := ⟨"RunwayDeskLaw", "add", "(LRunwayDesk;IIIII[J)I"⟩
def op_98 : List (Nat × am_Sem) := [(0, am_aload 2 6), (2, am_push 3 (iI 0)), (3, am_aload 4 0), (4, am_iload 5 1), (5, am_iload 6 2), (6, am_iload 7 3), (7, am_iload 9 4), (9, am_iload 11 5), (11, am_invH 14 2 5 2 2 12 2 12 [(19, 0), (23, 1)]), (14, am_i2l 15), (15, am_last 16), (16, am_goto 27), (19, am_astore 21 7), (21, am_push 22 (iI 1)), (22, am_iret 2 12), (23, am_astore 25 7), (25, am_push 26 (iI 2)), (26, am_iret 2 12), (27, am_push 28 (iI 0)), (28, am_iret 2 12)]
/-- RunwayDeskLaw.remove(LRunwayDesk;I[J)I -/
def y_99 : MethodName := ⟨"RunwayDeskLaw", "remove", "(LRunwayDesk;I[J)I"⟩
def op_99 : List (Nat × am_Sem) := [(0, am_aload 1 2), (1, am_push 2 (iI 0)), (2, am_aload 3 0), (3, am_iload 4 1), (4, am_invH 7 3 1 2 1 6 1 6 [(12, 2)]), (7, am_i2l 8), (8, am_last 9), (9, am_goto 15), (12, am_astore 13 3), (13, am_push 14 (iI 1)), (14, am_iret 1 6), (15, am_push 16 (iI 0)), (16, am_iret 1 6)]
/-- RunwayDeskLaw.retarget(LRunwayDesk;II[J)I -/
def y_100 : MethodName := ⟨"RunwayDeskLaw", "retarget", "(LRunwayDesk;II[J)I"⟩
def op_100 : List (Nat × am_Sem) := [(0, am_aload 1 3), (1, am_push 2 (iI 0)), (2, am_aload 3 0), (3, am_iload 4 1), (4, am_iload 5 2), (5, am_invH 8 4 2 2 2 12 2 12 [(13, 2), (17, 0)]), (8, am_i2l 9), (9, am_last 10), (10, am_goto 21), (13, am_astore 15 4), (15, am_push 16 (iI 1)), (16, am_iret 2 12), (17, am_astore 19 4), (19, am_push 20 (iI 2)), (20, am_iret 2 12), (21, am_push 22 (iI 0)), (22, am_iret 2 12)]
/-- RunwayDeskLaw.limit(LRunwayDesk;I[J)I -/
def y_101 : MethodName := ⟨"RunwayDeskLaw", "limit", "(LRunwayDesk;I[J)I"⟩
def op_101 : List (Nat × am_Sem) := [(0, am_aload 1 2), (1, am_push 2 (iI 0)), (2, am_aload 3 0), (3, am_iload 4 1), (4, am_invH 7 5 1 2 1 6 1 6 [(12, 0)]), (7, am_i2l 8), (8, am_last 9), (9, am_goto 15), (12, am_astore 13 3), (13, am_push 14 (iI 1)), (14, am_iret 1 6), (15, am_push 16 (iI 0)), (16, am_iret 1 6)]
/-- RunwayDeskLaw.close(LRunwayDesk;II[J)I -/
def y_102 : MethodName := ⟨"RunwayDeskLaw", "close", "(LRunwayDesk;II[J)I"⟩
def op_102 : List (Nat × am_Sem) := [(0, am_aload 1 3), (1, am_push 2 (iI 0)), (2, am_aload 3 0), (3, am_iload 4 1), (4, am_iload 5 2), (5, am_invH 8 6 2 2 2 12 2 12 [(13, 0), (17, 1)]), (8, am_i2l 9), (9, am_last 10), (10, am_goto 21), (13, am_astore 15 4), (15, am_push 16 (iI 1)), (16, am_iret 2 12), (17, am_astore 19 4), (19, am_push 20 (iI 2)), (20, am_iret 2 12), (21, am_push 22 (iI 0)), (22, am_iret 2 12)]
/-- RunwayDeskLaw.freeze(LRunwayDesk;II)I -/
def y_103 : MethodName := ⟨"RunwayDeskLaw", "freeze", "(LRunwayDesk;II)I"⟩
def op_103 : List (Nat × am_Sem) := [(0, am_aload 1 0), (1, am_iload 2 1), (2, am_iload 3 2), (3, am_invH 6 8 2 2 3 18 3 18 [(9, 2), (12, 0), (15, 1)]), (6, am_goto 18), (9, am_astore 10 3), (10, am_push 11 (iI 1)), (11, am_iret 3 18), (12, am_astore 13 3), (13, am_push 14 (iI 2)), (14, am_iret 3 18), (15, am_astore 16 3), (16, am_push 17 (iI 3)), (17, am_iret 3 18), (18, am_push 19 (iI 0)), (19, am_iret 3 18)]
/-- RunwayDeskLaw.thaw(LRunwayDesk;I[J)I -/
def y_104 : MethodName := ⟨"RunwayDeskLaw", "thaw", "(LRunwayDesk;I[J)I"⟩
def op_104 : List (Nat × am_Sem) := [(0, am_aload 1 2), (1, am_push 2 (iI 0)), (2, am_aload 3 0), (3, am_iload 4 1), (4, am_invH 7 9 1 2 1 6 1 6 [(19, 2)]), (7, am_if 10 14 0), (10, am_lpush 11 1), (11, am_goto 15), (14, am_lpush 15 0), (15, am_last 16), (16, am_goto 22), (19, am_astore 20 3), (20, am_push 21 (iI 1)), (21, am_iret 1 6), (22, am_push 23 (iI 0)), (23, am_iret 1 6)]
/-- RunwayDeskLaw.whatIf(LRunwayDesk;II[J)I -/
def y_105 : MethodName := ⟨"RunwayDeskLaw", "whatIf", "(LRunwayDesk;II[J)I"⟩
def op_105 : List (Nat × am_Sem) := [(0, am_aload 1 3), (1, am_push 2 (iI 0)), (2, am_aload 3 0), (3, am_iload 4 1), (4, am_iload 5 2), (5, am_invH 8 11 2 2 2 12 2 12 [(13, 2), (17, 0)]), (8, am_i2l 9), (9, am_last 10), (10, am_goto 21), (13, am_astore 15 4), (15, am_push 16 (iI 1)), (16, am_iret 2 12), (17, am_astore 19 4), (19, am_push 20 (iI 2)), (20, am_iret 2 12), (21, am_push 22 (iI 0)), (22, am_iret 2 12)]
/-- RunwayDeskLaw.second(LRunwayDesk;I[J)I -/
def y_106 : MethodName := ⟨"RunwayDeskLaw", "second", "(LRunwayDesk;I[J)I"⟩
def op_106 : List (Nat × am_Sem) := [(0, am_aload 1 2), (1, am_push 2 (iI 0)), (2, am_aload 3 0), (3, am_iload 4 1), (4, am_invH 7 12 1 2 2 12 2 12 [(12, 2), (15, 1)]), (7, am_i2l 8), (8, am_last 9), (9, am_goto 18), (12, am_astore 13 3), (13, am_push 14 (iI 1)), (14, am_iret 2 12), (15, am_astore 16 3), (16, am_push 17 (iI 2)), (17, am_iret 2 12), (18, am_push 19 (iI 0)), (19, am_iret 2 12)]
/-- RunwayDeskLaw.at(LRunwayDesk;I[J)I -/
def y_107 : MethodName := ⟨"RunwayDeskLaw", "at", "(LRunwayDesk;I[J)I"⟩
def op_107 : List (Nat × am_Sem) := [(0, am_aload 1 2), (1, am_push 2 (iI 0)), (2, am_aload 3 0), (3, am_iload 4 1), (4, am_invH 7 13 1 2 1 6 1 6 [(12, 3)]), (7, am_i2l 8), (8, am_last 9), (9, am_goto 15), (12, am_astore 13 3), (13, am_push 14 (iI 1)), (14, am_iret 1 6), (15, am_push 16 (iI 0)), (16, am_iret 1 6)]
/-- RunwayDeskLaw.place(LRunwayDesk;I[J)I -/
def y_108 : MethodName := ⟨"RunwayDeskLaw", "place", "(LRunwayDesk;I[J)I"⟩
def op_108 : List (Nat × am_Sem) := [(0, am_aload 1 2), (1, am_push 2 (iI 0)), (2, am_aload 3 0), (3, am_iload 4 1), (4, am_invH 7 14 1 2 1 6 1 6 [(12, 2)]), (7, am_i2l 8), (8, am_last 9), (9, am_goto 15), (12, am_astore 13 3), (13, am_push 14 (iI 1)), (14, am_iret 1 6), (15, am_push 16 (iI 0)), (16, am_iret 1 6)]
/-- RunwayDeskLaw.slack(LRunwayDesk;I[J)I -/
def y_109 : MethodName := ⟨"RunwayDeskLaw", "slack", "(LRunwayDesk;I[J)I"⟩
def op_109 : List (Nat × am_Sem) := [(0, am_aload 1 2), (1, am_push 2 (iI 0)), (2, am_aload 3 0), (3, am_iload 4 1), (4, am_invH 7 18 1 2 2 12 2 12 [(12, 2), (15, 1)]), (7, am_i2l 8), (8, am_last 9), (9, am_goto 18), (12, am_astore 13 3), (13, am_push 14 (iI 1)), (14, am_iret 2 12), (15, am_astore 16 3), (16, am_push 17 (iI 2)), (17, am_iret 2 12), (18, am_push 19 (iI 0)), (19, am_iret 2 12)]
/-- RunwayDeskLaw.change(LRunwayDesk;II[J)I -/
def y_110 : MethodName := ⟨"RunwayDeskLaw", "change", "(LRunwayDesk;II[J)I"⟩
def op_110 : List (Nat × am_Sem) := [(0, am_aload 1 3), (1, am_push 2 (iI 0)), (2, am_aload 3 0), (3, am_iload 4 1), (4, am_iload 5 2), (5, am_invH 8 20 2 2 2 12 2 12 [(13, 3), (17, 0)]), (8, am_i2l 9), (9, am_last 10), (10, am_goto 21), (13, am_astore 15 4), (15, am_push 16 (iI 1)), (16, am_iret 2 12), (17, am_astore 19 4), (19, am_push 20 (iI 2)), (20, am_iret 2 12), (21, am_push 22 (iI 0)), (22, am_iret 2 12)]
/-- RunwayDeskLaw.law([I)Z -/
def y_111 : MethodName := ⟨"RunwayDeskLaw", "law", "([I)Z"⟩
def op_111 : List (Nat × am_Sem) := [(0, am_new 3 2 df_2 666227 7097424), (3, am_dup 4), (4, am_invV 7 0 0 2 33 223 666227 7097424), (7, am_astore 8 1), (8, am_new 11 3 df_3 666227 7097424), (11, am_dup 12), (12, am_invV 15 31 0 3 18 151 666227 7097424), (15, am_astore 16 2), (16, am_push 17 (iI 1)), (17, am_newa 19 2 666227 7097424), (19, am_astore 20 3), (20, am_push 21 (iI 0)), (21, am_istore 23 4), (23, am_iload 25 4), (25, am_aload 26 0), (26, am_slen 27), (27, am_push 29 (iI 6)), (29, am_isub 30), (30, am_icmp 33 1123 4), (33, am_aload 34 0), (34, am_iload 36 4), (36, am_sald 37), (37, am_push 39 (iI 31)), (39, am_iand 40), (40, am_switch 0 [136, 216, 320, 376, 444, 500, 568, 581, 629, 692, 705, 773, 829, 885, 941, 954, 967, 980, 1036, 1049] 1117), (136, am_aload 137 1), (137, am_aload 138 0), (138, am_iload 140 4), (140, am_push 141 (iI 1)), (141, am_iadd 142), (142, am_sald 143), (143, am_aload 144 0), (144, am_iload 146 4), (146, am_push 147 (iI 2)), (147, am_iadd 148), (148, am_sald 149), (149, am_aload 150 0), (150, am_iload 152 4), (152, am_push 153 (iI 3)), (153, am_iadd 154), (154, am_sald 155), (155, am_aload 156 3), (156, am_inv 159 97 5 1 6 666227 7097424), (159, am_istore 161 5), (161, am_aload 162 2), (162, am_aload 163 0), (163, am_iload 165 4), (165, am_push 166 (iI 1)), (166, am_iadd 167), (167, am_sald 168), (168, am_aload 169 0), (169, am_iload 171 4), (171, am_push 172 (iI 2)), (172, am_iadd 173), (173, am_sald 174), (174, am_aload 175 0), (175, am_iload 177 4), (177, am_push 178 (iI 3)), (178, am_iadd 179), (179, am_sald 180), (180, am_invV 183 36 3 3 0 0 666227 7097424), (183, am_istore 185 6), (185, am_aload 186 2), (186, am_invV 189 32 0 3 0 0 666227 7097424), (189, am_iload 191 5), (191, am_icmp 194 196 0), (194, am_push 195 (iI 0)), (195, am_zret 666227 7097424), (196, am_iload 198 5), (198, am_if 201 213 1), (201, am_aload 202 3), (202, am_push 203 (iI 0)), (203, am_lald 204), (204, am_iload 206 6), (206, am_i2l 207), (207, am_lcmp 208), (208, am_if 211 213 0), (211, am_push 212 (iI 0)), (212, am_zret 666227 7097424), (213, am_goto 1117), (216, am_aload 217 1), (217, am_aload 218 0), (218, am_iload 220 4), (220, am_push 221 (iI 1)), (221, am_iadd 222), (222, am_sald 223), (223, am_aload 224 0), (224, am_iload 226 4), (226, am_push 227 (iI 2)), (227, am_iadd 228), (228, am_sald 229), (229, am_aload 230 0), (230, am_iload 232 4), (232, am_push 233 (iI 3)), (233, am_iadd 234), (234, am_sald 235), (235, am_aload 236 0), (236, am_iload 238 4), (238, am_push 239 (iI 4)), (239, am_iadd 240), (240, am_sald 241), (241, am_aload 242 0), (242, am_iload 244 4), (244, am_push 245 (iI 5)), (245, am_iadd 246), (246, am_sald 247), (247, am_aload 248 3), (248, am_inv 251 98 7 2 12 666227 7097424), (251, am_istore 253 5), (253, am_aload 254 2), (254, am_aload 255 0), (255, am_iload 257 4), (257, am_push 258 (iI 1)), (258, am_iadd 259), (259, am_sald 260), (260, am_aload 261 0), (261, am_iload 263 4), (263, am_push 264 (iI 2)), (264, am_iadd 265), (265, am_sald 266), (266, am_aload 267 0), (267, am_iload 269 4), (269, am_push 270 (iI 3)), (270, am_iadd 271), (271, am_sald 272), (272, am_aload 273 0), (273, am_iload 275 4), (275, am_push 276 (iI 4)), (276, am_iadd 277), (277, am_sald 278), (278, am_aload 279 0), (279, am_iload 281 4), (281, am_push 282 (iI 5)), (282, am_iadd 283), (283, am_sald 284), (284, am_invV 287 37 5 3 0 0 666227 7097424), (287, am_istore 289 6), (289, am_aload 290 2), (290, am_invV 293 32 0 3 0 0 666227 7097424), (293, am_iload 295 5), (295, am_icmp 298 300 0), (298, am_push 299 (iI 0)), (299, am_zret 666227 7097424), (300, am_iload 302 5), (302, am_if 305 317 1), (305, am_aload 306 3), (306, am_push 307 (iI 0)), (307, am_lald 308), (308, am_iload 310 6), (310, am_i2l 311), (311, am_lcmp 312), (312, am_if 315 317 0), (315, am_push 316 (iI 0)), (316, am_zret 666227 7097424), (317, am_goto 1117), (320, am_aload 321 1), (321, am_aload 322 0), (322, am_iload 324 4), (324, am_push 325 (iI 1)), (325, am_iadd 326), (326, am_sald 327), (327, am_aload 328 3), (328, am_inv 331 99 3 1 6 666227 7097424), (331, am_istore 333 5), (333, am_aload 334 2), (334, am_aload 335 0), (335, am_iload 337 4), (337, am_push 338 (iI 1)), (338, am_iadd 339), (339, am_sald 340), (340, am_invV 343 38 1 3 0 0 666227 7097424), (343, am_istore 345 6), (345, am_aload 346 2), (346, am_invV 349 32 0 3 0 0 666227 7097424), (349, am_iload 351 5), (351, am_icmp 354 356 0), (354, am_push 355 (iI 0)), (355, am_zret 666227 7097424), (356, am_iload 358 5), (358, am_if 361 373 1), (361, am_aload 362 3), (362, am_push 363 (iI 0)), (363, am_lald 364), (364, am_iload 366 6), (366, am_i2l 367), (367, am_lcmp 368), (368, am_if 371 373 0), (371, am_push 372 (iI 0)), (372, am_zret 666227 7097424), (373, am_goto 1117), (376, am_aload 377 1), (377, am_aload 378 0), (378, am_iload 380 4), (380, am_push 381 (iI 1)), (381, am_iadd 382), (382, am_sald 383), (383, am_aload 384 0), (384, am_iload 386 4), (386, am_push 387 (iI 2)), (387, am_iadd 388), (388, am_sald 389), (389, am_aload 390 3), (390, am_inv 393 100 4 2 12 666227 7097424), (393, am_istore 395 5), (395, am_aload 396 2), (396, am_aload 397 0), (397, am_iload 399 4), (399, am_push 400 (iI 1)), (400, am_iadd 401), (401, am_sald 402), (402, am_aload 403 0), (403, am_iload 405 4), (405, am_push 406 (iI 2)), (406, am_iadd 407), (407, am_sald 408), (408, am_invV 411 39 2 3 0 0 666227 7097424), (411, am_istore 413 6), (413, am_aload 414 2), (414, am_invV 417 32 0 3 0 0 666227 7097424), (417, am_iload 419 5), (419, am_icmp 422 424 0), (422, am_push 423 (iI 0)), (423, am_zret 666227 7097424), (424, am_iload 426 5), (426, am_if 429 441 1), (429, am_aload 430 3), (430, am_push 431 (iI 0)), (431, am_lald 432), (432, am_iload 434 6), (434, am_i2l 435), (435, am_lcmp 436), (436, am_if 439 441 0), (439, am_push 440 (iI 0)), (440, am_zret 666227 7097424), (441, am_goto 1117), (444, am_aload 445 1), (445, am_aload 446 0), (446, am_iload 448 4), (448, am_push 449 (iI 1)), (449, am_iadd 450), (450, am_sald 451), (451, am_aload 452 3), (452, am_inv 455 101 3 1 6 666227 7097424), (455, am_istore 457 5), (457, am_aload 458 2), (458, am_aload 459 0), (459, am_iload 461 4), (461, am_push 462 (iI 1)), (462, am_iadd 463), (463, am_sald 464), (464, am_invV 467 40 1 3 0 0 666227 7097424), (467, am_istore 469 6), (469, am_aload 470 2), (470, am_invV 473 32 0 3 0 0 666227 7097424), (473, am_iload 475 5), (475, am_icmp 478 480 0), (478, am_push 479 (iI 0)), (479, am_zret 666227 7097424), (480, am_iload 482 5), (482, am_if 485 497 1), (485, am_aload 486 3), (486, am_push 487 (iI 0)), (487, am_lald 488), (488, am_iload 490 6), (490, am_i2l 491), (491, am_lcmp 492), (492, am_if 495 497 0), (495, am_push 496 (iI 0)), (496, am_zret 666227 7097424), (497, am_goto 1117), (500, am_aload 501 1), (501, am_aload 502 0), (502, am_iload 504 4), (504, am_push 505 (iI 1)), (505, am_iadd 506), (506, am_sald 507), (507, am_aload 508 0), (508, am_iload 510 4), (510, am_push 511 (iI 2)), (511, am_iadd 512), (512, am_sald 513), (513, am_aload 514 3), (514, am_inv 517 102 4 2 12 666227 7097424), (517, am_istore 519 5), (519, am_aload 520 2), (520, am_aload 521 0), (521, am_iload 523 4), (523, am_push 524 (iI 1)), (524, am_iadd 525), (525, am_sald 526), (526, am_aload 527 0), (527, am_iload 529 4), (529, am_push 530 (iI 2)), (530, am_iadd 531), (531, am_sald 532), (532, am_invV 535 41 2 3 0 0 666227 7097424), (535, am_istore 537 6), (537, am_aload 538 2), (538, am_invV 541 32 0 3 0 0 666227 7097424), (541, am_iload 543 5), (543, am_icmp 546 548 0), (546, am_push 547 (iI 0)), (547, am_zret 666227 7097424), (548, am_iload 550 5), (550, am_if 553 565 1), (553, am_aload 554 3), (554, am_push 555 (iI 0)), (555, am_lald 556), (556, am_iload 558 6), (558, am_i2l 559), (559, am_lcmp 560), (560, am_if 563 565 0), (563, am_push 564 (iI 0)), (564, am_zret 666227 7097424), (565, am_goto 1117), (568, am_aload 569 1), (569, am_invV 572 7 0 2 0 0 666227 7097424), (572, am_aload 573 2), (573, am_invV 576 42 0 3 0 0 666227 7097424), (576, am_icmp 579 1117 0), (579, am_push 580 (iI 0)), (580, am_zret 666227 7097424), (581, am_aload 582 1), (582, am_aload 583 0), (583, am_iload 585 4), (585, am_push 586 (iI 1)), (586, am_iadd 587), (587, am_sald 588), (588, am_aload 589 0), (589, am_iload 591 4), (591, am_push 592 (iI 2)), (592, am_iadd 593), (593, am_sald 594), (594, am_inv 597 103 3 3 18 666227 7097424), (597, am_istore 599 5), (599, am_aload 600 2), (600, am_aload 601 0), (601, am_iload 603 4), (603, am_push 604 (iI 1)), (604, am_iadd 605), (605, am_sald 606), (606, am_aload 607 0), (607, am_iload 609 4), (609, am_push 610 (iI 2)), (610, am_iadd 611), (611, am_sald 612), (612, am_invV 615 45 2 3 0 0 666227 7097424), (615, am_aload 616 2), (616, am_invV 619 32 0 3 0 0 666227 7097424), (619, am_iload 621 5), (621, am_icmp 624 626 0), (624, am_push 625 (iI 0)), (625, am_zret 666227 7097424), (626, am_goto 1117), (629, am_aload 630 1), (630, am_aload 631 0), (631, am_iload 633 4), (633, am_push 634 (iI 1)), (634, am_iadd 635), (635, am_sald 636), (636, am_aload 637 3), (637, am_inv 640 104 3 1 6 666227 7097424), (640, am_istore 642 5), (642, am_aload 643 2), (643, am_aload 644 0), (644, am_iload 646 4), (646, am_push 647 (iI 1)), (647, am_iadd 648), (648, am_sald 649), (649, am_invV 652 46 1 3 0 0 666227 7097424), (652, am_istore 654 6), (654, am_aload 655 2), (655, am_invV 658 32 0 3 0 0 666227 7097424), (658, am_iload 660 5), (660, am_icmp 663 665 0), (663, am_push 664 (iI 0)), (664, am_zret 666227 7097424), (665, am_iload 667 5), (667, am_if 670 689 1), (670, am_aload 671 3), (671, am_push 672 (iI 0)), (672, am_lald 673), (673, am_iload 675 6), (675, am_if 678 682 0), (678, am_lpush 679 1), (679, am_goto 683), (682, am_lpush 683 0), (683, am_lcmp 684), (684, am_if 687 689 0), (687, am_push 688 (iI 0)), (688, am_zret 666227 7097424), (689, am_goto 1117), (692, am_aload 693 1), (693, am_invV 696 10 0 2 0 0 666227 7097424), (696, am_aload 697 2), (697, am_invV 700 55 0 3 0 0 666227 7097424), (700, am_icmp 703 1117 0), (703, am_push 704 (iI 0)), (704, am_zret 666227 7097424), (705, am_aload 706 1), (706, am_aload 707 0), (707, am_iload 709 4), (709, am_push 710 (iI 1)), (710, am_iadd 711), (711, am_sald 712), (712, am_aload 713 0), (713, am_iload 715 4), (715, am_push 716 (iI 2)), (716, am_iadd 717), (717, am_sald 718), (718, am_aload 719 3), (719, am_inv 722 105 4 2 12 666227 7097424), (722, am_istore 724 5), (724, am_aload 725 2), (725, am_aload 726 0), (726, am_iload 728 4), (728, am_push 729 (iI 1)), (729, am_iadd 730), (730, am_sald 731), (731, am_aload 732 0), (732, am_iload 734 4), (734, am_push 735 (iI 2)), (735, am_iadd 736), (736, am_sald 737), (737, am_invV 740 56 2 3 0 0 666227 7097424), (740, am_istore 742 6), (742, am_aload 743 2), (743, am_invV 746 32 0 3 0 0 666227 7097424), (746, am_iload 748 5), (748, am_icmp 751 753 0), (751, am_push 752 (iI 0)), (752, am_zret 666227 7097424), (753, am_iload 755 5), (755, am_if 758 770 1), (758, am_aload 759 3), (759, am_push 760 (iI 0)), (760, am_lald 761), (761, am_iload 763 6), (763, am_i2l 764), (764, am_lcmp 765), (765, am_if 768 770 0), (768, am_push 769 (iI 0)), (769, am_zret 666227 7097424), (770, am_goto 1117), (773, am_aload 774 1), (774, am_aload 775 0), (775, am_iload 777 4), (777, am_push 778 (iI 1)), (778, am_iadd 779), (779, am_sald 780), (780, am_aload 781 3), (781, am_inv 784 106 3 2 12 666227 7097424), (784, am_istore 786 5), (786, am_aload 787 2), (787, am_aload 788 0), (788, am_iload 790 4), (790, am_push 791 (iI 1)), (791, am_iadd 792), (792, am_sald 793), (793, am_invV 796 59 1 3 0 0 666227 7097424), (796, am_istore 798 6), (798, am_aload 799 2), (799, am_invV 802 32 0 3 0 0 666227 7097424), (802, am_iload 804 5), (804, am_icmp 807 809 0), (807, am_push 808 (iI 0)), (808, am_zret 666227 7097424), (809, am_iload 811 5), (811, am_if 814 826 1), (814, am_aload 815 3), (815, am_push 816 (iI 0)), (816, am_lald 817), (817, am_iload 819 6), (819, am_i2l 820), (820, am_lcmp 821), (821, am_if 824 826 0), (824, am_push 825 (iI 0)), (825, am_zret 666227 7097424), (826, am_goto 1117), (829, am_aload 830 1), (830, am_aload 831 0), (831, am_iload 833 4), (833, am_push 834 (iI 1)), (834, am_iadd 835), (835, am_sald 836), (836, am_aload 837 3), (837, am_inv 840 107 3 1 6 666227 7097424), (840, am_istore 842 5), (842, am_aload 843 2), (843, am_aload 844 0), (844, am_iload 846 4), (846, am_push 847 (iI 1)), (847, am_iadd 848), (848, am_sald 849), (849, am_invV 852 61 1 3 0 0 666227 7097424), (852, am_istore 854 6), (854, am_aload 855 2), (855, am_invV 858 32 0 3 0 0 666227 7097424), (858, am_iload 860 5), (860, am_icmp 863 865 0), (863, am_push 864 (iI 0)), (864, am_zret 666227 7097424), (865, am_iload 867 5), (867, am_if 870 882 1), (870, am_aload 871 3), (871, am_push 872 (iI 0)), (872, am_lald 873), (873, am_iload 875 6), (875, am_i2l 876), (876, am_lcmp 877), (877, am_if 880 882 0), (880, am_push 881 (iI 0)), (881, am_zret 666227 7097424), (882, am_goto 1117), (885, am_aload 886 1), (886, am_aload 887 0), (887, am_iload 889 4), (889, am_push 890 (iI 1)), (890, am_iadd 891), (891, am_sald 892), (892, am_aload 893 3), (893, am_inv 896 108 3 1 6 666227 7097424), (896, am_istore 898 5), (898, am_aload 899 2), (899, am_aload 900 0), (900, am_iload 902 4), (902, am_push 903 (iI 1)), (903, am_iadd 904), (904, am_sald 905), (905, am_invV 908 62 1 3 0 0 666227 7097424), (908, am_istore 910 6), (910, am_aload 911 2), (911, am_invV 914 32 0 3 0 0 666227 7097424), (914, am_iload 916 5), (916, am_icmp 919 921 0), (919, am_push 920 (iI 0)), (920, am_zret 666227 7097424), (921, am_iload 923 5), (923, am_if 926 938 1), (926, am_aload 927 3), (927, am_push 928 (iI 0)), (928, am_lald 929), (929, am_iload 931 6), (931, am_i2l 932), (932, am_lcmp 933), (933, am_if 936 938 0), (936, am_push 937 (iI 0)), (937, am_zret 666227 7097424), (938, am_goto 1117), (941, am_aload 942 1), (942, am_invV 945 15 0 2 0 0 666227 7097424), (945, am_aload 946 2), (946, am_invV 949 65 0 3 0 0 666227 7097424), (949, am_icmp 952 1117 0), (952, am_push 953 (iI 0)), (953, am_zret 666227 7097424), (954, am_aload 955 1), (955, am_invV 958 16 0 2 0 0 666227 7097424), (958, am_aload 959 2), (959, am_invV 962 57 0 3 0 0 666227 7097424), (962, am_icmp 965 1117 0), (965, am_push 966 (iI 0)), (966, am_zret 666227 7097424), (967, am_aload 968 1), (968, am_invV 971 17 0 2 0 0 666227 7097424), (971, am_aload 972 2), (972, am_invV 975 58 0 3 0 0 666227 7097424), (975, am_icmp 978 1117 0), (978, am_push 979 (iI 0)), (979, am_zret 666227 7097424), (980, am_aload 981 1), (981, am_aload 982 0), (982, am_iload 984 4), (984, am_push 985 (iI 1)), (985, am_iadd 986), (986, am_sald 987), (987, am_aload 988 3), (988, am_inv 991 109 3 2 12 666227 7097424), (991, am_istore 993 5), (993, am_aload 994 2), (994, am_aload 995 0), (995, am_iload 997 4), (997, am_push 998 (iI 1)), (998, am_iadd 999), (999, am_sald 1000), (1000, am_invV 1003 66 1 3 0 0 666227 7097424), (1003, am_istore 1005 6), (1005, am_aload 1006 2), (1006, am_invV 1009 32 0 3 0 0 666227 7097424), (1009, am_iload 1011 5), (1011, am_icmp 1014 1016 0), (1014, am_push 1015 (iI 0)), (1015, am_zret 666227 7097424), (1016, am_iload 1018 5), (1018, am_if 1021 1033 1), (1021, am_aload 1022 3), (1022, am_push 1023 (iI 0)), (1023, am_lald 1024), (1024, am_iload 1026 6), (1026, am_i2l 1027), (1027, am_lcmp 1028), (1028, am_if 1031 1033 0), (1031, am_push 1032 (iI 0)), (1032, am_zret 666227 7097424), (1033, am_goto 1117), (1036, am_aload 1037 1), (1037, am_invV 1040 19 0 2 0 0 666227 7097424), (1040, am_aload 1041 2), (1041, am_invV 1044 67 0 3 0 0 666227 7097424), (1044, am_icmp 1047 1117 0), (1047, am_push 1048 (iI 0)), (1048, am_zret 666227 7097424), (1049, am_aload 1050 1), (1050, am_aload 1051 0), (1051, am_iload 1053 4), (1053, am_push 1054 (iI 1)), (1054, am_iadd 1055), (1055, am_sald 1056), (1056, am_aload 1057 0), (1057, am_iload 1059 4), (1059, am_push 1060 (iI 2)), (1060, am_iadd 1061), (1061, am_sald 1062), (1062, am_aload 1063 3), (1063, am_inv 1066 110 4 2 12 666227 7097424), (1066, am_istore 1068 5), (1068, am_aload 1069 2), (1069, am_aload 1070 0), (1070, am_iload 1072 4), (1072, am_push 1073 (iI 1)), (1073, am_iadd 1074), (1074, am_sald 1075), (1075, am_aload 1076 0), (1076, am_iload 1078 4), (1078, am_push 1079 (iI 2)), (1079, am_iadd 1080), (1080, am_sald 1081), (1081, am_invV 1084 68 2 3 0 0 666227 7097424), (1084, am_istore 1086 6), (1086, am_aload 1087 2), (1087, am_invV 1090 32 0 3 0 0 666227 7097424), (1090, am_iload 1092 5), (1092, am_icmp 1095 1097 0), (1095, am_push 1096 (iI 0)), (1096, am_zret 666227 7097424), (1097, am_iload 1099 5), (1099, am_if 1102 1114 1), (1102, am_aload 1103 3), (1103, am_push 1104 (iI 0)), (1104, am_lald 1105), (1105, am_iload 1107 6), (1107, am_i2l 1108), (1108, am_lcmp 1109), (1109, am_if 1112 1114 0), (1112, am_push 1113 (iI 0)), (1113, am_zret 666227 7097424), (1114, am_goto 1117), (1117, am_iinc 1120 4 (iI 6)), (1120, am_goto 23), (1123, am_push 1124 (iI 1)), (1124, am_zret 666227 7097424)]
/-- java/util/Arrays.fill([II)V -/
def y_112 : MethodName := ⟨"java/util/Arrays", "fill", "([II)V"⟩
def op_112 : List (Nat × am_Sem) := [(0, am_push 1 (iI 0)), (1, am_istore 2 2), (2, am_aload 3 0), (3, am_alen 4), (4, am_istore 5 3), (5, am_iload 6 2), (6, am_iload 7 3), (7, am_icmp 10 20 3), (10, am_aload 11 0), (11, am_iload 12 2), (12, am_iload 13 1), (13, am_iast 14), (14, am_iinc 17 2 (iI 1)), (17, am_goto 5), (20, am_vret 0 0)]
def am_ops : List (List (Nat × am_Sem)) := [op_0, op_1, op_2, op_3, op_4, op_5, op_6, op_7, op_8, op_9, op_10, op_11, op_12, op_13, op_14, op_15, op_16, op_17, op_18, op_19, op_20, op_21, op_22, op_23, op_24, op_25, op_26, op_27, op_28, op_29, op_30, op_31, op_32, op_33, op_34, op_35, op_36, op_37, op_38, op_39, op_40, op_41, op_42, op_43, op_44, op_45, op_46, op_47, op_48, op_49, op_50, op_51, op_52, op_53, op_54, op_55, op_56, op_57, op_58, op_59, op_60, op_61, op_62, op_63, op_64, op_65, op_66, op_67, op_68, op_69, op_70, op_71, op_72, op_73, op_74, op_75, op_76, op_77, op_78, op_79, op_80, op_81, op_82, op_83, op_84, op_85, op_86, op_87, op_88, op_89, op_90, op_91, op_92, op_93, op_94, op_95, op_96, op_97, op_98, op_99, op_100, op_101, op_102, op_103, op_104, op_105, op_106, op_107, op_108, op_109, op_110, op_111, op_112]
def am_tabs (mi : Nat) : Nat → am_Sem := am_tb (am_ops.getD mi [])
def am_arL : List Nat := [1, 4, 6, 2, 3, 2, 3, 1, 3, 2, 1, 3, 2, 2, 2, 1, 1, 1, 2, 1, 3, 2, 3, 2, 2, 2, 4, 3, 1, 3, 2, 1, 1, 2, 1, 1, 4, 6, 2, 3, 2, 3, 1, 2, 5, 3, 2, 2, 1, 2, 3, 3, 4, 1, 1, 1, 3, 1, 1, 2, 2, 2, 2, 2, 1, 1, 2, 1, 3, 1, 2, 2, 2, 2, 2, 3, 2, 4, 3, 1, 2, 1, 3, 2, 3, 3, 2, 4, 2, 2, 2, 3, 3, 5, 2, 3, 3, 5, 7, 3, 4, 3, 4, 3, 3, 4, 3, 3, 3, 3, 4, 1, 2]
def am_ar (mi : Nat) : Nat := am_arL.getD mi 0
def am_MT : List (MethodName × List Cond × Nat × Nat) := [(y_0, [Cond.code y_0 prog_1_method_1_code 1 none], 33, 223), (y_1, [Cond.code y_1 prog_1_method_2_code 5 (some .int)], 1, 6), (y_2, [Cond.code y_2 prog_1_method_3_code 8 (some .int)], 2, 12), (y_3, [Cond.code y_3 prog_1_method_4_code 2 (some .int)], 1, 6), (y_4, [Cond.code y_4 prog_1_method_5_code 4 (some .int)], 2, 12), (y_5, [Cond.code y_5 prog_1_method_6_code 3 (some .int)], 1, 6), (y_6, [Cond.code y_6 prog_1_method_7_code 3 (some .int)], 2, 12), (y_7, [Cond.code y_7 prog_1_method_8_code 2 (some .int)], 0, 0), (y_8, [Cond.code y_8 prog_1_method_9_code 3 none], 3, 18), (y_9, [Cond.code y_9 prog_1_method_10_code 3 (some .boolean)], 1, 6), (y_10, [Cond.code y_10 prog_1_method_11_code 2 (some .int)], 0, 0), (y_11, [Cond.code y_11 prog_1_method_12_code 5 (some .int)], 2, 12), (y_12, [Cond.code y_12 prog_1_method_13_code 2 (some .int)], 2, 12), (y_13, [Cond.code y_13 prog_1_method_14_code 3 (some .int)], 1, 6), (y_14, [Cond.code y_14 prog_1_method_15_code 2 (some .int)], 1, 6), (y_15, [Cond.code y_15 prog_1_method_16_code 1 (some .int)], 0, 0), (y_16, [Cond.code y_16 prog_1_method_17_code 1 (some .int)], 0, 0), (y_17, [Cond.code y_17 prog_1_method_18_code 1 (some .int)], 0, 0), (y_18, [Cond.code y_18 prog_1_method_19_code 2 (some .int)], 2, 12), (y_19, [Cond.code y_19 prog_1_method_20_code 3 (some .int)], 0, 0), (y_20, [Cond.code y_20 prog_1_method_21_code 4 (some .int)], 2, 12), (y_21, [Cond.code y_21 prog_1_method_22_code 2 none], 1, 6), (y_22, [Cond.code y_22 prog_1_method_23_code 3 none], 1, 6), (y_23, [Cond.code y_23 prog_1_method_24_code 2 (some .boolean)], 0, 0), (y_24, [Cond.code y_24 prog_1_method_25_code 4 (some .int)], 0, 0), (y_25, [Cond.code y_25 prog_1_method_26_code 4 (some .int)], 0, 0), (y_26, [Cond.code y_26 prog_1_method_27_code 4 (some .int)], 0, 0), (y_27, [Cond.code y_27 prog_1_method_28_code 3 (some .boolean)], 0, 0), (y_28, [Cond.code y_28 prog_1_method_29_code 1 (some .boolean)], 0, 0), (y_29, [Cond.code y_29 prog_1_method_30_code 3 (some .boolean)], 0, 0), (y_30, [Cond.code y_30 prog_1_method_31_code 4 (some .int)], 0, 0), (y_31, [Cond.code y_31 prog_5_method_1_code 2 none], 18, 151), (y_32, [Cond.code y_32 prog_5_method_2_code 1 (some .int)], 0, 0), (y_33, [Cond.code y_33 prog_5_method_3_code 2 (some .boolean)], 0, 0), (y_34, [Cond.code y_34 prog_5_method_4_code 1 (some .boolean)], 0, 0), (y_35, [Cond.code y_35 prog_5_method_5_code 3 (some .int)], 0, 0), (y_36, [Cond.code y_36 prog_5_method_6_code 6 (some .int)], 0, 0), (y_37, [Cond.code y_37 prog_5_method_7_code 9 (some .int)], 0, 0), (y_38, [Cond.code y_38 prog_5_method_8_code 2 (some .int)], 0, 0), (y_39, [Cond.code y_39 prog_5_method_9_code 4 (some .int)], 0, 0), (y_40, [Cond.code y_40 prog_5_method_10_code 3 (some .int)], 0, 0), (y_41, [Cond.code y_41 prog_5_method_11_code 3 (some .int)], 0, 0), (y_42, [Cond.code y_42 prog_5_method_12_code 2 (some .int)], 0, 0), (y_43, [Cond.code y_43 prog_5_method_13_code 4 (some .boolean)], 0, 0), (y_44, [Cond.code y_44 prog_5_method_14_code 5 (some .boolean)], 0, 0), (y_45, [Cond.code y_45 prog_5_method_15_code 4 none], 0, 0), (y_46, [Cond.code y_46 prog_5_method_16_code 3 (some .boolean)], 0, 0), (y_47, [Cond.code y_47 prog_5_method_17_code 4 (some .int)], 0, 0), (y_48, [Cond.code y_48 prog_5_method_18_code 2 none], 0, 0), (y_49, [Cond.code y_49 prog_5_method_19_code 5 (some .int)], 0, 0), (y_50, [Cond.code y_50 prog_5_method_20_code 4 (some .int)], 0, 0), (y_51, [Cond.code y_51 prog_5_method_21_code 3 (some .int)], 0, 0), (y_52, [Cond.code y_52 prog_5_method_22_code 10 (some .boolean)], 0, 0), (y_53, [Cond.code y_53 prog_5_method_23_code 2 none], 0, 0), (y_54, [Cond.code y_54 prog_5_method_24_code 4 (some .int)], 0, 0), (y_55, [Cond.code y_55 prog_5_method_25_code 3 (some .int)], 0, 0), (y_56, [Cond.code y_56 prog_5_method_26_code 5 (some .int)], 0, 0), (y_57, [Cond.code y_57 prog_5_method_27_code 2 (some .int)], 0, 0), (y_58, [Cond.code y_58 prog_5_method_28_code 4 (some .int)], 0, 0), (y_59, [Cond.code y_59 prog_5_method_29_code 2 (some .int)], 0, 0), (y_60, [Cond.code y_60 prog_5_method_30_code 4 (some .int)], 0, 0), (y_61, [Cond.code y_61 prog_5_method_31_code 4 (some .int)], 0, 0), (y_62, [Cond.code y_62 prog_5_method_32_code 2 (some .int)], 0, 0), (y_63, [Cond.code y_63 prog_5_method_33_code 7 (some .boolean)], 0, 0), (y_64, [Cond.code y_64 prog_5_method_34_code 2 (some .int)], 0, 0), (y_65, [Cond.code y_65 prog_5_method_35_code 1 (some .int)], 0, 0), (y_66, [Cond.code y_66 prog_5_method_36_code 5 (some .int)], 0, 0), (y_67, [Cond.code y_67 prog_5_method_37_code 3 (some .int)], 0, 0), (y_68, [Cond.code y_68 prog_5_method_38_code 6 (some .int)], 0, 0), (y_69, [Cond.code y_69 prog_2_method_1_code 1 none], 12, 85), (y_70, [Cond.code y_70 prog_2_method_2_code 2 (some .int)], 0, 0), (y_71, [Cond.code y_71 prog_2_method_3_code 4 (some .int)], 0, 0), (y_72, [Cond.code y_72 prog_2_method_4_code 2 (some .int)], 0, 0), (y_73, [Cond.code y_73 prog_2_method_5_code 2 none], 0, 0), (y_74, [Cond.code y_74 prog_2_method_6_code 3 none], 0, 0), (y_75, [Cond.code y_75 prog_2_method_7_code 5 none], 0, 0), (y_76, [Cond.code y_76 prog_2_method_8_code 2 (some .boolean)], 0, 0), (y_77, [Cond.code y_77 prog_2_method_9_code 8 none], 0, 0), (y_78, [Cond.code y_78 prog_2_method_10_code 5 (some .int)], 0, 0), (y_79, [Cond.code y_79 prog_3_method_1_code 2 none], 16, 99), (y_80, [Cond.code y_80 prog_3_method_2_code 2 (some .boolean)], 0, 0), (y_81, [Cond.code y_81 prog_3_method_3_code 2 (some .int)], 0, 0), (y_82, [Cond.code y_82 prog_3_method_4_code 3 (some .boolean)], 0, 0), (y_83, [Cond.code y_83 prog_3_method_5_code 2 (some .boolean)], 0, 0), (y_84, [Cond.code y_84 prog_3_method_6_code 3 (some .int)], 0, 0), (y_85, [Cond.code y_85 prog_3_method_7_code 3 (some .int)], 0, 0), (y_86, [Cond.code y_86 prog_3_method_8_code 4 (some .int)], 0, 0), (y_87, [Cond.code y_87 prog_3_method_9_code 4 (some .boolean)], 0, 0), (y_88, [Cond.code y_88 prog_3_method_10_code 2 (some .boolean)], 0, 0), (y_89, [Cond.code y_89 prog_3_method_11_code 3 (some .int)], 0, 0), (y_90, [Cond.code y_90 prog_3_method_12_code 5 (some .int)], 0, 0), (y_91, [Cond.code y_91 prog_3_method_13_code 4 (some .int)], 0, 0), (y_92, [Cond.code y_92 prog_3_method_14_code 4 (some .boolean)], 0, 0), (y_93, [Cond.code y_93 prog_3_method_15_code 5 (some .boolean)], 0, 0), (y_94, [Cond.code y_94 prog_3_method_16_code 3 (some .int)], 0, 0), (y_95, [Cond.code y_95 prog_3_method_17_code 4 (some .boolean)], 0, 0), (y_96, [Cond.code y_96 prog_3_method_18_code 4 (some .boolean)], 0, 0), (y_97, [Cond.codeWith y_97 method_3_code 6 (some .int) [(0, 12, 15, 13)]], 1, 6), (y_98, [Cond.codeWith y_98 method_4_code 8 (some .int) [(0, 16, 19, 13), (0, 16, 23, 19)]], 2, 12), (y_99, [Cond.codeWith y_99 method_5_code 4 (some .int) [(0, 9, 12, 25)]], 1, 6), (y_100, [Cond.codeWith y_100 method_6_code 5 (some .int) [(0, 10, 13, 25), (0, 10, 17, 13)]], 2, 12), (y_101, [Cond.codeWith y_101 method_7_code 4 (some .int) [(0, 9, 12, 13)]], 1, 6), (y_102, [Cond.codeWith y_102 method_8_code 5 (some .int) [(0, 10, 13, 13), (0, 10, 17, 19)]], 2, 12), (y_103, [Cond.codeWith y_103 method_9_code 4 (some .int) [(0, 6, 9, 25), (0, 6, 12, 13), (0, 6, 15, 19)]], 3, 18), (y_104, [Cond.codeWith y_104 method_10_code 4 (some .int) [(0, 16, 19, 25)]], 1, 6), (y_105, [Cond.codeWith y_105 method_11_code 5 (some .int) [(0, 10, 13, 25), (0, 10, 17, 13)]], 2, 12), (y_106, [Cond.codeWith y_106 method_12_code 4 (some .int) [(0, 9, 12, 25), (0, 9, 15, 19)]], 2, 12), (y_107, [Cond.codeWith y_107 method_13_code 4 (some .int) [(0, 9, 12, 54)]], 1, 6), (y_108, [Cond.codeWith y_108 method_14_code 4 (some .int) [(0, 9, 12, 25)]], 1, 6), (y_109, [Cond.codeWith y_109 method_15_code 4 (some .int) [(0, 9, 12, 25), (0, 9, 15, 19)]], 2, 12), (y_110, [Cond.codeWith y_110 method_16_code 5 (some .int) [(0, 10, 13, 54), (0, 10, 17, 13)]], 2, 12), (y_111, [], 666227, 7097424), (y_112, [Cond.code y_112 prog_14_method_103_code 4 none], 0, 0)]
def am_mt (mi : Nat) : MethodName × List Cond × Nat × Nat := am_MT.getD mi (y_0, [], 0, 0)
/-- the contract of method mi, for calls to depth d -/
def am_CC (l : Launch) (s0 : State) (d mi : Nat) : Prop := ∀ (as : List Value) (w : am_W) (Q : am_Q), am_T am_tabs am_ar d mi as w Q → am_Con l s0 am_ex am_cl (am_mt mi).1 (am_mt mi).2.1 (am_rm d (am_mt mi).2.2.1 (am_mt mi).2.2.2) (am_mt mi).2.2.1 (am_mt mi).2.2.2 as w Q
def am_idx : List Nat := [0, 1, 2, 3, 4, 5, 6, 7, 8, 9, 10, 11, 12, 13, 14, 15, 16, 17, 18, 19, 20, 21, 22, 23, 24, 25, 26, 27, 28, 29, 30, 31, 32, 33, 34, 35, 36, 37, 38, 39, 40, 41, 42, 43, 44, 45, 46, 47, 48, 49, 50, 51, 52, 53, 54, 55, 56, 57, 58, 59, 60, 61, 62, 63, 64, 65, 66, 67, 68, 69, 70, 71, 72, 73, 74, 75, 76, 77, 78, 79, 80, 81, 82, 83, 84, 85, 86, 87, 88, 89, 90, 91, 92, 93, 94, 95, 96, 97, 98, 99, 100, 101, 102, 103, 104, 105, 106, 107, 108, 109, 110, 112]
theorem hcal_0 {l : Launch} {s0 : State} {d : Nat} (hall : ∀ mi ∈ am_idx, am_CC l s0 d mi) : ∀ (as : List Value) (w : am_W) (Q : am_Q), am_T am_tabs am_ar d 0 as w Q → am_Con l s0 am_ex am_cl y_0 [Cond.code y_0 prog_1_method_1_code 1 none] (am_rm d 33 223) 33 223 as w Q := hall 0 (by decide)
theorem nm_0 : am_nm y_0 0 := by decide +kernel
theorem hcal_1 {l : Launch} {s0 : State} {d : Nat} (hall : ∀ mi ∈ am_idx, am_CC l s0 d mi) : ∀ (as : List Value) (w : am_W) (Q : am_Q), am_T am_tabs am_ar d 1 as w Q → am_Con l s0 am_ex am_cl y_1 [Cond.code y_1 prog_1_method_2_code 5 (some .int)] (am_rm d 1 6) 1 6 as w Q := hall 1 (by decide)
theorem nm_1 : am_nm y_1 3 := by decide +kernel
theorem hcal_2 {l : Launch} {s0 : State} {d : Nat} (hall : ∀ mi ∈ am_idx, am_CC l s0 d mi) : ∀ (as : List Value) (w : am_W) (Q : am_Q), am_T am_tabs am_ar d 2 as w Q → am_Con l s0 am_ex am_cl y_2 [Cond.code y_2 prog_1_method_3_code 8 (some .int)] (am_rm d 2 12) 2 12 as w Q := hall 2 (by decide)
theorem nm_2 : am_nm y_2 5 := by decide +kernel
theorem hcal_3 {l : Launch} {s0 : State} {d : Nat} (hall : ∀ mi ∈ am_idx, am_CC l s0 d mi) : ∀ (as : List Value) (w : am_W) (Q : am_Q), am_T am_tabs am_ar d 3 as w Q → am_Con l s0 am_ex am_cl y_3 [Cond.code y_3 prog_1_method_4_code 2 (some .int)] (am_rm d 1 6) 1 6 as w Q := hall 3 (by decide)
theorem nm_3 : am_nm y_3 1 := by decide +kernel
theorem hcal_4 {l : Launch} {s0 : State} {d : Nat} (hall : ∀ mi ∈ am_idx, am_CC l s0 d mi) : ∀ (as : List Value) (w : am_W) (Q : am_Q), am_T am_tabs am_ar d 4 as w Q → am_Con l s0 am_ex am_cl y_4 [Cond.code y_4 prog_1_method_5_code 4 (some .int)] (am_rm d 2 12) 2 12 as w Q := hall 4 (by decide)
theorem nm_4 : am_nm y_4 2 := by decide +kernel
theorem hcal_5 {l : Launch} {s0 : State} {d : Nat} (hall : ∀ mi ∈ am_idx, am_CC l s0 d mi) : ∀ (as : List Value) (w : am_W) (Q : am_Q), am_T am_tabs am_ar d 5 as w Q → am_Con l s0 am_ex am_cl y_5 [Cond.code y_5 prog_1_method_6_code 3 (some .int)] (am_rm d 1 6) 1 6 as w Q := hall 5 (by decide)
theorem nm_5 : am_nm y_5 1 := by decide +kernel
theorem hcal_6 {l : Launch} {s0 : State} {d : Nat} (hall : ∀ mi ∈ am_idx, am_CC l s0 d mi) : ∀ (as : List Value) (w : am_W) (Q : am_Q), am_T am_tabs am_ar d 6 as w Q → am_Con l s0 am_ex am_cl y_6 [Cond.code y_6 prog_1_method_7_code 3 (some .int)] (am_rm d 2 12) 2 12 as w Q := hall 6 (by decide)
theorem nm_6 : am_nm y_6 2 := by decide +kernel
theorem hcal_7 {l : Launch} {s0 : State} {d : Nat} (hall : ∀ mi ∈ am_idx, am_CC l s0 d mi) : ∀ (as : List Value) (w : am_W) (Q : am_Q), am_T am_tabs am_ar d 7 as w Q → am_Con l s0 am_ex am_cl y_7 [Cond.code y_7 prog_1_method_8_code 2 (some .int)] (am_rm d 0 0) 0 0 as w Q := hall 7 (by decide)
theorem nm_7 : am_nm y_7 0 := by decide +kernel
theorem hcal_8 {l : Launch} {s0 : State} {d : Nat} (hall : ∀ mi ∈ am_idx, am_CC l s0 d mi) : ∀ (as : List Value) (w : am_W) (Q : am_Q), am_T am_tabs am_ar d 8 as w Q → am_Con l s0 am_ex am_cl y_8 [Cond.code y_8 prog_1_method_9_code 3 none] (am_rm d 3 18) 3 18 as w Q := hall 8 (by decide)
theorem nm_8 : am_nm y_8 2 := by decide +kernel
theorem hcal_9 {l : Launch} {s0 : State} {d : Nat} (hall : ∀ mi ∈ am_idx, am_CC l s0 d mi) : ∀ (as : List Value) (w : am_W) (Q : am_Q), am_T am_tabs am_ar d 9 as w Q → am_Con l s0 am_ex am_cl y_9 [Cond.code y_9 prog_1_method_10_code 3 (some .boolean)] (am_rm d 1 6) 1 6 as w Q := hall 9 (by decide)
theorem nm_9 : am_nm y_9 1 := by decide +kernel
theorem hcal_10 {l : Launch} {s0 : State} {d : Nat} (hall : ∀ mi ∈ am_idx, am_CC l s0 d mi) : ∀ (as : List Value) (w : am_W) (Q : am_Q), am_T am_tabs am_ar d 10 as w Q → am_Con l s0 am_ex am_cl y_10 [Cond.code y_10 prog_1_method_11_code 2 (some .int)] (am_rm d 0 0) 0 0 as w Q := hall 10 (by decide)
theorem nm_10 : am_nm y_10 0 := by decide +kernel
theorem hcal_11 {l : Launch} {s0 : State} {d : Nat} (hall : ∀ mi ∈ am_idx, am_CC l s0 d mi) : ∀ (as : List Value) (w : am_W) (Q : am_Q), am_T am_tabs am_ar d 11 as w Q → am_Con l s0 am_ex am_cl y_11 [Cond.code y_11 prog_1_method_12_code 5 (some .int)] (am_rm d 2 12) 2 12 as w Q := hall 11 (by decide)
theorem nm_11 : am_nm y_11 2 := by decide +kernel
theorem hcal_12 {l : Launch} {s0 : State} {d : Nat} (hall : ∀ mi ∈ am_idx, am_CC l s0 d mi) : ∀ (as : List Value) (w : am_W) (Q : am_Q), am_T am_tabs am_ar d 12 as w Q → am_Con l s0 am_ex am_cl y_12 [Cond.code y_12 prog_1_method_13_code 2 (some .int)] (am_rm d 2 12) 2 12 as w Q := hall 12 (by decide)
theorem nm_12 : am_nm y_12 1 := by decide +kernel
theorem hcal_13 {l : Launch} {s0 : State} {d : Nat} (hall : ∀ mi ∈ am_idx, am_CC l s0 d mi) : ∀ (as : List Value) (w : am_W) (Q : am_Q), am_T am_tabs am_ar d 13 as w Q → am_Con l s0 am_ex am_cl y_13 [Cond.code y_13 prog_1_method_14_code 3 (some .int)] (am_rm d 1 6) 1 6 as w Q := hall 13 (by decide)
theorem nm_13 : am_nm y_13 1 := by decide +kernel
theorem hcal_14 {l : Launch} {s0 : State} {d : Nat} (hall : ∀ mi ∈ am_idx, am_CC l s0 d mi) : ∀ (as : List Value) (w : am_W) (Q : am_Q), am_T am_tabs am_ar d 14 as w Q → am_Con l s0 am_ex am_cl y_14 [Cond.code y_14 prog_1_method_15_code 2 (some .int)] (am_rm d 1 6) 1 6 as w Q := hall 14 (by decide)
theorem nm_14 : am_nm y_14 1 := by decide +kernel
theorem hcal_15 {l : Launch} {s0 : State} {d : Nat} (hall : ∀ mi ∈ am_idx, am_CC l s0 d mi) : ∀ (as : List Value) (w : am_W) (Q : am_Q), am_T am_tabs am_ar d 15 as w Q → am_Con l s0 am_ex am_cl y_15 [Cond.code y_15 prog_1_method_16_code 1 (some .int)] (am_rm d 0 0) 0 0 as w Q := hall 15 (by decide)
theorem nm_15 : am_nm y_15 0 := by decide +kernel
theorem hcal_16 {l : Launch} {s0 : State} {d : Nat} (hall : ∀ mi ∈ am_idx, am_CC l s0 d mi) : ∀ (as : List Value) (w : am_W) (Q : am_Q), am_T am_tabs am_ar d 16 as w Q → am_Con l s0 am_ex am_cl y_16 [Cond.code y_16 prog_1_method_17_code 1 (some .int)] (am_rm d 0 0) 0 0 as w Q := hall 16 (by decide)
theorem nm_16 : am_nm y_16 0 := by decide +kernel
theorem hcal_17 {l : Launch} {s0 : State} {d : Nat} (hall : ∀ mi ∈ am_idx, am_CC l s0 d mi) : ∀ (as : List Value) (w : am_W) (Q : am_Q), am_T am_tabs am_ar d 17 as w Q → am_Con l s0 am_ex am_cl y_17 [Cond.code y_17 prog_1_method_18_code 1 (some .int)] (am_rm d 0 0) 0 0 as w Q := hall 17 (by decide)
theorem nm_17 : am_nm y_17 0 := by decide +kernel
theorem hcal_18 {l : Launch} {s0 : State} {d : Nat} (hall : ∀ mi ∈ am_idx, am_CC l s0 d mi) : ∀ (as : List Value) (w : am_W) (Q : am_Q), am_T am_tabs am_ar d 18 as w Q → am_Con l s0 am_ex am_cl y_18 [Cond.code y_18 prog_1_method_19_code 2 (some .int)] (am_rm d 2 12) 2 12 as w Q := hall 18 (by decide)
theorem nm_18 : am_nm y_18 1 := by decide +kernel
theorem hcal_19 {l : Launch} {s0 : State} {d : Nat} (hall : ∀ mi ∈ am_idx, am_CC l s0 d mi) : ∀ (as : List Value) (w : am_W) (Q : am_Q), am_T am_tabs am_ar d 19 as w Q → am_Con l s0 am_ex am_cl y_19 [Cond.code y_19 prog_1_method_20_code 3 (some .int)] (am_rm d 0 0) 0 0 as w Q := hall 19 (by decide)
theorem nm_19 : am_nm y_19 0 := by decide +kernel
theorem hcal_20 {l : Launch} {s0 : State} {d : Nat} (hall : ∀ mi ∈ am_idx, am_CC l s0 d mi) : ∀ (as : List Value) (w : am_W) (Q : am_Q), am_T am_tabs am_ar d 20 as w Q → am_Con l s0 am_ex am_cl y_20 [Cond.code y_20 prog_1_method_21_code 4 (some .int)] (am_rm d 2 12) 2 12 as w Q := hall 20 (by decide)
theorem nm_20 : am_nm y_20 2 := by decide +kernel
theorem hcal_21 {l : Launch} {s0 : State} {d : Nat} (hall : ∀ mi ∈ am_idx, am_CC l s0 d mi) : ∀ (as : List Value) (w : am_W) (Q : am_Q), am_T am_tabs am_ar d 21 as w Q → am_Con l s0 am_ex am_cl y_21 [Cond.code y_21 prog_1_method_22_code 2 none] (am_rm d 1 6) 1 6 as w Q := hall 21 (by decide)
theorem nm_21 : am_nm y_21 1 := by decide +kernel
theorem hcal_22 {l : Launch} {s0 : State} {d : Nat} (hall : ∀ mi ∈ am_idx, am_CC l s0 d mi) : ∀ (as : List Value) (w : am_W) (Q : am_Q), am_T am_tabs am_ar d 22 as w Q → am_Con l s0 am_ex am_cl y_22 [Cond.code y_22 prog_1_method_23_code 3 none] (am_rm d 1 6) 1 6 as w Q := hall 22 (by decide)
theorem nm_22 : am_nm y_22 2 := by decide +kernel
theorem hcal_23 {l : Launch} {s0 : State} {d : Nat} (hall : ∀ mi ∈ am_idx, am_CC l s0 d mi) : ∀ (as : List Value) (w : am_W) (Q : am_Q), am_T am_tabs am_ar d 23 as w Q → am_Con l s0 am_ex am_cl y_23 [Cond.code y_23 prog_1_method_24_code 2 (some .boolean)] (am_rm d 0 0) 0 0 as w Q := hall 23 (by decide)
theorem nm_23 : am_nm y_23 1 := by decide +kernel
theorem hcal_24 {l : Launch} {s0 : State} {d : Nat} (hall : ∀ mi ∈ am_idx, am_CC l s0 d mi) : ∀ (as : List Value) (w : am_W) (Q : am_Q), am_T am_tabs am_ar d 24 as w Q → am_Con l s0 am_ex am_cl y_24 [Cond.code y_24 prog_1_method_25_code 4 (some .int)] (am_rm d 0 0) 0 0 as w Q := hall 24 (by decide)
theorem nm_24 : am_nm y_24 1 := by decide +kernel
theorem hcal_25 {l : Launch} {s0 : State} {d : Nat} (hall : ∀ mi ∈ am_idx, am_CC l s0 d mi) : ∀ (as : List Value) (w : am_W) (Q : am_Q), am_T am_tabs am_ar d 25 as w Q → am_Con l s0 am_ex am_cl y_25 [Cond.code y_25 prog_1_method_26_code 4 (some .int)] (am_rm d 0 0) 0 0 as w Q := hall 25 (by decide)
theorem nm_25 : am_nm y_25 1 := by decide +kernel
theorem hcal_26 {l : Launch} {s0 : State} {d : Nat} (hall : ∀ mi ∈ am_idx, am_CC l s0 d mi) : ∀ (as : List Value) (w : am_W) (Q : am_Q), am_T am_tabs am_ar d 26 as w Q → am_Con l s0 am_ex am_cl y_26 [Cond.code y_26 prog_1_method_27_code 4 (some .int)] (am_rm d 0 0) 0 0 as w Q := hall 26 (by decide)
theorem nm_26 : am_nm y_26 3 := by decide +kernel
theorem hcal_27 {l : Launch} {s0 : State} {d : Nat} (hall : ∀ mi ∈ am_idx, am_CC l s0 d mi) : ∀ (as : List Value) (w : am_W) (Q : am_Q), am_T am_tabs am_ar d 27 as w Q → am_Con l s0 am_ex am_cl y_27 [Cond.code y_27 prog_1_method_28_code 3 (some .boolean)] (am_rm d 0 0) 0 0 as w Q := hall 27 (by decide)
theorem nm_27 : am_nm y_27 3 := by decide +kernel
theorem hcal_28 {l : Launch} {s0 : State} {d : Nat} (hall : ∀ mi ∈ am_idx, am_CC l s0 d mi) : ∀ (as : List Value) (w : am_W) (Q : am_Q), am_T am_tabs am_ar d 28 as w Q → am_Con l s0 am_ex am_cl y_28 [Cond.code y_28 prog_1_method_29_code 1 (some .boolean)] (am_rm d 0 0) 0 0 as w Q := hall 28 (by decide)
theorem nm_28 : am_nm y_28 1 := by decide +kernel
theorem hcal_29 {l : Launch} {s0 : State} {d : Nat} (hall : ∀ mi ∈ am_idx, am_CC l s0 d mi) : ∀ (as : List Value) (w : am_W) (Q : am_Q), am_T am_tabs am_ar d 29 as w Q → am_Con l s0 am_ex am_cl y_29 [Cond.code y_29 prog_1_method_30_code 3 (some .boolean)] (am_rm d 0 0) 0 0 as w Q := hall 29 (by decide)
theorem nm_29 : am_nm y_29 3 := by decide +kernel
theorem hcal_30 {l : Launch} {s0 : State} {d : Nat} (hall : ∀ mi ∈ am_idx, am_CC l s0 d mi) : ∀ (as : List Value) (w : am_W) (Q : am_Q), am_T am_tabs am_ar d 30 as w Q → am_Con l s0 am_ex am_cl y_30 [Cond.code y_30 prog_1_method_31_code 4 (some .int)] (am_rm d 0 0) 0 0 as w Q := hall 30 (by decide)
theorem nm_30 : am_nm y_30 2 := by decide +kernel
theorem hcal_31 {l : Launch} {s0 : State} {d : Nat} (hall : ∀ mi ∈ am_idx, am_CC l s0 d mi) : ∀ (as : List Value) (w : am_W) (Q : am_Q), am_T am_tabs am_ar d 31 as w Q → am_Con l s0 am_ex am_cl y_31 [Cond.code y_31 prog_5_method_1_code 2 none] (am_rm d 18 151) 18 151 as w Q := hall 31 (by decide)
theorem nm_31 : am_nm y_31 0 := by decide +kernel
theorem hcal_32 {l : Launch} {s0 : State} {d : Nat} (hall : ∀ mi ∈ am_idx, am_CC l s0 d mi) : ∀ (as : List Value) (w : am_W) (Q : am_Q), am_T am_tabs am_ar d 32 as w Q → am_Con l s0 am_ex am_cl y_32 [Cond.code y_32 prog_5_method_2_code 1 (some .int)] (am_rm d 0 0) 0 0 as w Q := hall 32 (by decide)
theorem nm_32 : am_nm y_32 0 := by decide +kernel
theorem hcal_33 {l : Launch} {s0 : State} {d : Nat} (hall : ∀ mi ∈ am_idx, am_CC l s0 d mi) : ∀ (as : List Value) (w : am_W) (Q : am_Q), am_T am_tabs am_ar d 33 as w Q → am_Con l s0 am_ex am_cl y_33 [Cond.code y_33 prog_5_method_3_code 2 (some .boolean)] (am_rm d 0 0) 0 0 as w Q := hall 33 (by decide)
theorem nm_33 : am_nm y_33 1 := by decide +kernel
theorem hcal_34 {l : Launch} {s0 : State} {d : Nat} (hall : ∀ mi ∈ am_idx, am_CC l s0 d mi) : ∀ (as : List Value) (w : am_W) (Q : am_Q), am_T am_tabs am_ar d 34 as w Q → am_Con l s0 am_ex am_cl y_34 [Cond.code y_34 prog_5_method_4_code 1 (some .boolean)] (am_rm d 0 0) 0 0 as w Q := hall 34 (by decide)
theorem nm_34 : am_nm y_34 1 := by decide +kernel
theorem hcal_35 {l : Launch} {s0 : State} {d : Nat} (hall : ∀ mi ∈ am_idx, am_CC l s0 d mi) : ∀ (as : List Value) (w : am_W) (Q : am_Q), am_T am_tabs am_ar d 35 as w Q → am_Con l s0 am_ex am_cl y_35 [Cond.code y_35 prog_5_method_5_code 3 (some .int)] (am_rm d 0 0) 0 0 as w Q := hall 35 (by decide)
theorem nm_35 : am_nm y_35 0 := by decide +kernel
theorem hcal_36 {l : Launch} {s0 : State} {d : Nat} (hall : ∀ mi ∈ am_idx, am_CC l s0 d mi) : ∀ (as : List Value) (w : am_W) (Q : am_Q), am_T am_tabs am_ar d 36 as w Q → am_Con l s0 am_ex am_cl y_36 [Cond.code y_36 prog_5_method_6_code 6 (some .int)] (am_rm d 0 0) 0 0 as w Q := hall 36 (by decide)
theorem nm_36 : am_nm y_36 3 := by decide +kernel
theorem hcal_37 {l : Launch} {s0 : State} {d : Nat} (hall : ∀ mi ∈ am_idx, am_CC l s0 d mi) : ∀ (as : List Value) (w : am_W) (Q : am_Q), am_T am_tabs am_ar d 37 as w Q → am_Con l s0 am_ex am_cl y_37 [Cond.code y_37 prog_5_method_7_code 9 (some .int)] (am_rm d 0 0) 0 0 as w Q := hall 37 (by decide)
theorem nm_37 : am_nm y_37 5 := by decide +kernel
theorem hcal_38 {l : Launch} {s0 : State} {d : Nat} (hall : ∀ mi ∈ am_idx, am_CC l s0 d mi) : ∀ (as : List Value) (w : am_W) (Q : am_Q), am_T am_tabs am_ar d 38 as w Q → am_Con l s0 am_ex am_cl y_38 [Cond.code y_38 prog_5_method_8_code 2 (some .int)] (am_rm d 0 0) 0 0 as w Q := hall 38 (by decide)
theorem nm_38 : am_nm y_38 1 := by decide +kernel
theorem hcal_39 {l : Launch} {s0 : State} {d : Nat} (hall : ∀ mi ∈ am_idx, am_CC l s0 d mi) : ∀ (as : List Value) (w : am_W) (Q : am_Q), am_T am_tabs am_ar d 39 as w Q → am_Con l s0 am_ex am_cl y_39 [Cond.code y_39 prog_5_method_9_code 4 (some .int)] (am_rm d 0 0) 0 0 as w Q := hall 39 (by decide)
theorem nm_39 : am_nm y_39 2 := by decide +kernel
theorem hcal_40 {l : Launch} {s0 : State} {d : Nat} (hall : ∀ mi ∈ am_idx, am_CC l s0 d mi) : ∀ (as : List Value) (w : am_W) (Q : am_Q), am_T am_tabs am_ar d 40 as w Q → am_Con l s0 am_ex am_cl y_40 [Cond.code y_40 prog_5_method_10_code 3 (some .int)] (am_rm d 0 0) 0 0 as w Q := hall 40 (by decide)
theorem nm_40 : am_nm y_40 1 := by decide +kernel
theorem hcal_41 {l : Launch} {s0 : State} {d : Nat} (hall : ∀ mi ∈ am_idx, am_CC l s0 d mi) : ∀ (as : List Value) (w : am_W) (Q : am_Q), am_T am_tabs am_ar d 41 as w Q → am_Con l s0 am_ex am_cl y_41 [Cond.code y_41 prog_5_method_11_code 3 (some .int)] (am_rm d 0 0) 0 0 as w Q := hall 41 (by decide)
theorem nm_41 : am_nm y_41 2 := by decide +kernel
theorem hcal_42 {l : Launch} {s0 : State} {d : Nat} (hall : ∀ mi ∈ am_idx, am_CC l s0 d mi) : ∀ (as : List Value) (w : am_W) (Q : am_Q), am_T am_tabs am_ar d 42 as w Q → am_Con l s0 am_ex am_cl y_42 [Cond.code y_42 prog_5_method_12_code 2 (some .int)] (am_rm d 0 0) 0 0 as w Q := hall 42 (by decide)
theorem nm_42 : am_nm y_42 0 := by decide +kernel
theorem hcal_43 {l : Launch} {s0 : State} {d : Nat} (hall : ∀ mi ∈ am_idx, am_CC l s0 d mi) : ∀ (as : List Value) (w : am_W) (Q : am_Q), am_T am_tabs am_ar d 43 as w Q → am_Con l s0 am_ex am_cl y_43 [Cond.code y_43 prog_5_method_13_code 4 (some .boolean)] (am_rm d 0 0) 0 0 as w Q := hall 43 (by decide)
theorem nm_43 : am_nm y_43 1 := by decide +kernel
theorem hcal_44 {l : Launch} {s0 : State} {d : Nat} (hall : ∀ mi ∈ am_idx, am_CC l s0 d mi) : ∀ (as : List Value) (w : am_W) (Q : am_Q), am_T am_tabs am_ar d 44 as w Q → am_Con l s0 am_ex am_cl y_44 [Cond.code y_44 prog_5_method_14_code 5 (some .boolean)] (am_rm d 0 0) 0 0 as w Q := hall 44 (by decide)
theorem nm_44 : am_nm y_44 4 := by decide +kernel
theorem hcal_45 {l : Launch} {s0 : State} {d : Nat} (hall : ∀ mi ∈ am_idx, am_CC l s0 d mi) : ∀ (as : List Value) (w : am_W) (Q : am_Q), am_T am_tabs am_ar d 45 as w Q → am_Con l s0 am_ex am_cl y_45 [Cond.code y_45 prog_5_method_15_code 4 none] (am_rm d 0 0) 0 0 as w Q := hall 45 (by decide)
theorem nm_45 : am_nm y_45 2 := by decide +kernel
theorem hcal_46 {l : Launch} {s0 : State} {d : Nat} (hall : ∀ mi ∈ am_idx, am_CC l s0 d mi) : ∀ (as : List Value) (w : am_W) (Q : am_Q), am_T am_tabs am_ar d 46 as w Q → am_Con l s0 am_ex am_cl y_46 [Cond.code y_46 prog_5_method_16_code 3 (some .boolean)] (am_rm d 0 0) 0 0 as w Q := hall 46 (by decide)
theorem nm_46 : am_nm y_46 1 := by decide +kernel
theorem hcal_47 {l : Launch} {s0 : State} {d : Nat} (hall : ∀ mi ∈ am_idx, am_CC l s0 d mi) : ∀ (as : List Value) (w : am_W) (Q : am_Q), am_T am_tabs am_ar d 47 as w Q → am_Con l s0 am_ex am_cl y_47 [Cond.code y_47 prog_5_method_17_code 4 (some .int)] (am_rm d 0 0) 0 0 as w Q := hall 47 (by decide)
theorem nm_47 : am_nm y_47 1 := by decide +kernel
theorem hcal_48 {l : Launch} {s0 : State} {d : Nat} (hall : ∀ mi ∈ am_idx, am_CC l s0 d mi) : ∀ (as : List Value) (w : am_W) (Q : am_Q), am_T am_tabs am_ar d 48 as w Q → am_Con l s0 am_ex am_cl y_48 [Cond.code y_48 prog_5_method_18_code 2 none] (am_rm d 0 0) 0 0 as w Q := hall 48 (by decide)
theorem nm_48 : am_nm y_48 0 := by decide +kernel
theorem hcal_49 {l : Launch} {s0 : State} {d : Nat} (hall : ∀ mi ∈ am_idx, am_CC l s0 d mi) : ∀ (as : List Value) (w : am_W) (Q : am_Q), am_T am_tabs am_ar d 49 as w Q → am_Con l s0 am_ex am_cl y_49 [Cond.code y_49 prog_5_method_19_code 5 (some .int)] (am_rm d 0 0) 0 0 as w Q := hall 49 (by decide)
theorem nm_49 : am_nm y_49 1 := by decide +kernel
theorem hcal_50 {l : Launch} {s0 : State} {d : Nat} (hall : ∀ mi ∈ am_idx, am_CC l s0 d mi) : ∀ (as : List Value) (w : am_W) (Q : am_Q), am_T am_tabs am_ar d 50 as w Q → am_Con l s0 am_ex am_cl y_50 [Cond.code y_50 prog_5_method_20_code 4 (some .int)] (am_rm d 0 0) 0 0 as w Q := hall 50 (by decide)
theorem nm_50 : am_nm y_50 2 := by decide +kernel
theorem hcal_51 {l : Launch} {s0 : State} {d : Nat} (hall : ∀ mi ∈ am_idx, am_CC l s0 d mi) : ∀ (as : List Value) (w : am_W) (Q : am_Q), am_T am_tabs am_ar d 51 as w Q → am_Con l s0 am_ex am_cl y_51 [Cond.code y_51 prog_5_method_21_code 3 (some .int)] (am_rm d 0 0) 0 0 as w Q := hall 51 (by decide)
theorem nm_51 : am_nm y_51 2 := by decide +kernel
theorem hcal_52 {l : Launch} {s0 : State} {d : Nat} (hall : ∀ mi ∈ am_idx, am_CC l s0 d mi) : ∀ (as : List Value) (w : am_W) (Q : am_Q), am_T am_tabs am_ar d 52 as w Q → am_Con l s0 am_ex am_cl y_52 [Cond.code y_52 prog_5_method_22_code 10 (some .boolean)] (am_rm d 0 0) 0 0 as w Q := hall 52 (by decide)
theorem nm_52 : am_nm y_52 3 := by decide +kernel
theorem hcal_53 {l : Launch} {s0 : State} {d : Nat} (hall : ∀ mi ∈ am_idx, am_CC l s0 d mi) : ∀ (as : List Value) (w : am_W) (Q : am_Q), am_T am_tabs am_ar d 53 as w Q → am_Con l s0 am_ex am_cl y_53 [Cond.code y_53 prog_5_method_23_code 2 none] (am_rm d 0 0) 0 0 as w Q := hall 53 (by decide)
theorem nm_53 : am_nm y_53 0 := by decide +kernel
theorem hcal_54 {l : Launch} {s0 : State} {d : Nat} (hall : ∀ mi ∈ am_idx, am_CC l s0 d mi) : ∀ (as : List Value) (w : am_W) (Q : am_Q), am_T am_tabs am_ar d 54 as w Q → am_Con l s0 am_ex am_cl y_54 [Cond.code y_54 prog_5_method_24_code 4 (some .int)] (am_rm d 0 0) 0 0 as w Q := hall 54 (by decide)
theorem nm_54 : am_nm y_54 0 := by decide +kernel
theorem hcal_55 {l : Launch} {s0 : State} {d : Nat} (hall : ∀ mi ∈ am_idx, am_CC l s0 d mi) : ∀ (as : List Value) (w : am_W) (Q : am_Q), am_T am_tabs am_ar d 55 as w Q → am_Con l s0 am_ex am_cl y_55 [Cond.code y_55 prog_5_method_25_code 3 (some .int)] (am_rm d 0 0) 0 0 as w Q := hall 55 (by decide)
theorem nm_55 : am_nm y_55 0 := by decide +kernel
theorem hcal_56 {l : Launch} {s0 : State} {d : Nat} (hall : ∀ mi ∈ am_idx, am_CC l s0 d mi) : ∀ (as : List Value) (w : am_W) (Q : am_Q), am_T am_tabs am_ar d 56 as w Q → am_Con l s0 am_ex am_cl y_56 [Cond.code y_56 prog_5_method_26_code 5 (some .int)] (am_rm d 0 0) 0 0 as w Q := hall 56 (by decide)
theorem nm_56 : am_nm y_56 2 := by decide +kernel
theorem hcal_57 {l : Launch} {s0 : State} {d : Nat} (hall : ∀ mi ∈ am_idx, am_CC l s0 d mi) : ∀ (as : List Value) (w : am_W) (Q : am_Q), am_T am_tabs am_ar d 57 as w Q → am_Con l s0 am_ex am_cl y_57 [Cond.code y_57 prog_5_method_27_code 2 (some .int)] (am_rm d 0 0) 0 0 as w Q := hall 57 (by decide)
theorem nm_57 : am_nm y_57 0 := by decide +kernel
theorem hcal_58 {l : Launch} {s0 : State} {d : Nat} (hall : ∀ mi ∈ am_idx, am_CC l s0 d mi) : ∀ (as : List Value) (w : am_W) (Q : am_Q), am_T am_tabs am_ar d 58 as w Q → am_Con l s0 am_ex am_cl y_58 [Cond.code y_58 prog_5_method_28_code 4 (some .int)] (am_rm d 0 0) 0 0 as w Q := hall 58 (by decide)
theorem nm_58 : am_nm y_58 0 := by decide +kernel
theorem hcal_59 {l : Launch} {s0 : State} {d : Nat} (hall : ∀ mi ∈ am_idx, am_CC l s0 d mi) : ∀ (as : List Value) (w : am_W) (Q : am_Q), am_T am_tabs am_ar d 59 as w Q → am_Con l s0 am_ex am_cl y_59 [Cond.code y_59 prog_5_method_29_code 2 (some .int)] (am_rm d 0 0) 0 0 as w Q := hall 59 (by decide)
theorem nm_59 : am_nm y_59 1 := by decide +kernel
theorem hcal_60 {l : Launch} {s0 : State} {d : Nat} (hall : ∀ mi ∈ am_idx, am_CC l s0 d mi) : ∀ (as : List Value) (w : am_W) (Q : am_Q), am_T am_tabs am_ar d 60 as w Q → am_Con l s0 am_ex am_cl y_60 [Cond.code y_60 prog_5_method_30_code 4 (some .int)] (am_rm d 0 0) 0 0 as w Q := hall 60 (by decide)
theorem nm_60 : am_nm y_60 1 := by decide +kernel
theorem hcal_61 {l : Launch} {s0 : State} {d : Nat} (hall : ∀ mi ∈ am_idx, am_CC l s0 d mi) : ∀ (as : List Value) (w : am_W) (Q : am_Q), am_T am_tabs am_ar d 61 as w Q → am_Con l s0 am_ex am_cl y_61 [Cond.code y_61 prog_5_method_31_code 4 (some .int)] (am_rm d 0 0) 0 0 as w Q := hall 61 (by decide)
theorem nm_61 : am_nm y_61 1 := by decide +kernel
theorem hcal_62 {l : Launch} {s0 : State} {d : Nat} (hall : ∀ mi ∈ am_idx, am_CC l s0 d mi) : ∀ (as : List Value) (w : am_W) (Q : am_Q), am_T am_tabs am_ar d 62 as w Q → am_Con l s0 am_ex am_cl y_62 [Cond.code y_62 prog_5_method_32_code 2 (some .int)] (am_rm d 0 0) 0 0 as w Q := hall 62 (by decide)
theorem nm_62 : am_nm y_62 1 := by decide +kernel
theorem hcal_63 {l : Launch} {s0 : State} {d : Nat} (hall : ∀ mi ∈ am_idx, am_CC l s0 d mi) : ∀ (as : List Value) (w : am_W) (Q : am_Q), am_T am_tabs am_ar d 63 as w Q → am_Con l s0 am_ex am_cl y_63 [Cond.code y_63 prog_5_method_33_code 7 (some .boolean)] (am_rm d 0 0) 0 0 as w Q := hall 63 (by decide)
theorem nm_63 : am_nm y_63 1 := by decide +kernel
theorem hcal_64 {l : Launch} {s0 : State} {d : Nat} (hall : ∀ mi ∈ am_idx, am_CC l s0 d mi) : ∀ (as : List Value) (w : am_W) (Q : am_Q), am_T am_tabs am_ar d 64 as w Q → am_Con l s0 am_ex am_cl y_64 [Cond.code y_64 prog_5_method_34_code 2 (some .int)] (am_rm d 0 0) 0 0 as w Q := hall 64 (by decide)
theorem nm_64 : am_nm y_64 0 := by decide +kernel
theorem hcal_65 {l : Launch} {s0 : State} {d : Nat} (hall : ∀ mi ∈ am_idx, am_CC l s0 d mi) : ∀ (as : List Value) (w : am_W) (Q : am_Q), am_T am_tabs am_ar d 65 as w Q → am_Con l s0 am_ex am_cl y_65 [Cond.code y_65 prog_5_method_35_code 1 (some .int)] (am_rm d 0 0) 0 0 as w Q := hall 65 (by decide)
theorem nm_65 : am_nm y_65 0 := by decide +kernel
theorem hcal_66 {l : Launch} {s0 : State} {d : Nat} (hall : ∀ mi ∈ am_idx, am_CC l s0 d mi) : ∀ (as : List Value) (w : am_W) (Q : am_Q), am_T am_tabs am_ar d 66 as w Q → am_Con l s0 am_ex am_cl y_66 [Cond.code y_66 prog_5_method_36_code 5 (some .int)] (am_rm d 0 0) 0 0 as w Q := hall 66 (by decide)
theorem nm_66 : am_nm y_66 1 := by decide +kernel
theorem hcal_67 {l : Launch} {s0 : State} {d : Nat} (hall : ∀ mi ∈ am_idx, am_CC l s0 d mi) : ∀ (as : List Value) (w : am_W) (Q : am_Q), am_T am_tabs am_ar d 67 as w Q → am_Con l s0 am_ex am_cl y_67 [Cond.code y_67 prog_5_method_37_code 3 (some .int)] (am_rm d 0 0) 0 0 as w Q := hall 67 (by decide)
theorem nm_67 : am_nm y_67 0 := by decide +kernel
theorem hcal_68 {l : Launch} {s0 : State} {d : Nat} (hall : ∀ mi ∈ am_idx, am_CC l s0 d mi) : ∀ (as : List Value) (w : am_W) (Q : am_Q), am_T am_tabs am_ar d 68 as w Q → am_Con l s0 am_ex am_cl y_68 [Cond.code y_68 prog_5_method_38_code 6 (some .int)] (am_rm d 0 0) 0 0 as w Q := hall 68 (by decide)
theorem nm_68 : am_nm y_68 2 := by decide +kernel
theorem hcal_69 {l : Launch} {s0 : State} {d : Nat} (hall : ∀ mi ∈ am_idx, am_CC l s0 d mi) : ∀ (as : List Value) (w : am_W) (Q : am_Q), am_T am_tabs am_ar d 69 as w Q → am_Con l s0 am_ex am_cl y_69 [Cond.code y_69 prog_2_method_1_code 1 none] (am_rm d 12 85) 12 85 as w Q := hall 69 (by decide)
theorem nm_69 : am_nm y_69 0 := by decide +kernel
theorem hcal_70 {l : Launch} {s0 : State} {d : Nat} (hall : ∀ mi ∈ am_idx, am_CC l s0 d mi) : ∀ (as : List Value) (w : am_W) (Q : am_Q), am_T am_tabs am_ar d 70 as w Q → am_Con l s0 am_ex am_cl y_70 [Cond.code y_70 prog_2_method_2_code 2 (some .int)] (am_rm d 0 0) 0 0 as w Q := hall 70 (by decide)
theorem nm_70 : am_nm y_70 1 := by decide +kernel
theorem hcal_71 {l : Launch} {s0 : State} {d : Nat} (hall : ∀ mi ∈ am_idx, am_CC l s0 d mi) : ∀ (as : List Value) (w : am_W) (Q : am_Q), am_T am_tabs am_ar d 71 as w Q → am_Con l s0 am_ex am_cl y_71 [Cond.code y_71 prog_2_method_3_code 4 (some .int)] (am_rm d 0 0) 0 0 as w Q := hall 71 (by decide)
theorem nm_71 : am_nm y_71 1 := by decide +kernel
theorem hcal_72 {l : Launch} {s0 : State} {d : Nat} (hall : ∀ mi ∈ am_idx, am_CC l s0 d mi) : ∀ (as : List Value) (w : am_W) (Q : am_Q), am_T am_tabs am_ar d 72 as w Q → am_Con l s0 am_ex am_cl y_72 [Cond.code y_72 prog_2_method_4_code 2 (some .int)] (am_rm d 0 0) 0 0 as w Q := hall 72 (by decide)
theorem nm_72 : am_nm y_72 1 := by decide +kernel
theorem hcal_73 {l : Launch} {s0 : State} {d : Nat} (hall : ∀ mi ∈ am_idx, am_CC l s0 d mi) : ∀ (as : List Value) (w : am_W) (Q : am_Q), am_T am_tabs am_ar d 73 as w Q → am_Con l s0 am_ex am_cl y_73 [Cond.code y_73 prog_2_method_5_code 2 none] (am_rm d 0 0) 0 0 as w Q := hall 73 (by decide)
theorem nm_73 : am_nm y_73 1 := by decide +kernel
theorem hcal_74 {l : Launch} {s0 : State} {d : Nat} (hall : ∀ mi ∈ am_idx, am_CC l s0 d mi) : ∀ (as : List Value) (w : am_W) (Q : am_Q), am_T am_tabs am_ar d 74 as w Q → am_Con l s0 am_ex am_cl y_74 [Cond.code y_74 prog_2_method_6_code 3 none] (am_rm d 0 0) 0 0 as w Q := hall 74 (by decide)
theorem nm_74 : am_nm y_74 1 := by decide +kernel
theorem hcal_75 {l : Launch} {s0 : State} {d : Nat} (hall : ∀ mi ∈ am_idx, am_CC l s0 d mi) : ∀ (as : List Value) (w : am_W) (Q : am_Q), am_T am_tabs am_ar d 75 as w Q → am_Con l s0 am_ex am_cl y_75 [Cond.code y_75 prog_2_method_7_code 5 none] (am_rm d 0 0) 0 0 as w Q := hall 75 (by decide)
theorem nm_75 : am_nm y_75 2 := by decide +kernel
theorem hcal_76 {l : Launch} {s0 : State} {d : Nat} (hall : ∀ mi ∈ am_idx, am_CC l s0 d mi) : ∀ (as : List Value) (w : am_W) (Q : am_Q), am_T am_tabs am_ar d 76 as w Q → am_Con l s0 am_ex am_cl y_76 [Cond.code y_76 prog_2_method_8_code 2 (some .boolean)] (am_rm d 0 0) 0 0 as w Q := hall 76 (by decide)
theorem nm_76 : am_nm y_76 1 := by decide +kernel
theorem hcal_77 {l : Launch} {s0 : State} {d : Nat} (hall : ∀ mi ∈ am_idx, am_CC l s0 d mi) : ∀ (as : List Value) (w : am_W) (Q : am_Q), am_T am_tabs am_ar d 77 as w Q → am_Con l s0 am_ex am_cl y_77 [Cond.code y_77 prog_2_method_9_code 8 none] (am_rm d 0 0) 0 0 as w Q := hall 77 (by decide)
theorem nm_77 : am_nm y_77 3 := by decide +kernel
theorem hcal_78 {l : Launch} {s0 : State} {d : Nat} (hall : ∀ mi ∈ am_idx, am_CC l s0 d mi) : ∀ (as : List Value) (w : am_W) (Q : am_Q), am_T am_tabs am_ar d 78 as w Q → am_Con l s0 am_ex am_cl y_78 [Cond.code y_78 prog_2_method_10_code 5 (some .int)] (am_rm d 0 0) 0 0 as w Q := hall 78 (by decide)
theorem nm_78 : am_nm y_78 2 := by decide +kernel
theorem hcal_79 {l : Launch} {s0 : State} {d : Nat} (hall : ∀ mi ∈ am_idx, am_CC l s0 d mi) : ∀ (as : List Value) (w : am_W) (Q : am_Q), am_T am_tabs am_ar d 79 as w Q → am_Con l s0 am_ex am_cl y_79 [Cond.code y_79 prog_3_method_1_code 2 none] (am_rm d 16 99) 16 99 as w Q := hall 79 (by decide)
theorem nm_79 : am_nm y_79 0 := by decide +kernel
theorem hcal_80 {l : Launch} {s0 : State} {d : Nat} (hall : ∀ mi ∈ am_idx, am_CC l s0 d mi) : ∀ (as : List Value) (w : am_W) (Q : am_Q), am_T am_tabs am_ar d 80 as w Q → am_Con l s0 am_ex am_cl y_80 [Cond.code y_80 prog_3_method_2_code 2 (some .boolean)] (am_rm d 0 0) 0 0 as w Q := hall 80 (by decide)
theorem nm_80 : am_nm y_80 1 := by decide +kernel
theorem hcal_81 {l : Launch} {s0 : State} {d : Nat} (hall : ∀ mi ∈ am_idx, am_CC l s0 d mi) : ∀ (as : List Value) (w : am_W) (Q : am_Q), am_T am_tabs am_ar d 81 as w Q → am_Con l s0 am_ex am_cl y_81 [Cond.code y_81 prog_3_method_3_code 2 (some .int)] (am_rm d 0 0) 0 0 as w Q := hall 81 (by decide)
theorem nm_81 : am_nm y_81 0 := by decide +kernel
theorem hcal_82 {l : Launch} {s0 : State} {d : Nat} (hall : ∀ mi ∈ am_idx, am_CC l s0 d mi) : ∀ (as : List Value) (w : am_W) (Q : am_Q), am_T am_tabs am_ar d 82 as w Q → am_Con l s0 am_ex am_cl y_82 [Cond.code y_82 prog_3_method_4_code 3 (some .boolean)] (am_rm d 0 0) 0 0 as w Q := hall 82 (by decide)
theorem nm_82 : am_nm y_82 2 := by decide +kernel
theorem hcal_83 {l : Launch} {s0 : State} {d : Nat} (hall : ∀ mi ∈ am_idx, am_CC l s0 d mi) : ∀ (as : List Value) (w : am_W) (Q : am_Q), am_T am_tabs am_ar d 83 as w Q → am_Con l s0 am_ex am_cl y_83 [Cond.code y_83 prog_3_method_5_code 2 (some .boolean)] (am_rm d 0 0) 0 0 as w Q := hall 83 (by decide)
theorem nm_83 : am_nm y_83 1 := by decide +kernel
theorem hcal_84 {l : Launch} {s0 : State} {d : Nat} (hall : ∀ mi ∈ am_idx, am_CC l s0 d mi) : ∀ (as : List Value) (w : am_W) (Q : am_Q), am_T am_tabs am_ar d 84 as w Q → am_Con l s0 am_ex am_cl y_84 [Cond.code y_84 prog_3_method_6_code 3 (some .int)] (am_rm d 0 0) 0 0 as w Q := hall 84 (by decide)
theorem nm_84 : am_nm y_84 2 := by decide +kernel
theorem hcal_85 {l : Launch} {s0 : State} {d : Nat} (hall : ∀ mi ∈ am_idx, am_CC l s0 d mi) : ∀ (as : List Value) (w : am_W) (Q : am_Q), am_T am_tabs am_ar d 85 as w Q → am_Con l s0 am_ex am_cl y_85 [Cond.code y_85 prog_3_method_7_code 3 (some .int)] (am_rm d 0 0) 0 0 as w Q := hall 85 (by decide)
theorem nm_85 : am_nm y_85 2 := by decide +kernel
theorem hcal_86 {l : Launch} {s0 : State} {d : Nat} (hall : ∀ mi ∈ am_idx, am_CC l s0 d mi) : ∀ (as : List Value) (w : am_W) (Q : am_Q), am_T am_tabs am_ar d 86 as w Q → am_Con l s0 am_ex am_cl y_86 [Cond.code y_86 prog_3_method_8_code 4 (some .int)] (am_rm d 0 0) 0 0 as w Q := hall 86 (by decide)
theorem nm_86 : am_nm y_86 1 := by decide +kernel
theorem hcal_87 {l : Launch} {s0 : State} {d : Nat} (hall : ∀ mi ∈ am_idx, am_CC l s0 d mi) : ∀ (as : List Value) (w : am_W) (Q : am_Q), am_T am_tabs am_ar d 87 as w Q → am_Con l s0 am_ex am_cl y_87 [Cond.code y_87 prog_3_method_9_code 4 (some .boolean)] (am_rm d 0 0) 0 0 as w Q := hall 87 (by decide)
theorem nm_87 : am_nm y_87 3 := by decide +kernel
theorem hcal_88 {l : Launch} {s0 : State} {d : Nat} (hall : ∀ mi ∈ am_idx, am_CC l s0 d mi) : ∀ (as : List Value) (w : am_W) (Q : am_Q), am_T am_tabs am_ar d 88 as w Q → am_Con l s0 am_ex am_cl y_88 [Cond.code y_88 prog_3_method_10_code 2 (some .boolean)] (am_rm d 0 0) 0 0 as w Q := hall 88 (by decide)
theorem nm_88 : am_nm y_88 1 := by decide +kernel
theorem hcal_89 {l : Launch} {s0 : State} {d : Nat} (hall : ∀ mi ∈ am_idx, am_CC l s0 d mi) : ∀ (as : List Value) (w : am_W) (Q : am_Q), am_T am_tabs am_ar d 89 as w Q → am_Con l s0 am_ex am_cl y_89 [Cond.code y_89 prog_3_method_11_code 3 (some .int)] (am_rm d 0 0) 0 0 as w Q := hall 89 (by decide)
theorem nm_89 : am_nm y_89 1 := by decide +kernel
theorem hcal_90 {l : Launch} {s0 : State} {d : Nat} (hall : ∀ mi ∈ am_idx, am_CC l s0 d mi) : ∀ (as : List Value) (w : am_W) (Q : am_Q), am_T am_tabs am_ar d 90 as w Q → am_Con l s0 am_ex am_cl y_90 [Cond.code y_90 prog_3_method_12_code 5 (some .int)] (am_rm d 0 0) 0 0 as w Q := hall 90 (by decide)
theorem nm_90 : am_nm y_90 1 := by decide +kernel
theorem hcal_91 {l : Launch} {s0 : State} {d : Nat} (hall : ∀ mi ∈ am_idx, am_CC l s0 d mi) : ∀ (as : List Value) (w : am_W) (Q : am_Q), am_T am_tabs am_ar d 91 as w Q → am_Con l s0 am_ex am_cl y_91 [Cond.code y_91 prog_3_method_13_code 4 (some .int)] (am_rm d 0 0) 0 0 as w Q := hall 91 (by decide)
theorem nm_91 : am_nm y_91 2 := by decide +kernel
theorem hcal_92 {l : Launch} {s0 : State} {d : Nat} (hall : ∀ mi ∈ am_idx, am_CC l s0 d mi) : ∀ (as : List Value) (w : am_W) (Q : am_Q), am_T am_tabs am_ar d 92 as w Q → am_Con l s0 am_ex am_cl y_92 [Cond.code y_92 prog_3_method_14_code 4 (some .boolean)] (am_rm d 0 0) 0 0 as w Q := hall 92 (by decide)
theorem nm_92 : am_nm y_92 2 := by decide +kernel
theorem hcal_93 {l : Launch} {s0 : State} {d : Nat} (hall : ∀ mi ∈ am_idx, am_CC l s0 d mi) : ∀ (as : List Value) (w : am_W) (Q : am_Q), am_T am_tabs am_ar d 93 as w Q → am_Con l s0 am_ex am_cl y_93 [Cond.code y_93 prog_3_method_15_code 5 (some .boolean)] (am_rm d 0 0) 0 0 as w Q := hall 93 (by decide)
theorem nm_93 : am_nm y_93 4 := by decide +kernel
theorem hcal_94 {l : Launch} {s0 : State} {d : Nat} (hall : ∀ mi ∈ am_idx, am_CC l s0 d mi) : ∀ (as : List Value) (w : am_W) (Q : am_Q), am_T am_tabs am_ar d 94 as w Q → am_Con l s0 am_ex am_cl y_94 [Cond.code y_94 prog_3_method_16_code 3 (some .int)] (am_rm d 0 0) 0 0 as w Q := hall 94 (by decide)
theorem nm_94 : am_nm y_94 1 := by decide +kernel
theorem hcal_95 {l : Launch} {s0 : State} {d : Nat} (hall : ∀ mi ∈ am_idx, am_CC l s0 d mi) : ∀ (as : List Value) (w : am_W) (Q : am_Q), am_T am_tabs am_ar d 95 as w Q → am_Con l s0 am_ex am_cl y_95 [Cond.code y_95 prog_3_method_17_code 4 (some .boolean)] (am_rm d 0 0) 0 0 as w Q := hall 95 (by decide)
theorem nm_95 : am_nm y_95 2 := by decide +kernel
theorem hcal_96 {l : Launch} {s0 : State} {d : Nat} (hall : ∀ mi ∈ am_idx, am_CC l s0 d mi) : ∀ (as : List Value) (w : am_W) (Q : am_Q), am_T am_tabs am_ar d 96 as w Q → am_Con l s0 am_ex am_cl y_96 [Cond.code y_96 prog_3_method_18_code 4 (some .boolean)] (am_rm d 0 0) 0 0 as w Q := hall 96 (by decide)
theorem nm_96 : am_nm y_96 2 := by decide +kernel
theorem hcal_97 {l : Launch} {s0 : State} {d : Nat} (hall : ∀ mi ∈ am_idx, am_CC l s0 d mi) : ∀ (as : List Value) (w : am_W) (Q : am_Q), am_T am_tabs am_ar d 97 as w Q → am_Con l s0 am_ex am_cl y_97 [Cond.codeWith y_97 method_3_code 6 (some .int) [(0, 12, 15, 13)]] (am_rm d 1 6) 1 6 as w Q := hall 97 (by decide)
theorem nm_97 : am_nm y_97 5 := by decide +kernel
theorem hcal_98 {l : Launch} {s0 : State} {d : Nat} (hall : ∀ mi ∈ am_idx, am_CC l s0 d mi) : ∀ (as : List Value) (w : am_W) (Q : am_Q), am_T am_tabs am_ar d 98 as w Q → am_Con l s0 am_ex am_cl y_98 [Cond.codeWith y_98 method_4_code 8 (some .int) [(0, 16, 19, 13), (0, 16, 23, 19)]] (am_rm d 2 12) 2 12 as w Q := hall 98 (by decide)
theorem nm_98 : am_nm y_98 7 := by decide +kernel
theorem hcal_99 {l : Launch} {s0 : State} {d : Nat} (hall : ∀ mi ∈ am_idx, am_CC l s0 d mi) : ∀ (as : List Value) (w : am_W) (Q : am_Q), am_T am_tabs am_ar d 99 as w Q → am_Con l s0 am_ex am_cl y_99 [Cond.codeWith y_99 method_5_code 4 (some .int) [(0, 9, 12, 25)]] (am_rm d 1 6) 1 6 as w Q := hall 99 (by decide)
theorem nm_99 : am_nm y_99 3 := by decide +kernel
theorem hcal_100 {l : Launch} {s0 : State} {d : Nat} (hall : ∀ mi ∈ am_idx, am_CC l s0 d mi) : ∀ (as : List Value) (w : am_W) (Q : am_Q), am_T am_tabs am_ar d 100 as w Q → am_Con l s0 am_ex am_cl y_100 [Cond.codeWith y_100 method_6_code 5 (some .int) [(0, 10, 13, 25), (0, 10, 17, 13)]] (am_rm d 2 12) 2 12 as w Q := hall 100 (by decide)
theorem nm_100 : am_nm y_100 4 := by decide +kernel
theorem hcal_101 {l : Launch} {s0 : State} {d : Nat} (hall : ∀ mi ∈ am_idx, am_CC l s0 d mi) : ∀ (as : List Value) (w : am_W) (Q : am_Q), am_T am_tabs am_ar d 101 as w Q → am_Con l s0 am_ex am_cl y_101 [Cond.codeWith y_101 method_7_code 4 (some .int) [(0, 9, 12, 13)]] (am_rm d 1 6) 1 6 as w Q := hall 101 (by decide)
theorem nm_101 : am_nm y_101 3 := by decide +kernel
theorem hcal_102 {l : Launch} {s0 : State} {d : Nat} (hall : ∀ mi ∈ am_idx, am_CC l s0 d mi) : ∀ (as : List Value) (w : am_W) (Q : am_Q), am_T am_tabs am_ar d 102 as w Q → am_Con l s0 am_ex am_cl y_102 [Cond.codeWith y_102 method_8_code 5 (some .int) [(0, 10, 13, 13), (0, 10, 17, 19)]] (am_rm d 2 12) 2 12 as w Q := hall 102 (by decide)
theorem nm_102 : am_nm y_102 4 := by decide +kernel
theorem hcal_103 {l : Launch} {s0 : State} {d : Nat} (hall : ∀ mi ∈ am_idx, am_CC l s0 d mi) : ∀ (as : List Value) (w : am_W) (Q : am_Q), am_T am_tabs am_ar d 103 as w Q → am_Con l s0 am_ex am_cl y_103 [Cond.codeWith y_103 method_9_code 4 (some .int) [(0, 6, 9, 25), (0, 6, 12, 13), (0, 6, 15, 19)]] (am_rm d 3 18) 3 18 as w Q := hall 103 (by decide)
theorem nm_103 : am_nm y_103 3 := by decide +kernel
theorem hcal_104 {l : Launch} {s0 : State} {d : Nat} (hall : ∀ mi ∈ am_idx, am_CC l s0 d mi) : ∀ (as : List Value) (w : am_W) (Q : am_Q), am_T am_tabs am_ar d 104 as w Q → am_Con l s0 am_ex am_cl y_104 [Cond.codeWith y_104 method_10_code 4 (some .int) [(0, 16, 19, 25)]] (am_rm d 1 6) 1 6 as w Q := hall 104 (by decide)
theorem nm_104 : am_nm y_104 3 := by decide +kernel
theorem hcal_105 {l : Launch} {s0 : State} {d : Nat} (hall : ∀ mi ∈ am_idx, am_CC l s0 d mi) : ∀ (as : List Value) (w : am_W) (Q : am_Q), am_T am_tabs am_ar d 105 as w Q → am_Con l s0 am_ex am_cl y_105 [Cond.codeWith y_105 method_11_code 5 (some .int) [(0, 10, 13, 25), (0, 10, 17, 13)]] (am_rm d 2 12) 2 12 as w Q := hall 105 (by decide)
theorem nm_105 : am_nm y_105 4 := by decide +kernel
theorem hcal_106 {l : Launch} {s0 : State} {d : Nat} (hall : ∀ mi ∈ am_idx, am_CC l s0 d mi) : ∀ (as : List Value) (w : am_W) (Q : am_Q), am_T am_tabs am_ar d 106 as w Q → am_Con l s0 am_ex am_cl y_106 [Cond.codeWith y_106 method_12_code 4 (some .int) [(0, 9, 12, 25), (0, 9, 15, 19)]] (am_rm d 2 12) 2 12 as w Q := hall 106 (by decide)
theorem nm_106 : am_nm y_106 3 := by decide +kernel
theorem hcal_107 {l : Launch} {s0 : State} {d : Nat} (hall : ∀ mi ∈ am_idx, am_CC l s0 d mi) : ∀ (as : List Value) (w : am_W) (Q : am_Q), am_T am_tabs am_ar d 107 as w Q → am_Con l s0 am_ex am_cl y_107 [Cond.codeWith y_107 method_13_code 4 (some .int) [(0, 9, 12, 54)]] (am_rm d 1 6) 1 6 as w Q := hall 107 (by decide)
theorem nm_107 : am_nm y_107 3 := by decide +kernel
theorem hcal_108 {l : Launch} {s0 : State} {d : Nat} (hall : ∀ mi ∈ am_idx, am_CC l s0 d mi) : ∀ (as : List Value) (w : am_W) (Q : am_Q), am_T am_tabs am_ar d 108 as w Q → am_Con l s0 am_ex am_cl y_108 [Cond.codeWith y_108 method_14_code 4 (some .int) [(0, 9, 12, 25)]] (am_rm d 1 6) 1 6 as w Q := hall 108 (by decide)
theorem nm_108 : am_nm y_108 3 := by decide +kernel
theorem hcal_109 {l : Launch} {s0 : State} {d : Nat} (hall : ∀ mi ∈ am_idx, am_CC l s0 d mi) : ∀ (as : List Value) (w : am_W) (Q : am_Q), am_T am_tabs am_ar d 109 as w Q → am_Con l s0 am_ex am_cl y_109 [Cond.codeWith y_109 method_15_code 4 (some .int) [(0, 9, 12, 25), (0, 9, 15, 19)]] (am_rm d 2 12) 2 12 as w Q := hall 109 (by decide)
theorem nm_109 : am_nm y_109 3 := by decide +kernel
theorem hcal_110 {l : Launch} {s0 : State} {d : Nat} (hall : ∀ mi ∈ am_idx, am_CC l s0 d mi) : ∀ (as : List Value) (w : am_W) (Q : am_Q), am_T am_tabs am_ar d 110 as w Q → am_Con l s0 am_ex am_cl y_110 [Cond.codeWith y_110 method_16_code 5 (some .int) [(0, 10, 13, 54), (0, 10, 17, 13)]] (am_rm d 2 12) 2 12 as w Q := hall 110 (by decide)
theorem nm_110 : am_nm y_110 4 := by decide +kernel
theorem hcal_112 {l : Launch} {s0 : State} {d : Nat} (hall : ∀ mi ∈ am_idx, am_CC l s0 d mi) : ∀ (as : List Value) (w : am_W) (Q : am_Q), am_T am_tabs am_ar d 112 as w Q → am_Con l s0 am_ex am_cl y_112 [Cond.code y_112 prog_14_method_103_code 4 none] (am_rm d 0 0) 0 0 as w Q := hall 112 (by decide)
theorem nm_112 : am_nm y_112 2 := by decide +kernel
end
section
/-! words of the tables, by their places -/
theorem tw_0 : (Jvm.Cond.initialized "RunwayDeskLaw") ∈ am_ws := am_in (List.mem_of_getElem? (i := 0) (by decide +kernel)) rfl
theorem tw_1 : (Jvm.Cond.initialized "RunwayDesk") ∈ am_ws := am_in (List.mem_of_getElem? (i := 1) (by decide +kernel)) rfl
theorem tw_2 : (Jvm.Cond.initialized "RunwayDesk$State") ∈ am_ws := am_in (List.mem_of_getElem? (i := 2) (by decide +kernel)) rfl
theorem tw_3 : (Jvm.Cond.initialized "java/util/Arrays") ∈ am_ws := am_in (List.mem_of_getElem? (i := 3) (by decide +kernel)) rfl
theorem tw_4 : (Jvm.Cond.initialized "RunwayDesk$Search") ∈ am_ws := am_in (List.mem_of_getElem? (i := 4) (by decide +kernel)) rfl
theorem tw_5 : (Jvm.Cond.initialized "RunwayDeskModel") ∈ am_ws := am_in (List.mem_of_getElem? (i := 5) (by decide +kernel)) rfl
theorem tw_9 : (Jvm.Cond.initialized "java/lang/IllegalArgumentException") ∈ am_ws := am_in (List.mem_of_getElem? (i := 9) (by decide +kernel)) rfl
theorem tw_10 : (Jvm.Cond.initialized "java/lang/IllegalStateException") ∈ am_ws := am_in (List.mem_of_getElem? (i := 10) (by decide +kernel)) rfl
theorem tw_11 : (Jvm.Cond.initialized "java/util/NoSuchElementException") ∈ am_ws := am_in (List.mem_of_getElem? (i := 11) (by decide +kernel)) rfl
theorem tw_12 : (Jvm.Cond.initialized "java/lang/Math") ∈ am_ws := am_in (List.mem_of_getElem? (i := 12) (by decide +kernel)) rfl
theorem tw_13 : (Jvm.Cond.initialized "java/lang/System") ∈ am_ws := am_in (List.mem_of_getElem? (i := 13) (by decide +kernel)) rfl
theorem tw_14 : (Jvm.Cond.initialized "java/lang/IndexOutOfBoundsException") ∈ am_ws := am_in (List.mem_of_getElem? (i := 14) (by decide +kernel)) rfl
theorem tw_15 : (Jvm.Cond.classLink "RunwayDeskLaw" (8 : Nat) "RunwayDesk") ∈ am_ws := am_in (List.mem_of_getElem? (i := 15) (by decide +kernel)) rfl
theorem tw_16 : (Jvm.Cond.instantiable "RunwayDesk" (5 : Nat)) ∈ am_ws := am_in (List.mem_of_getElem? (i := 16) (by decide +kernel)) rfl
theorem tw_17 : (Jvm.Cond.methodLink "RunwayDeskLaw" (65 : Nat) ({ cls := "RunwayDesk", name := "<init>", desc := "()V" } : Jvm.MethodName)) ∈ am_ws := am_in (List.mem_of_getElem? (i := 17) (by decide +kernel)) rfl
theorem tw_18 : (Jvm.Cond.instanceMethod ({ cls := "RunwayDesk", name := "<init>", desc := "()V" } : Jvm.MethodName)) ∈ am_ws := am_in (List.mem_of_getElem? (i := 18) (by decide +kernel)) rfl
theorem tw_19 : (Jvm.Cond.code ({ cls := "RunwayDesk", name := "<init>", desc := "()V" } : Jvm.MethodName) prog_1_method_1_code (1 : Nat) (Option.none : Option Jvm.ClassFile.FieldType)) ∈ am_ws := am_in (List.mem_of_getElem? (i := 19) (by decide +kernel)) rfl
theorem tw_20 : (Jvm.Cond.methodLink "RunwayDesk" (1 : Nat) ({ cls := "java/lang/Object", name := "<init>", desc := "()V" } : Jvm.MethodName)) ∈ am_ws := am_in (List.mem_of_getElem? (i := 20) (by decide +kernel)) rfl
theorem tw_21 : (Jvm.Cond.instanceMethod ({ cls := "java/lang/Object", name := "<init>", desc := "()V" } : Jvm.MethodName)) ∈ am_ws := am_in (List.mem_of_getElem? (i := 21) (by decide +kernel)) rfl
theorem tw_22 : (Jvm.Cond.code ({ cls := "java/lang/Object", name := "<init>", desc := "()V" } : Jvm.MethodName) object_method_1_code (1 : Nat) (Option.none : Option Jvm.ClassFile.FieldType)) ∈ am_ws := am_in (List.mem_of_getElem? (i := 22) (by decide +kernel)) rfl
theorem tw_23 : (Jvm.Cond.classLink "RunwayDesk" (7 : Nat) "RunwayDesk$State") ∈ am_ws := am_in (List.mem_of_getElem? (i := 23) (by decide +kernel)) rfl
theorem tw_24 : (Jvm.Cond.instantiable "RunwayDesk$State" (13 : Nat)) ∈ am_ws := am_in (List.mem_of_getElem? (i := 24) (by decide +kernel)) rfl
theorem tw_25 : (Jvm.Cond.methodLink "RunwayDesk" (9 : Nat) ({ cls := "RunwayDesk$State", name := "<init>", desc := "()V" } : Jvm.MethodName)) ∈ am_ws := am_in (List.mem_of_getElem? (i := 25) (by decide +kernel)) rfl
theorem tw_26 : (Jvm.Cond.instanceMethod ({ cls := "RunwayDesk$State", name := "<init>", desc := "()V" } : Jvm.MethodName)) ∈ am_ws := am_in (List.mem_of_getElem? (i := 26) (by decide +kernel)) rfl
theorem tw_27 : (Jvm.Cond.code ({ cls := "RunwayDesk$State", name := "<init>", desc := "()V" } : Jvm.MethodName) prog_3_method_1_code (2 : Nat) (Option.none : Option Jvm.ClassFile.FieldType)) ∈ am_ws := am_in (List.mem_of_getElem? (i := 27) (by decide +kernel)) rfl
theorem tw_28 : (Jvm.Cond.methodLink "RunwayDesk$State" (3 : Nat) ({ cls := "java/lang/Object", name := "<init>", desc := "()V" } : Jvm.MethodName)) ∈ am_ws := am_in (List.mem_of_getElem? (i := 28) (by decide +kernel)) rfl
theorem tw_29 : (Jvm.Cond.classLink "RunwayDesk$State" (34 : Nat) "[[I") ∈ am_ws := am_in (List.mem_of_getElem? (i := 29) (by decide +kernel)) rfl
theorem tw_30 : (Jvm.Cond.arrayOver (Jvm.ClassFile.FieldType.array Jvm.ClassFile.FieldType.int)) ∈ am_ws := am_in (List.mem_of_getElem? (i := 30) (by decide +kernel)) rfl
theorem tw_31 : (Jvm.Cond.methodLink "RunwayDesk$State" (49 : Nat) ({ cls := "java/util/Arrays", name := "fill", desc := "([II)V" } : Jvm.MethodName)) ∈ am_ws := am_in (List.mem_of_getElem? (i := 31) (by decide +kernel)) rfl
theorem tw_32 : (Jvm.Cond.static ({ cls := "java/util/Arrays", name := "fill", desc := "([II)V" } : Jvm.MethodName)) ∈ am_ws := am_in (List.mem_of_getElem? (i := 32) (by decide +kernel)) rfl
theorem tw_33 : (Jvm.Cond.code ({ cls := "java/util/Arrays", name := "fill", desc := "([II)V" } : Jvm.MethodName) prog_14_method_103_code (4 : Nat) (Option.none : Option Jvm.ClassFile.FieldType)) ∈ am_ws := am_in (List.mem_of_getElem? (i := 33) (by decide +kernel)) rfl
theorem tw_34 : (Jvm.Cond.fieldLink "RunwayDesk$State" (9 : Nat) "RunwayDesk$State" "there" "[Z") ∈ am_ws := am_in (List.mem_of_getElem? (i := 34) (by decide +kernel)) rfl
theorem tw_35 : (Jvm.Cond.fieldLink "RunwayDesk" (61 : Nat) "RunwayDesk$State" "there" "[Z") ∈ am_ws := am_in (List.mem_of_getElem? (i := 35) (by decide +kernel)) rfl
theorem tw_36 : (Jvm.Cond.fieldLink "RunwayDesk$Search" (58 : Nat) "RunwayDesk$State" "there" "[Z") ∈ am_ws := am_in (List.mem_of_getElem? (i := 36) (by decide +kernel)) rfl
theorem tw_37 : (Jvm.Cond.fieldLink "RunwayDesk$State" (15 : Nat) "RunwayDesk$State" "type" "[I") ∈ am_ws := am_in (List.mem_of_getElem? (i := 37) (by decide +kernel)) rfl
theorem tw_38 : (Jvm.Cond.fieldLink "RunwayDesk" (65 : Nat) "RunwayDesk$State" "type" "[I") ∈ am_ws := am_in (List.mem_of_getElem? (i := 38) (by decide +kernel)) rfl
theorem tw_39 : (Jvm.Cond.fieldLink "RunwayDesk$State" (19 : Nat) "RunwayDesk$State" "early" "[I") ∈ am_ws := am_in (List.mem_of_getElem? (i := 39) (by decide +kernel)) rfl
theorem tw_40 : (Jvm.Cond.fieldLink "RunwayDesk" (68 : Nat) "RunwayDesk$State" "early" "[I") ∈ am_ws := am_in (List.mem_of_getElem? (i := 40) (by decide +kernel)) rfl
theorem tw_41 : (Jvm.Cond.fieldLink "RunwayDesk$State" (22 : Nat) "RunwayDesk$State" "target" "[I") ∈ am_ws := am_in (List.mem_of_getElem? (i := 41) (by decide +kernel)) rfl
theorem tw_42 : (Jvm.Cond.fieldLink "RunwayDesk" (71 : Nat) "RunwayDesk$State" "target" "[I") ∈ am_ws := am_in (List.mem_of_getElem? (i := 42) (by decide +kernel)) rfl
theorem tw_43 : (Jvm.Cond.fieldLink "RunwayDesk$State" (25 : Nat) "RunwayDesk$State" "late" "[I") ∈ am_ws := am_in (List.mem_of_getElem? (i := 43) (by decide +kernel)) rfl
theorem tw_44 : (Jvm.Cond.fieldLink "RunwayDesk" (74 : Nat) "RunwayDesk$State" "late" "[I") ∈ am_ws := am_in (List.mem_of_getElem? (i := 44) (by decide +kernel)) rfl
theorem tw_45 : (Jvm.Cond.fieldLink "RunwayDesk$State" (28 : Nat) "RunwayDesk$State" "weight" "[I") ∈ am_ws := am_in (List.mem_of_getElem? (i := 45) (by decide +kernel)) rfl
theorem tw_46 : (Jvm.Cond.fieldLink "RunwayDesk" (77 : Nat) "RunwayDesk$State" "weight" "[I") ∈ am_ws := am_in (List.mem_of_getElem? (i := 46) (by decide +kernel)) rfl
theorem tw_47 : (Jvm.Cond.fieldLink "RunwayDesk$State" (31 : Nat) "RunwayDesk$State" "frozen" "[I") ∈ am_ws := am_in (List.mem_of_getElem? (i := 47) (by decide +kernel)) rfl
theorem tw_48 : (Jvm.Cond.fieldLink "RunwayDesk" (80 : Nat) "RunwayDesk$State" "frozen" "[I") ∈ am_ws := am_in (List.mem_of_getElem? (i := 48) (by decide +kernel)) rfl
theorem tw_49 : (Jvm.Cond.fieldLink "RunwayDesk$Search" (43 : Nat) "RunwayDesk$State" "count" "I") ∈ am_ws := am_in (List.mem_of_getElem? (i := 49) (by decide +kernel)) rfl
theorem tw_50 : (Jvm.Cond.fieldLink "RunwayDesk" (83 : Nat) "RunwayDesk$State" "count" "I") ∈ am_ws := am_in (List.mem_of_getElem? (i := 50) (by decide +kernel)) rfl
theorem tw_51 : (Jvm.Cond.fieldLink "RunwayDesk$State" (36 : Nat) "RunwayDesk$State" "gaps" "[[I") ∈ am_ws := am_in (List.mem_of_getElem? (i := 51) (by decide +kernel)) rfl
theorem tw_52 : (Jvm.Cond.fieldLink "RunwayDesk" (50 : Nat) "RunwayDesk$State" "gaps" "[[I") ∈ am_ws := am_in (List.mem_of_getElem? (i := 52) (by decide +kernel)) rfl
theorem tw_53 : (Jvm.Cond.fieldLink "RunwayDesk$State" (39 : Nat) "RunwayDesk$State" "closedFrom" "[I") ∈ am_ws := am_in (List.mem_of_getElem? (i := 53) (by decide +kernel)) rfl
theorem tw_54 : (Jvm.Cond.fieldLink "RunwayDesk" (101 : Nat) "RunwayDesk$State" "closedFrom" "[I") ∈ am_ws := am_in (List.mem_of_getElem? (i := 54) (by decide +kernel)) rfl
theorem tw_55 : (Jvm.Cond.fieldLink "RunwayDesk$State" (42 : Nat) "RunwayDesk$State" "closedTo" "[I") ∈ am_ws := am_in (List.mem_of_getElem? (i := 55) (by decide +kernel)) rfl
theorem tw_56 : (Jvm.Cond.fieldLink "RunwayDesk" (104 : Nat) "RunwayDesk$State" "closedTo" "[I") ∈ am_ws := am_in (List.mem_of_getElem? (i := 56) (by decide +kernel)) rfl
theorem tw_57 : (Jvm.Cond.fieldLink "RunwayDesk" (98 : Nat) "RunwayDesk$State" "closures" "I") ∈ am_ws := am_in (List.mem_of_getElem? (i := 57) (by decide +kernel)) rfl
theorem tw_58 : (Jvm.Cond.fieldLink "RunwayDesk$State" (80 : Nat) "RunwayDesk$State" "closures" "I") ∈ am_ws := am_in (List.mem_of_getElem? (i := 58) (by decide +kernel)) rfl
theorem tw_59 : (Jvm.Cond.fieldLink "RunwayDesk$State" (45 : Nat) "RunwayDesk$State" "mostPlaces" "I") ∈ am_ws := am_in (List.mem_of_getElem? (i := 59) (by decide +kernel)) rfl
theorem tw_60 : (Jvm.Cond.fieldLink "RunwayDesk" (95 : Nat) "RunwayDesk$State" "mostPlaces" "I") ∈ am_ws := am_in (List.mem_of_getElem? (i := 60) (by decide +kernel)) rfl
theorem tw_88 : (Jvm.Cond.arrayClass Jvm.ClassFile.FieldType.boolean) ∈ am_ws := am_in (List.mem_of_getElem? (i := 88) (by decide +kernel)) rfl
theorem tw_89 : (Jvm.Cond.arrayClass Jvm.ClassFile.FieldType.int) ∈ am_ws := am_in (List.mem_of_getElem? (i := 89) (by decide +kernel)) rfl
theorem tw_90 : (Jvm.Cond.classLink "RunwayDesk" (16 : Nat) "RunwayDesk$Search") ∈ am_ws := am_in (List.mem_of_getElem? (i := 90) (by decide +kernel)) rfl
theorem tw_91 : (Jvm.Cond.instantiable "RunwayDesk$Search" (5 : Nat)) ∈ am_ws := am_in (List.mem_of_getElem? (i := 91) (by decide +kernel)) rfl
theorem tw_92 : (Jvm.Cond.methodLink "RunwayDesk" (18 : Nat) ({ cls := "RunwayDesk$Search", name := "<init>", desc := "()V" } : Jvm.MethodName)) ∈ am_ws := am_in (List.mem_of_getElem? (i := 92) (by decide +kernel)) rfl
theorem tw_93 : (Jvm.Cond.instanceMethod ({ cls := "RunwayDesk$Search", name := "<init>", desc := "()V" } : Jvm.MethodName)) ∈ am_ws := am_in (List.mem_of_getElem? (i := 93) (by decide +kernel)) rfl
theorem tw_94 : (Jvm.Cond.code ({ cls := "RunwayDesk$Search", name := "<init>", desc := "()V" } : Jvm.MethodName) prog_2_method_1_code (1 : Nat) (Option.none : Option Jvm.ClassFile.FieldType)) ∈ am_ws := am_in (List.mem_of_getElem? (i := 94) (by decide +kernel)) rfl
theorem tw_95 : (Jvm.Cond.methodLink "RunwayDesk$Search" (3 : Nat) ({ cls := "java/lang/Object", name := "<init>", desc := "()V" } : Jvm.MethodName)) ∈ am_ws := am_in (List.mem_of_getElem? (i := 95) (by decide +kernel)) rfl
theorem tw_96 : (Jvm.Cond.classLink "RunwayDesk$Search" (9 : Nat) "[[I") ∈ am_ws := am_in (List.mem_of_getElem? (i := 96) (by decide +kernel)) rfl
theorem tw_97 : (Jvm.Cond.fieldLink "RunwayDesk$Search" (11 : Nat) "RunwayDesk$Search" "rows" "[[I") ∈ am_ws := am_in (List.mem_of_getElem? (i := 97) (by decide +kernel)) rfl
theorem tw_98 : (Jvm.Cond.fieldLink "RunwayDesk$Search" (16 : Nat) "RunwayDesk$Search" "line" "[I") ∈ am_ws := am_in (List.mem_of_getElem? (i := 98) (by decide +kernel)) rfl
theorem tw_99 : (Jvm.Cond.fieldLink "RunwayDesk$Search" (20 : Nat) "RunwayDesk$Search" "standing" "[Z") ∈ am_ws := am_in (List.mem_of_getElem? (i := 99) (by decide +kernel)) rfl
theorem tw_100 : (Jvm.Cond.fieldLink "RunwayDesk$Search" (24 : Nat) "RunwayDesk$Search" "best" "[I") ∈ am_ws := am_in (List.mem_of_getElem? (i := 100) (by decide +kernel)) rfl
theorem tw_101 : (Jvm.Cond.fieldLink "RunwayDesk$Search" (39 : Nat) "RunwayDesk$Search" "least" "I") ∈ am_ws := am_in (List.mem_of_getElem? (i := 101) (by decide +kernel)) rfl
theorem tw_113 : (Jvm.Cond.methodLink "RunwayDesk" (33 : Nat) ({ cls := "java/util/Arrays", name := "fill", desc := "([II)V" } : Jvm.MethodName)) ∈ am_ws := am_in (List.mem_of_getElem? (i := 113) (by decide +kernel)) rfl
theorem tw_114 : (Jvm.Cond.fieldLink "RunwayDesk" (10 : Nat) "RunwayDesk" "state" "LRunwayDesk$State;") ∈ am_ws := am_in (List.mem_of_getElem? (i := 114) (by decide +kernel)) rfl
theorem tw_115 : (Jvm.Cond.fieldLink "RunwayDesk" (19 : Nat) "RunwayDesk" "search" "LRunwayDesk$Search;") ∈ am_ws := am_in (List.mem_of_getElem? (i := 115) (by decide +kernel)) rfl
theorem tw_116 : (Jvm.Cond.fieldLink "RunwayDesk" (23 : Nat) "RunwayDesk" "result" "[I") ∈ am_ws := am_in (List.mem_of_getElem? (i := 116) (by decide +kernel)) rfl
theorem tw_117 : (Jvm.Cond.fieldLink "RunwayDesk" (27 : Nat) "RunwayDesk" "accepted" "[I") ∈ am_ws := am_in (List.mem_of_getElem? (i := 117) (by decide +kernel)) rfl
theorem tw_118 : (Jvm.Cond.fieldLink "RunwayDesk" (30 : Nat) "RunwayDesk" "trial" "[I") ∈ am_ws := am_in (List.mem_of_getElem? (i := 118) (by decide +kernel)) rfl
theorem tw_130 : (Jvm.Cond.methodLink "RunwayDeskLaw" (97 : Nat) ({ cls := "RunwayDesk", name := "reopen", desc := "()I" } : Jvm.MethodName)) ∈ am_ws := am_in (List.mem_of_getElem? (i := 130) (by decide +kernel)) rfl
theorem tw_131 : (Jvm.Cond.instanceMethod ({ cls := "RunwayDesk", name := "reopen", desc := "()I" } : Jvm.MethodName)) ∈ am_ws := am_in (List.mem_of_getElem? (i := 131) (by decide +kernel)) rfl
theorem tw_132 : (Jvm.Cond.selects "RunwayDesk" ({ cls := "RunwayDesk", name := "reopen", desc := "()I" } : Jvm.MethodName) ({ cls := "RunwayDesk", name := "reopen", desc := "()I" } : Jvm.MethodName)) ∈ am_ws := am_in (List.mem_of_getElem? (i := 132) (by decide +kernel)) rfl
theorem tw_133 : (Jvm.Cond.code ({ cls := "RunwayDesk", name := "reopen", desc := "()I" } : Jvm.MethodName) prog_1_method_8_code (2 : Nat) (Option.some Jvm.ClassFile.FieldType.int)) ∈ am_ws := am_in (List.mem_of_getElem? (i := 133) (by decide +kernel)) rfl
theorem tw_134 : (Jvm.Cond.methodLink "RunwayDeskLaw" (108 : Nat) ({ cls := "RunwayDesk", name := "solve", desc := "()I" } : Jvm.MethodName)) ∈ am_ws := am_in (List.mem_of_getElem? (i := 134) (by decide +kernel)) rfl
theorem tw_135 : (Jvm.Cond.instanceMethod ({ cls := "RunwayDesk", name := "solve", desc := "()I" } : Jvm.MethodName)) ∈ am_ws := am_in (List.mem_of_getElem? (i := 135) (by decide +kernel)) rfl
theorem tw_136 : (Jvm.Cond.selects "RunwayDesk" ({ cls := "RunwayDesk", name := "solve", desc := "()I" } : Jvm.MethodName) ({ cls := "RunwayDesk", name := "solve", desc := "()I" } : Jvm.MethodName)) ∈ am_ws := am_in (List.mem_of_getElem? (i := 136) (by decide +kernel)) rfl
theorem tw_137 : (Jvm.Cond.code ({ cls := "RunwayDesk", name := "solve", desc := "()I" } : Jvm.MethodName) prog_1_method_11_code (2 : Nat) (Option.some Jvm.ClassFile.FieldType.int)) ∈ am_ws := am_in (List.mem_of_getElem? (i := 137) (by decide +kernel)) rfl
theorem tw_138 : (Jvm.Cond.methodLink "RunwayDesk" (117 : Nat) ({ cls := "RunwayDesk$Search", name := "leastDelay", desc := "(LRunwayDesk$State;)I" } : Jvm.MethodName)) ∈ am_ws := am_in (List.mem_of_getElem? (i := 138) (by decide +kernel)) rfl
theorem tw_139 : (Jvm.Cond.instanceMethod ({ cls := "RunwayDesk$Search", name := "leastDelay", desc := "(LRunwayDesk$State;)I" } : Jvm.MethodName)) ∈ am_ws := am_in (List.mem_of_getElem? (i := 139) (by decide +kernel)) rfl
theorem tw_140 : (Jvm.Cond.selects "RunwayDesk$Search" ({ cls := "RunwayDesk$Search", name := "leastDelay", desc := "(LRunwayDesk$State;)I" } : Jvm.MethodName) ({ cls := "RunwayDesk$Search", name := "leastDelay", desc := "(LRunwayDesk$State;)I" } : Jvm.MethodName)) ∈ am_ws := am_in (List.mem_of_getElem? (i := 140) (by decide +kernel)) rfl
theorem tw_141 : (Jvm.Cond.code ({ cls := "RunwayDesk$Search", name := "leastDelay", desc := "(LRunwayDesk$State;)I" } : Jvm.MethodName) prog_2_method_2_code (2 : Nat) (Option.some Jvm.ClassFile.FieldType.int)) ∈ am_ws := am_in (List.mem_of_getElem? (i := 141) (by decide +kernel)) rfl
theorem tw_142 : (Jvm.Cond.methodLink "RunwayDesk$Search" (27 : Nat) ({ cls := "RunwayDesk$Search", name := "begin", desc := "(LRunwayDesk$State;)V" } : Jvm.MethodName)) ∈ am_ws := am_in (List.mem_of_getElem? (i := 142) (by decide +kernel)) rfl
theorem tw_144 : (Jvm.Cond.instanceMethod ({ cls := "RunwayDesk$Search", name := "begin", desc := "(LRunwayDesk$State;)V" } : Jvm.MethodName)) ∈ am_ws := am_in (List.mem_of_getElem? (i := 144) (by decide +kernel)) rfl
theorem tw_145 : (Jvm.Cond.code ({ cls := "RunwayDesk$Search", name := "begin", desc := "(LRunwayDesk$State;)V" } : Jvm.MethodName) prog_2_method_6_code (3 : Nat) (Option.none : Option Jvm.ClassFile.FieldType)) ∈ am_ws := am_in (List.mem_of_getElem? (i := 145) (by decide +kernel)) rfl
theorem tw_146 : (Jvm.Cond.methodLink "RunwayDesk$Search" (61 : Nat) ({ cls := "RunwayDesk$State", name := "firstComePlace", desc := "(I)I" } : Jvm.MethodName)) ∈ am_ws := am_in (List.mem_of_getElem? (i := 146) (by decide +kernel)) rfl
theorem tw_147 : (Jvm.Cond.instanceMethod ({ cls := "RunwayDesk$State", name := "firstComePlace", desc := "(I)I" } : Jvm.MethodName)) ∈ am_ws := am_in (List.mem_of_getElem? (i := 147) (by decide +kernel)) rfl
theorem tw_148 : (Jvm.Cond.selects "RunwayDesk$State" ({ cls := "RunwayDesk$State", name := "firstComePlace", desc := "(I)I" } : Jvm.MethodName) ({ cls := "RunwayDesk$State", name := "firstComePlace", desc := "(I)I" } : Jvm.MethodName)) ∈ am_ws := am_in (List.mem_of_getElem? (i := 148) (by decide +kernel)) rfl
theorem tw_149 : (Jvm.Cond.code ({ cls := "RunwayDesk$State", name := "firstComePlace", desc := "(I)I" } : Jvm.MethodName) prog_3_method_8_code (4 : Nat) (Option.some Jvm.ClassFile.FieldType.int)) ∈ am_ws := am_in (List.mem_of_getElem? (i := 149) (by decide +kernel)) rfl
theorem tw_150 : (Jvm.Cond.methodLinkNest "RunwayDesk$State" (65 : Nat) ({ cls := "RunwayDesk", name := "isBefore", desc := "([III)Z" } : Jvm.MethodName) "RunwayDesk") ∈ am_ws := am_in (List.mem_of_getElem? (i := 150) (by decide +kernel)) rfl
theorem tw_151 : (Jvm.Cond.static ({ cls := "RunwayDesk", name := "isBefore", desc := "([III)Z" } : Jvm.MethodName)) ∈ am_ws := am_in (List.mem_of_getElem? (i := 151) (by decide +kernel)) rfl
theorem tw_152 : (Jvm.Cond.code ({ cls := "RunwayDesk", name := "isBefore", desc := "([III)Z" } : Jvm.MethodName) prog_1_method_30_code (3 : Nat) (Option.some Jvm.ClassFile.FieldType.boolean)) ∈ am_ws := am_in (List.mem_of_getElem? (i := 152) (by decide +kernel)) rfl
theorem tw_153 : (Jvm.Cond.methodLink "RunwayDesk$Search" (65 : Nat) ({ cls := "RunwayDesk$State", name := "firstSecond", desc := "(II)I" } : Jvm.MethodName)) ∈ am_ws := am_in (List.mem_of_getElem? (i := 153) (by decide +kernel)) rfl
theorem tw_154 : (Jvm.Cond.instanceMethod ({ cls := "RunwayDesk$State", name := "firstSecond", desc := "(II)I" } : Jvm.MethodName)) ∈ am_ws := am_in (List.mem_of_getElem? (i := 154) (by decide +kernel)) rfl
theorem tw_155 : (Jvm.Cond.selects "RunwayDesk$State" ({ cls := "RunwayDesk$State", name := "firstSecond", desc := "(II)I" } : Jvm.MethodName) ({ cls := "RunwayDesk$State", name := "firstSecond", desc := "(II)I" } : Jvm.MethodName)) ∈ am_ws := am_in (List.mem_of_getElem? (i := 155) (by decide +kernel)) rfl
theorem tw_156 : (Jvm.Cond.code ({ cls := "RunwayDesk$State", name := "firstSecond", desc := "(II)I" } : Jvm.MethodName) prog_3_method_13_code (4 : Nat) (Option.some Jvm.ClassFile.FieldType.int)) ∈ am_ws := am_in (List.mem_of_getElem? (i := 156) (by decide +kernel)) rfl
theorem tw_157 : (Jvm.Cond.methodLink "RunwayDesk$State" (69 : Nat) ({ cls := "RunwayDesk$State", name := "isFrozen", desc := "(I)Z" } : Jvm.MethodName)) ∈ am_ws := am_in (List.mem_of_getElem? (i := 157) (by decide +kernel)) rfl
theorem tw_158 : (Jvm.Cond.instanceMethod ({ cls := "RunwayDesk$State", name := "isFrozen", desc := "(I)Z" } : Jvm.MethodName)) ∈ am_ws := am_in (List.mem_of_getElem? (i := 158) (by decide +kernel)) rfl
theorem tw_159 : (Jvm.Cond.selects "RunwayDesk$State" ({ cls := "RunwayDesk$State", name := "isFrozen", desc := "(I)Z" } : Jvm.MethodName) ({ cls := "RunwayDesk$State", name := "isFrozen", desc := "(I)Z" } : Jvm.MethodName)) ∈ am_ws := am_in (List.mem_of_getElem? (i := 159) (by decide +kernel)) rfl
theorem tw_160 : (Jvm.Cond.code ({ cls := "RunwayDesk$State", name := "isFrozen", desc := "(I)Z" } : Jvm.MethodName) prog_3_method_5_code (2 : Nat) (Option.some Jvm.ClassFile.FieldType.boolean)) ∈ am_ws := am_in (List.mem_of_getElem? (i := 160) (by decide +kernel)) rfl
theorem tw_161 : (Jvm.Cond.methodLink "RunwayDesk$State" (83 : Nat) ({ cls := "RunwayDesk$State", name := "isClosed", desc := "(I)Z" } : Jvm.MethodName)) ∈ am_ws := am_in (List.mem_of_getElem? (i := 161) (by decide +kernel)) rfl
theorem tw_162 : (Jvm.Cond.instanceMethod ({ cls := "RunwayDesk$State", name := "isClosed", desc := "(I)Z" } : Jvm.MethodName)) ∈ am_ws := am_in (List.mem_of_getElem? (i := 162) (by decide +kernel)) rfl
theorem tw_163 : (Jvm.Cond.selects "RunwayDesk$State" ({ cls := "RunwayDesk$State", name := "isClosed", desc := "(I)Z" } : Jvm.MethodName) ({ cls := "RunwayDesk$State", name := "isClosed", desc := "(I)Z" } : Jvm.MethodName)) ∈ am_ws := am_in (List.mem_of_getElem? (i := 163) (by decide +kernel)) rfl
theorem tw_164 : (Jvm.Cond.code ({ cls := "RunwayDesk$State", name := "isClosed", desc := "(I)Z" } : Jvm.MethodName) prog_3_method_10_code (2 : Nat) (Option.some Jvm.ClassFile.FieldType.boolean)) ∈ am_ws := am_in (List.mem_of_getElem? (i := 164) (by decide +kernel)) rfl
theorem tw_165 : (Jvm.Cond.methodLink "RunwayDesk$State" (77 : Nat) ({ cls := "RunwayDesk$State", name := "closureAt", desc := "(I)I" } : Jvm.MethodName)) ∈ am_ws := am_in (List.mem_of_getElem? (i := 165) (by decide +kernel)) rfl
theorem tw_167 : (Jvm.Cond.instanceMethod ({ cls := "RunwayDesk$State", name := "closureAt", desc := "(I)I" } : Jvm.MethodName)) ∈ am_ws := am_in (List.mem_of_getElem? (i := 167) (by decide +kernel)) rfl
theorem tw_168 : (Jvm.Cond.code ({ cls := "RunwayDesk$State", name := "closureAt", desc := "(I)I" } : Jvm.MethodName) prog_3_method_11_code (3 : Nat) (Option.some Jvm.ClassFile.FieldType.int)) ∈ am_ws := am_in (List.mem_of_getElem? (i := 168) (by decide +kernel)) rfl
theorem tw_169 : (Jvm.Cond.methodLink "RunwayDesk$State" (59 : Nat) ({ cls := "java/lang/Math", name := "max", desc := "(II)I" } : Jvm.MethodName)) ∈ am_ws := am_in (List.mem_of_getElem? (i := 169) (by decide +kernel)) rfl
theorem tw_170 : (Jvm.Cond.static ({ cls := "java/lang/Math", name := "max", desc := "(II)I" } : Jvm.MethodName)) ∈ am_ws := am_in (List.mem_of_getElem? (i := 170) (by decide +kernel)) rfl
theorem tw_171 : (Jvm.Cond.code ({ cls := "java/lang/Math", name := "max", desc := "(II)I" } : Jvm.MethodName) prog_10_method_65_code (2 : Nat) (Option.some Jvm.ClassFile.FieldType.int)) ∈ am_ws := am_in (List.mem_of_getElem? (i := 171) (by decide +kernel)) rfl
theorem tw_172 : (Jvm.Cond.methodLink "RunwayDesk$State" (86 : Nat) ({ cls := "RunwayDesk$State", name := "firstOpen", desc := "(I)I" } : Jvm.MethodName)) ∈ am_ws := am_in (List.mem_of_getElem? (i := 172) (by decide +kernel)) rfl
theorem tw_174 : (Jvm.Cond.instanceMethod ({ cls := "RunwayDesk$State", name := "firstOpen", desc := "(I)I" } : Jvm.MethodName)) ∈ am_ws := am_in (List.mem_of_getElem? (i := 174) (by decide +kernel)) rfl
theorem tw_175 : (Jvm.Cond.code ({ cls := "RunwayDesk$State", name := "firstOpen", desc := "(I)I" } : Jvm.MethodName) prog_3_method_12_code (5 : Nat) (Option.some Jvm.ClassFile.FieldType.int)) ∈ am_ws := am_in (List.mem_of_getElem? (i := 175) (by decide +kernel)) rfl
theorem tw_176 : (Jvm.Cond.methodLink "RunwayDesk$Search" (31 : Nat) ({ cls := "RunwayDesk$Search", name := "rowDelay", desc := "(LRunwayDesk$State;I)I" } : Jvm.MethodName)) ∈ am_ws := am_in (List.mem_of_getElem? (i := 176) (by decide +kernel)) rfl
theorem tw_178 : (Jvm.Cond.instanceMethod ({ cls := "RunwayDesk$Search", name := "rowDelay", desc := "(LRunwayDesk$State;I)I" } : Jvm.MethodName)) ∈ am_ws := am_in (List.mem_of_getElem? (i := 178) (by decide +kernel)) rfl
theorem tw_179 : (Jvm.Cond.code ({ cls := "RunwayDesk$Search", name := "rowDelay", desc := "(LRunwayDesk$State;I)I" } : Jvm.MethodName) prog_2_method_10_code (5 : Nat) (Option.some Jvm.ClassFile.FieldType.int)) ∈ am_ws := am_in (List.mem_of_getElem? (i := 179) (by decide +kernel)) rfl
theorem tw_180 : (Jvm.Cond.methodLink "RunwayDesk$Search" (85 : Nat) ({ cls := "RunwayDesk$State", name := "delayAt", desc := "(II)I" } : Jvm.MethodName)) ∈ am_ws := am_in (List.mem_of_getElem? (i := 180) (by decide +kernel)) rfl
theorem tw_181 : (Jvm.Cond.instanceMethod ({ cls := "RunwayDesk$State", name := "delayAt", desc := "(II)I" } : Jvm.MethodName)) ∈ am_ws := am_in (List.mem_of_getElem? (i := 181) (by decide +kernel)) rfl
theorem tw_182 : (Jvm.Cond.selects "RunwayDesk$State" ({ cls := "RunwayDesk$State", name := "delayAt", desc := "(II)I" } : Jvm.MethodName) ({ cls := "RunwayDesk$State", name := "delayAt", desc := "(II)I" } : Jvm.MethodName)) ∈ am_ws := am_in (List.mem_of_getElem? (i := 182) (by decide +kernel)) rfl
theorem tw_183 : (Jvm.Cond.code ({ cls := "RunwayDesk$State", name := "delayAt", desc := "(II)I" } : Jvm.MethodName) prog_3_method_7_code (3 : Nat) (Option.some Jvm.ClassFile.FieldType.int)) ∈ am_ws := am_in (List.mem_of_getElem? (i := 183) (by decide +kernel)) rfl
theorem tw_184 : (Jvm.Cond.methodLink "RunwayDesk$Search" (35 : Nat) ({ cls := "RunwayDesk$Search", name := "tryPlace", desc := "(LRunwayDesk$State;I)V" } : Jvm.MethodName)) ∈ am_ws := am_in (List.mem_of_getElem? (i := 184) (by decide +kernel)) rfl
theorem tw_186 : (Jvm.Cond.instanceMethod ({ cls := "RunwayDesk$Search", name := "tryPlace", desc := "(LRunwayDesk$State;I)V" } : Jvm.MethodName)) ∈ am_ws := am_in (List.mem_of_getElem? (i := 186) (by decide +kernel)) rfl
theorem tw_187 : (Jvm.Cond.code ({ cls := "RunwayDesk$Search", name := "tryPlace", desc := "(LRunwayDesk$State;I)V" } : Jvm.MethodName) prog_2_method_7_code (5 : Nat) (Option.none : Option Jvm.ClassFile.FieldType)) ∈ am_ws := am_in (List.mem_of_getElem? (i := 187) (by decide +kernel)) rfl
theorem tw_188 : (Jvm.Cond.methodLink "RunwayDesk$Search" (52 : Nat) ({ cls := "java/lang/System", name := "arraycopy", desc := "(Ljava/lang/Object;ILjava/lang/Object;II)V" } : Jvm.MethodName)) ∈ am_ws := am_in (List.mem_of_getElem? (i := 188) (by decide +kernel)) rfl
theorem tw_189 : (Jvm.Cond.static ({ cls := "java/lang/System", name := "arraycopy", desc := "(Ljava/lang/Object;ILjava/lang/Object;II)V" } : Jvm.MethodName)) ∈ am_ws := am_in (List.mem_of_getElem? (i := 189) (by decide +kernel)) rfl
theorem tw_190 : (Jvm.Cond.native ({ cls := "java/lang/System", name := "arraycopy", desc := "(Ljava/lang/Object;ILjava/lang/Object;II)V" } : Jvm.MethodName)) ∈ am_ws := am_in (List.mem_of_getElem? (i := 190) (by decide +kernel)) rfl
theorem tw_191 : (Jvm.Cond.methodLink "RunwayDesk$Search" (69 : Nat) ({ cls := "RunwayDesk$State", name := "mayStandAt", desc := "(III)Z" } : Jvm.MethodName)) ∈ am_ws := am_in (List.mem_of_getElem? (i := 191) (by decide +kernel)) rfl
theorem tw_192 : (Jvm.Cond.instanceMethod ({ cls := "RunwayDesk$State", name := "mayStandAt", desc := "(III)Z" } : Jvm.MethodName)) ∈ am_ws := am_in (List.mem_of_getElem? (i := 192) (by decide +kernel)) rfl
theorem tw_193 : (Jvm.Cond.selects "RunwayDesk$State" ({ cls := "RunwayDesk$State", name := "mayStandAt", desc := "(III)Z" } : Jvm.MethodName) ({ cls := "RunwayDesk$State", name := "mayStandAt", desc := "(III)Z" } : Jvm.MethodName)) ∈ am_ws := am_in (List.mem_of_getElem? (i := 193) (by decide +kernel)) rfl
theorem tw_194 : (Jvm.Cond.code ({ cls := "RunwayDesk$State", name := "mayStandAt", desc := "(III)Z" } : Jvm.MethodName) prog_3_method_9_code (4 : Nat) (Option.some Jvm.ClassFile.FieldType.boolean)) ∈ am_ws := am_in (List.mem_of_getElem? (i := 194) (by decide +kernel)) rfl
theorem tw_195 : (Jvm.Cond.methodLink "RunwayDesk$State" (73 : Nat) ({ cls := "java/lang/Math", name := "abs", desc := "(I)I" } : Jvm.MethodName)) ∈ am_ws := am_in (List.mem_of_getElem? (i := 195) (by decide +kernel)) rfl
theorem tw_196 : (Jvm.Cond.static ({ cls := "java/lang/Math", name := "abs", desc := "(I)I" } : Jvm.MethodName)) ∈ am_ws := am_in (List.mem_of_getElem? (i := 196) (by decide +kernel)) rfl
theorem tw_197 : (Jvm.Cond.code ({ cls := "java/lang/Math", name := "abs", desc := "(I)I" } : Jvm.MethodName) prog_10_method_59_code (1 : Nat) (Option.some Jvm.ClassFile.FieldType.int)) ∈ am_ws := am_in (List.mem_of_getElem? (i := 197) (by decide +kernel)) rfl
theorem tw_198 : (Jvm.Cond.methodLink "RunwayDesk$Search" (48 : Nat) ({ cls := "RunwayDesk$Search", name := "putAt", desc := "(LRunwayDesk$State;II)V" } : Jvm.MethodName)) ∈ am_ws := am_in (List.mem_of_getElem? (i := 198) (by decide +kernel)) rfl
theorem tw_200 : (Jvm.Cond.instanceMethod ({ cls := "RunwayDesk$Search", name := "putAt", desc := "(LRunwayDesk$State;II)V" } : Jvm.MethodName)) ∈ am_ws := am_in (List.mem_of_getElem? (i := 200) (by decide +kernel)) rfl
theorem tw_201 : (Jvm.Cond.code ({ cls := "RunwayDesk$Search", name := "putAt", desc := "(LRunwayDesk$State;II)V" } : Jvm.MethodName) prog_2_method_9_code (8 : Nat) (Option.none : Option Jvm.ClassFile.FieldType)) ∈ am_ws := am_in (List.mem_of_getElem? (i := 201) (by decide +kernel)) rfl
theorem tw_202 : (Jvm.Cond.methodLink "RunwayDesk$Search" (77 : Nat) ({ cls := "RunwayDesk$State", name := "gapBehind", desc := "(II)I" } : Jvm.MethodName)) ∈ am_ws := am_in (List.mem_of_getElem? (i := 202) (by decide +kernel)) rfl
theorem tw_203 : (Jvm.Cond.instanceMethod ({ cls := "RunwayDesk$State", name := "gapBehind", desc := "(II)I" } : Jvm.MethodName)) ∈ am_ws := am_in (List.mem_of_getElem? (i := 203) (by decide +kernel)) rfl
theorem tw_204 : (Jvm.Cond.selects "RunwayDesk$State" ({ cls := "RunwayDesk$State", name := "gapBehind", desc := "(II)I" } : Jvm.MethodName) ({ cls := "RunwayDesk$State", name := "gapBehind", desc := "(II)I" } : Jvm.MethodName)) ∈ am_ws := am_in (List.mem_of_getElem? (i := 204) (by decide +kernel)) rfl
theorem tw_205 : (Jvm.Cond.code ({ cls := "RunwayDesk$State", name := "gapBehind", desc := "(II)I" } : Jvm.MethodName) prog_3_method_6_code (3 : Nat) (Option.some Jvm.ClassFile.FieldType.int)) ∈ am_ws := am_in (List.mem_of_getElem? (i := 205) (by decide +kernel)) rfl
theorem tw_206 : (Jvm.Cond.methodLink "RunwayDesk$Search" (80 : Nat) ({ cls := "java/lang/Math", name := "max", desc := "(II)I" } : Jvm.MethodName)) ∈ am_ws := am_in (List.mem_of_getElem? (i := 206) (by decide +kernel)) rfl
theorem tw_207 : (Jvm.Cond.methodLink "RunwayDesk$Search" (73 : Nat) ({ cls := "RunwayDesk$Search", name := "isWorthwhile", desc := "(I)Z" } : Jvm.MethodName)) ∈ am_ws := am_in (List.mem_of_getElem? (i := 207) (by decide +kernel)) rfl
theorem tw_209 : (Jvm.Cond.instanceMethod ({ cls := "RunwayDesk$Search", name := "isWorthwhile", desc := "(I)Z" } : Jvm.MethodName)) ∈ am_ws := am_in (List.mem_of_getElem? (i := 209) (by decide +kernel)) rfl
theorem tw_210 : (Jvm.Cond.code ({ cls := "RunwayDesk$Search", name := "isWorthwhile", desc := "(I)Z" } : Jvm.MethodName) prog_2_method_8_code (2 : Nat) (Option.some Jvm.ClassFile.FieldType.boolean)) ∈ am_ws := am_in (List.mem_of_getElem? (i := 210) (by decide +kernel)) rfl
theorem tw_211 : (Jvm.Cond.methodLink "RunwayDesk" (121 : Nat) ({ cls := "RunwayDesk$Search", name := "copyBest", desc := "([I)V" } : Jvm.MethodName)) ∈ am_ws := am_in (List.mem_of_getElem? (i := 211) (by decide +kernel)) rfl
theorem tw_212 : (Jvm.Cond.instanceMethod ({ cls := "RunwayDesk$Search", name := "copyBest", desc := "([I)V" } : Jvm.MethodName)) ∈ am_ws := am_in (List.mem_of_getElem? (i := 212) (by decide +kernel)) rfl
theorem tw_213 : (Jvm.Cond.selects "RunwayDesk$Search" ({ cls := "RunwayDesk$Search", name := "copyBest", desc := "([I)V" } : Jvm.MethodName) ({ cls := "RunwayDesk$Search", name := "copyBest", desc := "([I)V" } : Jvm.MethodName)) ∈ am_ws := am_in (List.mem_of_getElem? (i := 213) (by decide +kernel)) rfl
theorem tw_214 : (Jvm.Cond.code ({ cls := "RunwayDesk$Search", name := "copyBest", desc := "([I)V" } : Jvm.MethodName) prog_2_method_5_code (2 : Nat) (Option.none : Option Jvm.ClassFile.FieldType)) ∈ am_ws := am_in (List.mem_of_getElem? (i := 214) (by decide +kernel)) rfl
theorem tw_215 : (Jvm.Cond.methodLink "RunwayDeskLaw" (124 : Nat) ({ cls := "RunwayDesk", name := "verify", desc := "()I" } : Jvm.MethodName)) ∈ am_ws := am_in (List.mem_of_getElem? (i := 215) (by decide +kernel)) rfl
theorem tw_216 : (Jvm.Cond.instanceMethod ({ cls := "RunwayDesk", name := "verify", desc := "()I" } : Jvm.MethodName)) ∈ am_ws := am_in (List.mem_of_getElem? (i := 216) (by decide +kernel)) rfl
theorem tw_217 : (Jvm.Cond.selects "RunwayDesk" ({ cls := "RunwayDesk", name := "verify", desc := "()I" } : Jvm.MethodName) ({ cls := "RunwayDesk", name := "verify", desc := "()I" } : Jvm.MethodName)) ∈ am_ws := am_in (List.mem_of_getElem? (i := 217) (by decide +kernel)) rfl
theorem tw_218 : (Jvm.Cond.code ({ cls := "RunwayDesk", name := "verify", desc := "()I" } : Jvm.MethodName) prog_1_method_16_code (1 : Nat) (Option.some Jvm.ClassFile.FieldType.int)) ∈ am_ws := am_in (List.mem_of_getElem? (i := 218) (by decide +kernel)) rfl
theorem tw_219 : (Jvm.Cond.methodLink "RunwayDesk" (136 : Nat) ({ cls := "RunwayDesk$State", name := "leastUnsound", desc := "([I)I" } : Jvm.MethodName)) ∈ am_ws := am_in (List.mem_of_getElem? (i := 219) (by decide +kernel)) rfl
theorem tw_220 : (Jvm.Cond.instanceMethod ({ cls := "RunwayDesk$State", name := "leastUnsound", desc := "([I)I" } : Jvm.MethodName)) ∈ am_ws := am_in (List.mem_of_getElem? (i := 220) (by decide +kernel)) rfl
theorem tw_221 : (Jvm.Cond.selects "RunwayDesk$State" ({ cls := "RunwayDesk$State", name := "leastUnsound", desc := "([I)I" } : Jvm.MethodName) ({ cls := "RunwayDesk$State", name := "leastUnsound", desc := "([I)I" } : Jvm.MethodName)) ∈ am_ws := am_in (List.mem_of_getElem? (i := 221) (by decide +kernel)) rfl
theorem tw_222 : (Jvm.Cond.code ({ cls := "RunwayDesk$State", name := "leastUnsound", desc := "([I)I" } : Jvm.MethodName) prog_3_method_16_code (3 : Nat) (Option.some Jvm.ClassFile.FieldType.int)) ∈ am_ws := am_in (List.mem_of_getElem? (i := 222) (by decide +kernel)) rfl
theorem tw_223 : (Jvm.Cond.methodLink "RunwayDesk$State" (96 : Nat) ({ cls := "RunwayDesk$State", name := "isSoundFor", desc := "(I[I)Z" } : Jvm.MethodName)) ∈ am_ws := am_in (List.mem_of_getElem? (i := 223) (by decide +kernel)) rfl
theorem tw_225 : (Jvm.Cond.instanceMethod ({ cls := "RunwayDesk$State", name := "isSoundFor", desc := "(I[I)Z" } : Jvm.MethodName)) ∈ am_ws := am_in (List.mem_of_getElem? (i := 225) (by decide +kernel)) rfl
theorem tw_226 : (Jvm.Cond.code ({ cls := "RunwayDesk$State", name := "isSoundFor", desc := "(I[I)Z" } : Jvm.MethodName) prog_3_method_17_code (4 : Nat) (Option.some Jvm.ClassFile.FieldType.boolean)) ∈ am_ws := am_in (List.mem_of_getElem? (i := 226) (by decide +kernel)) rfl
theorem tw_227 : (Jvm.Cond.methodLink "RunwayDesk$State" (100 : Nat) ({ cls := "RunwayDesk$State", name := "isInRange", desc := "(II)Z" } : Jvm.MethodName)) ∈ am_ws := am_in (List.mem_of_getElem? (i := 227) (by decide +kernel)) rfl
theorem tw_228 : (Jvm.Cond.instanceMethod ({ cls := "RunwayDesk$State", name := "isInRange", desc := "(II)Z" } : Jvm.MethodName)) ∈ am_ws := am_in (List.mem_of_getElem? (i := 228) (by decide +kernel)) rfl
theorem tw_229 : (Jvm.Cond.selects "RunwayDesk$State" ({ cls := "RunwayDesk$State", name := "isInRange", desc := "(II)Z" } : Jvm.MethodName) ({ cls := "RunwayDesk$State", name := "isInRange", desc := "(II)Z" } : Jvm.MethodName)) ∈ am_ws := am_in (List.mem_of_getElem? (i := 229) (by decide +kernel)) rfl
theorem tw_230 : (Jvm.Cond.code ({ cls := "RunwayDesk$State", name := "isInRange", desc := "(II)Z" } : Jvm.MethodName) prog_3_method_4_code (3 : Nat) (Option.some Jvm.ClassFile.FieldType.boolean)) ∈ am_ws := am_in (List.mem_of_getElem? (i := 230) (by decide +kernel)) rfl
theorem tw_231 : (Jvm.Cond.methodLinkNest "RunwayDesk$State" (55 : Nat) ({ cls := "RunwayDesk", name := "isBetween", desc := "(III)Z" } : Jvm.MethodName) "RunwayDesk") ∈ am_ws := am_in (List.mem_of_getElem? (i := 231) (by decide +kernel)) rfl
theorem tw_232 : (Jvm.Cond.static ({ cls := "RunwayDesk", name := "isBetween", desc := "(III)Z" } : Jvm.MethodName)) ∈ am_ws := am_in (List.mem_of_getElem? (i := 232) (by decide +kernel)) rfl
theorem tw_233 : (Jvm.Cond.code ({ cls := "RunwayDesk", name := "isBetween", desc := "(III)Z" } : Jvm.MethodName) prog_1_method_28_code (3 : Nat) (Option.some Jvm.ClassFile.FieldType.boolean)) ∈ am_ws := am_in (List.mem_of_getElem? (i := 233) (by decide +kernel)) rfl
theorem tw_234 : (Jvm.Cond.methodLink "RunwayDesk$State" (104 : Nat) ({ cls := "RunwayDesk$State", name := "isTooNearBehind", desc := "(I[I)Z" } : Jvm.MethodName)) ∈ am_ws := am_in (List.mem_of_getElem? (i := 234) (by decide +kernel)) rfl
theorem tw_236 : (Jvm.Cond.instanceMethod ({ cls := "RunwayDesk$State", name := "isTooNearBehind", desc := "(I[I)Z" } : Jvm.MethodName)) ∈ am_ws := am_in (List.mem_of_getElem? (i := 236) (by decide +kernel)) rfl
theorem tw_237 : (Jvm.Cond.code ({ cls := "RunwayDesk$State", name := "isTooNearBehind", desc := "(I[I)Z" } : Jvm.MethodName) prog_3_method_18_code (4 : Nat) (Option.some Jvm.ClassFile.FieldType.boolean)) ∈ am_ws := am_in (List.mem_of_getElem? (i := 237) (by decide +kernel)) rfl
theorem tw_238 : (Jvm.Cond.methodLink "RunwayDesk$State" (93 : Nat) ({ cls := "RunwayDesk$State", name := "gapBehind", desc := "(II)I" } : Jvm.MethodName)) ∈ am_ws := am_in (List.mem_of_getElem? (i := 238) (by decide +kernel)) rfl
theorem tw_239 : (Jvm.Cond.methodLinkNest "RunwayDesk$State" (107 : Nat) ({ cls := "RunwayDesk", name := "placeIn", desc := "([II)I" } : Jvm.MethodName) "RunwayDesk") ∈ am_ws := am_in (List.mem_of_getElem? (i := 239) (by decide +kernel)) rfl
theorem tw_240 : (Jvm.Cond.static ({ cls := "RunwayDesk", name := "placeIn", desc := "([II)I" } : Jvm.MethodName)) ∈ am_ws := am_in (List.mem_of_getElem? (i := 240) (by decide +kernel)) rfl
theorem tw_241 : (Jvm.Cond.code ({ cls := "RunwayDesk", name := "placeIn", desc := "([II)I" } : Jvm.MethodName) prog_1_method_31_code (4 : Nat) (Option.some Jvm.ClassFile.FieldType.int)) ∈ am_ws := am_in (List.mem_of_getElem? (i := 241) (by decide +kernel)) rfl
theorem tw_242 : (Jvm.Cond.methodLink "RunwayDesk" (178 : Nat) ({ cls := "RunwayDesk", name := "isBefore", desc := "([III)Z" } : Jvm.MethodName)) ∈ am_ws := am_in (List.mem_of_getElem? (i := 242) (by decide +kernel)) rfl
theorem tw_243 : (Jvm.Cond.methodLink "RunwayDesk$State" (111 : Nat) ({ cls := "RunwayDesk$State", name := "firstComePlace", desc := "(I)I" } : Jvm.MethodName)) ∈ am_ws := am_in (List.mem_of_getElem? (i := 243) (by decide +kernel)) rfl
theorem tw_244 : (Jvm.Cond.methodLink "RunwayDesk$State" (114 : Nat) ({ cls := "RunwayDesk$State", name := "mayStandAt", desc := "(III)Z" } : Jvm.MethodName)) ∈ am_ws := am_in (List.mem_of_getElem? (i := 244) (by decide +kernel)) rfl
theorem tw_245 : (Jvm.Cond.methodLink "RunwayDeskLaw" (128 : Nat) ({ cls := "RunwayDesk", name := "firstCome", desc := "()I" } : Jvm.MethodName)) ∈ am_ws := am_in (List.mem_of_getElem? (i := 245) (by decide +kernel)) rfl
theorem tw_246 : (Jvm.Cond.instanceMethod ({ cls := "RunwayDesk", name := "firstCome", desc := "()I" } : Jvm.MethodName)) ∈ am_ws := am_in (List.mem_of_getElem? (i := 246) (by decide +kernel)) rfl
theorem tw_247 : (Jvm.Cond.selects "RunwayDesk" ({ cls := "RunwayDesk", name := "firstCome", desc := "()I" } : Jvm.MethodName) ({ cls := "RunwayDesk", name := "firstCome", desc := "()I" } : Jvm.MethodName)) ∈ am_ws := am_in (List.mem_of_getElem? (i := 247) (by decide +kernel)) rfl
theorem tw_248 : (Jvm.Cond.code ({ cls := "RunwayDesk", name := "firstCome", desc := "()I" } : Jvm.MethodName) prog_1_method_17_code (1 : Nat) (Option.some Jvm.ClassFile.FieldType.int)) ∈ am_ws := am_in (List.mem_of_getElem? (i := 248) (by decide +kernel)) rfl
theorem tw_249 : (Jvm.Cond.methodLink "RunwayDesk" (140 : Nat) ({ cls := "RunwayDesk$Search", name := "firstComeDelay", desc := "(LRunwayDesk$State;)I" } : Jvm.MethodName)) ∈ am_ws := am_in (List.mem_of_getElem? (i := 249) (by decide +kernel)) rfl
theorem tw_250 : (Jvm.Cond.instanceMethod ({ cls := "RunwayDesk$Search", name := "firstComeDelay", desc := "(LRunwayDesk$State;)I" } : Jvm.MethodName)) ∈ am_ws := am_in (List.mem_of_getElem? (i := 250) (by decide +kernel)) rfl
theorem tw_251 : (Jvm.Cond.selects "RunwayDesk$Search" ({ cls := "RunwayDesk$Search", name := "firstComeDelay", desc := "(LRunwayDesk$State;)I" } : Jvm.MethodName) ({ cls := "RunwayDesk$Search", name := "firstComeDelay", desc := "(LRunwayDesk$State;)I" } : Jvm.MethodName)) ∈ am_ws := am_in (List.mem_of_getElem? (i := 251) (by decide +kernel)) rfl
theorem tw_252 : (Jvm.Cond.code ({ cls := "RunwayDesk$Search", name := "firstComeDelay", desc := "(LRunwayDesk$State;)I" } : Jvm.MethodName) prog_2_method_3_code (4 : Nat) (Option.some Jvm.ClassFile.FieldType.int)) ∈ am_ws := am_in (List.mem_of_getElem? (i := 252) (by decide +kernel)) rfl
theorem tw_253 : (Jvm.Cond.methodLink "RunwayDeskLaw" (132 : Nat) ({ cls := "RunwayDesk", name := "bound", desc := "()I" } : Jvm.MethodName)) ∈ am_ws := am_in (List.mem_of_getElem? (i := 253) (by decide +kernel)) rfl
theorem tw_254 : (Jvm.Cond.instanceMethod ({ cls := "RunwayDesk", name := "bound", desc := "()I" } : Jvm.MethodName)) ∈ am_ws := am_in (List.mem_of_getElem? (i := 254) (by decide +kernel)) rfl
theorem tw_255 : (Jvm.Cond.selects "RunwayDesk" ({ cls := "RunwayDesk", name := "bound", desc := "()I" } : Jvm.MethodName) ({ cls := "RunwayDesk", name := "bound", desc := "()I" } : Jvm.MethodName)) ∈ am_ws := am_in (List.mem_of_getElem? (i := 255) (by decide +kernel)) rfl
theorem tw_256 : (Jvm.Cond.code ({ cls := "RunwayDesk", name := "bound", desc := "()I" } : Jvm.MethodName) prog_1_method_18_code (1 : Nat) (Option.some Jvm.ClassFile.FieldType.int)) ∈ am_ws := am_in (List.mem_of_getElem? (i := 256) (by decide +kernel)) rfl
theorem tw_257 : (Jvm.Cond.methodLink "RunwayDesk" (143 : Nat) ({ cls := "RunwayDesk$Search", name := "aloneDelay", desc := "(LRunwayDesk$State;)I" } : Jvm.MethodName)) ∈ am_ws := am_in (List.mem_of_getElem? (i := 257) (by decide +kernel)) rfl
theorem tw_258 : (Jvm.Cond.instanceMethod ({ cls := "RunwayDesk$Search", name := "aloneDelay", desc := "(LRunwayDesk$State;)I" } : Jvm.MethodName)) ∈ am_ws := am_in (List.mem_of_getElem? (i := 258) (by decide +kernel)) rfl
theorem tw_259 : (Jvm.Cond.selects "RunwayDesk$Search" ({ cls := "RunwayDesk$Search", name := "aloneDelay", desc := "(LRunwayDesk$State;)I" } : Jvm.MethodName) ({ cls := "RunwayDesk$Search", name := "aloneDelay", desc := "(LRunwayDesk$State;)I" } : Jvm.MethodName)) ∈ am_ws := am_in (List.mem_of_getElem? (i := 259) (by decide +kernel)) rfl
theorem tw_260 : (Jvm.Cond.code ({ cls := "RunwayDesk$Search", name := "aloneDelay", desc := "(LRunwayDesk$State;)I" } : Jvm.MethodName) prog_2_method_4_code (2 : Nat) (Option.some Jvm.ClassFile.FieldType.int)) ∈ am_ws := am_in (List.mem_of_getElem? (i := 260) (by decide +kernel)) rfl
theorem tw_261 : (Jvm.Cond.methodLink "RunwayDeskLaw" (139 : Nat) ({ cls := "RunwayDesk", name := "accept", desc := "()I" } : Jvm.MethodName)) ∈ am_ws := am_in (List.mem_of_getElem? (i := 261) (by decide +kernel)) rfl
theorem tw_262 : (Jvm.Cond.instanceMethod ({ cls := "RunwayDesk", name := "accept", desc := "()I" } : Jvm.MethodName)) ∈ am_ws := am_in (List.mem_of_getElem? (i := 262) (by decide +kernel)) rfl
theorem tw_263 : (Jvm.Cond.selects "RunwayDesk" ({ cls := "RunwayDesk", name := "accept", desc := "()I" } : Jvm.MethodName) ({ cls := "RunwayDesk", name := "accept", desc := "()I" } : Jvm.MethodName)) ∈ am_ws := am_in (List.mem_of_getElem? (i := 263) (by decide +kernel)) rfl
theorem tw_264 : (Jvm.Cond.code ({ cls := "RunwayDesk", name := "accept", desc := "()I" } : Jvm.MethodName) prog_1_method_20_code (3 : Nat) (Option.some Jvm.ClassFile.FieldType.int)) ∈ am_ws := am_in (List.mem_of_getElem? (i := 264) (by decide +kernel)) rfl
theorem tw_265 : (Jvm.Cond.methodLink "RunwayDesk" (149 : Nat) ({ cls := "RunwayDesk", name := "isChanged", desc := "(I)Z" } : Jvm.MethodName)) ∈ am_ws := am_in (List.mem_of_getElem? (i := 265) (by decide +kernel)) rfl
theorem tw_267 : (Jvm.Cond.instanceMethod ({ cls := "RunwayDesk", name := "isChanged", desc := "(I)Z" } : Jvm.MethodName)) ∈ am_ws := am_in (List.mem_of_getElem? (i := 267) (by decide +kernel)) rfl
theorem tw_268 : (Jvm.Cond.code ({ cls := "RunwayDesk", name := "isChanged", desc := "(I)Z" } : Jvm.MethodName) prog_1_method_24_code (2 : Nat) (Option.some Jvm.ClassFile.FieldType.boolean)) ∈ am_ws := am_in (List.mem_of_getElem? (i := 268) (by decide +kernel)) rfl
theorem tw_269 : (Jvm.Cond.methodLink "RunwayDesk" (152 : Nat) ({ cls := "java/lang/System", name := "arraycopy", desc := "(Ljava/lang/Object;ILjava/lang/Object;II)V" } : Jvm.MethodName)) ∈ am_ws := am_in (List.mem_of_getElem? (i := 269) (by decide +kernel)) rfl
theorem tw_270 : (Jvm.Cond.methodLink "RunwayDeskLaw" (69 : Nat) ({ cls := "RunwayDeskLaw", name := "gap", desc := "(LRunwayDesk;III[J)I" } : Jvm.MethodName)) ∈ am_ws := am_in (List.mem_of_getElem? (i := 270) (by decide +kernel)) rfl
theorem tw_271 : (Jvm.Cond.static ({ cls := "RunwayDeskLaw", name := "gap", desc := "(LRunwayDesk;III[J)I" } : Jvm.MethodName)) ∈ am_ws := am_in (List.mem_of_getElem? (i := 271) (by decide +kernel)) rfl
theorem tw_272 : (Jvm.Cond.codeWith ({ cls := "RunwayDeskLaw", name := "gap", desc := "(LRunwayDesk;III[J)I" } : Jvm.MethodName) method_3_code (6 : Nat) (Option.some Jvm.ClassFile.FieldType.int) [((0 : Nat), (12 : Nat), (15 : Nat), (13 : Nat))]) ∈ am_ws := am_in (List.mem_of_getElem? (i := 272) (by decide +kernel)) rfl
theorem tw_273 : (Jvm.Cond.classLink "RunwayDeskLaw" (13 : Nat) "java/lang/IllegalArgumentException") ∈ am_ws := am_in (List.mem_of_getElem? (i := 273) (by decide +kernel)) rfl
theorem tw_274 : (Jvm.Cond.methodLink "RunwayDeskLaw" (7 : Nat) ({ cls := "RunwayDesk", name := "gap", desc := "(III)I" } : Jvm.MethodName)) ∈ am_ws := am_in (List.mem_of_getElem? (i := 274) (by decide +kernel)) rfl
theorem tw_275 : (Jvm.Cond.instanceMethod ({ cls := "RunwayDesk", name := "gap", desc := "(III)I" } : Jvm.MethodName)) ∈ am_ws := am_in (List.mem_of_getElem? (i := 275) (by decide +kernel)) rfl
theorem tw_276 : (Jvm.Cond.selects "RunwayDesk" ({ cls := "RunwayDesk", name := "gap", desc := "(III)I" } : Jvm.MethodName) ({ cls := "RunwayDesk", name := "gap", desc := "(III)I" } : Jvm.MethodName)) ∈ am_ws := am_in (List.mem_of_getElem? (i := 276) (by decide +kernel)) rfl
theorem tw_277 : (Jvm.Cond.code ({ cls := "RunwayDesk", name := "gap", desc := "(III)I" } : Jvm.MethodName) prog_1_method_2_code (5 : Nat) (Option.some Jvm.ClassFile.FieldType.int)) ∈ am_ws := am_in (List.mem_of_getElem? (i := 277) (by decide +kernel)) rfl
theorem tw_278 : (Jvm.Cond.methodLink "RunwayDesk" (39 : Nat) ({ cls := "RunwayDesk", name := "isType", desc := "(I)Z" } : Jvm.MethodName)) ∈ am_ws := am_in (List.mem_of_getElem? (i := 278) (by decide +kernel)) rfl
theorem tw_279 : (Jvm.Cond.static ({ cls := "RunwayDesk", name := "isType", desc := "(I)Z" } : Jvm.MethodName)) ∈ am_ws := am_in (List.mem_of_getElem? (i := 279) (by decide +kernel)) rfl
theorem tw_280 : (Jvm.Cond.code ({ cls := "RunwayDesk", name := "isType", desc := "(I)Z" } : Jvm.MethodName) prog_1_method_29_code (1 : Nat) (Option.some Jvm.ClassFile.FieldType.boolean)) ∈ am_ws := am_in (List.mem_of_getElem? (i := 280) (by decide +kernel)) rfl
theorem tw_281 : (Jvm.Cond.methodLink "RunwayDesk" (43 : Nat) ({ cls := "RunwayDesk", name := "isBetween", desc := "(III)Z" } : Jvm.MethodName)) ∈ am_ws := am_in (List.mem_of_getElem? (i := 281) (by decide +kernel)) rfl
theorem tw_282 : (Jvm.Cond.classLink "RunwayDesk" (47 : Nat) "java/lang/IllegalArgumentException") ∈ am_ws := am_in (List.mem_of_getElem? (i := 282) (by decide +kernel)) rfl
theorem tw_283 : (Jvm.Cond.instantiable "java/lang/IllegalArgumentException" (6 : Nat)) ∈ am_ws := am_in (List.mem_of_getElem? (i := 283) (by decide +kernel)) rfl
theorem tw_284 : (Jvm.Cond.castable "java/lang/IllegalArgumentException" "java/lang/IllegalArgumentException") ∈ am_ws := am_in (List.mem_of_getElem? (i := 284) (by decide +kernel)) rfl
theorem tw_346 : (Jvm.Cond.methodLink "RunwayDeskLaw" (79 : Nat) ({ cls := "RunwayDeskLaw", name := "add", desc := "(LRunwayDesk;IIIII[J)I" } : Jvm.MethodName)) ∈ am_ws := am_in (List.mem_of_getElem? (i := 346) (by decide +kernel)) rfl
theorem tw_347 : (Jvm.Cond.static ({ cls := "RunwayDeskLaw", name := "add", desc := "(LRunwayDesk;IIIII[J)I" } : Jvm.MethodName)) ∈ am_ws := am_in (List.mem_of_getElem? (i := 347) (by decide +kernel)) rfl
theorem tw_348 : (Jvm.Cond.codeWith ({ cls := "RunwayDeskLaw", name := "add", desc := "(LRunwayDesk;IIIII[J)I" } : Jvm.MethodName) method_4_code (8 : Nat) (Option.some Jvm.ClassFile.FieldType.int) [((0 : Nat), (16 : Nat), (19 : Nat), (13 : Nat)), ((0 : Nat), (16 : Nat), (23 : Nat), (19 : Nat))]) ∈ am_ws := am_in (List.mem_of_getElem? (i := 348) (by decide +kernel)) rfl
theorem tw_349 : (Jvm.Cond.classLink "RunwayDeskLaw" (19 : Nat) "java/lang/IllegalStateException") ∈ am_ws := am_in (List.mem_of_getElem? (i := 349) (by decide +kernel)) rfl
theorem tw_350 : (Jvm.Cond.methodLink "RunwayDeskLaw" (15 : Nat) ({ cls := "RunwayDesk", name := "add", desc := "(IIIII)I" } : Jvm.MethodName)) ∈ am_ws := am_in (List.mem_of_getElem? (i := 350) (by decide +kernel)) rfl
theorem tw_351 : (Jvm.Cond.instanceMethod ({ cls := "RunwayDesk", name := "add", desc := "(IIIII)I" } : Jvm.MethodName)) ∈ am_ws := am_in (List.mem_of_getElem? (i := 351) (by decide +kernel)) rfl
theorem tw_352 : (Jvm.Cond.selects "RunwayDesk" ({ cls := "RunwayDesk", name := "add", desc := "(IIIII)I" } : Jvm.MethodName) ({ cls := "RunwayDesk", name := "add", desc := "(IIIII)I" } : Jvm.MethodName)) ∈ am_ws := am_in (List.mem_of_getElem? (i := 352) (by decide +kernel)) rfl
theorem tw_353 : (Jvm.Cond.code ({ cls := "RunwayDesk", name := "add", desc := "(IIIII)I" } : Jvm.MethodName) prog_1_method_3_code (8 : Nat) (Option.some Jvm.ClassFile.FieldType.int)) ∈ am_ws := am_in (List.mem_of_getElem? (i := 353) (by decide +kernel)) rfl
theorem tw_354 : (Jvm.Cond.methodLink "RunwayDesk" (54 : Nat) ({ cls := "RunwayDesk$State", name := "leastFree", desc := "()I" } : Jvm.MethodName)) ∈ am_ws := am_in (List.mem_of_getElem? (i := 354) (by decide +kernel)) rfl
theorem tw_355 : (Jvm.Cond.instanceMethod ({ cls := "RunwayDesk$State", name := "leastFree", desc := "()I" } : Jvm.MethodName)) ∈ am_ws := am_in (List.mem_of_getElem? (i := 355) (by decide +kernel)) rfl
theorem tw_356 : (Jvm.Cond.selects "RunwayDesk$State" ({ cls := "RunwayDesk$State", name := "leastFree", desc := "()I" } : Jvm.MethodName) ({ cls := "RunwayDesk$State", name := "leastFree", desc := "()I" } : Jvm.MethodName)) ∈ am_ws := am_in (List.mem_of_getElem? (i := 356) (by decide +kernel)) rfl
theorem tw_357 : (Jvm.Cond.code ({ cls := "RunwayDesk$State", name := "leastFree", desc := "()I" } : Jvm.MethodName) prog_3_method_3_code (2 : Nat) (Option.some Jvm.ClassFile.FieldType.int)) ∈ am_ws := am_in (List.mem_of_getElem? (i := 357) (by decide +kernel)) rfl
theorem tw_358 : (Jvm.Cond.classLink "RunwayDesk" (58 : Nat) "java/lang/IllegalStateException") ∈ am_ws := am_in (List.mem_of_getElem? (i := 358) (by decide +kernel)) rfl
theorem tw_359 : (Jvm.Cond.instantiable "java/lang/IllegalStateException" (6 : Nat)) ∈ am_ws := am_in (List.mem_of_getElem? (i := 359) (by decide +kernel)) rfl
theorem tw_360 : (Jvm.Cond.castable "java/lang/IllegalStateException" "java/lang/IllegalStateException") ∈ am_ws := am_in (List.mem_of_getElem? (i := 360) (by decide +kernel)) rfl
theorem tw_373 : (Jvm.Cond.methodLink "RunwayDeskLaw" (83 : Nat) ({ cls := "RunwayDeskLaw", name := "remove", desc := "(LRunwayDesk;I[J)I" } : Jvm.MethodName)) ∈ am_ws := am_in (List.mem_of_getElem? (i := 373) (by decide +kernel)) rfl
theorem tw_374 : (Jvm.Cond.static ({ cls := "RunwayDeskLaw", name := "remove", desc := "(LRunwayDesk;I[J)I" } : Jvm.MethodName)) ∈ am_ws := am_in (List.mem_of_getElem? (i := 374) (by decide +kernel)) rfl
theorem tw_375 : (Jvm.Cond.codeWith ({ cls := "RunwayDeskLaw", name := "remove", desc := "(LRunwayDesk;I[J)I" } : Jvm.MethodName) method_5_code (4 : Nat) (Option.some Jvm.ClassFile.FieldType.int) [((0 : Nat), (9 : Nat), (12 : Nat), (25 : Nat))]) ∈ am_ws := am_in (List.mem_of_getElem? (i := 375) (by decide +kernel)) rfl
theorem tw_376 : (Jvm.Cond.classLink "RunwayDeskLaw" (25 : Nat) "java/util/NoSuchElementException") ∈ am_ws := am_in (List.mem_of_getElem? (i := 376) (by decide +kernel)) rfl
theorem tw_377 : (Jvm.Cond.methodLink "RunwayDeskLaw" (21 : Nat) ({ cls := "RunwayDesk", name := "remove", desc := "(I)I" } : Jvm.MethodName)) ∈ am_ws := am_in (List.mem_of_getElem? (i := 377) (by decide +kernel)) rfl
theorem tw_378 : (Jvm.Cond.instanceMethod ({ cls := "RunwayDesk", name := "remove", desc := "(I)I" } : Jvm.MethodName)) ∈ am_ws := am_in (List.mem_of_getElem? (i := 378) (by decide +kernel)) rfl
theorem tw_379 : (Jvm.Cond.selects "RunwayDesk" ({ cls := "RunwayDesk", name := "remove", desc := "(I)I" } : Jvm.MethodName) ({ cls := "RunwayDesk", name := "remove", desc := "(I)I" } : Jvm.MethodName)) ∈ am_ws := am_in (List.mem_of_getElem? (i := 379) (by decide +kernel)) rfl
theorem tw_380 : (Jvm.Cond.code ({ cls := "RunwayDesk", name := "remove", desc := "(I)I" } : Jvm.MethodName) prog_1_method_4_code (2 : Nat) (Option.some Jvm.ClassFile.FieldType.int)) ∈ am_ws := am_in (List.mem_of_getElem? (i := 380) (by decide +kernel)) rfl
theorem tw_381 : (Jvm.Cond.methodLink "RunwayDesk" (87 : Nat) ({ cls := "RunwayDesk", name := "requireMovement", desc := "(I)V" } : Jvm.MethodName)) ∈ am_ws := am_in (List.mem_of_getElem? (i := 381) (by decide +kernel)) rfl
theorem tw_383 : (Jvm.Cond.instanceMethod ({ cls := "RunwayDesk", name := "requireMovement", desc := "(I)V" } : Jvm.MethodName)) ∈ am_ws := am_in (List.mem_of_getElem? (i := 383) (by decide +kernel)) rfl
theorem tw_384 : (Jvm.Cond.code ({ cls := "RunwayDesk", name := "requireMovement", desc := "(I)V" } : Jvm.MethodName) prog_1_method_22_code (2 : Nat) (Option.none : Option Jvm.ClassFile.FieldType)) ∈ am_ws := am_in (List.mem_of_getElem? (i := 384) (by decide +kernel)) rfl
theorem tw_385 : (Jvm.Cond.methodLink "RunwayDesk" (161 : Nat) ({ cls := "RunwayDesk$State", name := "has", desc := "(I)Z" } : Jvm.MethodName)) ∈ am_ws := am_in (List.mem_of_getElem? (i := 385) (by decide +kernel)) rfl
theorem tw_386 : (Jvm.Cond.instanceMethod ({ cls := "RunwayDesk$State", name := "has", desc := "(I)Z" } : Jvm.MethodName)) ∈ am_ws := am_in (List.mem_of_getElem? (i := 386) (by decide +kernel)) rfl
theorem tw_387 : (Jvm.Cond.selects "RunwayDesk$State" ({ cls := "RunwayDesk$State", name := "has", desc := "(I)Z" } : Jvm.MethodName) ({ cls := "RunwayDesk$State", name := "has", desc := "(I)Z" } : Jvm.MethodName)) ∈ am_ws := am_in (List.mem_of_getElem? (i := 387) (by decide +kernel)) rfl
theorem tw_388 : (Jvm.Cond.code ({ cls := "RunwayDesk$State", name := "has", desc := "(I)Z" } : Jvm.MethodName) prog_3_method_2_code (2 : Nat) (Option.some Jvm.ClassFile.FieldType.boolean)) ∈ am_ws := am_in (List.mem_of_getElem? (i := 388) (by decide +kernel)) rfl
theorem tw_389 : (Jvm.Cond.classLink "RunwayDesk" (164 : Nat) "java/util/NoSuchElementException") ∈ am_ws := am_in (List.mem_of_getElem? (i := 389) (by decide +kernel)) rfl
theorem tw_390 : (Jvm.Cond.instantiable "java/util/NoSuchElementException" (6 : Nat)) ∈ am_ws := am_in (List.mem_of_getElem? (i := 390) (by decide +kernel)) rfl
theorem tw_391 : (Jvm.Cond.castable "java/util/NoSuchElementException" "java/util/NoSuchElementException") ∈ am_ws := am_in (List.mem_of_getElem? (i := 391) (by decide +kernel)) rfl
theorem tw_404 : (Jvm.Cond.methodLink "RunwayDeskLaw" (87 : Nat) ({ cls := "RunwayDeskLaw", name := "retarget", desc := "(LRunwayDesk;II[J)I" } : Jvm.MethodName)) ∈ am_ws := am_in (List.mem_of_getElem? (i := 404) (by decide +kernel)) rfl
theorem tw_405 : (Jvm.Cond.static ({ cls := "RunwayDeskLaw", name := "retarget", desc := "(LRunwayDesk;II[J)I" } : Jvm.MethodName)) ∈ am_ws := am_in (List.mem_of_getElem? (i := 405) (by decide +kernel)) rfl
theorem tw_406 : (Jvm.Cond.codeWith ({ cls := "RunwayDeskLaw", name := "retarget", desc := "(LRunwayDesk;II[J)I" } : Jvm.MethodName) method_6_code (5 : Nat) (Option.some Jvm.ClassFile.FieldType.int) [((0 : Nat), (10 : Nat), (13 : Nat), (25 : Nat)), ((0 : Nat), (10 : Nat), (17 : Nat), (13 : Nat))]) ∈ am_ws := am_in (List.mem_of_getElem? (i := 406) (by decide +kernel)) rfl
theorem tw_407 : (Jvm.Cond.methodLink "RunwayDeskLaw" (27 : Nat) ({ cls := "RunwayDesk", name := "retarget", desc := "(II)I" } : Jvm.MethodName)) ∈ am_ws := am_in (List.mem_of_getElem? (i := 407) (by decide +kernel)) rfl
theorem tw_408 : (Jvm.Cond.instanceMethod ({ cls := "RunwayDesk", name := "retarget", desc := "(II)I" } : Jvm.MethodName)) ∈ am_ws := am_in (List.mem_of_getElem? (i := 408) (by decide +kernel)) rfl
theorem tw_409 : (Jvm.Cond.selects "RunwayDesk" ({ cls := "RunwayDesk", name := "retarget", desc := "(II)I" } : Jvm.MethodName) ({ cls := "RunwayDesk", name := "retarget", desc := "(II)I" } : Jvm.MethodName)) ∈ am_ws := am_in (List.mem_of_getElem? (i := 409) (by decide +kernel)) rfl
theorem tw_410 : (Jvm.Cond.code ({ cls := "RunwayDesk", name := "retarget", desc := "(II)I" } : Jvm.MethodName) prog_1_method_5_code (4 : Nat) (Option.some Jvm.ClassFile.FieldType.int)) ∈ am_ws := am_in (List.mem_of_getElem? (i := 410) (by decide +kernel)) rfl
theorem tw_411 : (Jvm.Cond.methodLink "RunwayDesk" (91 : Nat) ({ cls := "RunwayDesk", name := "requireInRange", desc := "(II)V" } : Jvm.MethodName)) ∈ am_ws := am_in (List.mem_of_getElem? (i := 411) (by decide +kernel)) rfl
theorem tw_413 : (Jvm.Cond.instanceMethod ({ cls := "RunwayDesk", name := "requireInRange", desc := "(II)V" } : Jvm.MethodName)) ∈ am_ws := am_in (List.mem_of_getElem? (i := 413) (by decide +kernel)) rfl
theorem tw_414 : (Jvm.Cond.code ({ cls := "RunwayDesk", name := "requireInRange", desc := "(II)V" } : Jvm.MethodName) prog_1_method_23_code (3 : Nat) (Option.none : Option Jvm.ClassFile.FieldType)) ∈ am_ws := am_in (List.mem_of_getElem? (i := 414) (by decide +kernel)) rfl
theorem tw_415 : (Jvm.Cond.methodLink "RunwayDesk" (167 : Nat) ({ cls := "RunwayDesk$State", name := "isInRange", desc := "(II)Z" } : Jvm.MethodName)) ∈ am_ws := am_in (List.mem_of_getElem? (i := 415) (by decide +kernel)) rfl
theorem tw_416 : (Jvm.Cond.methodLink "RunwayDeskLaw" (91 : Nat) ({ cls := "RunwayDeskLaw", name := "limit", desc := "(LRunwayDesk;I[J)I" } : Jvm.MethodName)) ∈ am_ws := am_in (List.mem_of_getElem? (i := 416) (by decide +kernel)) rfl
theorem tw_417 : (Jvm.Cond.static ({ cls := "RunwayDeskLaw", name := "limit", desc := "(LRunwayDesk;I[J)I" } : Jvm.MethodName)) ∈ am_ws := am_in (List.mem_of_getElem? (i := 417) (by decide +kernel)) rfl
theorem tw_418 : (Jvm.Cond.codeWith ({ cls := "RunwayDeskLaw", name := "limit", desc := "(LRunwayDesk;I[J)I" } : Jvm.MethodName) method_7_code (4 : Nat) (Option.some Jvm.ClassFile.FieldType.int) [((0 : Nat), (9 : Nat), (12 : Nat), (13 : Nat))]) ∈ am_ws := am_in (List.mem_of_getElem? (i := 418) (by decide +kernel)) rfl
theorem tw_419 : (Jvm.Cond.methodLink "RunwayDeskLaw" (31 : Nat) ({ cls := "RunwayDesk", name := "limit", desc := "(I)I" } : Jvm.MethodName)) ∈ am_ws := am_in (List.mem_of_getElem? (i := 419) (by decide +kernel)) rfl
theorem tw_420 : (Jvm.Cond.instanceMethod ({ cls := "RunwayDesk", name := "limit", desc := "(I)I" } : Jvm.MethodName)) ∈ am_ws := am_in (List.mem_of_getElem? (i := 420) (by decide +kernel)) rfl
theorem tw_421 : (Jvm.Cond.selects "RunwayDesk" ({ cls := "RunwayDesk", name := "limit", desc := "(I)I" } : Jvm.MethodName) ({ cls := "RunwayDesk", name := "limit", desc := "(I)I" } : Jvm.MethodName)) ∈ am_ws := am_in (List.mem_of_getElem? (i := 421) (by decide +kernel)) rfl
theorem tw_422 : (Jvm.Cond.code ({ cls := "RunwayDesk", name := "limit", desc := "(I)I" } : Jvm.MethodName) prog_1_method_6_code (3 : Nat) (Option.some Jvm.ClassFile.FieldType.int)) ∈ am_ws := am_in (List.mem_of_getElem? (i := 422) (by decide +kernel)) rfl
theorem tw_423 : (Jvm.Cond.methodLink "RunwayDeskLaw" (94 : Nat) ({ cls := "RunwayDeskLaw", name := "close", desc := "(LRunwayDesk;II[J)I" } : Jvm.MethodName)) ∈ am_ws := am_in (List.mem_of_getElem? (i := 423) (by decide +kernel)) rfl
theorem tw_424 : (Jvm.Cond.static ({ cls := "RunwayDeskLaw", name := "close", desc := "(LRunwayDesk;II[J)I" } : Jvm.MethodName)) ∈ am_ws := am_in (List.mem_of_getElem? (i := 424) (by decide +kernel)) rfl
theorem tw_425 : (Jvm.Cond.codeWith ({ cls := "RunwayDeskLaw", name := "close", desc := "(LRunwayDesk;II[J)I" } : Jvm.MethodName) method_8_code (5 : Nat) (Option.some Jvm.ClassFile.FieldType.int) [((0 : Nat), (10 : Nat), (13 : Nat), (13 : Nat)), ((0 : Nat), (10 : Nat), (17 : Nat), (19 : Nat))]) ∈ am_ws := am_in (List.mem_of_getElem? (i := 425) (by decide +kernel)) rfl
theorem tw_426 : (Jvm.Cond.methodLink "RunwayDeskLaw" (34 : Nat) ({ cls := "RunwayDesk", name := "close", desc := "(II)I" } : Jvm.MethodName)) ∈ am_ws := am_in (List.mem_of_getElem? (i := 426) (by decide +kernel)) rfl
theorem tw_427 : (Jvm.Cond.instanceMethod ({ cls := "RunwayDesk", name := "close", desc := "(II)I" } : Jvm.MethodName)) ∈ am_ws := am_in (List.mem_of_getElem? (i := 427) (by decide +kernel)) rfl
theorem tw_428 : (Jvm.Cond.selects "RunwayDesk" ({ cls := "RunwayDesk", name := "close", desc := "(II)I" } : Jvm.MethodName) ({ cls := "RunwayDesk", name := "close", desc := "(II)I" } : Jvm.MethodName)) ∈ am_ws := am_in (List.mem_of_getElem? (i := 428) (by decide +kernel)) rfl
theorem tw_429 : (Jvm.Cond.code ({ cls := "RunwayDesk", name := "close", desc := "(II)I" } : Jvm.MethodName) prog_1_method_7_code (3 : Nat) (Option.some Jvm.ClassFile.FieldType.int)) ∈ am_ws := am_in (List.mem_of_getElem? (i := 429) (by decide +kernel)) rfl
theorem tw_430 : (Jvm.Cond.methodLink "RunwayDeskLaw" (101 : Nat) ({ cls := "RunwayDeskLaw", name := "freeze", desc := "(LRunwayDesk;II)I" } : Jvm.MethodName)) ∈ am_ws := am_in (List.mem_of_getElem? (i := 430) (by decide +kernel)) rfl
theorem tw_431 : (Jvm.Cond.static ({ cls := "RunwayDeskLaw", name := "freeze", desc := "(LRunwayDesk;II)I" } : Jvm.MethodName)) ∈ am_ws := am_in (List.mem_of_getElem? (i := 431) (by decide +kernel)) rfl
theorem tw_432 : (Jvm.Cond.codeWith ({ cls := "RunwayDeskLaw", name := "freeze", desc := "(LRunwayDesk;II)I" } : Jvm.MethodName) method_9_code (4 : Nat) (Option.some Jvm.ClassFile.FieldType.int) [((0 : Nat), (6 : Nat), (9 : Nat), (25 : Nat)), ((0 : Nat), (6 : Nat), (12 : Nat), (13 : Nat)), ((0 : Nat), (6 : Nat), (15 : Nat), (19 : Nat))]) ∈ am_ws := am_in (List.mem_of_getElem? (i := 432) (by decide +kernel)) rfl
theorem tw_433 : (Jvm.Cond.methodLink "RunwayDeskLaw" (37 : Nat) ({ cls := "RunwayDesk", name := "freeze", desc := "(II)V" } : Jvm.MethodName)) ∈ am_ws := am_in (List.mem_of_getElem? (i := 433) (by decide +kernel)) rfl
theorem tw_434 : (Jvm.Cond.instanceMethod ({ cls := "RunwayDesk", name := "freeze", desc := "(II)V" } : Jvm.MethodName)) ∈ am_ws := am_in (List.mem_of_getElem? (i := 434) (by decide +kernel)) rfl
theorem tw_435 : (Jvm.Cond.selects "RunwayDesk" ({ cls := "RunwayDesk", name := "freeze", desc := "(II)V" } : Jvm.MethodName) ({ cls := "RunwayDesk", name := "freeze", desc := "(II)V" } : Jvm.MethodName)) ∈ am_ws := am_in (List.mem_of_getElem? (i := 435) (by decide +kernel)) rfl
theorem tw_436 : (Jvm.Cond.code ({ cls := "RunwayDesk", name := "freeze", desc := "(II)V" } : Jvm.MethodName) prog_1_method_9_code (3 : Nat) (Option.none : Option Jvm.ClassFile.FieldType)) ∈ am_ws := am_in (List.mem_of_getElem? (i := 436) (by decide +kernel)) rfl
theorem tw_437 : (Jvm.Cond.methodLink "RunwayDesk" (107 : Nat) ({ cls := "RunwayDesk$State", name := "isClosed", desc := "(I)Z" } : Jvm.MethodName)) ∈ am_ws := am_in (List.mem_of_getElem? (i := 437) (by decide +kernel)) rfl
theorem tw_438 : (Jvm.Cond.methodLink "RunwayDesk" (110 : Nat) ({ cls := "RunwayDesk$State", name := "isNearFrozen", desc := "(II)Z" } : Jvm.MethodName)) ∈ am_ws := am_in (List.mem_of_getElem? (i := 438) (by decide +kernel)) rfl
theorem tw_439 : (Jvm.Cond.instanceMethod ({ cls := "RunwayDesk$State", name := "isNearFrozen", desc := "(II)Z" } : Jvm.MethodName)) ∈ am_ws := am_in (List.mem_of_getElem? (i := 439) (by decide +kernel)) rfl
theorem tw_440 : (Jvm.Cond.selects "RunwayDesk$State" ({ cls := "RunwayDesk$State", name := "isNearFrozen", desc := "(II)Z" } : Jvm.MethodName) ({ cls := "RunwayDesk$State", name := "isNearFrozen", desc := "(II)Z" } : Jvm.MethodName)) ∈ am_ws := am_in (List.mem_of_getElem? (i := 440) (by decide +kernel)) rfl
theorem tw_441 : (Jvm.Cond.code ({ cls := "RunwayDesk$State", name := "isNearFrozen", desc := "(II)Z" } : Jvm.MethodName) prog_3_method_14_code (4 : Nat) (Option.some Jvm.ClassFile.FieldType.boolean)) ∈ am_ws := am_in (List.mem_of_getElem? (i := 441) (by decide +kernel)) rfl
theorem tw_442 : (Jvm.Cond.methodLink "RunwayDesk$State" (89 : Nat) ({ cls := "RunwayDesk$State", name := "isTooNear", desc := "(IIII)Z" } : Jvm.MethodName)) ∈ am_ws := am_in (List.mem_of_getElem? (i := 442) (by decide +kernel)) rfl
theorem tw_444 : (Jvm.Cond.instanceMethod ({ cls := "RunwayDesk$State", name := "isTooNear", desc := "(IIII)Z" } : Jvm.MethodName)) ∈ am_ws := am_in (List.mem_of_getElem? (i := 444) (by decide +kernel)) rfl
theorem tw_445 : (Jvm.Cond.code ({ cls := "RunwayDesk$State", name := "isTooNear", desc := "(IIII)Z" } : Jvm.MethodName) prog_3_method_15_code (5 : Nat) (Option.some Jvm.ClassFile.FieldType.boolean)) ∈ am_ws := am_in (List.mem_of_getElem? (i := 445) (by decide +kernel)) rfl
theorem tw_446 : (Jvm.Cond.methodLink "RunwayDeskLaw" (105 : Nat) ({ cls := "RunwayDeskLaw", name := "thaw", desc := "(LRunwayDesk;I[J)I" } : Jvm.MethodName)) ∈ am_ws := am_in (List.mem_of_getElem? (i := 446) (by decide +kernel)) rfl
theorem tw_447 : (Jvm.Cond.static ({ cls := "RunwayDeskLaw", name := "thaw", desc := "(LRunwayDesk;I[J)I" } : Jvm.MethodName)) ∈ am_ws := am_in (List.mem_of_getElem? (i := 447) (by decide +kernel)) rfl
theorem tw_448 : (Jvm.Cond.codeWith ({ cls := "RunwayDeskLaw", name := "thaw", desc := "(LRunwayDesk;I[J)I" } : Jvm.MethodName) method_10_code (4 : Nat) (Option.some Jvm.ClassFile.FieldType.int) [((0 : Nat), (16 : Nat), (19 : Nat), (25 : Nat))]) ∈ am_ws := am_in (List.mem_of_getElem? (i := 448) (by decide +kernel)) rfl
theorem tw_449 : (Jvm.Cond.methodLink "RunwayDeskLaw" (41 : Nat) ({ cls := "RunwayDesk", name := "thaw", desc := "(I)Z" } : Jvm.MethodName)) ∈ am_ws := am_in (List.mem_of_getElem? (i := 449) (by decide +kernel)) rfl
theorem tw_450 : (Jvm.Cond.instanceMethod ({ cls := "RunwayDesk", name := "thaw", desc := "(I)Z" } : Jvm.MethodName)) ∈ am_ws := am_in (List.mem_of_getElem? (i := 450) (by decide +kernel)) rfl
theorem tw_451 : (Jvm.Cond.selects "RunwayDesk" ({ cls := "RunwayDesk", name := "thaw", desc := "(I)Z" } : Jvm.MethodName) ({ cls := "RunwayDesk", name := "thaw", desc := "(I)Z" } : Jvm.MethodName)) ∈ am_ws := am_in (List.mem_of_getElem? (i := 451) (by decide +kernel)) rfl
theorem tw_452 : (Jvm.Cond.code ({ cls := "RunwayDesk", name := "thaw", desc := "(I)Z" } : Jvm.MethodName) prog_1_method_10_code (3 : Nat) (Option.some Jvm.ClassFile.FieldType.boolean)) ∈ am_ws := am_in (List.mem_of_getElem? (i := 452) (by decide +kernel)) rfl
theorem tw_453 : (Jvm.Cond.methodLink "RunwayDesk" (114 : Nat) ({ cls := "RunwayDesk$State", name := "isFrozen", desc := "(I)Z" } : Jvm.MethodName)) ∈ am_ws := am_in (List.mem_of_getElem? (i := 453) (by decide +kernel)) rfl
theorem tw_454 : (Jvm.Cond.methodLink "RunwayDeskLaw" (112 : Nat) ({ cls := "RunwayDeskLaw", name := "whatIf", desc := "(LRunwayDesk;II[J)I" } : Jvm.MethodName)) ∈ am_ws := am_in (List.mem_of_getElem? (i := 454) (by decide +kernel)) rfl
theorem tw_455 : (Jvm.Cond.static ({ cls := "RunwayDeskLaw", name := "whatIf", desc := "(LRunwayDesk;II[J)I" } : Jvm.MethodName)) ∈ am_ws := am_in (List.mem_of_getElem? (i := 455) (by decide +kernel)) rfl
theorem tw_456 : (Jvm.Cond.codeWith ({ cls := "RunwayDeskLaw", name := "whatIf", desc := "(LRunwayDesk;II[J)I" } : Jvm.MethodName) method_11_code (5 : Nat) (Option.some Jvm.ClassFile.FieldType.int) [((0 : Nat), (10 : Nat), (13 : Nat), (25 : Nat)), ((0 : Nat), (10 : Nat), (17 : Nat), (13 : Nat))]) ∈ am_ws := am_in (List.mem_of_getElem? (i := 456) (by decide +kernel)) rfl
theorem tw_457 : (Jvm.Cond.methodLink "RunwayDeskLaw" (45 : Nat) ({ cls := "RunwayDesk", name := "whatIf", desc := "(II)I" } : Jvm.MethodName)) ∈ am_ws := am_in (List.mem_of_getElem? (i := 457) (by decide +kernel)) rfl
theorem tw_458 : (Jvm.Cond.instanceMethod ({ cls := "RunwayDesk", name := "whatIf", desc := "(II)I" } : Jvm.MethodName)) ∈ am_ws := am_in (List.mem_of_getElem? (i := 458) (by decide +kernel)) rfl
theorem tw_459 : (Jvm.Cond.selects "RunwayDesk" ({ cls := "RunwayDesk", name := "whatIf", desc := "(II)I" } : Jvm.MethodName) ({ cls := "RunwayDesk", name := "whatIf", desc := "(II)I" } : Jvm.MethodName)) ∈ am_ws := am_in (List.mem_of_getElem? (i := 459) (by decide +kernel)) rfl
theorem tw_460 : (Jvm.Cond.code ({ cls := "RunwayDesk", name := "whatIf", desc := "(II)I" } : Jvm.MethodName) prog_1_method_12_code (5 : Nat) (Option.some Jvm.ClassFile.FieldType.int)) ∈ am_ws := am_in (List.mem_of_getElem? (i := 460) (by decide +kernel)) rfl
theorem tw_461 : (Jvm.Cond.methodLink "RunwayDeskLaw" (115 : Nat) ({ cls := "RunwayDeskLaw", name := "second", desc := "(LRunwayDesk;I[J)I" } : Jvm.MethodName)) ∈ am_ws := am_in (List.mem_of_getElem? (i := 461) (by decide +kernel)) rfl
theorem tw_462 : (Jvm.Cond.static ({ cls := "RunwayDeskLaw", name := "second", desc := "(LRunwayDesk;I[J)I" } : Jvm.MethodName)) ∈ am_ws := am_in (List.mem_of_getElem? (i := 462) (by decide +kernel)) rfl
theorem tw_463 : (Jvm.Cond.codeWith ({ cls := "RunwayDeskLaw", name := "second", desc := "(LRunwayDesk;I[J)I" } : Jvm.MethodName) method_12_code (4 : Nat) (Option.some Jvm.ClassFile.FieldType.int) [((0 : Nat), (9 : Nat), (12 : Nat), (25 : Nat)), ((0 : Nat), (9 : Nat), (15 : Nat), (19 : Nat))]) ∈ am_ws := am_in (List.mem_of_getElem? (i := 463) (by decide +kernel)) rfl
theorem tw_464 : (Jvm.Cond.methodLink "RunwayDeskLaw" (48 : Nat) ({ cls := "RunwayDesk", name := "second", desc := "(I)I" } : Jvm.MethodName)) ∈ am_ws := am_in (List.mem_of_getElem? (i := 464) (by decide +kernel)) rfl
theorem tw_465 : (Jvm.Cond.instanceMethod ({ cls := "RunwayDesk", name := "second", desc := "(I)I" } : Jvm.MethodName)) ∈ am_ws := am_in (List.mem_of_getElem? (i := 465) (by decide +kernel)) rfl
theorem tw_466 : (Jvm.Cond.selects "RunwayDesk" ({ cls := "RunwayDesk", name := "second", desc := "(I)I" } : Jvm.MethodName) ({ cls := "RunwayDesk", name := "second", desc := "(I)I" } : Jvm.MethodName)) ∈ am_ws := am_in (List.mem_of_getElem? (i := 466) (by decide +kernel)) rfl
theorem tw_467 : (Jvm.Cond.code ({ cls := "RunwayDesk", name := "second", desc := "(I)I" } : Jvm.MethodName) prog_1_method_13_code (2 : Nat) (Option.some Jvm.ClassFile.FieldType.int)) ∈ am_ws := am_in (List.mem_of_getElem? (i := 467) (by decide +kernel)) rfl
theorem tw_468 : (Jvm.Cond.methodLink "RunwayDeskLaw" (118 : Nat) ({ cls := "RunwayDeskLaw", name := "at", desc := "(LRunwayDesk;I[J)I" } : Jvm.MethodName)) ∈ am_ws := am_in (List.mem_of_getElem? (i := 468) (by decide +kernel)) rfl
theorem tw_469 : (Jvm.Cond.static ({ cls := "RunwayDeskLaw", name := "at", desc := "(LRunwayDesk;I[J)I" } : Jvm.MethodName)) ∈ am_ws := am_in (List.mem_of_getElem? (i := 469) (by decide +kernel)) rfl
theorem tw_470 : (Jvm.Cond.codeWith ({ cls := "RunwayDeskLaw", name := "at", desc := "(LRunwayDesk;I[J)I" } : Jvm.MethodName) method_13_code (4 : Nat) (Option.some Jvm.ClassFile.FieldType.int) [((0 : Nat), (9 : Nat), (12 : Nat), (54 : Nat))]) ∈ am_ws := am_in (List.mem_of_getElem? (i := 470) (by decide +kernel)) rfl
theorem tw_471 : (Jvm.Cond.classLink "RunwayDeskLaw" (54 : Nat) "java/lang/IndexOutOfBoundsException") ∈ am_ws := am_in (List.mem_of_getElem? (i := 471) (by decide +kernel)) rfl
theorem tw_472 : (Jvm.Cond.methodLink "RunwayDeskLaw" (51 : Nat) ({ cls := "RunwayDesk", name := "at", desc := "(I)I" } : Jvm.MethodName)) ∈ am_ws := am_in (List.mem_of_getElem? (i := 472) (by decide +kernel)) rfl
theorem tw_473 : (Jvm.Cond.instanceMethod ({ cls := "RunwayDesk", name := "at", desc := "(I)I" } : Jvm.MethodName)) ∈ am_ws := am_in (List.mem_of_getElem? (i := 473) (by decide +kernel)) rfl
theorem tw_474 : (Jvm.Cond.selects "RunwayDesk" ({ cls := "RunwayDesk", name := "at", desc := "(I)I" } : Jvm.MethodName) ({ cls := "RunwayDesk", name := "at", desc := "(I)I" } : Jvm.MethodName)) ∈ am_ws := am_in (List.mem_of_getElem? (i := 474) (by decide +kernel)) rfl
theorem tw_475 : (Jvm.Cond.code ({ cls := "RunwayDesk", name := "at", desc := "(I)I" } : Jvm.MethodName) prog_1_method_14_code (3 : Nat) (Option.some Jvm.ClassFile.FieldType.int)) ∈ am_ws := am_in (List.mem_of_getElem? (i := 475) (by decide +kernel)) rfl
theorem tw_476 : (Jvm.Cond.methodLink "RunwayDesk" (125 : Nat) ({ cls := "RunwayDesk", name := "placeIn", desc := "([II)I" } : Jvm.MethodName)) ∈ am_ws := am_in (List.mem_of_getElem? (i := 476) (by decide +kernel)) rfl
theorem tw_477 : (Jvm.Cond.classLink "RunwayDesk" (129 : Nat) "java/lang/IndexOutOfBoundsException") ∈ am_ws := am_in (List.mem_of_getElem? (i := 477) (by decide +kernel)) rfl
theorem tw_478 : (Jvm.Cond.instantiable "java/lang/IndexOutOfBoundsException" (6 : Nat)) ∈ am_ws := am_in (List.mem_of_getElem? (i := 478) (by decide +kernel)) rfl
theorem tw_479 : (Jvm.Cond.castable "java/lang/IndexOutOfBoundsException" "java/lang/IndexOutOfBoundsException") ∈ am_ws := am_in (List.mem_of_getElem? (i := 479) (by decide +kernel)) rfl
theorem tw_492 : (Jvm.Cond.methodLink "RunwayDeskLaw" (121 : Nat) ({ cls := "RunwayDeskLaw", name := "place", desc := "(LRunwayDesk;I[J)I" } : Jvm.MethodName)) ∈ am_ws := am_in (List.mem_of_getElem? (i := 492) (by decide +kernel)) rfl
theorem tw_493 : (Jvm.Cond.static ({ cls := "RunwayDeskLaw", name := "place", desc := "(LRunwayDesk;I[J)I" } : Jvm.MethodName)) ∈ am_ws := am_in (List.mem_of_getElem? (i := 493) (by decide +kernel)) rfl
theorem tw_494 : (Jvm.Cond.codeWith ({ cls := "RunwayDeskLaw", name := "place", desc := "(LRunwayDesk;I[J)I" } : Jvm.MethodName) method_14_code (4 : Nat) (Option.some Jvm.ClassFile.FieldType.int) [((0 : Nat), (9 : Nat), (12 : Nat), (25 : Nat))]) ∈ am_ws := am_in (List.mem_of_getElem? (i := 494) (by decide +kernel)) rfl
theorem tw_495 : (Jvm.Cond.methodLink "RunwayDeskLaw" (56 : Nat) ({ cls := "RunwayDesk", name := "place", desc := "(I)I" } : Jvm.MethodName)) ∈ am_ws := am_in (List.mem_of_getElem? (i := 495) (by decide +kernel)) rfl
theorem tw_496 : (Jvm.Cond.instanceMethod ({ cls := "RunwayDesk", name := "place", desc := "(I)I" } : Jvm.MethodName)) ∈ am_ws := am_in (List.mem_of_getElem? (i := 496) (by decide +kernel)) rfl
theorem tw_497 : (Jvm.Cond.selects "RunwayDesk" ({ cls := "RunwayDesk", name := "place", desc := "(I)I" } : Jvm.MethodName) ({ cls := "RunwayDesk", name := "place", desc := "(I)I" } : Jvm.MethodName)) ∈ am_ws := am_in (List.mem_of_getElem? (i := 497) (by decide +kernel)) rfl
theorem tw_498 : (Jvm.Cond.code ({ cls := "RunwayDesk", name := "place", desc := "(I)I" } : Jvm.MethodName) prog_1_method_15_code (2 : Nat) (Option.some Jvm.ClassFile.FieldType.int)) ∈ am_ws := am_in (List.mem_of_getElem? (i := 498) (by decide +kernel)) rfl
theorem tw_499 : (Jvm.Cond.methodLink "RunwayDesk" (132 : Nat) ({ cls := "RunwayDesk$State", name := "firstComePlace", desc := "(I)I" } : Jvm.MethodName)) ∈ am_ws := am_in (List.mem_of_getElem? (i := 499) (by decide +kernel)) rfl
theorem tw_500 : (Jvm.Cond.methodLink "RunwayDeskLaw" (136 : Nat) ({ cls := "RunwayDeskLaw", name := "slack", desc := "(LRunwayDesk;I[J)I" } : Jvm.MethodName)) ∈ am_ws := am_in (List.mem_of_getElem? (i := 500) (by decide +kernel)) rfl
theorem tw_501 : (Jvm.Cond.static ({ cls := "RunwayDeskLaw", name := "slack", desc := "(LRunwayDesk;I[J)I" } : Jvm.MethodName)) ∈ am_ws := am_in (List.mem_of_getElem? (i := 501) (by decide +kernel)) rfl
theorem tw_502 : (Jvm.Cond.codeWith ({ cls := "RunwayDeskLaw", name := "slack", desc := "(LRunwayDesk;I[J)I" } : Jvm.MethodName) method_15_code (4 : Nat) (Option.some Jvm.ClassFile.FieldType.int) [((0 : Nat), (9 : Nat), (12 : Nat), (25 : Nat)), ((0 : Nat), (9 : Nat), (15 : Nat), (19 : Nat))]) ∈ am_ws := am_in (List.mem_of_getElem? (i := 502) (by decide +kernel)) rfl
theorem tw_503 : (Jvm.Cond.methodLink "RunwayDeskLaw" (59 : Nat) ({ cls := "RunwayDesk", name := "slack", desc := "(I)I" } : Jvm.MethodName)) ∈ am_ws := am_in (List.mem_of_getElem? (i := 503) (by decide +kernel)) rfl
theorem tw_504 : (Jvm.Cond.instanceMethod ({ cls := "RunwayDesk", name := "slack", desc := "(I)I" } : Jvm.MethodName)) ∈ am_ws := am_in (List.mem_of_getElem? (i := 504) (by decide +kernel)) rfl
theorem tw_505 : (Jvm.Cond.selects "RunwayDesk" ({ cls := "RunwayDesk", name := "slack", desc := "(I)I" } : Jvm.MethodName) ({ cls := "RunwayDesk", name := "slack", desc := "(I)I" } : Jvm.MethodName)) ∈ am_ws := am_in (List.mem_of_getElem? (i := 505) (by decide +kernel)) rfl
theorem tw_506 : (Jvm.Cond.code ({ cls := "RunwayDesk", name := "slack", desc := "(I)I" } : Jvm.MethodName) prog_1_method_19_code (2 : Nat) (Option.some Jvm.ClassFile.FieldType.int)) ∈ am_ws := am_in (List.mem_of_getElem? (i := 506) (by decide +kernel)) rfl
theorem tw_507 : (Jvm.Cond.methodLink "RunwayDesk" (146 : Nat) ({ cls := "RunwayDesk", name := "latestSound", desc := "(I)I" } : Jvm.MethodName)) ∈ am_ws := am_in (List.mem_of_getElem? (i := 507) (by decide +kernel)) rfl
theorem tw_509 : (Jvm.Cond.instanceMethod ({ cls := "RunwayDesk", name := "latestSound", desc := "(I)I" } : Jvm.MethodName)) ∈ am_ws := am_in (List.mem_of_getElem? (i := 509) (by decide +kernel)) rfl
theorem tw_510 : (Jvm.Cond.code ({ cls := "RunwayDesk", name := "latestSound", desc := "(I)I" } : Jvm.MethodName) prog_1_method_26_code (4 : Nat) (Option.some Jvm.ClassFile.FieldType.int)) ∈ am_ws := am_in (List.mem_of_getElem? (i := 510) (by decide +kernel)) rfl
theorem tw_511 : (Jvm.Cond.methodLink "RunwayDesk" (170 : Nat) ({ cls := "RunwayDesk", name := "laterIfSound", desc := "(III)I" } : Jvm.MethodName)) ∈ am_ws := am_in (List.mem_of_getElem? (i := 511) (by decide +kernel)) rfl
theorem tw_513 : (Jvm.Cond.instanceMethod ({ cls := "RunwayDesk", name := "laterIfSound", desc := "(III)I" } : Jvm.MethodName)) ∈ am_ws := am_in (List.mem_of_getElem? (i := 513) (by decide +kernel)) rfl
theorem tw_514 : (Jvm.Cond.code ({ cls := "RunwayDesk", name := "laterIfSound", desc := "(III)I" } : Jvm.MethodName) prog_1_method_27_code (4 : Nat) (Option.some Jvm.ClassFile.FieldType.int)) ∈ am_ws := am_in (List.mem_of_getElem? (i := 514) (by decide +kernel)) rfl
theorem tw_515 : (Jvm.Cond.methodLink "RunwayDesk" (174 : Nat) ({ cls := "RunwayDesk$State", name := "gapBehind", desc := "(II)I" } : Jvm.MethodName)) ∈ am_ws := am_in (List.mem_of_getElem? (i := 515) (by decide +kernel)) rfl
theorem tw_516 : (Jvm.Cond.methodLink "RunwayDeskLaw" (143 : Nat) ({ cls := "RunwayDeskLaw", name := "change", desc := "(LRunwayDesk;II[J)I" } : Jvm.MethodName)) ∈ am_ws := am_in (List.mem_of_getElem? (i := 516) (by decide +kernel)) rfl
theorem tw_517 : (Jvm.Cond.static ({ cls := "RunwayDeskLaw", name := "change", desc := "(LRunwayDesk;II[J)I" } : Jvm.MethodName)) ∈ am_ws := am_in (List.mem_of_getElem? (i := 517) (by decide +kernel)) rfl
theorem tw_518 : (Jvm.Cond.codeWith ({ cls := "RunwayDeskLaw", name := "change", desc := "(LRunwayDesk;II[J)I" } : Jvm.MethodName) method_16_code (5 : Nat) (Option.some Jvm.ClassFile.FieldType.int) [((0 : Nat), (10 : Nat), (13 : Nat), (54 : Nat)), ((0 : Nat), (10 : Nat), (17 : Nat), (13 : Nat))]) ∈ am_ws := am_in (List.mem_of_getElem? (i := 518) (by decide +kernel)) rfl
theorem tw_519 : (Jvm.Cond.methodLink "RunwayDeskLaw" (62 : Nat) ({ cls := "RunwayDesk", name := "change", desc := "(II)I" } : Jvm.MethodName)) ∈ am_ws := am_in (List.mem_of_getElem? (i := 519) (by decide +kernel)) rfl
theorem tw_520 : (Jvm.Cond.instanceMethod ({ cls := "RunwayDesk", name := "change", desc := "(II)I" } : Jvm.MethodName)) ∈ am_ws := am_in (List.mem_of_getElem? (i := 520) (by decide +kernel)) rfl
theorem tw_521 : (Jvm.Cond.selects "RunwayDesk" ({ cls := "RunwayDesk", name := "change", desc := "(II)I" } : Jvm.MethodName) ({ cls := "RunwayDesk", name := "change", desc := "(II)I" } : Jvm.MethodName)) ∈ am_ws := am_in (List.mem_of_getElem? (i := 521) (by decide +kernel)) rfl
theorem tw_522 : (Jvm.Cond.code ({ cls := "RunwayDesk", name := "change", desc := "(II)I" } : Jvm.MethodName) prog_1_method_21_code (4 : Nat) (Option.some Jvm.ClassFile.FieldType.int)) ∈ am_ws := am_in (List.mem_of_getElem? (i := 522) (by decide +kernel)) rfl
theorem tw_523 : (Jvm.Cond.methodLink "RunwayDesk" (158 : Nat) ({ cls := "RunwayDesk", name := "changed", desc := "(I)I" } : Jvm.MethodName)) ∈ am_ws := am_in (List.mem_of_getElem? (i := 523) (by decide +kernel)) rfl
theorem tw_525 : (Jvm.Cond.instanceMethod ({ cls := "RunwayDesk", name := "changed", desc := "(I)I" } : Jvm.MethodName)) ∈ am_ws := am_in (List.mem_of_getElem? (i := 525) (by decide +kernel)) rfl
theorem tw_526 : (Jvm.Cond.code ({ cls := "RunwayDesk", name := "changed", desc := "(I)I" } : Jvm.MethodName) prog_1_method_25_code (4 : Nat) (Option.some Jvm.ClassFile.FieldType.int)) ∈ am_ws := am_in (List.mem_of_getElem? (i := 526) (by decide +kernel)) rfl
theorem tw_527 : (Jvm.Cond.classLink "RunwayDeskLaw" (66 : Nat) "RunwayDeskModel") ∈ am_ws := am_in (List.mem_of_getElem? (i := 527) (by decide +kernel)) rfl
theorem tw_528 : (Jvm.Cond.instantiable "RunwayDeskModel" (22 : Nat)) ∈ am_ws := am_in (List.mem_of_getElem? (i := 528) (by decide +kernel)) rfl
theorem tw_529 : (Jvm.Cond.methodLink "RunwayDeskLaw" (68 : Nat) ({ cls := "RunwayDeskModel", name := "<init>", desc := "()V" } : Jvm.MethodName)) ∈ am_ws := am_in (List.mem_of_getElem? (i := 529) (by decide +kernel)) rfl
theorem tw_530 : (Jvm.Cond.instanceMethod ({ cls := "RunwayDeskModel", name := "<init>", desc := "()V" } : Jvm.MethodName)) ∈ am_ws := am_in (List.mem_of_getElem? (i := 530) (by decide +kernel)) rfl
theorem tw_531 : (Jvm.Cond.code ({ cls := "RunwayDeskModel", name := "<init>", desc := "()V" } : Jvm.MethodName) prog_5_method_1_code (2 : Nat) (Option.none : Option Jvm.ClassFile.FieldType)) ∈ am_ws := am_in (List.mem_of_getElem? (i := 531) (by decide +kernel)) rfl
theorem tw_532 : (Jvm.Cond.methodLink "RunwayDeskModel" (1 : Nat) ({ cls := "java/lang/Object", name := "<init>", desc := "()V" } : Jvm.MethodName)) ∈ am_ws := am_in (List.mem_of_getElem? (i := 532) (by decide +kernel)) rfl
theorem tw_533 : (Jvm.Cond.fieldLink "RunwayDeskModel" (69 : Nat) "RunwayDeskModel" "thrown" "I") ∈ am_ws := am_in (List.mem_of_getElem? (i := 533) (by decide +kernel)) rfl
theorem tw_534 : (Jvm.Cond.fieldLink "RunwayDeskModel" (7 : Nat) "RunwayDeskModel" "there" "[Z") ∈ am_ws := am_in (List.mem_of_getElem? (i := 534) (by decide +kernel)) rfl
theorem tw_535 : (Jvm.Cond.fieldLink "RunwayDeskModel" (13 : Nat) "RunwayDeskModel" "types" "[I") ∈ am_ws := am_in (List.mem_of_getElem? (i := 535) (by decide +kernel)) rfl
theorem tw_536 : (Jvm.Cond.fieldLink "RunwayDeskModel" (17 : Nat) "RunwayDeskModel" "earlies" "[I") ∈ am_ws := am_in (List.mem_of_getElem? (i := 536) (by decide +kernel)) rfl
theorem tw_537 : (Jvm.Cond.fieldLink "RunwayDeskModel" (20 : Nat) "RunwayDeskModel" "targets" "[I") ∈ am_ws := am_in (List.mem_of_getElem? (i := 537) (by decide +kernel)) rfl
theorem tw_538 : (Jvm.Cond.fieldLink "RunwayDeskModel" (23 : Nat) "RunwayDeskModel" "lates" "[I") ∈ am_ws := am_in (List.mem_of_getElem? (i := 538) (by decide +kernel)) rfl
theorem tw_539 : (Jvm.Cond.fieldLink "RunwayDeskModel" (26 : Nat) "RunwayDeskModel" "weights" "[I") ∈ am_ws := am_in (List.mem_of_getElem? (i := 539) (by decide +kernel)) rfl
theorem tw_540 : (Jvm.Cond.fieldLink "RunwayDeskModel" (29 : Nat) "RunwayDeskModel" "frozen" "[I") ∈ am_ws := am_in (List.mem_of_getElem? (i := 540) (by decide +kernel)) rfl
theorem tw_541 : (Jvm.Cond.fieldLink "RunwayDeskModel" (32 : Nat) "RunwayDeskModel" "gaps" "[I") ∈ am_ws := am_in (List.mem_of_getElem? (i := 541) (by decide +kernel)) rfl
theorem tw_542 : (Jvm.Cond.fieldLink "RunwayDeskModel" (83 : Nat) "RunwayDeskModel" "closures" "I") ∈ am_ws := am_in (List.mem_of_getElem? (i := 542) (by decide +kernel)) rfl
theorem tw_543 : (Jvm.Cond.fieldLink "RunwayDeskModel" (35 : Nat) "RunwayDeskModel" "froms" "[I") ∈ am_ws := am_in (List.mem_of_getElem? (i := 543) (by decide +kernel)) rfl
theorem tw_544 : (Jvm.Cond.fieldLink "RunwayDeskModel" (38 : Nat) "RunwayDeskModel" "tos" "[I") ∈ am_ws := am_in (List.mem_of_getElem? (i := 544) (by decide +kernel)) rfl
theorem tw_545 : (Jvm.Cond.fieldLink "RunwayDeskModel" (41 : Nat) "RunwayDeskModel" "most" "I") ∈ am_ws := am_in (List.mem_of_getElem? (i := 545) (by decide +kernel)) rfl
theorem tw_546 : (Jvm.Cond.fieldLink "RunwayDeskModel" (45 : Nat) "RunwayDeskModel" "result" "[I") ∈ am_ws := am_in (List.mem_of_getElem? (i := 546) (by decide +kernel)) rfl
theorem tw_547 : (Jvm.Cond.fieldLink "RunwayDeskModel" (48 : Nat) "RunwayDeskModel" "accepted" "[I") ∈ am_ws := am_in (List.mem_of_getElem? (i := 547) (by decide +kernel)) rfl
theorem tw_548 : (Jvm.Cond.fieldLink "RunwayDeskModel" (93 : Nat) "RunwayDeskModel" "many" "I") ∈ am_ws := am_in (List.mem_of_getElem? (i := 548) (by decide +kernel)) rfl
theorem tw_549 : (Jvm.Cond.fieldLink "RunwayDeskModel" (51 : Nat) "RunwayDeskModel" "order" "[I") ∈ am_ws := am_in (List.mem_of_getElem? (i := 549) (by decide +kernel)) rfl
theorem tw_550 : (Jvm.Cond.fieldLink "RunwayDeskModel" (54 : Nat) "RunwayDeskModel" "tried" "[I") ∈ am_ws := am_in (List.mem_of_getElem? (i := 550) (by decide +kernel)) rfl
theorem tw_551 : (Jvm.Cond.fieldLink "RunwayDeskModel" (57 : Nat) "RunwayDeskModel" "used" "[Z") ∈ am_ws := am_in (List.mem_of_getElem? (i := 551) (by decide +kernel)) rfl
theorem tw_552 : (Jvm.Cond.fieldLink "RunwayDeskModel" (60 : Nat) "RunwayDeskModel" "seconds" "[I") ∈ am_ws := am_in (List.mem_of_getElem? (i := 552) (by decide +kernel)) rfl
theorem tw_553 : (Jvm.Cond.fieldLink "RunwayDeskModel" (63 : Nat) "RunwayDeskModel" "costs" "[I") ∈ am_ws := am_in (List.mem_of_getElem? (i := 553) (by decide +kernel)) rfl
theorem tw_554 : (Jvm.Cond.fieldLink "RunwayDeskModel" (66 : Nat) "RunwayDeskModel" "best" "[I") ∈ am_ws := am_in (List.mem_of_getElem? (i := 554) (by decide +kernel)) rfl
theorem tw_600 : (Jvm.Cond.methodLink "RunwayDeskLaw" (75 : Nat) ({ cls := "RunwayDeskModel", name := "thrown", desc := "()I" } : Jvm.MethodName)) ∈ am_ws := am_in (List.mem_of_getElem? (i := 600) (by decide +kernel)) rfl
theorem tw_601 : (Jvm.Cond.instanceMethod ({ cls := "RunwayDeskModel", name := "thrown", desc := "()I" } : Jvm.MethodName)) ∈ am_ws := am_in (List.mem_of_getElem? (i := 601) (by decide +kernel)) rfl
theorem tw_602 : (Jvm.Cond.selects "RunwayDeskModel" ({ cls := "RunwayDeskModel", name := "thrown", desc := "()I" } : Jvm.MethodName) ({ cls := "RunwayDeskModel", name := "thrown", desc := "()I" } : Jvm.MethodName)) ∈ am_ws := am_in (List.mem_of_getElem? (i := 602) (by decide +kernel)) rfl
theorem tw_603 : (Jvm.Cond.code ({ cls := "RunwayDeskModel", name := "thrown", desc := "()I" } : Jvm.MethodName) prog_5_method_2_code (1 : Nat) (Option.some Jvm.ClassFile.FieldType.int)) ∈ am_ws := am_in (List.mem_of_getElem? (i := 603) (by decide +kernel)) rfl
theorem tw_604 : (Jvm.Cond.methodLink "RunwayDeskLaw" (74 : Nat) ({ cls := "RunwayDeskModel", name := "gap", desc := "(III)I" } : Jvm.MethodName)) ∈ am_ws := am_in (List.mem_of_getElem? (i := 604) (by decide +kernel)) rfl
theorem tw_605 : (Jvm.Cond.instanceMethod ({ cls := "RunwayDeskModel", name := "gap", desc := "(III)I" } : Jvm.MethodName)) ∈ am_ws := am_in (List.mem_of_getElem? (i := 605) (by decide +kernel)) rfl
theorem tw_606 : (Jvm.Cond.selects "RunwayDeskModel" ({ cls := "RunwayDeskModel", name := "gap", desc := "(III)I" } : Jvm.MethodName) ({ cls := "RunwayDeskModel", name := "gap", desc := "(III)I" } : Jvm.MethodName)) ∈ am_ws := am_in (List.mem_of_getElem? (i := 606) (by decide +kernel)) rfl
theorem tw_607 : (Jvm.Cond.code ({ cls := "RunwayDeskModel", name := "gap", desc := "(III)I" } : Jvm.MethodName) prog_5_method_6_code (6 : Nat) (Option.some Jvm.ClassFile.FieldType.int)) ∈ am_ws := am_in (List.mem_of_getElem? (i := 607) (by decide +kernel)) rfl
theorem tw_608 : (Jvm.Cond.methodLink "RunwayDeskLaw" (82 : Nat) ({ cls := "RunwayDeskModel", name := "add", desc := "(IIIII)I" } : Jvm.MethodName)) ∈ am_ws := am_in (List.mem_of_getElem? (i := 608) (by decide +kernel)) rfl
theorem tw_609 : (Jvm.Cond.instanceMethod ({ cls := "RunwayDeskModel", name := "add", desc := "(IIIII)I" } : Jvm.MethodName)) ∈ am_ws := am_in (List.mem_of_getElem? (i := 609) (by decide +kernel)) rfl
theorem tw_610 : (Jvm.Cond.selects "RunwayDeskModel" ({ cls := "RunwayDeskModel", name := "add", desc := "(IIIII)I" } : Jvm.MethodName) ({ cls := "RunwayDeskModel", name := "add", desc := "(IIIII)I" } : Jvm.MethodName)) ∈ am_ws := am_in (List.mem_of_getElem? (i := 610) (by decide +kernel)) rfl
theorem tw_611 : (Jvm.Cond.code ({ cls := "RunwayDeskModel", name := "add", desc := "(IIIII)I" } : Jvm.MethodName) prog_5_method_7_code (9 : Nat) (Option.some Jvm.ClassFile.FieldType.int)) ∈ am_ws := am_in (List.mem_of_getElem? (i := 611) (by decide +kernel)) rfl
theorem tw_612 : (Jvm.Cond.methodLink "RunwayDeskModel" (72 : Nat) ({ cls := "RunwayDeskModel", name := "count", desc := "()I" } : Jvm.MethodName)) ∈ am_ws := am_in (List.mem_of_getElem? (i := 612) (by decide +kernel)) rfl
theorem tw_614 : (Jvm.Cond.instanceMethod ({ cls := "RunwayDeskModel", name := "count", desc := "()I" } : Jvm.MethodName)) ∈ am_ws := am_in (List.mem_of_getElem? (i := 614) (by decide +kernel)) rfl
theorem tw_615 : (Jvm.Cond.code ({ cls := "RunwayDeskModel", name := "count", desc := "()I" } : Jvm.MethodName) prog_5_method_5_code (3 : Nat) (Option.some Jvm.ClassFile.FieldType.int)) ∈ am_ws := am_in (List.mem_of_getElem? (i := 615) (by decide +kernel)) rfl
theorem tw_616 : (Jvm.Cond.methodLink "RunwayDeskLaw" (86 : Nat) ({ cls := "RunwayDeskModel", name := "remove", desc := "(I)I" } : Jvm.MethodName)) ∈ am_ws := am_in (List.mem_of_getElem? (i := 616) (by decide +kernel)) rfl
theorem tw_617 : (Jvm.Cond.instanceMethod ({ cls := "RunwayDeskModel", name := "remove", desc := "(I)I" } : Jvm.MethodName)) ∈ am_ws := am_in (List.mem_of_getElem? (i := 617) (by decide +kernel)) rfl
theorem tw_618 : (Jvm.Cond.selects "RunwayDeskModel" ({ cls := "RunwayDeskModel", name := "remove", desc := "(I)I" } : Jvm.MethodName) ({ cls := "RunwayDeskModel", name := "remove", desc := "(I)I" } : Jvm.MethodName)) ∈ am_ws := am_in (List.mem_of_getElem? (i := 618) (by decide +kernel)) rfl
theorem tw_619 : (Jvm.Cond.code ({ cls := "RunwayDeskModel", name := "remove", desc := "(I)I" } : Jvm.MethodName) prog_5_method_8_code (2 : Nat) (Option.some Jvm.ClassFile.FieldType.int)) ∈ am_ws := am_in (List.mem_of_getElem? (i := 619) (by decide +kernel)) rfl
theorem tw_620 : (Jvm.Cond.methodLink "RunwayDeskModel" (76 : Nat) ({ cls := "RunwayDeskModel", name := "isThere", desc := "(I)Z" } : Jvm.MethodName)) ∈ am_ws := am_in (List.mem_of_getElem? (i := 620) (by decide +kernel)) rfl
theorem tw_622 : (Jvm.Cond.instanceMethod ({ cls := "RunwayDeskModel", name := "isThere", desc := "(I)Z" } : Jvm.MethodName)) ∈ am_ws := am_in (List.mem_of_getElem? (i := 622) (by decide +kernel)) rfl
theorem tw_623 : (Jvm.Cond.code ({ cls := "RunwayDeskModel", name := "isThere", desc := "(I)Z" } : Jvm.MethodName) prog_5_method_3_code (2 : Nat) (Option.some Jvm.ClassFile.FieldType.boolean)) ∈ am_ws := am_in (List.mem_of_getElem? (i := 623) (by decide +kernel)) rfl
theorem tw_624 : (Jvm.Cond.methodLink "RunwayDeskLaw" (90 : Nat) ({ cls := "RunwayDeskModel", name := "retarget", desc := "(II)I" } : Jvm.MethodName)) ∈ am_ws := am_in (List.mem_of_getElem? (i := 624) (by decide +kernel)) rfl
theorem tw_625 : (Jvm.Cond.instanceMethod ({ cls := "RunwayDeskModel", name := "retarget", desc := "(II)I" } : Jvm.MethodName)) ∈ am_ws := am_in (List.mem_of_getElem? (i := 625) (by decide +kernel)) rfl
theorem tw_626 : (Jvm.Cond.selects "RunwayDeskModel" ({ cls := "RunwayDeskModel", name := "retarget", desc := "(II)I" } : Jvm.MethodName) ({ cls := "RunwayDeskModel", name := "retarget", desc := "(II)I" } : Jvm.MethodName)) ∈ am_ws := am_in (List.mem_of_getElem? (i := 626) (by decide +kernel)) rfl
theorem tw_627 : (Jvm.Cond.code ({ cls := "RunwayDeskModel", name := "retarget", desc := "(II)I" } : Jvm.MethodName) prog_5_method_9_code (4 : Nat) (Option.some Jvm.ClassFile.FieldType.int)) ∈ am_ws := am_in (List.mem_of_getElem? (i := 627) (by decide +kernel)) rfl
theorem tw_628 : (Jvm.Cond.methodLink "RunwayDeskLaw" (93 : Nat) ({ cls := "RunwayDeskModel", name := "limit", desc := "(I)I" } : Jvm.MethodName)) ∈ am_ws := am_in (List.mem_of_getElem? (i := 628) (by decide +kernel)) rfl
theorem tw_629 : (Jvm.Cond.instanceMethod ({ cls := "RunwayDeskModel", name := "limit", desc := "(I)I" } : Jvm.MethodName)) ∈ am_ws := am_in (List.mem_of_getElem? (i := 629) (by decide +kernel)) rfl
theorem tw_630 : (Jvm.Cond.selects "RunwayDeskModel" ({ cls := "RunwayDeskModel", name := "limit", desc := "(I)I" } : Jvm.MethodName) ({ cls := "RunwayDeskModel", name := "limit", desc := "(I)I" } : Jvm.MethodName)) ∈ am_ws := am_in (List.mem_of_getElem? (i := 630) (by decide +kernel)) rfl
theorem tw_631 : (Jvm.Cond.code ({ cls := "RunwayDeskModel", name := "limit", desc := "(I)I" } : Jvm.MethodName) prog_5_method_10_code (3 : Nat) (Option.some Jvm.ClassFile.FieldType.int)) ∈ am_ws := am_in (List.mem_of_getElem? (i := 631) (by decide +kernel)) rfl
theorem tw_632 : (Jvm.Cond.methodLink "RunwayDeskLaw" (96 : Nat) ({ cls := "RunwayDeskModel", name := "close", desc := "(II)I" } : Jvm.MethodName)) ∈ am_ws := am_in (List.mem_of_getElem? (i := 632) (by decide +kernel)) rfl
theorem tw_633 : (Jvm.Cond.instanceMethod ({ cls := "RunwayDeskModel", name := "close", desc := "(II)I" } : Jvm.MethodName)) ∈ am_ws := am_in (List.mem_of_getElem? (i := 633) (by decide +kernel)) rfl
theorem tw_634 : (Jvm.Cond.selects "RunwayDeskModel" ({ cls := "RunwayDeskModel", name := "close", desc := "(II)I" } : Jvm.MethodName) ({ cls := "RunwayDeskModel", name := "close", desc := "(II)I" } : Jvm.MethodName)) ∈ am_ws := am_in (List.mem_of_getElem? (i := 634) (by decide +kernel)) rfl
theorem tw_635 : (Jvm.Cond.code ({ cls := "RunwayDeskModel", name := "close", desc := "(II)I" } : Jvm.MethodName) prog_5_method_11_code (3 : Nat) (Option.some Jvm.ClassFile.FieldType.int)) ∈ am_ws := am_in (List.mem_of_getElem? (i := 635) (by decide +kernel)) rfl
theorem tw_636 : (Jvm.Cond.methodLink "RunwayDeskModel" (80 : Nat) ({ cls := "RunwayDeskModel", name := "isSecond", desc := "(I)Z" } : Jvm.MethodName)) ∈ am_ws := am_in (List.mem_of_getElem? (i := 636) (by decide +kernel)) rfl
theorem tw_637 : (Jvm.Cond.static ({ cls := "RunwayDeskModel", name := "isSecond", desc := "(I)Z" } : Jvm.MethodName)) ∈ am_ws := am_in (List.mem_of_getElem? (i := 637) (by decide +kernel)) rfl
theorem tw_638 : (Jvm.Cond.code ({ cls := "RunwayDeskModel", name := "isSecond", desc := "(I)Z" } : Jvm.MethodName) prog_5_method_4_code (1 : Nat) (Option.some Jvm.ClassFile.FieldType.boolean)) ∈ am_ws := am_in (List.mem_of_getElem? (i := 638) (by decide +kernel)) rfl
theorem tw_639 : (Jvm.Cond.methodLink "RunwayDeskLaw" (100 : Nat) ({ cls := "RunwayDeskModel", name := "reopen", desc := "()I" } : Jvm.MethodName)) ∈ am_ws := am_in (List.mem_of_getElem? (i := 639) (by decide +kernel)) rfl
theorem tw_640 : (Jvm.Cond.instanceMethod ({ cls := "RunwayDeskModel", name := "reopen", desc := "()I" } : Jvm.MethodName)) ∈ am_ws := am_in (List.mem_of_getElem? (i := 640) (by decide +kernel)) rfl
theorem tw_641 : (Jvm.Cond.selects "RunwayDeskModel" ({ cls := "RunwayDeskModel", name := "reopen", desc := "()I" } : Jvm.MethodName) ({ cls := "RunwayDeskModel", name := "reopen", desc := "()I" } : Jvm.MethodName)) ∈ am_ws := am_in (List.mem_of_getElem? (i := 641) (by decide +kernel)) rfl
theorem tw_642 : (Jvm.Cond.code ({ cls := "RunwayDeskModel", name := "reopen", desc := "()I" } : Jvm.MethodName) prog_5_method_12_code (2 : Nat) (Option.some Jvm.ClassFile.FieldType.int)) ∈ am_ws := am_in (List.mem_of_getElem? (i := 642) (by decide +kernel)) rfl
theorem tw_643 : (Jvm.Cond.methodLink "RunwayDeskLaw" (104 : Nat) ({ cls := "RunwayDeskModel", name := "freeze", desc := "(II)V" } : Jvm.MethodName)) ∈ am_ws := am_in (List.mem_of_getElem? (i := 643) (by decide +kernel)) rfl
theorem tw_644 : (Jvm.Cond.instanceMethod ({ cls := "RunwayDeskModel", name := "freeze", desc := "(II)V" } : Jvm.MethodName)) ∈ am_ws := am_in (List.mem_of_getElem? (i := 644) (by decide +kernel)) rfl
theorem tw_645 : (Jvm.Cond.selects "RunwayDeskModel" ({ cls := "RunwayDeskModel", name := "freeze", desc := "(II)V" } : Jvm.MethodName) ({ cls := "RunwayDeskModel", name := "freeze", desc := "(II)V" } : Jvm.MethodName)) ∈ am_ws := am_in (List.mem_of_getElem? (i := 645) (by decide +kernel)) rfl
theorem tw_646 : (Jvm.Cond.code ({ cls := "RunwayDeskModel", name := "freeze", desc := "(II)V" } : Jvm.MethodName) prog_5_method_15_code (4 : Nat) (Option.none : Option Jvm.ClassFile.FieldType)) ∈ am_ws := am_in (List.mem_of_getElem? (i := 646) (by decide +kernel)) rfl
theorem tw_647 : (Jvm.Cond.methodLink "RunwayDeskModel" (86 : Nat) ({ cls := "RunwayDeskModel", name := "isClosed", desc := "(I)Z" } : Jvm.MethodName)) ∈ am_ws := am_in (List.mem_of_getElem? (i := 647) (by decide +kernel)) rfl
theorem tw_649 : (Jvm.Cond.instanceMethod ({ cls := "RunwayDeskModel", name := "isClosed", desc := "(I)Z" } : Jvm.MethodName)) ∈ am_ws := am_in (List.mem_of_getElem? (i := 649) (by decide +kernel)) rfl
theorem tw_650 : (Jvm.Cond.code ({ cls := "RunwayDeskModel", name := "isClosed", desc := "(I)Z" } : Jvm.MethodName) prog_5_method_13_code (4 : Nat) (Option.some Jvm.ClassFile.FieldType.boolean)) ∈ am_ws := am_in (List.mem_of_getElem? (i := 650) (by decide +kernel)) rfl
theorem tw_651 : (Jvm.Cond.methodLink "RunwayDeskModel" (89 : Nat) ({ cls := "RunwayDeskModel", name := "areNear", desc := "(IIII)Z" } : Jvm.MethodName)) ∈ am_ws := am_in (List.mem_of_getElem? (i := 651) (by decide +kernel)) rfl
theorem tw_653 : (Jvm.Cond.instanceMethod ({ cls := "RunwayDeskModel", name := "areNear", desc := "(IIII)Z" } : Jvm.MethodName)) ∈ am_ws := am_in (List.mem_of_getElem? (i := 653) (by decide +kernel)) rfl
theorem tw_654 : (Jvm.Cond.code ({ cls := "RunwayDeskModel", name := "areNear", desc := "(IIII)Z" } : Jvm.MethodName) prog_5_method_14_code (5 : Nat) (Option.some Jvm.ClassFile.FieldType.boolean)) ∈ am_ws := am_in (List.mem_of_getElem? (i := 654) (by decide +kernel)) rfl
theorem tw_655 : (Jvm.Cond.methodLink "RunwayDeskLaw" (107 : Nat) ({ cls := "RunwayDeskModel", name := "thaw", desc := "(I)Z" } : Jvm.MethodName)) ∈ am_ws := am_in (List.mem_of_getElem? (i := 655) (by decide +kernel)) rfl
theorem tw_656 : (Jvm.Cond.instanceMethod ({ cls := "RunwayDeskModel", name := "thaw", desc := "(I)Z" } : Jvm.MethodName)) ∈ am_ws := am_in (List.mem_of_getElem? (i := 656) (by decide +kernel)) rfl
theorem tw_657 : (Jvm.Cond.selects "RunwayDeskModel" ({ cls := "RunwayDeskModel", name := "thaw", desc := "(I)Z" } : Jvm.MethodName) ({ cls := "RunwayDeskModel", name := "thaw", desc := "(I)Z" } : Jvm.MethodName)) ∈ am_ws := am_in (List.mem_of_getElem? (i := 657) (by decide +kernel)) rfl
theorem tw_658 : (Jvm.Cond.code ({ cls := "RunwayDeskModel", name := "thaw", desc := "(I)Z" } : Jvm.MethodName) prog_5_method_16_code (3 : Nat) (Option.some Jvm.ClassFile.FieldType.boolean)) ∈ am_ws := am_in (List.mem_of_getElem? (i := 658) (by decide +kernel)) rfl
theorem tw_659 : (Jvm.Cond.methodLink "RunwayDeskLaw" (111 : Nat) ({ cls := "RunwayDeskModel", name := "solve", desc := "()I" } : Jvm.MethodName)) ∈ am_ws := am_in (List.mem_of_getElem? (i := 659) (by decide +kernel)) rfl
theorem tw_660 : (Jvm.Cond.instanceMethod ({ cls := "RunwayDeskModel", name := "solve", desc := "()I" } : Jvm.MethodName)) ∈ am_ws := am_in (List.mem_of_getElem? (i := 660) (by decide +kernel)) rfl
theorem tw_661 : (Jvm.Cond.selects "RunwayDeskModel" ({ cls := "RunwayDeskModel", name := "solve", desc := "()I" } : Jvm.MethodName) ({ cls := "RunwayDeskModel", name := "solve", desc := "()I" } : Jvm.MethodName)) ∈ am_ws := am_in (List.mem_of_getElem? (i := 661) (by decide +kernel)) rfl
theorem tw_662 : (Jvm.Cond.code ({ cls := "RunwayDeskModel", name := "solve", desc := "()I" } : Jvm.MethodName) prog_5_method_25_code (3 : Nat) (Option.some Jvm.ClassFile.FieldType.int)) ∈ am_ws := am_in (List.mem_of_getElem? (i := 662) (by decide +kernel)) rfl
theorem tw_663 : (Jvm.Cond.methodLink "RunwayDeskModel" (120 : Nat) ({ cls := "RunwayDeskModel", name := "search", desc := "()I" } : Jvm.MethodName)) ∈ am_ws := am_in (List.mem_of_getElem? (i := 663) (by decide +kernel)) rfl
theorem tw_665 : (Jvm.Cond.instanceMethod ({ cls := "RunwayDeskModel", name := "search", desc := "()I" } : Jvm.MethodName)) ∈ am_ws := am_in (List.mem_of_getElem? (i := 665) (by decide +kernel)) rfl
theorem tw_666 : (Jvm.Cond.code ({ cls := "RunwayDeskModel", name := "search", desc := "()I" } : Jvm.MethodName) prog_5_method_24_code (4 : Nat) (Option.some Jvm.ClassFile.FieldType.int)) ∈ am_ws := am_in (List.mem_of_getElem? (i := 666) (by decide +kernel)) rfl
theorem tw_667 : (Jvm.Cond.methodLink "RunwayDeskModel" (110 : Nat) ({ cls := "RunwayDeskModel", name := "layOrder", desc := "()V" } : Jvm.MethodName)) ∈ am_ws := am_in (List.mem_of_getElem? (i := 667) (by decide +kernel)) rfl
theorem tw_669 : (Jvm.Cond.instanceMethod ({ cls := "RunwayDeskModel", name := "layOrder", desc := "()V" } : Jvm.MethodName)) ∈ am_ws := am_in (List.mem_of_getElem? (i := 669) (by decide +kernel)) rfl
theorem tw_670 : (Jvm.Cond.code ({ cls := "RunwayDeskModel", name := "layOrder", desc := "()V" } : Jvm.MethodName) prog_5_method_18_code (2 : Nat) (Option.none : Option Jvm.ClassFile.FieldType)) ∈ am_ws := am_in (List.mem_of_getElem? (i := 670) (by decide +kernel)) rfl
theorem tw_671 : (Jvm.Cond.methodLink "RunwayDeskModel" (96 : Nat) ({ cls := "RunwayDeskModel", name := "placeOf", desc := "(I)I" } : Jvm.MethodName)) ∈ am_ws := am_in (List.mem_of_getElem? (i := 671) (by decide +kernel)) rfl
theorem tw_673 : (Jvm.Cond.instanceMethod ({ cls := "RunwayDeskModel", name := "placeOf", desc := "(I)I" } : Jvm.MethodName)) ∈ am_ws := am_in (List.mem_of_getElem? (i := 673) (by decide +kernel)) rfl
theorem tw_674 : (Jvm.Cond.code ({ cls := "RunwayDeskModel", name := "placeOf", desc := "(I)I" } : Jvm.MethodName) prog_5_method_17_code (4 : Nat) (Option.some Jvm.ClassFile.FieldType.int)) ∈ am_ws := am_in (List.mem_of_getElem? (i := 674) (by decide +kernel)) rfl
theorem tw_675 : (Jvm.Cond.methodLink "RunwayDeskModel" (113 : Nat) ({ cls := "RunwayDeskModel", name := "keepBest", desc := "()V" } : Jvm.MethodName)) ∈ am_ws := am_in (List.mem_of_getElem? (i := 675) (by decide +kernel)) rfl
theorem tw_677 : (Jvm.Cond.instanceMethod ({ cls := "RunwayDeskModel", name := "keepBest", desc := "()V" } : Jvm.MethodName)) ∈ am_ws := am_in (List.mem_of_getElem? (i := 677) (by decide +kernel)) rfl
theorem tw_678 : (Jvm.Cond.code ({ cls := "RunwayDeskModel", name := "keepBest", desc := "()V" } : Jvm.MethodName) prog_5_method_23_code (2 : Nat) (Option.none : Option Jvm.ClassFile.FieldType)) ∈ am_ws := am_in (List.mem_of_getElem? (i := 678) (by decide +kernel)) rfl
theorem tw_679 : (Jvm.Cond.methodLink "RunwayDeskModel" (116 : Nat) ({ cls := "RunwayDeskModel", name := "lay", desc := "(III)Z" } : Jvm.MethodName)) ∈ am_ws := am_in (List.mem_of_getElem? (i := 679) (by decide +kernel)) rfl
theorem tw_681 : (Jvm.Cond.instanceMethod ({ cls := "RunwayDeskModel", name := "lay", desc := "(III)Z" } : Jvm.MethodName)) ∈ am_ws := am_in (List.mem_of_getElem? (i := 681) (by decide +kernel)) rfl
theorem tw_682 : (Jvm.Cond.code ({ cls := "RunwayDeskModel", name := "lay", desc := "(III)Z" } : Jvm.MethodName) prog_5_method_22_code (10 : Nat) (Option.some Jvm.ClassFile.FieldType.boolean)) ∈ am_ws := am_in (List.mem_of_getElem? (i := 682) (by decide +kernel)) rfl
theorem tw_683 : (Jvm.Cond.methodLink "RunwayDeskModel" (103 : Nat) ({ cls := "RunwayDeskModel", name := "secondFrom", desc := "(II)I" } : Jvm.MethodName)) ∈ am_ws := am_in (List.mem_of_getElem? (i := 683) (by decide +kernel)) rfl
theorem tw_685 : (Jvm.Cond.instanceMethod ({ cls := "RunwayDeskModel", name := "secondFrom", desc := "(II)I" } : Jvm.MethodName)) ∈ am_ws := am_in (List.mem_of_getElem? (i := 685) (by decide +kernel)) rfl
theorem tw_686 : (Jvm.Cond.code ({ cls := "RunwayDeskModel", name := "secondFrom", desc := "(II)I" } : Jvm.MethodName) prog_5_method_20_code (4 : Nat) (Option.some Jvm.ClassFile.FieldType.int)) ∈ am_ws := am_in (List.mem_of_getElem? (i := 686) (by decide +kernel)) rfl
theorem tw_687 : (Jvm.Cond.methodLink "RunwayDeskModel" (100 : Nat) ({ cls := "RunwayDeskModel", name := "openFrom", desc := "(I)I" } : Jvm.MethodName)) ∈ am_ws := am_in (List.mem_of_getElem? (i := 687) (by decide +kernel)) rfl
theorem tw_689 : (Jvm.Cond.instanceMethod ({ cls := "RunwayDeskModel", name := "openFrom", desc := "(I)I" } : Jvm.MethodName)) ∈ am_ws := am_in (List.mem_of_getElem? (i := 689) (by decide +kernel)) rfl
theorem tw_690 : (Jvm.Cond.code ({ cls := "RunwayDeskModel", name := "openFrom", desc := "(I)I" } : Jvm.MethodName) prog_5_method_19_code (5 : Nat) (Option.some Jvm.ClassFile.FieldType.int)) ∈ am_ws := am_in (List.mem_of_getElem? (i := 690) (by decide +kernel)) rfl
theorem tw_691 : (Jvm.Cond.methodLink "RunwayDeskModel" (107 : Nat) ({ cls := "RunwayDeskModel", name := "delay", desc := "(II)I" } : Jvm.MethodName)) ∈ am_ws := am_in (List.mem_of_getElem? (i := 691) (by decide +kernel)) rfl
theorem tw_693 : (Jvm.Cond.instanceMethod ({ cls := "RunwayDeskModel", name := "delay", desc := "(II)I" } : Jvm.MethodName)) ∈ am_ws := am_in (List.mem_of_getElem? (i := 693) (by decide +kernel)) rfl
theorem tw_694 : (Jvm.Cond.code ({ cls := "RunwayDeskModel", name := "delay", desc := "(II)I" } : Jvm.MethodName) prog_5_method_21_code (3 : Nat) (Option.some Jvm.ClassFile.FieldType.int)) ∈ am_ws := am_in (List.mem_of_getElem? (i := 694) (by decide +kernel)) rfl
theorem tw_695 : (Jvm.Cond.methodLink "RunwayDeskLaw" (114 : Nat) ({ cls := "RunwayDeskModel", name := "whatIf", desc := "(II)I" } : Jvm.MethodName)) ∈ am_ws := am_in (List.mem_of_getElem? (i := 695) (by decide +kernel)) rfl
theorem tw_696 : (Jvm.Cond.instanceMethod ({ cls := "RunwayDeskModel", name := "whatIf", desc := "(II)I" } : Jvm.MethodName)) ∈ am_ws := am_in (List.mem_of_getElem? (i := 696) (by decide +kernel)) rfl
theorem tw_697 : (Jvm.Cond.selects "RunwayDeskModel" ({ cls := "RunwayDeskModel", name := "whatIf", desc := "(II)I" } : Jvm.MethodName) ({ cls := "RunwayDeskModel", name := "whatIf", desc := "(II)I" } : Jvm.MethodName)) ∈ am_ws := am_in (List.mem_of_getElem? (i := 697) (by decide +kernel)) rfl
theorem tw_698 : (Jvm.Cond.code ({ cls := "RunwayDeskModel", name := "whatIf", desc := "(II)I" } : Jvm.MethodName) prog_5_method_26_code (5 : Nat) (Option.some Jvm.ClassFile.FieldType.int)) ∈ am_ws := am_in (List.mem_of_getElem? (i := 698) (by decide +kernel)) rfl
theorem tw_699 : (Jvm.Cond.methodLink "RunwayDeskLaw" (131 : Nat) ({ cls := "RunwayDeskModel", name := "firstCome", desc := "()I" } : Jvm.MethodName)) ∈ am_ws := am_in (List.mem_of_getElem? (i := 699) (by decide +kernel)) rfl
theorem tw_700 : (Jvm.Cond.instanceMethod ({ cls := "RunwayDeskModel", name := "firstCome", desc := "()I" } : Jvm.MethodName)) ∈ am_ws := am_in (List.mem_of_getElem? (i := 700) (by decide +kernel)) rfl
theorem tw_701 : (Jvm.Cond.selects "RunwayDeskModel" ({ cls := "RunwayDeskModel", name := "firstCome", desc := "()I" } : Jvm.MethodName) ({ cls := "RunwayDeskModel", name := "firstCome", desc := "()I" } : Jvm.MethodName)) ∈ am_ws := am_in (List.mem_of_getElem? (i := 701) (by decide +kernel)) rfl
theorem tw_702 : (Jvm.Cond.code ({ cls := "RunwayDeskModel", name := "firstCome", desc := "()I" } : Jvm.MethodName) prog_5_method_27_code (2 : Nat) (Option.some Jvm.ClassFile.FieldType.int)) ∈ am_ws := am_in (List.mem_of_getElem? (i := 702) (by decide +kernel)) rfl
theorem tw_703 : (Jvm.Cond.methodLink "RunwayDeskLaw" (135 : Nat) ({ cls := "RunwayDeskModel", name := "bound", desc := "()I" } : Jvm.MethodName)) ∈ am_ws := am_in (List.mem_of_getElem? (i := 703) (by decide +kernel)) rfl
theorem tw_704 : (Jvm.Cond.instanceMethod ({ cls := "RunwayDeskModel", name := "bound", desc := "()I" } : Jvm.MethodName)) ∈ am_ws := am_in (List.mem_of_getElem? (i := 704) (by decide +kernel)) rfl
theorem tw_705 : (Jvm.Cond.selects "RunwayDeskModel" ({ cls := "RunwayDeskModel", name := "bound", desc := "()I" } : Jvm.MethodName) ({ cls := "RunwayDeskModel", name := "bound", desc := "()I" } : Jvm.MethodName)) ∈ am_ws := am_in (List.mem_of_getElem? (i := 705) (by decide +kernel)) rfl
theorem tw_706 : (Jvm.Cond.code ({ cls := "RunwayDeskModel", name := "bound", desc := "()I" } : Jvm.MethodName) prog_5_method_28_code (4 : Nat) (Option.some Jvm.ClassFile.FieldType.int)) ∈ am_ws := am_in (List.mem_of_getElem? (i := 706) (by decide +kernel)) rfl
theorem tw_707 : (Jvm.Cond.methodLink "RunwayDeskLaw" (117 : Nat) ({ cls := "RunwayDeskModel", name := "second", desc := "(I)I" } : Jvm.MethodName)) ∈ am_ws := am_in (List.mem_of_getElem? (i := 707) (by decide +kernel)) rfl
theorem tw_708 : (Jvm.Cond.instanceMethod ({ cls := "RunwayDeskModel", name := "second", desc := "(I)I" } : Jvm.MethodName)) ∈ am_ws := am_in (List.mem_of_getElem? (i := 708) (by decide +kernel)) rfl
theorem tw_709 : (Jvm.Cond.selects "RunwayDeskModel" ({ cls := "RunwayDeskModel", name := "second", desc := "(I)I" } : Jvm.MethodName) ({ cls := "RunwayDeskModel", name := "second", desc := "(I)I" } : Jvm.MethodName)) ∈ am_ws := am_in (List.mem_of_getElem? (i := 709) (by decide +kernel)) rfl
theorem tw_710 : (Jvm.Cond.code ({ cls := "RunwayDeskModel", name := "second", desc := "(I)I" } : Jvm.MethodName) prog_5_method_29_code (2 : Nat) (Option.some Jvm.ClassFile.FieldType.int)) ∈ am_ws := am_in (List.mem_of_getElem? (i := 710) (by decide +kernel)) rfl
theorem tw_711 : (Jvm.Cond.methodLink "RunwayDeskLaw" (120 : Nat) ({ cls := "RunwayDeskModel", name := "at", desc := "(I)I" } : Jvm.MethodName)) ∈ am_ws := am_in (List.mem_of_getElem? (i := 711) (by decide +kernel)) rfl
theorem tw_712 : (Jvm.Cond.instanceMethod ({ cls := "RunwayDeskModel", name := "at", desc := "(I)I" } : Jvm.MethodName)) ∈ am_ws := am_in (List.mem_of_getElem? (i := 712) (by decide +kernel)) rfl
theorem tw_713 : (Jvm.Cond.selects "RunwayDeskModel" ({ cls := "RunwayDeskModel", name := "at", desc := "(I)I" } : Jvm.MethodName) ({ cls := "RunwayDeskModel", name := "at", desc := "(I)I" } : Jvm.MethodName)) ∈ am_ws := am_in (List.mem_of_getElem? (i := 713) (by decide +kernel)) rfl
theorem tw_714 : (Jvm.Cond.code ({ cls := "RunwayDeskModel", name := "at", desc := "(I)I" } : Jvm.MethodName) prog_5_method_31_code (4 : Nat) (Option.some Jvm.ClassFile.FieldType.int)) ∈ am_ws := am_in (List.mem_of_getElem? (i := 714) (by decide +kernel)) rfl
theorem tw_715 : (Jvm.Cond.methodLink "RunwayDeskModel" (123 : Nat) ({ cls := "RunwayDeskModel", name := "placeIn", desc := "(I)I" } : Jvm.MethodName)) ∈ am_ws := am_in (List.mem_of_getElem? (i := 715) (by decide +kernel)) rfl
theorem tw_717 : (Jvm.Cond.instanceMethod ({ cls := "RunwayDeskModel", name := "placeIn", desc := "(I)I" } : Jvm.MethodName)) ∈ am_ws := am_in (List.mem_of_getElem? (i := 717) (by decide +kernel)) rfl
theorem tw_718 : (Jvm.Cond.code ({ cls := "RunwayDeskModel", name := "placeIn", desc := "(I)I" } : Jvm.MethodName) prog_5_method_30_code (4 : Nat) (Option.some Jvm.ClassFile.FieldType.int)) ∈ am_ws := am_in (List.mem_of_getElem? (i := 718) (by decide +kernel)) rfl
theorem tw_719 : (Jvm.Cond.methodLink "RunwayDeskLaw" (123 : Nat) ({ cls := "RunwayDeskModel", name := "place", desc := "(I)I" } : Jvm.MethodName)) ∈ am_ws := am_in (List.mem_of_getElem? (i := 719) (by decide +kernel)) rfl
theorem tw_720 : (Jvm.Cond.instanceMethod ({ cls := "RunwayDeskModel", name := "place", desc := "(I)I" } : Jvm.MethodName)) ∈ am_ws := am_in (List.mem_of_getElem? (i := 720) (by decide +kernel)) rfl
theorem tw_721 : (Jvm.Cond.selects "RunwayDeskModel" ({ cls := "RunwayDeskModel", name := "place", desc := "(I)I" } : Jvm.MethodName) ({ cls := "RunwayDeskModel", name := "place", desc := "(I)I" } : Jvm.MethodName)) ∈ am_ws := am_in (List.mem_of_getElem? (i := 721) (by decide +kernel)) rfl
theorem tw_722 : (Jvm.Cond.code ({ cls := "RunwayDeskModel", name := "place", desc := "(I)I" } : Jvm.MethodName) prog_5_method_32_code (2 : Nat) (Option.some Jvm.ClassFile.FieldType.int)) ∈ am_ws := am_in (List.mem_of_getElem? (i := 722) (by decide +kernel)) rfl
theorem tw_723 : (Jvm.Cond.methodLink "RunwayDeskLaw" (127 : Nat) ({ cls := "RunwayDeskModel", name := "verify", desc := "()I" } : Jvm.MethodName)) ∈ am_ws := am_in (List.mem_of_getElem? (i := 723) (by decide +kernel)) rfl
theorem tw_724 : (Jvm.Cond.instanceMethod ({ cls := "RunwayDeskModel", name := "verify", desc := "()I" } : Jvm.MethodName)) ∈ am_ws := am_in (List.mem_of_getElem? (i := 724) (by decide +kernel)) rfl
theorem tw_725 : (Jvm.Cond.selects "RunwayDeskModel" ({ cls := "RunwayDeskModel", name := "verify", desc := "()I" } : Jvm.MethodName) ({ cls := "RunwayDeskModel", name := "verify", desc := "()I" } : Jvm.MethodName)) ∈ am_ws := am_in (List.mem_of_getElem? (i := 725) (by decide +kernel)) rfl
theorem tw_726 : (Jvm.Cond.code ({ cls := "RunwayDeskModel", name := "verify", desc := "()I" } : Jvm.MethodName) prog_5_method_35_code (1 : Nat) (Option.some Jvm.ClassFile.FieldType.int)) ∈ am_ws := am_in (List.mem_of_getElem? (i := 726) (by decide +kernel)) rfl
theorem tw_727 : (Jvm.Cond.methodLink "RunwayDeskModel" (129 : Nat) ({ cls := "RunwayDeskModel", name := "firstWrong", desc := "()I" } : Jvm.MethodName)) ∈ am_ws := am_in (List.mem_of_getElem? (i := 727) (by decide +kernel)) rfl
theorem tw_729 : (Jvm.Cond.instanceMethod ({ cls := "RunwayDeskModel", name := "firstWrong", desc := "()I" } : Jvm.MethodName)) ∈ am_ws := am_in (List.mem_of_getElem? (i := 729) (by decide +kernel)) rfl
theorem tw_730 : (Jvm.Cond.code ({ cls := "RunwayDeskModel", name := "firstWrong", desc := "()I" } : Jvm.MethodName) prog_5_method_34_code (2 : Nat) (Option.some Jvm.ClassFile.FieldType.int)) ∈ am_ws := am_in (List.mem_of_getElem? (i := 730) (by decide +kernel)) rfl
theorem tw_731 : (Jvm.Cond.methodLink "RunwayDeskModel" (126 : Nat) ({ cls := "RunwayDeskModel", name := "isSound", desc := "(I)Z" } : Jvm.MethodName)) ∈ am_ws := am_in (List.mem_of_getElem? (i := 731) (by decide +kernel)) rfl
theorem tw_733 : (Jvm.Cond.instanceMethod ({ cls := "RunwayDeskModel", name := "isSound", desc := "(I)Z" } : Jvm.MethodName)) ∈ am_ws := am_in (List.mem_of_getElem? (i := 733) (by decide +kernel)) rfl
theorem tw_734 : (Jvm.Cond.code ({ cls := "RunwayDeskModel", name := "isSound", desc := "(I)Z" } : Jvm.MethodName) prog_5_method_33_code (7 : Nat) (Option.some Jvm.ClassFile.FieldType.boolean)) ∈ am_ws := am_in (List.mem_of_getElem? (i := 734) (by decide +kernel)) rfl
theorem tw_735 : (Jvm.Cond.methodLink "RunwayDeskLaw" (138 : Nat) ({ cls := "RunwayDeskModel", name := "slack", desc := "(I)I" } : Jvm.MethodName)) ∈ am_ws := am_in (List.mem_of_getElem? (i := 735) (by decide +kernel)) rfl
theorem tw_736 : (Jvm.Cond.instanceMethod ({ cls := "RunwayDeskModel", name := "slack", desc := "(I)I" } : Jvm.MethodName)) ∈ am_ws := am_in (List.mem_of_getElem? (i := 736) (by decide +kernel)) rfl
theorem tw_737 : (Jvm.Cond.selects "RunwayDeskModel" ({ cls := "RunwayDeskModel", name := "slack", desc := "(I)I" } : Jvm.MethodName) ({ cls := "RunwayDeskModel", name := "slack", desc := "(I)I" } : Jvm.MethodName)) ∈ am_ws := am_in (List.mem_of_getElem? (i := 737) (by decide +kernel)) rfl
theorem tw_738 : (Jvm.Cond.code ({ cls := "RunwayDeskModel", name := "slack", desc := "(I)I" } : Jvm.MethodName) prog_5_method_36_code (5 : Nat) (Option.some Jvm.ClassFile.FieldType.int)) ∈ am_ws := am_in (List.mem_of_getElem? (i := 738) (by decide +kernel)) rfl
theorem tw_739 : (Jvm.Cond.methodLink "RunwayDeskLaw" (142 : Nat) ({ cls := "RunwayDeskModel", name := "accept", desc := "()I" } : Jvm.MethodName)) ∈ am_ws := am_in (List.mem_of_getElem? (i := 739) (by decide +kernel)) rfl
theorem tw_740 : (Jvm.Cond.instanceMethod ({ cls := "RunwayDeskModel", name := "accept", desc := "()I" } : Jvm.MethodName)) ∈ am_ws := am_in (List.mem_of_getElem? (i := 740) (by decide +kernel)) rfl
theorem tw_741 : (Jvm.Cond.selects "RunwayDeskModel" ({ cls := "RunwayDeskModel", name := "accept", desc := "()I" } : Jvm.MethodName) ({ cls := "RunwayDeskModel", name := "accept", desc := "()I" } : Jvm.MethodName)) ∈ am_ws := am_in (List.mem_of_getElem? (i := 741) (by decide +kernel)) rfl
theorem tw_742 : (Jvm.Cond.code ({ cls := "RunwayDeskModel", name := "accept", desc := "()I" } : Jvm.MethodName) prog_5_method_37_code (3 : Nat) (Option.some Jvm.ClassFile.FieldType.int)) ∈ am_ws := am_in (List.mem_of_getElem? (i := 742) (by decide +kernel)) rfl
theorem tw_743 : (Jvm.Cond.methodLink "RunwayDeskLaw" (145 : Nat) ({ cls := "RunwayDeskModel", name := "change", desc := "(II)I" } : Jvm.MethodName)) ∈ am_ws := am_in (List.mem_of_getElem? (i := 743) (by decide +kernel)) rfl
theorem tw_744 : (Jvm.Cond.instanceMethod ({ cls := "RunwayDeskModel", name := "change", desc := "(II)I" } : Jvm.MethodName)) ∈ am_ws := am_in (List.mem_of_getElem? (i := 744) (by decide +kernel)) rfl
theorem tw_745 : (Jvm.Cond.selects "RunwayDeskModel" ({ cls := "RunwayDeskModel", name := "change", desc := "(II)I" } : Jvm.MethodName) ({ cls := "RunwayDeskModel", name := "change", desc := "(II)I" } : Jvm.MethodName)) ∈ am_ws := am_in (List.mem_of_getElem? (i := 745) (by decide +kernel)) rfl
theorem tw_746 : (Jvm.Cond.code ({ cls := "RunwayDeskModel", name := "change", desc := "(II)I" } : Jvm.MethodName) prog_5_method_38_code (6 : Nat) (Option.some Jvm.ClassFile.FieldType.int)) ∈ am_ws := am_in (List.mem_of_getElem? (i := 746) (by decide +kernel)) rfl
theorem tw_747 : (Jvm.Cond.arrayClass Jvm.ClassFile.FieldType.long) ∈ am_ws := am_in (List.mem_of_getElem? (i := 747) (by decide +kernel)) rfl
theorem ts_0 : Cond.selects "RunwayDesk$Search" ⟨"RunwayDesk$Search", "begin", "(LRunwayDesk$State;)V"⟩ ⟨"RunwayDesk$Search", "begin", "(LRunwayDesk$State;)V"⟩ ∈ am_ws := am_sel (q := (⟨"RunwayDesk$Search", "begin", "(LRunwayDesk$State;)V"⟩, 5)) (List.mem_of_getElem? (i := 0) (by decide +kernel))
theorem ts_1 : Cond.selects "RunwayDesk$State" ⟨"RunwayDesk$State", "closureAt", "(I)I"⟩ ⟨"RunwayDesk$State", "closureAt", "(I)I"⟩ ∈ am_ws := am_sel (q := (⟨"RunwayDesk$State", "closureAt", "(I)I"⟩, 13)) (List.mem_of_getElem? (i := 1) (by decide +kernel))
theorem ts_2 : Cond.selects "RunwayDesk$State" ⟨"RunwayDesk$State", "firstOpen", "(I)I"⟩ ⟨"RunwayDesk$State", "firstOpen", "(I)I"⟩ ∈ am_ws := am_sel (q := (⟨"RunwayDesk$State", "firstOpen", "(I)I"⟩, 13)) (List.mem_of_getElem? (i := 2) (by decide +kernel))
theorem ts_3 : Cond.selects "RunwayDesk$Search" ⟨"RunwayDesk$Search", "rowDelay", "(LRunwayDesk$State;I)I"⟩ ⟨"RunwayDesk$Search", "rowDelay", "(LRunwayDesk$State;I)I"⟩ ∈ am_ws := am_sel (q := (⟨"RunwayDesk$Search", "rowDelay", "(LRunwayDesk$State;I)I"⟩, 5)) (List.mem_of_getElem? (i := 3) (by decide +kernel))
theorem ts_4 : Cond.selects "RunwayDesk$Search" ⟨"RunwayDesk$Search", "tryPlace", "(LRunwayDesk$State;I)V"⟩ ⟨"RunwayDesk$Search", "tryPlace", "(LRunwayDesk$State;I)V"⟩ ∈ am_ws := am_sel (q := (⟨"RunwayDesk$Search", "tryPlace", "(LRunwayDesk$State;I)V"⟩, 5)) (List.mem_of_getElem? (i := 4) (by decide +kernel))
theorem ts_5 : Cond.selects "RunwayDesk$Search" ⟨"RunwayDesk$Search", "putAt", "(LRunwayDesk$State;II)V"⟩ ⟨"RunwayDesk$Search", "putAt", "(LRunwayDesk$State;II)V"⟩ ∈ am_ws := am_sel (q := (⟨"RunwayDesk$Search", "putAt", "(LRunwayDesk$State;II)V"⟩, 5)) (List.mem_of_getElem? (i := 5) (by decide +kernel))
theorem ts_6 : Cond.selects "RunwayDesk$Search" ⟨"RunwayDesk$Search", "isWorthwhile", "(I)Z"⟩ ⟨"RunwayDesk$Search", "isWorthwhile", "(I)Z"⟩ ∈ am_ws := am_sel (q := (⟨"RunwayDesk$Search", "isWorthwhile", "(I)Z"⟩, 5)) (List.mem_of_getElem? (i := 6) (by decide +kernel))
theorem ts_7 : Cond.selects "RunwayDesk$State" ⟨"RunwayDesk$State", "isSoundFor", "(I[I)Z"⟩ ⟨"RunwayDesk$State", "isSoundFor", "(I[I)Z"⟩ ∈ am_ws := am_sel (q := (⟨"RunwayDesk$State", "isSoundFor", "(I[I)Z"⟩, 13)) (List.mem_of_getElem? (i := 7) (by decide +kernel))
theorem ts_8 : Cond.selects "RunwayDesk$State" ⟨"RunwayDesk$State", "isTooNearBehind", "(I[I)Z"⟩ ⟨"RunwayDesk$State", "isTooNearBehind", "(I[I)Z"⟩ ∈ am_ws := am_sel (q := (⟨"RunwayDesk$State", "isTooNearBehind", "(I[I)Z"⟩, 13)) (List.mem_of_getElem? (i := 8) (by decide +kernel))
theorem ts_9 : Cond.selects "RunwayDesk" ⟨"RunwayDesk", "isChanged", "(I)Z"⟩ ⟨"RunwayDesk", "isChanged", "(I)Z"⟩ ∈ am_ws := am_sel (q := (⟨"RunwayDesk", "isChanged", "(I)Z"⟩, 5)) (List.mem_of_getElem? (i := 9) (by decide +kernel))
theorem ts_10 : Cond.selects "java/lang/Throwable" ⟨"java/lang/Throwable", "fillInStackTrace", "(I)Ljava/lang/Throwable;"⟩ ⟨"java/lang/Throwable", "fillInStackTrace", "(I)Ljava/lang/Throwable;"⟩ ∈ am_ws := am_sel (q := (⟨"java/lang/Throwable", "fillInStackTrace", "(I)Ljava/lang/Throwable;"⟩, 6)) (List.mem_of_getElem? (i := 10) (by decide +kernel))
theorem ts_11 : Cond.selects "RunwayDesk" ⟨"RunwayDesk", "requireMovement", "(I)V"⟩ ⟨"RunwayDesk", "requireMovement", "(I)V"⟩ ∈ am_ws := am_sel (q := (⟨"RunwayDesk", "requireMovement", "(I)V"⟩, 5)) (List.mem_of_getElem? (i := 11) (by decide +kernel))
theorem ts_12 : Cond.selects "RunwayDesk" ⟨"RunwayDesk", "requireInRange", "(II)V"⟩ ⟨"RunwayDesk", "requireInRange", "(II)V"⟩ ∈ am_ws := am_sel (q := (⟨"RunwayDesk", "requireInRange", "(II)V"⟩, 5)) (List.mem_of_getElem? (i := 12) (by decide +kernel))
theorem ts_13 : Cond.selects "RunwayDesk$State" ⟨"RunwayDesk$State", "isTooNear", "(IIII)Z"⟩ ⟨"RunwayDesk$State", "isTooNear", "(IIII)Z"⟩ ∈ am_ws := am_sel (q := (⟨"RunwayDesk$State", "isTooNear", "(IIII)Z"⟩, 13)) (List.mem_of_getElem? (i := 13) (by decide +kernel))
theorem ts_14 : Cond.selects "RunwayDesk" ⟨"RunwayDesk", "latestSound", "(I)I"⟩ ⟨"RunwayDesk", "latestSound", "(I)I"⟩ ∈ am_ws := am_sel (q := (⟨"RunwayDesk", "latestSound", "(I)I"⟩, 5)) (List.mem_of_getElem? (i := 14) (by decide +kernel))
theorem ts_15 : Cond.selects "RunwayDesk" ⟨"RunwayDesk", "laterIfSound", "(III)I"⟩ ⟨"RunwayDesk", "laterIfSound", "(III)I"⟩ ∈ am_ws := am_sel (q := (⟨"RunwayDesk", "laterIfSound", "(III)I"⟩, 5)) (List.mem_of_getElem? (i := 15) (by decide +kernel))
theorem ts_16 : Cond.selects "RunwayDesk" ⟨"RunwayDesk", "changed", "(I)I"⟩ ⟨"RunwayDesk", "changed", "(I)I"⟩ ∈ am_ws := am_sel (q := (⟨"RunwayDesk", "changed", "(I)I"⟩, 5)) (List.mem_of_getElem? (i := 16) (by decide +kernel))
theorem ts_17 : Cond.selects "RunwayDeskModel" ⟨"RunwayDeskModel", "count", "()I"⟩ ⟨"RunwayDeskModel", "count", "()I"⟩ ∈ am_ws := am_sel (q := (⟨"RunwayDeskModel", "count", "()I"⟩, 22)) (List.mem_of_getElem? (i := 17) (by decide +kernel))
theorem ts_18 : Cond.selects "RunwayDeskModel" ⟨"RunwayDeskModel", "isThere", "(I)Z"⟩ ⟨"RunwayDeskModel", "isThere", "(I)Z"⟩ ∈ am_ws := am_sel (q := (⟨"RunwayDeskModel", "isThere", "(I)Z"⟩, 22)) (List.mem_of_getElem? (i := 18) (by decide +kernel))
theorem ts_19 : Cond.selects "RunwayDeskModel" ⟨"RunwayDeskModel", "isClosed", "(I)Z"⟩ ⟨"RunwayDeskModel", "isClosed", "(I)Z"⟩ ∈ am_ws := am_sel (q := (⟨"RunwayDeskModel", "isClosed", "(I)Z"⟩, 22)) (List.mem_of_getElem? (i := 19) (by decide +kernel))
theorem ts_20 : Cond.selects "RunwayDeskModel" ⟨"RunwayDeskModel", "areNear", "(IIII)Z"⟩ ⟨"RunwayDeskModel", "areNear", "(IIII)Z"⟩ ∈ am_ws := am_sel (q := (⟨"RunwayDeskModel", "areNear", "(IIII)Z"⟩, 22)) (List.mem_of_getElem? (i := 20) (by decide +kernel))
theorem ts_21 : Cond.selects "RunwayDeskModel" ⟨"RunwayDeskModel", "search", "()I"⟩ ⟨"RunwayDeskModel", "search", "()I"⟩ ∈ am_ws := am_sel (q := (⟨"RunwayDeskModel", "search", "()I"⟩, 22)) (List.mem_of_getElem? (i := 21) (by decide +kernel))
theorem ts_22 : Cond.selects "RunwayDeskModel" ⟨"RunwayDeskModel", "layOrder", "()V"⟩ ⟨"RunwayDeskModel", "layOrder", "()V"⟩ ∈ am_ws := am_sel (q := (⟨"RunwayDeskModel", "layOrder", "()V"⟩, 22)) (List.mem_of_getElem? (i := 22) (by decide +kernel))
theorem ts_23 : Cond.selects "RunwayDeskModel" ⟨"RunwayDeskModel", "placeOf", "(I)I"⟩ ⟨"RunwayDeskModel", "placeOf", "(I)I"⟩ ∈ am_ws := am_sel (q := (⟨"RunwayDeskModel", "placeOf", "(I)I"⟩, 22)) (List.mem_of_getElem? (i := 23) (by decide +kernel))
theorem ts_24 : Cond.selects "RunwayDeskModel" ⟨"RunwayDeskModel", "keepBest", "()V"⟩ ⟨"RunwayDeskModel", "keepBest", "()V"⟩ ∈ am_ws := am_sel (q := (⟨"RunwayDeskModel", "keepBest", "()V"⟩, 22)) (List.mem_of_getElem? (i := 24) (by decide +kernel))
theorem ts_25 : Cond.selects "RunwayDeskModel" ⟨"RunwayDeskModel", "lay", "(III)Z"⟩ ⟨"RunwayDeskModel", "lay", "(III)Z"⟩ ∈ am_ws := am_sel (q := (⟨"RunwayDeskModel", "lay", "(III)Z"⟩, 22)) (List.mem_of_getElem? (i := 25) (by decide +kernel))
theorem ts_26 : Cond.selects "RunwayDeskModel" ⟨"RunwayDeskModel", "secondFrom", "(II)I"⟩ ⟨"RunwayDeskModel", "secondFrom", "(II)I"⟩ ∈ am_ws := am_sel (q := (⟨"RunwayDeskModel", "secondFrom", "(II)I"⟩, 22)) (List.mem_of_getElem? (i := 26) (by decide +kernel))
theorem ts_27 : Cond.selects "RunwayDeskModel" ⟨"RunwayDeskModel", "openFrom", "(I)I"⟩ ⟨"RunwayDeskModel", "openFrom", "(I)I"⟩ ∈ am_ws := am_sel (q := (⟨"RunwayDeskModel", "openFrom", "(I)I"⟩, 22)) (List.mem_of_getElem? (i := 27) (by decide +kernel))
theorem ts_28 : Cond.selects "RunwayDeskModel" ⟨"RunwayDeskModel", "delay", "(II)I"⟩ ⟨"RunwayDeskModel", "delay", "(II)I"⟩ ∈ am_ws := am_sel (q := (⟨"RunwayDeskModel", "delay", "(II)I"⟩, 22)) (List.mem_of_getElem? (i := 28) (by decide +kernel))
theorem ts_29 : Cond.selects "RunwayDeskModel" ⟨"RunwayDeskModel", "placeIn", "(I)I"⟩ ⟨"RunwayDeskModel", "placeIn", "(I)I"⟩ ∈ am_ws := am_sel (q := (⟨"RunwayDeskModel", "placeIn", "(I)I"⟩, 22)) (List.mem_of_getElem? (i := 29) (by decide +kernel))
theorem ts_30 : Cond.selects "RunwayDeskModel" ⟨"RunwayDeskModel", "firstWrong", "()I"⟩ ⟨"RunwayDeskModel", "firstWrong", "()I"⟩ ∈ am_ws := am_sel (q := (⟨"RunwayDeskModel", "firstWrong", "()I"⟩, 22)) (List.mem_of_getElem? (i := 30) (by decide +kernel))
theorem ts_31 : Cond.selects "RunwayDeskModel" ⟨"RunwayDeskModel", "isSound", "(I)Z"⟩ ⟨"RunwayDeskModel", "isSound", "(I)Z"⟩ ∈ am_ws := am_sel (q := (⟨"RunwayDeskModel", "isSound", "(I)Z"⟩, 22)) (List.mem_of_getElem? (i := 31) (by decide +kernel))
theorem tl_102 : (Jvm.Cond.laysFinal "RunwayDesk$Search" "RunwayDesk$Search" "rows" "[[I") ∈ am_ws := am_in (List.mem_of_getElem? (i := 102) (by decide +kernel)) rfl
theorem tl_104 : (Jvm.Cond.laysFinal "RunwayDesk$Search" "RunwayDesk$Search" "line" "[I") ∈ am_ws := am_in (List.mem_of_getElem? (i := 104) (by decide +kernel)) rfl
theorem tl_106 : (Jvm.Cond.laysFinal "RunwayDesk$Search" "RunwayDesk$Search" "standing" "[Z") ∈ am_ws := am_in (List.mem_of_getElem? (i := 106) (by decide +kernel)) rfl
theorem tl_108 : (Jvm.Cond.laysFinal "RunwayDesk$Search" "RunwayDesk$Search" "best" "[I") ∈ am_ws := am_in (List.mem_of_getElem? (i := 108) (by decide +kernel)) rfl
theorem tl_110 : (Jvm.Cond.lays "RunwayDesk$Search" "RunwayDesk$Search" "least" "I") ∈ am_ws := am_in (List.mem_of_getElem? (i := 110) (by decide +kernel)) rfl
theorem hin_0 : ∀ w ∈ u_ws "RunwayDesk$Search" TF_0 5, w ∈ am_ws := by
  show ∀ w ∈ [u_lay "RunwayDesk$Search" TF_0 0, u_lay "RunwayDesk$Search" TF_0 1, u_lay "RunwayDesk$Search" TF_0 2, u_lay "RunwayDesk$Search" TF_0 3, u_lay "RunwayDesk$Search" TF_0 4], w ∈ am_ws
  exact List.forall_mem_cons.mpr ⟨tl_102, List.forall_mem_cons.mpr ⟨tl_104, List.forall_mem_cons.mpr ⟨tl_106, List.forall_mem_cons.mpr ⟨tl_108, List.forall_mem_cons.mpr ⟨tl_110, fun _ h => absurd h List.not_mem_nil⟩⟩⟩⟩⟩
theorem tl_61 : (Jvm.Cond.laysFinal "RunwayDesk$State" "RunwayDesk$State" "there" "[Z") ∈ am_ws := am_in (List.mem_of_getElem? (i := 61) (by decide +kernel)) rfl
theorem tl_63 : (Jvm.Cond.laysFinal "RunwayDesk$State" "RunwayDesk$State" "type" "[I") ∈ am_ws := am_in (List.mem_of_getElem? (i := 63) (by decide +kernel)) rfl
theorem tl_65 : (Jvm.Cond.laysFinal "RunwayDesk$State" "RunwayDesk$State" "early" "[I") ∈ am_ws := am_in (List.mem_of_getElem? (i := 65) (by decide +kernel)) rfl
theorem tl_67 : (Jvm.Cond.laysFinal "RunwayDesk$State" "RunwayDesk$State" "target" "[I") ∈ am_ws := am_in (List.mem_of_getElem? (i := 67) (by decide +kernel)) rfl
theorem tl_69 : (Jvm.Cond.laysFinal "RunwayDesk$State" "RunwayDesk$State" "late" "[I") ∈ am_ws := am_in (List.mem_of_getElem? (i := 69) (by decide +kernel)) rfl
theorem tl_71 : (Jvm.Cond.laysFinal "RunwayDesk$State" "RunwayDesk$State" "weight" "[I") ∈ am_ws := am_in (List.mem_of_getElem? (i := 71) (by decide +kernel)) rfl
theorem tl_73 : (Jvm.Cond.laysFinal "RunwayDesk$State" "RunwayDesk$State" "frozen" "[I") ∈ am_ws := am_in (List.mem_of_getElem? (i := 73) (by decide +kernel)) rfl
theorem tl_75 : (Jvm.Cond.lays "RunwayDesk$State" "RunwayDesk$State" "count" "I") ∈ am_ws := am_in (List.mem_of_getElem? (i := 75) (by decide +kernel)) rfl
theorem tl_77 : (Jvm.Cond.laysFinal "RunwayDesk$State" "RunwayDesk$State" "gaps" "[[I") ∈ am_ws := am_in (List.mem_of_getElem? (i := 77) (by decide +kernel)) rfl
theorem tl_79 : (Jvm.Cond.laysFinal "RunwayDesk$State" "RunwayDesk$State" "closedFrom" "[I") ∈ am_ws := am_in (List.mem_of_getElem? (i := 79) (by decide +kernel)) rfl
theorem tl_81 : (Jvm.Cond.laysFinal "RunwayDesk$State" "RunwayDesk$State" "closedTo" "[I") ∈ am_ws := am_in (List.mem_of_getElem? (i := 81) (by decide +kernel)) rfl
theorem tl_83 : (Jvm.Cond.lays "RunwayDesk$State" "RunwayDesk$State" "closures" "I") ∈ am_ws := am_in (List.mem_of_getElem? (i := 83) (by decide +kernel)) rfl
theorem tl_85 : (Jvm.Cond.lays "RunwayDesk$State" "RunwayDesk$State" "mostPlaces" "I") ∈ am_ws := am_in (List.mem_of_getElem? (i := 85) (by decide +kernel)) rfl
theorem hin_1 : ∀ w ∈ u_ws "RunwayDesk$State" TF_1 13, w ∈ am_ws := by
  show ∀ w ∈ [u_lay "RunwayDesk$State" TF_1 0, u_lay "RunwayDesk$State" TF_1 1, u_lay "RunwayDesk$State" TF_1 2, u_lay "RunwayDesk$State" TF_1 3, u_lay "RunwayDesk$State" TF_1 4, u_lay "RunwayDesk$State" TF_1 5, u_lay "RunwayDesk$State" TF_1 6, u_lay "RunwayDesk$State" TF_1 7, u_lay "RunwayDesk$State" TF_1 8, u_lay "RunwayDesk$State" TF_1 9, u_lay "RunwayDesk$State" TF_1 10, u_lay "RunwayDesk$State" TF_1 11, u_lay "RunwayDesk$State" TF_1 12], w ∈ am_ws
  exact List.forall_mem_cons.mpr ⟨tl_61, List.forall_mem_cons.mpr ⟨tl_63, List.forall_mem_cons.mpr ⟨tl_65, List.forall_mem_cons.mpr ⟨tl_67, List.forall_mem_cons.mpr ⟨tl_69, List.forall_mem_cons.mpr ⟨tl_71, List.forall_mem_cons.mpr ⟨tl_73, List.forall_mem_cons.mpr ⟨tl_75, List.forall_mem_cons.mpr ⟨tl_77, List.forall_mem_cons.mpr ⟨tl_79, List.forall_mem_cons.mpr ⟨tl_81, List.forall_mem_cons.mpr ⟨tl_83, List.forall_mem_cons.mpr ⟨tl_85, fun _ h => absurd h List.not_mem_nil⟩⟩⟩⟩⟩⟩⟩⟩⟩⟩⟩⟩⟩
theorem tl_119 : (Jvm.Cond.laysFinal "RunwayDesk" "RunwayDesk" "state" "LRunwayDesk$State;") ∈ am_ws := am_in (List.mem_of_getElem? (i := 119) (by decide +kernel)) rfl
theorem tl_121 : (Jvm.Cond.laysFinal "RunwayDesk" "RunwayDesk" "search" "LRunwayDesk$Search;") ∈ am_ws := am_in (List.mem_of_getElem? (i := 121) (by decide +kernel)) rfl
theorem tl_123 : (Jvm.Cond.laysFinal "RunwayDesk" "RunwayDesk" "result" "[I") ∈ am_ws := am_in (List.mem_of_getElem? (i := 123) (by decide +kernel)) rfl
theorem tl_125 : (Jvm.Cond.laysFinal "RunwayDesk" "RunwayDesk" "accepted" "[I") ∈ am_ws := am_in (List.mem_of_getElem? (i := 125) (by decide +kernel)) rfl
theorem tl_127 : (Jvm.Cond.laysFinal "RunwayDesk" "RunwayDesk" "trial" "[I") ∈ am_ws := am_in (List.mem_of_getElem? (i := 127) (by decide +kernel)) rfl
theorem hin_2 : ∀ w ∈ u_ws "RunwayDesk" TF_2 5, w ∈ am_ws := by
  show ∀ w ∈ [u_lay "RunwayDesk" TF_2 0, u_lay "RunwayDesk" TF_2 1, u_lay "RunwayDesk" TF_2 2, u_lay "RunwayDesk" TF_2 3, u_lay "RunwayDesk" TF_2 4], w ∈ am_ws
  exact List.forall_mem_cons.mpr ⟨tl_119, List.forall_mem_cons.mpr ⟨tl_121, List.forall_mem_cons.mpr ⟨tl_123, List.forall_mem_cons.mpr ⟨tl_125, List.forall_mem_cons.mpr ⟨tl_127, fun _ h => absurd h List.not_mem_nil⟩⟩⟩⟩⟩
theorem tl_555 : (Jvm.Cond.lays "RunwayDeskModel" "RunwayDeskModel" "thrown" "I") ∈ am_ws := am_in (List.mem_of_getElem? (i := 555) (by decide +kernel)) rfl
theorem tl_557 : (Jvm.Cond.laysFinal "RunwayDeskModel" "RunwayDeskModel" "there" "[Z") ∈ am_ws := am_in (List.mem_of_getElem? (i := 557) (by decide +kernel)) rfl
theorem tl_559 : (Jvm.Cond.laysFinal "RunwayDeskModel" "RunwayDeskModel" "types" "[I") ∈ am_ws := am_in (List.mem_of_getElem? (i := 559) (by decide +kernel)) rfl
theorem tl_561 : (Jvm.Cond.laysFinal "RunwayDeskModel" "RunwayDeskModel" "earlies" "[I") ∈ am_ws := am_in (List.mem_of_getElem? (i := 561) (by decide +kernel)) rfl
theorem tl_563 : (Jvm.Cond.laysFinal "RunwayDeskModel" "RunwayDeskModel" "targets" "[I") ∈ am_ws := am_in (List.mem_of_getElem? (i := 563) (by decide +kernel)) rfl
theorem tl_565 : (Jvm.Cond.laysFinal "RunwayDeskModel" "RunwayDeskModel" "lates" "[I") ∈ am_ws := am_in (List.mem_of_getElem? (i := 565) (by decide +kernel)) rfl
theorem tl_567 : (Jvm.Cond.laysFinal "RunwayDeskModel" "RunwayDeskModel" "weights" "[I") ∈ am_ws := am_in (List.mem_of_getElem? (i := 567) (by decide +kernel)) rfl
theorem tl_569 : (Jvm.Cond.laysFinal "RunwayDeskModel" "RunwayDeskModel" "frozen" "[I") ∈ am_ws := am_in (List.mem_of_getElem? (i := 569) (by decide +kernel)) rfl
theorem tl_571 : (Jvm.Cond.laysFinal "RunwayDeskModel" "RunwayDeskModel" "gaps" "[I") ∈ am_ws := am_in (List.mem_of_getElem? (i := 571) (by decide +kernel)) rfl
theorem tl_573 : (Jvm.Cond.lays "RunwayDeskModel" "RunwayDeskModel" "closures" "I") ∈ am_ws := am_in (List.mem_of_getElem? (i := 573) (by decide +kernel)) rfl
theorem tl_575 : (Jvm.Cond.laysFinal "RunwayDeskModel" "RunwayDeskModel" "froms" "[I") ∈ am_ws := am_in (List.mem_of_getElem? (i := 575) (by decide +kernel)) rfl
theorem tl_577 : (Jvm.Cond.laysFinal "RunwayDeskModel" "RunwayDeskModel" "tos" "[I") ∈ am_ws := am_in (List.mem_of_getElem? (i := 577) (by decide +kernel)) rfl
theorem tl_579 : (Jvm.Cond.lays "RunwayDeskModel" "RunwayDeskModel" "most" "I") ∈ am_ws := am_in (List.mem_of_getElem? (i := 579) (by decide +kernel)) rfl
theorem tl_581 : (Jvm.Cond.laysFinal "RunwayDeskModel" "RunwayDeskModel" "result" "[I") ∈ am_ws := am_in (List.mem_of_getElem? (i := 581) (by decide +kernel)) rfl
theorem tl_583 : (Jvm.Cond.laysFinal "RunwayDeskModel" "RunwayDeskModel" "accepted" "[I") ∈ am_ws := am_in (List.mem_of_getElem? (i := 583) (by decide +kernel)) rfl
theorem tl_585 : (Jvm.Cond.lays "RunwayDeskModel" "RunwayDeskModel" "many" "I") ∈ am_ws := am_in (List.mem_of_getElem? (i := 585) (by decide +kernel)) rfl
theorem tl_587 : (Jvm.Cond.laysFinal "RunwayDeskModel" "RunwayDeskModel" "order" "[I") ∈ am_ws := am_in (List.mem_of_getElem? (i := 587) (by decide +kernel)) rfl
theorem tl_589 : (Jvm.Cond.laysFinal "RunwayDeskModel" "RunwayDeskModel" "tried" "[I") ∈ am_ws := am_in (List.mem_of_getElem? (i := 589) (by decide +kernel)) rfl
theorem tl_591 : (Jvm.Cond.laysFinal "RunwayDeskModel" "RunwayDeskModel" "used" "[Z") ∈ am_ws := am_in (List.mem_of_getElem? (i := 591) (by decide +kernel)) rfl
theorem tl_593 : (Jvm.Cond.laysFinal "RunwayDeskModel" "RunwayDeskModel" "seconds" "[I") ∈ am_ws := am_in (List.mem_of_getElem? (i := 593) (by decide +kernel)) rfl
theorem tl_595 : (Jvm.Cond.laysFinal "RunwayDeskModel" "RunwayDeskModel" "costs" "[I") ∈ am_ws := am_in (List.mem_of_getElem? (i := 595) (by decide +kernel)) rfl
theorem tl_597 : (Jvm.Cond.laysFinal "RunwayDeskModel" "RunwayDeskModel" "best" "[I") ∈ am_ws := am_in (List.mem_of_getElem? (i := 597) (by decide +kernel)) rfl
theorem hin_3 : ∀ w ∈ u_ws "RunwayDeskModel" TF_3 22, w ∈ am_ws := by
  show ∀ w ∈ [u_lay "RunwayDeskModel" TF_3 0, u_lay "RunwayDeskModel" TF_3 1, u_lay "RunwayDeskModel" TF_3 2, u_lay "RunwayDeskModel" TF_3 3, u_lay "RunwayDeskModel" TF_3 4, u_lay "RunwayDeskModel" TF_3 5, u_lay "RunwayDeskModel" TF_3 6, u_lay "RunwayDeskModel" TF_3 7, u_lay "RunwayDeskModel" TF_3 8, u_lay "RunwayDeskModel" TF_3 9, u_lay "RunwayDeskModel" TF_3 10, u_lay "RunwayDeskModel" TF_3 11, u_lay "RunwayDeskModel" TF_3 12, u_lay "RunwayDeskModel" TF_3 13, u_lay "RunwayDeskModel" TF_3 14, u_lay "RunwayDeskModel" TF_3 15, u_lay "RunwayDeskModel" TF_3 16, u_lay "RunwayDeskModel" TF_3 17, u_lay "RunwayDeskModel" TF_3 18, u_lay "RunwayDeskModel" TF_3 19, u_lay "RunwayDeskModel" TF_3 20, u_lay "RunwayDeskModel" TF_3 21], w ∈ am_ws
  exact List.forall_mem_cons.mpr ⟨tl_555, List.forall_mem_cons.mpr ⟨tl_557, List.forall_mem_cons.mpr ⟨tl_559, List.forall_mem_cons.mpr ⟨tl_561, List.forall_mem_cons.mpr ⟨tl_563, List.forall_mem_cons.mpr ⟨tl_565, List.forall_mem_cons.mpr ⟨tl_567, List.forall_mem_cons.mpr ⟨tl_569, List.forall_mem_cons.mpr ⟨tl_571, List.forall_mem_cons.mpr ⟨tl_573, List.forall_mem_cons.mpr ⟨tl_575, List.forall_mem_cons.mpr ⟨tl_577, List.forall_mem_cons.mpr ⟨tl_579, List.forall_mem_cons.mpr ⟨tl_581, List.forall_mem_cons.mpr ⟨tl_583, List.forall_mem_cons.mpr ⟨tl_585, List.forall_mem_cons.mpr ⟨tl_587, List.forall_mem_cons.mpr ⟨tl_589, List.forall_mem_cons.mpr ⟨tl_591, List.forall_mem_cons.mpr ⟨tl_593, List.forall_mem_cons.mpr ⟨tl_595, List.forall_mem_cons.mpr ⟨tl_597, fun _ h => absurd h List.not_mem_nil⟩⟩⟩⟩⟩⟩⟩⟩⟩⟩⟩⟩⟩⟩⟩⟩⟩⟩⟩⟩⟩⟩
end
section
/-! throw new E(): the words; arraycopy's frame -/
theorem am_cpw : nativeFrameWords "java/lang/System" "arraycopy" 5 ≤ 100 := by decide +kernel
set_option maxRecDepth 100000 in
theorem am_ownk0 : ∀ w ∈ Bundle.ownAtoms0 "RunwayDesk" 49 "java/lang/IllegalArgumentException" ["java/lang/RuntimeException", "java/lang/Exception"], (w ∈ tables_1 ∧ am_mv w = true) ∨ w ∈ [Cond.isRef (.static "java/lang/Throwable" "UNASSIGNED_STACK" "[Ljava/lang/StackTraceElement;"), Cond.isRef (.static "java/lang/Throwable" "SUPPRESSED_SENTINEL" "Ljava/util/List;")] := by decide +kernel
theorem am_own0 {s0 U : State} {args : Array Value} (h0 : am_W0 s0) (hU : am_Root s0 U) : ∀ w ∈ Bundle.ownAtoms0 "RunwayDesk" 49 "java/lang/IllegalArgumentException" ["java/lang/RuntimeException", "java/lang/Exception"], w.before args U = true := by
  intro w hw
  rcases am_ownk0 w hw with ⟨h1, h2⟩ | h1
  · exact am_hts h0 hU w (am_in h1 h2)
  · obtain ⟨a0, h3, h4, h5, -⟩ := h0
    rcases List.mem_cons.mp h1 with rfl | h1
    · exact am_isref hU (h3 _ (List.mem_append_right _ (List.mem_of_getElem? (i := 309) (by decide +kernel)))) h4
    · rw [List.mem_singleton.mp h1]
      exact am_isref hU (h3 _ (List.mem_append_right _ (List.mem_of_getElem? (i := 311) (by decide +kernel)))) h5
set_option maxRecDepth 100000 in
theorem am_ownk1 : ∀ w ∈ Bundle.ownAtoms0 "RunwayDesk" 60 "java/lang/IllegalStateException" ["java/lang/RuntimeException", "java/lang/Exception"], (w ∈ tables_1 ∧ am_mv w = true) ∨ w ∈ [Cond.isRef (.static "java/lang/Throwable" "UNASSIGNED_STACK" "[Ljava/lang/StackTraceElement;"), Cond.isRef (.static "java/lang/Throwable" "SUPPRESSED_SENTINEL" "Ljava/util/List;")] := by decide +kernel
theorem am_own1 {s0 U : State} {args : Array Value} (h0 : am_W0 s0) (hU : am_Root s0 U) : ∀ w ∈ Bundle.ownAtoms0 "RunwayDesk" 60 "java/lang/IllegalStateException" ["java/lang/RuntimeException", "java/lang/Exception"], w.before args U = true := by
  intro w hw
  rcases am_ownk1 w hw with ⟨h1, h2⟩ | h1
  · exact am_hts h0 hU w (am_in h1 h2)
  · obtain ⟨a0, h3, h4, h5, -⟩ := h0
    rcases List.mem_cons.mp h1 with rfl | h1
    · exact am_isref hU (h3 _ (List.mem_append_right _ (List.mem_of_getElem? (i := 309) (by decide +kernel)))) h4
    · rw [List.mem_singleton.mp h1]
      exact am_isref hU (h3 _ (List.mem_append_right _ (List.mem_of_getElem? (i := 311) (by decide +kernel)))) h5
set_option maxRecDepth 100000 in
theorem am_ownk2 : ∀ w ∈ Bundle.ownAtoms0 "RunwayDesk" 166 "java/util/NoSuchElementException" ["java/lang/RuntimeException", "java/lang/Exception"], (w ∈ tables_1 ∧ am_mv w = true) ∨ w ∈ [Cond.isRef (.static "java/lang/Throwable" "UNASSIGNED_STACK" "[Ljava/lang/StackTraceElement;"), Cond.isRef (.static "java/lang/Throwable" "SUPPRESSED_SENTINEL" "Ljava/util/List;")] := by decide +kernel
theorem am_own2 {s0 U : State} {args : Array Value} (h0 : am_W0 s0) (hU : am_Root s0 U) : ∀ w ∈ Bundle.ownAtoms0 "RunwayDesk" 166 "java/util/NoSuchElementException" ["java/lang/RuntimeException", "java/lang/Exception"], w.before args U = true := by
  intro w hw
  rcases am_ownk2 w hw with ⟨h1, h2⟩ | h1
  · exact am_hts h0 hU w (am_in h1 h2)
  · obtain ⟨a0, h3, h4, h5, -⟩ := h0
    rcases List.mem_cons.mp h1 with rfl | h1
    · exact am_isref hU (h3 _ (List.mem_append_right _ (List.mem_of_getElem? (i := 309) (by decide +kernel)))) h4
    · rw [List.mem_singleton.mp h1]
      exact am_isref hU (h3 _ (List.mem_append_right _ (List.mem_of_getElem? (i := 311) (by decide +kernel)))) h5
set_option maxRecDepth 100000 in
theorem am_ownk3 : ∀ w ∈ Bundle.ownAtoms0 "RunwayDesk" 131 "java/lang/IndexOutOfBoundsException" ["java/lang/RuntimeException", "java/lang/Exception"], (w ∈ tables_1 ∧ am_mv w = true) ∨ w ∈ [Cond.isRef (.static "java/lang/Throwable" "UNASSIGNED_STACK" "[Ljava/lang/StackTraceElement;"), Cond.isRef (.static "java/lang/Throwable" "SUPPRESSED_SENTINEL" "Ljava/util/List;")] := by decide +kernel
theorem am_own3 {s0 U : State} {args : Array Value} (h0 : am_W0 s0) (hU : am_Root s0 U) : ∀ w ∈ Bundle.ownAtoms0 "RunwayDesk" 131 "java/lang/IndexOutOfBoundsException" ["java/lang/RuntimeException", "java/lang/Exception"], w.before args U = true := by
  intro w hw
  rcases am_ownk3 w hw with ⟨h1, h2⟩ | h1
  · exact am_hts h0 hU w (am_in h1 h2)
  · obtain ⟨a0, h3, h4, h5, -⟩ := h0
    rcases List.mem_cons.mp h1 with rfl | h1
    · exact am_isref hU (h3 _ (List.mem_append_right _ (List.mem_of_getElem? (i := 309) (by decide +kernel)))) h4
    · rw [List.mem_singleton.mp h1]
      exact am_isref hU (h3 _ (List.mem_append_right _ (List.mem_of_getElem? (i := 311) (by decide +kernel)))) h5
end
section
/-! contracts: 50.search (laid by wip/whole/gen.py) -/
theorem dk_69_0 : decode prog_2_method_1_code 0 = .ok (.aload_n 0, 1) := by decide +kernel
theorem dk_69_1 : decode prog_2_method_1_code 1 = .ok (.invokespecial 3, 3) := by decide +kernel
theorem dk_69_4 : decode prog_2_method_1_code 4 = .ok (.aload_n 0, 1) := by decide +kernel
theorem dk_69_5 : decode prog_2_method_1_code 5 = .ok (.bipush (8), 2) := by decide +kernel
theorem dk_69_7 : decode prog_2_method_1_code 7 = .ok (.bipush (7), 2) := by decide +kernel
theorem dk_69_9 : decode prog_2_method_1_code 9 = .ok (.multianewarray 9 2, 4) := by decide +kernel
theorem dk_69_13 : decode prog_2_method_1_code 13 = .ok (.putfield 11, 3) := by decide +kernel
theorem dk_69_16 : decode prog_2_method_1_code 16 = .ok (.aload_n 0, 1) := by decide +kernel
theorem dk_69_17 : decode prog_2_method_1_code 17 = .ok (.bipush (7), 2) := by decide +kernel
theorem dk_69_19 : decode prog_2_method_1_code 19 = .ok (.newarray .int, 2) := by decide +kernel
theorem dk_69_21 : decode prog_2_method_1_code 21 = .ok (.putfield 16, 3) := by decide +kernel
theorem dk_69_24 : decode prog_2_method_1_code 24 = .ok (.aload_n 0, 1) := by decide +kernel
theorem dk_69_25 : decode prog_2_method_1_code 25 = .ok (.bipush (7), 2) := by decide +kernel
theorem dk_69_27 : decode prog_2_method_1_code 27 = .ok (.newarray .boolean, 2) := by decide +kernel
theorem dk_69_29 : decode prog_2_method_1_code 29 = .ok (.putfield 20, 3) := by decide +kernel
theorem dk_69_32 : decode prog_2_method_1_code 32 = .ok (.aload_n 0, 1) := by decide +kernel
theorem dk_69_33 : decode prog_2_method_1_code 33 = .ok (.bipush (7), 2) := by decide +kernel
theorem dk_69_35 : decode prog_2_method_1_code 35 = .ok (.newarray .int, 2) := by decide +kernel
theorem dk_69_37 : decode prog_2_method_1_code 37 = .ok (.putfield 24, 3) := by decide +kernel
theorem dk_69_40 : decode prog_2_method_1_code 40 = .ok (.return_, 1) := by decide +kernel
set_option maxRecDepth 100000 in
set_option maxHeartbeats 4000000 in
theorem cc_69 {l : Launch} {s0 : State} (hst : l.stackTraces = false) (h0 : am_W0 s0) {d : Nat} (hall : ∀ mi ∈ am_idx, am_CC l s0 d mi) : am_CC l s0 (d + 1) 69 :=
  am_method (y := y_69) (cc := prog_2_method_1_code) (maxL := 1) (ret := none) (rm := am_rm (d + 1) 12 85) (ops := op_69) (C := am_T am_tabs am_ar d) (ar := 1) h0 (by decide) (by decide) fun p e s m args below meth c D A bS ad0 Q hct htab => by
    obtain ⟨hx, hb, hml, hown, hts, hb1, hb2, hA, hroot, hAs, -, -, hlocks, hr, hnm⟩ := hct
    exact List.forall_mem_cons.mpr ⟨ok_aload_n hx hb dk_69_0 rfl,
    List.forall_mem_cons.mpr ⟨ok_oinit hx hb hts hown hml tw_95 tw_21 tw_22 rfl (by show 1 ≤ d + 1 + 8; omega) (by show 20 ≤ 200 + 60 * (d + 1); omega) dk_69_1,
    List.forall_mem_cons.mpr ⟨ok_aload_n hx hb dk_69_4 rfl,
    List.forall_mem_cons.mpr ⟨ok_bipush hx hb dk_69_5 (by decide),
    List.forall_mem_cons.mpr ⟨ok_bipush hx hb dk_69_7 (by decide),
    List.forall_mem_cons.mpr ⟨ok_mna hx hb hts hown hA rfl rfl tw_96 tw_30 tw_89 dk_69_9,
    List.forall_mem_cons.mpr ⟨ok_putr hx hb hts hown hin_0 tyF_0 tyF_0_ok nmF_0 rfl (by decide) tw_97 rfl hnm rfl (tyF_0_ok 0 (by decide)) (fun _ => rfl) (fun _ => rfl) dk_69_13,
    List.forall_mem_cons.mpr ⟨ok_aload_n hx hb dk_69_16 rfl,
    List.forall_mem_cons.mpr ⟨ok_bipush hx hb dk_69_17 (by decide),
    List.forall_mem_cons.mpr ⟨ok_newa_int hx hb hts hA tw_89 rfl rfl dk_69_19,
    List.forall_mem_cons.mpr ⟨ok_putr hx hb hts hown hin_0 tyF_0 tyF_0_ok nmF_0 rfl (by decide) tw_98 rfl hnm rfl (tyF_0_ok 1 (by decide)) (fun _ => rfl) (fun _ => rfl) dk_69_21,
    List.forall_mem_cons.mpr ⟨ok_aload_n hx hb dk_69_24 rfl,
    List.forall_mem_cons.mpr ⟨ok_bipush hx hb dk_69_25 (by decide),
    List.forall_mem_cons.mpr ⟨ok_newa_boolean hx hb hts hA tw_88 rfl rfl dk_69_27,
    List.forall_mem_cons.mpr ⟨ok_putr hx hb hts hown hin_0 tyF_0 tyF_0_ok nmF_0 rfl (by decide) tw_99 rfl hnm rfl (tyF_0_ok 2 (by decide)) (fun _ => rfl) (fun _ => rfl) dk_69_29,
    List.forall_mem_cons.mpr ⟨ok_aload_n hx hb dk_69_32 rfl,
    List.forall_mem_cons.mpr ⟨ok_bipush hx hb dk_69_33 (by decide),
    List.forall_mem_cons.mpr ⟨ok_newa_int hx hb hts hA tw_89 rfl rfl dk_69_35,
    List.forall_mem_cons.mpr ⟨ok_putr hx hb hts hown hin_0 tyF_0 tyF_0_ok nmF_0 rfl (by decide) tw_100 rfl hnm rfl (tyF_0_ok 3 (by decide)) (fun _ => rfl) (fun _ => rfl) dk_69_37,
    List.forall_mem_cons.mpr ⟨ok_vret hx hb hb1 hb2 hr hlocks dk_69_40,
    fun _ h => absurd h List.not_mem_nil⟩⟩⟩⟩⟩⟩⟩⟩⟩⟩⟩⟩⟩⟩⟩⟩⟩⟩⟩⟩
theorem dk_70_0 : decode prog_2_method_2_code 0 = .ok (.aload_n 0, 1) := by decide +kernel
theorem dk_70_1 : decode prog_2_method_2_code 1 = .ok (.aload_n 1, 1) := by decide +kernel
theorem dk_70_2 : decode prog_2_method_2_code 2 = .ok (.invokevirtual 27, 3) := by decide +kernel
theorem dk_70_5 : decode prog_2_method_2_code 5 = .ok (.aload_n 0, 1) := by decide +kernel
theorem dk_70_6 : decode prog_2_method_2_code 6 = .ok (.aload_n 1, 1) := by decide +kernel
theorem dk_70_7 : decode prog_2_method_2_code 7 = .ok (.iconst (0), 1) := by decide +kernel
theorem dk_70_8 : decode prog_2_method_2_code 8 = .ok (.invokevirtual 31, 3) := by decide +kernel
theorem dk_70_11 : decode prog_2_method_2_code 11 = .ok (.iconst (-1), 1) := by decide +kernel
theorem dk_70_12 : decode prog_2_method_2_code 12 = .ok (.if_icmp .eq (9), 3) := by decide +kernel
theorem dk_70_15 : decode prog_2_method_2_code 15 = .ok (.aload_n 0, 1) := by decide +kernel
theorem dk_70_16 : decode prog_2_method_2_code 16 = .ok (.aload_n 1, 1) := by decide +kernel
theorem dk_70_17 : decode prog_2_method_2_code 17 = .ok (.iconst (0), 1) := by decide +kernel
theorem dk_70_18 : decode prog_2_method_2_code 18 = .ok (.invokevirtual 35, 3) := by decide +kernel
theorem dk_70_21 : decode prog_2_method_2_code 21 = .ok (.aload_n 0, 1) := by decide +kernel
theorem dk_70_22 : decode prog_2_method_2_code 22 = .ok (.getfield 39, 3) := by decide +kernel
theorem dk_70_25 : decode prog_2_method_2_code 25 = .ok (.ireturn, 1) := by decide +kernel
set_option maxRecDepth 100000 in
set_option maxHeartbeats 4000000 in
theorem cc_70 {l : Launch} {s0 : State} (hst : l.stackTraces = false) (h0 : am_W0 s0) {d : Nat} (hall : ∀ mi ∈ am_idx, am_CC l s0 d mi) : am_CC l s0 (d + 1) 70 :=
  am_method (y := y_70) (cc := prog_2_method_2_code) (maxL := 2) (ret := (some .int)) (rm := am_rm (d + 1) 0 0) (ops := op_70) (C := am_T am_tabs am_ar d) (ar := 2) h0 (by decide) (by decide) fun p e s m args below meth c D A bS ad0 Q hct htab => by
    obtain ⟨hx, hb, hml, hown, hts, hb1, hb2, hA, hroot, hAs, -, -, hlocks, hr, hnm⟩ := hct
    exact List.forall_mem_cons.mpr ⟨ok_aload_n hx hb dk_70_0 rfl,
    List.forall_mem_cons.mpr ⟨ok_aload_n hx hb dk_70_1 rfl,
    List.forall_mem_cons.mpr ⟨ok_cV hx hb hml hown hts hb1 hb2 hA hroot hAs rfl rfl rfl (hcal_74 hall) tw_142 tw_144 ts_0 tw_145 tw_4 nm_74 rfl rfl (by show d + 8 + 1 ≤ d + 1 + 8; omega) (by show 8 + (3 + 11) + (200 + 60 * d) ≤ 200 + 60 * (d + 1); omega) dk_70_2,
    List.forall_mem_cons.mpr ⟨ok_aload_n hx hb dk_70_5 rfl,
    List.forall_mem_cons.mpr ⟨ok_aload_n hx hb dk_70_6 rfl,
    List.forall_mem_cons.mpr ⟨ok_iconst hx hb dk_70_7 rfl,
    List.forall_mem_cons.mpr ⟨ok_cV hx hb hml hown hts hb1 hb2 hA hroot hAs rfl rfl rfl (hcal_78 hall) tw_176 tw_178 ts_3 tw_179 tw_4 nm_78 rfl rfl (by show d + 8 + 1 ≤ d + 1 + 8; omega) (by show 8 + (5 + 11) + (200 + 60 * d) ≤ 200 + 60 * (d + 1); omega) dk_70_8,
    List.forall_mem_cons.mpr ⟨ok_iconst hx hb dk_70_11 rfl,
    List.forall_mem_cons.mpr ⟨ok_icmp_eq hx hb dk_70_12 (by decide),
    List.forall_mem_cons.mpr ⟨ok_aload_n hx hb dk_70_15 rfl,
    List.forall_mem_cons.mpr ⟨ok_aload_n hx hb dk_70_16 rfl,
    List.forall_mem_cons.mpr ⟨ok_iconst hx hb dk_70_17 rfl,
    List.forall_mem_cons.mpr ⟨ok_cV hx hb hml hown hts hb1 hb2 hA hroot hAs rfl rfl rfl (hcal_75 hall) tw_184 tw_186 ts_4 tw_187 tw_4 nm_75 rfl rfl (by show d + 8 + 1 ≤ d + 1 + 8; omega) (by show 8 + (5 + 11) + (200 + 60 * d) ≤ 200 + 60 * (d + 1); omega) dk_70_18,
    List.forall_mem_cons.mpr ⟨ok_aload_n hx hb dk_70_21 rfl,
    List.forall_mem_cons.mpr ⟨ok_geti hx hb hts hown hin_0 rfl (by decide) tw_101 dk_70_22,
    List.forall_mem_cons.mpr ⟨ok_iret hx hb hb1 hb2 hr hlocks dk_70_25,
    fun _ h => absurd h List.not_mem_nil⟩⟩⟩⟩⟩⟩⟩⟩⟩⟩⟩⟩⟩⟩⟩⟩
theorem dk_71_0 : decode prog_2_method_3_code 0 = .ok (.aload_n 0, 1) := by decide +kernel
theorem dk_71_1 : decode prog_2_method_3_code 1 = .ok (.aload_n 1, 1) := by decide +kernel
theorem dk_71_2 : decode prog_2_method_3_code 2 = .ok (.invokevirtual 27, 3) := by decide +kernel
theorem dk_71_5 : decode prog_2_method_3_code 5 = .ok (.aload_n 0, 1) := by decide +kernel
theorem dk_71_6 : decode prog_2_method_3_code 6 = .ok (.aload_n 1, 1) := by decide +kernel
theorem dk_71_7 : decode prog_2_method_3_code 7 = .ok (.iconst (0), 1) := by decide +kernel
theorem dk_71_8 : decode prog_2_method_3_code 8 = .ok (.invokevirtual 31, 3) := by decide +kernel
theorem dk_71_11 : decode prog_2_method_3_code 11 = .ok (.istore_n 2, 1) := by decide +kernel
theorem dk_71_12 : decode prog_2_method_3_code 12 = .ok (.iconst (0), 1) := by decide +kernel
theorem dk_71_13 : decode prog_2_method_3_code 13 = .ok (.istore_n 3, 1) := by decide +kernel
theorem dk_71_14 : decode prog_2_method_3_code 14 = .ok (.iload_n 3, 1) := by decide +kernel
theorem dk_71_15 : decode prog_2_method_3_code 15 = .ok (.aload_n 1, 1) := by decide +kernel
theorem dk_71_16 : decode prog_2_method_3_code 16 = .ok (.getfield 43, 3) := by decide +kernel
theorem dk_71_19 : decode prog_2_method_3_code 19 = .ok (.if_icmp .ge (35), 3) := by decide +kernel
theorem dk_71_22 : decode prog_2_method_3_code 22 = .ok (.iload_n 2, 1) := by decide +kernel
theorem dk_71_23 : decode prog_2_method_3_code 23 = .ok (.iconst (-1), 1) := by decide +kernel
theorem dk_71_24 : decode prog_2_method_3_code 24 = .ok (.if_icmp .eq (30), 3) := by decide +kernel
theorem dk_71_27 : decode prog_2_method_3_code 27 = .ok (.aload_n 0, 1) := by decide +kernel
theorem dk_71_28 : decode prog_2_method_3_code 28 = .ok (.aload_n 1, 1) := by decide +kernel
theorem dk_71_29 : decode prog_2_method_3_code 29 = .ok (.iload_n 3, 1) := by decide +kernel
theorem dk_71_30 : decode prog_2_method_3_code 30 = .ok (.aload_n 0, 1) := by decide +kernel
theorem dk_71_31 : decode prog_2_method_3_code 31 = .ok (.getfield 16, 3) := by decide +kernel
theorem dk_71_34 : decode prog_2_method_3_code 34 = .ok (.iload_n 3, 1) := by decide +kernel
theorem dk_71_35 : decode prog_2_method_3_code 35 = .ok (.iaload, 1) := by decide +kernel
theorem dk_71_36 : decode prog_2_method_3_code 36 = .ok (.invokevirtual 48, 3) := by decide +kernel
theorem dk_71_39 : decode prog_2_method_3_code 39 = .ok (.aload_n 0, 1) := by decide +kernel
theorem dk_71_40 : decode prog_2_method_3_code 40 = .ok (.aload_n 1, 1) := by decide +kernel
theorem dk_71_41 : decode prog_2_method_3_code 41 = .ok (.iload_n 3, 1) := by decide +kernel
theorem dk_71_42 : decode prog_2_method_3_code 42 = .ok (.iconst (1), 1) := by decide +kernel
theorem dk_71_43 : decode prog_2_method_3_code 43 = .ok (.iadd, 1) := by decide +kernel
theorem dk_71_44 : decode prog_2_method_3_code 44 = .ok (.invokevirtual 31, 3) := by decide +kernel
theorem dk_71_47 : decode prog_2_method_3_code 47 = .ok (.istore_n 2, 1) := by decide +kernel
theorem dk_71_48 : decode prog_2_method_3_code 48 = .ok (.iinc 3 (1), 3) := by decide +kernel
theorem dk_71_51 : decode prog_2_method_3_code 51 = .ok (.goto (-37), 3) := by decide +kernel
theorem dk_71_54 : decode prog_2_method_3_code 54 = .ok (.iload_n 2, 1) := by decide +kernel
theorem dk_71_55 : decode prog_2_method_3_code 55 = .ok (.ireturn, 1) := by decide +kernel
set_option maxRecDepth 100000 in
set_option maxHeartbeats 4000000 in
theorem cc_71 {l : Launch} {s0 : State} (hst : l.stackTraces = false) (h0 : am_W0 s0) {d : Nat} (hall : ∀ mi ∈ am_idx, am_CC l s0 d mi) : am_CC l s0 (d + 1) 71 :=
  am_method (y := y_71) (cc := prog_2_method_3_code) (maxL := 4) (ret := (some .int)) (rm := am_rm (d + 1) 0 0) (ops := op_71) (C := am_T am_tabs am_ar d) (ar := 2) h0 (by decide) (by decide) fun p e s m args below meth c D A bS ad0 Q hct htab => by
    obtain ⟨hx, hb, hml, hown, hts, hb1, hb2, hA, hroot, hAs, -, -, hlocks, hr, hnm⟩ := hct
    exact List.forall_mem_cons.mpr ⟨ok_aload_n hx hb dk_71_0 rfl,
    List.forall_mem_cons.mpr ⟨ok_aload_n hx hb dk_71_1 rfl,
    List.forall_mem_cons.mpr ⟨ok_cV hx hb hml hown hts hb1 hb2 hA hroot hAs rfl rfl rfl (hcal_74 hall) tw_142 tw_144 ts_0 tw_145 tw_4 nm_74 rfl rfl (by show d + 8 + 1 ≤ d + 1 + 8; omega) (by show 8 + (3 + 11) + (200 + 60 * d) ≤ 200 + 60 * (d + 1); omega) dk_71_2,
    List.forall_mem_cons.mpr ⟨ok_aload_n hx hb dk_71_5 rfl,
    List.forall_mem_cons.mpr ⟨ok_aload_n hx hb dk_71_6 rfl,
    List.forall_mem_cons.mpr ⟨ok_iconst hx hb dk_71_7 rfl,
    List.forall_mem_cons.mpr ⟨ok_cV hx hb hml hown hts hb1 hb2 hA hroot hAs rfl rfl rfl (hcal_78 hall) tw_176 tw_178 ts_3 tw_179 tw_4 nm_78 rfl rfl (by show d + 8 + 1 ≤ d + 1 + 8; omega) (by show 8 + (5 + 11) + (200 + 60 * d) ≤ 200 + 60 * (d + 1); omega) dk_71_8,
    List.forall_mem_cons.mpr ⟨ok_istore_n hx hb dk_71_11 rfl (by decide),
    List.forall_mem_cons.mpr ⟨ok_iconst hx hb dk_71_12 rfl,
    List.forall_mem_cons.mpr ⟨ok_istore_n hx hb dk_71_13 rfl (by decide),
    List.forall_mem_cons.mpr ⟨ok_iload_n hx hb dk_71_14 rfl,
    List.forall_mem_cons.mpr ⟨ok_aload_n hx hb dk_71_15 rfl,
    List.forall_mem_cons.mpr ⟨ok_geti hx hb hts hown hin_1 rfl (by decide) tw_49 dk_71_16,
    List.forall_mem_cons.mpr ⟨ok_icmp_ge hx hb dk_71_19 (by decide),
    List.forall_mem_cons.mpr ⟨ok_iload_n hx hb dk_71_22 rfl,
    List.forall_mem_cons.mpr ⟨ok_iconst hx hb dk_71_23 rfl,
    List.forall_mem_cons.mpr ⟨ok_icmp_eq hx hb dk_71_24 (by decide),
    List.forall_mem_cons.mpr ⟨ok_aload_n hx hb dk_71_27 rfl,
    List.forall_mem_cons.mpr ⟨ok_aload_n hx hb dk_71_28 rfl,
    List.forall_mem_cons.mpr ⟨ok_iload_n hx hb dk_71_29 rfl,
    List.forall_mem_cons.mpr ⟨ok_aload_n hx hb dk_71_30 rfl,
    List.forall_mem_cons.mpr ⟨ok_getr hx hb hts hown hin_0 rfl (by decide) tw_98 dk_71_31,
    List.forall_mem_cons.mpr ⟨ok_iload_n hx hb dk_71_34 rfl,
    List.forall_mem_cons.mpr ⟨ok_iald hx hb dk_71_35,
    List.forall_mem_cons.mpr ⟨ok_cV hx hb hml hown hts hb1 hb2 hA hroot hAs rfl rfl rfl (hcal_77 hall) tw_198 tw_200 ts_5 tw_201 tw_4 nm_77 rfl rfl (by show d + 8 + 1 ≤ d + 1 + 8; omega) (by show 8 + (8 + 11) + (200 + 60 * d) ≤ 200 + 60 * (d + 1); omega) dk_71_36,
    List.forall_mem_cons.mpr ⟨ok_aload_n hx hb dk_71_39 rfl,
    List.forall_mem_cons.mpr ⟨ok_aload_n hx hb dk_71_40 rfl,
    List.forall_mem_cons.mpr ⟨ok_iload_n hx hb dk_71_41 rfl,
    List.forall_mem_cons.mpr ⟨ok_iconst hx hb dk_71_42 rfl,
    List.forall_mem_cons.mpr ⟨ok_iadd hx hb dk_71_43,
    List.forall_mem_cons.mpr ⟨ok_cV hx hb hml hown hts hb1 hb2 hA hroot hAs rfl rfl rfl (hcal_78 hall) tw_176 tw_178 ts_3 tw_179 tw_4 nm_78 rfl rfl (by show d + 8 + 1 ≤ d + 1 + 8; omega) (by show 8 + (5 + 11) + (200 + 60 * d) ≤ 200 + 60 * (d + 1); omega) dk_71_44,
    List.forall_mem_cons.mpr ⟨ok_istore_n hx hb dk_71_47 rfl (by decide),
    List.forall_mem_cons.mpr ⟨ok_iinc hx hb dk_71_48 rfl (by decide),
    List.forall_mem_cons.mpr ⟨ok_goto hx hb dk_71_51 (by decide),
    List.forall_mem_cons.mpr ⟨ok_iload_n hx hb dk_71_54 rfl,
    List.forall_mem_cons.mpr ⟨ok_iret hx hb hb1 hb2 hr hlocks dk_71_55,
    fun _ h => absurd h List.not_mem_nil⟩⟩⟩⟩⟩⟩⟩⟩⟩⟩⟩⟩⟩⟩⟩⟩⟩⟩⟩⟩⟩⟩⟩⟩⟩⟩⟩⟩⟩⟩⟩⟩⟩⟩⟩⟩
theorem dk_72_0 : decode prog_2_method_4_code 0 = .ok (.aload_n 0, 1) := by decide +kernel
theorem dk_72_1 : decode prog_2_method_4_code 1 = .ok (.aload_n 1, 1) := by decide +kernel
theorem dk_72_2 : decode prog_2_method_4_code 2 = .ok (.invokevirtual 27, 3) := by decide +kernel
theorem dk_72_5 : decode prog_2_method_4_code 5 = .ok (.aload_n 0, 1) := by decide +kernel
theorem dk_72_6 : decode prog_2_method_4_code 6 = .ok (.aload_n 1, 1) := by decide +kernel
theorem dk_72_7 : decode prog_2_method_4_code 7 = .ok (.iconst (0), 1) := by decide +kernel
theorem dk_72_8 : decode prog_2_method_4_code 8 = .ok (.invokevirtual 31, 3) := by decide +kernel
theorem dk_72_11 : decode prog_2_method_4_code 11 = .ok (.ireturn, 1) := by decide +kernel
set_option maxRecDepth 100000 in
set_option maxHeartbeats 4000000 in
theorem cc_72 {l : Launch} {s0 : State} (hst : l.stackTraces = false) (h0 : am_W0 s0) {d : Nat} (hall : ∀ mi ∈ am_idx, am_CC l s0 d mi) : am_CC l s0 (d + 1) 72 :=
  am_method (y := y_72) (cc := prog_2_method_4_code) (maxL := 2) (ret := (some .int)) (rm := am_rm (d + 1) 0 0) (ops := op_72) (C := am_T am_tabs am_ar d) (ar := 2) h0 (by decide) (by decide) fun p e s m args below meth c D A bS ad0 Q hct htab => by
    obtain ⟨hx, hb, hml, hown, hts, hb1, hb2, hA, hroot, hAs, -, -, hlocks, hr, hnm⟩ := hct
    exact List.forall_mem_cons.mpr ⟨ok_aload_n hx hb dk_72_0 rfl,
    List.forall_mem_cons.mpr ⟨ok_aload_n hx hb dk_72_1 rfl,
    List.forall_mem_cons.mpr ⟨ok_cV hx hb hml hown hts hb1 hb2 hA hroot hAs rfl rfl rfl (hcal_74 hall) tw_142 tw_144 ts_0 tw_145 tw_4 nm_74 rfl rfl (by show d + 8 + 1 ≤ d + 1 + 8; omega) (by show 8 + (3 + 11) + (200 + 60 * d) ≤ 200 + 60 * (d + 1); omega) dk_72_2,
    List.forall_mem_cons.mpr ⟨ok_aload_n hx hb dk_72_5 rfl,
    List.forall_mem_cons.mpr ⟨ok_aload_n hx hb dk_72_6 rfl,
    List.forall_mem_cons.mpr ⟨ok_iconst hx hb dk_72_7 rfl,
    List.forall_mem_cons.mpr ⟨ok_cV hx hb hml hown hts hb1 hb2 hA hroot hAs rfl rfl rfl (hcal_78 hall) tw_176 tw_178 ts_3 tw_179 tw_4 nm_78 rfl rfl (by show d + 8 + 1 ≤ d + 1 + 8; omega) (by show 8 + (5 + 11) + (200 + 60 * d) ≤ 200 + 60 * (d + 1); omega) dk_72_8,
    List.forall_mem_cons.mpr ⟨ok_iret hx hb hb1 hb2 hr hlocks dk_72_11,
    fun _ h => absurd h List.not_mem_nil⟩⟩⟩⟩⟩⟩⟩⟩
theorem dk_73_0 : decode prog_2_method_5_code 0 = .ok (.aload_n 0, 1) := by decide +kernel
theorem dk_73_1 : decode prog_2_method_5_code 1 = .ok (.getfield 24, 3) := by decide +kernel
theorem dk_73_4 : decode prog_2_method_5_code 4 = .ok (.iconst (0), 1) := by decide +kernel
theorem dk_73_5 : decode prog_2_method_5_code 5 = .ok (.aload_n 1, 1) := by decide +kernel
theorem dk_73_6 : decode prog_2_method_5_code 6 = .ok (.iconst (0), 1) := by decide +kernel
theorem dk_73_7 : decode prog_2_method_5_code 7 = .ok (.bipush (7), 2) := by decide +kernel
theorem dk_73_9 : decode prog_2_method_5_code 9 = .ok (.invokestatic 52, 3) := by decide +kernel
theorem dk_73_12 : decode prog_2_method_5_code 12 = .ok (.return_, 1) := by decide +kernel
set_option maxRecDepth 100000 in
set_option maxHeartbeats 4000000 in
theorem cc_73 {l : Launch} {s0 : State} (hst : l.stackTraces = false) (h0 : am_W0 s0) {d : Nat} (hall : ∀ mi ∈ am_idx, am_CC l s0 d mi) : am_CC l s0 (d + 1) 73 :=
  am_method (y := y_73) (cc := prog_2_method_5_code) (maxL := 2) (ret := none) (rm := am_rm (d + 1) 0 0) (ops := op_73) (C := am_T am_tabs am_ar d) (ar := 2) h0 (by decide) (by decide) fun p e s m args below meth c D A bS ad0 Q hct htab => by
    obtain ⟨hx, hb, hml, hown, hts, hb1, hb2, hA, hroot, hAs, -, -, hlocks, hr, hnm⟩ := hct
    exact List.forall_mem_cons.mpr ⟨ok_aload_n hx hb dk_73_0 rfl,
    List.forall_mem_cons.mpr ⟨ok_getr hx hb hts hown hin_0 rfl (by decide) tw_100 dk_73_1,
    List.forall_mem_cons.mpr ⟨ok_iconst hx hb dk_73_4 rfl,
    List.forall_mem_cons.mpr ⟨ok_aload_n hx hb dk_73_5 rfl,
    List.forall_mem_cons.mpr ⟨ok_iconst hx hb dk_73_6 rfl,
    List.forall_mem_cons.mpr ⟨ok_bipush hx hb dk_73_7 (by decide),
    List.forall_mem_cons.mpr ⟨ok_copy hx hb hts hown hml tw_188 tw_190 tw_189 tw_13 (by show 1 ≤ d + 1 + 8; omega) (by have h9 := am_cpw; show 8 + (nativeFrameWords "java/lang/System" "arraycopy" 5 + 11) ≤ 200 + 60 * (d + 1); omega) dk_73_9,
    List.forall_mem_cons.mpr ⟨ok_vret hx hb hb1 hb2 hr hlocks dk_73_12,
    fun _ h => absurd h List.not_mem_nil⟩⟩⟩⟩⟩⟩⟩⟩
theorem dk_74_0 : decode prog_2_method_6_code 0 = .ok (.aload_n 0, 1) := by decide +kernel
theorem dk_74_1 : decode prog_2_method_6_code 1 = .ok (.iconst (-1), 1) := by decide +kernel
theorem dk_74_2 : decode prog_2_method_6_code 2 = .ok (.putfield 39, 3) := by decide +kernel
theorem dk_74_5 : decode prog_2_method_6_code 5 = .ok (.iconst (0), 1) := by decide +kernel
theorem dk_74_6 : decode prog_2_method_6_code 6 = .ok (.istore_n 2, 1) := by decide +kernel
theorem dk_74_7 : decode prog_2_method_6_code 7 = .ok (.iload_n 2, 1) := by decide +kernel
theorem dk_74_8 : decode prog_2_method_6_code 8 = .ok (.bipush (7), 2) := by decide +kernel
theorem dk_74_10 : decode prog_2_method_6_code 10 = .ok (.if_icmp .ge (59), 3) := by decide +kernel
theorem dk_74_13 : decode prog_2_method_6_code 13 = .ok (.aload_n 0, 1) := by decide +kernel
theorem dk_74_14 : decode prog_2_method_6_code 14 = .ok (.getfield 20, 3) := by decide +kernel
theorem dk_74_17 : decode prog_2_method_6_code 17 = .ok (.iload_n 2, 1) := by decide +kernel
theorem dk_74_18 : decode prog_2_method_6_code 18 = .ok (.iconst (0), 1) := by decide +kernel
theorem dk_74_19 : decode prog_2_method_6_code 19 = .ok (.bastore, 1) := by decide +kernel
theorem dk_74_20 : decode prog_2_method_6_code 20 = .ok (.aload_n 0, 1) := by decide +kernel
theorem dk_74_21 : decode prog_2_method_6_code 21 = .ok (.getfield 11, 3) := by decide +kernel
theorem dk_74_24 : decode prog_2_method_6_code 24 = .ok (.iconst (0), 1) := by decide +kernel
theorem dk_74_25 : decode prog_2_method_6_code 25 = .ok (.aaload, 1) := by decide +kernel
theorem dk_74_26 : decode prog_2_method_6_code 26 = .ok (.iload_n 2, 1) := by decide +kernel
theorem dk_74_27 : decode prog_2_method_6_code 27 = .ok (.iconst (-1), 1) := by decide +kernel
theorem dk_74_28 : decode prog_2_method_6_code 28 = .ok (.iastore, 1) := by decide +kernel
theorem dk_74_29 : decode prog_2_method_6_code 29 = .ok (.aload_n 1, 1) := by decide +kernel
theorem dk_74_30 : decode prog_2_method_6_code 30 = .ok (.getfield 58, 3) := by decide +kernel
theorem dk_74_33 : decode prog_2_method_6_code 33 = .ok (.iload_n 2, 1) := by decide +kernel
theorem dk_74_34 : decode prog_2_method_6_code 34 = .ok (.baload, 1) := by decide +kernel
theorem dk_74_35 : decode prog_2_method_6_code 35 = .ok (.ifCond .eq (28), 3) := by decide +kernel
theorem dk_74_38 : decode prog_2_method_6_code 38 = .ok (.aload_n 0, 1) := by decide +kernel
theorem dk_74_39 : decode prog_2_method_6_code 39 = .ok (.getfield 16, 3) := by decide +kernel
theorem dk_74_42 : decode prog_2_method_6_code 42 = .ok (.aload_n 1, 1) := by decide +kernel
theorem dk_74_43 : decode prog_2_method_6_code 43 = .ok (.iload_n 2, 1) := by decide +kernel
theorem dk_74_44 : decode prog_2_method_6_code 44 = .ok (.invokevirtual 61, 3) := by decide +kernel
theorem dk_74_47 : decode prog_2_method_6_code 47 = .ok (.iload_n 2, 1) := by decide +kernel
theorem dk_74_48 : decode prog_2_method_6_code 48 = .ok (.iastore, 1) := by decide +kernel
theorem dk_74_49 : decode prog_2_method_6_code 49 = .ok (.aload_n 0, 1) := by decide +kernel
theorem dk_74_50 : decode prog_2_method_6_code 50 = .ok (.getfield 11, 3) := by decide +kernel
theorem dk_74_53 : decode prog_2_method_6_code 53 = .ok (.iconst (0), 1) := by decide +kernel
theorem dk_74_54 : decode prog_2_method_6_code 54 = .ok (.aaload, 1) := by decide +kernel
theorem dk_74_55 : decode prog_2_method_6_code 55 = .ok (.iload_n 2, 1) := by decide +kernel
theorem dk_74_56 : decode prog_2_method_6_code 56 = .ok (.aload_n 1, 1) := by decide +kernel
theorem dk_74_57 : decode prog_2_method_6_code 57 = .ok (.iload_n 2, 1) := by decide +kernel
theorem dk_74_58 : decode prog_2_method_6_code 58 = .ok (.iconst (0), 1) := by decide +kernel
theorem dk_74_59 : decode prog_2_method_6_code 59 = .ok (.invokevirtual 65, 3) := by decide +kernel
theorem dk_74_62 : decode prog_2_method_6_code 62 = .ok (.iastore, 1) := by decide +kernel
theorem dk_74_63 : decode prog_2_method_6_code 63 = .ok (.iinc 2 (1), 3) := by decide +kernel
theorem dk_74_66 : decode prog_2_method_6_code 66 = .ok (.goto (-59), 3) := by decide +kernel
theorem dk_74_69 : decode prog_2_method_6_code 69 = .ok (.return_, 1) := by decide +kernel
set_option maxRecDepth 100000 in
set_option maxHeartbeats 4000000 in
theorem cc_74 {l : Launch} {s0 : State} (hst : l.stackTraces = false) (h0 : am_W0 s0) {d : Nat} (hall : ∀ mi ∈ am_idx, am_CC l s0 d mi) : am_CC l s0 (d + 1) 74 :=
  am_method (y := y_74) (cc := prog_2_method_6_code) (maxL := 3) (ret := none) (rm := am_rm (d + 1) 0 0) (ops := op_74) (C := am_T am_tabs am_ar d) (ar := 2) h0 (by decide) (by decide) fun p e s m args below meth c D A bS ad0 Q hct htab => by
    obtain ⟨hx, hb, hml, hown, hts, hb1, hb2, hA, hroot, hAs, -, -, hlocks, hr, hnm⟩ := hct
    exact List.forall_mem_cons.mpr ⟨ok_aload_n hx hb dk_74_0 rfl,
    List.forall_mem_cons.mpr ⟨ok_iconst hx hb dk_74_1 rfl,
    List.forall_mem_cons.mpr ⟨ok_puti hx hb hts hown hin_0 tyF_0 tyF_0_ok nmF_0 rfl (by decide) tw_101 rfl (by decide +kernel) dk_74_2,
    List.forall_mem_cons.mpr ⟨ok_iconst hx hb dk_74_5 rfl,
    List.forall_mem_cons.mpr ⟨ok_istore_n hx hb dk_74_6 rfl (by decide),
    List.forall_mem_cons.mpr ⟨ok_iload_n hx hb dk_74_7 rfl,
    List.forall_mem_cons.mpr ⟨ok_bipush hx hb dk_74_8 (by decide),
    List.forall_mem_cons.mpr ⟨ok_icmp_ge hx hb dk_74_10 (by decide),
    List.forall_mem_cons.mpr ⟨ok_aload_n hx hb dk_74_13 rfl,
    List.forall_mem_cons.mpr ⟨ok_getr hx hb hts hown hin_0 rfl (by decide) tw_99 dk_74_14,
    List.forall_mem_cons.mpr ⟨ok_iload_n hx hb dk_74_17 rfl,
    List.forall_mem_cons.mpr ⟨ok_iconst hx hb dk_74_18 rfl,
    List.forall_mem_cons.mpr ⟨ok_zast hx hb dk_74_19,
    List.forall_mem_cons.mpr ⟨ok_aload_n hx hb dk_74_20 rfl,
    List.forall_mem_cons.mpr ⟨ok_getr hx hb hts hown hin_0 rfl (by decide) tw_97 dk_74_21,
    List.forall_mem_cons.mpr ⟨ok_iconst hx hb dk_74_24 rfl,
    List.forall_mem_cons.mpr ⟨ok_aald hx hb dk_74_25,
    List.forall_mem_cons.mpr ⟨ok_iload_n hx hb dk_74_26 rfl,
    List.forall_mem_cons.mpr ⟨ok_iconst hx hb dk_74_27 rfl,
    List.forall_mem_cons.mpr ⟨ok_iast hx hb dk_74_28,
    List.forall_mem_cons.mpr ⟨ok_aload_n hx hb dk_74_29 rfl,
    List.forall_mem_cons.mpr ⟨ok_getr hx hb hts hown hin_1 rfl (by decide) tw_36 dk_74_30,
    List.forall_mem_cons.mpr ⟨ok_iload_n hx hb dk_74_33 rfl,
    List.forall_mem_cons.mpr ⟨ok_zald hx hb dk_74_34,
    List.forall_mem_cons.mpr ⟨ok_if_eq hx hb dk_74_35 (by decide),
    List.forall_mem_cons.mpr ⟨ok_aload_n hx hb dk_74_38 rfl,
    List.forall_mem_cons.mpr ⟨ok_getr hx hb hts hown hin_0 rfl (by decide) tw_98 dk_74_39,
    List.forall_mem_cons.mpr ⟨ok_aload_n hx hb dk_74_42 rfl,
    List.forall_mem_cons.mpr ⟨ok_iload_n hx hb dk_74_43 rfl,
    List.forall_mem_cons.mpr ⟨ok_cV hx hb hml hown hts hb1 hb2 hA hroot hAs rfl rfl rfl (hcal_86 hall) tw_146 tw_147 tw_148 tw_149 tw_2 nm_86 rfl rfl (by show d + 8 + 1 ≤ d + 1 + 8; omega) (by show 8 + (4 + 11) + (200 + 60 * d) ≤ 200 + 60 * (d + 1); omega) dk_74_44,
    List.forall_mem_cons.mpr ⟨ok_iload_n hx hb dk_74_47 rfl,
    List.forall_mem_cons.mpr ⟨ok_iast hx hb dk_74_48,
    List.forall_mem_cons.mpr ⟨ok_aload_n hx hb dk_74_49 rfl,
    List.forall_mem_cons.mpr ⟨ok_getr hx hb hts hown hin_0 rfl (by decide) tw_97 dk_74_50,
    List.forall_mem_cons.mpr ⟨ok_iconst hx hb dk_74_53 rfl,
    List.forall_mem_cons.mpr ⟨ok_aald hx hb dk_74_54,
    List.forall_mem_cons.mpr ⟨ok_iload_n hx hb dk_74_55 rfl,
    List.forall_mem_cons.mpr ⟨ok_aload_n hx hb dk_74_56 rfl,
    List.forall_mem_cons.mpr ⟨ok_iload_n hx hb dk_74_57 rfl,
    List.forall_mem_cons.mpr ⟨ok_iconst hx hb dk_74_58 rfl,
    List.forall_mem_cons.mpr ⟨ok_cV hx hb hml hown hts hb1 hb2 hA hroot hAs rfl rfl rfl (hcal_91 hall) tw_153 tw_154 tw_155 tw_156 tw_2 nm_91 rfl rfl (by show d + 8 + 1 ≤ d + 1 + 8; omega) (by show 8 + (4 + 11) + (200 + 60 * d) ≤ 200 + 60 * (d + 1); omega) dk_74_59,
    List.forall_mem_cons.mpr ⟨ok_iast hx hb dk_74_62,
    List.forall_mem_cons.mpr ⟨ok_iinc hx hb dk_74_63 rfl (by decide),
    List.forall_mem_cons.mpr ⟨ok_goto hx hb dk_74_66 (by decide),
    List.forall_mem_cons.mpr ⟨ok_vret hx hb hb1 hb2 hr hlocks dk_74_69,
    fun _ h => absurd h List.not_mem_nil⟩⟩⟩⟩⟩⟩⟩⟩⟩⟩⟩⟩⟩⟩⟩⟩⟩⟩⟩⟩⟩⟩⟩⟩⟩⟩⟩⟩⟩⟩⟩⟩⟩⟩⟩⟩⟩⟩⟩⟩⟩⟩⟩⟩⟩
theorem dk_75_0 : decode prog_2_method_7_code 0 = .ok (.iload_n 2, 1) := by decide +kernel
theorem dk_75_1 : decode prog_2_method_7_code 1 = .ok (.aload_n 1, 1) := by decide +kernel
theorem dk_75_2 : decode prog_2_method_7_code 2 = .ok (.getfield 43, 3) := by decide +kernel
theorem dk_75_5 : decode prog_2_method_7_code 5 = .ok (.if_icmp .lt (31), 3) := by decide +kernel
theorem dk_75_8 : decode prog_2_method_7_code 8 = .ok (.aload_n 0, 1) := by decide +kernel
theorem dk_75_9 : decode prog_2_method_7_code 9 = .ok (.aload_n 0, 1) := by decide +kernel
theorem dk_75_10 : decode prog_2_method_7_code 10 = .ok (.aload_n 1, 1) := by decide +kernel
theorem dk_75_11 : decode prog_2_method_7_code 11 = .ok (.iload_n 2, 1) := by decide +kernel
theorem dk_75_12 : decode prog_2_method_7_code 12 = .ok (.invokevirtual 31, 3) := by decide +kernel
theorem dk_75_15 : decode prog_2_method_7_code 15 = .ok (.putfield 39, 3) := by decide +kernel
theorem dk_75_18 : decode prog_2_method_7_code 18 = .ok (.aload_n 0, 1) := by decide +kernel
theorem dk_75_19 : decode prog_2_method_7_code 19 = .ok (.getfield 11, 3) := by decide +kernel
theorem dk_75_22 : decode prog_2_method_7_code 22 = .ok (.iload_n 2, 1) := by decide +kernel
theorem dk_75_23 : decode prog_2_method_7_code 23 = .ok (.aaload, 1) := by decide +kernel
theorem dk_75_24 : decode prog_2_method_7_code 24 = .ok (.iconst (0), 1) := by decide +kernel
theorem dk_75_25 : decode prog_2_method_7_code 25 = .ok (.aload_n 0, 1) := by decide +kernel
theorem dk_75_26 : decode prog_2_method_7_code 26 = .ok (.getfield 24, 3) := by decide +kernel
theorem dk_75_29 : decode prog_2_method_7_code 29 = .ok (.iconst (0), 1) := by decide +kernel
theorem dk_75_30 : decode prog_2_method_7_code 30 = .ok (.bipush (7), 2) := by decide +kernel
theorem dk_75_32 : decode prog_2_method_7_code 32 = .ok (.invokestatic 52, 3) := by decide +kernel
theorem dk_75_35 : decode prog_2_method_7_code 35 = .ok (.return_, 1) := by decide +kernel
theorem dk_75_36 : decode prog_2_method_7_code 36 = .ok (.iconst (0), 1) := by decide +kernel
theorem dk_75_37 : decode prog_2_method_7_code 37 = .ok (.istore_n 3, 1) := by decide +kernel
theorem dk_75_38 : decode prog_2_method_7_code 38 = .ok (.iload_n 3, 1) := by decide +kernel
theorem dk_75_39 : decode prog_2_method_7_code 39 = .ok (.aload_n 1, 1) := by decide +kernel
theorem dk_75_40 : decode prog_2_method_7_code 40 = .ok (.getfield 43, 3) := by decide +kernel
theorem dk_75_43 : decode prog_2_method_7_code 43 = .ok (.if_icmp .ge (77), 3) := by decide +kernel
theorem dk_75_46 : decode prog_2_method_7_code 46 = .ok (.aload_n 0, 1) := by decide +kernel
theorem dk_75_47 : decode prog_2_method_7_code 47 = .ok (.getfield 16, 3) := by decide +kernel
theorem dk_75_50 : decode prog_2_method_7_code 50 = .ok (.iload_n 3, 1) := by decide +kernel
theorem dk_75_51 : decode prog_2_method_7_code 51 = .ok (.iaload, 1) := by decide +kernel
theorem dk_75_52 : decode prog_2_method_7_code 52 = .ok (.istore 4, 2) := by decide +kernel
theorem dk_75_54 : decode prog_2_method_7_code 54 = .ok (.aload_n 0, 1) := by decide +kernel
theorem dk_75_55 : decode prog_2_method_7_code 55 = .ok (.getfield 20, 3) := by decide +kernel
theorem dk_75_58 : decode prog_2_method_7_code 58 = .ok (.iload 4, 2) := by decide +kernel
theorem dk_75_60 : decode prog_2_method_7_code 60 = .ok (.baload, 1) := by decide +kernel
theorem dk_75_61 : decode prog_2_method_7_code 61 = .ok (.ifCond .ne (53), 3) := by decide +kernel
theorem dk_75_64 : decode prog_2_method_7_code 64 = .ok (.aload_n 1, 1) := by decide +kernel
theorem dk_75_65 : decode prog_2_method_7_code 65 = .ok (.iload 4, 2) := by decide +kernel
theorem dk_75_67 : decode prog_2_method_7_code 67 = .ok (.iload_n 2, 1) := by decide +kernel
theorem dk_75_68 : decode prog_2_method_7_code 68 = .ok (.iload_n 3, 1) := by decide +kernel
theorem dk_75_69 : decode prog_2_method_7_code 69 = .ok (.invokevirtual 69, 3) := by decide +kernel
theorem dk_75_72 : decode prog_2_method_7_code 72 = .ok (.ifCond .eq (42), 3) := by decide +kernel
theorem dk_75_75 : decode prog_2_method_7_code 75 = .ok (.aload_n 0, 1) := by decide +kernel
theorem dk_75_76 : decode prog_2_method_7_code 76 = .ok (.aload_n 1, 1) := by decide +kernel
theorem dk_75_77 : decode prog_2_method_7_code 77 = .ok (.iload_n 2, 1) := by decide +kernel
theorem dk_75_78 : decode prog_2_method_7_code 78 = .ok (.iload 4, 2) := by decide +kernel
theorem dk_75_80 : decode prog_2_method_7_code 80 = .ok (.invokevirtual 48, 3) := by decide +kernel
theorem dk_75_83 : decode prog_2_method_7_code 83 = .ok (.aload_n 0, 1) := by decide +kernel
theorem dk_75_84 : decode prog_2_method_7_code 84 = .ok (.aload_n 0, 1) := by decide +kernel
theorem dk_75_85 : decode prog_2_method_7_code 85 = .ok (.aload_n 1, 1) := by decide +kernel
theorem dk_75_86 : decode prog_2_method_7_code 86 = .ok (.iload_n 2, 1) := by decide +kernel
theorem dk_75_87 : decode prog_2_method_7_code 87 = .ok (.iconst (1), 1) := by decide +kernel
theorem dk_75_88 : decode prog_2_method_7_code 88 = .ok (.iadd, 1) := by decide +kernel
theorem dk_75_89 : decode prog_2_method_7_code 89 = .ok (.invokevirtual 31, 3) := by decide +kernel
theorem dk_75_92 : decode prog_2_method_7_code 92 = .ok (.invokevirtual 73, 3) := by decide +kernel
theorem dk_75_95 : decode prog_2_method_7_code 95 = .ok (.ifCond .eq (11), 3) := by decide +kernel
theorem dk_75_98 : decode prog_2_method_7_code 98 = .ok (.aload_n 0, 1) := by decide +kernel
theorem dk_75_99 : decode prog_2_method_7_code 99 = .ok (.aload_n 1, 1) := by decide +kernel
theorem dk_75_100 : decode prog_2_method_7_code 100 = .ok (.iload_n 2, 1) := by decide +kernel
theorem dk_75_101 : decode prog_2_method_7_code 101 = .ok (.iconst (1), 1) := by decide +kernel
theorem dk_75_102 : decode prog_2_method_7_code 102 = .ok (.iadd, 1) := by decide +kernel
theorem dk_75_103 : decode prog_2_method_7_code 103 = .ok (.invokevirtual 35, 3) := by decide +kernel
theorem dk_75_106 : decode prog_2_method_7_code 106 = .ok (.aload_n 0, 1) := by decide +kernel
theorem dk_75_107 : decode prog_2_method_7_code 107 = .ok (.getfield 20, 3) := by decide +kernel
theorem dk_75_110 : decode prog_2_method_7_code 110 = .ok (.iload 4, 2) := by decide +kernel
theorem dk_75_112 : decode prog_2_method_7_code 112 = .ok (.iconst (0), 1) := by decide +kernel
theorem dk_75_113 : decode prog_2_method_7_code 113 = .ok (.bastore, 1) := by decide +kernel
theorem dk_75_114 : decode prog_2_method_7_code 114 = .ok (.iinc 3 (1), 3) := by decide +kernel
theorem dk_75_117 : decode prog_2_method_7_code 117 = .ok (.goto (-79), 3) := by decide +kernel
theorem dk_75_120 : decode prog_2_method_7_code 120 = .ok (.return_, 1) := by decide +kernel
set_option maxRecDepth 100000 in
set_option maxHeartbeats 4000000 in
theorem cc_75 {l : Launch} {s0 : State} (hst : l.stackTraces = false) (h0 : am_W0 s0) {d : Nat} (hall : ∀ mi ∈ am_idx, am_CC l s0 d mi) : am_CC l s0 (d + 1) 75 :=
  am_method (y := y_75) (cc := prog_2_method_7_code) (maxL := 5) (ret := none) (rm := am_rm (d + 1) 0 0) (ops := op_75) (C := am_T am_tabs am_ar d) (ar := 3) h0 (by decide) (by decide) fun p e s m args below meth c D A bS ad0 Q hct htab => by
    obtain ⟨hx, hb, hml, hown, hts, hb1, hb2, hA, hroot, hAs, -, -, hlocks, hr, hnm⟩ := hct
    exact List.forall_mem_cons.mpr ⟨ok_iload_n hx hb dk_75_0 rfl,
    List.forall_mem_cons.mpr ⟨ok_aload_n hx hb dk_75_1 rfl,
    List.forall_mem_cons.mpr ⟨ok_geti hx hb hts hown hin_1 rfl (by decide) tw_49 dk_75_2,
    List.forall_mem_cons.mpr ⟨ok_icmp_lt hx hb dk_75_5 (by decide),
    List.forall_mem_cons.mpr ⟨ok_aload_n hx hb dk_75_8 rfl,
    List.forall_mem_cons.mpr ⟨ok_aload_n hx hb dk_75_9 rfl,
    List.forall_mem_cons.mpr ⟨ok_aload_n hx hb dk_75_10 rfl,
    List.forall_mem_cons.mpr ⟨ok_iload_n hx hb dk_75_11 rfl,
    List.forall_mem_cons.mpr ⟨ok_cV hx hb hml hown hts hb1 hb2 hA hroot hAs rfl rfl rfl (hcal_78 hall) tw_176 tw_178 ts_3 tw_179 tw_4 nm_78 rfl rfl (by show d + 8 + 1 ≤ d + 1 + 8; omega) (by show 8 + (5 + 11) + (200 + 60 * d) ≤ 200 + 60 * (d + 1); omega) dk_75_12,
    List.forall_mem_cons.mpr ⟨ok_puti hx hb hts hown hin_0 tyF_0 tyF_0_ok nmF_0 rfl (by decide) tw_101 rfl (by decide +kernel) dk_75_15,
    List.forall_mem_cons.mpr ⟨ok_aload_n hx hb dk_75_18 rfl,
    List.forall_mem_cons.mpr ⟨ok_getr hx hb hts hown hin_0 rfl (by decide) tw_97 dk_75_19,
    List.forall_mem_cons.mpr ⟨ok_iload_n hx hb dk_75_22 rfl,
    List.forall_mem_cons.mpr ⟨ok_aald hx hb dk_75_23,
    List.forall_mem_cons.mpr ⟨ok_iconst hx hb dk_75_24 rfl,
    List.forall_mem_cons.mpr ⟨ok_aload_n hx hb dk_75_25 rfl,
    List.forall_mem_cons.mpr ⟨ok_getr hx hb hts hown hin_0 rfl (by decide) tw_100 dk_75_26,
    List.forall_mem_cons.mpr ⟨ok_iconst hx hb dk_75_29 rfl,
    List.forall_mem_cons.mpr ⟨ok_bipush hx hb dk_75_30 (by decide),
    List.forall_mem_cons.mpr ⟨ok_copy hx hb hts hown hml tw_188 tw_190 tw_189 tw_13 (by show 1 ≤ d + 1 + 8; omega) (by have h9 := am_cpw; show 8 + (nativeFrameWords "java/lang/System" "arraycopy" 5 + 11) ≤ 200 + 60 * (d + 1); omega) dk_75_32,
    List.forall_mem_cons.mpr ⟨ok_vret hx hb hb1 hb2 hr hlocks dk_75_35,
    List.forall_mem_cons.mpr ⟨ok_iconst hx hb dk_75_36 rfl,
    List.forall_mem_cons.mpr ⟨ok_istore_n hx hb dk_75_37 rfl (by decide),
    List.forall_mem_cons.mpr ⟨ok_iload_n hx hb dk_75_38 rfl,
    List.forall_mem_cons.mpr ⟨ok_aload_n hx hb dk_75_39 rfl,
    List.forall_mem_cons.mpr ⟨ok_geti hx hb hts hown hin_1 rfl (by decide) tw_49 dk_75_40,
    List.forall_mem_cons.mpr ⟨ok_icmp_ge hx hb dk_75_43 (by decide),
    List.forall_mem_cons.mpr ⟨ok_aload_n hx hb dk_75_46 rfl,
    List.forall_mem_cons.mpr ⟨ok_getr hx hb hts hown hin_0 rfl (by decide) tw_98 dk_75_47,
    List.forall_mem_cons.mpr ⟨ok_iload_n hx hb dk_75_50 rfl,
    List.forall_mem_cons.mpr ⟨ok_iald hx hb dk_75_51,
    List.forall_mem_cons.mpr ⟨ok_istore hx hb dk_75_52 (by decide),
    List.forall_mem_cons.mpr ⟨ok_aload_n hx hb dk_75_54 rfl,
    List.forall_mem_cons.mpr ⟨ok_getr hx hb hts hown hin_0 rfl (by decide) tw_99 dk_75_55,
    List.forall_mem_cons.mpr ⟨ok_iload hx hb dk_75_58,
    List.forall_mem_cons.mpr ⟨ok_zald hx hb dk_75_60,
    List.forall_mem_cons.mpr ⟨ok_if_ne hx hb dk_75_61 (by decide),
    List.forall_mem_cons.mpr ⟨ok_aload_n hx hb dk_75_64 rfl,
    List.forall_mem_cons.mpr ⟨ok_iload hx hb dk_75_65,
    List.forall_mem_cons.mpr ⟨ok_iload_n hx hb dk_75_67 rfl,
    List.forall_mem_cons.mpr ⟨ok_iload_n hx hb dk_75_68 rfl,
    List.forall_mem_cons.mpr ⟨ok_cV hx hb hml hown hts hb1 hb2 hA hroot hAs rfl rfl rfl (hcal_87 hall) tw_191 tw_192 tw_193 tw_194 tw_2 nm_87 rfl rfl (by show d + 8 + 1 ≤ d + 1 + 8; omega) (by show 8 + (4 + 11) + (200 + 60 * d) ≤ 200 + 60 * (d + 1); omega) dk_75_69,
    List.forall_mem_cons.mpr ⟨ok_if_eq hx hb dk_75_72 (by decide),
    List.forall_mem_cons.mpr ⟨ok_aload_n hx hb dk_75_75 rfl,
    List.forall_mem_cons.mpr ⟨ok_aload_n hx hb dk_75_76 rfl,
    List.forall_mem_cons.mpr ⟨ok_iload_n hx hb dk_75_77 rfl,
    List.forall_mem_cons.mpr ⟨ok_iload hx hb dk_75_78,
    List.forall_mem_cons.mpr ⟨ok_cV hx hb hml hown hts hb1 hb2 hA hroot hAs rfl rfl rfl (hcal_77 hall) tw_198 tw_200 ts_5 tw_201 tw_4 nm_77 rfl rfl (by show d + 8 + 1 ≤ d + 1 + 8; omega) (by show 8 + (8 + 11) + (200 + 60 * d) ≤ 200 + 60 * (d + 1); omega) dk_75_80,
    List.forall_mem_cons.mpr ⟨ok_aload_n hx hb dk_75_83 rfl,
    List.forall_mem_cons.mpr ⟨ok_aload_n hx hb dk_75_84 rfl,
    List.forall_mem_cons.mpr ⟨ok_aload_n hx hb dk_75_85 rfl,
    List.forall_mem_cons.mpr ⟨ok_iload_n hx hb dk_75_86 rfl,
    List.forall_mem_cons.mpr ⟨ok_iconst hx hb dk_75_87 rfl,
    List.forall_mem_cons.mpr ⟨ok_iadd hx hb dk_75_88,
    List.forall_mem_cons.mpr ⟨ok_cV hx hb hml hown hts hb1 hb2 hA hroot hAs rfl rfl rfl (hcal_78 hall) tw_176 tw_178 ts_3 tw_179 tw_4 nm_78 rfl rfl (by show d + 8 + 1 ≤ d + 1 + 8; omega) (by show 8 + (5 + 11) + (200 + 60 * d) ≤ 200 + 60 * (d + 1); omega) dk_75_89,
    List.forall_mem_cons.mpr ⟨ok_cV hx hb hml hown hts hb1 hb2 hA hroot hAs rfl rfl rfl (hcal_76 hall) tw_207 tw_209 ts_6 tw_210 tw_4 nm_76 rfl rfl (by show d + 8 + 1 ≤ d + 1 + 8; omega) (by show 8 + (2 + 11) + (200 + 60 * d) ≤ 200 + 60 * (d + 1); omega) dk_75_92,
    List.forall_mem_cons.mpr ⟨ok_if_eq hx hb dk_75_95 (by decide),
    List.forall_mem_cons.mpr ⟨ok_aload_n hx hb dk_75_98 rfl,
    List.forall_mem_cons.mpr ⟨ok_aload_n hx hb dk_75_99 rfl,
    List.forall_mem_cons.mpr ⟨ok_iload_n hx hb dk_75_100 rfl,
    List.forall_mem_cons.mpr ⟨ok_iconst hx hb dk_75_101 rfl,
    List.forall_mem_cons.mpr ⟨ok_iadd hx hb dk_75_102,
    List.forall_mem_cons.mpr ⟨ok_cV hx hb hml hown hts hb1 hb2 hA hroot hAs rfl rfl rfl (hcal_75 hall) tw_184 tw_186 ts_4 tw_187 tw_4 nm_75 rfl rfl (by show d + 8 + 1 ≤ d + 1 + 8; omega) (by show 8 + (5 + 11) + (200 + 60 * d) ≤ 200 + 60 * (d + 1); omega) dk_75_103,
    List.forall_mem_cons.mpr ⟨ok_aload_n hx hb dk_75_106 rfl,
    List.forall_mem_cons.mpr ⟨ok_getr hx hb hts hown hin_0 rfl (by decide) tw_99 dk_75_107,
    List.forall_mem_cons.mpr ⟨ok_iload hx hb dk_75_110,
    List.forall_mem_cons.mpr ⟨ok_iconst hx hb dk_75_112 rfl,
    List.forall_mem_cons.mpr ⟨ok_zast hx hb dk_75_113,
    List.forall_mem_cons.mpr ⟨ok_iinc hx hb dk_75_114 rfl (by decide),
    List.forall_mem_cons.mpr ⟨ok_goto hx hb dk_75_117 (by decide),
    List.forall_mem_cons.mpr ⟨ok_vret hx hb hb1 hb2 hr hlocks dk_75_120,
    fun _ h => absurd h List.not_mem_nil⟩⟩⟩⟩⟩⟩⟩⟩⟩⟩⟩⟩⟩⟩⟩⟩⟩⟩⟩⟩⟩⟩⟩⟩⟩⟩⟩⟩⟩⟩⟩⟩⟩⟩⟩⟩⟩⟩⟩⟩⟩⟩⟩⟩⟩⟩⟩⟩⟩⟩⟩⟩⟩⟩⟩⟩⟩⟩⟩⟩⟩⟩⟩⟩⟩⟩⟩⟩⟩⟩⟩
theorem dk_76_0 : decode prog_2_method_8_code 0 = .ok (.iload_n 1, 1) := by decide +kernel
theorem dk_76_1 : decode prog_2_method_8_code 1 = .ok (.iconst (-1), 1) := by decide +kernel
theorem dk_76_2 : decode prog_2_method_8_code 2 = .ok (.if_icmp .eq (23), 3) := by decide +kernel
theorem dk_76_5 : decode prog_2_method_8_code 5 = .ok (.aload_n 0, 1) := by decide +kernel
theorem dk_76_6 : decode prog_2_method_8_code 6 = .ok (.getfield 39, 3) := by decide +kernel
theorem dk_76_9 : decode prog_2_method_8_code 9 = .ok (.iconst (-1), 1) := by decide +kernel
theorem dk_76_10 : decode prog_2_method_8_code 10 = .ok (.if_icmp .eq (11), 3) := by decide +kernel
theorem dk_76_13 : decode prog_2_method_8_code 13 = .ok (.iload_n 1, 1) := by decide +kernel
theorem dk_76_14 : decode prog_2_method_8_code 14 = .ok (.aload_n 0, 1) := by decide +kernel
theorem dk_76_15 : decode prog_2_method_8_code 15 = .ok (.getfield 39, 3) := by decide +kernel
theorem dk_76_18 : decode prog_2_method_8_code 18 = .ok (.if_icmp .ge (7), 3) := by decide +kernel
theorem dk_76_21 : decode prog_2_method_8_code 21 = .ok (.iconst (1), 1) := by decide +kernel
theorem dk_76_22 : decode prog_2_method_8_code 22 = .ok (.goto (4), 3) := by decide +kernel
theorem dk_76_25 : decode prog_2_method_8_code 25 = .ok (.iconst (0), 1) := by decide +kernel
theorem dk_76_26 : decode prog_2_method_8_code 26 = .ok (.ireturn, 1) := by decide +kernel
set_option maxRecDepth 100000 in
set_option maxHeartbeats 4000000 in
theorem cc_76 {l : Launch} {s0 : State} (hst : l.stackTraces = false) (h0 : am_W0 s0) {d : Nat} (hall : ∀ mi ∈ am_idx, am_CC l s0 d mi) : am_CC l s0 (d + 1) 76 :=
  am_method (y := y_76) (cc := prog_2_method_8_code) (maxL := 2) (ret := (some .boolean)) (rm := am_rm (d + 1) 0 0) (ops := op_76) (C := am_T am_tabs am_ar d) (ar := 2) h0 (by decide) (by decide) fun p e s m args below meth c D A bS ad0 Q hct htab => by
    obtain ⟨hx, hb, hml, hown, hts, hb1, hb2, hA, hroot, hAs, -, -, hlocks, hr, hnm⟩ := hct
    exact List.forall_mem_cons.mpr ⟨ok_iload_n hx hb dk_76_0 rfl,
    List.forall_mem_cons.mpr ⟨ok_iconst hx hb dk_76_1 rfl,
    List.forall_mem_cons.mpr ⟨ok_icmp_eq hx hb dk_76_2 (by decide),
    List.forall_mem_cons.mpr ⟨ok_aload_n hx hb dk_76_5 rfl,
    List.forall_mem_cons.mpr ⟨ok_geti hx hb hts hown hin_0 rfl (by decide) tw_101 dk_76_6,
    List.forall_mem_cons.mpr ⟨ok_iconst hx hb dk_76_9 rfl,
    List.forall_mem_cons.mpr ⟨ok_icmp_eq hx hb dk_76_10 (by decide),
    List.forall_mem_cons.mpr ⟨ok_iload_n hx hb dk_76_13 rfl,
    List.forall_mem_cons.mpr ⟨ok_aload_n hx hb dk_76_14 rfl,
    List.forall_mem_cons.mpr ⟨ok_geti hx hb hts hown hin_0 rfl (by decide) tw_101 dk_76_15,
    List.forall_mem_cons.mpr ⟨ok_icmp_ge hx hb dk_76_18 (by decide),
    List.forall_mem_cons.mpr ⟨ok_iconst hx hb dk_76_21 rfl,
    List.forall_mem_cons.mpr ⟨ok_goto hx hb dk_76_22 (by decide),
    List.forall_mem_cons.mpr ⟨ok_iconst hx hb dk_76_25 rfl,
    List.forall_mem_cons.mpr ⟨ok_zret hx hb hb1 hb2 hr hlocks dk_76_26,
    fun _ h => absurd h List.not_mem_nil⟩⟩⟩⟩⟩⟩⟩⟩⟩⟩⟩⟩⟩⟩⟩
theorem dk_77_0 : decode prog_2_method_9_code 0 = .ok (.aload_n 0, 1) := by decide +kernel
theorem dk_77_1 : decode prog_2_method_9_code 1 = .ok (.getfield 20, 3) := by decide +kernel
theorem dk_77_4 : decode prog_2_method_9_code 4 = .ok (.iload_n 3, 1) := by decide +kernel
theorem dk_77_5 : decode prog_2_method_9_code 5 = .ok (.iconst (1), 1) := by decide +kernel
theorem dk_77_6 : decode prog_2_method_9_code 6 = .ok (.bastore, 1) := by decide +kernel
theorem dk_77_7 : decode prog_2_method_9_code 7 = .ok (.aload_n 0, 1) := by decide +kernel
theorem dk_77_8 : decode prog_2_method_9_code 8 = .ok (.getfield 11, 3) := by decide +kernel
theorem dk_77_11 : decode prog_2_method_9_code 11 = .ok (.iload_n 2, 1) := by decide +kernel
theorem dk_77_12 : decode prog_2_method_9_code 12 = .ok (.aaload, 1) := by decide +kernel
theorem dk_77_13 : decode prog_2_method_9_code 13 = .ok (.astore 4, 2) := by decide +kernel
theorem dk_77_15 : decode prog_2_method_9_code 15 = .ok (.aload_n 0, 1) := by decide +kernel
theorem dk_77_16 : decode prog_2_method_9_code 16 = .ok (.getfield 11, 3) := by decide +kernel
theorem dk_77_19 : decode prog_2_method_9_code 19 = .ok (.iload_n 2, 1) := by decide +kernel
theorem dk_77_20 : decode prog_2_method_9_code 20 = .ok (.iconst (1), 1) := by decide +kernel
theorem dk_77_21 : decode prog_2_method_9_code 21 = .ok (.iadd, 1) := by decide +kernel
theorem dk_77_22 : decode prog_2_method_9_code 22 = .ok (.aaload, 1) := by decide +kernel
theorem dk_77_23 : decode prog_2_method_9_code 23 = .ok (.astore 5, 2) := by decide +kernel
theorem dk_77_25 : decode prog_2_method_9_code 25 = .ok (.iconst (0), 1) := by decide +kernel
theorem dk_77_26 : decode prog_2_method_9_code 26 = .ok (.istore 6, 2) := by decide +kernel
theorem dk_77_28 : decode prog_2_method_9_code 28 = .ok (.iload 6, 2) := by decide +kernel
theorem dk_77_30 : decode prog_2_method_9_code 30 = .ok (.bipush (7), 2) := by decide +kernel
theorem dk_77_32 : decode prog_2_method_9_code 32 = .ok (.if_icmp .ge (74), 3) := by decide +kernel
theorem dk_77_35 : decode prog_2_method_9_code 35 = .ok (.aload 5, 2) := by decide +kernel
theorem dk_77_37 : decode prog_2_method_9_code 37 = .ok (.iload 6, 2) := by decide +kernel
theorem dk_77_39 : decode prog_2_method_9_code 39 = .ok (.aload 4, 2) := by decide +kernel
theorem dk_77_41 : decode prog_2_method_9_code 41 = .ok (.iload 6, 2) := by decide +kernel
theorem dk_77_43 : decode prog_2_method_9_code 43 = .ok (.iaload, 1) := by decide +kernel
theorem dk_77_44 : decode prog_2_method_9_code 44 = .ok (.iastore, 1) := by decide +kernel
theorem dk_77_45 : decode prog_2_method_9_code 45 = .ok (.aload_n 1, 1) := by decide +kernel
theorem dk_77_46 : decode prog_2_method_9_code 46 = .ok (.getfield 58, 3) := by decide +kernel
theorem dk_77_49 : decode prog_2_method_9_code 49 = .ok (.iload 6, 2) := by decide +kernel
theorem dk_77_51 : decode prog_2_method_9_code 51 = .ok (.baload, 1) := by decide +kernel
theorem dk_77_52 : decode prog_2_method_9_code 52 = .ok (.ifCond .eq (48), 3) := by decide +kernel
theorem dk_77_55 : decode prog_2_method_9_code 55 = .ok (.aload_n 0, 1) := by decide +kernel
theorem dk_77_56 : decode prog_2_method_9_code 56 = .ok (.getfield 20, 3) := by decide +kernel
theorem dk_77_59 : decode prog_2_method_9_code 59 = .ok (.iload 6, 2) := by decide +kernel
theorem dk_77_61 : decode prog_2_method_9_code 61 = .ok (.baload, 1) := by decide +kernel
theorem dk_77_62 : decode prog_2_method_9_code 62 = .ok (.ifCond .ne (38), 3) := by decide +kernel
theorem dk_77_65 : decode prog_2_method_9_code 65 = .ok (.aload 4, 2) := by decide +kernel
theorem dk_77_67 : decode prog_2_method_9_code 67 = .ok (.iload 6, 2) := by decide +kernel
theorem dk_77_69 : decode prog_2_method_9_code 69 = .ok (.iaload, 1) := by decide +kernel
theorem dk_77_70 : decode prog_2_method_9_code 70 = .ok (.aload 4, 2) := by decide +kernel
theorem dk_77_72 : decode prog_2_method_9_code 72 = .ok (.iload_n 3, 1) := by decide +kernel
theorem dk_77_73 : decode prog_2_method_9_code 73 = .ok (.iaload, 1) := by decide +kernel
theorem dk_77_74 : decode prog_2_method_9_code 74 = .ok (.aload_n 1, 1) := by decide +kernel
theorem dk_77_75 : decode prog_2_method_9_code 75 = .ok (.iload_n 3, 1) := by decide +kernel
theorem dk_77_76 : decode prog_2_method_9_code 76 = .ok (.iload 6, 2) := by decide +kernel
theorem dk_77_78 : decode prog_2_method_9_code 78 = .ok (.invokevirtual 77, 3) := by decide +kernel
theorem dk_77_81 : decode prog_2_method_9_code 81 = .ok (.iadd, 1) := by decide +kernel
theorem dk_77_82 : decode prog_2_method_9_code 82 = .ok (.invokestatic 80, 3) := by decide +kernel
theorem dk_77_85 : decode prog_2_method_9_code 85 = .ok (.istore 7, 2) := by decide +kernel
theorem dk_77_87 : decode prog_2_method_9_code 87 = .ok (.aload 5, 2) := by decide +kernel
theorem dk_77_89 : decode prog_2_method_9_code 89 = .ok (.iload 6, 2) := by decide +kernel
theorem dk_77_91 : decode prog_2_method_9_code 91 = .ok (.aload_n 1, 1) := by decide +kernel
theorem dk_77_92 : decode prog_2_method_9_code 92 = .ok (.iload 6, 2) := by decide +kernel
theorem dk_77_94 : decode prog_2_method_9_code 94 = .ok (.iload 7, 2) := by decide +kernel
theorem dk_77_96 : decode prog_2_method_9_code 96 = .ok (.invokevirtual 65, 3) := by decide +kernel
theorem dk_77_99 : decode prog_2_method_9_code 99 = .ok (.iastore, 1) := by decide +kernel
theorem dk_77_100 : decode prog_2_method_9_code 100 = .ok (.iinc 6 (1), 3) := by decide +kernel
theorem dk_77_103 : decode prog_2_method_9_code 103 = .ok (.goto (-75), 3) := by decide +kernel
theorem dk_77_106 : decode prog_2_method_9_code 106 = .ok (.return_, 1) := by decide +kernel
set_option maxRecDepth 100000 in
set_option maxHeartbeats 4000000 in
theorem cc_77 {l : Launch} {s0 : State} (hst : l.stackTraces = false) (h0 : am_W0 s0) {d : Nat} (hall : ∀ mi ∈ am_idx, am_CC l s0 d mi) : am_CC l s0 (d + 1) 77 :=
  am_method (y := y_77) (cc := prog_2_method_9_code) (maxL := 8) (ret := none) (rm := am_rm (d + 1) 0 0) (ops := op_77) (C := am_T am_tabs am_ar d) (ar := 4) h0 (by decide) (by decide) fun p e s m args below meth c D A bS ad0 Q hct htab => by
    obtain ⟨hx, hb, hml, hown, hts, hb1, hb2, hA, hroot, hAs, -, -, hlocks, hr, hnm⟩ := hct
    exact List.forall_mem_cons.mpr ⟨ok_aload_n hx hb dk_77_0 rfl,
    List.forall_mem_cons.mpr ⟨ok_getr hx hb hts hown hin_0 rfl (by decide) tw_99 dk_77_1,
    List.forall_mem_cons.mpr ⟨ok_iload_n hx hb dk_77_4 rfl,
    List.forall_mem_cons.mpr ⟨ok_iconst hx hb dk_77_5 rfl,
    List.forall_mem_cons.mpr ⟨ok_zast hx hb dk_77_6,
    List.forall_mem_cons.mpr ⟨ok_aload_n hx hb dk_77_7 rfl,
    List.forall_mem_cons.mpr ⟨ok_getr hx hb hts hown hin_0 rfl (by decide) tw_97 dk_77_8,
    List.forall_mem_cons.mpr ⟨ok_iload_n hx hb dk_77_11 rfl,
    List.forall_mem_cons.mpr ⟨ok_aald hx hb dk_77_12,
    List.forall_mem_cons.mpr ⟨ok_astore hx hb dk_77_13 (by decide),
    List.forall_mem_cons.mpr ⟨ok_aload_n hx hb dk_77_15 rfl,
    List.forall_mem_cons.mpr ⟨ok_getr hx hb hts hown hin_0 rfl (by decide) tw_97 dk_77_16,
    List.forall_mem_cons.mpr ⟨ok_iload_n hx hb dk_77_19 rfl,
    List.forall_mem_cons.mpr ⟨ok_iconst hx hb dk_77_20 rfl,
    List.forall_mem_cons.mpr ⟨ok_iadd hx hb dk_77_21,
    List.forall_mem_cons.mpr ⟨ok_aald hx hb dk_77_22,
    List.forall_mem_cons.mpr ⟨ok_astore hx hb dk_77_23 (by decide),
    List.forall_mem_cons.mpr ⟨ok_iconst hx hb dk_77_25 rfl,
    List.forall_mem_cons.mpr ⟨ok_istore hx hb dk_77_26 (by decide),
    List.forall_mem_cons.mpr ⟨ok_iload hx hb dk_77_28,
    List.forall_mem_cons.mpr ⟨ok_bipush hx hb dk_77_30 (by decide),
    List.forall_mem_cons.mpr ⟨ok_icmp_ge hx hb dk_77_32 (by decide),
    List.forall_mem_cons.mpr ⟨ok_aload hx hb dk_77_35,
    List.forall_mem_cons.mpr ⟨ok_iload hx hb dk_77_37,
    List.forall_mem_cons.mpr ⟨ok_aload hx hb dk_77_39,
    List.forall_mem_cons.mpr ⟨ok_iload hx hb dk_77_41,
    List.forall_mem_cons.mpr ⟨ok_iald hx hb dk_77_43,
    List.forall_mem_cons.mpr ⟨ok_iast hx hb dk_77_44,
    List.forall_mem_cons.mpr ⟨ok_aload_n hx hb dk_77_45 rfl,
    List.forall_mem_cons.mpr ⟨ok_getr hx hb hts hown hin_1 rfl (by decide) tw_36 dk_77_46,
    List.forall_mem_cons.mpr ⟨ok_iload hx hb dk_77_49,
    List.forall_mem_cons.mpr ⟨ok_zald hx hb dk_77_51,
    List.forall_mem_cons.mpr ⟨ok_if_eq hx hb dk_77_52 (by decide),
    List.forall_mem_cons.mpr ⟨ok_aload_n hx hb dk_77_55 rfl,
    List.forall_mem_cons.mpr ⟨ok_getr hx hb hts hown hin_0 rfl (by decide) tw_99 dk_77_56,
    List.forall_mem_cons.mpr ⟨ok_iload hx hb dk_77_59,
    List.forall_mem_cons.mpr ⟨ok_zald hx hb dk_77_61,
    List.forall_mem_cons.mpr ⟨ok_if_ne hx hb dk_77_62 (by decide),
    List.forall_mem_cons.mpr ⟨ok_aload hx hb dk_77_65,
    List.forall_mem_cons.mpr ⟨ok_iload hx hb dk_77_67,
    List.forall_mem_cons.mpr ⟨ok_iald hx hb dk_77_69,
    List.forall_mem_cons.mpr ⟨ok_aload hx hb dk_77_70,
    List.forall_mem_cons.mpr ⟨ok_iload_n hx hb dk_77_72 rfl,
    List.forall_mem_cons.mpr ⟨ok_iald hx hb dk_77_73,
    List.forall_mem_cons.mpr ⟨ok_aload_n hx hb dk_77_74 rfl,
    List.forall_mem_cons.mpr ⟨ok_iload_n hx hb dk_77_75 rfl,
    List.forall_mem_cons.mpr ⟨ok_iload hx hb dk_77_76,
    List.forall_mem_cons.mpr ⟨ok_cV hx hb hml hown hts hb1 hb2 hA hroot hAs rfl rfl rfl (hcal_84 hall) tw_202 tw_203 tw_204 tw_205 tw_2 nm_84 rfl rfl (by show d + 8 + 1 ≤ d + 1 + 8; omega) (by show 8 + (3 + 11) + (200 + 60 * d) ≤ 200 + 60 * (d + 1); omega) dk_77_78,
    List.forall_mem_cons.mpr ⟨ok_iadd hx hb dk_77_81,
    List.forall_mem_cons.mpr ⟨ok_max hx hb hts hown hml rfl rfl tw_206 tw_170 tw_12 tw_171 rfl (by show 1 ≤ d + 1 + 8; omega) (by show 21 ≤ 200 + 60 * (d + 1); omega) dk_77_82,
    List.forall_mem_cons.mpr ⟨ok_istore hx hb dk_77_85 (by decide),
    List.forall_mem_cons.mpr ⟨ok_aload hx hb dk_77_87,
    List.forall_mem_cons.mpr ⟨ok_iload hx hb dk_77_89,
    List.forall_mem_cons.mpr ⟨ok_aload_n hx hb dk_77_91 rfl,
    List.forall_mem_cons.mpr ⟨ok_iload hx hb dk_77_92,
    List.forall_mem_cons.mpr ⟨ok_iload hx hb dk_77_94,
    List.forall_mem_cons.mpr ⟨ok_cV hx hb hml hown hts hb1 hb2 hA hroot hAs rfl rfl rfl (hcal_91 hall) tw_153 tw_154 tw_155 tw_156 tw_2 nm_91 rfl rfl (by show d + 8 + 1 ≤ d + 1 + 8; omega) (by show 8 + (4 + 11) + (200 + 60 * d) ≤ 200 + 60 * (d + 1); omega) dk_77_96,
    List.forall_mem_cons.mpr ⟨ok_iast hx hb dk_77_99,
    List.forall_mem_cons.mpr ⟨ok_iinc hx hb dk_77_100 rfl (by decide),
    List.forall_mem_cons.mpr ⟨ok_goto hx hb dk_77_103 (by decide),
    List.forall_mem_cons.mpr ⟨ok_vret hx hb hb1 hb2 hr hlocks dk_77_106,
    fun _ h => absurd h List.not_mem_nil⟩⟩⟩⟩⟩⟩⟩⟩⟩⟩⟩⟩⟩⟩⟩⟩⟩⟩⟩⟩⟩⟩⟩⟩⟩⟩⟩⟩⟩⟩⟩⟩⟩⟩⟩⟩⟩⟩⟩⟩⟩⟩⟩⟩⟩⟩⟩⟩⟩⟩⟩⟩⟩⟩⟩⟩⟩⟩⟩⟩⟩
theorem dk_78_0 : decode prog_2_method_10_code 0 = .ok (.iconst (0), 1) := by decide +kernel
theorem dk_78_1 : decode prog_2_method_10_code 1 = .ok (.istore_n 3, 1) := by decide +kernel
theorem dk_78_2 : decode prog_2_method_10_code 2 = .ok (.iconst (0), 1) := by decide +kernel
theorem dk_78_3 : decode prog_2_method_10_code 3 = .ok (.istore 4, 2) := by decide +kernel
theorem dk_78_5 : decode prog_2_method_10_code 5 = .ok (.iload 4, 2) := by decide +kernel
theorem dk_78_7 : decode prog_2_method_10_code 7 = .ok (.bipush (7), 2) := by decide +kernel
theorem dk_78_9 : decode prog_2_method_10_code 9 = .ok (.if_icmp .ge (52), 3) := by decide +kernel
theorem dk_78_12 : decode prog_2_method_10_code 12 = .ok (.aload_n 1, 1) := by decide +kernel
theorem dk_78_13 : decode prog_2_method_10_code 13 = .ok (.getfield 58, 3) := by decide +kernel
theorem dk_78_16 : decode prog_2_method_10_code 16 = .ok (.iload 4, 2) := by decide +kernel
theorem dk_78_18 : decode prog_2_method_10_code 18 = .ok (.baload, 1) := by decide +kernel
theorem dk_78_19 : decode prog_2_method_10_code 19 = .ok (.ifCond .eq (36), 3) := by decide +kernel
theorem dk_78_22 : decode prog_2_method_10_code 22 = .ok (.aload_n 0, 1) := by decide +kernel
theorem dk_78_23 : decode prog_2_method_10_code 23 = .ok (.getfield 11, 3) := by decide +kernel
theorem dk_78_26 : decode prog_2_method_10_code 26 = .ok (.iload_n 2, 1) := by decide +kernel
theorem dk_78_27 : decode prog_2_method_10_code 27 = .ok (.aaload, 1) := by decide +kernel
theorem dk_78_28 : decode prog_2_method_10_code 28 = .ok (.iload 4, 2) := by decide +kernel
theorem dk_78_30 : decode prog_2_method_10_code 30 = .ok (.iaload, 1) := by decide +kernel
theorem dk_78_31 : decode prog_2_method_10_code 31 = .ok (.iconst (-1), 1) := by decide +kernel
theorem dk_78_32 : decode prog_2_method_10_code 32 = .ok (.if_icmp .ne (5), 3) := by decide +kernel
theorem dk_78_35 : decode prog_2_method_10_code 35 = .ok (.iconst (-1), 1) := by decide +kernel
theorem dk_78_36 : decode prog_2_method_10_code 36 = .ok (.ireturn, 1) := by decide +kernel
theorem dk_78_37 : decode prog_2_method_10_code 37 = .ok (.iload_n 3, 1) := by decide +kernel
theorem dk_78_38 : decode prog_2_method_10_code 38 = .ok (.aload_n 1, 1) := by decide +kernel
theorem dk_78_39 : decode prog_2_method_10_code 39 = .ok (.iload 4, 2) := by decide +kernel
theorem dk_78_41 : decode prog_2_method_10_code 41 = .ok (.aload_n 0, 1) := by decide +kernel
theorem dk_78_42 : decode prog_2_method_10_code 42 = .ok (.getfield 11, 3) := by decide +kernel
theorem dk_78_45 : decode prog_2_method_10_code 45 = .ok (.iload_n 2, 1) := by decide +kernel
theorem dk_78_46 : decode prog_2_method_10_code 46 = .ok (.aaload, 1) := by decide +kernel
theorem dk_78_47 : decode prog_2_method_10_code 47 = .ok (.iload 4, 2) := by decide +kernel
theorem dk_78_49 : decode prog_2_method_10_code 49 = .ok (.iaload, 1) := by decide +kernel
theorem dk_78_50 : decode prog_2_method_10_code 50 = .ok (.invokevirtual 85, 3) := by decide +kernel
theorem dk_78_53 : decode prog_2_method_10_code 53 = .ok (.iadd, 1) := by decide +kernel
theorem dk_78_54 : decode prog_2_method_10_code 54 = .ok (.istore_n 3, 1) := by decide +kernel
theorem dk_78_55 : decode prog_2_method_10_code 55 = .ok (.iinc 4 (1), 3) := by decide +kernel
theorem dk_78_58 : decode prog_2_method_10_code 58 = .ok (.goto (-53), 3) := by decide +kernel
theorem dk_78_61 : decode prog_2_method_10_code 61 = .ok (.iload_n 3, 1) := by decide +kernel
theorem dk_78_62 : decode prog_2_method_10_code 62 = .ok (.ireturn, 1) := by decide +kernel
set_option maxRecDepth 100000 in
set_option maxHeartbeats 4000000 in
theorem cc_78 {l : Launch} {s0 : State} (hst : l.stackTraces = false) (h0 : am_W0 s0) {d : Nat} (hall : ∀ mi ∈ am_idx, am_CC l s0 d mi) : am_CC l s0 (d + 1) 78 :=
  am_method (y := y_78) (cc := prog_2_method_10_code) (maxL := 5) (ret := (some .int)) (rm := am_rm (d + 1) 0 0) (ops := op_78) (C := am_T am_tabs am_ar d) (ar := 3) h0 (by decide) (by decide) fun p e s m args below meth c D A bS ad0 Q hct htab => by
    obtain ⟨hx, hb, hml, hown, hts, hb1, hb2, hA, hroot, hAs, -, -, hlocks, hr, hnm⟩ := hct
    exact List.forall_mem_cons.mpr ⟨ok_iconst hx hb dk_78_0 rfl,
    List.forall_mem_cons.mpr ⟨ok_istore_n hx hb dk_78_1 rfl (by decide),
    List.forall_mem_cons.mpr ⟨ok_iconst hx hb dk_78_2 rfl,
    List.forall_mem_cons.mpr ⟨ok_istore hx hb dk_78_3 (by decide),
    List.forall_mem_cons.mpr ⟨ok_iload hx hb dk_78_5,
    List.forall_mem_cons.mpr ⟨ok_bipush hx hb dk_78_7 (by decide),
    List.forall_mem_cons.mpr ⟨ok_icmp_ge hx hb dk_78_9 (by decide),
    List.forall_mem_cons.mpr ⟨ok_aload_n hx hb dk_78_12 rfl,
    List.forall_mem_cons.mpr ⟨ok_getr hx hb hts hown hin_1 rfl (by decide) tw_36 dk_78_13,
    List.forall_mem_cons.mpr ⟨ok_iload hx hb dk_78_16,
    List.forall_mem_cons.mpr ⟨ok_zald hx hb dk_78_18,
    List.forall_mem_cons.mpr ⟨ok_if_eq hx hb dk_78_19 (by decide),
    List.forall_mem_cons.mpr ⟨ok_aload_n hx hb dk_78_22 rfl,
    List.forall_mem_cons.mpr ⟨ok_getr hx hb hts hown hin_0 rfl (by decide) tw_97 dk_78_23,
    List.forall_mem_cons.mpr ⟨ok_iload_n hx hb dk_78_26 rfl,
    List.forall_mem_cons.mpr ⟨ok_aald hx hb dk_78_27,
    List.forall_mem_cons.mpr ⟨ok_iload hx hb dk_78_28,
    List.forall_mem_cons.mpr ⟨ok_iald hx hb dk_78_30,
    List.forall_mem_cons.mpr ⟨ok_iconst hx hb dk_78_31 rfl,
    List.forall_mem_cons.mpr ⟨ok_icmp_ne hx hb dk_78_32 (by decide),
    List.forall_mem_cons.mpr ⟨ok_iconst hx hb dk_78_35 rfl,
    List.forall_mem_cons.mpr ⟨ok_iret hx hb hb1 hb2 hr hlocks dk_78_36,
    List.forall_mem_cons.mpr ⟨ok_iload_n hx hb dk_78_37 rfl,
    List.forall_mem_cons.mpr ⟨ok_aload_n hx hb dk_78_38 rfl,
    List.forall_mem_cons.mpr ⟨ok_iload hx hb dk_78_39,
    List.forall_mem_cons.mpr ⟨ok_aload_n hx hb dk_78_41 rfl,
    List.forall_mem_cons.mpr ⟨ok_getr hx hb hts hown hin_0 rfl (by decide) tw_97 dk_78_42,
    List.forall_mem_cons.mpr ⟨ok_iload_n hx hb dk_78_45 rfl,
    List.forall_mem_cons.mpr ⟨ok_aald hx hb dk_78_46,
    List.forall_mem_cons.mpr ⟨ok_iload hx hb dk_78_47,
    List.forall_mem_cons.mpr ⟨ok_iald hx hb dk_78_49,
    List.forall_mem_cons.mpr ⟨ok_cV hx hb hml hown hts hb1 hb2 hA hroot hAs rfl rfl rfl (hcal_85 hall) tw_180 tw_181 tw_182 tw_183 tw_2 nm_85 rfl rfl (by show d + 8 + 1 ≤ d + 1 + 8; omega) (by show 8 + (3 + 11) + (200 + 60 * d) ≤ 200 + 60 * (d + 1); omega) dk_78_50,
    List.forall_mem_cons.mpr ⟨ok_iadd hx hb dk_78_53,
    List.forall_mem_cons.mpr ⟨ok_istore_n hx hb dk_78_54 rfl (by decide),
    List.forall_mem_cons.mpr ⟨ok_iinc hx hb dk_78_55 rfl (by decide),
    List.forall_mem_cons.mpr ⟨ok_goto hx hb dk_78_58 (by decide),
    List.forall_mem_cons.mpr ⟨ok_iload_n hx hb dk_78_61 rfl,
    List.forall_mem_cons.mpr ⟨ok_iret hx hb hb1 hb2 hr hlocks dk_78_62,
    fun _ h => absurd h List.not_mem_nil⟩⟩⟩⟩⟩⟩⟩⟩⟩⟩⟩⟩⟩⟩⟩⟩⟩⟩⟩⟩⟩⟩⟩⟩⟩⟩⟩⟩⟩⟩⟩⟩⟩⟩⟩⟩⟩⟩
theorem dk_112_0 : decode prog_14_method_103_code 0 = .ok (.iconst (0), 1) := by decide +kernel
theorem dk_112_1 : decode prog_14_method_103_code 1 = .ok (.istore_n 2, 1) := by decide +kernel
theorem dk_112_2 : decode prog_14_method_103_code 2 = .ok (.aload_n 0, 1) := by decide +kernel
theorem dk_112_3 : decode prog_14_method_103_code 3 = .ok (.arraylength, 1) := by decide +kernel
theorem dk_112_4 : decode prog_14_method_103_code 4 = .ok (.istore_n 3, 1) := by decide +kernel
theorem dk_112_5 : decode prog_14_method_103_code 5 = .ok (.iload_n 2, 1) := by decide +kernel
theorem dk_112_6 : decode prog_14_method_103_code 6 = .ok (.iload_n 3, 1) := by decide +kernel
theorem dk_112_7 : decode prog_14_method_103_code 7 = .ok (.if_icmp .ge (13), 3) := by decide +kernel
theorem dk_112_10 : decode prog_14_method_103_code 10 = .ok (.aload_n 0, 1) := by decide +kernel
theorem dk_112_11 : decode prog_14_method_103_code 11 = .ok (.iload_n 2, 1) := by decide +kernel
theorem dk_112_12 : decode prog_14_method_103_code 12 = .ok (.iload_n 1, 1) := by decide +kernel
theorem dk_112_13 : decode prog_14_method_103_code 13 = .ok (.iastore, 1) := by decide +kernel
theorem dk_112_14 : decode prog_14_method_103_code 14 = .ok (.iinc 2 (1), 3) := by decide +kernel
theorem dk_112_17 : decode prog_14_method_103_code 17 = .ok (.goto (-12), 3) := by decide +kernel
theorem dk_112_20 : decode prog_14_method_103_code 20 = .ok (.return_, 1) := by decide +kernel
set_option maxRecDepth 100000 in
set_option maxHeartbeats 4000000 in
theorem cc_112 {l : Launch} {s0 : State} (hst : l.stackTraces = false) (h0 : am_W0 s0) {d : Nat} (hall : ∀ mi ∈ am_idx, am_CC l s0 d mi) : am_CC l s0 (d + 1) 112 :=
  am_method (y := y_112) (cc := prog_14_method_103_code) (maxL := 4) (ret := none) (rm := am_rm (d + 1) 0 0) (ops := op_112) (C := am_T am_tabs am_ar d) (ar := 2) h0 (by decide) (by decide) fun p e s m args below meth c D A bS ad0 Q hct htab => by
    obtain ⟨hx, hb, hml, hown, hts, hb1, hb2, hA, hroot, hAs, -, -, hlocks, hr, hnm⟩ := hct
    exact List.forall_mem_cons.mpr ⟨ok_iconst hx hb dk_112_0 rfl,
    List.forall_mem_cons.mpr ⟨ok_istore_n hx hb dk_112_1 rfl (by decide),
    List.forall_mem_cons.mpr ⟨ok_aload_n hx hb dk_112_2 rfl,
    List.forall_mem_cons.mpr ⟨ok_alen hx hb dk_112_3,
    List.forall_mem_cons.mpr ⟨ok_istore_n hx hb dk_112_4 rfl (by decide),
    List.forall_mem_cons.mpr ⟨ok_iload_n hx hb dk_112_5 rfl,
    List.forall_mem_cons.mpr ⟨ok_iload_n hx hb dk_112_6 rfl,
    List.forall_mem_cons.mpr ⟨ok_icmp_ge hx hb dk_112_7 (by decide),
    List.forall_mem_cons.mpr ⟨ok_aload_n hx hb dk_112_10 rfl,
    List.forall_mem_cons.mpr ⟨ok_iload_n hx hb dk_112_11 rfl,
    List.forall_mem_cons.mpr ⟨ok_iload_n hx hb dk_112_12 rfl,
    List.forall_mem_cons.mpr ⟨ok_iast hx hb dk_112_13,
    List.forall_mem_cons.mpr ⟨ok_iinc hx hb dk_112_14 rfl (by decide),
    List.forall_mem_cons.mpr ⟨ok_goto hx hb dk_112_17 (by decide),
    List.forall_mem_cons.mpr ⟨ok_vret hx hb hb1 hb2 hr hlocks dk_112_20,
    fun _ h => absurd h List.not_mem_nil⟩⟩⟩⟩⟩⟩⟩⟩⟩⟩⟩⟩⟩⟩⟩
end
