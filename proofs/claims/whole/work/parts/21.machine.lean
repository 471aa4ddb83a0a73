/-! A small machine of my own: a method's body over a world of numbered cells. A cell has a kind (0 int[], 1 boolean[], 2 long[], 3 int[][], 4 + c an object of class c), a length, and its places (of an object: 0 a number, 1 null, r + 2 the cell r; of int[][]: the rows' cells). The numbers lie apart: I k j and L k j. The script is the value 'retAddr'. -/
section AMA
abbrev am_Cl : Type := Nat × Nat × List Nat
/-- cells, numbers, longs, the script -/
abbrev am_W : Type := List am_Cl × (Nat → Nat → Int32) × (Nat → Nat → Int64) × Nat × (Nat → Int32)
/-- how a method ends: what it returns, or the number of the exception that it throws -/
abbrev am_O : Type := Option Value ⊕ Nat
abbrev am_Q : Type := am_O → am_W → Prop
/-- pc, locals, stack, world, cells and slots that have been used -/
abbrev am_S : Type := Nat × List (Option Value) × List Value × am_W × Nat × Nat
abbrev am_C : Type := Nat → List Value → am_W → am_Q → Prop
/-- an instruction: what must be so ahead of it; calls, the method's end, what must be so behind it; locals, stack, world, cells, slots -/
abbrev am_Sem : Type := am_C → am_Q → (am_S → Prop) → List (Option Value) → List Value → am_W → Nat → Nat → Prop
def am_u2 {α : Type} (f : Nat → Nat → α) (k j : Nat) (x : α) : Nat → Nat → α := fun a b => if a = k then (if b = j then x else f a b) else f a b
def am_u1 {α : Type} (f : Nat → Nat → α) (k : Nat) (g : Nat → α) : Nat → Nat → α := fun a b => if a = k then g b else f a b
def am_set : List (Option Value) → Nat → Value → List (Option Value)
  | [], 0, v => [some v]
  | [], n + 1, v => none :: am_set [] n v
  | _ :: l, 0, v => some v :: l
  | x :: l, n + 1, v => x :: am_set l n v
def am_cond (c : Nat) (x y : Int32) : Prop := match c with
  | 0 => x = y
  | 1 => ¬ x = y
  | 2 => x < y
  | 3 => y ≤ x
  | 4 => y < x
  | _ => x ≤ y
def am_halt : am_Sem := fun _ _ _ _ _ _ _ _ => False
def am_push (nx : Nat) (v : Int32) : am_Sem := fun _ _ Y ls st w uc us => Y (nx, ls, .int v :: st, w, uc, us)
def am_lpush (nx : Nat) (v : Int64) : am_Sem := fun _ _ Y ls st w uc us => Y (nx, ls, .long v :: st, w, uc, us)
def am_iload (nx a : Nat) : am_Sem := fun _ _ Y ls st w uc us => ∃ x, ls[a]? = some (some (.int x)) ∧ Y (nx, ls, .int x :: st, w, uc, us)
def am_aload (nx a : Nat) : am_Sem := fun _ _ Y ls st w uc us => ∃ v, ls[a]? = some (some v) ∧ ((∃ k, v = .ref k) ∨ ∃ k, v = .retAddr k) ∧ Y (nx, ls, v :: st, w, uc, us)
def am_istore (nx a : Nat) : am_Sem := fun _ _ Y ls st w uc us => ∃ x r, st = .int x :: r ∧ Y (nx, am_set ls a (.int x), r, w, uc, us)
/-- null stands for any reference -/
def am_astore (nx a : Nat) : am_Sem := fun _ _ Y ls st w uc us => ∃ v r, st = v :: r ∧ ((∃ k, v = .ref k) ∨ v = .null) ∧ Y (nx, am_set ls a v, r, w, uc, us)
def am_iinc (nx a : Nat) (v : Int32) : am_Sem := fun _ _ Y ls st w uc us => ∃ x, ls[a]? = some (some (.int x)) ∧ Y (nx, am_set ls a (.int (x + v)), st, w, uc, us)
def am_iadd (nx : Nat) : am_Sem := fun _ _ Y ls st w uc us => ∃ x y r, st = .int y :: .int x :: r ∧ Y (nx, ls, .int (x + y) :: r, w, uc, us)
def am_isub (nx : Nat) : am_Sem := fun _ _ Y ls st w uc us => ∃ x y r, st = .int y :: .int x :: r ∧ Y (nx, ls, .int (x - y) :: r, w, uc, us)
def am_imul (nx : Nat) : am_Sem := fun _ _ Y ls st w uc us => ∃ x y r, st = .int y :: .int x :: r ∧ Y (nx, ls, .int (x * y) :: r, w, uc, us)
def am_iand (nx : Nat) : am_Sem := fun _ _ Y ls st w uc us => ∃ x y r, st = .int y :: .int x :: r ∧ Y (nx, ls, .int (x &&& y) :: r, w, uc, us)
def am_ineg (nx : Nat) : am_Sem := fun _ _ Y ls st w uc us => ∃ x r, st = .int x :: r ∧ Y (nx, ls, .int (-x) :: r, w, uc, us)
def am_if (nx tg c : Nat) : am_Sem := fun _ _ Y ls st w uc us => ∃ x r, st = .int x :: r ∧ (am_cond c x 0 → Y (tg, ls, r, w, uc, us)) ∧ (¬ am_cond c x 0 → Y (nx, ls, r, w, uc, us))
def am_icmp (nx tg c : Nat) : am_Sem := fun _ _ Y ls st w uc us => ∃ x y r, st = .int y :: .int x :: r ∧ (am_cond c x y → Y (tg, ls, r, w, uc, us)) ∧ (¬ am_cond c x y → Y (nx, ls, r, w, uc, us))
def am_goto (tg : Nat) : am_Sem := fun _ _ Y ls st w uc us => Y (tg, ls, st, w, uc, us)
/-- least, targets, other -/
def am_switch (lo : Int) (tgs : List Nat) (dflt : Nat) : am_Sem := fun _ _ Y ls st w uc us => ∃ x r, st = .int x :: r ∧
  (x.toInt < lo ∨ lo + tgs.length ≤ x.toInt → Y (dflt, ls, r, w, uc, us)) ∧ ∀ (k tg : Nat), x.toInt = lo + k → tgs[k]? = some tg → Y (tg, ls, r, w, uc, us)
def am_iald (nx : Nat) : am_Sem := fun _ _ Y ls st w uc us => ∃ i k r n q, st = .int i :: .ref k :: r ∧ w.1[k]? = some (0, n, q) ∧ vp_in i n ∧ Y (nx, ls, .int (w.2.1 k i.toNatClampNeg) :: r, w, uc, us)
def am_sald (nx : Nat) : am_Sem := fun _ _ Y ls st w uc us => ∃ i k r, st = .int i :: .retAddr k :: r ∧ vp_in i w.2.2.2.1 ∧ Y (nx, ls, .int (w.2.2.2.2 i.toNatClampNeg) :: r, w, uc, us)
def am_zald (nx : Nat) : am_Sem := fun _ _ Y ls st w uc us => ∃ i k r n q, st = .int i :: .ref k :: r ∧ w.1[k]? = some (1, n, q) ∧ vp_in i n ∧ Y (nx, ls, .int (w.2.1 k i.toNatClampNeg) :: r, w, uc, us)
def am_lald (nx : Nat) : am_Sem := fun _ _ Y ls st w uc us => ∃ i k r n q, st = .int i :: .ref k :: r ∧ w.1[k]? = some (2, n, q) ∧ vp_in i n ∧ Y (nx, ls, .long (w.2.2.1 k i.toNatClampNeg) :: r, w, uc, us)
def am_aald (nx : Nat) : am_Sem := fun _ _ Y ls st w uc us => ∃ i k r n q x, st = .int i :: .ref k :: r ∧ w.1[k]? = some (3, n, q) ∧ vp_in i n ∧ q[i.toNatClampNeg]? = some x ∧ Y (nx, ls, .ref x :: r, w, uc, us)
def am_iast (nx : Nat) : am_Sem := fun _ _ Y ls st w uc us => ∃ x i k r n q, st = .int x :: .int i :: .ref k :: r ∧ w.1[k]? = some (0, n, q) ∧ vp_in i n ∧ Y (nx, ls, r, (w.1, am_u2 w.2.1 k i.toNatClampNeg x, w.2.2), uc, us)
def am_zast (nx : Nat) : am_Sem := fun _ _ Y ls st w uc us => ∃ x i k r n q, st = .int x :: .int i :: .ref k :: r ∧ w.1[k]? = some (1, n, q) ∧ vp_in i n ∧ (x = 0 ∨ x = 1) ∧ Y (nx, ls, r, (w.1, am_u2 w.2.1 k i.toNatClampNeg x, w.2.2), uc, us)
def am_last (nx : Nat) : am_Sem := fun _ _ Y ls st w uc us => ∃ x i k r n q, st = .long x :: .int i :: .ref k :: r ∧ w.1[k]? = some (2, n, q) ∧ vp_in i n ∧ Y (nx, ls, r, (w.1, w.2.1, am_u2 w.2.2.1 k i.toNatClampNeg x, w.2.2.2), uc, us)
def am_lcmp (nx : Nat) : am_Sem := fun _ _ Y ls st w uc us => ∃ x y r, st = .long y :: .long x :: r ∧ Y (nx, ls, .int (lg_cmp x y) :: r, w, uc, us)
def am_i2l (nx : Nat) : am_Sem := fun _ _ Y ls st w uc us => ∃ x r, st = .int x :: r ∧ Y (nx, ls, .long x.toInt64 :: r, w, uc, us)
def am_dup (nx : Nat) : am_Sem := fun _ _ Y ls st w uc us => ∃ v r, st = v :: r ∧ ((∃ x, v = .int x) ∨ ∃ k, v = .ref k) ∧ Y (nx, ls, v :: v :: r, w, uc, us)
def am_pop (nx : Nat) : am_Sem := fun _ _ Y ls st w uc us => ∃ x r, st = .int x :: r ∧ Y (nx, ls, r, w, uc, us)
def am_alen (nx : Nat) : am_Sem := fun _ _ Y ls st w uc us => ∃ k r n q, st = .ref k :: r ∧ w.1[k]? = some (0, n, q) ∧ Y (nx, ls, .int (Int32.ofNat n) :: r, w, uc, us)
def am_slen (nx : Nat) : am_Sem := fun _ _ Y ls st w uc us => ∃ k r, st = .retAddr k :: r ∧ Y (nx, ls, .int (Int32.ofNat w.2.2.2.1) :: r, w, uc, us)
/-- a number's field -/
def am_geti (nx ci j : Nat) : am_Sem := fun _ _ Y ls st w uc us => ∃ k r n q, st = .ref k :: r ∧ w.1[k]? = some (ci + 4, n, q) ∧ q[j]? = some 0 ∧ Y (nx, ls, .int (w.2.1 k j) :: r, w, uc, us)
def am_getr (nx ci j : Nat) : am_Sem := fun _ _ Y ls st w uc us => ∃ k r n q x, st = .ref k :: r ∧ w.1[k]? = some (ci + 4, n, q) ∧ q[j]? = some (x + 2) ∧ Y (nx, ls, .ref x :: r, w, uc, us)
def am_puti (nx ci j : Nat) : am_Sem := fun _ _ Y ls st w uc us => ∃ x k r n q, st = .int x :: .ref k :: r ∧ w.1[k]? = some (ci + 4, n, q) ∧ q[j]? = some 0 ∧ Y (nx, ls, r, (w.1, am_u2 w.2.1 k j x, w.2.2), uc, us)
def am_putr (nx ci j : Nat) : am_Sem := fun _ _ Y ls st w uc us => ∃ x k r n q, st = .ref x :: .ref k :: r ∧ w.1[k]? = some (ci + 4, n, q) ∧ q[j]? = some 1 ∧ x < w.1.length ∧ Y (nx, ls, r, (w.1.set k (ci + 4, n, q.set j (x + 2)), w.2), uc, us)
/-- a new object: its class, its places; the method's bounds of cells and slots -/
def am_new (nx ci : Nat) (df : List Nat) (mc ms : Nat) : am_Sem := fun _ _ Y ls st w uc us => uc + 1 ≤ mc ∧ us + df.length ≤ ms ∧ Y (nx, ls, .ref w.1.length :: st, (w.1 ++ [(ci + 4, df.length, df)], am_u1 w.2.1 w.1.length (fun _ => 0), w.2.2), uc + 1, us + df.length)
/-- a new array of numbers: its kind -/
def am_newa (nx kd mc ms : Nat) : am_Sem := fun _ _ Y ls st w uc us => ∃ (n : Nat) (r : List Value), st = .int (Int32.ofNat n) :: r ∧ n ≤ 1000 ∧ uc + 1 ≤ mc ∧ us + n ≤ ms ∧ Y (nx, ls, .ref w.1.length :: r, (w.1 ++ [(kd, n, [])], am_u1 w.2.1 w.1.length (fun _ => 0), am_u1 w.2.2.1 w.1.length (fun _ => 0), w.2.2.2), uc + 1, us + n)
/-- new int[n][k] -/
def am_mna (nx mc ms : Nat) : am_Sem := fun _ _ Y ls st w uc us => ∃ (n k : Nat) (r : List Value), st = .int (Int32.ofNat k) :: .int (Int32.ofNat n) :: r ∧ n ≤ 1000 ∧ k ≤ 1000 ∧ uc + 1 + n ≤ mc ∧ us + n + n * k ≤ ms ∧
  Y (nx, ls, .ref w.1.length :: r, (w.1 ++ (3, n, (List.range n).map (fun i => w.1.length + 1 + i)) :: List.replicate n (0, k, []), (fun a b => if w.1.length ≤ a then 0 else w.2.1 a b), w.2.2), uc + 1 + n, us + n + n * k)
/-- Object.<init> -/
def am_oinit (nx : Nat) : am_Sem := fun _ _ Y ls st w uc us => ∃ k r, st = .ref k :: r ∧ (r.map fun v => v.category).sum ≤ 8 ∧ Y (nx, ls, r, w, uc, us)
def am_max (nx mc ms : Nat) : am_Sem := fun _ _ Y ls st w uc us => ∃ x y r, st = .int y :: .int x :: r ∧ (r.map fun v => v.category).sum ≤ 8 ∧ uc ≤ mc ∧ us ≤ ms ∧ Y (nx, ls, .int (if x < y then y else x) :: r, w, uc, us)
def am_abs (nx mc ms : Nat) : am_Sem := fun _ _ Y ls st w uc us => ∃ x r, st = .int x :: r ∧ (r.map fun v => v.category).sum ≤ 8 ∧ uc ≤ mc ∧ us ≤ ms ∧ Y (nx, ls, .int (if 0 ≤ x then x else 0 - x) :: r, w, uc, us)
def am_copy (nx : Nat) : am_Sem := fun _ _ Y ls st w uc us => ∃ n dp d sp s r n0 q0 n1 q1, st = .int n :: .int dp :: .ref d :: .int sp :: .ref s :: r ∧ (r.map fun v => v.category).sum ≤ 8 ∧ w.1[s]? = some (0, n0, q0) ∧ w.1[d]? = some (0, n1, q1) ∧ ¬ sp < 0 ∧ ¬ dp < 0 ∧ ¬ n < 0 ∧
  sp.toNatClampNeg + n.toNatClampNeg ≤ n0 ∧ dp.toNatClampNeg + n.toNatClampNeg ≤ n1 ∧ Y (nx, ls, r, (w.1, am_u1 w.2.1 d (va_cpy (w.2.1 s) (w.2.1 d) sp.toNatClampNeg dp.toNatClampNeg n.toNatClampNeg), w.2.2), uc, us)
/-- a call of method mj with na values, that doesn't throw; its cells and slots; the caller's bounds -/
def am_inv (nx mj na jc js mc ms : Nat) : am_Sem := fun C _ Y ls st w uc us => ∃ (as r : List Value) (Q' : am_Q), st = as.reverse ++ r ∧ as.length = na ∧ (r.map fun v => v.category).sum ≤ 8 ∧ uc + jc ≤ mc ∧ us + js ≤ ms ∧ C mj as w Q' ∧
  (∀ v w', Q' (.inl v) w' → Y (nx, ls, v.toList ++ r, w', uc + jc, us + js)) ∧ ∀ E w', ¬ Q' (.inr E) w'
/-- .. on an object of class ci -/
def am_invV (nx mj na ci jc js mc ms : Nat) : am_Sem := fun C _ Y ls st w uc us => ∃ (k n : Nat) (q : List Nat) (as r : List Value) (Q' : am_Q), st = as.reverse ++ .ref k :: r ∧ as.length = na ∧ w.1[k]? = some (ci + 4, n, q) ∧ (r.map fun v => v.category).sum ≤ 8 ∧ uc + jc ≤ mc ∧ us + js ≤ ms ∧ C mj (.ref k :: as) w Q' ∧
  (∀ v w', Q' (.inl v) w' → Y (nx, ls, v.toList ++ r, w', uc + jc, us + js)) ∧ ∀ E w', ¬ Q' (.inr E) w'
/-- .. that may throw, and no handler here -/
def am_invX (nx mj na ci jc js mc ms : Nat) : am_Sem := fun C Q Y ls st w uc us => ∃ (k n : Nat) (q : List Nat) (as r : List Value) (Q' : am_Q), st = as.reverse ++ .ref k :: r ∧ as.length = na ∧ w.1[k]? = some (ci + 4, n, q) ∧ (r.map fun v => v.category).sum ≤ 8 ∧ uc + jc ≤ mc ∧ us + js ≤ ms ∧ C mj (.ref k :: as) w Q' ∧
  (∀ v w', Q' (.inl v) w' → Y (nx, ls, v.toList ++ r, w', uc + jc, us + js)) ∧ ∀ E w', Q' (.inr E) w' → Q (.inr E) w'
/-- where an exception goes: the handlers (at, which) that cover the place, in their order -/
def am_hand (E : Nat) : List (Nat × Nat) → Option Nat
  | [] => none
  | h :: l => if h.2 = E then some h.1 else am_hand E l
/-- .. under handlers -/
def am_invH (nx mj na ci jc js mc ms : Nat) (hh : List (Nat × Nat)) : am_Sem := fun C _ Y ls st w uc us => ∃ (k n : Nat) (q : List Nat) (as r : List Value) (Q' : am_Q), st = as.reverse ++ .ref k :: r ∧ as.length = na ∧ w.1[k]? = some (ci + 4, n, q) ∧ (r.map fun v => v.category).sum ≤ 8 ∧ uc + jc ≤ mc ∧ us + js ≤ ms ∧ C mj (.ref k :: as) w Q' ∧
  (∀ v w', Q' (.inl v) w' → Y (nx, ls, v.toList ++ r, w', uc + jc, us + js)) ∧ ∀ E w', Q' (.inr E) w' → ∃ h, am_hand E hh = some h ∧ Y (h, ls, [.null], w', uc + jc, us + js)
def am_iret (mc ms : Nat) : am_Sem := fun _ Q _ _ st w uc us => ∃ x, st = [.int x] ∧ uc ≤ mc ∧ us ≤ ms ∧ Q (.inl (some (.int x))) w
def am_zret (mc ms : Nat) : am_Sem := fun _ Q _ _ st w uc us => ∃ x, st = [.int x] ∧ uc ≤ mc ∧ us ≤ ms ∧ (x = 0 ∨ x = 1) ∧ Q (.inl (some (.int x))) w
def am_vret (mc ms : Nat) : am_Sem := fun _ Q _ _ st w uc us => st = [] ∧ uc ≤ mc ∧ us ≤ ms ∧ Q (.inl none) w
/-- throw new E() -/
def am_throw (E mc ms : Nat) : am_Sem := fun _ Q _ _ st w uc us => (st.map fun v => v.category).sum ≤ 8 ∧ uc + 1 ≤ mc ∧ us + 6 ≤ ms ∧ Q (.inr E) w
/-- the method's walk: the least Y that is closed under its instructions -/
def am_X (tab : Nat → am_Sem) (C : am_C) (Q : am_Q) (σ : am_S) : Prop :=
  ∀ Y : am_S → Prop, (∀ (pc : Nat) (ls : List (Option Value)) (st : List Value) (w : am_W) (uc us : Nat) (Z : am_S → Prop), (∀ τ, Z τ → Y τ) → tab pc C Q Z ls st w uc us → Y (pc, ls, st, w, uc, us)) → Y σ
theorem am_go {tab : Nat → am_Sem} {C : am_C} {Q : am_Q} {pc : Nat} {ls : List (Option Value)} {st : List Value} {w : am_W} {uc us : Nat} {f : am_Sem} (ht : tab pc = f) (h : f C Q (am_X tab C Q) ls st w uc us) : am_X tab C Q (pc, ls, st, w, uc, us) := by
  subst ht
  intro Y hY
  exact hY pc ls st w uc us (am_X tab C Q) (fun τ hτ => hτ Y hY) h
/-- calls to depth d; tabs: the methods' instructions, ar: how many values they take -/
def am_T (tabs : Nat → Nat → am_Sem) (ar : Nat → Nat) : Nat → am_C
  | 0 => fun _ _ _ _ => False
  | d + 1 => fun mi as w Q => (as.length = ar mi ∧ (as.all fun v => v.category == 1) = true) ∧ am_X (tabs mi) (am_T tabs ar d) Q (0, as.map some, [], w, 0, 0)
end AMA
