/-! the tables' words at every state that comes out of the law's start -/
section AMD
/-- U comes out of s0: the tables warmed, no statics written -/
def am_Root (s0 U : State) : Prop := s0.WarmedH U.vm ∧ ∀ (a : Nat) (cell : Cell), s0.heap[a]? = some cell → cell.vm.isStatics = true → U.heap[a]? = some cell
def am_mv2 : Cond → Bool
  | .methodLinkNest .. => true
  | .laysStatic .. => true
  | .not (.castable ..) => true
  | .arrayOver (.array _) => true
  | _ => false
/-- a word that stays -/
def am_mv (w : Cond) : Bool := goodWord w || (w.faceAtom || am_mv2 w)
theorem am_lays {s0 U : State} {a a' : Array Value} (h : am_Root s0 U) {C n d : String} (hb : (Cond.laysStatic C n d).before a s0 = true) : (Cond.laysStatic C n d).before a' U = true := by
  obtain ⟨c, k, i, f, ad, cell, h1, h2, h3, h4, h5, h6, h7, h8, h9⟩ := Cond.laysStatic_spec hb
  obtain ⟨k', hi', he⟩ := State.fieldFound?_setVm h.1.alike h2
  exact Cond.laysStatic_of (s := U) (by rw [h.1.alike.findClass]; exact h1) hi' h3 (by rw [he]; exact h4) (h.2 _ _ h5 h6) h6 h7 h8 (by rw [he]; exact h9)
theorem am_isref {s0 U : State} {a a' : Array Value} (h : am_Root s0 U) {C n d : String} (hl : (Cond.laysStatic C n d).before a s0 = true) (hb : (Cond.isRef (.static C n d)).before a s0 = true) : (Cond.isRef (.static C n d)).before a' U = true := by
  obtain ⟨c, k, i, f, ad, cell, h1, h2, h3, h4, h5, h6, h7, h8, h9⟩ := Cond.laysStatic_spec hl
  obtain ⟨k', hi', he⟩ := State.fieldFound?_setVm h.1.alike h2
  obtain ⟨u, hu⟩ := Cond.staticRefV h2 h3 h4 h5 h6 hb
  have hi2 : U.fieldFound? C n d = some (c, k', i, f) := hi'
  have e1 : (Term.static C n d).eval a' U none [] U = some u.v := by
    simp [Term.eval, State.fieldNamed?, hi2, h3, show k'.statics = some ad by rw [he]; exact h4, h.2 _ _ h5 h6, h6, hu]
  simp only [Cond.before, Cond.holds, Cond.value, e1]
  obtain ⟨v, hv⟩ := u
  cases v <;> first | rfl | (exact absurd hv (by decide)) | (simp [Value.isRef] at hv)
theorem am_moved2 {s0 U : State} {a a' : Array Value} (h : am_Root s0 U) (w : Cond) (hw : am_mv2 w = true) (hb : w.before a s0 = true) : w.before a' U = true := by
  cases w with
  | methodLinkNest x i y z => exact va_Nw.use rfl (va_Nw.warmM h.1 (va_Nw.of rfl hb))
  | laysStatic x y z => exact am_lays h hb
  | not c =>
    cases c with
    | castable x y => exact Cond.castAtom_setVm h.1.alike (.not (.castable x y)) rfl hb
    | _ => cases hw
  | arrayOver t =>
    cases t with
    | array t => exact arrayOver_alikeB h.1.alike hb
    | _ => cases hw
  | _ => cases hw
theorem am_face {w : Cond} (hw : w.faceAtom = true) : w.onTables = true := by
  cases w <;> first | rfl | cases hw
theorem am_moved {s0 U : State} {a a' : Array Value} (h : am_Root s0 U) (w : Cond) (hw : am_mv w = true) (hb : w.before a s0 = true) : w.before a' U = true := by
  unfold am_mv at hw
  rcases Bool.or_eq_true_iff.mp hw with hw | hw
  · exact word_at h.1 (good_of_word hw) hb
  · rcases Bool.or_eq_true_iff.mp hw with hw | hw
    · exact va_tabs (am_face hw) (rfl : (s0.setVm U.vm).vm = U.vm) (Cond.faceAtom_setVm h.1.alike _ hw hb)
    · exact am_moved2 h w hw hb
theorem am_Root.refl (s : State) : am_Root s s := ⟨State.WarmedH.refl s, fun _ _ h _ => h⟩
theorem am_Root.step {s0 s U : State} (h : am_Root s0 s) (hW : s.WarmedH U.vm) (hk : ∀ (a : Nat) (cell : Cell), s.heap[a]? = some cell → cell.vm.isStatics = true → U.heap[a]? = some cell) : am_Root s0 U :=
  ⟨State.WarmedH.trans h.1 hW, fun a cell h1 h2 => hk a cell (h.2 a cell h1 h2) h2⟩
/-- an object or array of the world isn't a class's statics -/
theorem am_nostat {D : va_G} {cl : List vw_C} {ws : va_W} {H : Heap} (hP : va_P D cl ws H) {q : Nat} {cell : Cell} (h : H[q]? = some cell) (hs : cell.vm.isStatics = true) : ¬ va_A ws H.size q := by
  intro hA
  rcases hA with ⟨k, e, hk⟩ | hA
  · have h1 := hP k _ hk
    cases e with
    | inl x =>
      have h2 : H[q]? = some (vp_cell x.1 x.2) := h1
      cases Option.some.inj (h2.symm.trans h)
      obtain ⟨c, n, f | f | f | f | f⟩ := x <;> cases hs
    | inr o =>
      obtain ⟨r, -, c9, g1, g2, g3, -⟩ := h1
      cases Option.some.inj (g1.symm.trans h)
      rw [g3] at hs
      cases hs
  · have := (Array.getElem?_eq_some_iff.mp h).1
    omega
end AMD
