/-! the law's walk on the true machine, out of its walk on the small one -/
section AMZ
/-- what was written in new cells alone need not be told -/
theorem ax_forget {s t : State} {L : List Loc} {k n : Nat} (h : s.sameButNew t L k n) (hL : ∀ q ∈ L, s.heap.size ≤ q.base) : s.sameButNew t [] k n := by
  obtain ⟨h1, h2, h3, h4, h5, h6⟩ := h
  refine ⟨h1, h2, h3, h4, h5, fun a cell hc => ?_⟩
  obtain ⟨c9, e1, e2, e3, e4⟩ := h6 a cell hc
  refine ⟨c9, e1, e2, e3, fun i _ => e4 i fun hm => ?_⟩
  have h7 := hL _ hm
  have h8 := (Array.getElem?_eq_some_iff.mp hc).1
  have h9 : s.heap.size ≤ a := h7
  omega
/-- the world at the law's start -/
def am_w0 (L : Nat) (xs : Nat → Int32) : am_W := ([], fun _ _ => 0, fun _ _ => 0, L, xs)
/-- every class's number and places -/
theorem am_known {s : State} {args : Array Value} (hts : ∀ w ∈ am_ws, w.before args s = true) : ∃ D : va_G, va_K D am_cl [] s := by
  obtain ⟨c0, i0, k0⟩ := u_known (C := "RunwayDesk$Search") (T := TF_0) (N := 5) (n := 5) hts hin_0 (hts _ tw_91)
  obtain ⟨c1, i1, k1⟩ := u_known (C := "RunwayDesk$State") (T := TF_1) (N := 13) (n := 13) hts hin_1 (hts _ tw_24)
  obtain ⟨c2, i2, k2⟩ := u_known (C := "RunwayDesk") (T := TF_2) (N := 5) (n := 5) hts hin_2 (hts _ tw_16)
  obtain ⟨c3, i3, k3⟩ := u_known (C := "RunwayDeskModel") (T := TF_3) (N := 22) (n := 22) hts hin_3 (hts _ tw_528)
  refine ⟨(fun k => match k with | 0 => c0 | 1 => c1 | 2 => c2 | _ => c3, fun k => match k with | 0 => i0 | 1 => i1 | 2 => i2 | _ => i3), fun k q hk => ?_, fun k q hk => by simp at hk⟩
  match k, hk with
  | 0, hk => cases hk; exact k0
  | 1, hk => cases hk; exact k1
  | 2, hk => cases hk; exact k2
  | 3, hk => cases hk; exact k3
  | _ + 4, hk => simp [am_cl] at hk
end AMZ
