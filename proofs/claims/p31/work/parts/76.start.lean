/-! ===== the law's start: the classes, the objects, the picture ===== -/
set_option maxRecDepth 20000 in
theorem st_known {b : Nat} {s : State} (hts : ∀ w ∈ lw_tbl, w.before #[Value.ref b] s = true) : ∃ (D : va_G) (gi gw gl : ClassId), Kx (D, (fun _ _ => 0), gi, gw, gl, false) s ∧ Xt s := by
  obtain ⟨c0, i0, k0⟩ := u_known (C := RX0) (T := TX0) (N := 4) (n := 4) hts inX0 (hts (Cond.instantiable RX0 4) (List.mem_of_getElem? (i := 25) rfl))
  obtain ⟨c1, i1, k1⟩ := u_known (C := RX1) (T := TX1) (N := 3) (n := 3) hts inX1 (hts (Cond.instantiable RX1 3) (List.mem_of_getElem? (i := 99) rfl))
  obtain ⟨c2, i2, k2⟩ := u_known (C := RX2) (T := TX2) (N := 8) (n := 8) hts inX2 (hts (Cond.instantiable RX2 8) (List.mem_of_getElem? (i := 119) rfl))
  obtain ⟨c3, i3, k3⟩ := u_known (C := RX3) (T := TX3) (N := 5) (n := 5) hts inX3 (hts (Cond.instantiable RX3 5) (List.mem_of_getElem? (i := 49) rfl))
  obtain ⟨c4, i4, k4⟩ := u_known (C := RX4) (T := TX4) (N := 6) (n := 6) hts inX4 (hts (Cond.instantiable RX4 6) (List.mem_of_getElem? (i := 19) rfl))
  obtain ⟨c5, i5, k5⟩ := u_known (C := RX5) (T := TX5) (N := 4) (n := 4) hts inX5 (hts (Cond.instantiable RX5 4) (List.mem_of_getElem? (i := 11) rfl))
  have ha := hts (Cond.arrayClass .int) (List.mem_of_getElem? (i := 47) rfl)
  have hal := hts (Cond.arrayClass .long) (List.mem_of_getElem? (i := 567) (by decide +kernel))
  have ho := hts (Cond.arrayOver (.object RX4)) (List.mem_of_getElem? (i := 105) rfl)
  have m1 := hts (Cond.methodLinkNest RX5 28 yX2_init "SharedStates") (List.mem_of_getElem? (i := 120) rfl)
  have m2 := hts (Cond.methodLinkNest RX4 52 yX5_isIndex "SharedStates") (List.mem_of_getElem? (i := 272) rfl)
  have m3 := hts (Cond.methodLinkNest RX4 98 yX5_isRange "SharedStates") (List.mem_of_getElem? (i := 279) rfl)
  have m4 := hts (Cond.methodLinkNest RX0 31 yX5_isIndex "SharedStates") (List.mem_of_getElem? (i := 315) rfl)
  have m5 := hts (Cond.methodLinkNest RX3 41 yX5_isIndex "SharedStates") (List.mem_of_getElem? (i := 437) rfl)
  obtain ⟨gi, ki, comp, a1, a2, a3⟩ := Cond.arrayClass_spec ha
  obtain ⟨gl, kl, compl, d1, d2, d3⟩ := Cond.arrayClass_spec hal
  obtain ⟨cw, gw, kw, b1, b2, b3, b4, b5⟩ := Cond.arrayOver_spec ho
  refine ⟨(fun k => if k = 0 then c0 else if k = 1 then c1 else if k = 2 then c2 else if k = 3 then c3 else if k = 4 then c4 else c5, fun k => if k = 0 then i0 else if k = 1 then i1 else if k = 2 then i2 else if k = 3 then i3 else if k = 4 then i4 else i5), gi, gw, gl, ⟨⟨fun k q hq => ?_, fun k q hk => ?_⟩, va_Nw.of rfl m4, va_Nw.of rfl m5, va_Nw.of rfl m2, va_Nw.of rfl m3⟩, va_AO.of ho, va_Nw.of rfl m1⟩
  · match k, hq with
    | 0, hq => cases hq; exact k0
    | 1, hq => cases hq; exact k1
    | 2, hq => cases hq; exact k2
    | 3, hq => cases hq; exact k3
    | 4, hq => cases hq; exact k4
    | 5, hq => cases hq; exact k5
    | k + 6, hq => simp [vwCl] at hq
  · match k, hk with
    | 0, hk => cases hk; exact ⟨fun n z => ⟨(fun k h => by cases h), ki, a2, comp, a3⟩, a1⟩
    | 1, hk => cases hk; exact ⟨fun n z => ⟨(fun k h => by cases h), kw, b3, cw, b4⟩, kw, cw, b3, b4, b1, b5⟩
    | 2, hk => cases hk; exact ⟨fun n z => ⟨(fun k h => by cases h), kl, d2, compl, d3⟩, d1⟩
    | k + 3, hk => simp at hk
/-- where everything stands -/
def adA (h : Nat) (a b c d e f : Nat → Nat) (k r0 : Nat) (o am : Nat → Nat) : Nat → Nat → Nat := fun r w =>
  if r < 10 then (if w = 0 then a r else if w = 1 then b r else if w = 2 then c r else if w = 3 then d r else if w = 4 then e r else f r) else if r = 10 then h else if r = 11 then k else if r = 12 then r0 else if r < 16 then o r else am r
def psL (r w : Nat) : Nat := if r < 10 then (if w = 0 then 1 + r else if w = 1 then 11 + r else 3 + 10 * w + r) else if r = 10 then 0 else if r = 11 then 21 else if r = 12 then 22 else 50 + r
theorem psL_inj {r w r' w' : Nat} (h : vlB false r w = true) (h' : vlB false r' w' = true) (e : psL r w = psL r' w') : r = r' ∧ w = w' := by
  have z := vlB_c h
  have z' := vlB_c h'
  unfold psL at e
  repeat' split at e
  all_goals omega
theorem va_arr {D : va_G} {cl : List vw_C} {q n : Nat} {cA : ClassId} {f g : Nat → Int32} {H : Heap} (e : ∀ j, j < n → f j = g j) (h : va_at D cl (q, .inl (cA, n, .inl f)) H) : va_at D cl (q, .inl (cA, n, .inl g)) H := by
  have h1 : H[q]? = some (vp_cell cA (n, .inl f)) := h
  rw [vp_cell_i, arrV_congr (z' := fun j => .int (g j)) (fun j hj => by rw [e j hj])] at h1
  exact h1
theorem va_arq {D : va_G} {cl : List vw_C} {q n : Nat} {cA : ClassId} {f g : Nat → Option Nat} {H : Heap} (e : ∀ j, j < n → f j = g j) (h : va_at D cl (q, .inl (cA, n, .inr (.inr (.inr (.inr f))))) H) : va_at D cl (q, .inl (cA, n, .inr (.inr (.inr (.inr g))))) H := by
  have h1 : H[q]? = some (vp_cell cA (n, .inr (.inr (.inr (.inr f))))) := h
  rw [vp_cell_q, arrV_congr (z' := fun j => va_rf (g j)) (fun j hj => by rw [e j hj])] at h1
  exact h1
theorem iU {f : Nat → Int32} {g : Int → Int} (i : Nat) (x : Int) (h : ∀ j : Nat, f j = iI (g (j : Int))) (j : Nat) : upd f i (iI x) j = iI (updI g (i : Int) x (j : Int)) := by
  by_cases hj : j = i
  · subst hj
    rw [pk_us, updI_s]
  · rw [updI_n (by omega), ← h j]
    unfold upd
    rw [if_neg hj]
theorem i00 (j : Nat) : (fun _ : Nat => (0 : Int32)) j = iI ((fun _ : Int => (0 : Int)) (j : Int)) := rfl
theorem u3_0 : ∀ j : Nat, j < 40 → upd (fun _ => 0) 0 (iI 6) j = iI (updI (fun _ => 0) 0 6 (j : Int)) := fun j _ => iU (f := fun _ => 0) (g := fun _ => 0) 0 6 i00 j
theorem u6_0 : ∀ j : Nat, j < 16 → upd (fun _ => 0) 0 (iI (-1)) j = iI (updI (fun _ => 0) 0 (-1) (j : Int)) := fun j _ => iU (f := fun _ => 0) (g := fun _ => 0) 0 (-1) i00 j
theorem u8_0 : ∀ j : Nat, j < 4 → upd (upd (upd (fun _ => 0) 1 (iI (-1))) 2 (iI (-1))) 3 (iI (-1)) j = iI (updI (updI (updI (fun _ => 0) 1 (-1)) 2 (-1)) 3 (-1) (j : Int)) := fun j _ => iU (f := upd (upd (fun _ => 0) 1 (iI (-1))) 2 (iI (-1))) (g := updI (updI (fun _ => 0) 1 (-1)) 2 (-1)) 3 (-1) (iU (f := upd (fun _ => 0) 1 (iI (-1))) (g := updI (fun _ => 0) 1 (-1)) 2 (-1) (iU (f := fun _ => 0) (g := fun _ => 0) 1 (-1) i00)) j
/-- the law's own arrays, as they are made -/
def eN (G : Gl) (a : Nat → Nat) : va_W := [(a 16, .inl (gI G, 6, .inl (fun _ => 0))), (a 17, .inl (gI G, 4, .inl (fun _ => 0))), (a 18, .inl (gI G, 16, .inl (fun _ => 0))), (a 19, .inl (gI G, 16, .inl (fun _ => 0))), (a 20, .inl (gL G, 16, .inr (.inl (fun _ => 0)))), (a 21, .inl (gL G, 40, .inr (.inl (fun _ => 0)))), (a 22, .inl (gL G, 40, .inr (.inl (fun _ => 0))))]
section PIC
variable {D : va_G} {gi gw gl : ClassId} {h k r0 : Nat} {a b c d e f o am : Nat → Nat} {H : Heap}
theorem L74_w {r w : Nat} (hr : r < 10) (hw : w < 6) : ∃ en, (eX (D, (fun _ _ => 0), gi, gw, gl, false) h a b c d e f k r0 o ++ eN (D, (fun _ _ => 0), gi, gw, gl, false) am)[psL r w]? = some (adA h a b c d e f k r0 o am r w, en) ∧ ∀ H, va_at D vwCl (adA h a b c d e f k r0 o am r w, en) H → va_at D vwCl (adA h a b c d e f k r0 o am r w, cE (D, adA h a b c d e f k r0 o am, gi, gw, gl, false) (fun j => j) (V0 r w) r w) H := by
  rcases (show r = 0 ∨ r = 1 ∨ r = 2 ∨ r = 3 ∨ r = 4 ∨ r = 5 ∨ r = 6 ∨ r = 7 ∨ r = 8 ∨ r = 9 by omega) with rfl | rfl | rfl | rfl | rfl | rfl | rfl | rfl | rfl | rfl
  · rcases (show w = 0 ∨ w = 1 ∨ w = 2 ∨ w = 3 ∨ w = 4 ∨ w = 5 by omega) with rfl | rfl | rfl | rfl | rfl | rfl
    all_goals exact ⟨_, rfl, fun H hh => hh⟩
  · rcases (show w = 0 ∨ w = 1 ∨ w = 2 ∨ w = 3 ∨ w = 4 ∨ w = 5 by omega) with rfl | rfl | rfl | rfl | rfl | rfl
    all_goals exact ⟨_, rfl, fun H hh => hh⟩
  · rcases (show w = 0 ∨ w = 1 ∨ w = 2 ∨ w = 3 ∨ w = 4 ∨ w = 5 by omega) with rfl | rfl | rfl | rfl | rfl | rfl
    all_goals exact ⟨_, rfl, fun H hh => hh⟩
  · rcases (show w = 0 ∨ w = 1 ∨ w = 2 ∨ w = 3 ∨ w = 4 ∨ w = 5 by omega) with rfl | rfl | rfl | rfl | rfl | rfl
    all_goals exact ⟨_, rfl, fun H hh => va_arr u3_0 hh⟩
  · rcases (show w = 0 ∨ w = 1 ∨ w = 2 ∨ w = 3 ∨ w = 4 ∨ w = 5 by omega) with rfl | rfl | rfl | rfl | rfl | rfl
    all_goals exact ⟨_, rfl, fun H hh => hh⟩
  · rcases (show w = 0 ∨ w = 1 ∨ w = 2 ∨ w = 3 ∨ w = 4 ∨ w = 5 by omega) with rfl | rfl | rfl | rfl | rfl | rfl
    all_goals exact ⟨_, rfl, fun H hh => hh⟩
  · rcases (show w = 0 ∨ w = 1 ∨ w = 2 ∨ w = 3 ∨ w = 4 ∨ w = 5 by omega) with rfl | rfl | rfl | rfl | rfl | rfl
    all_goals exact ⟨_, rfl, fun H hh => va_arr u6_0 hh⟩
  · rcases (show w = 0 ∨ w = 1 ∨ w = 2 ∨ w = 3 ∨ w = 4 ∨ w = 5 by omega) with rfl | rfl | rfl | rfl | rfl | rfl
    all_goals exact ⟨_, rfl, fun H hh => hh⟩
  · rcases (show w = 0 ∨ w = 1 ∨ w = 2 ∨ w = 3 ∨ w = 4 ∨ w = 5 by omega) with rfl | rfl | rfl | rfl | rfl | rfl
    all_goals exact ⟨_, rfl, fun H hh => va_arr u8_0 hh⟩
  · rcases (show w = 0 ∨ w = 1 ∨ w = 2 ∨ w = 3 ∨ w = 4 ∨ w = 5 by omega) with rfl | rfl | rfl | rfl | rfl | rfl
    all_goals exact ⟨_, rfl, fun H hh => hh⟩
theorem L74_o {r : Nat} (h1 : 10 ≤ r) (h2 : r < 23) : ∃ en, (eX (D, (fun _ _ => 0), gi, gw, gl, false) h a b c d e f k r0 o ++ eN (D, (fun _ _ => 0), gi, gw, gl, false) am)[psL r 0]? = some (adA h a b c d e f k r0 o am r 0, en) ∧ ∀ H, va_at D vwCl (adA h a b c d e f k r0 o am r 0, en) H → va_at D vwCl (adA h a b c d e f k r0 o am r 0, cE (D, adA h a b c d e f k r0 o am, gi, gw, gl, false) (fun j => j) (V0 r 0) r 0) H := by
  have u12 : ∀ j, j < 4 → va_up (va_up (va_up (va_up (fun _ => none) 0 (some (c 0))) 1 (some (d 0))) 2 (some (e 0))) 3 (some (f 0)) j = some (adA h a b c d e f k r0 o am 0 (2 + j)) := fun j hj => by
    rcases (show j = 0 ∨ j = 1 ∨ j = 2 ∨ j = 3 by omega) with rfl | rfl | rfl | rfl <;> rfl
  rcases (show r = 10 ∨ r = 11 ∨ r = 12 ∨ r = 13 ∨ r = 14 ∨ r = 15 ∨ r = 16 ∨ r = 17 ∨ r = 18 ∨ r = 19 ∨ r = 20 ∨ r = 21 ∨ r = 22 by omega) with rfl | rfl | rfl | rfl | rfl | rfl | rfl | rfl | rfl | rfl | rfl | rfl | rfl
  · exact ⟨_, rfl, fun H hh => hh⟩
  · exact ⟨_, rfl, fun H hh => hh⟩
  · exact ⟨_, rfl, fun H hh => va_arq u12 hh⟩
  · exact ⟨_, rfl, fun H hh => hh⟩
  · exact ⟨_, rfl, fun H hh => hh⟩
  · exact ⟨_, rfl, fun H hh => hh⟩
  · exact ⟨_, rfl, fun H hh => hh⟩
  · exact ⟨_, rfl, fun H hh => hh⟩
  · exact ⟨_, rfl, fun H hh => hh⟩
  · exact ⟨_, rfl, fun H hh => hh⟩
  · exact ⟨_, rfl, fun H hh => hh⟩
  · exact ⟨_, rfl, fun H hh => hh⟩
  · exact ⟨_, rfl, fun H hh => hh⟩
theorem L74_at {r w : Nat} (hv : vlB false r w = true) : ∃ en, (eX (D, (fun _ _ => 0), gi, gw, gl, false) h a b c d e f k r0 o ++ eN (D, (fun _ _ => 0), gi, gw, gl, false) am)[psL r w]? = some (adA h a b c d e f k r0 o am r w, en) ∧ ∀ H, va_at D vwCl (adA h a b c d e f k r0 o am r w, en) H → va_at D vwCl (adA h a b c d e f k r0 o am r w, cE (D, adA h a b c d e f k r0 o am, gi, gw, gl, false) (fun j => j) (V0 r w) r w) H := by
  rcases vlB_c hv with ⟨hr, hw⟩ | ⟨h1, h2, rfl⟩ | ⟨h1, -⟩
  · exact L74_w hr hw
  · exact L74_o h1 h2
  · cases h1
theorem st_pic {A : Nat → Prop} (hP : va_P D vwCl (eX (D, (fun _ _ => 0), gi, gw, gl, false) h a b c d e f k r0 o ++ eN (D, (fun _ _ => 0), gi, gw, gl, false) am) H) (hD : va_D A (eX (D, (fun _ _ => 0), gi, gw, gl, false) h a b c d e f k r0 o ++ eN (D, (fun _ _ => 0), gi, gw, gl, false) am)) :
    va_P D vwCl (WL (D, adA h a b c d e f k r0 o am, gi, gw, gl, false) (fun j => j) V0) H ∧ Gok (D, adA h a b c d e f k r0 o am, gi, gw, gl, false) ∧ ∀ q, mem (D, adA h a b c d e f k r0 o am, gi, gw, gl, false) q → A q := by
  refine ⟨fun k' q hq => ?_, fun r w r' w' hv hv' hx => ?_, fun q hq => ?_⟩
  · simp only [WL, prs, fv, List.getElem?_map] at hq
    cases hp : (prsB false)[k']? with
    | none => rw [hp] at hq; cases hq
    | some z =>
      obtain ⟨r, w⟩ := z
      rw [hp] at hq
      have hi := prs_inv hp
      cases hq
      obtain ⟨en, e1, e2⟩ := L74_at (D := D) (gi := gi) (gw := gw) (gl := gl) (h := h) (k := k) (r0 := r0) (a := a) (b := b) (c := c) (d := d) (e := e) (f := f) (o := o) (am := am) hi.1
      exact e2 H (hP _ _ e1)
  · obtain ⟨en, e1, _⟩ := L74_at (D := D) (gi := gi) (gw := gw) (gl := gl) (h := h) (k := k) (r0 := r0) (a := a) (b := b) (c := c) (d := d) (e := e) (f := f) (o := o) (am := am) hv
    obtain ⟨en', e1', _⟩ := L74_at (D := D) (gi := gi) (gw := gw) (gl := gl) (h := h) (k := k) (r0 := r0) (a := a) (b := b) (c := c) (d := d) (e := e) (f := f) (o := o) (am := am) hv'
    exact psL_inj hv hv' (hD.1 _ _ _ _ e1 e1' hx)
  · obtain ⟨r, w, hv, rfl⟩ := hq
    obtain ⟨en, e1, _⟩ := L74_at (D := D) (gi := gi) (gw := gw) (gl := gl) (h := h) (k := k) (r0 := r0) (a := a) (b := b) (c := c) (d := d) (e := e) (f := f) (o := o) (am := am) hv
    exact hD.2 _ _ e1
end PIC
