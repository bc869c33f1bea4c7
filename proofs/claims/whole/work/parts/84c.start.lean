/-! ===== the law's start: the classes, the objects, the picture ===== -/
theorem st_known {b : Nat} {s : State} (hts : ∀ w ∈ lw_tbl, w.before #[Value.ref b] s = true) : ∃ (D : va_G) (gi gw : ClassId), Kx (D, (fun _ _ => 0), gi, gw) s ∧ Xt s := by
  obtain ⟨c0, i0, k0⟩ := u_known (C := RX0) (T := TX0) (N := 4) (n := 4) hts inX0 (hts (Cond.instantiable RX0 4) (List.mem_of_getElem? (i := 76) (by decide +kernel)))
  obtain ⟨c1, i1, k1⟩ := u_known (C := RX1) (T := TX1) (N := 3) (n := 3) hts inX1 (hts (Cond.instantiable RX1 3) (List.mem_of_getElem? (i := 150) (by decide +kernel)))
  obtain ⟨c2, i2, k2⟩ := u_known (C := RX2) (T := TX2) (N := 8) (n := 8) hts inX2 (hts (Cond.instantiable RX2 8) (List.mem_of_getElem? (i := 170) (by decide +kernel)))
  obtain ⟨c3, i3, k3⟩ := u_known (C := RX3) (T := TX3) (N := 5) (n := 5) hts inX3 (hts (Cond.instantiable RX3 5) (List.mem_of_getElem? (i := 100) (by decide +kernel)))
  obtain ⟨c4, i4, k4⟩ := u_known (C := RX4) (T := TX4) (N := 6) (n := 6) hts inX4 (hts (Cond.instantiable RX4 6) (List.mem_of_getElem? (i := 70) (by decide +kernel)))
  obtain ⟨c5, i5, k5⟩ := u_known (C := RX5) (T := TX5) (N := 4) (n := 4) hts inX5 (hts (Cond.instantiable RX5 4) (List.mem_of_getElem? (i := 62) (by decide +kernel)))
  obtain ⟨c6, i6, k6⟩ := u_known (C := RX6) (T := TX6) (N := 16) (n := 16) hts inX6 (hts (Cond.instantiable RX6 16) (List.mem_of_getElem? (i := 648) (by decide +kernel)))
  have ha := hts (Cond.arrayClass .int) (List.mem_of_getElem? (i := 98) (by decide +kernel))
  have ho := hts (Cond.arrayOver (.object RX4)) (List.mem_of_getElem? (i := 156) (by decide +kernel))
  have m1 := hts (Cond.methodLinkNest RX5 28 yX2_init "SharedStates") (List.mem_of_getElem? (i := 171) (by decide +kernel))
  have m2 := hts (Cond.methodLinkNest RX4 52 yX5_isIndex "SharedStates") (List.mem_of_getElem? (i := 255) (by decide +kernel))
  have m3 := hts (Cond.methodLinkNest RX4 98 yX5_isRange "SharedStates") (List.mem_of_getElem? (i := 262) (by decide +kernel))
  have m4 := hts (Cond.methodLinkNest RX0 31 yX5_isIndex "SharedStates") (List.mem_of_getElem? (i := 305) (by decide +kernel))
  have m5 := hts (Cond.methodLinkNest RX3 41 yX5_isIndex "SharedStates") (List.mem_of_getElem? (i := 417) (by decide +kernel))
  obtain ⟨gi, ki, comp, a1, a2, a3⟩ := Cond.arrayClass_spec ha
  obtain ⟨cw, gw, kw, b1, b2, b3, b4, b5⟩ := Cond.arrayOver_spec ho
  refine ⟨(fun k => if k = 0 then c0 else if k = 1 then c1 else if k = 2 then c2 else if k = 3 then c3 else if k = 4 then c4 else if k = 5 then c5 else c6, fun k => if k = 0 then i0 else if k = 1 then i1 else if k = 2 then i2 else if k = 3 then i3 else if k = 4 then i4 else if k = 5 then i5 else i6), gi, gw, ⟨⟨fun k q hq => ?_, fun k q hk => ?_⟩, va_Nw.of rfl m4, va_Nw.of rfl m5, va_Nw.of rfl m2, va_Nw.of rfl m3⟩, va_AO.of ho, va_Nw.of rfl m1⟩
  · match k, hq with
    | 0, hq => cases hq; exact k0
    | 1, hq => cases hq; exact k1
    | 2, hq => cases hq; exact k2
    | 3, hq => cases hq; exact k3
    | 4, hq => cases hq; exact k4
    | 5, hq => cases hq; exact k5
    | 6, hq => cases hq; exact k6
    | k + 7, hq => simp [vwCl] at hq
  · match k, hk with
    | 0, hk => cases hk; exact ⟨fun n z => ⟨(fun k h => by cases h), ki, a2, comp, a3⟩, a1⟩
    | 1, hk => cases hk; exact ⟨fun n z => ⟨(fun k h => by cases h), kw, b3, cw, b4⟩, kw, cw, b3, b4, b1, b5⟩
    | k + 2, hk => simp at hk
/-- where everything stands -/
def adA (h : Nat) (a b c d e f : Nat → Nat) (k r0 : Nat) (o am : Nat → Nat) : Nat → Nat → Nat := fun r w =>
  if r < 10 then (if w = 0 then a r else if w = 1 then b r else if w = 2 then c r else if w = 3 then d r else if w = 4 then e r else f r) else if r = 10 then h else if r = 11 then k else if r = 12 then r0 else if r < 16 then o r else am r
def psL (r w : Nat) : Nat := if r < 10 then (if w = 0 then 1 + r else if w = 1 then 11 + r else 3 + 10 * w + r) else if r = 10 then 0 else if r = 11 then 21 else if r = 12 then 22 else 50 + r
theorem vl_c {r w : Nat} (h : vl r w = true) : (r < 10 ∧ w < 6) ∨ (10 ≤ r ∧ r < 24 ∧ w = 0) := by
  simp only [vl, Bool.or_eq_true, Bool.and_eq_true, Nat.blt_eq, Nat.ble_eq, Nat.beq_eq] at h
  omega
theorem psL_inj {r w r' w' : Nat} (h : vl r w = true) (h' : vl r' w' = true) (e : psL r w = psL r' w') : r = r' ∧ w = w' := by
  have z := vl_c h
  have z' := vl_c h'
  unfold psL at e
  repeat' split at e
  all_goals omega
theorem va_arr {D : va_G} {cl : List vw_C} {q n : Nat} {cA : ClassId} {f g : Nat → Int32} {H : Heap} (e : ∀ j, j < n → f j = g j) (h : va_at D cl (q, .inl (cA, n, .inl f)) H) : va_at D cl (q, .inl (cA, n, .inl g)) H := by
  have h1 : H[q]? = some (vp_cell cA (n, .inl f)) := h
  rw [vp_cell_i, arrV_congr (z' := fun j => .int (g j)) (fun j hj => by rw [e j hj])] at h1
  exact h1
theorem va_arq {D : va_G} {cl : List vw_C} {q n : Nat} {cA : ClassId} {f g : Nat → Option Nat} {H : Heap} (e : ∀ j, j < n → f j = g j) (h : va_at D cl (q, .inl (cA, n, .inr (.inr (.inr (.inr f))))) H) : va_at D cl (q, .inl (cA, n, .inr (.inr (.inr (.inr g))))) H := by
  have h1 : H[q]? = some (vp_cell cA (n, .inr (.inr (.inr (.inr f))))) := h
  rw [vp_cell_q, arrV_congr (z' := fun j => va_rf (g j)) (fun j hj => by rw [e j hj])] at h1
  exact h1
theorem iU {f : Nat → Int32} {g : Int → Int} (i : Nat) (x : Int) (h : ∀ j : Nat, f j = iI (g (j : Int))) (j : Nat) : upd f i (iI x) j = iI (updI g (i : Int) x (j : Int)) := by
  by_cases hj : j = i
  · subst hj
    rw [pk_us, updI_s]
  · rw [updI_n (by omega), ← h j]
    unfold upd
    rw [if_neg hj]
theorem i00 (j : Nat) : (fun _ : Nat => (0 : Int32)) j = iI ((fun _ : Int => (0 : Int)) (j : Int)) := rfl
theorem u3_0 : ∀ j : Nat, j < 40 → upd (fun _ => 0) 0 (iI 6) j = iI (updI (fun _ => 0) 0 6 (j : Int)) := fun j _ => iU (f := fun _ => 0) (g := fun _ => 0) 0 6 i00 j
theorem u6_0 : ∀ j : Nat, j < 16 → upd (fun _ => 0) 0 (iI (-1)) j = iI (updI (fun _ => 0) 0 (-1) (j : Int)) := fun j _ => iU (f := fun _ => 0) (g := fun _ => 0) 0 (-1) i00 j
theorem u8_0 : ∀ j : Nat, j < 4 → upd (upd (upd (fun _ => 0) 1 (iI (-1))) 2 (iI (-1))) 3 (iI (-1)) j = iI (updI (updI (updI (fun _ => 0) 1 (-1)) 2 (-1)) 3 (-1) (j : Int)) := fun j _ => iU (f := upd (upd (fun _ => 0) 1 (iI (-1))) 2 (iI (-1))) (g := updI (updI (fun _ => 0) 1 (-1)) 2 (-1)) 3 (-1) (iU (f := upd (fun _ => 0) 1 (iI (-1))) (g := updI (fun _ => 0) 1 (-1)) 2 (-1) (iU (f := fun _ => 0) (g := fun _ => 0) 1 (-1) i00)) j
theorem u17_0 : ∀ j : Nat, j < 498 → mS0 j = iI (s0I (j : Int)) := fun j _ => (iU (f := (upd (upd (upd (upd (upd (upd (upd (upd (fun _ => 0) 0 (iI 1)) 1 (iI 1)) 2 (iI 1)) 5 (iI 1)) 7 (iI (-1))) 8 (iI (-1))) 9 (iI (-1))) 11 (iI (-1)))) (g := (updI (updI (updI (updI (updI (updI (updI (updI (fun _ => 0) 0 1) 1 1) 2 1) 5 1) 7 (-1)) 8 (-1)) 9 (-1)) 11 (-1))) 138 1 (iU (f := (upd (upd (upd (upd (upd (upd (upd (fun _ => 0) 0 (iI 1)) 1 (iI 1)) 2 (iI 1)) 5 (iI 1)) 7 (iI (-1))) 8 (iI (-1))) 9 (iI (-1)))) (g := (updI (updI (updI (updI (updI (updI (updI (fun _ => 0) 0 1) 1 1) 2 1) 5 1) 7 (-1)) 8 (-1)) 9 (-1))) 11 (-1) (iU (f := (upd (upd (upd (upd (upd (upd (fun _ => 0) 0 (iI 1)) 1 (iI 1)) 2 (iI 1)) 5 (iI 1)) 7 (iI (-1))) 8 (iI (-1)))) (g := (updI (updI (updI (updI (updI (updI (fun _ => 0) 0 1) 1 1) 2 1) 5 1) 7 (-1)) 8 (-1))) 9 (-1) (iU (f := (upd (upd (upd (upd (upd (fun _ => 0) 0 (iI 1)) 1 (iI 1)) 2 (iI 1)) 5 (iI 1)) 7 (iI (-1)))) (g := (updI (updI (updI (updI (updI (fun _ => 0) 0 1) 1 1) 2 1) 5 1) 7 (-1))) 8 (-1) (iU (f := (upd (upd (upd (upd (fun _ => 0) 0 (iI 1)) 1 (iI 1)) 2 (iI 1)) 5 (iI 1))) (g := (updI (updI (updI (updI (fun _ => 0) 0 1) 1 1) 2 1) 5 1)) 7 (-1) (iU (f := (upd (upd (upd (fun _ => 0) 0 (iI 1)) 1 (iI 1)) 2 (iI 1))) (g := (updI (updI (updI (fun _ => 0) 0 1) 1 1) 2 1)) 5 1 (iU (f := (upd (upd (fun _ => 0) 0 (iI 1)) 1 (iI 1))) (g := (updI (updI (fun _ => 0) 0 1) 1 1)) 2 1 (iU (f := (upd (fun _ => 0) 0 (iI 1))) (g := (updI (fun _ => 0) 0 1)) 1 1 (iU (f := (fun _ => 0)) (g := (fun _ => 0)) 0 1 i00))))))))) j
section PIC
variable {D : va_G} {gi gw : ClassId} {h k r0 : Nat} {a b c d e f o am : Nat → Nat} {H : Heap}
theorem L74_w {r w : Nat} (hr : r < 10) (hw : w < 6) : ∃ en, (eX (D, (fun _ _ => 0), gi, gw) h a b c d e f k r0 o ++ eM (D, (fun _ _ => 0), gi, gw) am)[psL r w]? = some (adA h a b c d e f k r0 o am r w, en) ∧ ∀ H, va_at D vwCl (adA h a b c d e f k r0 o am r w, en) H → va_at D vwCl (adA h a b c d e f k r0 o am r w, cE (D, adA h a b c d e f k r0 o am, gi, gw) (fun j => j) (V0 r w) r w) H := by
  rcases (show r = 0 ∨ r = 1 ∨ r = 2 ∨ r = 3 ∨ r = 4 ∨ r = 5 ∨ r = 6 ∨ r = 7 ∨ r = 8 ∨ r = 9 by omega) with rfl | rfl | rfl | rfl | rfl | rfl | rfl | rfl | rfl | rfl
  · rcases (show w = 0 ∨ w = 1 ∨ w = 2 ∨ w = 3 ∨ w = 4 ∨ w = 5 by omega) with rfl | rfl | rfl | rfl | rfl | rfl
    all_goals exact ⟨_, rfl, fun H hh => hh⟩
  · rcases (show w = 0 ∨ w = 1 ∨ w = 2 ∨ w = 3 ∨ w = 4 ∨ w = 5 by omega) with rfl | rfl | rfl | rfl | rfl | rfl
    all_goals exact ⟨_, rfl, fun H hh => hh⟩
  · rcases (show w = 0 ∨ w = 1 ∨ w = 2 ∨ w = 3 ∨ w = 4 ∨ w = 5 by omega) with rfl | rfl | rfl | rfl | rfl | rfl
    all_goals exact ⟨_, rfl, fun H hh => hh⟩
  · rcases (show w = 0 ∨ w = 1 ∨ w = 2 ∨ w = 3 ∨ w = 4 ∨ w = 5 by omega) with rfl | rfl | rfl | rfl | rfl | rfl
    all_goals exact ⟨_, rfl, fun H hh => va_arr u3_0 hh⟩
  · rcases (show w = 0 ∨ w = 1 ∨ w = 2 ∨ w = 3 ∨ w = 4 ∨ w = 5 by omega) with rfl | rfl | rfl | rfl | rfl | rfl
    all_goals exact ⟨_, rfl, fun H hh => hh⟩
  · rcases (show w = 0 ∨ w = 1 ∨ w = 2 ∨ w = 3 ∨ w = 4 ∨ w = 5 by omega) with rfl | rfl | rfl | rfl | rfl | rfl
    all_goals exact ⟨_, rfl, fun H hh => hh⟩
  · rcases (show w = 0 ∨ w = 1 ∨ w = 2 ∨ w = 3 ∨ w = 4 ∨ w = 5 by omega) with rfl | rfl | rfl | rfl | rfl | rfl
    all_goals exact ⟨_, rfl, fun H hh => va_arr u6_0 hh⟩
  · rcases (show w = 0 ∨ w = 1 ∨ w = 2 ∨ w = 3 ∨ w = 4 ∨ w = 5 by omega) with rfl | rfl | rfl | rfl | rfl | rfl
    all_goals exact ⟨_, rfl, fun H hh => hh⟩
  · rcases (show w = 0 ∨ w = 1 ∨ w = 2 ∨ w = 3 ∨ w = 4 ∨ w = 5 by omega) with rfl | rfl | rfl | rfl | rfl | rfl
    all_goals exact ⟨_, rfl, fun H hh => va_arr u8_0 hh⟩
  · rcases (show w = 0 ∨ w = 1 ∨ w = 2 ∨ w = 3 ∨ w = 4 ∨ w = 5 by omega) with rfl | rfl | rfl | rfl | rfl | rfl
    all_goals exact ⟨_, rfl, fun H hh => hh⟩
theorem L74_o {r : Nat} (h1 : 10 ≤ r) (h2 : r < 24) : ∃ en, (eX (D, (fun _ _ => 0), gi, gw) h a b c d e f k r0 o ++ eM (D, (fun _ _ => 0), gi, gw) am)[psL r 0]? = some (adA h a b c d e f k r0 o am r 0, en) ∧ ∀ H, va_at D vwCl (adA h a b c d e f k r0 o am r 0, en) H → va_at D vwCl (adA h a b c d e f k r0 o am r 0, cE (D, adA h a b c d e f k r0 o am, gi, gw) (fun j => j) (V0 r 0) r 0) H := by
  have u12 : ∀ j, j < 4 → va_up (va_up (va_up (va_up (fun _ => none) 0 (some (c 0))) 1 (some (d 0))) 2 (some (e 0))) 3 (some (f 0)) j = some (adA h a b c d e f k r0 o am 0 (2 + j)) := fun j hj => by
    rcases (show j = 0 ∨ j = 1 ∨ j = 2 ∨ j = 3 by omega) with rfl | rfl | rfl | rfl <;> rfl
  rcases (show r = 10 ∨ r = 11 ∨ r = 12 ∨ r = 13 ∨ r = 14 ∨ r = 15 ∨ r = 16 ∨ r = 17 ∨ r = 18 ∨ r = 19 ∨ r = 20 ∨ r = 21 ∨ r = 22 ∨ r = 23 by omega) with rfl | rfl | rfl | rfl | rfl | rfl | rfl | rfl | rfl | rfl | rfl | rfl | rfl | rfl
  · exact ⟨_, rfl, fun H hh => hh⟩
  · exact ⟨_, rfl, fun H hh => hh⟩
  · exact ⟨_, rfl, fun H hh => va_arq u12 hh⟩
  · exact ⟨_, rfl, fun H hh => hh⟩
  · exact ⟨_, rfl, fun H hh => hh⟩
  · exact ⟨_, rfl, fun H hh => hh⟩
  · exact ⟨_, rfl, fun H hh => hh⟩
  · exact ⟨_, rfl, fun H hh => va_arr u17_0 hh⟩
  · exact ⟨_, rfl, fun H hh => hh⟩
  · exact ⟨_, rfl, fun H hh => hh⟩
  · exact ⟨_, rfl, fun H hh => hh⟩
  · exact ⟨_, rfl, fun H hh => hh⟩
  · exact ⟨_, rfl, fun H hh => hh⟩
  · exact ⟨_, rfl, fun H hh => hh⟩
theorem L74_at {r w : Nat} (hv : vl r w = true) : ∃ en, (eX (D, (fun _ _ => 0), gi, gw) h a b c d e f k r0 o ++ eM (D, (fun _ _ => 0), gi, gw) am)[psL r w]? = some (adA h a b c d e f k r0 o am r w, en) ∧ ∀ H, va_at D vwCl (adA h a b c d e f k r0 o am r w, en) H → va_at D vwCl (adA h a b c d e f k r0 o am r w, cE (D, adA h a b c d e f k r0 o am, gi, gw) (fun j => j) (V0 r w) r w) H := by
  rcases vl_c hv with ⟨hr, hw⟩ | ⟨h1, h2, rfl⟩
  · exact L74_w hr hw
  · exact L74_o h1 h2
theorem st_pic {A : Nat → Prop} (hP : va_P D vwCl (eX (D, (fun _ _ => 0), gi, gw) h a b c d e f k r0 o ++ eM (D, (fun _ _ => 0), gi, gw) am) H) (hD : va_D A (eX (D, (fun _ _ => 0), gi, gw) h a b c d e f k r0 o ++ eM (D, (fun _ _ => 0), gi, gw) am)) :
    va_P D vwCl (WL (D, adA h a b c d e f k r0 o am, gi, gw) (fun j => j) V0) H ∧ Gok (D, adA h a b c d e f k r0 o am, gi, gw) ∧ ∀ q, mem (D, adA h a b c d e f k r0 o am, gi, gw) q → A q := by
  refine ⟨fun k' q hq => ?_, fun r w r' w' hv hv' hx => ?_, fun q hq => ?_⟩
  · simp only [WL, List.getElem?_map] at hq
    cases hp : prs[k']? with
    | none => rw [hp] at hq; cases hq
    | some z =>
      obtain ⟨r, w⟩ := z
      rw [hp] at hq
      have hi := prs_inv hp
      cases hq
      obtain ⟨en, e1, e2⟩ := L74_at (D := D) (gi := gi) (gw := gw) (h := h) (k := k) (r0 := r0) (a := a) (b := b) (c := c) (d := d) (e := e) (f := f) (o := o) (am := am) hi.1
      exact e2 H (hP _ _ e1)
  · obtain ⟨en, e1, _⟩ := L74_at (D := D) (gi := gi) (gw := gw) (h := h) (k := k) (r0 := r0) (a := a) (b := b) (c := c) (d := d) (e := e) (f := f) (o := o) (am := am) hv
    obtain ⟨en', e1', _⟩ := L74_at (D := D) (gi := gi) (gw := gw) (h := h) (k := k) (r0 := r0) (a := a) (b := b) (c := c) (d := d) (e := e) (f := f) (o := o) (am := am) hv'
    exact psL_inj hv hv' (hD.1 _ _ _ _ e1 e1' hx)
  · obtain ⟨r, w, hv, rfl⟩ := hq
    obtain ⟨en, e1, _⟩ := L74_at (D := D) (gi := gi) (gw := gw) (h := h) (k := k) (r0 := r0) (a := a) (b := b) (c := c) (d := d) (e := e) (f := f) (o := o) (am := am) hv
    exact hD.2 _ _ e1
end PIC
theorem n_astore_n {X : Cx} {l0 : Launch} {G : Gl} {R0 : Room} {cc : ByteArray} {nL : Nat} {Ts : List Cond} {own : String} {A : Nat → Prop} {ws : va_W} {L : List (Option Value)} {mc ms pc : Nat} {st : List Value} (E : Ec X l0 G R0 cc nL Ts own A) {k : Fin 4} {x : Nat} (hdg : decode cc pc = .ok (.astore_n k, 1)) (i : Nat) (hi : (k : Nat) = i) {L' : List (Option Value)} (hn : i < L.length) (hl : L.set i (some (.ref x)) = L') (kk : Kn X G A ws L' mc ms (pc + 1) st) : Kn X G A ws L mc ms pc (.ref x :: st) := by
  obtain ⟨p, l, e, R, s, m, args, below, meth, c, Q⟩ := X
  intro H locs ls hP hD hS hL
  subst hl
  exact lv_astore_n E.1.1 E.1.2.1 hdg hi hL.enum hn rfl (fun ls' hl' => kk H locs ls' hP hD hS (hL.store rfl hl'))
