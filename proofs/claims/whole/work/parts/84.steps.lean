/-! ===== one call of the law, on both sides ===== -/
section STs
variable {P : Nat → Nat} {V : Vt} {n : Nat}
theorem LI.text (h : LI P V n) {V2 : Vt} (hB : BV V2) (hw : ∀ r w, r < 9 → w ≠ P 1 → V2 r w = V r w) (h11 : V2 11 0 = V 11 0) (h3 : V2 16 0 3 = V 16 0 3) (h4 : V2 16 0 4 = 0) (h17 : V2 17 0 = V 17 0) (h18 : V2 18 0 = V 18 0) (h6 : V2 16 0 6 = V2 13 0 2) (ol : 0 ≤ V2 13 0 2 ∧ V2 13 0 2 ≤ 60) (tx : ∀ j : Int, 0 ≤ j → j < V2 13 0 2 → V2 14 0 j = V2 20 0 j) : LI P V2 (n + 1) := by
  have hz := h.z
  have ho := h.o
  refine ⟨hB, h.p, by rw [h11]; exact h.o, by rw [h11]; exact h.z, ?_, by rw [h3, h11]; exact h.e3, h4, h6, ol, tx, fun i i0 i1 => ?_, ?_, ?_⟩
  · rw [h17]; exact h.R.cg (fun r hr => hw r _ hr h.uw)
  · rw [h11] at i1
    have e : psI V2 i = psI V i := by unfold psI; rw [h11]
    rw [e, h18]
    have z := h.pw i i0 i1
    refine ⟨z.1.cg (fun r hr => hw r _ hr (h.p.ne ?_ (by omega) ?_)), ?_⟩
    · unfold psI; omega
    · unfold psI; omega
    · have := z.2; omega
  · unfold paR; rw [h18]; exact h.pr
  · rw [h17]; have := h.s1; omega
theorem LI.same9 (h : LI P V n) {V2 : Vt} (hB : BV V2) (hw : ∀ r w, r < 9 → w ≠ P 1 → V2 r w = V r w) (h11 : V2 11 0 = V 11 0) (h13 : V2 13 0 2 = V 13 0 2) (h14 : V2 14 0 = V 14 0) (h3 : V2 16 0 3 = V 16 0 3) (h4 : V2 16 0 4 = 0) (h6 : V2 16 0 6 = V 16 0 6) (h17 : V2 17 0 = V 17 0) (h18 : V2 18 0 = V 18 0) (h20 : V2 20 0 = V 20 0) : LI P V2 (n + 1) :=
  h.text hB hw h11 h3 h4 h17 h18 (by rw [h6, h13]; exact h.e6) (by rw [h13]; exact h.ol) (by rw [h13, h14, h20]; exact h.tx)
/-- only these rows changed -/
theorem LI.same2 (h : LI P V n) {V2 : Vt} (hB : BV V2) (hk : ∀ r w, r ≠ 9 → r ≠ 19 → r ≠ 21 → V2 r w = V r w) : LI P V2 (n + 1) :=
  h.same9 hB (fun r w hr _ => hk r w (by omega) (by omega) (by omega)) (hk 11 0 (by decide) (by decide) (by decide)) (by rw [hk 13 0 (by decide) (by decide) (by decide)]) (hk 14 0 (by decide) (by decide) (by decide)) (by rw [hk 16 0 (by decide) (by decide) (by decide)]) (by rw [hk 16 0 (by decide) (by decide) (by decide)]; exact h.e4) (by rw [hk 16 0 (by decide) (by decide) (by decide)]) (hk 17 0 (by decide) (by decide) (by decide)) (hk 18 0 (by decide) (by decide) (by decide)) (hk 20 0 (by decide) (by decide) (by decide))
theorem cf_ans {w : Nat} {s : Int → Int} (hR : RW V w s) {b x r r2 : Int}
    (h1 : (¬ (0 ≤ (hdS (V 4 w 3) (V 5 w) (V 8 w) b) ∧ 0 ≤ (fnd (V 4 w 3) (fun k => V 5 w k = x))) ∧ r = -1000001) ∨ ((0 ≤ (hdS (V 4 w 3) (V 5 w) (V 8 w) b) ∧ 0 ≤ (fnd (V 4 w 3) (fun k => V 5 w k = x))) ∧ r = sm 48 (fun c => b2i (mgX (cA (V 2 w) (V 7 w) (cmS (pS (V 4 w 3) (V 5 w) (V 6 w)) 32 (hdS (V 4 w 3) (V 5 w) (V 8 w) b) (fnd (V 4 w 3) (fun k => V 5 w k = x))) c) (cA (V 2 w) (V 7 w) (hdS (V 4 w 3) (V 5 w) (V 8 w) b) c) (cA (V 2 w) (V 7 w) (fnd (V 4 w 3) (fun k => V 5 w k = x)) c)))))
    (h2 : (¬ ((0 ≤ b ∧ b ≤ 3 ∧ 0 ≤ mh s b) ∧ 0 ≤ fO (mS s x)) ∧ r2 = -1000001) ∨ (((0 ≤ b ∧ b ≤ 3 ∧ 0 ≤ mh s b) ∧ 0 ≤ fO (mS s x)) ∧ r2 = sm 48 (fun c => b2i (mgX (mc s (mS s (cmM s x 16 (mh s b))) c) (mc s (mS s (mh s b)) c) (mc s (mS s x) c))))) : r2 = r := by
  have hi := hR.hs_iff b
  have hf := fO_nn (x := mS s x)
  rw [hR.slot x] at h1
  rcases h1 with ⟨a, e⟩ | ⟨a, e⟩ <;> rcases h2 with ⟨c, e2⟩ | ⟨c, e2⟩
  · rw [e, e2]
  · exact absurd ⟨hi.mpr c.1, hf.mp c.2⟩ a
  · exact absurd ⟨hi.mp a.1, hf.mpr a.2⟩ c
  · have hb := hi.mp a.1
    rw [hR.hs_t hb] at e
    rw [e, e2]
    exact (mgN_eq hR hb a.2).symm
theorem st_undo (h : LI P V n) {P1 P2 : Nat → Nat} {V1 V2 : Vt} {r r2 : Int} (h1 : BV V1 ∧ ((V 11 0 2 = 0 ∧ r = -1000002 ∧ P1 = P ∧ V1 = V) ∨ (0 < V 11 0 2 ∧ r = V 11 0 2 - 1 ∧ P1 = unP P V ∧ V1 = unV V)))
    (h2 : P2 = P1 ∧ BV V2 ∧ ((V1 16 0 3 = 0 ∧ r2 = -1000002 ∧ V2 = V1) ∨ (0 < V1 16 0 3 ∧ r2 = V1 16 0 3 - 1 ∧ V2 = up (up V1 16 0 (updI (V1 16 0) 3 (V1 16 0 3 - 1))) 17 0 (cpI (V1 18 0) (V1 17 0) (498 * (V1 16 0 3 - 1)) 0 498)))) : r2 = r ∧ LI P2 V2 (n + 1) := by
  obtain ⟨hB1, h1⟩ := h1
  obtain ⟨rfl, hB2, h2⟩ := h2
  have e3 := h.e3
  rcases h1 with ⟨a, e, rfl, rfl⟩ | ⟨a, e, rfl, rfl⟩
  · rcases h2 with ⟨b, e2, rfl⟩ | ⟨b, _⟩
    · exact ⟨by omega, h.up1⟩
    · omega
  · have k : ∀ r w, r ≠ 11 → unV V r w = V r w := fun r w hr => by unfold unV; rw [up_r hr]
    have k16 := k 16 0 (by decide)
    have k17 := k 17 0 (by decide)
    have k18 := k 18 0 (by decide)
    rw [k16, k17, k18] at h2
    rcases h2 with ⟨b, _⟩ | ⟨b, e2, c⟩
    · omega
    · refine ⟨by omega, h.undo a hB2 (fun r w hr => ?_) ?_ ?_ ?_ ?_ ?_ ?_⟩
      · rw [c, up_r (by omega), up_r (by omega)]
      · rw [c, up_r (by decide), up_s, updI_s]
      · rw [c, up_r (by decide), up_s, updI_n (by decide)]; exact h.e4
      · rw [c, up_r (by decide), up_s, updI_n (by decide)]
      · rw [c, up_s]
      · rw [c, up_r (by decide), up_r (by decide), k18]
      · rw [c, up_r (by decide), up_r (by decide), k 20 0 (by decide)]
theorem st_type (h : LI P V n) {P1 P2 : Nat → Nat} {V1 V2 : Vt} {sg r r2 : Int} (h1 : P1 = P ∧ BV V1 ∧ ((¬ (32 ≤ sg ∧ sg ≤ 126) ∧ r = -1000001 ∧ V1 = V) ∨ ((32 ≤ sg ∧ sg ≤ 126) ∧ V 13 0 2 = 60 ∧ r = -1000003 ∧ V1 = V) ∨ ((32 ≤ sg ∧ sg ≤ 126) ∧ V 13 0 2 < 60 ∧ r = V 13 0 2 + 1 ∧ V1 = up (up V 14 0 (updI (V 14 0) (V 13 0 2) sg)) 13 0 (updI (V 13 0) 2 (V 13 0 2 + 1)))))
    (h2 : P2 = P1 ∧ BV V2 ∧ ((¬ (32 ≤ sg ∧ sg ≤ 126) ∧ r2 = -1000001 ∧ V2 = V1) ∨ ((32 ≤ sg ∧ sg ≤ 126) ∧ V1 16 0 6 = 60 ∧ r2 = -1000003 ∧ V2 = V1) ∨ ((32 ≤ sg ∧ sg ≤ 126) ∧ V1 16 0 6 < 60 ∧ r2 = V1 16 0 6 + 1 ∧ V2 = up (up V1 20 0 (updI (V1 20 0) (V1 16 0 6) sg)) 16 0 (updI (V1 16 0) 6 (V1 16 0 6 + 1))))) : r2 = r ∧ LI P2 V2 (n + 1) := by
  obtain ⟨rfl, hB1, h1⟩ := h1
  obtain ⟨rfl, hB2, h2⟩ := h2
  have e6 := h.e6
  have ol := h.ol
  have k6 : V1 16 0 = V 16 0 ∧ V1 20 0 = V 20 0 := by
    rcases h1 with ⟨_, _, rfl⟩ | ⟨_, _, _, rfl⟩ | ⟨_, _, _, rfl⟩
    · exact ⟨rfl, rfl⟩
    · exact ⟨rfl, rfl⟩
    · exact ⟨by rw [up_r (by decide), up_r (by decide)], by rw [up_r (by decide), up_r (by decide)]⟩
  rw [k6.1, k6.2, e6] at h2
  rcases h1 with ⟨a, e, rfl⟩ | ⟨a, a2, e, rfl⟩ | ⟨a, a2, e, c⟩
  · rcases h2 with ⟨b, e2, rfl⟩ | ⟨b, _⟩ | ⟨b, _⟩
    · exact ⟨by omega, h.up1⟩
    · exact absurd b a
    · exact absurd b a
  · rcases h2 with ⟨b, _⟩ | ⟨b, b2, e2, rfl⟩ | ⟨b, b2, _⟩
    · exact absurd a b
    · exact ⟨by omega, h.up1⟩
    · omega
  · rcases h2 with ⟨b, _⟩ | ⟨b, b2, _⟩ | ⟨b, b2, e2, d⟩
    · exact absurd a b
    · omega
    · have g : ∀ r w, r ≠ 13 → r ≠ 14 → r ≠ 16 → r ≠ 20 → V2 r w = V r w := fun r w a b c' d' => by rw [d, up_r c', up_r d', c, up_r a, up_r b]
      have g13 : V2 13 0 = updI (V 13 0) 2 (V 13 0 2 + 1) := by rw [d, up_r (by decide), up_r (by decide), c, up_s]
      have g14 : V2 14 0 = updI (V 14 0) (V 13 0 2) sg := by rw [d, up_r (by decide), up_r (by decide), c, up_r (by decide), up_s]
      have g16 : V2 16 0 = updI (V 16 0) 6 (V 13 0 2 + 1) := by rw [d, up_s]
      have g20 : V2 20 0 = updI (V 20 0) (V 13 0 2) sg := by rw [d, up_r (by decide), up_s]
      refine ⟨by omega, h.text hB2 (fun r w hr _ => g r w (by omega) (by omega) (by omega) (by omega)) (g 11 0 (by decide) (by decide) (by decide) (by decide)) ?_ ?_ (g 17 0 (by decide) (by decide) (by decide) (by decide)) (g 18 0 (by decide) (by decide) (by decide) (by decide)) ?_ ?_ (fun j j0 j1 => ?_)⟩
      · rw [g16, updI_n (by decide)]
      · rw [g16, updI_n (by decide)]; exact h.e4
      · rw [g16, g13, updI_s, updI_s]
      · rw [g13, updI_s]; omega
      · rw [g13, updI_s] at j1
        rw [g14, g20]
        by_cases hj : j = V 13 0 2
        · rw [hj, updI_s, updI_s]
        · rw [updI_n hj, updI_n hj]; exact h.tx j j0 (by omega)
theorem st_clear (h : LI P V n) {P1 P2 : Nat → Nat} {V1 V2 : Vt} {r r2 : Int} (h1 : P1 = P ∧ BV V1 ∧ r = V 13 0 2 ∧ V1 = up V 13 0 (updI (V 13 0) 2 0)) (h2 : P2 = P1 ∧ BV V2 ∧ r2 = V1 16 0 6 ∧ V2 = up V1 16 0 (updI (V1 16 0) 6 0)) : r2 = r ∧ LI P2 V2 (n + 1) := by
  obtain ⟨rfl, hB1, e, c⟩ := h1
  obtain ⟨rfl, hB2, e2, d⟩ := h2
  have e6 := h.e6
  have k16 : V1 16 0 = V 16 0 := by rw [c, up_r (by decide)]
  rw [k16] at e2 d
  have g : ∀ r w, r ≠ 13 → r ≠ 16 → V2 r w = V r w := fun r w a b => by rw [d, up_r b, c, up_r a]
  have g13 : V2 13 0 = updI (V 13 0) 2 0 := by rw [d, up_r (by decide), c, up_s]
  have g16 : V2 16 0 = updI (V 16 0) 6 0 := by rw [d, up_s]
  refine ⟨by omega, h.text hB2 (fun r w hr _ => g r w (by omega) (by omega)) (g 11 0 (by decide) (by decide)) ?_ ?_ (g 17 0 (by decide) (by decide)) (g 18 0 (by decide) (by decide)) ?_ ?_ (fun j j0 j1 => ?_)⟩
  · rw [g16, updI_n (by decide)]
  · rw [g16, updI_n (by decide)]; exact h.e4
  · rw [g16, g13, updI_s, updI_s]
  · rw [g13, updI_s]; omega
  · rw [g13, updI_s] at j1
    omega
theorem st_fault (h : LI P V n) {P1 P2 : Nat → Nat} {V1 V2 : Vt} {what r r2 : Int} (h1 : P1 = P ∧ BV V1 ∧ ((¬ (0 ≤ what ∧ what < 3) ∧ r = -1000001 ∧ V1 = V) ∨ ((0 ≤ what ∧ what < 3) ∧ FRd (P 1) V V1 ∧ V1 13 0 2 = V 13 0 2 ∧ ∃ (n : Nat) (res pos rea cau : Int) (s' : Int → Int), plE (V 14 0) (V 13 0 2) (V 17 0) n res pos rea cau s' ∧ ((res = 1 ∧ r = -1000004) ∨ (res = 0 ∧ r = if what = 0 then pos else if what = 1 then rea else cau)))))
    (h2 : P2 = P1 ∧ BV V2 ∧ ((¬ (0 ≤ what ∧ what ≤ 2) ∧ r2 = -1000001 ∧ V2 = V1) ∨ ((0 ≤ what ∧ what ≤ 2) ∧ V2 17 0 = V1 17 0 ∧ V2 16 0 3 = V1 16 0 3 ∧ V2 16 0 4 = 0 ∧ V2 16 0 6 = V1 16 0 6 ∧ FRq V1 V2 ∧ ∃ (n : Nat) (res pos rea cau : Int) (s' : Int → Int), plE (V1 20 0) (V1 16 0 6) (V1 17 0) n res pos rea cau s' ∧ ((res = 1 ∧ r2 = -1000004) ∨ (res = 0 ∧ r2 = if what = 0 then pos else if what = 1 then rea else cau))))) : r2 = r ∧ LI P2 V2 (n + 1) := by
  obtain ⟨rfl, hB1, h1⟩ := h1
  obtain ⟨rfl, hB2, h2⟩ := h2
  have e6 := h.e6
  have ol := h.ol
  rcases h1 with ⟨a, e, rfl⟩ | ⟨a, hF, h13, m, res, pos, rea, cau, s', hp, hr⟩
  · rcases h2 with ⟨b, e2, rfl⟩ | ⟨b, _⟩
    · exact ⟨by omega, h.up1⟩
    · omega
  · rcases h2 with ⟨b, _⟩ | ⟨b, g17, g3, g4, g6, hG, m2, res2, pos2, rea2, cau2, s2, hp2, hr2⟩
    · omega
    · have k : ∀ r w, r ≠ 13 → r ≠ 15 → 10 ≤ r → V1 r w = V r w := fun r w a b c => hF r w (by omega) a b
      rw [k 20 0 (by decide) (by decide) (by omega), k 16 0 (by decide) (by decide) (by omega), k 17 0 (by decide) (by decide) (by omega), e6] at hp2
      have d := plE_det (plE_t ol.1 h.M h.tx hp) hp2
      refine ⟨?_, h.same9 hB2 (fun r w hr hw => ?_) ?_ ?_ ?_ ?_ g4 ?_ ?_ ?_ ?_⟩
      · rcases hr with ⟨x, y⟩ | ⟨x, y⟩ <;> rcases hr2 with ⟨x2, y2⟩ | ⟨x2, y2⟩
        · omega
        · have := d.2.1; omega
        · have := d.2.1; omega
        · have q := d.2.2.2 x
          rw [y, y2, q.1, q.2.1, q.2.2]
      · rw [hG r w (by omega) (by omega) (by omega) (by omega) (by omega), hF r w (fun z => hw z.2) (by omega) (by omega)]
      · rw [hG 11 0 (by decide) (by decide) (by decide) (by decide) (by decide), k 11 0 (by decide) (by decide) (by omega)]
      · rw [hG 13 0 (by decide) (by decide) (by decide) (by decide) (by decide), h13]
      · rw [hG 14 0 (by decide) (by decide) (by decide) (by decide) (by decide), k 14 0 (by decide) (by decide) (by omega)]
      · rw [g3, k 16 0 (by decide) (by decide) (by omega)]
      · rw [g6, k 16 0 (by decide) (by decide) (by omega)]
      · rw [g17, k 17 0 (by decide) (by decide) (by omega)]
      · rw [hG 18 0 (by decide) (by decide) (by decide) (by decide) (by decide), k 18 0 (by decide) (by decide) (by omega)]
      · rw [hG 20 0 (by decide) (by decide) (by decide) (by decide) (by decide), k 20 0 (by decide) (by decide) (by omega)]
theorem pk {P1 : Nat → Nat} {Vx V1 : Vt} {r : Int} (hF : FRd (P 1) V Vx) (kp : KP r P Vx P1 V1) : ∀ r w, 14 ≤ r → r ≠ 15 → V1 r w = V r w := fun r w hr h15 => by
  have e : Vx r w = V r w := hF r w (by omega) (by omega) h15
  rcases kp with ⟨_, _, rfl⟩ | ⟨_, _, rfl⟩
  · exact e
  · rw [kpV_r (by omega), e]
theorem st_play (h : LI P V n) {P1 P2 : Nat → Nat} {Vx V1 V2 : Vt} {r r2 : Int} {m : Nat} {res pos rea cau : Int} {s' : Int → Int} (hF : FRd (P 1) V Vx) (h13 : Vx 13 0 2 = V 13 0 2) (hp : plE (V 14 0) (V 13 0 2) (V 17 0) m res pos rea cau s') (hr : (res = 1 ∧ r = (m : Int) ∧ RW Vx (P 1) s') ∨ (res = 0 ∧ r = -1000002)) (kp : KP r P Vx P1 V1)
    (h2 : P2 = P1 ∧ BV V2 ∧ V2 16 0 4 = 0 ∧ V2 16 0 6 = V1 16 0 6 ∧ FRs V1 V2 ∧ ∃ (n : Nat) (res pos rea cau : Int) (s' : Int → Int), plE (V1 20 0) (V1 16 0 6) (V1 17 0) n res pos rea cau s' ∧ ((res = 0 ∧ r2 = -1000002 ∧ V2 17 0 = V1 17 0 ∧ V2 16 0 3 = V1 16 0 3 ∧ V2 18 0 = V1 18 0) ∨ (res = 1 ∧ r2 = (n : Int) ∧ V2 17 0 = s' ∧ V2 16 0 3 = chN V1 + 1 ∧ V2 18 0 = chP V1))) : r2 = r ∧ LI P2 V2 (n + 1) := by
  obtain ⟨rfl, hB2, g4, g6, hG, m2, res2, pos2, rea2, cau2, s2, hp2, hr2⟩ := h2
  have e6 := h.e6
  have ol := h.ol
  have k := pk hF kp
  rw [k 20 0 (by omega) (by decide), k 16 0 (by omega) (by decide), k 17 0 (by omega) (by decide), e6] at hp2
  have hm := plE_MV ol.1 h.M hp
  obtain ⟨d1, d2, d3, _⟩ := plE_det (plE_t ol.1 h.M h.tx hp) hp2
  subst d1 d2 d3
  have hx : ∀ r w, 10 ≤ r → r ≠ 13 → r ≠ 15 → Vx r w = V r w := fun r w a b c => hF r w (by omega) b c
  have hw : ∀ r w, r < 10 → w ≠ P 1 → Vx r w = V r w := fun r w hr hw => hF r w (fun z => hw z.2) (by omega) (by omega)
  rw [k 16 0 (by omega) (by decide)] at g6
  have g20 : V2 20 0 = V 20 0 := by rw [hG 20 0 (by decide) (by decide) (by decide) (by decide) (by decide) (by decide), k 20 0 (by omega) (by decide)]
  rcases hr2 with ⟨x2, y2, g17, g3, g18⟩ | ⟨x2, y2, g17, g3, g18⟩
  · rcases hr with ⟨x, _⟩ | ⟨x, y⟩
    · omega
    · rcases kp with ⟨_, rfl, rfl⟩ | ⟨z, _⟩
      · refine ⟨by omega, h.same9 hB2 (fun r w hr hq => ?_) ?_ ?_ ?_ ?_ g4 g6 ?_ ?_ g20⟩
        · rw [hG r w (by omega) (by omega) (by omega) (by omega) (by omega) (by omega), hw r w (by omega) hq]
        · rw [hG 11 0 (by decide) (by decide) (by decide) (by decide) (by decide) (by decide), hx 11 0 (by omega) (by decide) (by decide)]
        · rw [hG 13 0 (by decide) (by decide) (by decide) (by decide) (by decide) (by decide), h13]
        · rw [hG 14 0 (by decide) (by decide) (by decide) (by decide) (by decide) (by decide), hx 14 0 (by omega) (by decide) (by decide)]
        · rw [g3, hx 16 0 (by omega) (by decide) (by decide)]
        · rw [g17, hx 17 0 (by omega) (by decide) (by decide)]
        · rw [g18, hx 18 0 (by omega) (by decide) (by decide)]
      · omega
  · rcases hr with ⟨x, y, hR⟩ | ⟨x, _⟩
    · rcases kp with ⟨z, _⟩ | ⟨_, hP1, hV1⟩
      · omega
      · have cc := chN_c (V := V) (V' := V1) (by rw [k 16 0 (by omega) (by decide)]) (k 17 0 (by omega) (by decide)) (k 18 0 (by omega) (by decide))
        refine ⟨by omega, h.kept hB2 hw (hx 11 0 (by omega) (by decide) (by decide)) h13 (hx 14 0 (by omega) (by decide) (by decide)) hR hP1 hV1 (fun r w hr => hG r w (by omega) (by omega) (by omega) (by omega) (by omega) (by omega)) (by rw [g3, cc.1]) g4 g6 g17 (by rw [g18, cc.2]) g20 ?_⟩
        have := hm.2.1
        have := hm.2.2.1
        omega
    · omega
end STs
