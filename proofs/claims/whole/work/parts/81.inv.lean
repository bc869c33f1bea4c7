/-! ===== what holds between two of the law's calls ===== -/
def okP (P : Nat → Nat) : Prop := (∀ i, i < 6 → P i < 6) ∧ ∀ i j, i < 6 → j < 6 → P i = P j → i = j
theorem okP.ne {P : Nat → Nat} (h : okP P) {i j : Nat} (hi : i < 6) (hj : j < 6) (hij : i ≠ j) : P i ≠ P j := fun z => hij (h.2 i j hi hj z)
theorem okP.of {P P' : Nat → Nat} (h : okP P) (g : Nat → Nat) (e : ∀ i, i < 6 → P' i = P (g i)) (g6 : ∀ i, i < 6 → g i < 6) (gi : ∀ i j, i < 6 → j < 6 → g i = g j → i = j) : okP P' :=
  ⟨fun i hi => by rw [e i hi]; exact h.1 _ (g6 i hi), fun i j hi hj z => by
    rw [e i hi, e j hj] at z
    exact gi i j hi hj (h.2 _ _ (g6 i hi) (g6 j hj) z)⟩
/-- where the past numbered i (0: the oldest) stands -/
def psI (V : Vt) (i : Int) : Nat := 2 + ((V 11 0 1 + i) % 4).toNat
def paR (V : Vt) : Prop := ∀ j : Int, 0 ≤ j → j < 1992 → ¬ (2 ≤ j % 498 ∧ j % 498 ≤ 4) → inR (V 18 0 j)
def paW (P : Nat → Nat) (V : Vt) (n : Nat) : Prop := ∀ i : Int, 0 ≤ i → i < V 11 0 2 → RW V (P (psI V i)) (fun j => V 18 0 (498 * i + j)) ∧ V 18 0 (498 * i + 1) ≤ 1 + 100 * (n : Int)
def LI (P : Nat → Nat) (V : Vt) (n : Nat) : Prop :=
  BV V ∧ okP P ∧ (0 ≤ V 11 0 1 ∧ V 11 0 1 < 4) ∧ (0 ≤ V 11 0 2 ∧ V 11 0 2 ≤ 4) ∧ RW V (P 0) (V 17 0) ∧
  V 16 0 3 = V 11 0 2 ∧ V 16 0 4 = 0 ∧ V 16 0 6 = V 13 0 2 ∧ (0 ≤ V 13 0 2 ∧ V 13 0 2 ≤ 60) ∧ (∀ j : Int, 0 ≤ j → j < V 13 0 2 → V 14 0 j = V 20 0 j) ∧
  paW P V n ∧ paR V ∧ V 17 0 1 ≤ 1 + 100 * (n : Int)
section LIs
variable {P : Nat → Nat} {V : Vt} {n : Nat}
theorem LI.B (h : LI P V n) : BV V := h.1
theorem LI.p (h : LI P V n) : okP P := h.2.1
theorem LI.o (h : LI P V n) : 0 ≤ V 11 0 1 ∧ V 11 0 1 < 4 := h.2.2.1
theorem LI.z (h : LI P V n) : 0 ≤ V 11 0 2 ∧ V 11 0 2 ≤ 4 := h.2.2.2.1
theorem LI.R (h : LI P V n) : RW V (P 0) (V 17 0) := h.2.2.2.2.1
theorem LI.e3 (h : LI P V n) : V 16 0 3 = V 11 0 2 := h.2.2.2.2.2.1
theorem LI.e4 (h : LI P V n) : V 16 0 4 = 0 := h.2.2.2.2.2.2.1
theorem LI.e6 (h : LI P V n) : V 16 0 6 = V 13 0 2 := h.2.2.2.2.2.2.2.1
theorem LI.ol (h : LI P V n) : 0 ≤ V 13 0 2 ∧ V 13 0 2 ≤ 60 := h.2.2.2.2.2.2.2.2.1
theorem LI.tx (h : LI P V n) : ∀ j : Int, 0 ≤ j → j < V 13 0 2 → V 14 0 j = V 20 0 j := h.2.2.2.2.2.2.2.2.2.1
theorem LI.pw (h : LI P V n) : paW P V n := h.2.2.2.2.2.2.2.2.2.2.1
theorem LI.pr (h : LI P V n) : paR V := h.2.2.2.2.2.2.2.2.2.2.2.1
theorem LI.s1 (h : LI P V n) : V 17 0 1 ≤ 1 + 100 * (n : Int) := h.2.2.2.2.2.2.2.2.2.2.2.2
theorem LI.M (h : LI P V n) : MV (V 17 0) := h.R.m
theorem LI.w0 (h : LI P V n) : P 0 < 6 := h.p.1 0 (by omega)
theorem LI.w1 (h : LI P V n) : P 1 < 6 := h.p.1 1 (by omega)
theorem LI.uw (h : LI P V n) : P 0 ≠ P 1 := h.p.ne (by omega) (by omega) (by omega)
theorem LI.h5 (h : LI P V n) (hn : n ≤ 512) : inR (V 4 (P 0) 4 + 1) := by
  have h1 := h.s1
  have h2 := h.M.s1
  have h3 := h.R.n1
  omega
theorem LI.ps (h : LI P V n) : ∀ s, 0 < s → s < V 4 (P 0) 3 → 0 ≤ fnd (V 4 (P 0) 3) (fun k => V 5 (P 0) k = V 6 (P 0) s) := fun s s0 s1 => by
  have e := h.R.n0
  rw [h.R.slot, (h.R.st s (by omega) (by omega)).2]
  exact (h.M.i.2.2.2.1 s s0 (by omega)).1
theorem LI.cpR (h : LI P V n) : RW (cpW V (P 1) (P 0)) (P 1) (V 17 0) := h.R.cg (fun _ hr => cpW_s hr)
/-- what the reference's methods ask -/
def L6 (V : Vt) : Prop := BV V ∧ MV (V 17 0) ∧ (0 ≤ V 16 0 3 ∧ V 16 0 3 ≤ 4) ∧ V 16 0 4 = 0 ∧ (0 ≤ V 16 0 6 ∧ V 16 0 6 ≤ 60) ∧ paR V ∧ V 17 0 1 ≤ 1000000
theorem L6.B (h : L6 V) : BV V := h.1
theorem L6.M (h : L6 V) : MV (V 17 0) := h.2.1
theorem L6.q (h : L6 V) : 0 ≤ V 16 0 3 ∧ V 16 0 3 ≤ 4 := h.2.2.1
theorem L6.q4 (h : L6 V) : inR (V 16 0 4) := by rw [h.2.2.2.1]; omega
theorem L6.t (h : L6 V) : 0 ≤ V 16 0 6 ∧ V 16 0 6 ≤ 60 := h.2.2.2.2.1
theorem L6.pa (h : L6 V) : paR V := h.2.2.2.2.2.1
theorem L6.s (h : L6 V) : V 17 0 1 ≤ 1900000000 := by have := h.2.2.2.2.2.2; omega
theorem L6.m0 (h : L6 V) : 0 ≤ V 17 0 0 := by have := h.M.z; omega
theorem L6.m1 (h : L6 V) : V 17 0 0 ≤ 16 := h.M.z.2
theorem L6.a5 (h : L6 V) : inR (V 17 0 1 + 1) := by
  have h1 := h.2.2.2.2.2.2
  have h2 := h.M.s1
  omega
theorem LI.l6 (h : LI P V n) (hn : n ≤ 512) {V1 : Vt} (hB : BV V1) (k : ∀ r, 16 ≤ r → V1 r 0 = V r 0) : L6 V1 := by
  have h1 := h.s1
  have h3 := h.e3
  have h6 := h.e6
  have hz := h.z
  have ho := h.ol
  refine ⟨hB, by rw [k 17 (by omega)]; exact h.M, by rw [k 16 (by omega)]; omega, by rw [k 16 (by omega)]; exact h.e4, by rw [k 16 (by omega)]; omega, ?_, by rw [k 17 (by omega)]; omega⟩
  unfold paR
  rw [k 18 (by omega)]
  exact h.pr
theorem LI.up1 (h : LI P V n) : LI P V (n + 1) := by
  refine ⟨h.B, h.p, h.o, h.z, h.R, h.e3, h.e4, h.e6, h.ol, h.tx, fun i i0 i1 => ⟨(h.pw i i0 i1).1, ?_⟩, h.pr, ?_⟩
  · have := (h.pw i i0 i1).2; omega
  · have := h.s1; omega
theorem LI.same (h : LI P V n) {V2 : Vt} (hB : BV V2) (hw : ∀ r w, r < 10 → w ≠ P 1 → V2 r w = V r w) (h11 : V2 11 0 = V 11 0) (h13 : V2 13 0 2 = V 13 0 2) (h14 : V2 14 0 = V 14 0) (h3 : V2 16 0 3 = V 16 0 3) (h4 : V2 16 0 4 = 0) (h6 : V2 16 0 6 = V 16 0 6) (h17 : V2 17 0 = V 17 0) (h18 : V2 18 0 = V 18 0) (h20 : V2 20 0 = V 20 0) : LI P V2 (n + 1) := by
  have hz := h.z
  have ho := h.o
  refine ⟨hB, h.p, by rw [h11]; exact h.o, by rw [h11]; exact h.z, ?_, by rw [h3, h11]; exact h.e3, h4, by rw [h6, h13]; exact h.e6, by rw [h13]; exact h.ol, ?_, fun i i0 i1 => ?_, ?_, ?_⟩
  · rw [h17]; exact h.R.cg (fun r hr => hw r _ (by omega) h.uw)
  · rw [h13, h14, h20]; exact h.tx
  · rw [h11] at i1
    have e : psI V2 i = psI V i := by unfold psI; rw [h11]
    rw [e, h18]
    have z := h.pw i i0 i1
    refine ⟨z.1.cg (fun r hr => hw r _ (by omega) (h.p.ne ?_ (by omega) ?_)), ?_⟩
    · unfold psI; omega
    · unfold psI; omega
    · have := z.2; omega
  · unfold paR; rw [h18]; exact h.pr
  · rw [h17]; have := h.s1; omega
theorem kpP_g {P : Nat → Nat} {V : Vt} (j : Nat) : kpP P V j = P (if j = 0 then 1 else if j = 1 then 2 + (kpI V).toNat else if j = 2 + (kpI V).toNat then 0 else j) := by
  unfold kpP
  repeat' split
  all_goals rfl
theorem unP_g {P : Nat → Nat} {V : Vt} (j : Nat) : unP P V j = P (if j = 0 then 2 + (unI V).toNat else if j = 2 + (unI V).toNat then 0 else j) := by
  unfold unP
  repeat' split
  all_goals rfl
theorem kpV_r {V : Vt} {r w : Nat} (h : r ≠ 11) : kpV V r w = V r w := by
  unfold kpV
  split
  · rw [up_r h]
  · rw [up_r h]
theorem LI.kept (h : LI P V n) {Vx V1 V2 : Vt} {P1 : Nat → Nat} {s' : Int → Int} (hB : BV V2) (hw : ∀ r w, r < 10 → w ≠ P 1 → Vx r w = V r w) (h11 : Vx 11 0 = V 11 0) (h13 : Vx 13 0 2 = V 13 0 2) (h14 : Vx 14 0 = V 14 0) (hR : RW Vx (P 1) s') (hP1 : P1 = kpP P Vx) (hV1 : V1 = kpV Vx) (e : ∀ r w, r < 16 → V2 r w = V1 r w) (h3 : V2 16 0 3 = chN V + 1) (h4 : V2 16 0 4 = 0) (h6 : V2 16 0 6 = V 16 0 6) (h17 : V2 17 0 = s') (h18 : V2 18 0 = chP V) (h20 : V2 20 0 = V 20 0) (hs : s' 1 ≤ V 17 0 1 + 100) : LI P1 V2 (n + 1) := by
  have hz := h.z
  have ho := h.o
  have e3 := h.e3
  have hs1 := h.s1
  have ek : kpI Vx = (V 11 0 1 + V 11 0 2) % 4 := by unfold kpI; rw [h11]
  have ew : ∀ r w, r < 10 → V2 r w = Vx r w := fun r w hr => by rw [e r w (by omega), hV1, kpV_r (by omega)]
  have p0 : P1 0 = P 1 := by rw [hP1, kpP_g, if_pos rfl]
  have eN : chN V = if V 11 0 2 = 4 then 3 else V 11 0 2 := by unfold chN; rw [e3]
  have e11 : (V 11 0 2 < 4 ∧ V2 11 0 1 = V 11 0 1 ∧ V2 11 0 2 = V 11 0 2 + 1 ∧ chN V = V 11 0 2) ∨ (V 11 0 2 = 4 ∧ V2 11 0 1 = (V 11 0 1 + 1) % 4 ∧ V2 11 0 2 = 4 ∧ chN V = 3) := by
    rw [e 11 0 (by omega), hV1]
    unfold kpV
    rw [h11]
    by_cases hq : V 11 0 2 < 4
    · rw [if_pos hq, up_s, updI_n (by decide), updI_s]
      rw [if_neg (by omega)] at eN
      exact Or.inl ⟨hq, rfl, rfl, eN⟩
    · rw [if_neg hq, up_s, updI_s, updI_n (by decide)]
      rw [if_pos (by omega)] at eN
      exact Or.inr ⟨by omega, rfl, by omega, eN⟩
  have hc : ∀ i : Int, 0 ≤ i → i < V2 11 0 2 → (psI V2 i = 2 + (kpI Vx).toNat ∧ ∀ j : Int, 0 ≤ j → j < 498 → chP V (498 * i + j) = V 17 0 j) ∨ (∃ i' : Int, 0 ≤ i' ∧ i' < V 11 0 2 ∧ psI V2 i = psI V i' ∧ psI V2 i ≠ 2 + (kpI Vx).toNat ∧ ∀ j : Int, 0 ≤ j → j < 498 → chP V (498 * i + j) = V 18 0 (498 * i' + j)) := by
    intro i i0 i1
    unfold psI chP
    rw [ek, e3]
    rcases e11 with ⟨a, b, c, d⟩ | ⟨a, b, c, d⟩
    · rw [b, d, if_neg (show ¬ V 11 0 2 = 4 by omega)]
      by_cases hi : i = V 11 0 2
      · subst hi
        refine Or.inl ⟨rfl, fun j j0 j1 => ?_⟩
        unfold cpI
        rw [if_pos (by omega)]
        congr 1
        omega
      · refine Or.inr ⟨i, i0, by omega, rfl, by omega, fun j j0 j1 => ?_⟩
        unfold cpI
        rw [if_neg (by omega)]
    · rw [b, d, if_pos a, a]
      by_cases hi : i = 3
      · subst hi
        refine Or.inl ⟨by omega, fun j j0 j1 => ?_⟩
        unfold cpI
        rw [if_pos (by omega)]
        congr 1
        omega
      · refine Or.inr ⟨i + 1, by omega, by omega, by omega, by omega, fun j j0 j1 => ?_⟩
        unfold cpI
        rw [if_neg (by omega), if_pos (by omega)]
        congr 1
        omega
  have kb : (kpI Vx).toNat < 4 := by rw [ek]; omega
  refine ⟨hB, ?_, ?_, ?_, ?_, ?_, h4, ?_, ?_, ?_, fun i i0 i1 => ?_, ?_, ?_⟩
  · rw [hP1]
    refine h.p.of _ (fun i _ => kpP_g i) (fun i hi => ?_) (fun i j hi hj => ?_)
    · repeat' split
      all_goals omega
    · repeat' split
      all_goals omega
  · rcases e11 with ⟨_, b, _⟩ | ⟨_, b, _⟩ <;> omega
  · rcases e11 with ⟨_, _, c, _⟩ | ⟨_, _, c, _⟩ <;> omega
  · rw [p0, h17]; exact hR.cg (fun r hr => ew r _ (by omega))
  · rw [h3]
    rcases e11 with ⟨_, _, c, d⟩ | ⟨_, _, c, d⟩ <;> omega
  · rw [h6, e 13 0 (by omega), hV1, kpV_r (by decide), h13]; exact h.e6
  · rw [e 13 0 (by omega), hV1, kpV_r (by decide), h13]; exact h.ol
  · rw [e 13 0 (by omega), e 14 0 (by omega), hV1, kpV_r (by decide), kpV_r (by decide), h13, h14, h20]; exact h.tx
  · rw [h18]
    rcases hc i i0 i1 with ⟨a, b⟩ | ⟨i', a0, a1, a2, a3, b⟩
    · have ep : P1 (psI V2 i) = P 0 := by
        rw [hP1, kpP_g, a, if_neg (by omega), if_neg (by omega), if_pos rfl]
      rw [ep, b 1 (by omega) (by omega)]
      refine ⟨RW.cs (h.R.cg (fun r hr => by rw [ew r _ (by omega), hw r _ (by omega) h.uw])) (fun j j0 j1 => b j j0 j1), by omega⟩
    · have hq : psI V i' < 6 ∧ 2 ≤ psI V i' := by unfold psI; omega
      have ep : P1 (psI V2 i) = P (psI V i') := by
        rw [hP1, kpP_g, if_neg (by omega), if_neg (by omega), if_neg a3, a2]
      rw [ep, b 1 (by omega) (by omega)]
      have z := h.pw i' a0 a1
      refine ⟨RW.cs (z.1.cg (fun r hr => by rw [ew r _ (by omega), hw r _ (by omega) (h.p.ne hq.1 (by omega) (by omega))])) (fun j j0 j1 => b j j0 j1), ?_⟩
      have := z.2
      omega
  · intro j j0 j1 jm
    rw [h18]
    unfold chP
    have hd : 0 ≤ chN V ∧ chN V ≤ 3 := by rcases e11 with ⟨_, _, _, d⟩ | ⟨_, _, _, d⟩ <;> omega
    generalize hq : chN V = q at hd ⊢
    by_cases hj : 498 * q ≤ j ∧ j < 498 * q + 498
    · rw [show cpI (V 17 0) (if V 16 0 3 = 4 then cpI (V 18 0) (V 18 0) 498 0 1494 else V 18 0) 0 (498 * q) 498 j = V 17 0 (0 + (j - 498 * q)) from if_pos hj]
      exact h.B.s _ (by omega)
    · rw [show cpI (V 17 0) (if V 16 0 3 = 4 then cpI (V 18 0) (V 18 0) 498 0 1494 else V 18 0) 0 (498 * q) 498 j = (if V 16 0 3 = 4 then cpI (V 18 0) (V 18 0) 498 0 1494 else V 18 0) j from if_neg hj]
      split
      · unfold cpI
        split
        · exact h.pr _ (by omega) (by omega) (by omega)
        · exact h.pr _ j0 j1 jm
      · exact h.pr _ j0 j1 jm
  · rw [h17]; omega
theorem LI.undo (h : LI P V n) (h0 : 0 < V 11 0 2) {V2 : Vt} (hB : BV V2) (e : ∀ r w, r < 16 → V2 r w = unV V r w) (h3 : V2 16 0 3 = V 16 0 3 - 1) (h4 : V2 16 0 4 = 0) (h6 : V2 16 0 6 = V 16 0 6) (h17 : V2 17 0 = cpI (V 18 0) (V 17 0) (498 * (V 16 0 3 - 1)) 0 498) (h18 : V2 18 0 = V 18 0) (h20 : V2 20 0 = V 20 0) : LI (unP P V) V2 (n + 1) := by
  have hz := h.z
  have ho := h.o
  have e3 := h.e3
  have ek : unI V = (V 11 0 1 + (V 11 0 2 - 1)) % 4 := rfl
  have er : ∀ r w, r < 16 → r ≠ 11 → V2 r w = V r w := fun r w hr h11 => by rw [e r w hr]; unfold unV; rw [up_r h11]
  have e1 : V2 11 0 1 = V 11 0 1 := by rw [e 11 0 (by omega)]; unfold unV; rw [up_s, updI_n (by decide)]
  have e2 : V2 11 0 2 = V 11 0 2 - 1 := by rw [e 11 0 (by omega)]; unfold unV; rw [up_s, updI_s]
  have hl := h.pw (V 11 0 2 - 1) (by omega) (by omega)
  have ep : psI V (V 11 0 2 - 1) = 2 + (unI V).toNat := rfl
  have ec : ∀ j : Int, 0 ≤ j → j < 498 → V2 17 0 j = V 18 0 (498 * (V 11 0 2 - 1) + j) := fun j j0 j1 => by
    rw [h17, e3]
    unfold cpI
    rw [if_pos (by omega)]
    congr 1
    omega
  refine ⟨hB, ?_, by rw [e1]; exact ho, by omega, ?_, by rw [h3, e2, e3], h4, ?_, ?_, ?_, fun i i0 i1 => ?_, ?_, ?_⟩
  · refine h.p.of _ (fun i _ => unP_g i) (fun i hi => ?_) (fun i j hi hj => ?_)
    · repeat' split
      all_goals omega
    · repeat' split
      all_goals omega
  · rw [unP_g, if_pos rfl, ← ep]
    exact RW.cs (hl.1.cg (fun r hr => er r _ (by omega) (by omega))) (fun j j0 j1 => ec j j0 j1)
  · rw [h6, er 13 0 (by omega) (by decide)]; exact h.e6
  · rw [er 13 0 (by omega) (by decide)]; exact h.ol
  · rw [er 13 0 (by omega) (by decide), er 14 0 (by omega) (by decide), h20]; exact h.tx
  · rw [e2] at i1
    have ei : psI V2 i = psI V i := by unfold psI; rw [e1]
    have hq : psI V i < 6 ∧ 2 ≤ psI V i ∧ psI V i ≠ 2 + (unI V).toNat := by unfold psI; rw [ek]; omega
    rw [h18, ei, unP_g, if_neg (by omega), if_neg hq.2.2]
    have z := h.pw i i0 (by omega)
    refine ⟨z.1.cg (fun r hr => er r _ (by omega) (by omega)), ?_⟩
    have := z.2
    omega
  · unfold paR; rw [h18]; exact h.pr
  · rw [ec 1 (by omega) (by omega)]
    have := hl.2
    omega
theorem ck {P P1 : Nat → Nat} {V Vq V1 : Vt} {r : Int} (hF : FR (P 1) (cpW V (P 1) (P 0)) Vq) (kp : KP r P Vq P1 V1) : ∀ r w, 10 ≤ r → r ≠ 11 → V1 r w = V r w := fun r w hr h11 => by
  have e : Vq r w = V r w := by rw [hF r w (by omega), cpW_9 (by omega)]
  rcases kp with ⟨_, _, rfl⟩ | ⟨_, _, rfl⟩
  · exact e
  · rw [kpV_r h11, e]
theorem LI.change (h : LI P V n) {Vq V1 V2 : Vt} {P1 : Nat → Nat} {r : Int} {s' : Int → Int} (hF : FR (P 1) (cpW V (P 1) (P 0)) Vq) (hR : 0 ≤ r → RW Vq (P 1) s') (kp : KP r P Vq P1 V1) (hB : BV V2) (c : CHg V1 r V2) (h17 : s' = V2 17 0) (hs : V2 17 0 1 ≤ V 17 0 1 + 1) : LI P1 V2 (n + 1) := by
  have k := ck hF kp
  have hw : ∀ r w, r < 10 → w ≠ P 1 → Vq r w = V r w := fun r w hr hw => by rw [hF r w (by omega), cpW_o hw h.uw]
  have h9 : ∀ r w, 10 ≤ r → Vq r w = V r w := fun r w hr => by rw [hF r w (by omega), cpW_9 (by omega)]
  obtain ⟨ce, ⟨a, c⟩ | ⟨a, c⟩⟩ := c
  · rcases kp with ⟨_, rfl, rfl⟩ | ⟨z, _⟩
    · subst c
      refine h.same hB (fun r w hr hq => by rw [up_r (by omega), hw r w hr hq]) ?_ ?_ ?_ ?_ ?_ ?_ ?_ ?_ ?_
      all_goals rw [up_r (by decide), h9 _ _ (by omega)]
      exact h.e4
    · omega
  · rcases kp with ⟨z, _⟩ | ⟨_, rfl, rfl⟩
    · omega
    · have q16 : ∀ r w, 16 ≤ r → r ≠ 21 → (up (kpV Vq) 21 0 ce) r w = V r w := fun r w hr h21 => by rw [up_r h21, k r w (by omega) (by omega)]
      have c3 := chV_3 (V := up (kpV Vq) 21 0 ce) (by rw [q16 16 0 (by omega) (by decide)]; exact h.e4)
      have cc := chN_c (V := V) (V' := up (kpV Vq) 21 0 ce) (by rw [q16 16 0 (by omega) (by decide)]) (q16 17 0 (by omega) (by decide)) (q16 18 0 (by omega) (by decide))
      have cr : ∀ r w, r ≠ 16 → r ≠ 18 → chV (up (kpV Vq) 21 0 ce) r w = (up (kpV Vq) 21 0 ce) r w := fun r w h16 h18 => by
        unfold chV
        split
        · rw [up_r h16, up_r h18]
        · rfl
      have h17' := h17
      have x16 : V2 16 0 = chV (up (kpV Vq) 21 0 ce) 16 0 := by rw [c, up_r (by decide)]
      have x18 : V2 18 0 = chV (up (kpV Vq) 21 0 ce) 18 0 := by rw [c, up_r (by decide)]
      have x20 : V2 20 0 = V 20 0 := by rw [c, up_r (by decide), cr _ _ (by decide) (by decide), q16 20 0 (by omega) (by decide)]
      refine h.kept hB hw (h9 11 0 (by omega)) (by rw [h9 13 0 (by omega)]) (h9 14 0 (by omega)) (hR a) rfl rfl (fun r w hr => ?_) ?_ ?_ ?_ h17.symm ?_ x20 (by rw [h17]; omega)
      · rw [c, up_r (by omega), cr _ _ (by omega) (by omega), up_r (by omega)]
      · rw [x16, c3.1, cc.1]
      · rw [x16, chV_16 (by decide), q16 16 0 (by omega) (by decide)]; exact h.e4
      · rw [x16, chV_16 (by decide), q16 16 0 (by omega) (by decide)]
      · rw [x18, c3.2, cc.2]
end LIs
