/-! ===== the class between two of the law's calls ===== -/
def okP (P : Nat → Nat) : Prop := (∀ i, i < 6 → P i < 6) ∧ ∀ i j, i < 6 → j < 6 → P i = P j → i = j
theorem okP.ne {P : Nat → Nat} (h : okP P) {i j : Nat} (hi : i < 6) (hj : j < 6) (hij : i ≠ j) : P i ≠ P j := fun z => hij (h.2 i j hi hj z)
theorem okP.of {P P' : Nat → Nat} (h : okP P) (g : Nat → Nat) (e : ∀ i, i < 6 → P' i = P (g i)) (g6 : ∀ i, i < 6 → g i < 6) (gi : ∀ i j, i < 6 → j < 6 → g i = g j → i = j) : okP P' :=
  ⟨fun i hi => by rw [e i hi]; exact h.1 _ (g6 i hi), fun i j hi hj z => by
    rw [e i hi, e j hj] at z
    exact gi i j hi hj (h.2 _ _ (g6 i hi) (g6 j hj) z)⟩
def LC (P : Nat → Nat) (V : Vt) (s : Int → Int) : Prop := BV V ∧ okP P ∧ (0 ≤ V 11 0 1 ∧ V 11 0 1 < 4) ∧ (0 ≤ V 11 0 2 ∧ V 11 0 2 ≤ 4) ∧ RW V (P 0) s ∧ V 13 0 2 = 0 ∧ s 1 ≤ 1000000
section LCs
variable {P : Nat → Nat} {V : Vt} {s : Int → Int}
theorem LC.B (h : LC P V s) : BV V := h.1
theorem LC.p (h : LC P V s) : okP P := h.2.1
theorem LC.o (h : LC P V s) : 0 ≤ V 11 0 1 ∧ V 11 0 1 < 4 := h.2.2.1
theorem LC.z (h : LC P V s) : 0 ≤ V 11 0 2 ∧ V 11 0 2 ≤ 4 := h.2.2.2.1
theorem LC.R (h : LC P V s) : RW V (P 0) s := h.2.2.2.2.1
theorem LC.o0 (h : LC P V s) : V 13 0 2 = 0 := h.2.2.2.2.2.1
theorem LC.s1 (h : LC P V s) : s 1 ≤ 1000000 := h.2.2.2.2.2.2
theorem LC.M (h : LC P V s) : MV s := h.R.m
theorem LC.w0 (h : LC P V s) : P 0 < 6 := h.p.1 0 (by omega)
theorem LC.w1 (h : LC P V s) : P 1 < 6 := h.p.1 1 (by omega)
theorem LC.uw (h : LC P V s) : P 0 ≠ P 1 := h.p.ne (by omega) (by omega) (by omega)
theorem LC.h5 (h : LC P V s) : inR (V 4 (P 0) 4 + 1) := by
  have h1 := h.s1
  have h2 := h.M.s1
  have h3 := h.R.n1
  omega
theorem LC.ps (h : LC P V s) : ∀ t, 0 < t → t < V 4 (P 0) 3 → 0 ≤ fnd (V 4 (P 0) 3) (fun k => V 5 (P 0) k = V 6 (P 0) t) := fun t t0 t1 => by
  have e := h.R.n0
  rw [h.R.slot, (h.R.st t (by omega) (by omega)).2]
  exact (h.M.i.2.2.2.1 t t0 (by omega)).1
theorem LC.cpR (h : LC P V s) : RW (cpW V (P 1) (P 0)) (P 1) s := h.R.cg (fun _ hr => cpW_s hr)
theorem LC.n0 (h : LC P V s) : 0 ≤ V 4 (P 0) 3 := h.R.hn0
theorem LC.n1 (h : LC P V s) : V 4 (P 0) 3 ≤ 16 := h.R.hn1
theorem LC.L (h : LC P V s) : ∀ j, 0 ≤ V 7 (P 0) j ∧ V 7 (P 0) j < 40 := h.R.L
theorem LC.U (h : LC P V s) : ∀ j, 0 ≤ V 3 (P 0) j ∧ V 3 (P 0) j ≤ 500 := h.R.U
theorem LC.cm (h : LC P V s) : ∀ a b, 0 ≤ a → a < V 4 (P 0) 3 → 0 ≤ b → b < V 4 (P 0) 3 → 0 ≤ cmS (pS (V 4 (P 0) 3) (V 5 (P 0)) (V 6 (P 0))) 32 a b ∧ cmS (pS (V 4 (P 0) 3) (V 5 (P 0)) (V 6 (P 0))) 32 a b < V 4 (P 0) 3 := h.R.hcm
/-- the law's own writes leave the class alone -/
theorem LC.law (h : LC P V s) {V' : Vt} (hB : BV V') (e : ∀ r w, r < 16 → V' r w = V r w) : LC P V' s := by
  refine ⟨hB, h.p, ?_, ?_, h.R.cg (fun r hr => e r _ (by omega)), ?_, h.s1⟩
  · rw [e 11 0 (by omega)]; exact h.o
  · rw [e 11 0 (by omega)]; exact h.z
  · rw [e 13 0 (by omega)]; exact h.o0
end LCs
theorem kpP_g {P : Nat → Nat} {V : Vt} (j : Nat) : kpP P V j = P (if j = 0 then 1 else if j = 1 then 2 + (kpI V).toNat else if j = 2 + (kpI V).toNat then 0 else j) := by
  unfold kpP
  repeat' split
  all_goals rfl
theorem kpV_r {V : Vt} {r w : Nat} (h : r ≠ 11) : kpV V r w = V r w := by
  unfold kpV
  split
  · rw [up_r h]
  · rw [up_r h]
/-- a call of the class that may change it -/
theorem LC.change {P P1 : Nat → Nat} {V Vq V1 : Vt} {s s' : Int → Int} {r : Int} (h : LC P V s) (hF : FR (P 1) (cpW V (P 1) (P 0)) Vq) (hR : 0 ≤ r → RW Vq (P 1) s') (hn : r < 0 → s' = s) (kp : KP r P Vq P1 V1) (hB : BV V1) (hs : s' 1 ≤ 1000000) : LC P1 V1 s' ∧ ∀ r w, 16 ≤ r → V1 r w = V r w := by
  have hw : ∀ r w, r < 10 → w ≠ P 1 → Vq r w = V r w := fun r w hr hw => by rw [hF r w (by omega), cpW_o hw h.uw]
  have h9 : ∀ r w, 10 ≤ r → Vq r w = V r w := fun r w hr => by rw [hF r w (by omega), cpW_9 (by omega)]
  have ho := h.o
  have hz := h.z
  rcases kp with ⟨a, rfl, rfl⟩ | ⟨a, rfl, rfl⟩
  · refine ⟨⟨hB, h.p, by rw [h9 11 0 (by omega)]; exact ho, by rw [h9 11 0 (by omega)]; exact hz, ?_, by rw [h9 13 0 (by omega)]; exact h.o0, hs⟩, fun r w hr => h9 r w (by omega)⟩
    rw [hn a]
    exact h.R.cg (fun r hr => hw r _ (by omega) h.uw)
  · have e11 := h9 11 0 (by omega)
    have ek : kpI Vq = (V 11 0 1 + V 11 0 2) % 4 := by unfold kpI; rw [e11]
    have q11 : (0 ≤ kpV Vq 11 0 1 ∧ kpV Vq 11 0 1 < 4) ∧ (0 ≤ kpV Vq 11 0 2 ∧ kpV Vq 11 0 2 ≤ 4) := by
      unfold kpV
      rw [e11]
      split
      · rw [up_s, updI_n (by decide), updI_s]; omega
      · rw [up_s, updI_s, updI_n (by decide)]; omega
    refine ⟨⟨hB, ?_, q11.1, q11.2, ?_, by rw [kpV_r (by decide), h9 13 0 (by omega)]; exact h.o0, hs⟩, fun r w hr => by rw [kpV_r (by omega), h9 r w (by omega)]⟩
    · refine h.p.of _ (fun i _ => kpP_g i) (fun i hi => ?_) (fun i j hi hj => ?_)
      · repeat' split
        all_goals omega
      · repeat' split
        all_goals omega
    · rw [kpP_g, if_pos rfl]
      exact (hR a).cg (fun r hr => kpV_r (by omega))
theorem trS_neg {s ce s' : Int → Int} {b r : Int} (hM : MV s) (g : trS s ce b r s') (hr : r < 0) : s' = s := by
  rcases g with ⟨_, _, rfl⟩ | ⟨_, e, _⟩
  · rfl
  · have := hM.s1; omega
section LOs
variable {P P1 : Nat → Nat} {V V1 : Vt} {s : Int → Int} {r : Int}
theorem o_fill (h : LC P V s) {b c m v : Int} (hs : s 1 < 1000000) (g : BV V1 ∧ ∃ Vt, FR (P 1) (cpW V (P 1) (P 0)) Vt ∧ fillQ (cpW V (P 1) (P 0)) (P 1) b c m v r Vt ∧ KP r P Vt P1 V1) : ∃ s', qFi s b c m v r s' ∧ LC P1 V1 s' ∧ ∀ r w, 16 ≤ r → V1 r w = V r w := by
  obtain ⟨hB, Vq, hF, hq, kp⟩ := g
  obtain ⟨s', q, hR⟩ := fillQ_sim h.cpR hq
  have hm := (qFi_MV h.M q).2
  refine ⟨s', q, h.change hF hR (fun z => ?_) kp hB (by omega)⟩
  rcases q with ⟨_, _, e⟩ | ⟨_, e⟩
  · exact e
  · exact trS_neg h.M e z
theorem o_copy (h : LC P V s) {b x c d m : Int} (hs : s 1 < 1000000) (g : BV V1 ∧ ∃ Vt, FR (P 1) (cpW V (P 1) (P 0)) Vt ∧ copyQ (cpW V (P 1) (P 0)) (P 1) b x c d m r Vt ∧ KP r P Vt P1 V1) : ∃ s', qCo s b x c d m r s' ∧ LC P1 V1 s' ∧ ∀ r w, 16 ≤ r → V1 r w = V r w := by
  obtain ⟨hB, Vq, hF, hq, kp⟩ := g
  obtain ⟨s', q, hR⟩ := copyQ_sim h.cpR hq
  have hm := (qCo_MV h.M q).2
  refine ⟨s', q, h.change hF hR (fun z => ?_) kp hB (by omega)⟩
  rcases q with ⟨_, _, e⟩ | ⟨_, e⟩
  · exact e
  · exact trS_neg h.M e z
theorem mgN_nn {s : Int → Int} {b x : Int} : 0 ≤ mgN s b x := sm_nn (fun j _ _ => (b2i_b _).1)
theorem o_merge (h : LC P V s) {b x : Int} (hs : s 1 < 1000000) (g : BV V1 ∧ ∃ Vt, FR (P 1) (cpW V (P 1) (P 0)) Vt ∧ mergeQ (cpW V (P 1) (P 0)) (P 1) b x r Vt ∧ KP r P Vt P1 V1) : ∃ s', qMe s b x r s' ∧ LC P1 V1 s' ∧ ∀ r w, 16 ≤ r → V1 r w = V r w := by
  obtain ⟨hB, Vq, hF, hq, kp⟩ := g
  obtain ⟨s', q, hR⟩ := mergeQ_sim h.cpR hq
  have hm := (qMe_MV h.M q).2
  refine ⟨s', q, h.change hF hR (fun z => ?_) kp hB (by omega)⟩
  rcases q with ⟨_, _, e⟩ | ⟨_, ra, sa, t, ⟨a, e1, e2⟩ | ⟨a, e1, e2⟩⟩
  · exact e
  · rw [e2]; exact trS_neg h.M t a
  · have := mgN_nn (s := s) (b := b) (x := x); omega
theorem o_branch (h : LC P V s) {x : Int} (hs : s 1 < 1000000) (g : BV V1 ∧ ∃ Vt, FR (P 1) (cpW V (P 1) (P 0)) Vt ∧ addBQ (cpW V (P 1) (P 0)) (P 1) x r Vt ∧ KP r P Vt P1 V1) : ∃ s', qBr s x r s' ∧ LC P1 V1 s' ∧ ∀ r w, 16 ≤ r → V1 r w = V r w := by
  obtain ⟨hB, Vq, hF, hq, kp⟩ := g
  obtain ⟨s', q, hR⟩ := addBQ_sim h.cpR hq
  have hm := (qBr_MV h.M q).2
  refine ⟨s', q, h.change hF hR (fun z => ?_) kp hB (by omega)⟩
  rcases q with ⟨_, _, e⟩ | ⟨_, _, _, e⟩ | ⟨_, a, e, _⟩
  · exact e
  · exact e
  · omega
theorem o_leave (h : LC P V s) {b : Int} (hs : s 1 < 1000000) (g : BV V1 ∧ ∃ Vt, FR (P 1) (cpW V (P 1) (P 0)) Vt ∧ dropQ (cpW V (P 1) (P 0)) (P 1) b r Vt ∧ KP r P Vt P1 V1) : ∃ s', qLe s b r s' ∧ LC P1 V1 s' ∧ ∀ r w, 16 ≤ r → V1 r w = V r w := by
  obtain ⟨hB, Vq, hF, hq, kp⟩ := g
  obtain ⟨s', q, hR⟩ := dropQ_sim h.cpR hq
  have hm := (qLe_MV h.M q).2
  refine ⟨s', q, h.change hF hR (fun z => ?_) kp hB (by omega)⟩
  rcases q with ⟨_, _, e⟩ | ⟨_, _, _, e⟩ | ⟨_, _, _, e⟩
  · exact e
  · exact e
  · have := sm_nn (n := 4) (f := fun d => b2i (0 ≤ mh s' d)) (fun j _ _ => (b2i_b _).1); omega
theorem o_back (h : LC P V s) {b : Int} (hs : s 1 < 1000000) (g : BV V1 ∧ ∃ Vt, FR (P 1) (cpW V (P 1) (P 0)) Vt ∧ backQ (cpW V (P 1) (P 0)) (P 1) b r Vt ∧ KP r P Vt P1 V1) : ∃ s', qBa s b r s' ∧ LC P1 V1 s' ∧ ∀ r w, 16 ≤ r → V1 r w = V r w := by
  obtain ⟨hB, Vq, hF, hq, kp⟩ := g
  obtain ⟨s', q, hR⟩ := backQ_sim h.cpR hq
  have hm := (qBa_MV h.M q).2
  refine ⟨s', q, h.change hF hR (fun z => ?_) kp hB (by omega)⟩
  rcases q with ⟨_, _, e⟩ | ⟨_, _, _, e⟩ | ⟨hb, h0, e, _⟩
  · exact e
  · exact e
  · have hsl := hb.sl h.M
    have hd := h.M.i.par hsl.1 (by have := hb.2.2; omega)
    have := (h.M.i.nn hd.1).1
    omega
theorem o_forget (h : LC P V s) {x : Int} (hs : s 1 < 1000000) (g : BV V1 ∧ ∃ Vt, FR (P 1) (cpW V (P 1) (P 0)) Vt ∧ forgetQ (cpW V (P 1) (P 0)) (P 1) x r Vt ∧ KP r P Vt P1 V1) : ∃ s', qFo s x r s' ∧ LC P1 V1 s' ∧ ∀ r w, 16 ≤ r → V1 r w = V r w := by
  obtain ⟨hB, Vq, hF, hq, kp⟩ := g
  obtain ⟨s', q, hR⟩ := forgetQ_sim h.cpR hq
  have hm := (qFo_MV h.M q).2
  refine ⟨s', q, h.change hF hR (fun z => ?_) kp hB (by omega)⟩
  rcases q with ⟨_, _, e⟩ | ⟨_, _, _, e⟩ | ⟨_, _, e, _⟩
  · exact e
  · exact e
  · have := sm_nn (n := 40) (f := fun b => b2i (mf (fgX s x) b = 1 ∧ pwM (fgX s x) b = 0)) (fun j _ _ => (b2i_b _).1); omega
theorem o_share (h : LC P V s) (hs : s 1 < 1000000) (g : BV V1 ∧ ∃ Vt, FR (P 1) (cpW V (P 1) (P 0)) Vt ∧ shareQ (cpW V (P 1) (P 0)) (P 1) r Vt ∧ KP r P Vt P1 V1) : ∃ s', qSh s r s' ∧ LC P1 V1 s' ∧ ∀ r w, 16 ≤ r → V1 r w = V r w := by
  obtain ⟨hB, Vq, hF, hq, kp⟩ := g
  obtain ⟨s', q, hR⟩ := shareQ_sim h.cpR hq
  have hm := (qSh_MV h.M q).2
  refine ⟨s', q, h.change hF hR (fun z => ?_) kp hB (by omega)⟩
  have := sm_nn (n := 40) (f := fun b => b2i (mf (shX s) b = 1 ∧ pwM (shX s) b = 0)) (fun j _ _ => (b2i_b _).1)
  have := q.1
  omega
theorem o_set (h : LC P V s) {a v : Int} (hs : s 1 < 1000000) (g : BV V1 ∧ ∃ Vt, FR (P 1) (cpW V (P 1) (P 0)) Vt ∧ setQ (cpW V (P 1) (P 0)) (P 1) a v r Vt ∧ KP r P Vt P1 V1) : ∃ s', qSe s a v r s' ∧ LC P1 V1 s' ∧ ∀ r w, 16 ≤ r → V1 r w = V r w := by
  obtain ⟨hB, Vq, hF, hq, kp⟩ := g
  obtain ⟨s', q, hR⟩ := setQ_sim h.cpR hq
  have hm := (qSe_MV h.M q).2
  refine ⟨s', q, h.change hF hR (fun z => ?_) kp hB (by omega)⟩
  rcases q with ⟨_, _, e⟩ | ⟨_, e, _⟩
  · exact e
  · have := h.M.g; omega
end LOs
