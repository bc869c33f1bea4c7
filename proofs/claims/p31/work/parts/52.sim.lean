/-! ===== steps over the reference's numbers; a world of the class beside them ===== -/
def trS (s ce : Int → Int) (b r : Int) (s' : Int → Int) : Prop := (¬ FITm s ce b ∧ r = -1000003 ∧ s' = s) ∨ (FITm s ce b ∧ r = s 1 ∧ ∃ s6, wrC ce (mS s (mh s b)) (s 0) (wr0 s b) 6 s6 ∧ s' = wr9 s6 b (s 1))
theorem trS_det {s ce s1 s2 : Int → Int} {b r1 r2 : Int} (h1 : trS s ce b r1 s1) (h2 : trS s ce b r2 s2) : r1 = r2 ∧ s1 = s2 := by
  rcases h1 with ⟨a, rfl, rfl⟩ | ⟨a, rfl, s6, c, rfl⟩
  · rcases h2 with ⟨_, rfl, rfl⟩ | ⟨b, _⟩
    · exact ⟨rfl, rfl⟩
    · exact absurd b a
  · rcases h2 with ⟨b, _⟩ | ⟨_, rfl, t6, d, rfl⟩
    · exact absurd a b
    · rw [wrC_det c d]; exact ⟨rfl, rfl⟩
theorem trS_ce {s ce ce' s' : Int → Int} {b r : Int} (h : ∀ c, 0 ≤ c → c < 48 → ce c = ce' c) (g : trS s ce b r s') : trS s ce' b r s' := by
  rcases g with ⟨a, e, f⟩ | ⟨a, e, s6, c, f⟩
  · exact Or.inl ⟨fun z => a ((FITm_ce h).mpr z), e, f⟩
  · exact Or.inr ⟨(FITm_ce h).mp a, e, s6, wrC_ce h (by omega) c, f⟩
theorem MV.s1 {s : Int → Int} (h : MV s) : 1 ≤ s 1 := by
  have := h.n 0 (by omega) (by have := h.z; omega)
  have := h.i.1
  omega
theorem trS_MV {s ce s' : Int → Int} {b r : Int} (hM : MV s) (b0 : 0 ≤ b) (b1 : b < 4) (hh : 0 ≤ mh s b) (g : trS s ce b r s') : MV s' ∧ s' 1 ≤ s 1 + 1 := by
  rcases g with ⟨_, _, rfl⟩ | ⟨a, _, s6, c, rfl⟩
  · exact ⟨hM, by omega⟩
  · have hW : WB s b := ⟨hM, a.1, b0, b1, hh⟩
    exact ⟨MV_wr hW c, by have := (wr_out hW c).2.1; omega⟩
/-- a world of the class says the same as the reference's numbers -/
def RW (V : Vt) (w : Nat) (s : Int → Int) : Prop := MV s ∧ V 4 w 3 = s 0 ∧ V 4 w 4 = s 1 ∧ V 1 w 2 = s 2 ∧ V 1 w 3 = s 3 ∧ V 0 w 5 = s 4 ∧ V 0 w 4 = s 5 ∧ (∀ b, 0 ≤ b → b < 4 → V 8 w b = mh s b) ∧
  (∀ k, 0 ≤ k → k < s 0 → V 5 w k = mo s k 0 ∧ V 6 w k = mo s k 1) ∧ (∀ k p, 0 ≤ k → k < s 0 → 0 ≤ p → p < 6 → V 7 w (k * 6 + p) = mo s k (2 + p)) ∧
  (∀ b c, 0 ≤ b → b < 40 → 0 ≤ c → c < 8 → V 2 w (b * 8 + c) = mb s b c) ∧ (∀ b, 0 ≤ b → b < 40 → V 3 w b = pwM s b) ∧ (∀ j, ¬ (0 ≤ j ∧ j < 40) → V 3 w j = 0) ∧ (∀ j, 0 ≤ V 7 w j ∧ V 7 w j < 40)
section RWs
variable {V : Vt} {w : Nat} {s : Int → Int}
theorem RW.m (h : RW V w s) : MV s := h.1
theorem RW.n0 (h : RW V w s) : V 4 w 3 = s 0 := h.2.1
theorem RW.n1 (h : RW V w s) : V 4 w 4 = s 1 := h.2.2.1
theorem RW.c2 (h : RW V w s) : V 1 w 2 = s 2 := h.2.2.2.1
theorem RW.c3 (h : RW V w s) : V 1 w 3 = s 3 := h.2.2.2.2.1
theorem RW.c4 (h : RW V w s) : V 0 w 5 = s 4 := h.2.2.2.2.2.1
theorem RW.c5 (h : RW V w s) : V 0 w 4 = s 5 := h.2.2.2.2.2.2.1
theorem RW.hd (h : RW V w s) : ∀ b, 0 ≤ b → b < 4 → V 8 w b = mh s b := h.2.2.2.2.2.2.2.1
theorem RW.st (h : RW V w s) : ∀ k, 0 ≤ k → k < s 0 → V 5 w k = mo s k 0 ∧ V 6 w k = mo s k 1 := h.2.2.2.2.2.2.2.2.1
theorem RW.pl (h : RW V w s) : ∀ k p, 0 ≤ k → k < s 0 → 0 ≤ p → p < 6 → V 7 w (k * 6 + p) = mo s k (2 + p) := h.2.2.2.2.2.2.2.2.2.1
theorem RW.bc (h : RW V w s) : ∀ b c, 0 ≤ b → b < 40 → 0 ≤ c → c < 8 → V 2 w (b * 8 + c) = mb s b c := h.2.2.2.2.2.2.2.2.2.2.1
theorem RW.us (h : RW V w s) : ∀ b, 0 ≤ b → b < 40 → V 3 w b = pwM s b := h.2.2.2.2.2.2.2.2.2.2.2.1
theorem RW.uo (h : RW V w s) : ∀ j, ¬ (0 ≤ j ∧ j < 40) → V 3 w j = 0 := h.2.2.2.2.2.2.2.2.2.2.2.2.1
theorem RW.L (h : RW V w s) : ∀ j, 0 ≤ V 7 w j ∧ V 7 w j < 40 := h.2.2.2.2.2.2.2.2.2.2.2.2.2
theorem RW.hn0 (h : RW V w s) : 0 ≤ V 4 w 3 := by rw [h.n0]; have := h.m.z; omega
theorem RW.hn1 (h : RW V w s) : V 4 w 3 ≤ 16 := by rw [h.n0]; exact h.m.z.2
theorem RW.U (h : RW V w s) : ∀ j, 0 ≤ V 3 w j ∧ V 3 w j ≤ 500 := fun j => by
  by_cases hj : 0 ≤ j ∧ j < 40
  · rw [h.us j hj.1 hj.2]
    have := pwM_bd s j (by have := h.m.z; omega) h.m.z.2
    omega
  · rw [h.uo j hj]; omega
theorem RW.cg {V' : Vt} {w' : Nat} (h : RW V w s) (e : ∀ r, r < 9 → V' r w' = V r w) : RW V' w' s := by
  have e0 := e 0 (by omega)
  have e1 := e 1 (by omega)
  have e2 := e 2 (by omega)
  have e3 := e 3 (by omega)
  have e4 := e 4 (by omega)
  have e5 := e 5 (by omega)
  have e6 := e 6 (by omega)
  have e7 := e 7 (by omega)
  have e8 := e 8 (by omega)
  unfold RW
  rw [e0, e1, e2, e3, e4, e5, e6, e7, e8]
  exact h
theorem RW.slot (h : RW V w s) (x : Int) : fnd (V 4 w 3) (fun k => V 5 w k = x) = mS s x := by
  rw [h.n0]
  exact fnd_congr (fun j a b => by rw [(h.st j a b).1])
/-- a branch is there -/
def ISb (s : Int → Int) (b : Int) : Prop := 0 ≤ b ∧ b ≤ 3 ∧ 0 ≤ mh s b
theorem RW.b_iff (h : RW V w s) (b : Int) : (0 ≤ b ∧ b < 4 ∧ ¬ V 8 w b = -1) ↔ ISb s b := by
  unfold ISb
  constructor
  · rintro ⟨a, c, d⟩
    rw [h.hd b a c] at d
    rcases h.m.h b a c with z | z
    · exact absurd z d
    · exact ⟨a, by omega, z.1⟩
  · rintro ⟨a, c, d⟩
    exact ⟨a, by omega, by rw [h.hd b a (by omega)]; omega⟩
theorem RW.hs_t (h : RW V w s) {b : Int} (hb : ISb s b) : hdS (V 4 w 3) (V 5 w) (V 8 w) b = mS s (mh s b) := by
  rw [hdS_t ((h.b_iff b).mpr hb), h.hd b hb.1 (by have := hb.2.1; omega)]
  exact h.slot _
theorem RW.hs_f (h : RW V w s) {b : Int} (hb : ¬ ISb s b) : hdS (V 4 w 3) (V 5 w) (V 8 w) b = -1 := hdS_f (fun z => hb ((h.b_iff b).mp z))
theorem ISb.sl (hM : MV s) {b : Int} (hb : ISb s b) : 0 ≤ mS s (mh s b) ∧ mS s (mh s b) < s 0 ∧ mo s (mS s (mh s b)) 0 = mh s b := by
  have z : 0 ≤ mS s (mh s b) := by
    have := hM.h b hb.1 (by have := hb.2.1; omega)
    have := hb.2.2
    omega
  exact ⟨z, mS_in z⟩
theorem RW.hs_iff (h : RW V w s) (b : Int) : 0 ≤ hdS (V 4 w 3) (V 5 w) (V 8 w) b ↔ ISb s b := by
  by_cases hb : ISb s b
  · rw [h.hs_t hb]; exact ⟨fun _ => hb, fun _ => (ISb.sl h.m hb).1⟩
  · rw [h.hs_f hb]; exact ⟨fun z => by omega, fun z => absurd z hb⟩
theorem RW.cell (h : RW V w s) {k c : Int} (k0 : 0 ≤ k) (k1 : k < s 0) (c0 : 0 ≤ c) (c1 : c < 48) : cA (V 2 w) (V 7 w) k c = mc s k c := by
  have hz := h.m.z
  have hl := h.m.l k (c / 8) k0 (by omega) (by omega) (by omega)
  show V 2 w (V 7 w (k * 6 + c / 8) * 8 + c % 8) = _
  rw [h.pl k (c / 8) k0 k1 (by omega) (by omega), h.bc _ _ hl.1 hl.2 (by omega) (by omega)]
  rfl
theorem RW.psl (h : RW V w s) {k : Int} (k0 : 0 ≤ k) (k1 : k < s 0) : pS (V 4 w 3) (V 5 w) (V 6 w) k = mS s (mo s k 1) := by
  show fnd (V 4 w 3) (fun j => V 5 w j = V 6 w k) = _
  rw [(h.st k k0 k1).2]; exact h.slot _
end RWs
/-! the class's walk of a write, beside the reference's -/
def JC (V : Vt) (w : Nat) (s : Int → Int) (p : Nat) (sp : Int → Int) (Vp : Vt) : Prop :=
  (∀ r, r ≠ 1 → r ≠ 2 → r ≠ 3 → r ≠ 7 → Vp r w = V r w) ∧ Vp 1 w 2 = sp 2 ∧ Vp 1 w 3 = sp 3 ∧
  (∀ d c, 0 ≤ d → d < 40 → 0 ≤ c → c < 8 → Vp 2 w (d * 8 + c) = mb sp d c) ∧
  (∀ d, 0 ≤ d → d < 40 → Vp 3 w d = pwM s d + sm (p : Int) (fun q => b2i (mo sp (s 0) (2 + q) = d))) ∧ (∀ j, ¬ (0 ≤ j ∧ j < 40) → Vp 3 w j = 0) ∧
  (∀ j, j < s 0 * 6 ∨ s 0 * 6 + (p : Int) ≤ j → Vp 7 w j = V 7 w j) ∧ (∀ q, 0 ≤ q → q < (p : Int) → Vp 7 w (s 0 * 6 + q) = mo sp (s 0) (2 + q)) ∧ (∀ j, 0 ≤ Vp 7 w j ∧ Vp 7 w j < 40)
theorem JC_put {V V1 : Vt} {w : Nat} {s s1 : Int → Int} {p : Nat} {x : Int} (hn : V 4 w 3 = s 0) (z0 : 0 ≤ s 0) (z1 : s 0 ≤ 15) (hp : p < 6) (x0 : 0 ≤ x) (x1 : x < 40) (h : JC V w s p s1 V1) : JC V w s (p + 1) (updI s1 (10 + 8 * s 0 + 2 + (p : Int)) x) (adPut V1 w (p : Int) x) := by
  obtain ⟨h1, h2, h3, h4, h5, h6, h7, h8, h9⟩ := h
  have hc : ((p + 1 : Nat) : Int) = (p : Int) + 1 := rfl
  have e4 : V1 4 w 3 = s 0 := by rw [h1 4 (by decide) (by decide) (by decide) (by decide)]; exact hn
  have r3 : adPut V1 w (p : Int) x 3 w = updI (V1 3 w) x (V1 3 w x + 1) := by
    unfold adPut; rw [up_r (by decide), up_s]
  have r7 : adPut V1 w (p : Int) x 7 w = updI (V1 7 w) (s 0 * 6 + (p : Int)) x := by
    unfold adPut; rw [up_s, e4]
  have ro : ∀ r, r ≠ 3 → r ≠ 7 → adPut V1 w (p : Int) x r w = V1 r w := fun r a b => by
    unfold adPut; rw [up_r b, up_r a]
  refine ⟨fun r a b c d => ?_, ?_, ?_, fun d c d0 d1 c0 c1 => ?_, fun d d0 d1 => ?_, fun j hj => ?_, fun j hj => ?_, fun q q0 q1 => ?_, fun j => ?_⟩
  · rw [ro r c d]; exact h1 r a b c d
  · rw [ro 1 (by decide) (by decide), updI_n (by omega)]; exact h2
  · rw [ro 1 (by decide) (by decide), updI_n (by omega)]; exact h3
  · rw [ro 2 (by decide) (by decide), mb_put z0 z1 (by omega) (by omega) d0 c0]; exact h4 d c d0 d1 c0 c1
  · have es : sm (p : Int) (fun q => b2i (mo (updI s1 (10 + 8 * s 0 + 2 + (p : Int)) x) (s 0) (2 + q) = d)) = sm (p : Int) (fun q => b2i (mo s1 (s 0) (2 + q) = d)) := sm_congr (fun q q0 q1 => by rw [mo_put_n (by omega)])
    rw [r3, hc, sm_s (by omega), es, mo_put_s]
    by_cases e : d = x
    · subst e
      rw [updI_s, b2i_t rfl, h5 d d0 d1]; omega
    · rw [updI_n e, b2i_f (fun z => e z.symm), h5 d d0 d1]; omega
  · rw [r3, updI_n (by omega)]; exact h6 j hj
  · rw [r7, updI_n (by omega)]; exact h7 j (by omega)
  · rw [r7]
    rcases Int.lt_or_le q (p : Int) with q2 | q2
    · rw [updI_n (by omega), mo_put_n (by omega)]; exact h8 q q0 q2
    · have e : q = (p : Int) := by omega
      subst e
      rw [updI_s, mo_put_s]
  · rw [r7]
    rcases updI_b (f := V1 7 w) (i := s 0 * 6 + (p : Int)) (x := x) j with z | z <;> rw [z]
    · exact h9 j
    · exact ⟨x0, x1⟩
theorem JC_live {V Vp : Vt} {w : Nat} {s s0 ce sp : Int → Int} {fr : Int} {p : Nat} (hM : MV s) (hJ : JW s s0 ce fr (s 0) p sp) (h : JC V w s p sp Vp) {d : Int} (d0 : 0 ≤ d) (d1 : d < 40) : Vp 3 w d ≠ 0 ↔ mf sp d = 1 := by
  have n1 := pwM_nn (s := s) (b := d)
  have n2 := sm_b2i_pos (n := (p : Int)) (p := fun q => mo sp (s 0) (2 + q) = d)
  have n3 := sm_nn (n := (p : Int)) (f := fun q => b2i (mo sp (s 0) (2 + q) = d)) (fun j _ _ => (b2i_b _).1)
  rw [h.2.2.2.2.1 d d0 d1]
  constructor
  · intro g
    rcases Int.lt_or_le 0 (pwM s d) with z | z
    · exact (hJ.2.2.1 d d0 d1 ((hM.p d0 d1).mpr z)).1
    · obtain ⟨q, q0, q1, hq⟩ := n2.mp (by omega)
      rw [← hq]; exact (hJ.2.2.2.2.1 q q0 q1).2.2.1
  · intro g
    rcases hJ.2.2.2.1 d d0 d1 g with z | ⟨q, q0, q1, -, hq, -⟩
    · have := (hM.p d0 d1).mp z
      omega
    · have := n2.mpr ⟨q, q0, q1, hq⟩
      omega
/-- what both walks see at a place is the same -/
theorem JC_see {V Vp : Vt} {w : Nat} {s ce sp : Int → Int} {b : Int} {p : Nat} (hR : RW V w s) (hW : WB s b) (hD : ∀ c, 0 ≤ c → c < 48 → V 9 w c = ce c) (hJ : JW s (wr0 s b) ce (mS s (mh s b)) (s 0) p sp) (h : JC V w s p sp Vp) (hp : p < 6) :
    Vp 7 w (mS s (mh s b) * 6 + (p : Int)) = mo sp (mS s (mh s b)) (2 + (p : Int)) ∧ (adSame Vp w (mS s (mh s b)) (p : Int) ↔ ¬ DFm sp ce (mS s (mh s b)) (p : Int)) ∧ adF Vp w (p : Int) = FDm sp ce (p : Int) ∧ Vp 0 w 4 = sp 5 := by
  have hf := hW.fr
  have hz := hW.1.z
  have e9 : Vp 9 w = V 9 w := h.1 9 (by decide) (by decide) (by decide) (by decide)
  have em : mo sp (mS s (mh s b)) (2 + (p : Int)) = mo s (mS s (mh s b)) (2 + (p : Int)) := by rw [hJ.mo_fr hf.1 hf.2.1 (by omega) (by omega), hW.hs _ (by omega) (by omega)]
  have e7 : Vp 7 w (mS s (mh s b) * 6 + (p : Int)) = mo sp (mS s (mh s b)) (2 + (p : Int)) := by
    rw [h.2.2.2.2.2.2.1 _ (by omega), hR.pl _ _ hf.1 hf.2.1 (by omega) (by omega), em]
  have hl := hW.hl (p : Int) (by omega) (by omega)
  rw [← em] at hl
  refine ⟨e7, ?_, ?_, ?_⟩
  · unfold adSame
    rw [e7, e9]
    generalize hx : mo sp (mS s (mh s b)) (2 + (p : Int)) = x at hl ⊢
    have hlive : mf sp x = 1 := (hJ.2.2.1 x hl.1 hl.2.1 hl.2.2).1
    have hmc : ∀ i, 0 ≤ i → i < 8 → mc sp (mS s (mh s b)) (8 * (p : Int) + i) = mb sp x i := fun i i0 i1 => by
      unfold mc
      rw [show (8 * (p : Int) + i) / 8 = (p : Int) by omega, show (8 * (p : Int) + i) % 8 = i by omega, hx]
    constructor
    · rintro ⟨-, he⟩ ⟨c, c0, c1, cn⟩
      obtain ⟨i, hi⟩ : ∃ i, c = 8 * (p : Int) + i := ⟨c - 8 * (p : Int), by omega⟩
      subst hi
      have z := he i (by omega) (by omega)
      rw [h.2.2.2.1 x i hl.1 hl.2.1 (by omega) (by omega), hD _ (by omega) (by omega)] at z
      rw [hmc i (by omega) (by omega), z] at cn
      exact cn (by congr 1; omega)
    · intro hn
      refine ⟨(JC_live hW.1 hJ h hl.1 hl.2.1).mpr hlive, fun i i0 i1 => Classical.byContradiction fun z => hn ⟨8 * (p : Int) + i, by omega, by omega, fun y => z ?_⟩⟩
      rw [h.2.2.2.1 x i hl.1 hl.2.1 i0 i1, hD _ (by omega) (by omega), ← hmc i i0 i1, ← y]
      congr 1; omega
  · unfold adF FDm
    refine fnd_congr (fun d d0 d1 => ?_)
    rw [e9]
    constructor
    · rintro ⟨a, g⟩
      refine ⟨d0, by omega, (JC_live hW.1 hJ h d0 d1).mp a, fun c c0 c1 => ?_⟩
      have z := g c c0 c1
      rw [h.2.2.2.1 d c d0 d1 c0 c1, hD _ (by omega) (by omega)] at z
      rw [z]; congr 1; omega
    · rintro ⟨-, -, a, g⟩
      refine ⟨(JC_live hW.1 hJ h d0 d1).mpr a, fun c c0 c1 => ?_⟩
      rw [h.2.2.2.1 d c d0 d1 c0 c1, hD _ (by omega) (by omega), g c c0 c1]
      congr 1; omega
  · rw [h.1 0 (by decide) (by decide) (by decide) (by decide), hR.c5, hJ.1 5 (by omega), wr0_e (by omega) (by omega)]
theorem JC_s {V Vp V' : Vt} {w : Nat} {s ce sp : Int → Int} {b : Int} {p : Nat} (hR : RW V w s) (hW : WB s b) (hD : ∀ c, 0 ≤ c → c < 48 → V 9 w c = ce c) (hJ : JW s (wr0 s b) ce (mS s (mh s b)) (s 0) p sp) (h : JC V w s p sp Vp) (hp : p < 6) (ha : adR w (mS s (mh s b)) Vp p V') :
    ∃ s', wrR ce (mS s (mh s b)) (s 0) sp p s' ∧ JC V w s (p + 1) s' V' := by
  obtain ⟨e7, eS, eF, e5⟩ := JC_see hR hW hD hJ h hp
  have hf := hW.fr
  have hz := hW.1.z
  have h16 := hW.2.1
  have hl := h.2.2.2.2.2.2.2.2
  rcases ha with ⟨a, rfl⟩ | ⟨a, a5, a0, rfl⟩ | ⟨a, an, r, r0, r1, ru, rl, rfl⟩
  · rw [e7]
    have hx := hl (mS s (mh s b) * 6 + (p : Int))
    rw [e7] at hx
    exact ⟨_, Or.inl ⟨eS.mp a, rfl⟩, JC_put hR.n0 (by omega) (by omega) hp hx.1 hx.2 h⟩
  · have hd : DFm sp ce (mS s (mh s b)) (p : Int) := Classical.byContradiction fun z => a (eS.mpr z)
    rw [eF] at a0 ⊢
    have hx := FDm_at a0
    refine ⟨_, Or.inr ⟨hd, _, _, Or.inl ⟨by omega, a0, rfl, rfl⟩, rfl⟩, JC_put hR.n0 (by omega) (by omega) hp a0 hx.1 ?_⟩
    obtain ⟨h1, h2, h3, h4, h5, h6, h7, h8, h9⟩ := h
    have hm : ∀ q, 0 ≤ q → mo (updI sp 3 (sp 3 + 1)) (s 0) (2 + q) = mo sp (s 0) (2 + q) := fun q q0 => updI_n (by omega)
    refine ⟨fun r a b c d => ?_, ?_, ?_, fun d c d0 d1 c0 c1 => ?_, fun d d0 d1 => ?_, h6, h7, fun q q0 q1 => ?_, h9⟩
    · unfold adTk; rw [up_r a]; exact h1 r a b c d
    · unfold adTk; rw [up_s, updI_n (by decide), updI_n (by decide)]; exact h2
    · unfold adTk; rw [up_s, updI_s, updI_s, h3]
    · rw [show mb (updI sp 3 (sp 3 + 1)) d c = mb sp d c from updI_n (by omega)]; exact h4 d c d0 d1 c0 c1
    · show Vp 3 w d = _
      rw [h5 d d0 d1, sm_congr (fun q q0 q1 => by rw [← hm q q0])]
    · show Vp 7 w _ = _
      rw [h8 q q0 q1, hm q q0]
  · have hd : DFm sp ce (mS s (mh s b)) (p : Int) := Classical.byContradiction fun z => a (eS.mpr z)
    rw [eF, e5] at an
    have hn : ¬ (sp 5 = 1 ∧ 0 ≤ FDm sp ce (p : Int)) := fun z => by rcases an with y | y <;> omega
    have hnl : ¬ mf sp r = 1 := fun z => absurd ru ((JC_live hW.1 hJ h r0 r1).mpr z)
    have hll : ∀ c, 0 ≤ c → c < r → mf sp c = 1 := fun c c0 c1 => (JC_live hW.1 hJ h c0 (by omega)).mp (rl c c0 c1)
    refine ⟨_, Or.inr ⟨hd, _, _, Or.inr ⟨hn, r0, r1, hnl, hll, rfl⟩, rfl⟩, JC_put hR.n0 (by omega) (by omega) hp r0 r1 ?_⟩
    have e9 : Vp 9 w = V 9 w := h.1 9 (by decide) (by decide) (by decide) (by decide)
    obtain ⟨h1, h2, h3, h4, h5, h6, h7, h8, h9⟩ := h
    have hm : ∀ q, 0 ≤ q → q < 6 → mo (mkM sp ce r (p : Int)) (s 0) (2 + q) = mo sp (s 0) (2 + q) := fun q q0 q1 => mkM_o r0 (by omega) (by omega)
    refine ⟨fun r' a b c d => ?_, ?_, ?_, fun d c d0 d1 c0 c1 => ?_, fun d d0 d1 => ?_, h6, h7, fun q q0 q1 => ?_, h9⟩
    · unfold adMk; rw [up_r a, up_r b]; exact h1 r' a b c d
    · have e2 : mkM sp ce r (p : Int) 2 = sp 2 + 1 := by unfold mkM; rw [updI_s]
      unfold adMk; rw [up_s, updI_s, e2, h2]
    · unfold adMk; rw [up_s, updI_n (by decide), mkM_o r0 (by omega) (by omega)]; exact h3
    · have e2 : adMk Vp w (p : Int) r 2 w = cpI (Vp 9 w) (Vp 2 w) ((p : Int) * 8) (r * 8) 8 := by
        unfold adMk; rw [up_r (by decide), up_s]
      rw [e2]
      by_cases e : d = r
      · subst e
        rw [mb_mk_s d0 c0 c1]
        unfold cpI
        rw [if_pos (by omega), e9, hD _ (by omega) (by omega)]
        congr 1; omega
      · rw [mb_mk_n r0 d0 e c0 c1, ← h4 d c d0 d1 c0 c1]
        unfold cpI
        rw [if_neg (by omega)]
    · show Vp 3 w d = _
      rw [h5 d d0 d1, sm_congr (fun q q0 q1 => by rw [← hm q q0 (by omega)])]
    · show Vp 7 w _ = _
      rw [h8 q q0 q1, hm q q0 (by omega)]
theorem JC_c {V : Vt} {w : Nat} {s ce : Int → Int} {b : Int} (hR : RW V w s) (hW : WB s b) (hD : ∀ c, 0 ≤ c → c < 48 → V 9 w c = ce c) : ∀ (p : Nat) (Vp : Vt), p ≤ 6 → adC w (mS s (mh s b)) V p Vp → ∃ sp, wrC ce (mS s (mh s b)) (s 0) (wr0 s b) p sp ∧ JC V w s p sp Vp
  | 0, Vp, _, hc => by
    rw [show Vp = V from hc]
    have hz := hW.1.z
    have fe : ∀ j, j < 10 ∨ 138 ≤ j → wr0 s b j = s j := fun j hj => wr0_e (by have := hW.2.1; omega) (by have := hW.2.1; omega)
    refine ⟨wr0 s b, rfl, fun _ _ _ _ _ => rfl, ?_, ?_, fun d c d0 d1 c0 c1 => ?_, fun d d0 d1 => ?_, hR.uo, fun _ _ => rfl, fun q q0 q1 => absurd q1 (by omega), hR.L⟩
    · rw [fe 2 (by omega)]; exact hR.c2
    · rw [fe 3 (by omega)]; exact hR.c3
    · rw [show mb (wr0 s b) d c = mb s d c from fe _ (by omega)]; exact hR.bc d c d0 d1 c0 c1
    · rw [sm_0 (n := ((0 : Nat) : Int)) (by omega), hR.us d d0 d1]; omega
  | p + 1, Vp, hp, ⟨Vq, hc, ha⟩ => by
    obtain ⟨sq, hq, hJ⟩ := JC_c hR hW hD p Vq (by omega) hc
    obtain ⟨s', hr, hJ'⟩ := JC_s hR hW hD (JW_c hW ce p sq (by omega) hq) hJ (by omega) ha
    exact ⟨s', ⟨sq, hq, hr⟩, hJ'⟩
/-- a write of the class is a write of the reference -/
theorem adO_sim {V V' : Vt} {w : Nat} {s ce : Int → Int} {b r : Int} (hR : RW V w s) (hb : ISb s b) (hD : ∀ c, 0 ≤ c → c < 48 → V 9 w c = ce c) (h : adO V w b (mS s (mh s b)) r V') : ∃ s', trS s ce b r s' ∧ (0 ≤ r → RW V' w s') := by
  have hM := hR.m
  have hz := hM.z
  obtain ⟨b0, b1, hh⟩ := hb
  rcases h with ⟨rfl, h⟩ | ⟨h16, rfl, V6, hc, rfl⟩
  · refine ⟨s, Or.inl ⟨?_, rfl, rfl⟩, fun z => absurd z (by omega)⟩
    rcases h with h | ⟨p, Vp, hp, hc, hn, ha, hu⟩
    · rw [hR.n0] at h
      exact fun z => absurd z.1 (by omega)
    · intro hfit
      have hW : WB s b := ⟨hM, hfit.1, b0, by omega, hh⟩
      obtain ⟨sp, hq, hJ⟩ := JC_c hR hW hD p Vp (by omega) hc
      have hJW := JW_c hW ce p sp (by omega) hq
      obtain ⟨-, eS, eF, e5⟩ := JC_see hR hW hD hJW hJ hp
      rw [eF, e5] at ha
      exact notFIT hW hp hq (Classical.byContradiction fun z => hn (eS.mpr z)) (fun z => by rcases ha with y | y <;> omega) (fun d d0 d1 => (JC_live hM hJW hJ d0 d1).mp (hu d d0 d1)) hfit
  · rw [hR.n0] at h16
    have hW : WB s b := ⟨hM, h16, b0, by omega, hh⟩
    have hf := hW.fr
    obtain ⟨s6, hq, hJ⟩ := JC_c hR hW hD 6 V6 (by omega) hc
    refine ⟨wr9 s6 b (s 1), Or.inr ⟨FIT_of hW hq, hR.n1, s6, hq, rfl⟩, fun _ => ?_⟩
    obtain ⟨h0, h1, h4, h5, hb', hd, hk, hn0, hn1, hnp, hff, hm⟩ := wr_out hW hq
    have hpw := wr_pw hW hq
    have h2 : wr9 s6 b (s 1) 2 = s6 2 := wr9_e (by omega) (by omega) (by omega)
    have h3 : wr9 s6 b (s 1) 3 = s6 3 := wr9_e (by omega) (by omega) (by omega)
    have hMV := MV_wr hW hq
    obtain ⟨j1, j2, j3, j4, j5, j6, j7, j8, j9⟩ := hJ
    have e4 : V6 4 w = V 4 w := j1 4 (by decide) (by decide) (by decide) (by decide)
    have e5 : V6 5 w = V 5 w := j1 5 (by decide) (by decide) (by decide) (by decide)
    have e6 : V6 6 w = V 6 w := j1 6 (by decide) (by decide) (by decide) (by decide)
    have e8 : V6 8 w = V 8 w := j1 8 (by decide) (by decide) (by decide) (by decide)
    have e0 : V6 0 w = V 0 w := j1 0 (by decide) (by decide) (by decide) (by decide)
    have hE : ∀ r', r' ≠ 4 → r' ≠ 5 → r' ≠ 6 → r' ≠ 8 → adEnd V6 w b (mS s (mh s b)) r' w = V6 r' w := fun r' a1 a2 a3 a4 => by
      unfold adEnd; rw [up_r a4, up_r a1, up_r a3, up_r a2]
    have E4 : adEnd V6 w b (mS s (mh s b)) 4 w = updI (updI (V 4 w) 3 (s 0 + 1)) 4 (s 1 + 1) := by
      unfold adEnd; rw [up_r (by decide), up_s, e4, hR.n0, hR.n1]
    have E5 : adEnd V6 w b (mS s (mh s b)) 5 w = updI (V 5 w) (s 0) (s 1) := by
      unfold adEnd; rw [up_r (by decide), up_r (by decide), up_r (by decide), up_s, e4, e5, hR.n0, hR.n1]
    have E6 : adEnd V6 w b (mS s (mh s b)) 6 w = updI (V 6 w) (s 0) (mh s b) := by
      unfold adEnd; rw [up_r (by decide), up_r (by decide), up_s, e4, e5, e6, hR.n0, (hR.st _ hf.1 hf.2.1).1, hf.2.2]
    have E8 : adEnd V6 w b (mS s (mh s b)) 8 w = updI (V 8 w) b (s 1) := by
      unfold adEnd; rw [up_s, e4, e8, hR.n1]
    have E0 := hE 0 (by decide) (by decide) (by decide) (by decide)
    have E1 := hE 1 (by decide) (by decide) (by decide) (by decide)
    have E2 := hE 2 (by decide) (by decide) (by decide) (by decide)
    have E3 := hE 3 (by decide) (by decide) (by decide) (by decide)
    have E7 := hE 7 (by decide) (by decide) (by decide) (by decide)
    have c6 : (((6 : Nat) : Int)) = 6 := rfl
    rw [c6] at j5 j7 j8
    generalize wr9 s6 b (s 1) = t at *
    generalize adEnd V6 w b (mS s (mh s b)) = V' at *
    refine ⟨hMV, ?_, ?_, ?_, ?_, ?_, ?_, fun d d0 d1 => ?_, fun k k0 k1 => ?_, fun k q k0 k1 q0 q1 => ?_, fun d c d0 d1 c0 c1 => ?_, fun d d0 d1 => ?_, fun j hj => ?_, fun j => ?_⟩
    · rw [E4, updI_n (by decide), updI_s, h0]
    · rw [E4, updI_s, h1]
    · rw [E1, j2, h2]
    · rw [E1, j3, h3]
    · rw [E0, e0, h4]; exact hR.c4
    · rw [E0, e0, h5]; exact hR.c5
    · rw [E8]
      by_cases e : d = b
      · rw [e, updI_s, hb']
      · rw [updI_n e, hd d d0 d1 e]; exact hR.hd d d0 d1
    · rw [E5, E6]
      by_cases e : k = s 0
      · rw [e, updI_s, updI_s, hn0, hn1]; exact ⟨rfl, rfl⟩
      · rw [updI_n e, updI_n e, hk k 0 k0 (by omega) e (by omega) (by omega), hk k 1 k0 (by omega) e (by omega) (by omega)]
        exact hR.st k k0 (by omega)
    · rw [E7]
      by_cases e : k = s 0
      · rw [e, j8 q q0 q1, hnp q q0]
      · rw [j7 _ (by omega), hk k (2 + q) k0 (by omega) e (by omega) (by omega)]
        exact hR.pl k q k0 (by omega) q0 q1
    · rw [E2, hm d c d0 c0]; exact j4 d c d0 d1 c0 c1
    · rw [E3, hpw d]; exact j5 d d0 d1
    · rw [E3]; exact j6 j hj
    · rw [E7]; exact j9 j
