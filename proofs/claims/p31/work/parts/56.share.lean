/-! ===== sharing of the class is the reference's ===== -/
theorem sm_app {a : Int} {f : Int → Int} (a0 : 0 ≤ a) : ∀ m : Nat, sm (a + m) f = sm a f + sm (m : Int) (fun j => f (a + j))
  | 0 => by
    rw [sm_0 (n := ((0 : Nat) : Int)) (by omega), show a + ((0 : Nat) : Int) = a by omega]; omega
  | m + 1 => by
    rw [show a + ((m + 1 : Nat) : Int) = a + m + 1 by omega, sm_s (by omega), sm_app a0 m, show ((m + 1 : Nat) : Int) = (m : Int) + 1 from rfl, sm_s (by omega)]
    omega
theorem sm_flatN {f : Int → Int} : ∀ m : Nat, sm ((m : Int) * 6) f = sm (m : Int) (fun k => sm 6 (fun p => f (k * 6 + p)))
  | 0 => by rw [sm_0 (by omega), sm_0 (by omega)]
  | m + 1 => by
    rw [show ((m + 1 : Nat) : Int) * 6 = (m : Int) * 6 + ((6 : Nat) : Int) by omega, sm_app (by omega), sm_flatN m, show ((m + 1 : Nat) : Int) = (m : Int) + 1 from rfl, sm_s (by omega)]
    rfl
theorem sm_flat {n : Int} {f : Int → Int} (hn : 0 ≤ n) : sm (n * 6) f = sm n (fun k => sm 6 (fun p => f (k * 6 + p))) := by
  obtain ⟨m, rfl⟩ := Int.eq_ofNat_of_zero_le hn
  exact sm_flatN m
theorem sm_gone2 {n : Int} {f g : Int → Int} (h : ∀ j, 0 ≤ j → j < n → 0 ≤ g j ∧ (0 < g j → 0 < f j)) : sm n (fun j => b2i (0 < f j)) - sm n (fun j => b2i (0 < g j)) = sm n (fun j => b2i (0 < f j ∧ g j = 0)) := by
  have e : sm n (fun j => b2i (0 < f j)) = sm n (fun j => b2i (0 < g j) + b2i (0 < f j ∧ g j = 0)) := sm_congr (fun j j0 j1 => by
    have z := h j j0 j1
    by_cases a : 0 < g j
    · rw [b2i_t (z.2 a), b2i_t a, b2i_f (by omega)]; rfl
    · by_cases b : 0 < f j
      · rw [b2i_t b, b2i_f a, b2i_t (by omega)]; rfl
      · rw [b2i_f b, b2i_f a, b2i_f (by omega)]; rfl)
  rw [e, sm_add]; omega
theorem RW.pat {V : Vt} {w : Nat} {s : Int → Int} (hR : RW V w s) {j : Int} (j0 : 0 ≤ j) (j1 : j < s 0 * 6) : V 7 w j = mo s (j / 6) (2 + j % 6) ∧ mf s (V 7 w j) = 1 := by
  have e : V 7 w j = mo s (j / 6) (2 + j % 6) := by
    have := hR.pl (j / 6) (j % 6) (by omega) (by omega) (by omega) (by omega)
    rw [← this]; congr 1; omega
  exact ⟨e, by rw [e]; exact hR.m.u _ _ (by omega) (by omega) (by omega) (by omega)⟩
theorem RW.usf {V : Vt} {w : Nat} {s : Int → Int} (hR : RW V w s) {d : Int} (d0 : 0 ≤ d) (d1 : d < 40) : V 3 w d = sm (s 0 * 6) (fun j => b2i (V 7 w j = d)) := by
  rw [hR.us d d0 d1, sm_flat (by have := hR.m.z; omega)]
  exact (sm_congr (fun k k0 k1 => hR.pl6 k0 k1 d)).symm
def SC (V : Vt) (w : Nat) (s : Int → Int) (i : Int) (Vi : Vt) : Prop :=
  (∀ r, r ≠ 3 → r ≠ 7 → Vi r w = V r w) ∧ (∀ j, Vi 7 w j = if 0 ≤ j ∧ j < i then llM s (V 7 w j) else V 7 w j) ∧
  (∀ d, 0 ≤ d → d < 40 → Vi 3 w d = sm (s 0 * 6) (fun j => b2i (Vi 7 w j = d))) ∧ (∀ j, ¬ (0 ≤ j ∧ j < 40) → Vi 3 w j = 0)
theorem SC_f {V Vi : Vt} {w : Nat} {s : Int → Int} {i : Int} (hR : RW V w s) (h : SC V w s i Vi) (i0 : 0 ≤ i) (i1 : i < s 0 * 6) : Vi 7 w i = V 7 w i ∧ shF Vi w (V 7 w i) = llM s (V 7 w i) := by
  obtain ⟨h1, h2, h3, h4⟩ := h
  have e7 : Vi 7 w i = V 7 w i := by rw [h2 i, if_neg (by omega)]
  have hp := hR.pat i0 i1
  have hl := hR.L i
  have hM := hR.m
  have hb := ll_at hM hl.1 hl.2 hp.2
  refine ⟨e7, ?_⟩
  generalize hbb : V 7 w i = b at *
  have hlive : ∀ d, 0 ≤ d → d < 40 → (Vi 3 w d ≠ 0 ↔ ∃ j, 0 ≤ j ∧ j < s 0 * 6 ∧ Vi 7 w j = d) := fun d d0 d1 => by
    rw [h3 d d0 d1]
    have n1 := sm_b2i_pos (n := s 0 * 6) (p := fun j => Vi 7 w j = d)
    have n2 := sm_nn (n := s 0 * 6) (f := fun j => b2i (Vi 7 w j = d)) (fun j _ _ => (b2i_b _).1)
    rw [← n1]; omega
  have hlm : ∀ d, 0 ≤ d → d < 40 → Vi 3 w d ≠ 0 → mf s d = 1 := fun d d0 d1 g => by
    obtain ⟨j, j0, j1, e⟩ := (hlive d d0 d1).mp g
    have hj := hR.pat j0 j1
    have hjl := hR.L j
    rw [h2 j] at e
    by_cases q : 0 ≤ j ∧ j < i
    · rw [if_pos q] at e
      rw [← e]; exact (ll_at hM hjl.1 hjl.2 hj.2).2.2.1
    · rw [if_neg q] at e
      rw [← e]; exact hj.2
  have h8 : ∀ a, 0 ≤ a → a < 40 → (eq8 (Vi 2 w) (Vi 2 w) (a * 8) (b * 8) ↔ ∀ c, 0 ≤ c → c < 8 → mb s a c = mb s b c) := fun a a0 a1 => by
    rw [h1 2 (by decide) (by decide)]
    constructor
    · intro g c c0 c1
      rw [← hR.bc a c a0 a1 c0 c1, ← hR.bc b c hl.1 hl.2 c0 c1]; exact g c c0 c1
    · intro g c c0 c1
      rw [hR.bc a c a0 a1 c0 c1, hR.bc b c hl.1 hl.2 c0 c1]; exact g c c0 c1
  have key : fnd 40 (fun a => Vi 3 w a ≠ 0 ∧ eq8 (Vi 2 w) (Vi 2 w) (a * 8) (b * 8)) = llM s b := by
    refine fnd_y hb.1 (by omega) ⟨?_, (h8 _ hb.1 (by omega)).mpr hb.2.2.2.1⟩ (fun o o0 o1 z => ?_)
    · refine (hlive _ hb.1 (by omega)).mpr ?_
      have hm := (hM.p hb.1 (by omega)).mp hb.2.2.1
      rw [← hR.us _ hb.1 (by omega), hR.usf hb.1 (by omega)] at hm
      obtain ⟨j, j0, j1, e⟩ := sm_b2i_pos.mp hm
      refine ⟨j, j0, j1, ?_⟩
      rw [h2 j]
      by_cases q : 0 ≤ j ∧ j < i
      · rw [if_pos q, e]; exact ll_ll hM hl.1 hl.2 hp.2
      · rw [if_neg q]; exact e
    · exact hb.2.2.2.2 o o0 o1 ⟨hlm o o0 (by omega) z.1, (h8 o o0 (by omega)).mp z.2⟩
  exact key
theorem SC_s {V Vi V' : Vt} {w : Nat} {s : Int → Int} {i : Nat} (hR : RW V w s) (h : SC V w s (i : Int) Vi) (i1 : (i : Int) < s 0 * 6) (g : shR w Vi i V') : SC V w s ((i : Int) + 1) V' := by
  obtain ⟨e7, eF⟩ := SC_f hR h (by omega) i1
  have hp := hR.pat (j := (i : Int)) (by omega) i1
  have hl := hR.L (i : Int)
  have hb := ll_at hR.m hl.1 hl.2 hp.2
  obtain ⟨h1, h2, h3, h4⟩ := h
  unfold shR at g
  rw [e7, eF] at g
  generalize hbb : V 7 w (i : Int) = b at *
  have hpl : ∀ j, (if j = (i : Int) then llM s b else Vi 7 w j) = if 0 ≤ j ∧ j < (i : Int) + 1 then llM s (V 7 w j) else V 7 w j := fun j => by
    by_cases q : j = (i : Int)
    · rw [if_pos q, if_pos (by omega), q, hbb]
    · rw [if_neg q, h2 j]
      by_cases q2 : 0 ≤ j ∧ j < (i : Int)
      · rw [if_pos q2, if_pos (by omega)]
      · rw [if_neg q2, if_neg (by omega)]
  rcases g with ⟨g0, g1, rfl⟩ | ⟨g0, rfl⟩
  · refine ⟨fun r r3 r7 => ?_, fun j => ?_, fun d d0 d1 => ?_, fun j hj => ?_⟩
    · rw [up_r r7, up_r r3]; exact h1 r r3 r7
    · rw [up_s, ← hpl j]; rfl
    · rw [up_r (by decide), up_s, up_s, sm_upd (i := (i : Int)) (f := fun j => b2i (Vi 7 w j = d)) (fun j _ _ jn => by rw [updI_n jn]) (by omega) i1, ← h3 d d0 d1, updI_s, e7]
      by_cases a : d = llM s b
      · rw [← a, updI_s, updI_n (by omega), b2i_t rfl, b2i_f (by omega)]; omega
      · rw [updI_n a]
        by_cases c : d = b
        · rw [c, updI_s, b2i_f (by omega), b2i_t rfl]; omega
        · rw [updI_n c, b2i_f (by omega), b2i_f (by omega)]; omega
    · rw [up_r (by decide), up_s, updI_n (by omega), updI_n (by omega)]; exact h4 j hj
  · refine ⟨h1, fun j => ?_, h3, h4⟩
    rw [← hpl j]
    by_cases q : j = (i : Int)
    · rw [if_pos q, q, e7]; omega
    · rw [if_neg q]
theorem SC_c {V : Vt} {w : Nat} {s : Int → Int} (hR : RW V w s) : ∀ (i : Nat) (Vi : Vt), (i : Int) ≤ s 0 * 6 → shC w V i Vi → SC V w s (i : Int) Vi
  | 0, Vi, _, h => by
    rw [show Vi = V from h]
    exact ⟨fun _ _ _ => rfl, fun j => by rw [if_neg (by omega)], fun d d0 d1 => hR.usf d0 d1, hR.uo⟩
  | i + 1, Vi, hi, ⟨Vp, h, g⟩ => SC_s hR (SC_c hR i Vp (by omega) h) (by omega) g
theorem shareQ_sim {V V' : Vt} {w : Nat} {s : Int → Int} {r : Int} (hR : RW V w s) (h : shareQ V w r V') : ∃ s', qSh s r s' ∧ (0 ≤ r → RW V' w s') := by
  obtain ⟨h, rfl⟩ := h
  have hM := hR.m
  have hz := hM.z
  rw [hR.n0] at h
  have hS := SC_c hR _ V' (by omega) h
  rw [show (((s 0 * 6).toNat : Nat) : Int) = s 0 * 6 by omega] at hS
  obtain ⟨h1, h2, h3, h4⟩ := hS
  have e0 : shX s 0 = s 0 := shX_o hM (by omega)
  have hf : ∀ d, 0 ≤ d → mf (shX s) d = mf s d := fun d d0 => shX_o hM (by omega)
  have P7 : ∀ k p, 0 ≤ k → k < s 0 → 0 ≤ p → p < 6 → V' 7 w (k * 6 + p) = mo (shX s) k (2 + p) := fun k p k0 k1 p0 p1 => by
    rw [h2, if_pos (by omega), hR.pl k p k0 k1 p0 p1, shX_pl k0 k1 p0 p1]
  have P3 : ∀ d, 0 ≤ d → d < 40 → V' 3 w d = pwM (shX s) d := fun d d0 d1 => by
    rw [h3 d d0 d1, sm_flat (by omega)]
    unfold pwM
    rw [e0]
    exact sm_congr (fun k k0 k1 => sm_congr (fun p p0 p1 => by rw [P7 k p k0 k1 p0 p1]))
  refine ⟨_, ⟨?_, rfl⟩, fun _ => ?_⟩
  · rw [sm_gone2 (fun j j0 j1 => ⟨by rw [P3 j j0 j1]; exact pwM_nn, fun z => by
      rw [P3 j j0 j1] at z
      obtain ⟨k, p, k0, k1, p0, p1, e⟩ := pwM_pos.mp z
      rw [e0] at k1
      rw [shX_pl k0 k1 p0 p1] at e
      have y := hM.l k p k0 (by omega) p0 p1
      have x := ll_at hM y.1 y.2 (hM.u k p k0 k1 p0 p1)
      rw [e] at x
      rw [hR.us j j0 j1]; exact (hM.p j0 j1).mp x.2.2.1⟩)]
    refine sm_congr (fun j j0 j1 => b2i_iff ?_)
    rw [P3 j j0 j1, hR.us j j0 j1, hf j j0, hM.p j0 j1]
  · have lo : ∀ j, j < 10 → swS (shX s) 40 j = s j := fun j a => by rw [sw_lo (by omega)]; exact shX_o hM (by omega)
    refine ⟨MV_sw (shX_MVp hM), ?_, ?_, ?_, ?_, ?_, ?_, fun b a c => ?_, fun k a c => ?_, fun k p a c p0 p1 => ?_, fun b c b0 b1 c0 c1 => ?_, fun b b0 b1 => ?_, h4, fun j => ?_⟩
    · rw [h1 4 (by decide) (by decide), lo 0 (by omega)]; exact hR.n0
    · rw [h1 4 (by decide) (by decide), lo 1 (by omega)]; exact hR.n1
    · rw [h1 1 (by decide) (by decide), lo 2 (by omega)]; exact hR.c2
    · rw [h1 1 (by decide) (by decide), lo 3 (by omega)]; exact hR.c3
    · rw [h1 0 (by decide) (by decide), lo 4 (by omega)]; exact hR.c4
    · rw [h1 0 (by decide) (by decide), lo 5 (by omega)]; exact hR.c5
    · rw [h1 8 (by decide) (by decide), show mh (swS (shX s) 40) b = mh s b from lo _ (by omega)]; exact hR.hd b a c
    · rw [lo 0 (by omega)] at c
      rw [h1 5 (by decide) (by decide), h1 6 (by decide) (by decide), sw_mo a (by omega) (by omega), sw_mo a (by omega) (by omega), shX_01 hM a (by omega) (by omega), shX_01 hM a (by omega) (by omega)]
      exact hR.st k a c
    · rw [lo 0 (by omega)] at c
      rw [P7 k p a c p0 p1, sw_mo a (by omega) (by omega)]
    · rw [h1 2 (by decide) (by decide), sw_mb c0 c1, show mb (shX s) b c = mb s b c from shX_o hM (by omega)]; exact hR.bc b c b0 b1 c0 c1
    · rw [P3 b b0 b1, sw_pw (by omega)]
    · rw [h2 j]
      by_cases q : 0 ≤ j ∧ j < s 0 * 6
      · rw [if_pos q]
        have hp := hR.pat q.1 q.2
        have hl := hR.L j
        have := ll_at hM hl.1 hl.2 hp.2
        omega
      · rw [if_neg q]; exact hR.L j
