/-! ===== branches ===== -/
theorem LN_h {V V' : Vt} {s : Int → Int} {b x : Int} (h : LN V s) (b0 : 0 ≤ b) (b1 : b < 4) (e17 : V' 17 0 = updI (V 17 0) b x) (e : ∀ r, 16 ≤ r → r ≤ 22 → r ≠ 17 → V' r 0 = V r 0) : LN V' (updI s (6 + b) x) := by
  have w : ∀ j, j < 6 ∨ 10 ≤ j → updI s (6 + b) x j = s j := fun j hj => updI_n (by omega)
  refine ⟨fun j j0 j1 => ?_, fun d d0 d1 => ?_, fun k k0 k1 => ?_, fun k p k0 k1 p0 p1 => ?_, fun d d0 d1 => ?_, by rw [e 20 (by omega) (by omega) (by omega)]; exact h.vr, by rw [e 21 (by omega) (by omega) (by omega)]; exact h.va, by rw [e 22 (by omega) (by omega) (by omega)]; exact h.vb⟩
  · rw [e 16 (by omega) (by omega) (by omega), h.g j j0 j1]
    exact (w j (by omega)).symm
  · rw [e17]
    show updI (V 17 0) b x d = updI s (6 + b) x (6 + d)
    by_cases q : d = b
    · subst q; rw [updI_s, updI_s]
    · rw [updI_n q, updI_n (by omega)]; exact h.h d d0 d1
  · rw [w 0 (by omega)] at k1
    rw [e 18 (by omega) (by omega) (by omega), e 19 (by omega) (by omega) (by omega)]
    have := h.n k k0 k1
    exact ⟨this.1.trans (w _ (by omega)).symm, this.2.trans (w _ (by omega)).symm⟩
  · rw [w 0 (by omega)] at k1
    rw [e 20 (by omega) (by omega) (by omega), h.r k p k0 k1 p0 p1]
    exact (w _ (by omega)).symm
  · rw [e 21 (by omega) (by omega) (by omega), e 22 (by omega) (by omega) (by omega)]
    have q1 : mf (updI s (6 + b) x) d = mf s d := w _ (by omega)
    have q2 : ∀ c, 0 ≤ c → mb (updI s (6 + b) x) d c = mb s d c := fun c c0 => w _ (by omega)
    rw [q1]
    rcases h.b d d0 d1 with ⟨a, b, c⟩ | z
    · exact Or.inl ⟨a, b, fun c' c0 c1 => by rw [q2 c' c0]; exact c c' c0 c1⟩
    · exact Or.inr z
theorem HBr_h {s : Int → Int} {b x : Int} (b0 : 0 ≤ b) (b1 : b < 4) (hx : 0 ≤ x) : HBr (updI s (6 + b) x) := by
  refine ⟨b, b0, b1, ?_⟩
  show 0 ≤ updI s (6 + b) x (6 + b)
  rw [updI_s]; exact hx
theorem upd_1 {s : Int → Int} {b x : Int} (b0 : 0 ≤ b) : updI s (6 + b) x 1 = s 1 := updI_n (by omega)
/-- the first branch that is free, sought from above -/
def LpF (h : Int → Int) (i fr : Int) : Prop := (fr = -1 ∧ ∀ d, i < d → d < 4 → 0 ≤ h d) ∨ (i < fr ∧ fr < 4 ∧ h fr < 0 ∧ ∀ d, i < d → d < fr → 0 ≤ h d)
theorem LpF_0 {h : Int → Int} : LpF h 3 (-1) := Or.inl ⟨rfl, fun d a b => by omega⟩
theorem LpF_n {h : Int → Int} {i fr : Int} (i1 : i ≤ 3) (_g : LpF h i fr) (hi : h i < 0) : LpF h (i + (-1)) i := Or.inr ⟨by omega, by omega, hi, fun d a b => by omega⟩
theorem LpF_s {h : Int → Int} {i fr : Int} (g : LpF h i fr) (hi : 0 ≤ h i) : LpF h (i + (-1)) fr := by
  have k : ∀ d, i + (-1) < d → ¬ i < d → 0 ≤ h d := fun d a b => by rw [show d = i by omega]; exact hi
  rcases g with ⟨a, b⟩ | ⟨a, b, c, e⟩
  · exact Or.inl ⟨a, fun d x y => by
      by_cases q : i < d
      · exact b d q y
      · exact k d x q⟩
  · exact Or.inr ⟨by omega, b, c, fun d x y => by
      by_cases q : i < d
      · exact e d q y
      · exact k d x q⟩
theorem LpF_R {h : Int → Int} {i fr : Int} (g : LpF h i fr) (i0 : -1 ≤ i) : -1 ≤ fr ∧ fr < 4 := by
  rcases g with ⟨a, b⟩ | ⟨a, b, c, e⟩ <;> omega
theorem LpF_e {V : Vt} {s : Int → Int} {fr : Int} (hN : LN V s) (g : LpF (V 17 0) (-1) fr) : fr = FBm s := by
  unfold FBm
  rcases g with ⟨a, b⟩ | ⟨a, b, c, e⟩
  · rw [a]
    exact (fnd_n (fun d d0 d1 z => z (by rw [← hN.h d d0 d1]; exact b d (by omega) d1))).symm
  · refine (fnd_y (by omega) b ?_ (fun d d0 d1 z => z ?_)).symm
    · rw [← hN.h fr (by omega) b]; omega
    · rw [← hN.h d d0 (by omega)]; exact e d (by omega) d1
theorem lm_t {m i T : Int} {p : Int → Prop} (h : m + sm (i + 1) (fun d => b2i (p d)) = T) (i0 : 0 ≤ i) (hp : p i) : m + 1 + sm (i + (-1) + 1) (fun d => b2i (p d)) = T := by
  rw [sm_s i0, b2i_t hp] at h
  rw [show i + (-1) + 1 = i by omega]; omega
theorem lm_f {m i T : Int} {p : Int → Prop} (h : m + sm (i + 1) (fun d => b2i (p d)) = T) (i0 : 0 ≤ i) (hp : ¬ p i) : m + 0 + sm (i + (-1) + 1) (fun d => b2i (p d)) = T := by
  rw [sm_s i0, b2i_f hp] at h
  rw [show i + (-1) + 1 = i by omega]; omega
theorem LN.hds {V : Vt} {s : Int → Int} (hN : LN V s) : sm 4 (fun d => b2i (0 ≤ V 17 0 d)) = sm 4 (fun d => b2i (0 ≤ mh s d)) := sm_congr (fun d d0 d1 => by rw [hN.h d d0 d1])
theorem t_br {s s' : Int → Int} {x r : Int} (hx : 0 ≤ mS s x) (q : qBr s x r s') : (FBm s = -1 ∧ r = -1000003 ∧ s' = s) ∨ (0 ≤ FBm s ∧ r = FBm s ∧ s' = updI s (6 + FBm s) x) := by
  rcases q with ⟨z, _⟩ | ⟨_, a, b, c⟩ | ⟨_, a, b, c⟩
  · exact absurd (fO_nn.mpr hx) z
  · exact Or.inl ⟨a, b, c⟩
  · exact Or.inr ⟨a, b, by rw [c, b]⟩
theorem t_le0 {s s' : Int → Int} {b r : Int} (h : ¬ ISb s b) (q : qLe s b r s') : r = -1000001 ∧ s' = s := by
  rcases q with ⟨_, a, c⟩ | ⟨z, _⟩ | ⟨z, _⟩
  · exact ⟨a, c⟩
  · exact absurd z h
  · exact absurd z h
theorem t_ba0 {s s' : Int → Int} {b r : Int} (h : ¬ ISb s b) (q : qBa s b r s') : r = -1000001 ∧ s' = s := by
  rcases q with ⟨_, a, c⟩ | ⟨z, _⟩ | ⟨z, _⟩
  · exact ⟨a, c⟩
  · exact absurd z h
  · exact absurd z h
theorem t_me0 {s s' : Int → Int} {b x r : Int} (h : ¬ ISb s b) (q : qMe s b x r s') : r = -1000001 ∧ s' = s := by
  rcases q with ⟨_, a, c⟩ | ⟨z, _⟩
  · exact ⟨a, c⟩
  · exact absurd z.1 h
/-- leaving a branch that is there -/
theorem t_le {s s' : Int → Int} {b r m : Int} (hb : ISb s b) (hm : m = sm 4 (fun d => b2i (0 ≤ mh s d))) (q : qLe s b r s') : (m ≤ 1 ∧ r = -1000002 ∧ s' = s) ∨ (1 < m ∧ r = m - 1 ∧ s' = updI s (6 + b) (-1) ∧ HBr s') := by
  have b0 := hb.1
  have b1 := hb.2.1
  have m1 : 0 < m := by
    rw [hm]; exact sm_b2i_pos.mpr ⟨b, b0, by omega, hb.2.2⟩
  rcases q with ⟨z, _⟩ | ⟨_, a, c, d⟩ | ⟨_, a, c, d⟩
  · exact absurd hb z
  · exact Or.inl ⟨by omega, c, d⟩
  · have e : sm 4 (fun d => b2i (0 ≤ mh s' d)) = m - 1 := by
      have := sm_upd (n := 4) (i := b) (f := fun d => b2i (0 ≤ mh s d)) (g := fun d => b2i (0 ≤ mh s' d)) (fun j j0 j1 hj => by
        show b2i (0 ≤ mh s' j) = b2i (0 ≤ mh s j)
        have : mh s' j = mh s j := by
          rw [c]; exact updI_n (by omega)
        rw [this]) b0 (by omega)
      rw [this, ← hm]
      have e2 : mh s' b = -1 := by rw [c]; exact updI_s
      show m + (b2i (0 ≤ mh s' b) - b2i (0 ≤ mh s b)) = m - 1
      rw [b2i_f (by omega), b2i_t hb.2.2]; omega
    refine Or.inr ⟨by omega, by omega, c, ?_⟩
    have : 0 < sm 4 (fun d => b2i (0 ≤ mh s' d)) := by omega
    obtain ⟨d, d0, d1, h⟩ := sm_b2i_pos.mp this
    exact ⟨d, d0, d1, h⟩
/-- stepping back -/
theorem t_ba {s s' : Int → Int} {b r : Int} (hM : MV s) (hb : ISb s b) (q : qBa s b r s') : (mh s b = 0 ∧ r = -1000002 ∧ s' = s) ∨ (¬ mh s b = 0 ∧ r = mo s (mS s (mh s b)) 1 ∧ 0 ≤ r ∧ s' = updI s (6 + b) r) := by
  rcases q with ⟨z, _⟩ | ⟨_, a, c, d⟩ | ⟨_, a, c, d⟩
  · exact absurd hb z
  · exact Or.inl ⟨a, c, d⟩
  · have hsl := hb.sl hM
    have hp := hM.i.par hsl.1 (by have := hb.2.2; omega)
    have := (hM.i.nn hp.1).1
    exact Or.inr ⟨a, c, by omega, d⟩
theorem LN_hid {V : Vt} {s : Int → Int} {b : Int} (h : LN V (updI s (6 + b) (mh s b))) : LN V s := by
  have e : updI s (6 + b) (mh s b) = s := updI_id
  rw [e] at h; exact h
