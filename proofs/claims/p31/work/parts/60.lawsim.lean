/-! ===== the law's changes, beside the numbers ===== -/
/-- sweeping -/
theorem LN.sweep {V V' : Vt} {u : Int → Int} (h : LN V u) (hu : u 0 ≤ 16) (e : ∀ r, 16 ≤ r → r ≤ 21 → V' r 0 = V r 0) (e22 : V' 22 0 = swB (V 16 0 0) (V 20 0) (V 22 0) 40) : LN V' (swS u 40) := by
  have e16 := e 16 (by omega) (by omega)
  refine ⟨fun j j0 j1 => ?_, fun b b0 b1 => ?_, fun k k0 k1 => ?_, fun k p k0 k1 p0 p1 => ?_, fun d d0 d1 => ?_, ?_, ?_, ?_⟩
  · rw [e16, sw_lo (by omega)]; exact h.g j j0 j1
  · rw [e 17 (by omega) (by omega)]
    show _ = swS u 40 (6 + b)
    rw [sw_lo (by omega)]; exact h.h b b0 b1
  · rw [sw_lo (by omega)] at k1
    rw [e 18 (by omega) (by omega), e 19 (by omega) (by omega), sw_mo k0 (by omega) (by omega), sw_mo k0 (by omega) (by omega)]
    exact h.n k k0 k1
  · rw [sw_lo (by omega)] at k1
    rw [e 20 (by omega) (by omega), sw_mo k0 (by omega) (by omega)]
    exact h.r k p k0 k1 p0 p1
  · rw [e 21 (by omega) (by omega), e22]
    have hs := h.us d
    rcases h.b d d0 d1 with ⟨a, b, c⟩ | ⟨a, b⟩
    · by_cases z : pwM u d = 0
      · refine Or.inr ⟨sw_f0 d0 d1 ⟨a, z⟩, ?_⟩
        rw [show swB (V 16 0 0) (V 20 0) (V 22 0) 40 d = -1 from if_pos ⟨d0, d1, b, by rw [hs]; exact z⟩]
        omega
      · have eb : swB (V 16 0 0) (V 20 0) (V 22 0) 40 d = V 22 0 d := if_neg (fun y => z (by rw [← hs]; exact y.2.2.2))
        refine Or.inl ⟨by rw [sw_f1 (fun y => z y.2)]; exact a, by rw [eb]; exact b, fun c' c0 c1 => ?_⟩
        rw [eb, sw_mb c0 c1]; exact c c' c0 c1
    · have eb : swB (V 16 0 0) (V 20 0) (V 22 0) 40 d = V 22 0 d := if_neg (fun y => by omega)
      refine Or.inr ⟨by rw [sw_f1 (fun y => by omega)]; exact a, by rw [eb]; exact b⟩
  · rw [e 20 (by omega) (by omega)]; exact h.vr
  · rw [e 21 (by omega) (by omega)]; exact h.va
  · rw [e22]; exact swB_b h.vb
theorem LN.swept {V : Vt} {u : Int → Int} (h : LN V u) : sm 40 (fun j => b2i (0 ≤ V 22 0 j ∧ lU (V 16 0 0) (V 20 0) 0 j = 0)) = sm 40 (fun b => b2i (mf u b = 1 ∧ pwM u b = 0)) :=
  sm_congr (fun j j0 j1 => b2i_iff (by rw [h.us j, h.b.iff j0 j1]))
/-- a row moved down by one, from a place on -/
def shI (f : Int → Int) (k i : Int) : Int → Int := fun j => if k ≤ j ∧ j < i then f (j + 1) else f j
theorem shI_0 {f : Int → Int} {k : Int} : shI f k k = f := by
  funext j; exact if_neg (by omega)
theorem shI_s {f : Int → Int} {k i : Int} (h : k ≤ i) : updI (shI f k i) i (shI f k i (i + 1)) = shI f k (i + 1) := by
  have e : shI f k i (i + 1) = f (i + 1) := if_neg (by omega)
  rw [e]
  funext j
  unfold updI shI
  by_cases hj : j = i
  · rw [if_pos hj, if_pos (by omega), hj]
  · rw [if_neg hj]
    by_cases h2 : k ≤ j ∧ j < i
    · rw [if_pos h2, if_pos (by omega)]
    · rw [if_neg h2, if_neg (by omega)]
theorem shI_sg {f : Int → Int} {k n j : Int} (h1 : j < n - 1) : shI f k (n - 1) j = f (sgK k j) := by
  unfold shI
  rcases Int.lt_or_le j k with q | q
  · rw [if_neg (by omega), sgK_lt q]
  · rw [if_pos (by omega), sgK_ge q]
theorem shI_R {f : Int → Int} {k i : Int} (h : ∀ j, inR (f j)) : ∀ j, inR (shI f k i j) := fun j => by
  unfold shI; split <;> exact h _
theorem shI_vr {f : Int → Int} {k i : Int} (h : LVr f) : LVr (shI f k i) := fun j => by
  unfold shI; split <;> exact h _
/-- a number put over in a row -/
def rpI (f : Int → Int) (x y i : Int) : Int → Int := fun j => if 0 ≤ j ∧ j < i ∧ f j = x then y else f j
theorem rpI_0 {f : Int → Int} {x y : Int} : rpI f x y 0 = f := by
  funext j; exact if_neg (by omega)
theorem rpI_k {f : Int → Int} {x y i : Int} : rpI f x y i i = f i := if_neg (by omega)
theorem rpI_t {f : Int → Int} {x y i : Int} (h : 0 ≤ i) (e : f i = x) : updI (rpI f x y i) i y = rpI f x y (i + 1) := by
  funext j
  unfold updI rpI
  by_cases hj : j = i
  · subst hj; rw [if_pos rfl, if_pos ⟨h, by omega, e⟩]
  · rw [if_neg hj]
    by_cases h2 : 0 ≤ j ∧ j < i ∧ f j = x
    · rw [if_pos h2, if_pos ⟨h2.1, by omega, h2.2.2⟩]
    · rw [if_neg h2, if_neg (fun z => h2 ⟨z.1, by omega, z.2.2⟩)]
theorem rpI_f {f : Int → Int} {x y i : Int} (e : ¬ f i = x) : updI (rpI f x y i) i (rpI f x y i i) = rpI f x y (i + 1) := by
  rw [rpI_k]
  funext j
  unfold updI rpI
  by_cases hj : j = i
  · subst hj; rw [if_pos rfl, if_neg (fun z => e z.2.2)]
  · rw [if_neg hj]
    by_cases h2 : 0 ≤ j ∧ j < i ∧ f j = x
    · rw [if_pos h2, if_pos ⟨h2.1, by omega, h2.2.2⟩]
    · rw [if_neg h2, if_neg (fun z => h2 ⟨z.1, by omega, z.2.2⟩)]
/-- forgetting, before the sweep -/
theorem LN.fg {V V' : Vt} {s : Int → Int} {x : Int} (h : LN V s) (hf : FG s x) (e16 : V' 16 0 = updI (V 16 0) 0 (V 16 0 0 - 1)) (e17 : V' 17 0 = V 17 0) (e18 : V' 18 0 = shI (V 18 0) (mS s x) (V 16 0 0 - 1))
    (e19 : V' 19 0 = rpI (shI (V 19 0) (mS s x) (V 16 0 0 - 1)) x (V 19 0 (mS s x)) (V 16 0 0 - 1)) (e20 : V' 20 0 = shI (V 20 0) (mS s x) (V 16 0 0 - 1)) (e21 : V' 21 0 = V 21 0) (e22 : V' 22 0 = V 22 0) : LN V' (fgX s x) := by
  have ha := hf.a
  have hz := hf.1.z
  have g0 := h.g0
  have u0 : fgX s x 0 = s 0 - 1 := fgM_0 (by omega)
  refine ⟨fun j j0 j1 => ?_, fun b b0 b1 => ?_, fun k k0 k1 => ?_, fun k p k0 k1 p0 p1 => ?_, fun d d0 d1 => ?_, ?_, ?_, ?_⟩
  · rw [e16]
    by_cases hj : j = 0
    · subst hj; rw [updI_s, u0, g0]
    · rw [updI_n hj, h.g j j0 j1]
      exact (fg_lo (by omega) hj (by omega)).symm
  · rw [e17, h.h b b0 b1]
    show s (6 + b) = fgM s x (mo s (mS s x) 1) (mS s x) (s 0) (6 + b)
    exact (fg_lo (by omega) (by omega) (by omega)).symm
  · rw [u0] at k1
    have hb := sgK_bd (n := s 0) (k := k) k0 k1 hf.2.1
    have hn := h.n _ hb.1 hb.2.1
    have hna := (h.n _ hf.2.1 ha.2.1).2
    refine ⟨?_, ?_⟩
    · rw [e18, g0, shI_sg k1, hn.1, fgX_num hf k0 k1]
    · have e : shI (V 19 0) (mS s x) (V 16 0 0 - 1) k = mo s (sgK (mS s x) k) 1 := by rw [g0, shI_sg k1]; exact hn.2
      rw [e19, fgX_mo hf k0 k1 (by omega) (by omega)]
      by_cases z : mo s (sgK (mS s x) k) 1 = x
      · rw [if_pos ⟨rfl, z⟩, ← hna]
        exact if_pos ⟨k0, by omega, by rw [e]; exact z⟩
      · rw [if_neg (fun y => z y.2)]
        rw [show rpI (shI (V 19 0) (mS s x) (V 16 0 0 - 1)) x (V 19 0 (mS s x)) (V 16 0 0 - 1) k = shI (V 19 0) (mS s x) (V 16 0 0 - 1) k from if_neg (fun y => z (by rw [← e]; exact y.2.2))]
        exact e
  · rw [u0] at k1
    have hb := sgK_bd (n := s 0) (k := k) k0 k1 hf.2.1
    rw [e20, g0, shI_sg k1, h.r _ p hb.1 hb.2.1 p0 p1, fgX_pl hf k0 k1 p0 p1]
  · rw [e21, e22]
    have q1 : mf (fgX s x) d = mf s d := fg_hi (by omega) (by omega)
    have q2 : ∀ c, 0 ≤ c → mb (fgX s x) d c = mb s d c := fun c c0 => fg_hi (by omega) (by omega)
    rw [q1]
    rcases h.b d d0 d1 with ⟨a, b, c⟩ | z
    · exact Or.inl ⟨a, b, fun c' c0 c1 => by rw [q2 c' c0]; exact c c' c0 c1⟩
    · exact Or.inr z
  · rw [e20]; exact shI_vr h.vr
  · rw [e21]; exact h.va
  · rw [e22]; exact h.vb
/-- sharing, before the sweep -/
theorem LN.shx {V V' : Vt} {s : Int → Int} (h : LN V s) (hM : MV s) (e : ∀ r, 16 ≤ r → r ≤ 22 → r ≠ 20 → V' r 0 = V r 0) (hr : LVr (V' 20 0)) (hd : ∀ k p, 0 ≤ k → k < V 16 0 0 → 0 ≤ p → p < 6 → rD (V' 20 0 k) p = lkF (V 21 0) (V 22 0) (V 21 0 (rD (V 20 0 k) p)) (V 22 0 (rD (V 20 0 k) p)) (-1)) : LN V' (shX s) := by
  have hz := hM.z
  have g0 := h.g0
  have u0 : shX s 0 = s 0 := shX_o hM (by omega)
  refine ⟨fun j j0 j1 => ?_, fun b b0 b1 => ?_, fun k k0 k1 => ?_, fun k p k0 k1 p0 p1 => ?_, fun d d0 d1 => ?_, hr, ?_, ?_⟩
  · rw [e 16 (by omega) (by omega) (by omega), h.g j j0 j1]
    exact (shX_o hM (by omega)).symm
  · rw [e 17 (by omega) (by omega) (by omega), h.h b b0 b1]
    exact (shX_o hM (by omega)).symm
  · rw [u0] at k1
    rw [e 18 (by omega) (by omega) (by omega), e 19 (by omega) (by omega) (by omega), shX_01 hM k0 (by omega) (by omega), shX_01 hM k0 (by omega) (by omega)]
    exact h.n k k0 k1
  · rw [u0] at k1
    have hl := hM.l k p k0 (by omega) p0 p1
    rw [hd k p k0 (by omega) p0 p1, shX_pl k0 k1 p0 p1, h.r k p k0 k1 p0 p1]
    exact h.b.ll h.va h.vb hl.1 hl.2 (hM.u k p k0 k1 p0 p1)
  · rw [e 21 (by omega) (by omega) (by omega), e 22 (by omega) (by omega) (by omega)]
    have q1 : mf (shX s) d = mf s d := shX_o hM (by omega)
    have q2 : ∀ c, 0 ≤ c → mb (shX s) d c = mb s d c := fun c c0 => shX_o hM (by omega)
    rw [q1]
    rcases h.b d d0 d1 with ⟨a, b, c⟩ | z
    · exact Or.inl ⟨a, b, fun c' c0 c1 => by rw [q2 c' c0]; exact c c' c0 c1⟩
    · exact Or.inr z
  · rw [e 21 (by omega) (by omega) (by omega)]; exact h.va
  · rw [e 22 (by omega) (by omega) (by omega)]; exact h.vb
theorem lkF_self {A B : Int → Int} {o : Int} (o0 : 0 ≤ o) (o1 : o < 40) (h : 0 ≤ B o) : 0 ≤ lkF A B (A o) (B o) (-1) := by
  rcases fnd_c 40 (fun k => 0 ≤ B k ∧ A k = A o ∧ B k = B o ∧ k ≠ -1) with ⟨_, z⟩ | z
  · exact absurd ⟨h, rfl, rfl, by omega⟩ (z o o0 o1)
  · exact z.1
/-! a new state's row, place by place -/
def SW (A0 B0 s ce : Int → Int) (b p made taken kept row : Int) (A B : Int → Int) : Prop :=
  LVa A ∧ LVb B ∧ (0 ≤ made ∧ made ≤ p) ∧ (0 ≤ taken ∧ taken ≤ p) ∧ (0 ≤ kept ∧ kept ≤ p) ∧ (0 ≤ row ∧ row < 2 ^ (6 * p).toNat) ∧ (∀ q, 0 ≤ q → q < p → rD row q < 40) ∧
  ((kept = p ∧ ∃ sp, wrC ce (mS s (mh s b)) (s 0) (wr0 s b) p.toNat sp ∧ LB A B sp ∧ made = sp 2 - s 2 ∧ taken = sp 3 - s 3 ∧ ∀ q, 0 ≤ q → q < p → rD row q = mo sp (s 0) (2 + q)) ∨
   (kept < p ∧ ¬ FITm s ce b ∧ ∀ d, 0 ≤ d → d < 40 → mf s d = 1 → A d = A0 d ∧ B d = B0 d))
/-- what a step of it starts from -/
def SX (A0 B0 s ce : Int → Int) (b : Int) : Prop := WB s b ∧ LB A0 B0 s ∧ LVa A0 ∧ LVb B0 ∧ ∀ i, 0 ≤ i → i < 48 → 0 ≤ ce i ∧ ce i < 1024
theorem wr0_lo {s : Int → Int} {b j : Int} (hz : 0 ≤ s 0) (h : j < 10 ∨ 138 ≤ j) (h1 : s 0 ≤ 15) : wr0 s b j = s j := wr0_e (by omega) (by omega)
theorem SW_0 {A0 B0 s ce : Int → Int} {b : Int} (X : SX A0 B0 s ce b) : SW A0 B0 s ce b 0 0 0 0 0 A0 B0 := by
  have hz := X.1.1.z
  have h16 := X.1.2.1
  have w : ∀ j, j < 10 ∨ 138 ≤ j → wr0 s b j = s j := fun j h => wr0_lo (by omega) h (by omega)
  refine ⟨X.2.2.1, X.2.2.2.1, by omega, by omega, by omega, ⟨by omega, by rw [p6_0]; omega⟩, fun q q0 q1 => by omega, Or.inl ⟨rfl, wr0 s b, rfl, ?_, ?_, ?_, fun q q0 q1 => by omega⟩⟩
  · intro d d0 d1
    have q1 : mf (wr0 s b) d = mf s d := w _ (by omega)
    have q2 : ∀ c, 0 ≤ c → mb (wr0 s b) d c = mb s d c := fun c c0 => w _ (by omega)
    rw [q1]
    rcases X.2.1 d d0 d1 with ⟨a, b, c⟩ | z
    · exact Or.inl ⟨a, b, fun c' c0 c1 => by rw [q2 c' c0]; exact c c' c0 c1⟩
    · exact Or.inr z
  · rw [w 2 (by omega)]; omega
  · rw [w 3 (by omega)]; omega
theorem SW_ce {A0 B0 s ce : Int → Int} {b p : Int} (X : SX A0 B0 s ce b) (p0 : 0 ≤ p) (p1 : p < 6) : ∀ i, 8 * p ≤ i → i < 8 * p + 8 → 0 ≤ ce i ∧ ce i < 1024 := fun i h0 h1 => X.2.2.2.2 i (by omega) (by omega)
/-- what the numbers say at a place: whether its cells are as they were, which block is like it -/
theorem SW_now {A0 B0 s ce A B sp : Int → Int} {b p : Int} (X : SX A0 B0 s ce b) (p0 : 0 ≤ p) (p1 : p < 6) (hA : LVa A) (hB : LVb B) (hc : wrC ce (mS s (mh s b)) (s 0) (wr0 s b) p.toNat sp) (hL : LB A B sp) :
    (DFm sp ce (mS s (mh s b)) p ↔ ¬ (A (mo s (mS s (mh s b)) (2 + p)) = pkL ce (8 * p) 6 ∧ B (mo s (mS s (mh s b)) (2 + p)) = pkL ce (8 * p + 6) 2)) ∧ FDm sp ce p = lkF A B (pkL ce (8 * p) 6) (pkL ce (8 * p + 6) 2) (-1) ∧ sp 5 = s 5 ∧ mo sp (mS s (mh s b)) (2 + p) = mo s (mS s (mh s b)) (2 + p) := by
  have hW := X.1
  have hz := hW.1.z
  have h16 := hW.2.1
  have hf := hW.fr
  have J := JW_c hW ce p.toNat sp (by omega) hc
  have hl := hW.hl p p0 p1
  have em : mo sp (mS s (mh s b)) (2 + p) = mo s (mS s (mh s b)) (2 + p) := by
    rw [J.mo_fr hf.1 hf.2.1 (by omega) (by omega)]; exact hW.hs p p0 p1
  have e5 : sp 5 = s 5 := by rw [J.1 5 (by omega)]; exact wr0_lo (by omega) (by omega) (by omega)
  have hmf : mf sp (mo s (mS s (mh s b)) (2 + p)) = 1 := (J.2.2.1 _ hl.1 hl.2.1 hl.2.2).1
  have hce := SW_ce X p0 p1
  refine ⟨?_, (hL.fd hA hB hce).symm, e5, em⟩
  rw [hL.eq hA hB hl.1 hl.2.1 hmf hce]
  constructor
  · rintro ⟨c, c0, c1, hne⟩ z
    apply hne
    have e : mc sp (mS s (mh s b)) c = mb sp (mo s (mS s (mh s b)) (2 + p)) (c - 8 * p) := by
      unfold mc
      rw [show c / 8 = p by omega, em, show c % 8 = c - 8 * p by omega]
    rw [e, z (c - 8 * p) (by omega) (by omega)]
    congr 1; omega
  · intro z
    refine Classical.byContradiction fun y => z (fun c c0 c1 => ?_)
    refine Classical.byContradiction fun w => y ⟨8 * p + c, by omega, by omega, fun q => w ?_⟩
    have e : mc sp (mS s (mh s b)) (8 * p + c) = mb sp (mo s (mS s (mh s b)) (2 + p)) c := by
      unfold mc
      rw [show (8 * p + c) / 8 = p by omega, em, show (8 * p + c) % 8 = c by omega]
    rw [← e, ← q]
theorem rD_step {x a p : Int} {f : Int → Int} (hx : 0 ≤ x) (hx1 : x < 2 ^ (6 * p).toNat) (p0 : 0 ≤ p) (p1 : p < 6) (a0 : 0 ≤ a) (a1 : a < 40) (h : ∀ q, 0 ≤ q → q < p → rD x q = f q) (ha : f p = a) : ∀ q, 0 ≤ q → q < p + 1 → rD (x + a * 2 ^ (6 * p).toNat) q = f q := by
  intro q q0 q1
  rcases Int.lt_or_le q p with z | z
  · rw [rD_bel hx p0 p1 q0 z]; exact h q q0 z
  · have e : q = p := by omega
    subst e
    rw [rD_new hx hx1 p0 p1 a0 (by omega)]; exact ha.symm
theorem rD_step40 {x a p : Int} (hx : 0 ≤ x) (hx1 : x < 2 ^ (6 * p).toNat) (p0 : 0 ≤ p) (p1 : p < 6) (a0 : 0 ≤ a) (a1 : a < 40) (h : ∀ q, 0 ≤ q → q < p → rD x q < 40) : ∀ q, 0 ≤ q → q < p + 1 → rD (x + a * 2 ^ (6 * p).toNat) q < 40 := by
  intro q q0 q1
  rcases Int.lt_or_le q p with z | z
  · rw [rD_bel hx p0 p1 q0 z]; exact h q q0 z
  · have e : q = p := by omega
    subst e
    rw [rD_new hx hx1 p0 p1 a0 (by omega)]; exact a1
theorem LB_put {A B s : Int → Int} {k p x : Int} (h : LB A B s) (k0 : 0 ≤ k) (k1 : k ≤ 15) (p0 : 0 ≤ p) (p1 : p < 6) : LB A B (updI s (10 + 8 * k + 2 + p) x) := fun d d0 d1 => by
  rw [mf_put k0 k1 p0 p1 d0]
  rcases h d d0 d1 with ⟨a, b, c⟩ | z
  · exact Or.inl ⟨a, b, fun c' c0 c1 => by rw [mb_put k0 k1 p0 p1 d0 c0]; exact c c' c0 c1⟩
  · exact Or.inr z
theorem LB_3 {A B s : Int → Int} {x : Int} (h : LB A B s) : LB A B (updI s 3 x) := fun d d0 d1 => by
  have e : ∀ j, 138 ≤ j → updI s 3 x j = s j := fun j hj => updI_n (by omega)
  unfold mf mb
  rw [e _ (by omega)]
  rcases h d d0 d1 with ⟨a, b, c⟩ | z
  · exact Or.inl ⟨a, b, fun c' c0 c1 => by rw [e _ (by omega)]; exact c c' c0 c1⟩
  · exact Or.inr z
/-- the cells are as they were -/
theorem SW_A {A0 B0 s ce A B : Int → Int} {b p made taken kept row o : Int} (X : SX A0 B0 s ce b) (p0 : 0 ≤ p) (p1 : p < 6) (h : SW A0 B0 s ce b p made taken kept row A B) (ho : o = mo s (mS s (mh s b)) (2 + p)) (h1 : A o = pkL ce (8 * p) 6) (h2 : B o = pkL ce (8 * p + 6) 2) : SW A0 B0 s ce b (p + 1) made taken (kept + 1) (row + o * 2 ^ (6 * p).toNat) A B := by
  subst ho
  have hz := X.1.1.z
  have h16 := X.1.2.1
  have hl := X.1.hl p p0 p1
  obtain ⟨hA, hB, hm, ht, hk, hr, hq, g⟩ := h
  have r1 := rD_row hr.1 hr.2 p0 p1 hl.1 (by omega)
  refine ⟨hA, hB, by omega, by omega, by omega, ⟨r1.1, r1.2.1⟩, rD_step40 hr.1 hr.2 p0 p1 hl.1 hl.2.1 hq, ?_⟩
  rcases g with ⟨ek, sp, hc, hL, em, et, hd⟩ | ⟨ek, hf, hg⟩
  · have N := SW_now X p0 p1 hA hB hc hL
    refine Or.inl ⟨by omega, updI sp (10 + 8 * s 0 + 2 + p) (mo sp (mS s (mh s b)) (2 + p)), ?_, LB_put hL (by omega) (by omega) p0 p1, ?_, ?_, ?_⟩
    · rw [show (p + 1).toNat = p.toNat + 1 by omega]
      refine ⟨sp, hc, Or.inl ⟨?_, ?_⟩⟩
      · rw [Int.toNat_of_nonneg p0]; exact fun z => N.1.mp z ⟨h1, h2⟩
      · rw [Int.toNat_of_nonneg p0]
    · rw [updI_n (by omega)]; exact em
    · rw [updI_n (by omega)]; exact et
    · refine rD_step hr.1 hr.2 p0 p1 hl.1 hl.2.1 (fun q q0 q1 => ?_) (by rw [mo_put_s]; exact N.2.2.2)
      rw [mo_put_n (by omega)]; exact hd q q0 q1
  · exact Or.inr ⟨by omega, hf, hg⟩
/-- a block that is like it is taken -/
theorem SW_B {A0 B0 s ce A B : Int → Int} {b p made taken kept row o x : Int} (X : SX A0 B0 s ce b) (p0 : 0 ≤ p) (p1 : p < 6) (h : SW A0 B0 s ce b p made taken kept row A B) (ho : o = mo s (mS s (mh s b)) (2 + p)) (h1 : ¬ (A o = pkL ce (8 * p) 6 ∧ B o = pkL ce (8 * p + 6) 2)) (h5 : s 5 = 1) (hx : x = lkF A B (pkL ce (8 * p) 6) (pkL ce (8 * p + 6) 2) (-1)) (x0 : 0 ≤ x) : SW A0 B0 s ce b (p + 1) made (taken + 1) (kept + 1) (row + x * 2 ^ (6 * p).toNat) A B := by
  subst ho
  have hz := X.1.1.z
  have h16 := X.1.2.1
  have x1 : x < 40 := by have := lkF_bd (A := A) (B := B) (low := pkL ce (8 * p) 6) (high := pkL ce (8 * p + 6) 2) (bt := -1); omega
  obtain ⟨hA, hB, hm, ht, hk, hr, hq, g⟩ := h
  have r1 := rD_row hr.1 hr.2 p0 p1 x0 (by omega)
  refine ⟨hA, hB, by omega, by omega, by omega, ⟨r1.1, r1.2.1⟩, rD_step40 hr.1 hr.2 p0 p1 x0 x1 hq, ?_⟩
  rcases g with ⟨ek, sp, hc, hL, em, et, hd⟩ | ⟨ek, hf, hg⟩
  · have N := SW_now X p0 p1 hA hB hc hL
    refine Or.inl ⟨by omega, updI (updI sp 3 (sp 3 + 1)) (10 + 8 * s 0 + 2 + p) x, ?_, LB_put (LB_3 hL) (by omega) (by omega) p0 p1, ?_, ?_, ?_⟩
    · rw [show (p + 1).toNat = p.toNat + 1 by omega]
      refine ⟨sp, hc, Or.inr ⟨?_, x, updI sp 3 (sp 3 + 1), Or.inl ⟨by rw [N.2.2.1]; exact h5, ?_, ?_, rfl⟩, ?_⟩⟩
      · rw [Int.toNat_of_nonneg p0]; exact N.1.mpr h1
      · rw [Int.toNat_of_nonneg p0, N.2.1, ← hx]; exact x0
      · rw [Int.toNat_of_nonneg p0, N.2.1]; exact hx
      · rw [Int.toNat_of_nonneg p0]
    · rw [updI_n (by omega), updI_n (by omega)]; exact em
    · rw [updI_n (by omega), updI_s]; omega
    · refine rD_step hr.1 hr.2 p0 p1 x0 x1 (fun q q0 q1 => ?_) (by rw [mo_put_s])
      rw [mo_put_n (by omega), hd q q0 q1]
      show sp (10 + 8 * s 0 + (2 + q)) = updI sp 3 (sp 3 + 1) (10 + 8 * s 0 + (2 + q))
      exact (updI_n (by omega)).symm
  · exact Or.inr ⟨by omega, hf, hg⟩
/-- a block is made -/
theorem SW_C {A0 B0 s ce A B : Int → Int} {b p made taken kept row o f : Int} (X : SX A0 B0 s ce b) (p0 : 0 ≤ p) (p1 : p < 6) (h : SW A0 B0 s ce b p made taken kept row A B) (ho : o = mo s (mS s (mh s b)) (2 + p)) (h1 : ¬ (A o = pkL ce (8 * p) 6 ∧ B o = pkL ce (8 * p + 6) 2)) (h5 : ¬ s 5 = 1 ∨ lkF A B (pkL ce (8 * p) 6) (pkL ce (8 * p + 6) 2) (-1) < 0) (f0 : 0 ≤ f) (f1 : f < 40) (hf0 : B f < 0) (hfl : ∀ j, 0 ≤ j → j < f → 0 ≤ B j) : SW A0 B0 s ce b (p + 1) (made + 1) taken (kept + 1) (row + f * 2 ^ (6 * p).toNat) (updI A f (pkL ce (8 * p) 6)) (updI B f (pkL ce (8 * p + 6) 2)) := by
  subst ho
  have hz := X.1.1.z
  have h16 := X.1.2.1
  have hce := SW_ce X p0 p1
  have k6 := pk6_bd (f := ce) (a := 8 * p) (fun i a b => hce i a (by omega))
  have k2 := pk2_bd (f := ce) (a := 8 * p + 6) (fun i a b => hce i (by omega) (by omega))
  obtain ⟨hA, hB, hm, ht, hk, hr, hq, g⟩ := h
  have r1 := rD_row hr.1 hr.2 p0 p1 f0 (by omega)
  refine ⟨fun j => ?_, fun j => ?_, by omega, by omega, by omega, ⟨r1.1, r1.2.1⟩, rD_step40 hr.1 hr.2 p0 p1 f0 f1 hq, ?_⟩
  · unfold updI; split
    · exact k6
    · exact hA j
  · unfold updI; split
    · omega
    · exact hB j
  rcases g with ⟨ek, sp, hc, hL, em, et, hd⟩ | ⟨ek, hf, hg⟩
  · have N := SW_now X p0 p1 hA hB hc hL
    refine Or.inl ⟨by omega, updI (mkM sp ce f p) (10 + 8 * s 0 + 2 + p) f, ?_, LB_put ?_ (by omega) (by omega) p0 p1, ?_, ?_, ?_⟩
    · rw [show (p + 1).toNat = p.toNat + 1 by omega]
      refine ⟨sp, hc, Or.inr ⟨?_, f, mkM sp ce f p, Or.inr ⟨?_, f0, f1, ?_, fun d d0 d1 => (hL.iff d0 (by omega)).mp (hfl d d0 d1), ?_⟩, ?_⟩⟩
      · rw [Int.toNat_of_nonneg p0]; exact N.1.mpr h1
      · rw [Int.toNat_of_nonneg p0, N.2.1, N.2.2.1]
        rintro ⟨z1, z2⟩
        rcases h5 with y | y
        · exact y z1
        · omega
      · intro z
        have := (hL.iff f0 f1).mpr z
        omega
      · rw [Int.toNat_of_nonneg p0]
      · rw [Int.toNat_of_nonneg p0]
    · intro d d0 d1
      by_cases e : d = f
      · subst e
        refine Or.inl ⟨mf_mk_s d0, by rw [updI_s]; omega, fun c c0 c1 => ?_⟩
        rw [updI_s, updI_s, mb_mk_s d0 c0 c1]
        exact cB_pk hce c0 c1
      · rw [mf_mk_n f0 d0 e, updI_n e, updI_n e]
        rcases hL d d0 d1 with ⟨a, b, c⟩ | z
        · exact Or.inl ⟨a, b, fun c' c0 c1 => by rw [mb_mk_n f0 d0 e c0 c1]; exact c c' c0 c1⟩
        · exact Or.inr z
    · rw [updI_n (by omega)]
      have e : mkM sp ce f p 2 = sp 2 + 1 := by unfold mkM; rw [updI_s]
      rw [e]; omega
    · rw [updI_n (by omega), mkM_o f0 (by omega) (by omega)]; exact et
    · refine rD_step hr.1 hr.2 p0 p1 f0 f1 (fun q q0 q1 => ?_) (by rw [mo_put_s])
      rw [mo_put_n (by omega), hd q q0 q1]
      show sp (10 + 8 * s 0 + (2 + q)) = mkM sp ce f p (10 + 8 * s 0 + (2 + q))
      exact (mkM_o f0 (by omega) (by omega)).symm
  · refine Or.inr ⟨by omega, hf, fun d d0 d1 hd => ?_⟩
    have z := hg d d0 d1 hd
    have y := (X.2.1.t d0 d1 hd).1
    rw [updI_n (by intro q; subst q; omega), updI_n (by intro q; subst q; omega)]
    exact z
/-- none can be made -/
theorem SW_D {A0 B0 s ce A B : Int → Int} {b p made taken kept row o : Int} (X : SX A0 B0 s ce b) (p0 : 0 ≤ p) (p1 : p < 6) (h : SW A0 B0 s ce b p made taken kept row A B) (ho : o = mo s (mS s (mh s b)) (2 + p)) (h1 : ¬ (A o = pkL ce (8 * p) 6 ∧ B o = pkL ce (8 * p + 6) 2)) (h5 : ¬ s 5 = 1 ∨ lkF A B (pkL ce (8 * p) 6) (pkL ce (8 * p + 6) 2) (-1) < 0) (hfl : ∀ j, 0 ≤ j → j < 40 → 0 ≤ B j) : SW A0 B0 s ce b (p + 1) made taken (kept + 0) (row + 0 * 2 ^ (6 * p).toNat) A B := by
  subst ho
  obtain ⟨hA, hB, hm, ht, hk, hr, hq, g⟩ := h
  have r1 := rD_row hr.1 hr.2 p0 p1 (a := 0) (by omega) (by omega)
  refine ⟨hA, hB, by omega, by omega, by omega, ⟨r1.1, r1.2.1⟩, rD_step40 hr.1 hr.2 p0 p1 (by omega) (by omega) hq, ?_⟩
  rcases g with ⟨ek, sp, hc, hL, em, et, hd⟩ | ⟨ek, hf, hg⟩
  · have N := SW_now X p0 p1 hA hB hc hL
    have pn : ((p.toNat : Nat) : Int) = p := Int.toNat_of_nonneg p0
    refine Or.inr ⟨by omega, notFIT X.1 (p := p.toNat) (by omega) hc (by rw [pn]; exact N.1.mpr h1) ?_ (fun d d0 d1 => (hL.iff d0 d1).mp (hfl d d0 d1)), fun d d0 d1 hm => ?_⟩
    · rw [pn, N.2.1, N.2.2.1]
      rintro ⟨z1, z2⟩
      rcases h5 with y | y
      · exact y z1
      · omega
    · have J := JW_c X.1 ce p.toNat sp (by omega) hc
      have J3 := J.2.2.1 d d0 d1 hm
      have a := hL.t d0 d1 J3.1
      have b' := X.2.1.t d0 d1 hm
      exact (cB_inj (hA d).1 (hA d).2 (X.2.2.1 d).1 (X.2.2.1 d).2 a.1 (hB d).2 b'.1 (X.2.2.2.1 d).2).mpr (fun c c0 c1 => by rw [a.2 c c0 c1, b'.2 c c0 c1]; exact J3.2 c c0 c1)
  · exact Or.inr ⟨by omega, hf, hg⟩
/-- all six are there -/
theorem SW_yes {V V' : Vt} {s ce A B : Int → Int} {b made taken row : Int} (h : LN V s) (X : SX (V 21 0) (V 22 0) s ce b) (g : SW (V 21 0) (V 22 0) s ce b 6 made taken 6 row A B)
    (e16 : V' 16 0 = updI (updI (updI (updI (V 16 0) 0 (V 16 0 0 + 1)) 1 (V 16 0 1 + 1)) 2 (V 16 0 2 + made)) 3 (V 16 0 3 + taken)) (e17 : V' 17 0 = updI (V 17 0) b (s 1)) (e18 : V' 18 0 = updI (V 18 0) (s 0) (s 1)) (e19 : V' 19 0 = updI (V 19 0) (s 0) (mh s b)) (e20 : V' 20 0 = updI (V 20 0) (s 0) row) (e21 : V' 21 0 = A) (e22 : V' 22 0 = B) : ∃ s', trS s ce b (s 1) s' ∧ LN V' s' := by
  have hW := X.1
  have hz := hW.1.z
  have h16 := hW.2.1
  obtain ⟨hA, hB, hm, ht, hk, hr, hq, g⟩ := g
  rcases g with ⟨-, s6, hc, hL, em, et, hd⟩ | ⟨ek, -⟩
  · have hc : wrC ce (mS s (mh s b)) (s 0) (wr0 s b) 6 s6 := hc
    obtain ⟨o0, o1, o4, o5, ob, oh, om, on, op, oq, of, oc⟩ := wr_out hW hc
    have b0 := hW.2.2.1
    have b1 := hW.2.2.2.1
    refine ⟨wr9 s6 b (s 1), Or.inr ⟨FIT_of hW hc, rfl, s6, hc, rfl⟩, fun j j0 j1 => ?_, fun d d0 d1 => ?_, fun k k0 k1 => ?_, fun k p k0 k1 p0 p1 => ?_, fun d d0 d1 => ?_, fun j => ?_, by rw [e21]; exact hA, by rw [e22]; exact hB⟩
    · rw [e16]
      have hg := h.g j j0 j1
      have h0 := h.g 0 (by omega) (by omega)
      have h1 := h.g 1 (by omega) (by omega)
      have h2 := h.g 2 (by omega) (by omega)
      have h3 := h.g 3 (by omega) (by omega)
      rcases (show j = 0 ∨ j = 1 ∨ j = 2 ∨ j = 3 ∨ j = 4 ∨ j = 5 by omega) with rfl | rfl | rfl | rfl | rfl | rfl
      · rw [updI_n (by omega), updI_n (by omega), updI_n (by omega), updI_s, o0, h0]
      · rw [updI_n (by omega), updI_n (by omega), updI_s, o1, h1]
      · rw [updI_n (by omega), updI_s, wr9_e (by omega) (by omega) (by omega), h2]; omega
      · rw [updI_s, wr9_e (by omega) (by omega) (by omega), h3]; omega
      · rw [updI_n (by omega), updI_n (by omega), updI_n (by omega), updI_n (by omega), o4, hg]
      · rw [updI_n (by omega), updI_n (by omega), updI_n (by omega), updI_n (by omega), o5, hg]
    · rw [e17]
      by_cases e : d = b
      · subst e; rw [updI_s, ob]
      · rw [updI_n e, oh d d0 d1 e]; exact h.h d d0 d1
    · rw [o0] at k1
      rw [e18, e19]
      by_cases e : k = s 0
      · subst e; rw [updI_s, updI_s, on, op]; exact ⟨rfl, rfl⟩
      · rw [updI_n e, updI_n e, om k 0 k0 (by omega) e (by omega) (by omega), om k 1 k0 (by omega) e (by omega) (by omega)]
        exact h.n k k0 (by omega)
    · rw [o0] at k1
      rw [e20]
      by_cases e : k = s 0
      · subst e; rw [updI_s, oq p p0]; exact hd p p0 p1
      · rw [updI_n e, om k (2 + p) k0 (by omega) e (by omega) (by omega)]
        exact h.r k p k0 (by omega) p0 p1
    · rw [e21, e22, of d d0]
      rcases hL d d0 d1 with ⟨a, b, c⟩ | z
      · exact Or.inl ⟨a, b, fun c' c0 c1 => by rw [oc d c' d0 c0]; exact c c' c0 c1⟩
      · exact Or.inr z
    · rw [e20]
      unfold updI
      split
      · rw [p6_6] at hr
        exact ⟨hr, hq⟩
      · exact h.vr j
  · omega
/-- not all are there: what was made is swept -/
theorem SW_no {V V' : Vt} {s ce A B : Int → Int} {b made taken kept row : Int} (h : LN V s) (X : SX (V 21 0) (V 22 0) s ce b) (g : SW (V 21 0) (V 22 0) s ce b 6 made taken kept row A B) (hk : kept < 6)
    (e : ∀ r, 16 ≤ r → r ≤ 20 → V' r 0 = V r 0) (e21 : V' 21 0 = A) (e22 : V' 22 0 = swB (V 16 0 0) (V 20 0) B 40) : trS s ce b (-1000003) s ∧ LN V' s := by
  have hM := X.1.1
  obtain ⟨hA, hB, hm, ht, hk, hr, hq, g⟩ := g
  rcases g with ⟨ek, -⟩ | ⟨ek, hf, hd⟩
  · omega
  · refine ⟨Or.inl ⟨hf, rfl, rfl⟩, fun j j0 j1 => ?_, fun b b0 b1 => ?_, fun k k0 k1 => ?_, fun k p k0 k1 p0 p1 => ?_, fun d d0 d1 => ?_, ?_, ?_, ?_⟩
    · rw [e 16 (by omega) (by omega)]; exact h.g j j0 j1
    · rw [e 17 (by omega) (by omega)]; exact h.h b b0 b1
    · rw [e 18 (by omega) (by omega), e 19 (by omega) (by omega)]; exact h.n k k0 k1
    · rw [e 20 (by omega) (by omega)]; exact h.r k p k0 k1 p0 p1
    · rw [e21, e22]
      have hs := h.us d
      rcases h.b d d0 d1 with ⟨a, b, c⟩ | ⟨a, b⟩
      · have z := hd d d0 d1 a
        have y := hM.w d d0 d1 a
        have eb : swB (V 16 0 0) (V 20 0) B 40 d = B d := if_neg (fun w => by have := w.2.2.2; omega)
        rw [eb, z.1, z.2]
        exact Or.inl ⟨a, b, c⟩
      · refine Or.inr ⟨a, ?_⟩
        have y : pwM s d = 0 := by
          have n := pwM_nn (s := s) (b := d)
          have p := hM.p d0 d1
          rcases Int.lt_or_le 0 (pwM s d) with q | q
          · have := p.mpr q; omega
          · omega
        rcases Int.lt_or_le (B d) 0 with q | q
        · rw [show swB (V 16 0 0) (V 20 0) B 40 d = B d from if_neg (fun w => by omega)]; exact q
        · rw [show swB (V 16 0 0) (V 20 0) B 40 d = -1 from if_pos ⟨d0, d1, q, by rw [hs]; exact y⟩]; omega
    · rw [e 20 (by omega) (by omega)]; exact h.vr
    · rw [e21]; exact hA
    · rw [e22]; exact swB_b hB
/-! the state that two have in common -/
def CMx (s : Int → Int) (one other x y : Int) : Prop := 0 ≤ mS s x ∧ 0 ≤ mS s y ∧ inR x ∧ inR y ∧ ∃ N : Nat, mS s x + mS s y < N ∧ cmS (fun a => mS s (mo s a 1)) N (mS s x) (mS s y) = cmS (fun a => mS s (mo s a 1)) 32 (mS s one) (mS s other)
theorem CMx_0 {s : Int → Int} {one other : Int} (hM : MV s) (h1 : 0 ≤ mS s one) (h2 : 0 ≤ mS s other) (a1 : inR one) (a2 : inR other) : CMx s one other one other := by
  have z1 := mS_in h1
  have z2 := mS_in h2
  have hz := hM.z
  exact ⟨h1, h2, a1, a2, 32, by omega, rfl⟩
theorem mS_lt {s : Int → Int} (h : MI s) {x y : Int} (hx : 0 ≤ mS s x) (hy : 0 ≤ mS s y) (hxy : x < y) : mS s x < mS s y := by
  have a := mS_in hx
  have b := mS_in hy
  rcases Int.lt_or_le (mS s x) (mS s y) with q | q
  · exact q
  · rcases Int.lt_or_le (mS s y) (mS s x) with w | w
    · have := h.2.2.1 _ _ hy w a.1; omega
    · have e : mS s x = mS s y := by omega
      rw [e, b.2] at a; omega
theorem CMx_x {s : Int → Int} {one other x y : Int} (hM : MV s) (h : CMx s one other x y) (hxy : y < x) (hr : inR (mo s (mS s x) 1)) : CMx s one other (mo s (mS s x) 1) y ∧ mS s (mo s (mS s x) 1) < mS s x := by
  obtain ⟨hx, hy, rx, ry, N, hN, e⟩ := h
  have hl := mS_lt hM.i hy hx hxy
  have hp := hM.i.par1 hx (by have := (hM.i.nn hx).2.2; omega)
  obtain ⟨M, rfl⟩ : ∃ M, N = M + 1 := ⟨N - 1, by omega⟩
  refine ⟨⟨hp.1, hy, hr, ry, M, by omega, ?_⟩, hp.2.2⟩
  rw [← e, cmS_g hl]
theorem CMx_y {s : Int → Int} {one other x y : Int} (hM : MV s) (h : CMx s one other x y) (hxy : x < y) (hr : inR (mo s (mS s y) 1)) : CMx s one other x (mo s (mS s y) 1) ∧ mS s (mo s (mS s y) 1) < mS s y := by
  obtain ⟨hx, hy, rx, ry, N, hN, e⟩ := h
  have hl := mS_lt hM.i hx hy hxy
  have hp := hM.i.par1 hy (by have := (hM.i.nn hy).2.2; omega)
  obtain ⟨M, rfl⟩ : ∃ M, N = M + 1 := ⟨N - 1, by omega⟩
  refine ⟨⟨hx, hp.1, rx, hr, M, by omega, ?_⟩, hp.2.2⟩
  rw [← e, cmS_l (by omega) (by omega)]
theorem CMx_cm {s : Int → Int} {one other : Int} (hM : MV s) (h1 : 0 ≤ mS s one) (h2 : 0 ≤ mS s other) : 0 ≤ cmS (fun a => mS s (mo s a 1)) 32 (mS s one) (mS s other) ∧ cmS (fun a => mS s (mo s a 1)) 32 (mS s one) (mS s other) < s 0 ∧ cmM s other 16 one = mo s (cmS (fun a => mS s (mo s a 1)) 32 (mS s one) (mS s other)) 0 := by
  have z1 := mS_in h1
  have z2 := mS_in h2
  have hz := hM.z
  have z := cmX_eq hM.i (f := fun a => mS s (mo s a 1)) (fun _ _ _ => rfl) 32 (mS s one) (mS s other) h1 z1.1 h2 z2.1 (by omega)
  have y := z.2.2 16 (by omega)
  rw [z1.2, z2.2] at y
  exact ⟨z.1, z.2.1, y⟩
theorem CMx_e {s : Int → Int} {one other x y : Int} (hM : MV s) (h1 : 0 ≤ mS s one) (h2 : 0 ≤ mS s other) (h : CMx s one other x y) (hxy : x = y) : x = cmM s other 16 one := by
  subst hxy
  obtain ⟨hx, hy, rx, ry, N, hN, e⟩ := h
  have c := (CMx_cm hM h1 h2).2.2
  rw [c, ← e, cmS_e rfl]
  exact (mS_in hx).2.symm
theorem cm_in {s : Int → Int} {one other : Int} (hM : MV s) (h1 : 0 ≤ mS s one) (h2 : 0 ≤ mS s other) : 0 ≤ mS s (cmM s other 16 one) := by
  have c := CMx_cm hM h1 h2
  rw [c.2.2, hM.i.slot c.1 c.2.1]; exact c.1
/-- the law's merge of a cell is the document's -/
theorem mg_law {was here there : Int} : (here = was → there = mgC was here there) ∧ (¬ here = was → here = mgC was here there) := by
  constructor
  · intro h
    by_cases z : there = was
    · rw [mgC_t (Or.inl z)]; omega
    · rw [mgC_f (by omega)]
  · intro h
    by_cases z : there = was ∨ (¬ there = was ∧ ¬ here = was ∧ ¬ here = there)
    · rw [mgC_t z]
    · rw [mgC_f z]; omega
theorem LN.th {V : Vt} {s : Int → Int} (h : LN V s) (hM : MV s) {k p : Int} (k0 : 0 ≤ k) (k1 : k < s 0) (p0 : 0 ≤ p) (p1 : p < 6) : 0 ≤ V 22 0 (rD (V 20 0 k) p) := by
  have hz := hM.z
  have hl := hM.l k p k0 (by omega) p0 p1
  rw [h.r k p k0 k1 p0 p1]
  exact (h.b.t hl.1 hl.2 (hM.u k p k0 k1 p0 p1)).1
theorem mix_in {f g : Int → Int} {c : Int} (c0 : 0 ≤ c) (c1 : c < 48) : mix f g 48 c = g c := if_pos ⟨c0, c1⟩
/-! packing, cell by cell from the last -/
theorem lo_s {f : Int → Int} {q c low x : Int} (h : low = pkL f (8 * q + c + 1) (5 - c).toNat) (hc : c ≤ 5) (hx : x = f (8 * q + c)) : 1024 * low + x = pkL f (8 * q + (c + (-1)) + 1) (5 - (c + (-1))).toNat := by
  rw [show (5 - (c + (-1))).toNat = (5 - c).toNat + 1 by omega, show 8 * q + (c + (-1)) + 1 = 8 * q + c by omega]
  show _ = 1024 * pkL f (8 * q + c + 1) (5 - c).toNat + f (8 * q + c)
  rw [← h, hx]
theorem lo_k {f : Int → Int} {q c low : Int} (h : low = pkL f (8 * q + c + 1) (5 - c).toNat) (hc : 6 ≤ c) : low = pkL f (8 * q + (c + (-1)) + 1) (5 - (c + (-1))).toNat := by
  rw [h, show (5 - (c + (-1))).toNat = 0 by omega, show (5 - c).toNat = 0 by omega]; rfl
theorem hi_s {f : Int → Int} {q c high x : Int} (h : 5 ≤ c → high = pkL f (8 * q + c + 1) (7 - c).toNat) (hc : 6 ≤ c) (h7 : c ≤ 7) (hx : x = f (8 * q + c)) : 1024 * high + x = pkL f (8 * q + (c + (-1)) + 1) (7 - (c + (-1))).toNat := by
  rw [show (7 - (c + (-1))).toNat = (7 - c).toNat + 1 by omega, show 8 * q + (c + (-1)) + 1 = 8 * q + c by omega]
  show _ = 1024 * pkL f (8 * q + c + 1) (7 - c).toNat + f (8 * q + c)
  rw [← h (by omega), hx]
theorem hi_e {f : Int → Int} {q c high x : Int} (h : 5 ≤ c → high = pkL f (8 * q + c + 1) (7 - c).toNat) (hc : 6 ≤ c) (h7 : c ≤ 7) (hx : x = f (8 * q + c)) (he : c + (-1) ≤ 5) : 1024 * high + x = pkL f (8 * q + 6) 2 := by
  have e : c = 6 := by omega
  subst e
  have := hi_s h hc h7 hx
  rw [this, show 8 * q + (6 + (-1)) + 1 = 8 * q + 6 by omega]; rfl
theorem SW_A0 {A0 B0 s ce A B : Int → Int} {b p made taken kept row o : Int} (X : SX A0 B0 s ce b) (p0 : 0 ≤ p) (p1 : p < 6) (h : SW A0 B0 s ce b p made taken kept row A B) (ho : o = mo s (mS s (mh s b)) (2 + p)) (h1 : A o = pkL ce (8 * p) 6) (h2 : B o = pkL ce (8 * p + 6) 2) : SW A0 B0 s ce b (p + 1) made (taken + 0) (kept + 1) (row + o * 2 ^ (6 * p).toNat) A B := by
  rw [Int.add_zero taken]; exact SW_A X p0 p1 h ho h1 h2
theorem SW_C0 {A0 B0 s ce A B : Int → Int} {b p made taken kept row o f : Int} (X : SX A0 B0 s ce b) (p0 : 0 ≤ p) (p1 : p < 6) (h : SW A0 B0 s ce b p made taken kept row A B) (ho : o = mo s (mS s (mh s b)) (2 + p)) (h1 : ¬ (A o = pkL ce (8 * p) 6 ∧ B o = pkL ce (8 * p + 6) 2)) (h5 : ¬ s 5 = 1 ∨ lkF A B (pkL ce (8 * p) 6) (pkL ce (8 * p + 6) 2) (-1) < 0) (f0 : 0 ≤ f) (f1 : f < 40) (hf0 : B f < 0) (hfl : ∀ j, 0 ≤ j → j < f → 0 ≤ B j) : SW A0 B0 s ce b (p + 1) (made + 1) (taken + 0) (kept + 1) (row + f * 2 ^ (6 * p).toNat) (updI A f (pkL ce (8 * p) 6)) (updI B f (pkL ce (8 * p + 6) 2)) := by
  rw [Int.add_zero taken]; exact SW_C X p0 p1 h ho h1 h5 f0 f1 hf0 hfl
theorem SW_D0 {A0 B0 s ce A B : Int → Int} {b p made taken kept row o : Int} (X : SX A0 B0 s ce b) (p0 : 0 ≤ p) (p1 : p < 6) (h : SW A0 B0 s ce b p made taken kept row A B) (ho : o = mo s (mS s (mh s b)) (2 + p)) (h1 : ¬ (A o = pkL ce (8 * p) 6 ∧ B o = pkL ce (8 * p + 6) 2)) (h5 : ¬ s 5 = 1 ∨ lkF A B (pkL ce (8 * p) 6) (pkL ce (8 * p + 6) 2) (-1) < 0) (hfl : ∀ j, 0 ≤ j → j < 40 → 0 ≤ B j) : SW A0 B0 s ce b (p + 1) made (taken + 0) (kept + 0) (row + 0 * 2 ^ (6 * p).toNat) A B := by
  rw [Int.add_zero taken]; exact SW_D X p0 p1 h ho h1 h5 hfl
theorem lor_R {x a p : Int} (hx : 0 ≤ x) (hx1 : x < 2 ^ (6 * p).toNat) (p0 : 0 ≤ p) (p1 : p < 6) (a0 : 0 ≤ a) (a1 : a < 64) : x + a * 2 ^ (6 * p).toNat < 9223372036854775808 := by
  have := rD_row hx hx1 p0 p1 a0 a1
  omega
